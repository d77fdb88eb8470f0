section
-- ===== PART A: goes FIRST, ahead of the names: the tables' words, and 'selects' of the private methods out of them =====
/-- a private method of a class that the tables say can be made, by its rows of tables_1 -/
def lw_okq (q : MethodName × Nat) : Prop := (q.1.cls ≠ "java/lang/invoke/MethodHandle" ∧ q.1.cls ≠ "java/lang/invoke/VarHandle") ∧ Cond.instantiable q.1.cls q.2 ∈ tables_1 ∧ Cond.privateMethod q.1 ∈ tables_1 ∧ Cond.instanceMethod q.1 ∈ tables_1
theorem lw_p0 : lw_okq (⟨"DoubleLedger$Journals", "isLine", "(II)Z"⟩, 7) := ⟨⟨by decide +kernel, by decide +kernel⟩, List.mem_of_getElem? (i := 79) (by decide +kernel), List.mem_of_getElem? (i := 354) (by decide +kernel), List.mem_of_getElem? (i := 355) (by decide +kernel)⟩
theorem lw_p1 : lw_okq (⟨"DoubleLedger$Journals", "sumIn", "(II)J"⟩, 7) := ⟨⟨by decide +kernel, by decide +kernel⟩, List.mem_of_getElem? (i := 79) (by decide +kernel), List.mem_of_getElem? (i := 370) (by decide +kernel), List.mem_of_getElem? (i := 371) (by decide +kernel)⟩
theorem lw_p2 : lw_okq (⟨"DoubleLedger$Book", "canBePosted", "(LDoubleLedger$Slip;)Z"⟩, 9) := ⟨⟨by decide +kernel, by decide +kernel⟩, List.mem_of_getElem? (i := 30) (by decide +kernel), List.mem_of_getElem? (i := 412) (by decide +kernel), List.mem_of_getElem? (i := 413) (by decide +kernel)⟩
theorem lw_p3 : lw_okq (⟨"DoubleLedger$Book", "findUnbalanced", "(LDoubleLedger$Slip;)I"⟩, 9) := ⟨⟨by decide +kernel, by decide +kernel⟩, List.mem_of_getElem? (i := 30) (by decide +kernel), List.mem_of_getElem? (i := 416) (by decide +kernel), List.mem_of_getElem? (i := 417) (by decide +kernel)⟩
theorem lw_p4 : lw_okq (⟨"DoubleLedger$Book", "keepsLimits", "(LDoubleLedger$Slip;)Z"⟩, 9) := ⟨⟨by decide +kernel, by decide +kernel⟩, List.mem_of_getElem? (i := 30) (by decide +kernel), List.mem_of_getElem? (i := 424) (by decide +kernel), List.mem_of_getElem? (i := 425) (by decide +kernel)⟩
theorem lw_p5 : lw_okq (⟨"DoubleLedger$Journals", "sealWith", "(JI)J"⟩, 7) := ⟨⟨by decide +kernel, by decide +kernel⟩, List.mem_of_getElem? (i := 79) (by decide +kernel), List.mem_of_getElem? (i := 510) (by decide +kernel), List.mem_of_getElem? (i := 511) (by decide +kernel)⟩
theorem lw_p6 : lw_okq (⟨"DoubleLedger$Journals", "lineOf", "(IJI)J"⟩, 7) := ⟨⟨by decide +kernel, by decide +kernel⟩, List.mem_of_getElem? (i := 79) (by decide +kernel), List.mem_of_getElem? (i := 619) (by decide +kernel), List.mem_of_getElem? (i := 620) (by decide +kernel)⟩
theorem lw_p7 : lw_okq (⟨"DoubleLedger$Tape", "takePart", "(LDoubleLedger$Chart;LDoubleLedger$Slip;)I"⟩, 5) := ⟨⟨by decide +kernel, by decide +kernel⟩, List.mem_of_getElem? (i := 221) (by decide +kernel), List.mem_of_getElem? (i := 678) (by decide +kernel), List.mem_of_getElem? (i := 679) (by decide +kernel)⟩
theorem lw_p8 : lw_okq (⟨"DoubleLedger$Tape", "takeFigures", "(I)I"⟩, 5) := ⟨⟨by decide +kernel, by decide +kernel⟩, List.mem_of_getElem? (i := 221) (by decide +kernel), List.mem_of_getElem? (i := 682) (by decide +kernel), List.mem_of_getElem? (i := 683) (by decide +kernel)⟩
theorem lw_p9 : lw_okq (⟨"DoubleLedger$Tape", "here", "()I"⟩, 5) := ⟨⟨by decide +kernel, by decide +kernel⟩, List.mem_of_getElem? (i := 221) (by decide +kernel), List.mem_of_getElem? (i := 686) (by decide +kernel), List.mem_of_getElem? (i := 687) (by decide +kernel)⟩
theorem lw_p10 : lw_okq (⟨"DoubleLedger$Tape", "takeReversed", "()I"⟩, 5) := ⟨⟨by decide +kernel, by decide +kernel⟩, List.mem_of_getElem? (i := 221) (by decide +kernel), List.mem_of_getElem? (i := 693) (by decide +kernel), List.mem_of_getElem? (i := 694) (by decide +kernel)⟩
theorem lw_p11 : lw_okq (⟨"DoubleLedger$Sheet", "add", "(I)V"⟩, 2) := ⟨⟨by decide +kernel, by decide +kernel⟩, List.mem_of_getElem? (i := 247) (by decide +kernel), List.mem_of_getElem? (i := 759) (by decide +kernel), List.mem_of_getElem? (i := 760) (by decide +kernel)⟩
theorem lw_p12 : lw_okq (⟨"DoubleLedger$Sheet", "addNumber", "(I)V"⟩, 2) := ⟨⟨by decide +kernel, by decide +kernel⟩, List.mem_of_getElem? (i := 247) (by decide +kernel), List.mem_of_getElem? (i := 763) (by decide +kernel), List.mem_of_getElem? (i := 764) (by decide +kernel)⟩
theorem lw_p13 : lw_okq (⟨"DoubleLedgerModel", "addAccount", "(III)I"⟩, 21) := ⟨⟨by decide +kernel, by decide +kernel⟩, List.mem_of_getElem? (i := 865) (by decide +kernel), List.mem_of_getElem? (i := 871) (by decide +kernel), List.mem_of_getElem? (i := 872) (by decide +kernel)⟩
theorem lw_p14 : lw_okq (⟨"DoubleLedgerModel", "isAccount", "(I)Z"⟩, 21) := ⟨⟨by decide +kernel, by decide +kernel⟩, List.mem_of_getElem? (i := 865) (by decide +kernel), List.mem_of_getElem? (i := 945) (by decide +kernel), List.mem_of_getElem? (i := 946) (by decide +kernel)⟩
theorem lw_p15 : lw_okq (⟨"DoubleLedgerModel", "isOf", "(II)Z"⟩, 21) := ⟨⟨by decide +kernel, by decide +kernel⟩, List.mem_of_getElem? (i := 865) (by decide +kernel), List.mem_of_getElem? (i := 959) (by decide +kernel), List.mem_of_getElem? (i := 960) (by decide +kernel)⟩
def lw_privs_1 : List (MethodName × Nat) := [(⟨"DoubleLedger$Journals", "isLine", "(II)Z"⟩, 7), (⟨"DoubleLedger$Journals", "sumIn", "(II)J"⟩, 7), (⟨"DoubleLedger$Book", "canBePosted", "(LDoubleLedger$Slip;)Z"⟩, 9), (⟨"DoubleLedger$Book", "findUnbalanced", "(LDoubleLedger$Slip;)I"⟩, 9), (⟨"DoubleLedger$Book", "keepsLimits", "(LDoubleLedger$Slip;)Z"⟩, 9), (⟨"DoubleLedger$Journals", "sealWith", "(JI)J"⟩, 7), (⟨"DoubleLedger$Journals", "lineOf", "(IJI)J"⟩, 7), (⟨"DoubleLedger$Tape", "takePart", "(LDoubleLedger$Chart;LDoubleLedger$Slip;)I"⟩, 5), (⟨"DoubleLedger$Tape", "takeFigures", "(I)I"⟩, 5), (⟨"DoubleLedger$Tape", "here", "()I"⟩, 5), (⟨"DoubleLedger$Tape", "takeReversed", "()I"⟩, 5), (⟨"DoubleLedger$Sheet", "add", "(I)V"⟩, 2), (⟨"DoubleLedger$Sheet", "addNumber", "(I)V"⟩, 2), (⟨"DoubleLedgerModel", "addAccount", "(III)I"⟩, 21), (⟨"DoubleLedgerModel", "isAccount", "(I)Z"⟩, 21), (⟨"DoubleLedgerModel", "isOf", "(II)Z"⟩, 21)]
theorem lw_r1 : ∀ q ∈ lw_privs_1, lw_okq q := List.forall_mem_cons.mpr ⟨lw_p0, List.forall_mem_cons.mpr ⟨lw_p1, List.forall_mem_cons.mpr ⟨lw_p2, List.forall_mem_cons.mpr ⟨lw_p3, List.forall_mem_cons.mpr ⟨lw_p4, List.forall_mem_cons.mpr ⟨lw_p5, List.forall_mem_cons.mpr ⟨lw_p6, List.forall_mem_cons.mpr ⟨lw_p7, List.forall_mem_cons.mpr ⟨lw_p8, List.forall_mem_cons.mpr ⟨lw_p9, List.forall_mem_cons.mpr ⟨lw_p10, List.forall_mem_cons.mpr ⟨lw_p11, List.forall_mem_cons.mpr ⟨lw_p12, List.forall_mem_cons.mpr ⟨lw_p13, List.forall_mem_cons.mpr ⟨lw_p14, List.forall_mem_cons.mpr ⟨lw_p15, fun _ h => absurd h List.not_mem_nil⟩⟩⟩⟩⟩⟩⟩⟩⟩⟩⟩⟩⟩⟩⟩⟩
theorem lw_p16 : lw_okq (⟨"DoubleLedgerModel", "above", "(I)I"⟩, 21) := ⟨⟨by decide +kernel, by decide +kernel⟩, List.mem_of_getElem? (i := 865) (by decide +kernel), List.mem_of_getElem? (i := 963) (by decide +kernel), List.mem_of_getElem? (i := 964) (by decide +kernel)⟩
theorem lw_p17 : lw_okq (⟨"DoubleLedgerModel", "linesOf", "(I)I"⟩, 21) := ⟨⟨by decide +kernel, by decide +kernel⟩, List.mem_of_getElem? (i := 865) (by decide +kernel), List.mem_of_getElem? (i := 967) (by decide +kernel), List.mem_of_getElem? (i := 968) (by decide +kernel)⟩
theorem lw_p18 : lw_okq (⟨"DoubleLedgerModel", "postings", "()I"⟩, 21) := ⟨⟨by decide +kernel, by decide +kernel⟩, List.mem_of_getElem? (i := 865) (by decide +kernel), List.mem_of_getElem? (i := 971) (by decide +kernel), List.mem_of_getElem? (i := 972) (by decide +kernel)⟩
theorem lw_p19 : lw_okq (⟨"DoubleLedgerModel", "balanceBy", "(II)J"⟩, 21) := ⟨⟨by decide +kernel, by decide +kernel⟩, List.mem_of_getElem? (i := 865) (by decide +kernel), List.mem_of_getElem? (i := 982) (by decide +kernel), List.mem_of_getElem? (i := 983) (by decide +kernel)⟩
theorem lw_p20 : lw_okq (⟨"DoubleLedgerModel", "branchBy", "(III)J"⟩, 21) := ⟨⟨by decide +kernel, by decide +kernel⟩, List.mem_of_getElem? (i := 865) (by decide +kernel), List.mem_of_getElem? (i := 990) (by decide +kernel), List.mem_of_getElem? (i := 991) (by decide +kernel)⟩
theorem lw_p21 : lw_okq (⟨"DoubleLedgerModel", "layPosting", "(IJ)V"⟩, 21) := ⟨⟨by decide +kernel, by decide +kernel⟩, List.mem_of_getElem? (i := 865) (by decide +kernel), List.mem_of_getElem? (i := 1012) (by decide +kernel), List.mem_of_getElem? (i := 1013) (by decide +kernel)⟩
theorem lw_p22 : lw_okq (⟨"DoubleLedgerModel", "isHindered", "()Z"⟩, 21) := ⟨⟨by decide +kernel, by decide +kernel⟩, List.mem_of_getElem? (i := 865) (by decide +kernel), List.mem_of_getElem? (i := 1024) (by decide +kernel), List.mem_of_getElem? (i := 1025) (by decide +kernel)⟩
theorem lw_p23 : lw_okq (⟨"DoubleLedgerModel", "causedAs", "(II)Z"⟩, 21) := ⟨⟨by decide +kernel, by decide +kernel⟩, List.mem_of_getElem? (i := 865) (by decide +kernel), List.mem_of_getElem? (i := 1028) (by decide +kernel), List.mem_of_getElem? (i := 1029) (by decide +kernel)⟩
theorem lw_p24 : lw_okq (⟨"DoubleLedgerModel", "addCause", "(II)V"⟩, 21) := ⟨⟨by decide +kernel, by decide +kernel⟩, List.mem_of_getElem? (i := 865) (by decide +kernel), List.mem_of_getElem? (i := 1032) (by decide +kernel), List.mem_of_getElem? (i := 1033) (by decide +kernel)⟩
theorem lw_p25 : lw_okq (⟨"DoubleLedgerModel", "isUnbalanced", "()Z"⟩, 21) := ⟨⟨by decide +kernel, by decide +kernel⟩, List.mem_of_getElem? (i := 865) (by decide +kernel), List.mem_of_getElem? (i := 1036) (by decide +kernel), List.mem_of_getElem? (i := 1037) (by decide +kernel)⟩
theorem lw_p26 : lw_okq (⟨"DoubleLedgerModel", "isBeyond", "()Z"⟩, 21) := ⟨⟨by decide +kernel, by decide +kernel⟩, List.mem_of_getElem? (i := 865) (by decide +kernel), List.mem_of_getElem? (i := 1040) (by decide +kernel), List.mem_of_getElem? (i := 1041) (by decide +kernel)⟩
theorem lw_p27 : lw_okq (⟨"DoubleLedgerModel", "behind", "(I)J"⟩, 21) := ⟨⟨by decide +kernel, by decide +kernel⟩, List.mem_of_getElem? (i := 865) (by decide +kernel), List.mem_of_getElem? (i := 1044) (by decide +kernel), List.mem_of_getElem? (i := 1045) (by decide +kernel)⟩
theorem lw_p28 : lw_okq (⟨"DoubleLedgerModel", "posted", "(I)I"⟩, 21) := ⟨⟨by decide +kernel, by decide +kernel⟩, List.mem_of_getElem? (i := 865) (by decide +kernel), List.mem_of_getElem? (i := 1048) (by decide +kernel), List.mem_of_getElem? (i := 1049) (by decide +kernel)⟩
theorem lw_p29 : lw_okq (⟨"DoubleLedgerModel", "isJournal", "(I)Z"⟩, 21) := ⟨⟨by decide +kernel, by decide +kernel⟩, List.mem_of_getElem? (i := 865) (by decide +kernel), List.mem_of_getElem? (i := 1056) (by decide +kernel), List.mem_of_getElem? (i := 1057) (by decide +kernel)⟩
theorem lw_p30 : lw_okq (⟨"DoubleLedgerModel", "mayBeReversed", "(I)Z"⟩, 21) := ⟨⟨by decide +kernel, by decide +kernel⟩, List.mem_of_getElem? (i := 865) (by decide +kernel), List.mem_of_getElem? (i := 1060) (by decide +kernel), List.mem_of_getElem? (i := 1061) (by decide +kernel)⟩
theorem lw_p31 : lw_okq (⟨"DoubleLedgerModel", "reversed", "(I)I"⟩, 21) := ⟨⟨by decide +kernel, by decide +kernel⟩, List.mem_of_getElem? (i := 865) (by decide +kernel), List.mem_of_getElem? (i := 1064) (by decide +kernel), List.mem_of_getElem? (i := 1065) (by decide +kernel)⟩
def lw_privs_2 : List (MethodName × Nat) := [(⟨"DoubleLedgerModel", "above", "(I)I"⟩, 21), (⟨"DoubleLedgerModel", "linesOf", "(I)I"⟩, 21), (⟨"DoubleLedgerModel", "postings", "()I"⟩, 21), (⟨"DoubleLedgerModel", "balanceBy", "(II)J"⟩, 21), (⟨"DoubleLedgerModel", "branchBy", "(III)J"⟩, 21), (⟨"DoubleLedgerModel", "layPosting", "(IJ)V"⟩, 21), (⟨"DoubleLedgerModel", "isHindered", "()Z"⟩, 21), (⟨"DoubleLedgerModel", "causedAs", "(II)Z"⟩, 21), (⟨"DoubleLedgerModel", "addCause", "(II)V"⟩, 21), (⟨"DoubleLedgerModel", "isUnbalanced", "()Z"⟩, 21), (⟨"DoubleLedgerModel", "isBeyond", "()Z"⟩, 21), (⟨"DoubleLedgerModel", "behind", "(I)J"⟩, 21), (⟨"DoubleLedgerModel", "posted", "(I)I"⟩, 21), (⟨"DoubleLedgerModel", "isJournal", "(I)Z"⟩, 21), (⟨"DoubleLedgerModel", "mayBeReversed", "(I)Z"⟩, 21), (⟨"DoubleLedgerModel", "reversed", "(I)I"⟩, 21)]
theorem lw_r2 : ∀ q ∈ lw_privs_2, lw_okq q := List.forall_mem_cons.mpr ⟨lw_p16, List.forall_mem_cons.mpr ⟨lw_p17, List.forall_mem_cons.mpr ⟨lw_p18, List.forall_mem_cons.mpr ⟨lw_p19, List.forall_mem_cons.mpr ⟨lw_p20, List.forall_mem_cons.mpr ⟨lw_p21, List.forall_mem_cons.mpr ⟨lw_p22, List.forall_mem_cons.mpr ⟨lw_p23, List.forall_mem_cons.mpr ⟨lw_p24, List.forall_mem_cons.mpr ⟨lw_p25, List.forall_mem_cons.mpr ⟨lw_p26, List.forall_mem_cons.mpr ⟨lw_p27, List.forall_mem_cons.mpr ⟨lw_p28, List.forall_mem_cons.mpr ⟨lw_p29, List.forall_mem_cons.mpr ⟨lw_p30, List.forall_mem_cons.mpr ⟨lw_p31, fun _ h => absurd h List.not_mem_nil⟩⟩⟩⟩⟩⟩⟩⟩⟩⟩⟩⟩⟩⟩⟩⟩
theorem lw_p32 : lw_okq (⟨"DoubleLedgerModel", "sealOf", "(I)J"⟩, 21) := ⟨⟨by decide +kernel, by decide +kernel⟩, List.mem_of_getElem? (i := 865) (by decide +kernel), List.mem_of_getElem? (i := 1084) (by decide +kernel), List.mem_of_getElem? (i := 1085) (by decide +kernel)⟩
theorem lw_p33 : lw_okq (⟨"DoubleLedgerModel", "rateBy", "(II)V"⟩, 21) := ⟨⟨by decide +kernel, by decide +kernel⟩, List.mem_of_getElem? (i := 865) (by decide +kernel), List.mem_of_getElem? (i := 1109) (by decide +kernel), List.mem_of_getElem? (i := 1110) (by decide +kernel)⟩
theorem lw_p34 : lw_okq (⟨"DoubleLedgerModel", "fraction", "(JJ)V"⟩, 21) := ⟨⟨by decide +kernel, by decide +kernel⟩, List.mem_of_getElem? (i := 865) (by decide +kernel), List.mem_of_getElem? (i := 1113) (by decide +kernel), List.mem_of_getElem? (i := 1114) (by decide +kernel)⟩
theorem lw_p35 : lw_okq (⟨"DoubleLedgerModel", "valueBy", "(II)V"⟩, 21) := ⟨⟨by decide +kernel, by decide +kernel⟩, List.mem_of_getElem? (i := 865) (by decide +kernel), List.mem_of_getElem? (i := 1121) (by decide +kernel), List.mem_of_getElem? (i := 1122) (by decide +kernel)⟩
theorem lw_p36 : lw_okq (⟨"DoubleLedgerModel", "journalOf", "(I)I"⟩, 21) := ⟨⟨by decide +kernel, by decide +kernel⟩, List.mem_of_getElem? (i := 865) (by decide +kernel), List.mem_of_getElem? (i := 1157) (by decide +kernel), List.mem_of_getElem? (i := 1158) (by decide +kernel)⟩
theorem lw_p37 : lw_okq (⟨"DoubleLedgerModel", "readText", "()V"⟩, 21) := ⟨⟨by decide +kernel, by decide +kernel⟩, List.mem_of_getElem? (i := 865) (by decide +kernel), List.mem_of_getElem? (i := 1197) (by decide +kernel), List.mem_of_getElem? (i := 1198) (by decide +kernel)⟩
theorem lw_p38 : lw_okq (⟨"DoubleLedgerModel", "readPart", "()V"⟩, 21) := ⟨⟨by decide +kernel, by decide +kernel⟩, List.mem_of_getElem? (i := 865) (by decide +kernel), List.mem_of_getElem? (i := 1201) (by decide +kernel), List.mem_of_getElem? (i := 1202) (by decide +kernel)⟩
theorem lw_p39 : lw_okq (⟨"DoubleLedgerModel", "figures", "(I)I"⟩, 21) := ⟨⟨by decide +kernel, by decide +kernel⟩, List.mem_of_getElem? (i := 865) (by decide +kernel), List.mem_of_getElem? (i := 1205) (by decide +kernel), List.mem_of_getElem? (i := 1206) (by decide +kernel)⟩
theorem lw_p40 : lw_okq (⟨"DoubleLedgerModel", "here", "()I"⟩, 21) := ⟨⟨by decide +kernel, by decide +kernel⟩, List.mem_of_getElem? (i := 865) (by decide +kernel), List.mem_of_getElem? (i := 1209) (by decide +kernel), List.mem_of_getElem? (i := 1210) (by decide +kernel)⟩
theorem lw_p41 : lw_okq (⟨"DoubleLedgerModel", "wrong", "(I)V"⟩, 21) := ⟨⟨by decide +kernel, by decide +kernel⟩, List.mem_of_getElem? (i := 865) (by decide +kernel), List.mem_of_getElem? (i := 1213) (by decide +kernel), List.mem_of_getElem? (i := 1214) (by decide +kernel)⟩
theorem lw_p42 : lw_okq (⟨"DoubleLedgerModel", "expect", "(I)V"⟩, 21) := ⟨⟨by decide +kernel, by decide +kernel⟩, List.mem_of_getElem? (i := 865) (by decide +kernel), List.mem_of_getElem? (i := 1217) (by decide +kernel), List.mem_of_getElem? (i := 1218) (by decide +kernel)⟩
theorem lw_p43 : lw_okq (⟨"DoubleLedgerModel", "doReverse", "(I)Z"⟩, 21) := ⟨⟨by decide +kernel, by decide +kernel⟩, List.mem_of_getElem? (i := 865) (by decide +kernel), List.mem_of_getElem? (i := 1222) (by decide +kernel), List.mem_of_getElem? (i := 1223) (by decide +kernel)⟩
theorem lw_p44 : lw_okq (⟨"DoubleLedgerModel", "put", "(I)V"⟩, 21) := ⟨⟨by decide +kernel, by decide +kernel⟩, List.mem_of_getElem? (i := 865) (by decide +kernel), List.mem_of_getElem? (i := 1231) (by decide +kernel), List.mem_of_getElem? (i := 1232) (by decide +kernel)⟩
theorem lw_p45 : lw_okq (⟨"DoubleLedgerModel", "putNumber", "(J)V"⟩, 21) := ⟨⟨by decide +kernel, by decide +kernel⟩, List.mem_of_getElem? (i := 865) (by decide +kernel), List.mem_of_getElem? (i := 1235) (by decide +kernel), List.mem_of_getElem? (i := 1236) (by decide +kernel)⟩
theorem lw_p46 : lw_okq (⟨"DoubleLedgerModel", "copy", "(Z)V"⟩, 21) := ⟨⟨by decide +kernel, by decide +kernel⟩, List.mem_of_getElem? (i := 865) (by decide +kernel), List.mem_of_getElem? (i := 1275) (by decide +kernel), List.mem_of_getElem? (i := 1276) (by decide +kernel)⟩
def lw_privs_3 : List (MethodName × Nat) := [(⟨"DoubleLedgerModel", "sealOf", "(I)J"⟩, 21), (⟨"DoubleLedgerModel", "rateBy", "(II)V"⟩, 21), (⟨"DoubleLedgerModel", "fraction", "(JJ)V"⟩, 21), (⟨"DoubleLedgerModel", "valueBy", "(II)V"⟩, 21), (⟨"DoubleLedgerModel", "journalOf", "(I)I"⟩, 21), (⟨"DoubleLedgerModel", "readText", "()V"⟩, 21), (⟨"DoubleLedgerModel", "readPart", "()V"⟩, 21), (⟨"DoubleLedgerModel", "figures", "(I)I"⟩, 21), (⟨"DoubleLedgerModel", "here", "()I"⟩, 21), (⟨"DoubleLedgerModel", "wrong", "(I)V"⟩, 21), (⟨"DoubleLedgerModel", "expect", "(I)V"⟩, 21), (⟨"DoubleLedgerModel", "doReverse", "(I)Z"⟩, 21), (⟨"DoubleLedgerModel", "put", "(I)V"⟩, 21), (⟨"DoubleLedgerModel", "putNumber", "(J)V"⟩, 21), (⟨"DoubleLedgerModel", "copy", "(Z)V"⟩, 21)]
theorem lw_r3 : ∀ q ∈ lw_privs_3, lw_okq q := List.forall_mem_cons.mpr ⟨lw_p32, List.forall_mem_cons.mpr ⟨lw_p33, List.forall_mem_cons.mpr ⟨lw_p34, List.forall_mem_cons.mpr ⟨lw_p35, List.forall_mem_cons.mpr ⟨lw_p36, List.forall_mem_cons.mpr ⟨lw_p37, List.forall_mem_cons.mpr ⟨lw_p38, List.forall_mem_cons.mpr ⟨lw_p39, List.forall_mem_cons.mpr ⟨lw_p40, List.forall_mem_cons.mpr ⟨lw_p41, List.forall_mem_cons.mpr ⟨lw_p42, List.forall_mem_cons.mpr ⟨lw_p43, List.forall_mem_cons.mpr ⟨lw_p44, List.forall_mem_cons.mpr ⟨lw_p45, List.forall_mem_cons.mpr ⟨lw_p46, fun _ h => absurd h List.not_mem_nil⟩⟩⟩⟩⟩⟩⟩⟩⟩⟩⟩⟩⟩⟩⟩
def lw_privs : List (MethodName × Nat) := lw_privs_1 ++ (lw_privs_2 ++ (lw_privs_3))
def lw_tbl : List Cond := k2_sels lw_privs ++ tables_1
theorem lw_privs_ok : ∀ q ∈ lw_privs, lw_okq q := by
  show ∀ q ∈ lw_privs_1 ++ (lw_privs_2 ++ (lw_privs_3)), lw_okq q
  exact List.forall_mem_append.mpr ⟨lw_r1, List.forall_mem_append.mpr ⟨lw_r2, lw_r3⟩⟩
/-- the streams that the claim lets the run draw from -/
abbrev lw_cs : List Choice := [Jvm.Choice.named "NaN.bits"]
theorem lw_bits : nanBits ∈ lw_cs := by first | decide | exact List.mem_cons_self | simp [lw_cs, nanBits]

/-! names: classes, fields in the order of the slots, methods (out of claim/NAMES.whole.lean.txt) -/
def RX0 : String := "DoubleLedger$Book"
def TX0 : u_T := fun k => match k with
  | 0 => ("DoubleLedger$Book", "chart", "LDoubleLedger$Chart;", true)
  | 1 => ("DoubleLedger$Book", "journals", "LDoubleLedger$Journals;", true)
  | 2 => ("DoubleLedger$Book", "rates", "LDoubleLedger$Rates;", true)
  | 3 => ("DoubleLedger$Book", "causes", "LDoubleLedger$Causes;", true)
  | 4 => ("DoubleLedger$Book", "open", "LDoubleLedger$Slip;", true)
  | 5 => ("DoubleLedger$Book", "isOpen", "Z", false)
  | 6 => ("DoubleLedger$Book", "day", "I", false)
  | 7 => ("DoubleLedger$Book", "closed", "I", false)
  | _ => ("DoubleLedger$Book", "seals", "[J", true)
def tyX0 : Nat → FieldType := fun k => match k with
  | 0 => .object "DoubleLedger$Chart"
  | 1 => .object "DoubleLedger$Journals"
  | 2 => .object "DoubleLedger$Rates"
  | 3 => .object "DoubleLedger$Causes"
  | 4 => .object "DoubleLedger$Slip"
  | 5 => .boolean
  | 6 => .int
  | 7 => .int
  | _ => .array .long
abbrev wsX00 : List Cond := u_ws RX0 TX0 9
theorem nmX0 : ∀ a, a < 9 → ∀ b, b < 9 → a ≠ b → (TX0 a).2.1 ≠ (TX0 b).2.1 := by decide +kernel
theorem tyX0_ok : ∀ k, k < 9 → parseFieldDescriptor (TX0 k).2.2.1 = some (tyX0 k) := by decide +kernel
def RX1 : String := "DoubleLedger$Causes"
def TX1 : u_T := fun k => match k with
  | 0 => ("DoubleLedger$Causes", "count", "I", false)
  | 1 => ("DoubleLedger$Causes", "which", "[I", true)
  | _ => ("DoubleLedger$Causes", "with", "[I", true)
def tyX1 : Nat → FieldType := fun k => match k with
  | 0 => .int
  | 1 => .array .int
  | _ => .array .int
abbrev wsX10 : List Cond := u_ws RX1 TX1 3
theorem nmX1 : ∀ a, a < 3 → ∀ b, b < 3 → a ≠ b → (TX1 a).2.1 ≠ (TX1 b).2.1 := by decide +kernel
theorem tyX1_ok : ∀ k, k < 3 → parseFieldDescriptor (TX1 k).2.2.1 = some (tyX1 k) := by decide +kernel
def RX2 : String := "DoubleLedger$Chart"
def TX2 : u_T := fun k => match k with
  | 0 => ("DoubleLedger$Chart", "count", "I", false)
  | 1 => ("DoubleLedger$Chart", "parent", "[I", true)
  | 2 => ("DoubleLedger$Chart", "currency", "[I", true)
  | 3 => ("DoubleLedger$Chart", "sort", "[I", true)
  | 4 => ("DoubleLedger$Chart", "floor", "[J", true)
  | 5 => ("DoubleLedger$Chart", "ceiling", "[J", true)
  | _ => ("DoubleLedger$Chart", "budget", "[J", true)
def tyX2 : Nat → FieldType := fun k => match k with
  | 0 => .int
  | 1 => .array .int
  | 2 => .array .int
  | 3 => .array .int
  | 4 => .array .long
  | 5 => .array .long
  | _ => .array .long
abbrev wsX20 : List Cond := u_ws RX2 TX2 7
theorem nmX2 : ∀ a, a < 7 → ∀ b, b < 7 → a ≠ b → (TX2 a).2.1 ≠ (TX2 b).2.1 := by decide +kernel
theorem tyX2_ok : ∀ k, k < 7 → parseFieldDescriptor (TX2 k).2.2.1 = some (tyX2 k) := by decide +kernel
def RX3 : String := "DoubleLedger$Fraction"
def TX3 : u_T := fun k => match k with
  | 0 => ("DoubleLedger$Fraction", "above", "J", false)
  | _ => ("DoubleLedger$Fraction", "below", "J", false)
def tyX3 : Nat → FieldType := fun k => match k with
  | 0 => .long
  | _ => .long
abbrev wsX30 : List Cond := u_ws RX3 TX3 2
theorem nmX3 : ∀ a, a < 2 → ∀ b, b < 2 → a ≠ b → (TX3 a).2.1 ≠ (TX3 b).2.1 := by decide +kernel
theorem tyX3_ok : ∀ k, k < 2 → parseFieldDescriptor (TX3 k).2.2.1 = some (tyX3 k) := by decide +kernel
def RX4 : String := "DoubleLedger$Journals"
def TX4 : u_T := fun k => match k with
  | 0 => ("DoubleLedger$Journals", "count", "I", false)
  | 1 => ("DoubleLedger$Journals", "day", "[I", true)
  | 2 => ("DoubleLedger$Journals", "size", "[I", true)
  | 3 => ("DoubleLedger$Journals", "reverses", "[I", true)
  | 4 => ("DoubleLedger$Journals", "reversedBy", "[I", true)
  | 5 => ("DoubleLedger$Journals", "account", "[I", true)
  | _ => ("DoubleLedger$Journals", "amount", "[I", true)
def tyX4 : Nat → FieldType := fun k => match k with
  | 0 => .int
  | 1 => .array .int
  | 2 => .array .int
  | 3 => .array .int
  | 4 => .array .int
  | 5 => .array .int
  | _ => .array .int
abbrev wsX40 : List Cond := u_ws RX4 TX4 7
theorem nmX4 : ∀ a, a < 7 → ∀ b, b < 7 → a ≠ b → (TX4 a).2.1 ≠ (TX4 b).2.1 := by decide +kernel
theorem tyX4_ok : ∀ k, k < 7 → parseFieldDescriptor (TX4 k).2.2.1 = some (tyX4 k) := by decide +kernel
def RX5 : String := "DoubleLedger$Rates"
def TX5 : u_T := fun k => match k with
  | 0 => ("DoubleLedger$Rates", "count", "[I", true)
  | 1 => ("DoubleLedger$Rates", "day", "[I", true)
  | 2 => ("DoubleLedger$Rates", "above", "[I", true)
  | _ => ("DoubleLedger$Rates", "below", "[I", true)
def tyX5 : Nat → FieldType := fun k => match k with
  | 0 => .array .int
  | 1 => .array .int
  | 2 => .array .int
  | _ => .array .int
abbrev wsX50 : List Cond := u_ws RX5 TX5 4
theorem nmX5 : ∀ a, a < 4 → ∀ b, b < 4 → a ≠ b → (TX5 a).2.1 ≠ (TX5 b).2.1 := by decide +kernel
theorem tyX5_ok : ∀ k, k < 4 → parseFieldDescriptor (TX5 k).2.2.1 = some (tyX5 k) := by decide +kernel
def RX6 : String := "DoubleLedger$Rows"
def TX6 : u_T := fun k => match k with
  | 0 => ("DoubleLedger$Rows", "size", "[I", true)
  | _ => ("DoubleLedger$Rows", "places", "[J", true)
def tyX6 : Nat → FieldType := fun k => match k with
  | 0 => .array .int
  | _ => .array .long
abbrev wsX60 : List Cond := u_ws RX6 TX6 2
theorem nmX6 : ∀ a, a < 2 → ∀ b, b < 2 → a ≠ b → (TX6 a).2.1 ≠ (TX6 b).2.1 := by decide +kernel
theorem tyX6_ok : ∀ k, k < 2 → parseFieldDescriptor (TX6 k).2.2.1 = some (tyX6 k) := by decide +kernel
def RX7 : String := "DoubleLedger$Sheet"
def TX7 : u_T := fun k => match k with
  | 0 => ("DoubleLedger$Sheet", "length", "I", false)
  | _ => ("DoubleLedger$Sheet", "bytes", "[B", true)
def tyX7 : Nat → FieldType := fun k => match k with
  | 0 => .int
  | _ => .array .byte
abbrev wsX70 : List Cond := u_ws RX7 TX7 2
theorem nmX7 : ∀ a, a < 2 → ∀ b, b < 2 → a ≠ b → (TX7 a).2.1 ≠ (TX7 b).2.1 := by decide +kernel
theorem tyX7_ok : ∀ k, k < 2 → parseFieldDescriptor (TX7 k).2.2.1 = some (tyX7 k) := by decide +kernel
def RX8 : String := "DoubleLedger$Slip"
def TX8 : u_T := fun k => match k with
  | 0 => ("DoubleLedger$Slip", "size", "I", false)
  | 1 => ("DoubleLedger$Slip", "account", "[I", true)
  | _ => ("DoubleLedger$Slip", "amount", "[I", true)
def tyX8 : Nat → FieldType := fun k => match k with
  | 0 => .int
  | 1 => .array .int
  | _ => .array .int
abbrev wsX80 : List Cond := u_ws RX8 TX8 3
theorem nmX8 : ∀ a, a < 3 → ∀ b, b < 3 → a ≠ b → (TX8 a).2.1 ≠ (TX8 b).2.1 := by decide +kernel
theorem tyX8_ok : ∀ k, k < 3 → parseFieldDescriptor (TX8 k).2.2.1 = some (tyX8 k) := by decide +kernel
def RX9 : String := "DoubleLedger$Tape"
def TX9 : u_T := fun k => match k with
  | 0 => ("DoubleLedger$Tape", "length", "I", false)
  | 1 => ("DoubleLedger$Tape", "parts", "I", false)
  | 2 => ("DoubleLedger$Tape", "reversed", "I", false)
  | 3 => ("DoubleLedger$Tape", "place", "I", false)
  | _ => ("DoubleLedger$Tape", "bytes", "[B", true)
def tyX9 : Nat → FieldType := fun k => match k with
  | 0 => .int
  | 1 => .int
  | 2 => .int
  | 3 => .int
  | _ => .array .byte
abbrev wsX90 : List Cond := u_ws RX9 TX9 5
theorem nmX9 : ∀ a, a < 5 → ∀ b, b < 5 → a ≠ b → (TX9 a).2.1 ≠ (TX9 b).2.1 := by decide +kernel
theorem tyX9_ok : ∀ k, k < 5 → parseFieldDescriptor (TX9 k).2.2.1 = some (tyX9 k) := by decide +kernel
def RX10 : String := "DoubleLedger"
def TX10 : u_T := fun k => match k with
  | 0 => ("DoubleLedger", "book", "LDoubleLedger$Book;", true)
  | 1 => ("DoubleLedger", "imaged", "LDoubleLedger$Book;", false)
  | 2 => ("DoubleLedger", "draft", "LDoubleLedger$Slip;", true)
  | 3 => ("DoubleLedger", "tape", "LDoubleLedger$Tape;", true)
  | 4 => ("DoubleLedger", "sheet", "LDoubleLedger$Sheet;", true)
  | 5 => ("DoubleLedger", "rows", "LDoubleLedger$Rows;", true)
  | _ => ("DoubleLedger", "fraction", "LDoubleLedger$Fraction;", true)
def tyX10 : Nat → FieldType := fun k => match k with
  | 0 => .object "DoubleLedger$Book"
  | 1 => .object "DoubleLedger$Book"
  | 2 => .object "DoubleLedger$Slip"
  | 3 => .object "DoubleLedger$Tape"
  | 4 => .object "DoubleLedger$Sheet"
  | 5 => .object "DoubleLedger$Rows"
  | _ => .object "DoubleLedger$Fraction"
abbrev wsX100 : List Cond := u_ws RX10 TX10 7
theorem nmX10 : ∀ a, a < 7 → ∀ b, b < 7 → a ≠ b → (TX10 a).2.1 ≠ (TX10 b).2.1 := by decide +kernel
theorem tyX10_ok : ∀ k, k < 7 → parseFieldDescriptor (TX10 k).2.2.1 = some (tyX10 k) := by decide +kernel
def RX11 : String := "DoubleLedgerModel"
def TX11 : u_T := fun k => match k with
  | 0 => ("DoubleLedgerModel", "code", "I", false)
  | 1 => ("DoubleLedgerModel", "n", "[I", true)
  | 2 => ("DoubleLedgerModel", "l", "[J", true)
  | 3 => ("DoubleLedgerModel", "hasImage", "Z", false)
  | 4 => ("DoubleLedgerModel", "keptN", "[I", true)
  | 5 => ("DoubleLedgerModel", "keptL", "[J", true)
  | 6 => ("DoubleLedgerModel", "top", "J", false)
  | 7 => ("DoubleLedgerModel", "bottom", "J", false)
  | 8 => ("DoubleLedgerModel", "tape", "[I", true)
  | 9 => ("DoubleLedgerModel", "taped", "I", false)
  | 10 => ("DoubleLedgerModel", "at", "I", false)
  | 11 => ("DoubleLedgerModel", "fault", "I", false)
  | 12 => ("DoubleLedgerModel", "parts", "I", false)
  | 13 => ("DoubleLedgerModel", "partOf", "[I", true)
  | 14 => ("DoubleLedgerModel", "partAmount", "[J", true)
  | 15 => ("DoubleLedgerModel", "reverts", "I", false)
  | 16 => ("DoubleLedgerModel", "paper", "[I", true)
  | 17 => ("DoubleLedgerModel", "papered", "I", false)
  | 18 => ("DoubleLedgerModel", "holds", "[Z", true)
  | 19 => ("DoubleLedgerModel", "size", "[I", true)
  | _ => ("DoubleLedgerModel", "element", "[J", true)
def tyX11 : Nat → FieldType := fun k => match k with
  | 0 => .int
  | 1 => .array .int
  | 2 => .array .long
  | 3 => .boolean
  | 4 => .array .int
  | 5 => .array .long
  | 6 => .long
  | 7 => .long
  | 8 => .array .int
  | 9 => .int
  | 10 => .int
  | 11 => .int
  | 12 => .int
  | 13 => .array .int
  | 14 => .array .long
  | 15 => .int
  | 16 => .array .int
  | 17 => .int
  | 18 => .array .boolean
  | 19 => .array .int
  | _ => .array .long
abbrev wsX110 : List Cond := u_ws RX11 TX11 21
theorem nmX11 : ∀ a, a < 21 → ∀ b, b < 21 → a ≠ b → (TX11 a).2.1 ≠ (TX11 b).2.1 := by decide +kernel
theorem tyX11_ok : ∀ k, k < 21 → parseFieldDescriptor (TX11 k).2.2.1 = some (tyX11 k) := by decide +kernel
def RX12 : String := "DoubleLedgerLaw"
def RX13 : String := "java/lang/Double"
def RX14 : String := "java/lang/Float"
def RX15 : String := "java/lang/Math"
abbrev cX0_init : ByteArray := prog_2_method_1_code
def yX0_init : MethodName := ⟨RX0, "<init>", "()V"⟩
abbrev cX0_copyFrom : ByteArray := prog_2_method_2_code
def yX0_copyFrom : MethodName := ⟨RX0, "copyFrom", "(LDoubleLedger$Book;)V"⟩
abbrev cX0_isClosedOn : ByteArray := prog_2_method_3_code
def yX0_isClosedOn : MethodName := ⟨RX0, "isClosedOn", "(I)Z"⟩
abbrev cX0_sumByNow : ByteArray := prog_2_method_4_code
def yX0_sumByNow : MethodName := ⟨RX0, "sumByNow", "(I)J"⟩
abbrev cX0_sumOfBranch : ByteArray := prog_2_method_5_code
def yX0_sumOfBranch : MethodName := ⟨RX0, "sumOfBranch", "(IIII)J"⟩
abbrev cX0_writeValue : ByteArray := prog_2_method_6_code
def yX0_writeValue : MethodName := ⟨RX0, "writeValue", "(IILDoubleLedger$Fraction;)V"⟩
abbrev cX0_writeGain : ByteArray := prog_2_method_7_code
def yX0_writeGain : MethodName := ⟨RX0, "writeGain", "(IIIILDoubleLedger$Fraction;)V"⟩
abbrev cX0_tryToPost : ByteArray := prog_2_method_8_code
def yX0_tryToPost : MethodName := ⟨RX0, "tryToPost", "(LDoubleLedger$Slip;I)I"⟩
abbrev cX0_canBePosted : ByteArray := prog_2_method_9_code
def yX0_canBePosted : MethodName := ⟨RX0, "canBePosted", "(LDoubleLedger$Slip;)Z"⟩
abbrev cX0_findUnbalanced : ByteArray := prog_2_method_10_code
def yX0_findUnbalanced : MethodName := ⟨RX0, "findUnbalanced", "(LDoubleLedger$Slip;)I"⟩
abbrev cX0_keepsLimits : ByteArray := prog_2_method_11_code
def yX0_keepsLimits : MethodName := ⟨RX0, "keepsLimits", "(LDoubleLedger$Slip;)Z"⟩
abbrev cX1_init : ByteArray := prog_3_method_1_code
def yX1_init : MethodName := ⟨RX1, "<init>", "()V"⟩
abbrev cX1_copyFrom : ByteArray := prog_3_method_2_code
def yX1_copyFrom : MethodName := ⟨RX1, "copyFrom", "(LDoubleLedger$Causes;)V"⟩
abbrev cX1_add : ByteArray := prog_3_method_3_code
def yX1_add : MethodName := ⟨RX1, "add", "(II)V"⟩
abbrev cX2_init : ByteArray := prog_4_method_1_code
def yX2_init : MethodName := ⟨RX2, "<init>", "()V"⟩
abbrev cX2_copyFrom : ByteArray := prog_4_method_2_code
def yX2_copyFrom : MethodName := ⟨RX2, "copyFrom", "(LDoubleLedger$Chart;)V"⟩
abbrev cX2_has : ByteArray := prog_4_method_3_code
def yX2_has : MethodName := ⟨RX2, "has", "(I)Z"⟩
abbrev cX2_add : ByteArray := prog_4_method_4_code
def yX2_add : MethodName := ⟨RX2, "add", "(III)I"⟩
abbrev cX2_isInBranch : ByteArray := prog_4_method_5_code
def yX2_isInBranch : MethodName := ⟨RX2, "isInBranch", "(II)Z"⟩
abbrev cX2_countStraightBelow : ByteArray := prog_4_method_6_code
def yX2_countStraightBelow : MethodName := ⟨RX2, "countStraightBelow", "(I)I"⟩
abbrev cX2_countBranch : ByteArray := prog_4_method_7_code
def yX2_countBranch : MethodName := ⟨RX2, "countBranch", "(I)I"⟩
abbrev cX2_countAbove : ByteArray := prog_4_method_8_code
def yX2_countAbove : MethodName := ⟨RX2, "countAbove", "(I)I"⟩
abbrev cX2_findMeeting : ByteArray := prog_4_method_9_code
def yX2_findMeeting : MethodName := ⟨RX2, "findMeeting", "(II)I"⟩
abbrev cX3_init : ByteArray := prog_5_method_1_code
def yX3_init : MethodName := ⟨RX3, "<init>", "()V"⟩
abbrev cX3_become : ByteArray := prog_5_method_2_code
def yX3_become : MethodName := ⟨RX3, "become", "(JJ)V"⟩
abbrev cX3_add : ByteArray := prog_5_method_3_code
def yX3_add : MethodName := ⟨RX3, "add", "(JJ)V"⟩
abbrev cX3_half : ByteArray := prog_5_method_4_code
def yX3_half : MethodName := ⟨RX3, "half", "(I)J"⟩
abbrev cX3_quotient : ByteArray := prog_5_method_5_code
def yX3_quotient : MethodName := ⟨RX3, "quotient", "()D"⟩
abbrev cX3_commonDivisor : ByteArray := prog_5_method_6_code
def yX3_commonDivisor : MethodName := ⟨RX3, "commonDivisor", "(JJ)J"⟩
abbrev cX4_init : ByteArray := prog_6_method_1_code
def yX4_init : MethodName := ⟨RX4, "<init>", "()V"⟩
abbrev cX4_copyFrom : ByteArray := prog_6_method_2_code
def yX4_copyFrom : MethodName := ⟨RX4, "copyFrom", "(LDoubleLedger$Journals;)V"⟩
abbrev cX4_has : ByteArray := prog_6_method_3_code
def yX4_has : MethodName := ⟨RX4, "has", "(I)Z"⟩
abbrev cX4_isFull : ByteArray := prog_6_method_4_code
def yX4_isFull : MethodName := ⟨RX4, "isFull", "()Z"⟩
abbrev cX4_add : ByteArray := prog_6_method_5_code
def yX4_add : MethodName := ⟨RX4, "add", "(LDoubleLedger$Slip;II)I"⟩
abbrev cX4_isReversible : ByteArray := prog_6_method_6_code
def yX4_isReversible : MethodName := ⟨RX4, "isReversible", "(I)Z"⟩
abbrev cX4_writeReversal : ByteArray := prog_6_method_7_code
def yX4_writeReversal : MethodName := ⟨RX4, "writeReversal", "(ILDoubleLedger$Slip;)V"⟩
abbrev cX4_isReversal : ByteArray := prog_6_method_8_code
def yX4_isReversal : MethodName := ⟨RX4, "isReversal", "(ILDoubleLedger$Slip;I)Z"⟩
abbrev cX4_countReversals : ByteArray := prog_6_method_9_code
def yX4_countReversals : MethodName := ⟨RX4, "countReversals", "()I"⟩
abbrev cX4_sum : ByteArray := prog_6_method_10_code
def yX4_sum : MethodName := ⟨RX4, "sum", "(III)J"⟩
abbrev cX4_sumIn : ByteArray := prog_6_method_11_code
def yX4_sumIn : MethodName := ⟨RX4, "sumIn", "(II)J"⟩
abbrev cX4_sealOver : ByteArray := prog_6_method_12_code
def yX4_sealOver : MethodName := ⟨RX4, "sealOver", "(II)J"⟩
abbrev cX4_sealWith : ByteArray := prog_6_method_13_code
def yX4_sealWith : MethodName := ⟨RX4, "sealWith", "(JI)J"⟩
abbrev cX4_countLines : ByteArray := prog_6_method_14_code
def yX4_countLines : MethodName := ⟨RX4, "countLines", "(I)I"⟩
abbrev cX4_lineAt : ByteArray := prog_6_method_15_code
def yX4_lineAt : MethodName := ⟨RX4, "lineAt", "(III)J"⟩
abbrev cX4_isLine : ByteArray := prog_6_method_16_code
def yX4_isLine : MethodName := ⟨RX4, "isLine", "(II)Z"⟩
abbrev cX4_lineOf : ByteArray := prog_6_method_17_code
def yX4_lineOf : MethodName := ⟨RX4, "lineOf", "(IJI)J"⟩
abbrev cX5_init : ByteArray := prog_7_method_1_code
def yX5_init : MethodName := ⟨RX5, "<init>", "()V"⟩
abbrev cX5_copyFrom : ByteArray := prog_7_method_2_code
def yX5_copyFrom : MethodName := ⟨RX5, "copyFrom", "(LDoubleLedger$Rates;)V"⟩
abbrev cX5_tell : ByteArray := prog_7_method_3_code
def yX5_tell : MethodName := ⟨RX5, "tell", "(IIII)I"⟩
abbrev cX5_findHeld : ByteArray := prog_7_method_4_code
def yX5_findHeld : MethodName := ⟨RX5, "findHeld", "(II)I"⟩
abbrev cX5_aboveAt : ByteArray := prog_7_method_5_code
def yX5_aboveAt : MethodName := ⟨RX5, "aboveAt", "(I)J"⟩
abbrev cX5_belowAt : ByteArray := prog_7_method_6_code
def yX5_belowAt : MethodName := ⟨RX5, "belowAt", "(I)J"⟩
abbrev cX6_init : ByteArray := prog_8_method_1_code
def yX6_init : MethodName := ⟨RX6, "<init>", "()V"⟩
abbrev cX6_make : ByteArray := prog_8_method_2_code
def yX6_make : MethodName := ⟨RX6, "make", "(II)V"⟩
abbrev cX6_isHeld : ByteArray := prog_8_method_3_code
def yX6_isHeld : MethodName := ⟨RX6, "isHeld", "(I)Z"⟩
abbrev cX6_hasPlace : ByteArray := prog_8_method_4_code
def yX6_hasPlace : MethodName := ⟨RX6, "hasPlace", "(II)Z"⟩
abbrev cX6_put : ByteArray := prog_8_method_5_code
def yX6_put : MethodName := ⟨RX6, "put", "(IIJ)V"⟩
abbrev cX6_at : ByteArray := prog_8_method_6_code
def yX6_at : MethodName := ⟨RX6, "at", "(II)J"⟩
abbrev cX7_init : ByteArray := prog_9_method_1_code
def yX7_init : MethodName := ⟨RX7, "<init>", "()V"⟩
abbrev cX7_write : ByteArray := prog_9_method_2_code
def yX7_write : MethodName := ⟨RX7, "write", "(LDoubleLedger$Journals;I)V"⟩
abbrev cX7_addNumber : ByteArray := prog_9_method_3_code
def yX7_addNumber : MethodName := ⟨RX7, "addNumber", "(I)V"⟩
abbrev cX7_add : ByteArray := prog_9_method_4_code
def yX7_add : MethodName := ⟨RX7, "add", "(I)V"⟩
abbrev cX8_init : ByteArray := prog_10_method_1_code
def yX8_init : MethodName := ⟨RX8, "<init>", "()V"⟩
abbrev cX8_copyFrom : ByteArray := prog_10_method_2_code
def yX8_copyFrom : MethodName := ⟨RX8, "copyFrom", "(LDoubleLedger$Slip;)V"⟩
abbrev cX8_add : ByteArray := prog_10_method_3_code
def yX8_add : MethodName := ⟨RX8, "add", "(II)V"⟩
abbrev cX8_sum : ByteArray := prog_10_method_4_code
def yX8_sum : MethodName := ⟨RX8, "sum", "(I)J"⟩
abbrev cX9_init : ByteArray := prog_11_method_1_code
def yX9_init : MethodName := ⟨RX9, "<init>", "()V"⟩
abbrev cX9_add : ByteArray := prog_11_method_2_code
def yX9_add : MethodName := ⟨RX9, "add", "(I)V"⟩
abbrev cX9_parse : ByteArray := prog_11_method_3_code
def yX9_parse : MethodName := ⟨RX9, "parse", "(LDoubleLedger$Chart;LDoubleLedger$Slip;)I"⟩
abbrev cX9_takePart : ByteArray := prog_11_method_4_code
def yX9_takePart : MethodName := ⟨RX9, "takePart", "(LDoubleLedger$Chart;LDoubleLedger$Slip;)I"⟩
abbrev cX9_takeReversed : ByteArray := prog_11_method_5_code
def yX9_takeReversed : MethodName := ⟨RX9, "takeReversed", "()I"⟩
abbrev cX9_takeFigures : ByteArray := prog_11_method_6_code
def yX9_takeFigures : MethodName := ⟨RX9, "takeFigures", "(I)I"⟩
abbrev cX9_here : ByteArray := prog_11_method_7_code
def yX9_here : MethodName := ⟨RX9, "here", "()I"⟩
abbrev cX10_init : ByteArray := prog_1_method_1_code
def yX10_init : MethodName := ⟨RX10, "<init>", "()V"⟩
abbrev cX10_account : ByteArray := prog_1_method_2_code
def yX10_account : MethodName := ⟨RX10, "account", "(III)I"⟩
abbrev cX10_of : ByteArray := prog_1_method_3_code
def yX10_of : MethodName := ⟨RX10, "of", "(II)I"⟩
abbrev cX10_limits : ByteArray := prog_1_method_4_code
def yX10_limits : MethodName := ⟨RX10, "limits", "(IJJ)I"⟩
abbrev cX10_days : ByteArray := prog_1_method_5_code
def yX10_days : MethodName := ⟨RX10, "days", "(I)I"⟩
abbrev cX10_begin : ByteArray := prog_1_method_6_code
def yX10_begin : MethodName := ⟨RX10, "begin", "()I"⟩
abbrev cX10_posting : ByteArray := prog_1_method_7_code
def yX10_posting : MethodName := ⟨RX10, "posting", "(IJ)I"⟩
abbrev cX10_cancel : ByteArray := prog_1_method_8_code
def yX10_cancel : MethodName := ⟨RX10, "cancel", "()I"⟩
abbrev cX10_post : ByteArray := prog_1_method_9_code
def yX10_post : MethodName := ⟨RX10, "post", "()I"⟩
abbrev cX10_reverse : ByteArray := prog_1_method_10_code
def yX10_reverse : MethodName := ⟨RX10, "reverse", "(I)I"⟩
abbrev cX10_journal : ByteArray := prog_1_method_11_code
def yX10_journal : MethodName := ⟨RX10, "journal", "(II)I"⟩
abbrev cX10_part : ByteArray := prog_1_method_12_code
def yX10_part : MethodName := ⟨RX10, "part", "(III)J"⟩
abbrev cX10_cause : ByteArray := prog_1_method_13_code
def yX10_cause : MethodName := ⟨RX10, "cause", "(II)I"⟩
abbrev cX10_balance : ByteArray := prog_1_method_14_code
def yX10_balance : MethodName := ⟨RX10, "balance", "(II)J"⟩
abbrev cX10_branch : ByteArray := prog_1_method_15_code
def yX10_branch : MethodName := ⟨RX10, "branch", "(III)J"⟩
abbrev cX10_close : ByteArray := prog_1_method_16_code
def yX10_close : MethodName := ⟨RX10, "close", "(I)I"⟩
abbrev cX10_seal : ByteArray := prog_1_method_17_code
def yX10_seal : MethodName := ⟨RX10, "seal", "(I)J"⟩
abbrev cX10_audit : ByteArray := prog_1_method_18_code
def yX10_audit : MethodName := ⟨RX10, "audit", "()I"⟩
abbrev cX10_rate : ByteArray := prog_1_method_19_code
def yX10_rate : MethodName := ⟨RX10, "rate", "(IIII)I"⟩
abbrev cX10_rateOf : ByteArray := prog_1_method_20_code
def yX10_rateOf : MethodName := ⟨RX10, "rateOf", "(III)I"⟩
abbrev cX10_value : ByteArray := prog_1_method_21_code
def yX10_value : MethodName := ⟨RX10, "value", "(III)J"⟩
abbrev cX10_real : ByteArray := prog_1_method_22_code
def yX10_real : MethodName := ⟨RX10, "real", "(III)I"⟩
abbrev cX10_gain : ByteArray := prog_1_method_23_code
def yX10_gain : MethodName := ⟨RX10, "gain", "(IIIII)J"⟩
abbrev cX10_line : ByteArray := prog_1_method_24_code
def yX10_line : MethodName := ⟨RX10, "line", "(III)J"⟩
abbrev cX10_trial : ByteArray := prog_1_method_25_code
def yX10_trial : MethodName := ⟨RX10, "trial", "(III)J"⟩
abbrev cX10_sorts : ByteArray := prog_1_method_26_code
def yX10_sorts : MethodName := ⟨RX10, "sorts", "(II)J"⟩
abbrev cX10_budget : ByteArray := prog_1_method_27_code
def yX10_budget : MethodName := ⟨RX10, "budget", "(IIJ)I"⟩
abbrev cX10_left : ByteArray := prog_1_method_28_code
def yX10_left : MethodName := ⟨RX10, "left", "(II)J"⟩
abbrev cX10_extreme : ByteArray := prog_1_method_29_code
def yX10_extreme : MethodName := ⟨RX10, "extreme", "(II)I"⟩
abbrev cX10_meet : ByteArray := prog_1_method_30_code
def yX10_meet : MethodName := ⟨RX10, "meet", "(II)I"⟩
abbrev cX10_feed : ByteArray := prog_1_method_31_code
def yX10_feed : MethodName := ⟨RX10, "feed", "(I)I"⟩
abbrev cX10_clear : ByteArray := prog_1_method_32_code
def yX10_clear : MethodName := ⟨RX10, "clear", "()I"⟩
abbrev cX10_read : ByteArray := prog_1_method_33_code
def yX10_read : MethodName := ⟨RX10, "read", "()I"⟩
abbrev cX10_spell : ByteArray := prog_1_method_34_code
def yX10_spell : MethodName := ⟨RX10, "spell", "(I)I"⟩
abbrev cX10_paper : ByteArray := prog_1_method_35_code
def yX10_paper : MethodName := ⟨RX10, "paper", "(I)I"⟩
abbrev cX10_told : ByteArray := prog_1_method_36_code
def yX10_told : MethodName := ⟨RX10, "told", "(I)I"⟩
abbrev cX10_list : ByteArray := prog_1_method_37_code
def yX10_list : MethodName := ⟨RX10, "list", "(II)I"⟩
abbrev cX10_set : ByteArray := prog_1_method_38_code
def yX10_set : MethodName := ⟨RX10, "set", "(IIJ)I"⟩
abbrev cX10_get : ByteArray := prog_1_method_39_code
def yX10_get : MethodName := ⟨RX10, "get", "(II)J"⟩
abbrev cX10_lay : ByteArray := prog_1_method_40_code
def yX10_lay : MethodName := ⟨RX10, "lay", "(II)I"⟩
abbrev cX10_judge : ByteArray := prog_1_method_41_code
def yX10_judge : MethodName := ⟨RX10, "judge", "(II)I"⟩
abbrev cX10_image : ByteArray := prog_1_method_42_code
def yX10_image : MethodName := ⟨RX10, "image", "()I"⟩
abbrev cX10_undo : ByteArray := prog_1_method_43_code
def yX10_undo : MethodName := ⟨RX10, "undo", "()I"⟩
abbrev cX10_isCurrency : ByteArray := prog_1_method_44_code
def yX10_isCurrency : MethodName := ⟨RX10, "isCurrency", "(I)Z"⟩
abbrev cX10_isSort : ByteArray := prog_1_method_45_code
def yX10_isSort : MethodName := ⟨RX10, "isSort", "(I)Z"⟩
abbrev cX10_isDay : ByteArray := prog_1_method_46_code
def yX10_isDay : MethodName := ⟨RX10, "isDay", "(I)Z"⟩
abbrev cX10_isPeriod : ByteArray := prog_1_method_47_code
def yX10_isPeriod : MethodName := ⟨RX10, "isPeriod", "(I)Z"⟩
abbrev cX10_isRatePart : ByteArray := prog_1_method_48_code
def yX10_isRatePart : MethodName := ⟨RX10, "isRatePart", "(I)Z"⟩
abbrev cX10_isList : ByteArray := prog_1_method_49_code
def yX10_isList : MethodName := ⟨RX10, "isList", "(I)Z"⟩
abbrev cX10_isOneOfTwo : ByteArray := prog_1_method_50_code
def yX10_isOneOfTwo : MethodName := ⟨RX10, "isOneOfTwo", "(I)Z"⟩
abbrev cX10_firstDay : ByteArray := prog_1_method_51_code
def yX10_firstDay : MethodName := ⟨RX10, "firstDay", "(I)I"⟩
abbrev cX10_lastDay : ByteArray := prog_1_method_52_code
def yX10_lastDay : MethodName := ⟨RX10, "lastDay", "(I)I"⟩
abbrev cX10_bitsOfDouble : ByteArray := prog_1_method_53_code
def yX10_bitsOfDouble : MethodName := ⟨RX10, "bitsOfDouble", "(D)J"⟩
abbrev cX10_bitsOfFloat : ByteArray := prog_1_method_54_code
def yX10_bitsOfFloat : MethodName := ⟨RX10, "bitsOfFloat", "(F)I"⟩
abbrev cX10_bitsInForm : ByteArray := prog_1_method_55_code
def yX10_bitsInForm : MethodName := ⟨RX10, "bitsInForm", "(DII)J"⟩
abbrev cX11_in : ByteArray := prog_13_method_2_code
def yX11_in : MethodName := ⟨RX11, "in", "(III)Z"⟩
abbrev cX11_init : ByteArray := prog_13_method_3_code
def yX11_init : MethodName := ⟨RX11, "<init>", "()V"⟩
abbrev cX11_isAccount : ByteArray := prog_13_method_4_code
def yX11_isAccount : MethodName := ⟨RX11, "isAccount", "(I)Z"⟩
abbrev cX11_isCurrency : ByteArray := prog_13_method_5_code
def yX11_isCurrency : MethodName := ⟨RX11, "isCurrency", "(I)Z"⟩
abbrev cX11_isDay : ByteArray := prog_13_method_6_code
def yX11_isDay : MethodName := ⟨RX11, "isDay", "(I)Z"⟩
abbrev cX11_isJournal : ByteArray := prog_13_method_7_code
def yX11_isJournal : MethodName := ⟨RX11, "isJournal", "(I)Z"⟩
abbrev cX11_addAccount : ByteArray := prog_13_method_8_code
def yX11_addAccount : MethodName := ⟨RX11, "addAccount", "(III)I"⟩
abbrev cX11_account : ByteArray := prog_13_method_9_code
def yX11_account : MethodName := ⟨RX11, "account", "(III)I"⟩
abbrev cX11_isOf : ByteArray := prog_13_method_10_code
def yX11_isOf : MethodName := ⟨RX11, "isOf", "(II)Z"⟩
abbrev cX11_above : ByteArray := prog_13_method_11_code
def yX11_above : MethodName := ⟨RX11, "above", "(I)I"⟩
abbrev cX11_of : ByteArray := prog_13_method_12_code
def yX11_of : MethodName := ⟨RX11, "of", "(II)I"⟩
abbrev cX11_balanceBy : ByteArray := prog_13_method_13_code
def yX11_balanceBy : MethodName := ⟨RX11, "balanceBy", "(II)J"⟩
abbrev cX11_branchBy : ByteArray := prog_13_method_14_code
def yX11_branchBy : MethodName := ⟨RX11, "branchBy", "(III)J"⟩
abbrev cX11_balance : ByteArray := prog_13_method_15_code
def yX11_balance : MethodName := ⟨RX11, "balance", "(II)J"⟩
abbrev cX11_branch : ByteArray := prog_13_method_16_code
def yX11_branch : MethodName := ⟨RX11, "branch", "(III)J"⟩
abbrev cX11_limits : ByteArray := prog_13_method_17_code
def yX11_limits : MethodName := ⟨RX11, "limits", "(IJJ)I"⟩
abbrev cX11_days : ByteArray := prog_13_method_18_code
def yX11_days : MethodName := ⟨RX11, "days", "(I)I"⟩
abbrev cX11_postings : ByteArray := prog_13_method_19_code
def yX11_postings : MethodName := ⟨RX11, "postings", "()I"⟩
abbrev cX11_begin : ByteArray := prog_13_method_20_code
def yX11_begin : MethodName := ⟨RX11, "begin", "()I"⟩
abbrev cX11_layPosting : ByteArray := prog_13_method_21_code
def yX11_layPosting : MethodName := ⟨RX11, "layPosting", "(IJ)V"⟩
abbrev cX11_posting : ByteArray := prog_13_method_22_code
def yX11_posting : MethodName := ⟨RX11, "posting", "(IJ)I"⟩
abbrev cX11_cancel : ByteArray := prog_13_method_23_code
def yX11_cancel : MethodName := ⟨RX11, "cancel", "()I"⟩
abbrev cX11_addCause : ByteArray := prog_13_method_24_code
def yX11_addCause : MethodName := ⟨RX11, "addCause", "(II)V"⟩
abbrev cX11_causedAs : ByteArray := prog_13_method_25_code
def yX11_causedAs : MethodName := ⟨RX11, "causedAs", "(II)Z"⟩
abbrev cX11_isUnbalanced : ByteArray := prog_13_method_26_code
def yX11_isUnbalanced : MethodName := ⟨RX11, "isUnbalanced", "()Z"⟩
abbrev cX11_behind : ByteArray := prog_13_method_27_code
def yX11_behind : MethodName := ⟨RX11, "behind", "(I)J"⟩
abbrev cX11_isBeyond : ByteArray := prog_13_method_28_code
def yX11_isBeyond : MethodName := ⟨RX11, "isBeyond", "()Z"⟩
abbrev cX11_isHindered : ByteArray := prog_13_method_29_code
def yX11_isHindered : MethodName := ⟨RX11, "isHindered", "()Z"⟩
abbrev cX11_posted : ByteArray := prog_13_method_30_code
def yX11_posted : MethodName := ⟨RX11, "posted", "(I)I"⟩
abbrev cX11_post : ByteArray := prog_13_method_31_code
def yX11_post : MethodName := ⟨RX11, "post", "()I"⟩
abbrev cX11_mayBeReversed : ByteArray := prog_13_method_32_code
def yX11_mayBeReversed : MethodName := ⟨RX11, "mayBeReversed", "(I)Z"⟩
abbrev cX11_reversed : ByteArray := prog_13_method_33_code
def yX11_reversed : MethodName := ⟨RX11, "reversed", "(I)I"⟩
abbrev cX11_reverse : ByteArray := prog_13_method_34_code
def yX11_reverse : MethodName := ⟨RX11, "reverse", "(I)I"⟩
abbrev cX11_journal : ByteArray := prog_13_method_35_code
def yX11_journal : MethodName := ⟨RX11, "journal", "(II)I"⟩
abbrev cX11_part : ByteArray := prog_13_method_36_code
def yX11_part : MethodName := ⟨RX11, "part", "(III)J"⟩
abbrev cX11_cause : ByteArray := prog_13_method_37_code
def yX11_cause : MethodName := ⟨RX11, "cause", "(II)I"⟩
abbrev cX11_sealOf : ByteArray := prog_13_method_38_code
def yX11_sealOf : MethodName := ⟨RX11, "sealOf", "(I)J"⟩
abbrev cX11_close : ByteArray := prog_13_method_39_code
def yX11_close : MethodName := ⟨RX11, "close", "(I)I"⟩
abbrev cX11_seal : ByteArray := prog_13_method_40_code
def yX11_seal : MethodName := ⟨RX11, "seal", "(I)J"⟩
abbrev cX11_audit : ByteArray := prog_13_method_41_code
def yX11_audit : MethodName := ⟨RX11, "audit", "()I"⟩
abbrev cX11_rateAt : ByteArray := prog_13_method_42_code
def yX11_rateAt : MethodName := ⟨RX11, "rateAt", "(II)I"⟩
abbrev cX11_rate : ByteArray := prog_13_method_43_code
def yX11_rate : MethodName := ⟨RX11, "rate", "(IIII)I"⟩
abbrev cX11_fraction : ByteArray := prog_13_method_44_code
def yX11_fraction : MethodName := ⟨RX11, "fraction", "(JJ)V"⟩
abbrev cX11_rateBy : ByteArray := prog_13_method_45_code
def yX11_rateBy : MethodName := ⟨RX11, "rateBy", "(II)V"⟩
abbrev cX11_rateOf : ByteArray := prog_13_method_46_code
def yX11_rateOf : MethodName := ⟨RX11, "rateOf", "(III)I"⟩
abbrev cX11_valueBy : ByteArray := prog_13_method_47_code
def yX11_valueBy : MethodName := ⟨RX11, "valueBy", "(II)V"⟩
abbrev cX11_value : ByteArray := prog_13_method_48_code
def yX11_value : MethodName := ⟨RX11, "value", "(III)J"⟩
abbrev cX11_real : ByteArray := prog_13_method_49_code
def yX11_real : MethodName := ⟨RX11, "real", "(III)I"⟩
abbrev cX11_gain : ByteArray := prog_13_method_50_code
def yX11_gain : MethodName := ⟨RX11, "gain", "(IIIII)J"⟩
abbrev cX11_linesOf : ByteArray := prog_13_method_51_code
def yX11_linesOf : MethodName := ⟨RX11, "linesOf", "(I)I"⟩
abbrev cX11_journalOf : ByteArray := prog_13_method_52_code
def yX11_journalOf : MethodName := ⟨RX11, "journalOf", "(I)I"⟩
abbrev cX11_line : ByteArray := prog_13_method_53_code
def yX11_line : MethodName := ⟨RX11, "line", "(III)J"⟩
abbrev cX11_trial : ByteArray := prog_13_method_54_code
def yX11_trial : MethodName := ⟨RX11, "trial", "(III)J"⟩
abbrev cX11_sorts : ByteArray := prog_13_method_55_code
def yX11_sorts : MethodName := ⟨RX11, "sorts", "(II)J"⟩
abbrev cX11_budget : ByteArray := prog_13_method_56_code
def yX11_budget : MethodName := ⟨RX11, "budget", "(IIJ)I"⟩
abbrev cX11_left : ByteArray := prog_13_method_57_code
def yX11_left : MethodName := ⟨RX11, "left", "(II)J"⟩
abbrev cX11_extreme : ByteArray := prog_13_method_58_code
def yX11_extreme : MethodName := ⟨RX11, "extreme", "(II)I"⟩
abbrev cX11_meet : ByteArray := prog_13_method_59_code
def yX11_meet : MethodName := ⟨RX11, "meet", "(II)I"⟩
abbrev cX11_feed : ByteArray := prog_13_method_60_code
def yX11_feed : MethodName := ⟨RX11, "feed", "(I)I"⟩
abbrev cX11_clear : ByteArray := prog_13_method_61_code
def yX11_clear : MethodName := ⟨RX11, "clear", "()I"⟩
abbrev cX11_here : ByteArray := prog_13_method_62_code
def yX11_here : MethodName := ⟨RX11, "here", "()I"⟩
abbrev cX11_wrong : ByteArray := prog_13_method_63_code
def yX11_wrong : MethodName := ⟨RX11, "wrong", "(I)V"⟩
abbrev cX11_expect : ByteArray := prog_13_method_64_code
def yX11_expect : MethodName := ⟨RX11, "expect", "(I)V"⟩
abbrev cX11_figures : ByteArray := prog_13_method_65_code
def yX11_figures : MethodName := ⟨RX11, "figures", "(I)I"⟩
abbrev cX11_readPart : ByteArray := prog_13_method_66_code
def yX11_readPart : MethodName := ⟨RX11, "readPart", "()V"⟩
abbrev cX11_readText : ByteArray := prog_13_method_67_code
def yX11_readText : MethodName := ⟨RX11, "readText", "()V"⟩
abbrev cX11_doReverse : ByteArray := prog_13_method_68_code
def yX11_doReverse : MethodName := ⟨RX11, "doReverse", "(I)Z"⟩
abbrev cX11_read : ByteArray := prog_13_method_69_code
def yX11_read : MethodName := ⟨RX11, "read", "()I"⟩
abbrev cX11_put : ByteArray := prog_13_method_70_code
def yX11_put : MethodName := ⟨RX11, "put", "(I)V"⟩
abbrev cX11_putNumber : ByteArray := prog_13_method_71_code
def yX11_putNumber : MethodName := ⟨RX11, "putNumber", "(J)V"⟩
abbrev cX11_spell : ByteArray := prog_13_method_72_code
def yX11_spell : MethodName := ⟨RX11, "spell", "(I)I"⟩
abbrev cX11_paper : ByteArray := prog_13_method_73_code
def yX11_paper : MethodName := ⟨RX11, "paper", "(I)I"⟩
abbrev cX11_told : ByteArray := prog_13_method_74_code
def yX11_told : MethodName := ⟨RX11, "told", "(I)I"⟩
abbrev cX11_isList : ByteArray := prog_13_method_75_code
def yX11_isList : MethodName := ⟨RX11, "isList", "(I)Z"⟩
abbrev cX11_list : ByteArray := prog_13_method_76_code
def yX11_list : MethodName := ⟨RX11, "list", "(II)I"⟩
abbrev cX11_set : ByteArray := prog_13_method_77_code
def yX11_set : MethodName := ⟨RX11, "set", "(IIJ)I"⟩
abbrev cX11_get : ByteArray := prog_13_method_78_code
def yX11_get : MethodName := ⟨RX11, "get", "(II)J"⟩
abbrev cX11_lay : ByteArray := prog_13_method_79_code
def yX11_lay : MethodName := ⟨RX11, "lay", "(II)I"⟩
abbrev cX11_judge : ByteArray := prog_13_method_80_code
def yX11_judge : MethodName := ⟨RX11, "judge", "(II)I"⟩
abbrev cX11_copy : ByteArray := prog_13_method_81_code
def yX11_copy : MethodName := ⟨RX11, "copy", "(Z)V"⟩
abbrev cX11_image : ByteArray := prog_13_method_82_code
def yX11_image : MethodName := ⟨RX11, "image", "()I"⟩
abbrev cX11_undo : ByteArray := prog_13_method_83_code
def yX11_undo : MethodName := ⟨RX11, "undo", "()I"⟩
abbrev cJxe99ae_isNaN_b9ae7 : ByteArray := prog_14_method_6_code
def yJxe99ae_isNaN_b9ae7 : MethodName := ⟨RX13, "isNaN", "(D)Z"⟩
abbrev cJxe99ae_doubleToLongBits_ccdee : ByteArray := prog_14_method_23_code
def yJxe99ae_doubleToLongBits_ccdee : MethodName := ⟨RX13, "doubleToLongBits", "(D)J"⟩
abbrev cJxf58ca_isNaN_12338 : ByteArray := prog_15_method_6_code
def yJxf58ca_isNaN_12338 : MethodName := ⟨RX14, "isNaN", "(F)Z"⟩
abbrev cJxf58ca_floatToIntBits_5c35a : ByteArray := prog_15_method_24_code
def yJxf58ca_floatToIntBits_5c35a : MethodName := ⟨RX14, "floatToIntBits", "(F)I"⟩
abbrev cJ9_abs_0f7a4 : ByteArray := prog_16_method_59_code
def yJ9_abs_0f7a4 : MethodName := ⟨RX15, "abs", "(I)I"⟩
abbrev cJ9_abs_067f4 : ByteArray := prog_16_method_61_code
def yJ9_abs_067f4 : MethodName := ⟨RX15, "abs", "(J)J"⟩
abbrev cJ9_max_f86c9 : ByteArray := prog_16_method_66_code
def yJ9_max_f86c9 : MethodName := ⟨RX15, "max", "(JJ)J"⟩
abbrev cJ9_min_f86c9 : ByteArray := prog_16_method_70_code
def yJ9_min_f86c9 : MethodName := ⟨RX15, "min", "(JJ)J"⟩
abbrev cL_law : ByteArray := code
def yL_law : MethodName := ⟨RX12, "law", "([I)Z"⟩
abbrev vwCl : List vw_C := [(RX0, TX0, 9), (RX1, TX1, 3), (RX2, TX2, 7), (RX3, TX3, 2), (RX4, TX4, 7), (RX5, TX5, 4), (RX6, TX6, 2), (RX7, TX7, 2), (RX8, TX8, 3), (RX9, TX9, 5), (RX10, TX10, 7), (RX11, TX11, 21)]
end
section
/-! the small machine: its data. zMt: a method: name, bytes, locals, answer, class, level, code (in pieces, each with the bound of its places) -/
abbrev zI : Type := Nat → Nat → Int32
abbrev zL : Type := Nat → Nat → Int64
abbrev zF : Type := Nat ⊕ Option Nat
abbrev zS : Type := (Nat × Nat) ⊕ (Nat × List zF)
abbrev zM : Type := List zS × zI × zL
abbrev zCd : Type := List (Nat × List (Nat × Instr × Nat))
abbrev zMt : Type := MethodName × ByteArray × Nat × Option FieldType × Nat × Nat × zCd × List (Nat × List Nat)
def zfd {α : Type} : List (Nat × α) → Nat → Option α
  | [], _ => none
  | (a, v) :: t, k => bif Nat.beq a k then some v else zfd t k
def zfd2 {α : Type} : List (Nat × List (Nat × α)) → Nat → Option α
  | [], _ => none
  | (b, l) :: t, k => bif Nat.blt k b then zfd l k else zfd2 t k
def zlook {α : Type} (t : List (Nat × List (Nat × List (Nat × α)))) (own idx : Nat) : Option α := match zfd t own with
  | none => none
  | some c => zfd2 c idx
abbrev zy (m : zMt) : MethodName := m.1
abbrev zb (m : zMt) : ByteArray := m.2.1
abbrev zmx (m : zMt) : Nat := m.2.2.1
abbrev zrt (m : zMt) : Option FieldType := m.2.2.2.1
abbrev zow (m : zMt) : Nat := m.2.2.2.2.1
abbrev zlv (m : zMt) : Nat := m.2.2.2.2.2.1
abbrev zcd (m : zMt) : zCd := m.2.2.2.2.2.2.1
abbrev zfg (m : zMt) : List (Nat × List Nat) := m.2.2.2.2.2.2.2
def mt_X0_init : zMt := (yX0_init, cX0_init, 1, none, 0, 1, [(42, [(0, .aload_n 0, 1), (1, .invokespecial 3, 3), (4, .aload_n 0, 1), (5, .new 9, 3), (8, .dup, 1), (9, .invokespecial 11, 3), (12, .putfield 12, 3), (15, .aload_n 0, 1), (16, .new 18, 3), (19, .dup, 1), (20, .invokespecial 20, 3), (23, .putfield 21, 3), (26, .aload_n 0, 1), (27, .new 25, 3), (30, .dup, 1), (31, .invokespecial 27, 3), (34, .putfield 28, 3), (37, .aload_n 0, 1), (38, .new 32, 3), (41, .dup, 1)]), (82, [(42, .invokespecial 34, 3), (45, .putfield 35, 3), (48, .aload_n 0, 1), (49, .new 39, 3), (52, .dup, 1), (53, .invokespecial 41, 3), (56, .putfield 42, 3), (59, .aload_n 0, 1), (60, .iconst 0, 1), (61, .putfield 46, 3), (64, .aload_n 0, 1), (65, .iconst 0, 1), (66, .putfield 50, 3), (69, .aload_n 0, 1), (70, .iconst 0, 1), (71, .putfield 54, 3), (74, .aload_n 0, 1), (75, .bipush 10, 2), (77, .newarray .long, 2), (79, .putfield 57, 3)]), (100000, [(82, .return_, 1)])], [])
def mt_X0_copyFrom : zMt := (yX0_copyFrom, cX0_copyFrom, 2, none, 0, 1, [(44, [(0, .aload_n 0, 1), (1, .getfield 12, 3), (4, .aload_n 1, 1), (5, .getfield 12, 3), (8, .invokevirtual 61, 3), (11, .aload_n 0, 1), (12, .getfield 21, 3), (15, .aload_n 1, 1), (16, .getfield 21, 3), (19, .invokevirtual 65, 3), (22, .aload_n 0, 1), (23, .getfield 28, 3), (26, .aload_n 1, 1), (27, .getfield 28, 3), (30, .invokevirtual 68, 3), (33, .aload_n 0, 1), (34, .getfield 35, 3), (37, .aload_n 1, 1), (38, .getfield 35, 3), (41, .invokevirtual 71, 3)]), (84, [(44, .aload_n 0, 1), (45, .getfield 42, 3), (48, .aload_n 1, 1), (49, .getfield 42, 3), (52, .invokevirtual 74, 3), (55, .aload_n 0, 1), (56, .aload_n 1, 1), (57, .getfield 46, 3), (60, .putfield 46, 3), (63, .aload_n 0, 1), (64, .aload_n 1, 1), (65, .getfield 50, 3), (68, .putfield 50, 3), (71, .aload_n 0, 1), (72, .aload_n 1, 1), (73, .getfield 54, 3), (76, .putfield 54, 3), (79, .aload_n 1, 1), (80, .getfield 57, 3), (83, .iconst 0, 1)]), (100000, [(84, .aload_n 0, 1), (85, .getfield 57, 3), (88, .iconst 0, 1), (89, .bipush 10, 2), (91, .invokestatic 77, 3), (94, .return_, 1)])], [])
def mt_X0_isClosedOn : zMt := (yX0_isClosedOn, cX0_isClosedOn, 2, (some .boolean), 0, 0, [(100000, [(0, .iload_n 1, 1), (1, .bipush 100, 2), (3, .idiv, 1), (4, .aload_n 0, 1), (5, .getfield 54, 3), (8, .if_icmp .ge 7, 3), (11, .iconst 1, 1), (12, .goto 4, 3), (15, .iconst 0, 1), (16, .ireturn, 1)])], [])
def mt_X0_sumByNow : zMt := (yX0_sumByNow, cX0_sumByNow, 2, (some .long), 0, 2, [(100000, [(0, .aload_n 0, 1), (1, .getfield 21, 3), (4, .iload_n 1, 1), (5, .iconst 0, 1), (6, .aload_n 0, 1), (7, .getfield 50, 3), (10, .invokevirtual 83, 3), (13, .lreturn, 1)])], [])
def mt_X0_sumOfBranch : zMt := (yX0_sumOfBranch, cX0_sumOfBranch, 8, (some .long), 0, 2, [(39, [(0, .lconst 0, 1), (1, .lstore 5, 2), (3, .iload_n 1, 1), (4, .istore 7, 2), (6, .iload 7, 2), (8, .aload_n 0, 1), (9, .getfield 12, 3), (12, .getfield 87, 3), (15, .if_icmp .ge 53, 3), (18, .aload_n 0, 1), (19, .getfield 12, 3), (22, .getfield 90, 3), (25, .iload 7, 2), (27, .iaload, 1), (28, .iload_n 2, 1), (29, .if_icmp .ne 33, 3), (32, .aload_n 0, 1), (33, .getfield 12, 3), (36, .iload 7, 2), (38, .iload_n 1, 1)]), (100000, [(39, .invokevirtual 94, 3), (42, .ifCond .eq 20, 3), (45, .lload 5, 2), (47, .aload_n 0, 1), (48, .getfield 21, 3), (51, .iload 7, 2), (53, .iload_n 3, 1), (54, .iload 4, 2), (56, .invokevirtual 83, 3), (59, .ladd, 1), (60, .lstore 5, 2), (62, .iinc 7 1, 3), (65, .goto (-59), 3), (68, .lload 5, 2), (70, .lreturn, 1)])], [])
def mt_X0_writeValue : zMt := (yX0_writeValue, cX0_writeValue, 8, none, 0, 3, [(33, [(0, .aload_n 3, 1), (1, .lconst 0, 1), (2, .lconst 1, 1), (3, .invokevirtual 98, 3), (6, .iconst 0, 1), (7, .istore 4, 2), (9, .iload 4, 2), (11, .iconst 4, 1), (12, .if_icmp .ge 57, 3), (15, .aload_n 0, 1), (16, .getfield 28, 3), (19, .iload 4, 2), (21, .iload_n 2, 1), (22, .invokevirtual 104, 3), (25, .istore 5, 2), (27, .aload_n 0, 1), (28, .iload_n 1, 1), (29, .iload 4, 2), (31, .iconst 0, 1), (32, .iload_n 2, 1)]), (100000, [(33, .invokevirtual 108, 3), (36, .lstore 6, 2), (38, .aload_n 3, 1), (39, .lload 6, 2), (41, .aload_n 0, 1), (42, .getfield 28, 3), (45, .iload 5, 2), (47, .invokevirtual 112, 3), (50, .lmul, 1), (51, .aload_n 0, 1), (52, .getfield 28, 3), (55, .iload 5, 2), (57, .invokevirtual 116, 3), (60, .invokevirtual 119, 3), (63, .iinc 4 1, 3), (66, .goto (-57), 3), (69, .return_, 1)])], [(9, [5, 6])])
def mt_X0_writeGain : zMt := (yX0_writeGain, cX0_writeGain, 8, none, 0, 3, [(40, [(0, .aload_n 0, 1), (1, .getfield 28, 3), (4, .iload_n 2, 1), (5, .iload_n 3, 1), (6, .invokevirtual 104, 3), (9, .istore 6, 2), (11, .aload_n 0, 1), (12, .getfield 28, 3), (15, .iload_n 2, 1), (16, .iload 4, 2), (18, .invokevirtual 104, 3), (21, .istore 7, 2), (23, .aload 5, 2), (25, .aload_n 0, 1), (26, .getfield 28, 3), (29, .iload 7, 2), (31, .invokevirtual 112, 3), (34, .aload_n 0, 1), (35, .getfield 28, 3), (38, .iload 7, 2)]), (81, [(40, .invokevirtual 116, 3), (43, .invokevirtual 98, 3), (46, .aload 5, 2), (48, .aload_n 0, 1), (49, .getfield 28, 3), (52, .iload 6, 2), (54, .invokevirtual 112, 3), (57, .lneg, 1), (58, .aload_n 0, 1), (59, .getfield 28, 3), (62, .iload 6, 2), (64, .invokevirtual 116, 3), (67, .invokevirtual 119, 3), (70, .aload 5, 2), (72, .aload 5, 2), (74, .getfield 122, 3), (77, .aload_n 0, 1), (78, .iload_n 1, 1), (79, .iload_n 2, 1), (80, .iconst 0, 1)]), (100000, [(81, .iload 4, 2), (83, .invokevirtual 108, 3), (86, .lmul, 1), (87, .aload 5, 2), (89, .getfield 126, 3), (92, .invokevirtual 98, 3), (95, .return_, 1)])], [])
def mt_X0_tryToPost : zMt := (yX0_tryToPost, cX0_tryToPost, 3, (some .int), 0, 5, [(41, [(0, .aload_n 0, 1), (1, .getfield 35, 3), (4, .iconst 0, 1), (5, .putfield 129, 3), (8, .iload_n 2, 1), (9, .bipush (-5), 2), (11, .if_icmp .eq 13, 3), (14, .aload_n 0, 1), (15, .getfield 35, 3), (18, .bipush 7, 2), (20, .iload_n 2, 1), (21, .invokevirtual 130, 3), (24, .aload_n 0, 1), (25, .aload_n 1, 1), (26, .invokevirtual 133, 3), (29, .ifCond .ne 16, 3), (32, .bipush (-10), 2), (34, .aload_n 0, 1), (35, .getfield 35, 3), (38, .getfield 137, 3)]), (100000, [(41, .iconst 0, 1), (42, .iaload, 1), (43, .isub, 1), (44, .ireturn, 1), (45, .aload_n 0, 1), (46, .getfield 35, 3), (49, .iconst 0, 1), (50, .putfield 129, 3), (53, .aload_n 0, 1), (54, .getfield 21, 3), (57, .aload_n 1, 1), (58, .aload_n 0, 1), (59, .getfield 50, 3), (62, .iload_n 2, 1), (63, .invokevirtual 140, 3), (66, .ireturn, 1)])], [])
def mt_X0_canBePosted : zMt := (yX0_canBePosted, cX0_canBePosted, 3, (some .boolean), 0, 4, [(35, [(0, .aload_n 1, 1), (1, .getfield 143, 3), (4, .iconst 2, 1), (5, .if_icmp .ge 17, 3), (8, .aload_n 0, 1), (9, .getfield 35, 3), (12, .iconst 2, 1), (13, .aload_n 1, 1), (14, .getfield 143, 3), (17, .invokevirtual 130, 3), (20, .iconst 0, 1), (21, .ireturn, 1), (22, .aload_n 0, 1), (23, .aload_n 1, 1), (24, .invokevirtual 146, 3), (27, .istore_n 2, 1), (28, .iload_n 2, 1), (29, .bipush (-5), 2), (31, .if_icmp .eq 14, 3), (34, .aload_n 0, 1)]), (72, [(35, .getfield 35, 3), (38, .iconst 1, 1), (39, .iload_n 2, 1), (40, .invokevirtual 130, 3), (43, .iconst 0, 1), (44, .ireturn, 1), (45, .aload_n 0, 1), (46, .aload_n 0, 1), (47, .getfield 50, 3), (50, .invokevirtual 150, 3), (53, .ifCond .eq 20, 3), (56, .aload_n 0, 1), (57, .getfield 35, 3), (60, .iconst 3, 1), (61, .aload_n 0, 1), (62, .getfield 50, 3), (65, .bipush 100, 2), (67, .idiv, 1), (68, .invokevirtual 130, 3), (71, .iconst 0, 1)]), (100000, [(72, .ireturn, 1), (73, .aload_n 0, 1), (74, .aload_n 1, 1), (75, .invokevirtual 154, 3), (78, .ireturn, 1)])], [])
def mt_X0_findUnbalanced : zMt := (yX0_findUnbalanced, cX0_findUnbalanced, 6, (some .int), 0, 0, [(35, [(0, .iconst 0, 1), (1, .istore_n 2, 1), (2, .iload_n 2, 1), (3, .iconst 4, 1), (4, .if_icmp .ge 67, 3), (7, .lconst 0, 1), (8, .lstore_n 3, 1), (9, .iconst 0, 1), (10, .istore 5, 2), (12, .iload 5, 2), (14, .aload_n 1, 1), (15, .getfield 143, 3), (18, .if_icmp .ge 39, 3), (21, .aload_n 0, 1), (22, .getfield 12, 3), (25, .getfield 90, 3), (28, .aload_n 1, 1), (29, .getfield 157, 3), (32, .iload 5, 2), (34, .iaload, 1)]), (68, [(35, .iaload, 1), (36, .iload_n 2, 1), (37, .if_icmp .ne 14, 3), (40, .lload_n 3, 1), (41, .aload_n 1, 1), (42, .getfield 160, 3), (45, .iload 5, 2), (47, .iaload, 1), (48, .i2l, 1), (49, .ladd, 1), (50, .lstore_n 3, 1), (51, .iinc 5 1, 3), (54, .goto (-42), 3), (57, .lload_n 3, 1), (58, .lconst 0, 1), (59, .lcmp, 1), (60, .ifCond .eq 5, 3), (63, .iload_n 2, 1), (64, .ireturn, 1), (65, .iinc 2 1, 3)]), (100000, [(68, .goto (-66), 3), (71, .bipush (-5), 2), (73, .ireturn, 1)])], [(2, [3, 5])])
def mt_X0_keepsLimits : zMt := (yX0_keepsLimits, cX0_keepsLimits, 7, (some .boolean), 0, 3, [(32, [(0, .iconst 0, 1), (1, .istore_n 2, 1), (2, .iload_n 2, 1), (3, .aload_n 1, 1), (4, .getfield 143, 3), (7, .if_icmp .ge 101, 3), (10, .aload_n 1, 1), (11, .getfield 157, 3), (14, .iload_n 2, 1), (15, .iaload, 1), (16, .istore_n 3, 1), (17, .aload_n 0, 1), (18, .iload_n 3, 1), (19, .invokevirtual 163, 3), (22, .aload_n 1, 1), (23, .iload_n 3, 1), (24, .invokevirtual 166, 3), (27, .ladd, 1), (28, .lstore 4, 2), (30, .lload 4, 2)]), (69, [(32, .aload_n 0, 1), (33, .getfield 12, 3), (36, .getfield 168, 3), (39, .iload_n 3, 1), (40, .laload, 1), (41, .lcmp, 1), (42, .ifCond .ge 7, 3), (45, .iconst 1, 1), (46, .goto 4, 3), (49, .iconst 0, 1), (50, .istore 6, 2), (52, .iload 6, 2), (54, .ifCond .ne 18, 3), (57, .lload 4, 2), (59, .aload_n 0, 1), (60, .getfield 12, 3), (63, .getfield 171, 3), (66, .iload_n 3, 1), (67, .laload, 1), (68, .lcmp, 1)]), (109, [(69, .ifCond .le 33, 3), (72, .aload_n 0, 1), (73, .getfield 35, 3), (76, .iconst 4, 1), (77, .iload_n 3, 1), (78, .invokevirtual 130, 3), (81, .aload_n 0, 1), (82, .getfield 35, 3), (85, .iload 6, 2), (87, .ifCond .eq 7, 3), (90, .iconst 5, 1), (91, .goto 5, 3), (94, .bipush 6, 2), (96, .iload_n 3, 1), (97, .invokevirtual 130, 3), (100, .iconst 0, 1), (101, .ireturn, 1), (102, .iinc 2 1, 3), (105, .goto (-103), 3), (108, .iconst 1, 1)]), (100000, [(109, .ireturn, 1)])], [(2, [3, 4, 6])])
def mt_X1_init : zMt := (yX1_init, cX1_init, 1, none, 1, 0, [(100000, [(0, .aload_n 0, 1), (1, .invokespecial 3, 3), (4, .aload_n 0, 1), (5, .iconst 0, 1), (6, .putfield 9, 3), (9, .aload_n 0, 1), (10, .iconst 3, 1), (11, .newarray .int, 2), (13, .putfield 15, 3), (16, .aload_n 0, 1), (17, .iconst 3, 1), (18, .newarray .int, 2), (20, .putfield 19, 3), (23, .return_, 1)])], [])
def mt_X1_copyFrom : zMt := (yX1_copyFrom, cX1_copyFrom, 2, none, 1, 0, [(36, [(0, .aload_n 0, 1), (1, .aload_n 1, 1), (2, .getfield 9, 3), (5, .putfield 9, 3), (8, .aload_n 1, 1), (9, .getfield 15, 3), (12, .iconst 0, 1), (13, .aload_n 0, 1), (14, .getfield 15, 3), (17, .iconst 0, 1), (18, .iconst 3, 1), (19, .invokestatic 22, 3), (22, .aload_n 1, 1), (23, .getfield 19, 3), (26, .iconst 0, 1), (27, .aload_n 0, 1), (28, .getfield 19, 3), (31, .iconst 0, 1), (32, .iconst 3, 1), (33, .invokestatic 22, 3)]), (100000, [(36, .return_, 1)])], [])
def mt_X1_add : zMt := (yX1_add, cX1_add, 3, none, 1, 0, [(34, [(0, .aload_n 0, 1), (1, .getfield 9, 3), (4, .iconst 3, 1), (5, .if_icmp .ge 33, 3), (8, .aload_n 0, 1), (9, .getfield 15, 3), (12, .aload_n 0, 1), (13, .getfield 9, 3), (16, .iload_n 1, 1), (17, .iastore, 1), (18, .aload_n 0, 1), (19, .getfield 19, 3), (22, .aload_n 0, 1), (23, .getfield 9, 3), (26, .iload_n 2, 1), (27, .iastore, 1), (28, .aload_n 0, 1), (29, .dup, 1), (30, .getfield 9, 3), (33, .iconst 1, 1)]), (100000, [(34, .iadd, 1), (35, .putfield 9, 3), (38, .return_, 1)])], [])
def mt_X2_init : zMt := (yX2_init, cX2_init, 2, none, 2, 0, [(38, [(0, .aload_n 0, 1), (1, .invokespecial 3, 3), (4, .aload_n 0, 1), (5, .iconst 1, 1), (6, .putfield 9, 3), (9, .aload_n 0, 1), (10, .bipush 30, 2), (12, .newarray .int, 2), (14, .putfield 15, 3), (17, .aload_n 0, 1), (18, .bipush 30, 2), (20, .newarray .int, 2), (22, .putfield 19, 3), (25, .aload_n 0, 1), (26, .bipush 30, 2), (28, .newarray .int, 2), (30, .putfield 22, 3), (33, .aload_n 0, 1), (34, .bipush 30, 2), (36, .newarray .long, 2)]), (75, [(38, .putfield 25, 3), (41, .aload_n 0, 1), (42, .bipush 30, 2), (44, .newarray .long, 2), (46, .putfield 29, 3), (49, .aload_n 0, 1), (50, .sipush 300, 3), (53, .newarray .long, 2), (55, .putfield 32, 3), (58, .aload_n 0, 1), (59, .getfield 15, 3), (62, .iconst 0, 1), (63, .bipush (-5), 2), (65, .iastore, 1), (66, .aload_n 0, 1), (67, .getfield 22, 3), (70, .iconst 0, 1), (71, .bipush (-5), 2), (73, .iastore, 1), (74, .iconst 0, 1)]), (100000, [(75, .istore_n 1, 1), (76, .iload_n 1, 1), (77, .bipush 30, 2), (79, .if_icmp .ge 27, 3), (82, .aload_n 0, 1), (83, .getfield 25, 3), (86, .iload_n 1, 1), (87, .ldc2_w 37, 3), (90, .lastore, 1), (91, .aload_n 0, 1), (92, .getfield 29, 3), (95, .iload_n 1, 1), (96, .ldc2_w 39, 3), (99, .lastore, 1), (100, .iinc 1 1, 3), (103, .goto (-27), 3), (106, .return_, 1)])], [])
def mt_X2_copyFrom : zMt := (yX2_copyFrom, cX2_copyFrom, 2, none, 2, 0, [(38, [(0, .aload_n 0, 1), (1, .aload_n 1, 1), (2, .getfield 9, 3), (5, .putfield 9, 3), (8, .aload_n 1, 1), (9, .getfield 15, 3), (12, .iconst 0, 1), (13, .aload_n 0, 1), (14, .getfield 15, 3), (17, .iconst 0, 1), (18, .bipush 30, 2), (20, .invokestatic 41, 3), (23, .aload_n 1, 1), (24, .getfield 19, 3), (27, .iconst 0, 1), (28, .aload_n 0, 1), (29, .getfield 19, 3), (32, .iconst 0, 1), (33, .bipush 30, 2), (35, .invokestatic 41, 3)]), (74, [(38, .aload_n 1, 1), (39, .getfield 22, 3), (42, .iconst 0, 1), (43, .aload_n 0, 1), (44, .getfield 22, 3), (47, .iconst 0, 1), (48, .bipush 30, 2), (50, .invokestatic 41, 3), (53, .aload_n 1, 1), (54, .getfield 25, 3), (57, .iconst 0, 1), (58, .aload_n 0, 1), (59, .getfield 25, 3), (62, .iconst 0, 1), (63, .bipush 30, 2), (65, .invokestatic 41, 3), (68, .aload_n 1, 1), (69, .getfield 29, 3), (72, .iconst 0, 1), (73, .aload_n 0, 1)]), (100000, [(74, .getfield 29, 3), (77, .iconst 0, 1), (78, .bipush 30, 2), (80, .invokestatic 41, 3), (83, .aload_n 1, 1), (84, .getfield 32, 3), (87, .iconst 0, 1), (88, .aload_n 0, 1), (89, .getfield 32, 3), (92, .iconst 0, 1), (93, .sipush 300, 3), (96, .invokestatic 41, 3), (99, .return_, 1)])], [])
def mt_X2_has : zMt := (yX2_has, cX2_has, 2, (some .boolean), 2, 0, [(100000, [(0, .iload_n 1, 1), (1, .ifCond .lt 15, 3), (4, .iload_n 1, 1), (5, .aload_n 0, 1), (6, .getfield 9, 3), (9, .if_icmp .ge 7, 3), (12, .iconst 1, 1), (13, .goto 4, 3), (16, .iconst 0, 1), (17, .ireturn, 1)])], [])
def mt_X2_add : zMt := (yX2_add, cX2_add, 4, (some .int), 2, 0, [(36, [(0, .aload_n 0, 1), (1, .getfield 9, 3), (4, .bipush 30, 2), (6, .if_icmp .lt 6, 3), (9, .bipush (-4), 2), (11, .ireturn, 1), (12, .aload_n 0, 1), (13, .getfield 15, 3), (16, .aload_n 0, 1), (17, .getfield 9, 3), (20, .iload_n 1, 1), (21, .iastore, 1), (22, .aload_n 0, 1), (23, .getfield 19, 3), (26, .aload_n 0, 1), (27, .getfield 9, 3), (30, .iload_n 2, 1), (31, .iastore, 1), (32, .aload_n 0, 1), (33, .getfield 22, 3)]), (100000, [(36, .aload_n 0, 1), (37, .getfield 9, 3), (40, .iload_n 3, 1), (41, .iastore, 1), (42, .aload_n 0, 1), (43, .dup, 1), (44, .getfield 9, 3), (47, .iconst 1, 1), (48, .iadd, 1), (49, .putfield 9, 3), (52, .aload_n 0, 1), (53, .getfield 9, 3), (56, .iconst 1, 1), (57, .isub, 1), (58, .ireturn, 1)])], [])
def mt_X2_isInBranch : zMt := (yX2_isInBranch, cX2_isInBranch, 5, (some .boolean), 2, 0, [(35, [(0, .iload_n 1, 1), (1, .istore_n 3, 1), (2, .iconst 0, 1), (3, .istore 4, 2), (5, .iload 4, 2), (7, .bipush 30, 2), (9, .if_icmp .ge 21, 3), (12, .iload_n 3, 1), (13, .iload_n 2, 1), (14, .if_icmp .le 16, 3), (17, .aload_n 0, 1), (18, .getfield 15, 3), (21, .iload_n 3, 1), (22, .iaload, 1), (23, .istore_n 3, 1), (24, .iinc 4 1, 3), (27, .goto (-22), 3), (30, .iload_n 3, 1), (31, .iload_n 2, 1), (32, .if_icmp .ne 7, 3)]), (100000, [(35, .iconst 1, 1), (36, .goto 4, 3), (39, .iconst 0, 1), (40, .ireturn, 1)])], [])
def mt_X2_countStraightBelow : zMt := (yX2_countStraightBelow, cX2_countStraightBelow, 4, (some .int), 2, 0, [(100000, [(0, .iconst 0, 1), (1, .istore_n 2, 1), (2, .iconst 1, 1), (3, .istore_n 3, 1), (4, .iload_n 3, 1), (5, .aload_n 0, 1), (6, .getfield 9, 3), (9, .if_icmp .ge 22, 3), (12, .aload_n 0, 1), (13, .getfield 15, 3), (16, .iload_n 3, 1), (17, .iaload, 1), (18, .iload_n 1, 1), (19, .if_icmp .ne 6, 3), (22, .iinc 2 1, 3), (25, .iinc 3 1, 3), (28, .goto (-24), 3), (31, .iload_n 2, 1), (32, .ireturn, 1)])], [])
def mt_X2_countBranch : zMt := (yX2_countBranch, cX2_countBranch, 4, (some .int), 2, 1, [(100000, [(0, .iconst 0, 1), (1, .istore_n 2, 1), (2, .iload_n 1, 1), (3, .istore_n 3, 1), (4, .iload_n 3, 1), (5, .aload_n 0, 1), (6, .getfield 9, 3), (9, .if_icmp .ge 21, 3), (12, .aload_n 0, 1), (13, .iload_n 3, 1), (14, .iload_n 1, 1), (15, .invokevirtual 47, 3), (18, .ifCond .eq 6, 3), (21, .iinc 2 1, 3), (24, .iinc 3 1, 3), (27, .goto (-23), 3), (30, .iload_n 2, 1), (31, .ireturn, 1)])], [])
def mt_X2_countAbove : zMt := (yX2_countAbove, cX2_countAbove, 4, (some .int), 2, 0, [(100000, [(0, .iconst 0, 1), (1, .istore_n 2, 1), (2, .iload_n 1, 1), (3, .istore_n 3, 1), (4, .iload_n 2, 1), (5, .bipush 30, 2), (7, .if_icmp .ge 20, 3), (10, .iload_n 3, 1), (11, .ifCond .le 16, 3), (14, .aload_n 0, 1), (15, .getfield 15, 3), (18, .iload_n 3, 1), (19, .iaload, 1), (20, .istore_n 3, 1), (21, .iinc 2 1, 3), (24, .goto (-20), 3), (27, .iload_n 2, 1), (28, .ireturn, 1)])], [])
def mt_X2_findMeeting : zMt := (yX2_findMeeting, cX2_findMeeting, 6, (some .int), 2, 0, [(34, [(0, .iload_n 1, 1), (1, .istore_n 3, 1), (2, .iload_n 2, 1), (3, .istore 4, 2), (5, .iconst 0, 1), (6, .istore 5, 2), (8, .iload 5, 2), (10, .bipush 60, 2), (12, .if_icmp .ge 40, 3), (15, .iload_n 3, 1), (16, .iload 4, 2), (18, .if_icmp .eq 34, 3), (21, .iload_n 3, 1), (22, .iload 4, 2), (24, .if_icmp .le 13, 3), (27, .aload_n 0, 1), (28, .getfield 15, 3), (31, .iload_n 3, 1), (32, .iaload, 1), (33, .istore_n 3, 1)]), (100000, [(34, .goto 12, 3), (37, .aload_n 0, 1), (38, .getfield 15, 3), (41, .iload 4, 2), (43, .iaload, 1), (44, .istore 4, 2), (46, .iinc 5 1, 3), (49, .goto (-41), 3), (52, .iload_n 3, 1), (53, .ireturn, 1)])], [])
def mt_X3_init : zMt := (yX3_init, cX3_init, 1, none, 3, 0, [(100000, [(0, .aload_n 0, 1), (1, .invokespecial 1, 3), (4, .aload_n 0, 1), (5, .lconst 0, 1), (6, .putfield 7, 3), (9, .aload_n 0, 1), (10, .lconst 1, 1), (11, .putfield 13, 3), (14, .return_, 1)])], [])
def mt_X3_become : zMt := (yX3_become, cX3_become, 7, none, 3, 1, [(35, [(0, .aload_n 0, 1), (1, .lload_n 1, 1), (2, .putfield 7, 3), (5, .aload_n 0, 1), (6, .lload_n 3, 1), (7, .putfield 13, 3), (10, .lload_n 1, 1), (11, .invokestatic 16, 3), (14, .lload_n 3, 1), (15, .invokestatic 22, 3), (18, .lstore 5, 2), (20, .lload 5, 2), (22, .lconst 1, 1), (23, .lcmp, 1), (24, .ifCond .le 19, 3), (27, .aload_n 0, 1), (28, .lload_n 1, 1), (29, .lload 5, 2), (31, .ldiv, 1), (32, .putfield 7, 3)]), (100000, [(35, .aload_n 0, 1), (36, .lload_n 3, 1), (37, .lload 5, 2), (39, .ldiv, 1), (40, .putfield 13, 3), (43, .return_, 1)])], [])
def mt_X3_add : zMt := (yX3_add, cX3_add, 5, none, 3, 2, [(100000, [(0, .aload_n 0, 1), (1, .aload_n 0, 1), (2, .getfield 7, 3), (5, .lload_n 3, 1), (6, .lmul, 1), (7, .lload_n 1, 1), (8, .aload_n 0, 1), (9, .getfield 13, 3), (12, .lmul, 1), (13, .ladd, 1), (14, .aload_n 0, 1), (15, .getfield 13, 3), (18, .lload_n 3, 1), (19, .lmul, 1), (20, .invokevirtual 26, 3), (23, .return_, 1)])], [])
def mt_X3_half : zMt := (yX3_half, cX3_half, 2, (some .long), 3, 0, [(100000, [(0, .iload_n 1, 1), (1, .ifCond .ne 10, 3), (4, .aload_n 0, 1), (5, .getfield 7, 3), (8, .goto 7, 3), (11, .aload_n 0, 1), (12, .getfield 13, 3), (15, .lreturn, 1)])], [])
def mt_X3_quotient : zMt := (yX3_quotient, cX3_quotient, 1, (some .double), 3, 0, [(100000, [(0, .aload_n 0, 1), (1, .getfield 13, 3), (4, .lconst 0, 1), (5, .lcmp, 1), (6, .ifCond .ne 7, 3), (9, .dconst 0, 1), (10, .goto 14, 3), (13, .aload_n 0, 1), (14, .getfield 7, 3), (17, .l2d, 1), (18, .aload_n 0, 1), (19, .getfield 13, 3), (22, .l2d, 1), (23, .ddiv, 1), (24, .dreturn, 1)])], [])
def mt_X3_commonDivisor : zMt := (yX3_commonDivisor, cX3_commonDivisor, 11, (some .long), 3, 0, [(36, [(0, .lload_n 0, 1), (1, .lstore 4, 2), (3, .lload_n 2, 1), (4, .lstore 6, 2), (6, .iconst 0, 1), (7, .istore 8, 2), (9, .iload 8, 2), (11, .bipush 100, 2), (13, .if_icmp .ge 31, 3), (16, .lload 6, 2), (18, .lconst 0, 1), (19, .lcmp, 1), (20, .ifCond .eq 24, 3), (23, .lload 4, 2), (25, .lload 6, 2), (27, .lrem, 1), (28, .lstore 9, 2), (30, .lload 6, 2), (32, .lstore 4, 2), (34, .lload 9, 2)]), (100000, [(36, .lstore 6, 2), (38, .iinc 8 1, 3), (41, .goto (-32), 3), (44, .lload 4, 2), (46, .lreturn, 1)])], [(9, [9])])
def mt_X4_init : zMt := (yX4_init, cX4_init, 1, none, 4, 0, [(38, [(0, .aload_n 0, 1), (1, .invokespecial 3, 3), (4, .aload_n 0, 1), (5, .iconst 0, 1), (6, .putfield 9, 3), (9, .aload_n 0, 1), (10, .bipush 60, 2), (12, .newarray .int, 2), (14, .putfield 15, 3), (17, .aload_n 0, 1), (18, .bipush 60, 2), (20, .newarray .int, 2), (22, .putfield 19, 3), (25, .aload_n 0, 1), (26, .bipush 60, 2), (28, .newarray .int, 2), (30, .putfield 22, 3), (33, .aload_n 0, 1), (34, .bipush 60, 2), (36, .newarray .int, 2)]), (100000, [(38, .putfield 25, 3), (41, .aload_n 0, 1), (42, .sipush 600, 3), (45, .newarray .int, 2), (47, .putfield 28, 3), (50, .aload_n 0, 1), (51, .sipush 600, 3), (54, .newarray .int, 2), (56, .putfield 31, 3), (59, .return_, 1)])], [])
def mt_X4_copyFrom : zMt := (yX4_copyFrom, cX4_copyFrom, 2, none, 4, 0, [(38, [(0, .aload_n 0, 1), (1, .aload_n 1, 1), (2, .getfield 9, 3), (5, .putfield 9, 3), (8, .aload_n 1, 1), (9, .getfield 15, 3), (12, .iconst 0, 1), (13, .aload_n 0, 1), (14, .getfield 15, 3), (17, .iconst 0, 1), (18, .bipush 60, 2), (20, .invokestatic 34, 3), (23, .aload_n 1, 1), (24, .getfield 19, 3), (27, .iconst 0, 1), (28, .aload_n 0, 1), (29, .getfield 19, 3), (32, .iconst 0, 1), (33, .bipush 60, 2), (35, .invokestatic 34, 3)]), (74, [(38, .aload_n 1, 1), (39, .getfield 22, 3), (42, .iconst 0, 1), (43, .aload_n 0, 1), (44, .getfield 22, 3), (47, .iconst 0, 1), (48, .bipush 60, 2), (50, .invokestatic 34, 3), (53, .aload_n 1, 1), (54, .getfield 25, 3), (57, .iconst 0, 1), (58, .aload_n 0, 1), (59, .getfield 25, 3), (62, .iconst 0, 1), (63, .bipush 60, 2), (65, .invokestatic 34, 3), (68, .aload_n 1, 1), (69, .getfield 28, 3), (72, .iconst 0, 1), (73, .aload_n 0, 1)]), (100000, [(74, .getfield 28, 3), (77, .iconst 0, 1), (78, .sipush 600, 3), (81, .invokestatic 34, 3), (84, .aload_n 1, 1), (85, .getfield 31, 3), (88, .iconst 0, 1), (89, .aload_n 0, 1), (90, .getfield 31, 3), (93, .iconst 0, 1), (94, .sipush 600, 3), (97, .invokestatic 34, 3), (100, .return_, 1)])], [])
def mt_X4_has : zMt := (yX4_has, cX4_has, 2, (some .boolean), 4, 0, [(100000, [(0, .iload_n 1, 1), (1, .ifCond .lt 15, 3), (4, .iload_n 1, 1), (5, .aload_n 0, 1), (6, .getfield 9, 3), (9, .if_icmp .ge 7, 3), (12, .iconst 1, 1), (13, .goto 4, 3), (16, .iconst 0, 1), (17, .ireturn, 1)])], [])
def mt_X4_isFull : zMt := (yX4_isFull, cX4_isFull, 1, (some .boolean), 4, 0, [(100000, [(0, .aload_n 0, 1), (1, .getfield 9, 3), (4, .bipush 60, 2), (6, .if_icmp .lt 7, 3), (9, .iconst 1, 1), (10, .goto 4, 3), (13, .iconst 0, 1), (14, .ireturn, 1)])], [])
def mt_X4_add : zMt := (yX4_add, cX4_add, 5, (some .int), 4, 1, [(36, [(0, .aload_n 0, 1), (1, .invokevirtual 40, 3), (4, .ifCond .eq 6, 3), (7, .bipush (-4), 2), (9, .ireturn, 1), (10, .aload_n 0, 1), (11, .getfield 9, 3), (14, .istore 4, 2), (16, .aload_n 0, 1), (17, .getfield 15, 3), (20, .iload 4, 2), (22, .iload_n 2, 1), (23, .iastore, 1), (24, .aload_n 0, 1), (25, .getfield 19, 3), (28, .iload 4, 2), (30, .aload_n 1, 1), (31, .getfield 44, 3), (34, .iastore, 1), (35, .aload_n 0, 1)]), (72, [(36, .getfield 22, 3), (39, .iload 4, 2), (41, .iload_n 3, 1), (42, .iastore, 1), (43, .aload_n 0, 1), (44, .getfield 25, 3), (47, .iload 4, 2), (49, .bipush (-5), 2), (51, .iastore, 1), (52, .aload_n 0, 1), (53, .iload_n 3, 1), (54, .invokevirtual 48, 3), (57, .ifCond .eq 11, 3), (60, .aload_n 0, 1), (61, .getfield 25, 3), (64, .iload_n 3, 1), (65, .iload 4, 2), (67, .iastore, 1), (68, .aload_n 1, 1), (69, .getfield 52, 3)]), (110, [(72, .iconst 0, 1), (73, .aload_n 0, 1), (74, .getfield 28, 3), (77, .iload 4, 2), (79, .bipush 10, 2), (81, .imul, 1), (82, .aload_n 1, 1), (83, .getfield 44, 3), (86, .invokestatic 34, 3), (89, .aload_n 1, 1), (90, .getfield 53, 3), (93, .iconst 0, 1), (94, .aload_n 0, 1), (95, .getfield 31, 3), (98, .iload 4, 2), (100, .bipush 10, 2), (102, .imul, 1), (103, .aload_n 1, 1), (104, .getfield 44, 3), (107, .invokestatic 34, 3)]), (100000, [(110, .aload_n 0, 1), (111, .dup, 1), (112, .getfield 9, 3), (115, .iconst 1, 1), (116, .iadd, 1), (117, .putfield 9, 3), (120, .iload 4, 2), (122, .ireturn, 1)])], [])
def mt_X4_isReversible : zMt := (yX4_isReversible, cX4_isReversible, 2, (some .boolean), 4, 1, [(100000, [(0, .aload_n 0, 1), (1, .iload_n 1, 1), (2, .invokevirtual 48, 3), (5, .ifCond .eq 29, 3), (8, .aload_n 0, 1), (9, .getfield 22, 3), (12, .iload_n 1, 1), (13, .iaload, 1), (14, .bipush (-5), 2), (16, .if_icmp .ne 18, 3), (19, .aload_n 0, 1), (20, .getfield 25, 3), (23, .iload_n 1, 1), (24, .iaload, 1), (25, .bipush (-5), 2), (27, .if_icmp .ne 7, 3), (30, .iconst 1, 1), (31, .goto 4, 3), (34, .iconst 0, 1), (35, .ireturn, 1)])], [])
def mt_X4_writeReversal : zMt := (yX4_writeReversal, cX4_writeReversal, 5, none, 4, 1, [(30, [(0, .aload_n 2, 1), (1, .iconst 0, 1), (2, .putfield 44, 3), (5, .iconst 0, 1), (6, .istore_n 3, 1), (7, .iload_n 3, 1), (8, .aload_n 0, 1), (9, .getfield 19, 3), (12, .iload_n 1, 1), (13, .iaload, 1), (14, .if_icmp .ge 36, 3), (17, .iload_n 1, 1), (18, .bipush 10, 2), (20, .imul, 1), (21, .iload_n 3, 1), (22, .iadd, 1), (23, .istore 4, 2), (25, .aload_n 2, 1), (26, .aload_n 0, 1), (27, .getfield 28, 3)]), (100000, [(30, .iload 4, 2), (32, .iaload, 1), (33, .aload_n 0, 1), (34, .getfield 31, 3), (37, .iload 4, 2), (39, .iaload, 1), (40, .ineg, 1), (41, .invokevirtual 54, 3), (44, .iinc 3 1, 3), (47, .goto (-40), 3), (50, .return_, 1)])], [(7, [4])])
def mt_X4_isReversal : zMt := (yX4_isReversal, cX4_isReversal, 6, (some .boolean), 4, 2, [(35, [(0, .aload_n 0, 1), (1, .iload_n 1, 1), (2, .invokevirtual 58, 3), (5, .ifCond .eq 13, 3), (8, .iload_n 3, 1), (9, .aload_n 0, 1), (10, .getfield 19, 3), (13, .iload_n 1, 1), (14, .iaload, 1), (15, .if_icmp .eq 5, 3), (18, .iconst 0, 1), (19, .ireturn, 1), (20, .iconst 0, 1), (21, .istore 4, 2), (23, .iload 4, 2), (25, .aload_n 2, 1), (26, .getfield 44, 3), (29, .if_icmp .ge 55, 3), (32, .iload_n 1, 1), (33, .bipush 10, 2)]), (71, [(35, .imul, 1), (36, .iload 4, 2), (38, .iadd, 1), (39, .istore 5, 2), (41, .aload_n 2, 1), (42, .getfield 52, 3), (45, .iload 4, 2), (47, .iaload, 1), (48, .aload_n 0, 1), (49, .getfield 28, 3), (52, .iload 5, 2), (54, .iaload, 1), (55, .if_icmp .ne 21, 3), (58, .aload_n 2, 1), (59, .getfield 53, 3), (62, .iload 4, 2), (64, .iaload, 1), (65, .aload_n 0, 1), (66, .getfield 31, 3), (69, .iload 5, 2)]), (100000, [(71, .iaload, 1), (72, .ineg, 1), (73, .if_icmp .eq 5, 3), (76, .iconst 0, 1), (77, .ireturn, 1), (78, .iinc 4 1, 3), (81, .goto (-58), 3), (84, .iconst 1, 1), (85, .ireturn, 1)])], [(23, [5])])
def mt_X4_countReversals : zMt := (yX4_countReversals, cX4_countReversals, 3, (some .int), 4, 0, [(100000, [(0, .iconst 0, 1), (1, .istore_n 1, 1), (2, .iconst 0, 1), (3, .istore_n 2, 1), (4, .iload_n 2, 1), (5, .aload_n 0, 1), (6, .getfield 9, 3), (9, .if_icmp .ge 23, 3), (12, .aload_n 0, 1), (13, .getfield 22, 3), (16, .iload_n 2, 1), (17, .iaload, 1), (18, .bipush (-5), 2), (20, .if_icmp .eq 6, 3), (23, .iinc 1 1, 3), (26, .iinc 2 1, 3), (29, .goto (-25), 3), (32, .iload_n 1, 1), (33, .ireturn, 1)])], [])
def mt_X4_sum : zMt := (yX4_sum, cX4_sum, 7, (some .long), 4, 1, [(37, [(0, .lconst 0, 1), (1, .lstore 4, 2), (3, .iconst 0, 1), (4, .istore 6, 2), (6, .iload 6, 2), (8, .aload_n 0, 1), (9, .getfield 9, 3), (12, .if_icmp .ge 43, 3), (15, .aload_n 0, 1), (16, .getfield 15, 3), (19, .iload 6, 2), (21, .iaload, 1), (22, .iload_n 2, 1), (23, .if_icmp .lt 26, 3), (26, .aload_n 0, 1), (27, .getfield 15, 3), (30, .iload 6, 2), (32, .iaload, 1), (33, .iload_n 3, 1), (34, .if_icmp .gt 15, 3)]), (100000, [(37, .lload 4, 2), (39, .aload_n 0, 1), (40, .iload 6, 2), (42, .iload_n 1, 1), (43, .invokevirtual 61, 3), (46, .ladd, 1), (47, .lstore 4, 2), (49, .iinc 6 1, 3), (52, .goto (-46), 3), (55, .lload 4, 2), (57, .lreturn, 1)])], [])
def mt_X4_sumIn : zMt := (yX4_sumIn, cX4_sumIn, 7, (some .long), 4, 0, [(33, [(0, .lconst 0, 1), (1, .lstore_n 3, 1), (2, .iload_n 1, 1), (3, .bipush 10, 2), (5, .imul, 1), (6, .istore 5, 2), (8, .iload 5, 2), (10, .istore 6, 2), (12, .iload 6, 2), (14, .iload 5, 2), (16, .aload_n 0, 1), (17, .getfield 19, 3), (20, .iload_n 1, 1), (21, .iaload, 1), (22, .iadd, 1), (23, .if_icmp .ge 31, 3), (26, .aload_n 0, 1), (27, .getfield 28, 3), (30, .iload 6, 2), (32, .iaload, 1)]), (100000, [(33, .iload_n 2, 1), (34, .if_icmp .ne 14, 3), (37, .lload_n 3, 1), (38, .aload_n 0, 1), (39, .getfield 31, 3), (42, .iload 6, 2), (44, .iaload, 1), (45, .i2l, 1), (46, .ladd, 1), (47, .lstore_n 3, 1), (48, .iinc 6 1, 3), (51, .goto (-39), 3), (54, .lload_n 3, 1), (55, .lreturn, 1)])], [])
def mt_X4_sealOver : zMt := (yX4_sealOver, cX4_sealOver, 6, (some .long), 4, 1, [(38, [(0, .ldc2_w 65, 3), (3, .lstore_n 3, 1), (4, .iconst 0, 1), (5, .istore 5, 2), (7, .iload 5, 2), (9, .aload_n 0, 1), (10, .getfield 9, 3), (13, .if_icmp .ge 39, 3), (16, .aload_n 0, 1), (17, .getfield 15, 3), (20, .iload 5, 2), (22, .iaload, 1), (23, .iload_n 1, 1), (24, .if_icmp .lt 22, 3), (27, .aload_n 0, 1), (28, .getfield 15, 3), (31, .iload 5, 2), (33, .iaload, 1), (34, .iload_n 2, 1), (35, .if_icmp .gt 11, 3)]), (100000, [(38, .aload_n 0, 1), (39, .lload_n 3, 1), (40, .iload 5, 2), (42, .invokevirtual 67, 3), (45, .lstore_n 3, 1), (46, .iinc 5 1, 3), (49, .goto (-42), 3), (52, .lload_n 3, 1), (53, .lreturn, 1)])], [])
def mt_X4_sealWith : zMt := (yX4_sealWith, cX4_sealWith, 8, (some .long), 4, 0, [(34, [(0, .lload_n 1, 1), (1, .lstore 4, 2), (3, .iload_n 3, 1), (4, .bipush 10, 2), (6, .imul, 1), (7, .istore 6, 2), (9, .iload 6, 2), (11, .istore 7, 2), (13, .iload 7, 2), (15, .iload 6, 2), (17, .aload_n 0, 1), (18, .getfield 19, 3), (21, .iload_n 3, 1), (22, .iaload, 1), (23, .iadd, 1), (24, .if_icmp .ge 43, 3), (27, .ldc2_w 71, 3), (30, .lload 4, 2), (32, .lmul, 1), (33, .aload_n 0, 1)]), (100000, [(34, .getfield 28, 3), (37, .iload 7, 2), (39, .iaload, 1), (40, .i2l, 1), (41, .ladd, 1), (42, .lstore 4, 2), (44, .ldc2_w 71, 3), (47, .lload 4, 2), (49, .lmul, 1), (50, .aload_n 0, 1), (51, .getfield 31, 3), (54, .iload 7, 2), (56, .iaload, 1), (57, .i2l, 1), (58, .ladd, 1), (59, .lstore 4, 2), (61, .iinc 7 1, 3), (64, .goto (-51), 3), (67, .lload 4, 2), (69, .lreturn, 1)])], [])
def mt_X4_countLines : zMt := (yX4_countLines, cX4_countLines, 4, (some .int), 4, 1, [(100000, [(0, .iconst 0, 1), (1, .istore_n 2, 1), (2, .iconst 0, 1), (3, .istore_n 3, 1), (4, .iload_n 3, 1), (5, .aload_n 0, 1), (6, .getfield 9, 3), (9, .bipush 10, 2), (11, .imul, 1), (12, .if_icmp .ge 21, 3), (15, .aload_n 0, 1), (16, .iload_n 3, 1), (17, .iload_n 1, 1), (18, .invokevirtual 73, 3), (21, .ifCond .eq 6, 3), (24, .iinc 2 1, 3), (27, .iinc 3 1, 3), (30, .goto (-26), 3), (33, .iload_n 2, 1), (34, .ireturn, 1)])], [])
def mt_X4_lineAt : zMt := (yX4_lineAt, cX4_lineAt, 8, (some .long), 4, 1, [(37, [(0, .iconst 0, 1), (1, .istore 4, 2), (3, .lconst 0, 1), (4, .lstore 5, 2), (6, .iconst 0, 1), (7, .istore 7, 2), (9, .iload 7, 2), (11, .aload_n 0, 1), (12, .getfield 9, 3), (15, .bipush 10, 2), (17, .imul, 1), (18, .if_icmp .ge 51, 3), (21, .aload_n 0, 1), (22, .iload 7, 2), (24, .iload_n 1, 1), (25, .invokevirtual 73, 3), (28, .ifCond .eq 35, 3), (31, .lload 5, 2), (33, .aload_n 0, 1), (34, .getfield 31, 3)]), (100000, [(37, .iload 7, 2), (39, .iaload, 1), (40, .i2l, 1), (41, .ladd, 1), (42, .lstore 5, 2), (44, .iload 4, 2), (46, .iload_n 2, 1), (47, .if_icmp .ne 13, 3), (50, .aload_n 0, 1), (51, .iload 7, 2), (53, .lload 5, 2), (55, .iload_n 3, 1), (56, .invokevirtual 77, 3), (59, .lreturn, 1), (60, .iinc 4 1, 3), (63, .iinc 7 1, 3), (66, .goto (-57), 3), (69, .ldc2_w 81, 3), (72, .lreturn, 1)])], [])
def mt_X4_isLine : zMt := (yX4_isLine, cX4_isLine, 3, (some .boolean), 4, 0, [(100000, [(0, .iload_n 1, 1), (1, .bipush 10, 2), (3, .irem, 1), (4, .aload_n 0, 1), (5, .getfield 19, 3), (8, .iload_n 1, 1), (9, .bipush 10, 2), (11, .idiv, 1), (12, .iaload, 1), (13, .if_icmp .ge 17, 3), (16, .aload_n 0, 1), (17, .getfield 28, 3), (20, .iload_n 1, 1), (21, .iaload, 1), (22, .iload_n 2, 1), (23, .if_icmp .ne 7, 3), (26, .iconst 1, 1), (27, .goto 4, 3), (30, .iconst 0, 1), (31, .ireturn, 1)])], [])
def mt_X4_lineOf : zMt := (yX4_lineOf, cX4_lineOf, 5, (some .long), 4, 0, [(52, [(0, .iload 4, 2), (2, .tableswitch 51 0 2 #[26, 37, 43], 26), (28, .aload_n 0, 1), (29, .getfield 15, 3), (32, .iload_n 1, 1), (33, .bipush 10, 2), (35, .idiv, 1), (36, .iaload, 1), (37, .i2l, 1), (38, .lreturn, 1), (39, .iload_n 1, 1), (40, .bipush 10, 2), (42, .idiv, 1), (43, .i2l, 1), (44, .lreturn, 1), (45, .aload_n 0, 1), (46, .getfield 31, 3), (49, .iload_n 1, 1), (50, .iaload, 1), (51, .i2l, 1)]), (100000, [(52, .lreturn, 1), (53, .lload_n 2, 1), (54, .lreturn, 1)])], [])
def mt_X5_init : zMt := (yX5_init, cX5_init, 1, none, 5, 0, [(100000, [(0, .aload_n 0, 1), (1, .invokespecial 3, 3), (4, .aload_n 0, 1), (5, .iconst 4, 1), (6, .newarray .int, 2), (8, .putfield 9, 3), (11, .aload_n 0, 1), (12, .bipush 80, 2), (14, .newarray .int, 2), (16, .putfield 15, 3), (19, .aload_n 0, 1), (20, .bipush 80, 2), (22, .newarray .int, 2), (24, .putfield 18, 3), (27, .aload_n 0, 1), (28, .bipush 80, 2), (30, .newarray .int, 2), (32, .putfield 21, 3), (35, .return_, 1)])], [])
def mt_X5_copyFrom : zMt := (yX5_copyFrom, cX5_copyFrom, 2, none, 5, 0, [(35, [(0, .aload_n 1, 1), (1, .getfield 9, 3), (4, .iconst 0, 1), (5, .aload_n 0, 1), (6, .getfield 9, 3), (9, .iconst 0, 1), (10, .iconst 4, 1), (11, .invokestatic 24, 3), (14, .aload_n 1, 1), (15, .getfield 15, 3), (18, .iconst 0, 1), (19, .aload_n 0, 1), (20, .getfield 15, 3), (23, .iconst 0, 1), (24, .bipush 80, 2), (26, .invokestatic 24, 3), (29, .aload_n 1, 1), (30, .getfield 18, 3), (33, .iconst 0, 1), (34, .aload_n 0, 1)]), (100000, [(35, .getfield 18, 3), (38, .iconst 0, 1), (39, .bipush 80, 2), (41, .invokestatic 24, 3), (44, .aload_n 1, 1), (45, .getfield 21, 3), (48, .iconst 0, 1), (49, .aload_n 0, 1), (50, .getfield 21, 3), (53, .iconst 0, 1), (54, .bipush 80, 2), (56, .invokestatic 24, 3), (59, .return_, 1)])], [])
def mt_X5_tell : zMt := (yX5_tell, cX5_tell, 6, (some .int), 5, 1, [(37, [(0, .aload_n 0, 1), (1, .iload_n 1, 1), (2, .iload_n 2, 1), (3, .invokevirtual 30, 3), (6, .istore 5, 2), (8, .iload 5, 2), (10, .bipush (-5), 2), (12, .if_icmp .eq 14, 3), (15, .aload_n 0, 1), (16, .getfield 15, 3), (19, .iload 5, 2), (21, .iaload, 1), (22, .iload_n 2, 1), (23, .if_icmp .eq 48, 3), (26, .aload_n 0, 1), (27, .getfield 9, 3), (30, .iload_n 1, 1), (31, .iaload, 1), (32, .bipush 20, 2), (34, .if_icmp .lt 6, 3)]), (67, [(37, .bipush (-4), 2), (39, .ireturn, 1), (40, .iload_n 1, 1), (41, .bipush 20, 2), (43, .imul, 1), (44, .aload_n 0, 1), (45, .getfield 9, 3), (48, .iload_n 1, 1), (49, .iaload, 1), (50, .iadd, 1), (51, .istore 5, 2), (53, .aload_n 0, 1), (54, .getfield 15, 3), (57, .iload 5, 2), (59, .iload_n 2, 1), (60, .iastore, 1), (61, .aload_n 0, 1), (62, .getfield 9, 3), (65, .iload_n 1, 1), (66, .dup2, 1)]), (100000, [(67, .iaload, 1), (68, .iconst 1, 1), (69, .iadd, 1), (70, .iastore, 1), (71, .aload_n 0, 1), (72, .getfield 18, 3), (75, .iload 5, 2), (77, .iload_n 3, 1), (78, .iastore, 1), (79, .aload_n 0, 1), (80, .getfield 21, 3), (83, .iload 5, 2), (85, .iload 4, 2), (87, .iastore, 1), (88, .aload_n 0, 1), (89, .getfield 9, 3), (92, .iload_n 1, 1), (93, .iaload, 1), (94, .ireturn, 1)])], [])
def mt_X5_findHeld : zMt := (yX5_findHeld, cX5_findHeld, 6, (some .int), 5, 0, [(34, [(0, .bipush (-5), 2), (2, .istore_n 3, 1), (3, .iload_n 1, 1), (4, .bipush 20, 2), (6, .imul, 1), (7, .istore 4, 2), (9, .iload 4, 2), (11, .istore 5, 2), (13, .iload 5, 2), (15, .iload 4, 2), (17, .aload_n 0, 1), (18, .getfield 9, 3), (21, .iload_n 1, 1), (22, .iaload, 1), (23, .iadd, 1), (24, .if_icmp .ge 45, 3), (27, .aload_n 0, 1), (28, .getfield 15, 3), (31, .iload 5, 2), (33, .iaload, 1)]), (100000, [(34, .iload_n 2, 1), (35, .if_icmp .gt 28, 3), (38, .iload_n 3, 1), (39, .bipush (-5), 2), (41, .if_icmp .eq 19, 3), (44, .aload_n 0, 1), (45, .getfield 15, 3), (48, .iload 5, 2), (50, .iaload, 1), (51, .aload_n 0, 1), (52, .getfield 15, 3), (55, .iload_n 3, 1), (56, .iaload, 1), (57, .if_icmp .le 6, 3), (60, .iload 5, 2), (62, .istore_n 3, 1), (63, .iinc 5 1, 3), (66, .goto (-53), 3), (69, .iload_n 3, 1), (70, .ireturn, 1)])], [])
def mt_X5_aboveAt : zMt := (yX5_aboveAt, cX5_aboveAt, 2, (some .long), 5, 0, [(100000, [(0, .iload_n 1, 1), (1, .bipush (-5), 2), (3, .if_icmp .ne 7, 3), (6, .lconst 1, 1), (7, .goto 10, 3), (10, .aload_n 0, 1), (11, .getfield 18, 3), (14, .iload_n 1, 1), (15, .iaload, 1), (16, .i2l, 1), (17, .lreturn, 1)])], [])
def mt_X5_belowAt : zMt := (yX5_belowAt, cX5_belowAt, 2, (some .long), 5, 0, [(100000, [(0, .iload_n 1, 1), (1, .bipush (-5), 2), (3, .if_icmp .ne 7, 3), (6, .lconst 1, 1), (7, .goto 10, 3), (10, .aload_n 0, 1), (11, .getfield 21, 3), (14, .iload_n 1, 1), (15, .iaload, 1), (16, .i2l, 1), (17, .lreturn, 1)])], [])
def mt_X6_init : zMt := (yX6_init, cX6_init, 2, none, 6, 0, [(35, [(0, .aload_n 0, 1), (1, .invokespecial 3, 3), (4, .aload_n 0, 1), (5, .iconst 4, 1), (6, .newarray .int, 2), (8, .putfield 9, 3), (11, .aload_n 0, 1), (12, .sipush 160, 3), (15, .newarray .long, 2), (17, .putfield 15, 3), (20, .iconst 0, 1), (21, .istore_n 1, 1), (22, .iload_n 1, 1), (23, .iconst 4, 1), (24, .if_icmp .ge 17, 3), (27, .aload_n 0, 1), (28, .getfield 9, 3), (31, .iload_n 1, 1), (32, .bipush (-5), 2), (34, .iastore, 1)]), (100000, [(35, .iinc 1 1, 3), (38, .goto (-16), 3), (41, .return_, 1)])], [])
def mt_X6_make : zMt := (yX6_make, cX6_make, 4, none, 6, 0, [(29, [(0, .aload_n 0, 1), (1, .getfield 9, 3), (4, .iload_n 1, 1), (5, .iload_n 2, 1), (6, .iastore, 1), (7, .iconst 0, 1), (8, .istore_n 3, 1), (9, .iload_n 3, 1), (10, .iload_n 2, 1), (11, .if_icmp .ge 21, 3), (14, .aload_n 0, 1), (15, .getfield 15, 3), (18, .iload_n 1, 1), (19, .bipush 40, 2), (21, .imul, 1), (22, .iload_n 3, 1), (23, .iadd, 1), (24, .lconst 0, 1), (25, .lastore, 1), (26, .iinc 3 1, 3)]), (100000, [(29, .goto (-20), 3), (32, .return_, 1)])], [])
def mt_X6_isHeld : zMt := (yX6_isHeld, cX6_isHeld, 2, (some .boolean), 6, 0, [(100000, [(0, .aload_n 0, 1), (1, .getfield 9, 3), (4, .iload_n 1, 1), (5, .iaload, 1), (6, .bipush (-5), 2), (8, .if_icmp .eq 7, 3), (11, .iconst 1, 1), (12, .goto 4, 3), (15, .iconst 0, 1), (16, .ireturn, 1)])], [])
def mt_X6_hasPlace : zMt := (yX6_hasPlace, cX6_hasPlace, 3, (some .boolean), 6, 0, [(100000, [(0, .iload_n 2, 1), (1, .ifCond .lt 17, 3), (4, .iload_n 2, 1), (5, .aload_n 0, 1), (6, .getfield 9, 3), (9, .iload_n 1, 1), (10, .iaload, 1), (11, .if_icmp .ge 7, 3), (14, .iconst 1, 1), (15, .goto 4, 3), (18, .iconst 0, 1), (19, .ireturn, 1)])], [])
def mt_X6_put : zMt := (yX6_put, cX6_put, 5, none, 6, 0, [(100000, [(0, .aload_n 0, 1), (1, .getfield 15, 3), (4, .iload_n 1, 1), (5, .bipush 40, 2), (7, .imul, 1), (8, .iload_n 2, 1), (9, .iadd, 1), (10, .lload_n 3, 1), (11, .lastore, 1), (12, .return_, 1)])], [])
def mt_X6_at : zMt := (yX6_at, cX6_at, 3, (some .long), 6, 0, [(100000, [(0, .aload_n 0, 1), (1, .getfield 15, 3), (4, .iload_n 1, 1), (5, .bipush 40, 2), (7, .imul, 1), (8, .iload_n 2, 1), (9, .iadd, 1), (10, .laload, 1), (11, .lreturn, 1)])], [])
def mt_X7_init : zMt := (yX7_init, cX7_init, 1, none, 7, 0, [(100000, [(0, .aload_n 0, 1), (1, .invokespecial 3, 3), (4, .aload_n 0, 1), (5, .iconst 0, 1), (6, .putfield 9, 3), (9, .aload_n 0, 1), (10, .bipush 125, 2), (12, .newarray .byte, 2), (14, .putfield 15, 3), (17, .return_, 1)])], [])
def mt_X7_write : zMt := (yX7_write, cX7_write, 5, none, 7, 4, [(30, [(0, .aload_n 0, 1), (1, .iconst 0, 1), (2, .putfield 9, 3), (5, .iconst 0, 1), (6, .istore_n 3, 1), (7, .iload_n 3, 1), (8, .aload_n 1, 1), (9, .getfield 19, 3), (12, .iload_n 2, 1), (13, .iaload, 1), (14, .if_icmp .ge 55, 3), (17, .iload_n 2, 1), (18, .bipush 10, 2), (20, .imul, 1), (21, .iload_n 3, 1), (22, .iadd, 1), (23, .istore 4, 2), (25, .iload_n 3, 1), (26, .ifCond .le 9, 3), (29, .aload_n 0, 1)]), (70, [(30, .bipush 59, 2), (32, .invokevirtual 25, 3), (35, .aload_n 0, 1), (36, .aload_n 1, 1), (37, .getfield 29, 3), (40, .iload 4, 2), (42, .iaload, 1), (43, .invokevirtual 32, 3), (46, .aload_n 0, 1), (47, .bipush 32, 2), (49, .invokevirtual 25, 3), (52, .aload_n 0, 1), (53, .aload_n 1, 1), (54, .getfield 35, 3), (57, .iload 4, 2), (59, .iaload, 1), (60, .invokevirtual 32, 3), (63, .iinc 3 1, 3), (66, .goto (-59), 3), (69, .aload_n 1, 1)]), (109, [(70, .getfield 38, 3), (73, .iload_n 2, 1), (74, .iaload, 1), (75, .bipush (-5), 2), (77, .if_icmp .eq 40, 3), (80, .iconst 0, 1), (81, .istore_n 3, 1), (82, .iload_n 3, 1), (83, .ldc 41, 2), (85, .invokevirtual 43, 3), (88, .if_icmp .ge 19, 3), (91, .aload_n 0, 1), (92, .ldc 41, 2), (94, .iload_n 3, 1), (95, .invokevirtual 48, 3), (98, .invokevirtual 25, 3), (101, .iinc 3 1, 3), (104, .goto (-22), 3), (107, .aload_n 0, 1), (108, .aload_n 1, 1)]), (100000, [(109, .getfield 38, 3), (112, .iload_n 2, 1), (113, .iaload, 1), (114, .invokevirtual 32, 3), (117, .return_, 1)])], [(7, [4])])
def mt_X7_addNumber : zMt := (yX7_addNumber, cX7_addNumber, 5, none, 7, 1, [(35, [(0, .iload_n 1, 1), (1, .ifCond .ge 9, 3), (4, .aload_n 0, 1), (5, .bipush 45, 2), (7, .invokevirtual 25, 3), (10, .iload_n 1, 1), (11, .invokestatic 52, 3), (14, .istore_n 2, 1), (15, .iconst 1, 1), (16, .istore_n 3, 1), (17, .iconst 1, 1), (18, .istore 4, 2), (20, .iload 4, 2), (22, .bipush 7, 2), (24, .if_icmp .ge 22, 3), (27, .iload_n 2, 1), (28, .iload_n 3, 1), (29, .idiv, 1), (30, .bipush 10, 2), (32, .if_icmp .lt 14, 3)]), (69, [(35, .iload_n 3, 1), (36, .bipush 10, 2), (38, .imul, 1), (39, .istore_n 3, 1), (40, .iinc 4 1, 3), (43, .goto (-23), 3), (46, .iconst 0, 1), (47, .istore 4, 2), (49, .iload 4, 2), (51, .bipush 7, 2), (53, .if_icmp .ge 31, 3), (56, .iload_n 3, 1), (57, .ifCond .le 27, 3), (60, .aload_n 0, 1), (61, .bipush 48, 2), (63, .iload_n 2, 1), (64, .iload_n 3, 1), (65, .idiv, 1), (66, .bipush 10, 2), (68, .irem, 1)]), (100000, [(69, .iadd, 1), (70, .invokevirtual 25, 3), (73, .iload_n 3, 1), (74, .bipush 10, 2), (76, .idiv, 1), (77, .istore_n 3, 1), (78, .iinc 4 1, 3), (81, .goto (-32), 3), (84, .return_, 1)])], [])
def mt_X7_add : zMt := (yX7_add, cX7_add, 2, none, 7, 0, [(100000, [(0, .aload_n 0, 1), (1, .getfield 9, 3), (4, .bipush 125, 2), (6, .if_icmp .ge 24, 3), (9, .aload_n 0, 1), (10, .getfield 15, 3), (13, .aload_n 0, 1), (14, .getfield 9, 3), (17, .iload_n 1, 1), (18, .i2b, 1), (19, .bastore, 1), (20, .aload_n 0, 1), (21, .dup, 1), (22, .getfield 9, 3), (25, .iconst 1, 1), (26, .iadd, 1), (27, .putfield 9, 3), (30, .return_, 1)])], [])
def mt_X8_init : zMt := (yX8_init, cX8_init, 1, none, 8, 0, [(100000, [(0, .aload_n 0, 1), (1, .invokespecial 3, 3), (4, .aload_n 0, 1), (5, .iconst 0, 1), (6, .putfield 9, 3), (9, .aload_n 0, 1), (10, .bipush 10, 2), (12, .newarray .int, 2), (14, .putfield 15, 3), (17, .aload_n 0, 1), (18, .bipush 10, 2), (20, .newarray .int, 2), (22, .putfield 19, 3), (25, .return_, 1)])], [])
def mt_X8_copyFrom : zMt := (yX8_copyFrom, cX8_copyFrom, 2, none, 8, 0, [(38, [(0, .aload_n 0, 1), (1, .aload_n 1, 1), (2, .getfield 9, 3), (5, .putfield 9, 3), (8, .aload_n 1, 1), (9, .getfield 15, 3), (12, .iconst 0, 1), (13, .aload_n 0, 1), (14, .getfield 15, 3), (17, .iconst 0, 1), (18, .bipush 10, 2), (20, .invokestatic 22, 3), (23, .aload_n 1, 1), (24, .getfield 19, 3), (27, .iconst 0, 1), (28, .aload_n 0, 1), (29, .getfield 19, 3), (32, .iconst 0, 1), (33, .bipush 10, 2), (35, .invokestatic 22, 3)]), (100000, [(38, .return_, 1)])], [])
def mt_X8_add : zMt := (yX8_add, cX8_add, 3, none, 8, 0, [(35, [(0, .aload_n 0, 1), (1, .getfield 9, 3), (4, .bipush 10, 2), (6, .if_icmp .ge 33, 3), (9, .aload_n 0, 1), (10, .getfield 15, 3), (13, .aload_n 0, 1), (14, .getfield 9, 3), (17, .iload_n 1, 1), (18, .iastore, 1), (19, .aload_n 0, 1), (20, .getfield 19, 3), (23, .aload_n 0, 1), (24, .getfield 9, 3), (27, .iload_n 2, 1), (28, .iastore, 1), (29, .aload_n 0, 1), (30, .dup, 1), (31, .getfield 9, 3), (34, .iconst 1, 1)]), (100000, [(35, .iadd, 1), (36, .putfield 9, 3), (39, .return_, 1)])], [])
def mt_X8_sum : zMt := (yX8_sum, cX8_sum, 5, (some .long), 8, 0, [(34, [(0, .lconst 0, 1), (1, .lstore_n 2, 1), (2, .iconst 0, 1), (3, .istore 4, 2), (5, .iload 4, 2), (7, .aload_n 0, 1), (8, .getfield 9, 3), (11, .if_icmp .ge 31, 3), (14, .aload_n 0, 1), (15, .getfield 15, 3), (18, .iload 4, 2), (20, .iaload, 1), (21, .iload_n 1, 1), (22, .if_icmp .ne 14, 3), (25, .lload_n 2, 1), (26, .aload_n 0, 1), (27, .getfield 19, 3), (30, .iload 4, 2), (32, .iaload, 1), (33, .i2l, 1)]), (100000, [(34, .ladd, 1), (35, .lstore_n 2, 1), (36, .iinc 4 1, 3), (39, .goto (-34), 3), (42, .lload_n 2, 1), (43, .lreturn, 1)])], [])
def mt_X9_init : zMt := (yX9_init, cX9_init, 1, none, 9, 0, [(100000, [(0, .aload_n 0, 1), (1, .invokespecial 3, 3), (4, .aload_n 0, 1), (5, .iconst 0, 1), (6, .putfield 9, 3), (9, .aload_n 0, 1), (10, .iconst 0, 1), (11, .putfield 15, 3), (14, .aload_n 0, 1), (15, .bipush (-5), 2), (17, .putfield 18, 3), (20, .aload_n 0, 1), (21, .iconst 0, 1), (22, .putfield 21, 3), (25, .aload_n 0, 1), (26, .bipush 90, 2), (28, .newarray .byte, 2), (30, .putfield 24, 3), (33, .return_, 1)])], [])
def mt_X9_add : zMt := (yX9_add, cX9_add, 2, none, 9, 0, [(100000, [(0, .aload_n 0, 1), (1, .getfield 9, 3), (4, .bipush 90, 2), (6, .if_icmp .ge 24, 3), (9, .aload_n 0, 1), (10, .getfield 24, 3), (13, .aload_n 0, 1), (14, .getfield 9, 3), (17, .iload_n 1, 1), (18, .i2b, 1), (19, .bastore, 1), (20, .aload_n 0, 1), (21, .dup, 1), (22, .getfield 9, 3), (25, .iconst 1, 1), (26, .iadd, 1), (27, .putfield 9, 3), (30, .return_, 1)])], [])
def mt_X9_parse : zMt := (yX9_parse, cX9_parse, 5, (some .int), 9, 5, [(32, [(0, .aload_n 0, 1), (1, .iconst 0, 1), (2, .putfield 21, 3), (5, .aload_n 0, 1), (6, .iconst 0, 1), (7, .putfield 15, 3), (10, .aload_n 0, 1), (11, .bipush (-5), 2), (13, .putfield 18, 3), (16, .aload_n 2, 1), (17, .iconst 0, 1), (18, .putfield 28, 3), (21, .iconst 0, 1), (22, .istore_n 3, 1), (23, .iload_n 3, 1), (24, .bipush 90, 2), (26, .if_icmp .gt 100, 3), (29, .aload_n 0, 1), (30, .aload_n 1, 1), (31, .aload_n 2, 1)]), (73, [(32, .invokevirtual 33, 3), (35, .istore 4, 2), (37, .iload 4, 2), (39, .iconst (-1), 1), (40, .if_icmp .eq 6, 3), (43, .iload 4, 2), (45, .ireturn, 1), (46, .aload_n 0, 1), (47, .getfield 21, 3), (50, .aload_n 0, 1), (51, .getfield 9, 3), (54, .if_icmp .lt 20, 3), (57, .aload_n 0, 1), (58, .getfield 15, 3), (61, .iconst 2, 1), (62, .if_icmp .lt 7, 3), (65, .iconst (-1), 1), (66, .goto 7, 3), (69, .aload_n 0, 1), (70, .getfield 9, 3)]), (111, [(73, .ireturn, 1), (74, .aload_n 0, 1), (75, .invokevirtual 37, 3), (78, .bipush 32, 2), (80, .if_icmp .ne 16, 3), (83, .aload_n 0, 1), (84, .getfield 15, 3), (87, .iconst 2, 1), (88, .if_icmp .lt 8, 3), (91, .aload_n 0, 1), (92, .invokevirtual 41, 3), (95, .ireturn, 1), (96, .aload_n 0, 1), (97, .invokevirtual 37, 3), (100, .bipush 59, 2), (102, .if_icmp .eq 8, 3), (105, .aload_n 0, 1), (106, .getfield 21, 3), (109, .ireturn, 1), (110, .aload_n 0, 1)]), (100000, [(111, .dup, 1), (112, .getfield 21, 3), (115, .iconst 1, 1), (116, .iadd, 1), (117, .putfield 21, 3), (120, .iinc 3 1, 3), (123, .goto (-100), 3), (126, .aload_n 0, 1), (127, .getfield 21, 3), (130, .ireturn, 1)])], [(23, [4])])
def mt_X9_takePart : zMt := (yX9_takePart, cX9_takePart, 7, (some .int), 9, 2, [(36, [(0, .aload_n 0, 1), (1, .getfield 21, 3), (4, .istore_n 3, 1), (5, .aload_n 0, 1), (6, .iconst 2, 1), (7, .invokevirtual 44, 3), (10, .istore 4, 2), (12, .aload_n 0, 1), (13, .getfield 21, 3), (16, .iload_n 3, 1), (17, .if_icmp .ne 8, 3), (20, .aload_n 0, 1), (21, .getfield 21, 3), (24, .ireturn, 1), (25, .aload_n 1, 1), (26, .iload 4, 2), (28, .invokevirtual 48, 3), (31, .ifCond .ne 5, 3), (34, .iload_n 3, 1), (35, .ireturn, 1)]), (74, [(36, .aload_n 0, 1), (37, .invokevirtual 37, 3), (40, .bipush 32, 2), (42, .if_icmp .eq 8, 3), (45, .aload_n 0, 1), (46, .getfield 21, 3), (49, .ireturn, 1), (50, .aload_n 0, 1), (51, .dup, 1), (52, .getfield 21, 3), (55, .iconst 1, 1), (56, .iadd, 1), (57, .putfield 21, 3), (60, .aload_n 0, 1), (61, .invokevirtual 37, 3), (64, .bipush 45, 2), (66, .if_icmp .ne 7, 3), (69, .iconst 1, 1), (70, .goto 4, 3), (73, .iconst 0, 1)]), (112, [(74, .istore 5, 2), (76, .iload 5, 2), (78, .ifCond .eq 13, 3), (81, .aload_n 0, 1), (82, .dup, 1), (83, .getfield 21, 3), (86, .iconst 1, 1), (87, .iadd, 1), (88, .putfield 21, 3), (91, .aload_n 0, 1), (92, .getfield 21, 3), (95, .istore_n 3, 1), (96, .aload_n 0, 1), (97, .bipush 7, 2), (99, .invokevirtual 44, 3), (102, .istore 6, 2), (104, .aload_n 0, 1), (105, .getfield 21, 3), (108, .iload_n 3, 1), (109, .if_icmp .ne 8, 3)]), (151, [(112, .aload_n 0, 1), (113, .getfield 21, 3), (116, .ireturn, 1), (117, .iload 6, 2), (119, .iconst 1, 1), (120, .if_icmp .lt 10, 3), (123, .iload 6, 2), (125, .ldc 54, 2), (127, .if_icmp .le 5, 3), (130, .iload_n 3, 1), (131, .ireturn, 1), (132, .aload_n 2, 1), (133, .iload 4, 2), (135, .iload 5, 2), (137, .ifCond .eq 9, 3), (140, .iload 6, 2), (142, .ineg, 1), (143, .goto 5, 3), (146, .iload 6, 2), (148, .invokevirtual 55, 3)]), (100000, [(151, .aload_n 0, 1), (152, .dup, 1), (153, .getfield 15, 3), (156, .iconst 1, 1), (157, .iadd, 1), (158, .putfield 15, 3), (161, .iconst (-1), 1), (162, .ireturn, 1)])], [])
def mt_X9_takeReversed : zMt := (yX9_takeReversed, cX9_takeReversed, 3, (some .int), 9, 4, [(36, [(0, .iconst 0, 1), (1, .istore_n 1, 1), (2, .iload_n 1, 1), (3, .ldc 59, 2), (5, .invokevirtual 61, 3), (8, .if_icmp .ge 37, 3), (11, .aload_n 0, 1), (12, .invokevirtual 37, 3), (15, .ldc 59, 2), (17, .iload_n 1, 1), (18, .invokevirtual 65, 3), (21, .if_icmp .eq 8, 3), (24, .aload_n 0, 1), (25, .getfield 21, 3), (28, .ireturn, 1), (29, .aload_n 0, 1), (30, .dup, 1), (31, .getfield 21, 3), (34, .iconst 1, 1), (35, .iadd, 1)]), (76, [(36, .putfield 21, 3), (39, .iinc 1 1, 3), (42, .goto (-40), 3), (45, .aload_n 0, 1), (46, .getfield 21, 3), (49, .istore_n 1, 1), (50, .aload_n 0, 1), (51, .iconst 2, 1), (52, .invokevirtual 44, 3), (55, .istore_n 2, 1), (56, .aload_n 0, 1), (57, .getfield 21, 3), (60, .iload_n 1, 1), (61, .if_icmp .eq 14, 3), (64, .aload_n 0, 1), (65, .getfield 21, 3), (68, .aload_n 0, 1), (69, .getfield 9, 3), (72, .if_icmp .ge 8, 3), (75, .aload_n 0, 1)]), (100000, [(76, .getfield 21, 3), (79, .ireturn, 1), (80, .aload_n 0, 1), (81, .iload_n 2, 1), (82, .putfield 18, 3), (85, .iconst (-1), 1), (86, .ireturn, 1)])], [])
def mt_X9_takeFigures : zMt := (yX9_takeFigures, cX9_takeFigures, 4, (some .int), 9, 1, [(35, [(0, .iconst 0, 1), (1, .istore_n 2, 1), (2, .iconst 0, 1), (3, .istore_n 3, 1), (4, .iload_n 3, 1), (5, .iload_n 1, 1), (6, .if_icmp .ge 50, 3), (9, .aload_n 0, 1), (10, .invokevirtual 37, 3), (13, .bipush 48, 2), (15, .if_icmp .lt 41, 3), (18, .aload_n 0, 1), (19, .invokevirtual 37, 3), (22, .bipush 57, 2), (24, .if_icmp .gt 32, 3), (27, .iload_n 2, 1), (28, .bipush 10, 2), (30, .imul, 1), (31, .aload_n 0, 1), (32, .invokevirtual 37, 3)]), (100000, [(35, .iadd, 1), (36, .bipush 48, 2), (38, .isub, 1), (39, .istore_n 2, 1), (40, .aload_n 0, 1), (41, .dup, 1), (42, .getfield 21, 3), (45, .iconst 1, 1), (46, .iadd, 1), (47, .putfield 21, 3), (50, .iinc 3 1, 3), (53, .goto (-49), 3), (56, .iload_n 2, 1), (57, .ireturn, 1)])], [])
def mt_X9_here : zMt := (yX9_here, cX9_here, 1, (some .int), 9, 0, [(100000, [(0, .aload_n 0, 1), (1, .getfield 21, 3), (4, .ifCond .lt 35, 3), (7, .aload_n 0, 1), (8, .getfield 21, 3), (11, .aload_n 0, 1), (12, .getfield 9, 3), (15, .if_icmp .ge 24, 3), (18, .aload_n 0, 1), (19, .getfield 21, 3), (22, .bipush 90, 2), (24, .if_icmp .ge 15, 3), (27, .aload_n 0, 1), (28, .getfield 24, 3), (31, .aload_n 0, 1), (32, .getfield 21, 3), (35, .baload, 1), (36, .goto 4, 3), (39, .iconst 0, 1), (40, .ireturn, 1)])], [])
def mt_X10_init : zMt := (yX10_init, cX10_init, 1, none, 10, 2, [(42, [(0, .aload_n 0, 1), (1, .invokespecial 3, 3), (4, .aload_n 0, 1), (5, .new 9, 3), (8, .dup, 1), (9, .invokespecial 11, 3), (12, .putfield 12, 3), (15, .aload_n 0, 1), (16, .aconst_null, 1), (17, .putfield 18, 3), (20, .aload_n 0, 1), (21, .new 21, 3), (24, .dup, 1), (25, .invokespecial 23, 3), (28, .putfield 24, 3), (31, .aload_n 0, 1), (32, .new 28, 3), (35, .dup, 1), (36, .invokespecial 30, 3), (39, .putfield 31, 3)]), (100000, [(42, .aload_n 0, 1), (43, .new 35, 3), (46, .dup, 1), (47, .invokespecial 37, 3), (50, .putfield 38, 3), (53, .aload_n 0, 1), (54, .new 42, 3), (57, .dup, 1), (58, .invokespecial 44, 3), (61, .putfield 45, 3), (64, .aload_n 0, 1), (65, .new 49, 3), (68, .dup, 1), (69, .invokespecial 51, 3), (72, .putfield 52, 3), (75, .return_, 1)])], [])
def mt_X10_account : zMt := (yX10_account, cX10_account, 4, (some .int), 10, 1, [(41, [(0, .aload_n 0, 1), (1, .getfield 12, 3), (4, .getfield 56, 3), (7, .iload_n 1, 1), (8, .invokevirtual 60, 3), (11, .ifCond .ne 5, 3), (14, .iconst (-1), 1), (15, .ireturn, 1), (16, .iload_n 2, 1), (17, .invokestatic 66, 3), (20, .ifCond .eq 10, 3), (23, .iload_n 3, 1), (24, .invokestatic 69, 3), (27, .ifCond .ne 6, 3), (30, .bipush (-2), 2), (32, .ireturn, 1), (33, .aload_n 0, 1), (34, .getfield 12, 3), (37, .getfield 56, 3), (40, .iload_n 1, 1)]), (100000, [(41, .iload_n 2, 1), (42, .iload_n 3, 1), (43, .invokevirtual 72, 3), (46, .ireturn, 1)])], [])
def mt_X10_of : zMt := (yX10_of, cX10_of, 4, (some .int), 10, 2, [(72, [(0, .aload_n 0, 1), (1, .getfield 12, 3), (4, .getfield 56, 3), (7, .astore_n 3, 1), (8, .aload_n 3, 1), (9, .iload_n 1, 1), (10, .invokevirtual 60, 3), (13, .ifCond .ne 5, 3), (16, .iconst (-1), 1), (17, .ireturn, 1), (18, .iload_n 2, 1), (19, .tableswitch 92 0 6 #[41, 48, 55, 62, 68, 74, 80], 41), (60, .aload_n 3, 1), (61, .getfield 76, 3), (64, .iload_n 1, 1), (65, .iaload, 1), (66, .ireturn, 1), (67, .aload_n 3, 1), (68, .getfield 80, 3), (71, .iload_n 1, 1)]), (100, [(72, .iaload, 1), (73, .ireturn, 1), (74, .aload_n 3, 1), (75, .getfield 83, 3), (78, .iload_n 1, 1), (79, .iaload, 1), (80, .ireturn, 1), (81, .aload_n 3, 1), (82, .iload_n 1, 1), (83, .invokevirtual 86, 3), (86, .ireturn, 1), (87, .aload_n 3, 1), (88, .iload_n 1, 1), (89, .invokevirtual 90, 3), (92, .ireturn, 1), (93, .aload_n 3, 1), (94, .iload_n 1, 1), (95, .invokevirtual 93, 3), (98, .ireturn, 1), (99, .aload_n 0, 1)]), (100000, [(100, .getfield 12, 3), (103, .getfield 96, 3), (106, .iload_n 1, 1), (107, .invokevirtual 100, 3), (110, .ireturn, 1), (111, .iconst (-1), 1), (112, .ireturn, 1)])], [])
def mt_X10_limits : zMt := (yX10_limits, cX10_limits, 8, (some .int), 10, 3, [(38, [(0, .aload_n 0, 1), (1, .getfield 12, 3), (4, .getfield 56, 3), (7, .iload_n 1, 1), (8, .invokevirtual 60, 3), (11, .ifCond .ne 5, 3), (14, .iconst (-1), 1), (15, .ireturn, 1), (16, .lload_n 2, 1), (17, .lload 4, 2), (19, .lcmp, 1), (20, .ifCond .le 6, 3), (23, .bipush (-2), 2), (25, .ireturn, 1), (26, .aload_n 0, 1), (27, .getfield 12, 3), (30, .iload_n 1, 1), (31, .invokevirtual 105, 3), (34, .lstore 6, 2), (36, .lload 6, 2)]), (77, [(38, .lload_n 2, 1), (39, .lcmp, 1), (40, .ifCond .lt 11, 3), (43, .lload 6, 2), (45, .lload 4, 2), (47, .lcmp, 1), (48, .ifCond .le 6, 3), (51, .bipush (-3), 2), (53, .ireturn, 1), (54, .aload_n 0, 1), (55, .getfield 12, 3), (58, .getfield 56, 3), (61, .getfield 109, 3), (64, .iload_n 1, 1), (65, .lload_n 2, 1), (66, .lastore, 1), (67, .aload_n 0, 1), (68, .getfield 12, 3), (71, .getfield 56, 3), (74, .getfield 113, 3)]), (100000, [(77, .iload_n 1, 1), (78, .lload 4, 2), (80, .lastore, 1), (81, .iconst 1, 1), (82, .ireturn, 1)])], [])
def mt_X10_days : zMt := (yX10_days, cX10_days, 2, (some .int), 10, 0, [(38, [(0, .iload_n 1, 1), (1, .iconst 1, 1), (2, .if_icmp .lt 24, 3), (5, .iload_n 1, 1), (6, .bipush 100, 2), (8, .if_icmp .gt 18, 3), (11, .aload_n 0, 1), (12, .getfield 12, 3), (15, .getfield 116, 3), (18, .iload_n 1, 1), (19, .iadd, 1), (20, .sipush 1000, 3), (23, .if_icmp .lt 6, 3), (26, .bipush (-2), 2), (28, .ireturn, 1), (29, .aload_n 0, 1), (30, .getfield 12, 3), (33, .dup, 1), (34, .getfield 116, 3), (37, .iload_n 1, 1)]), (100000, [(38, .iadd, 1), (39, .putfield 116, 3), (42, .aload_n 0, 1), (43, .getfield 12, 3), (46, .getfield 116, 3), (49, .ireturn, 1)])], [])
def mt_X10_begin : zMt := (yX10_begin, cX10_begin, 1, (some .int), 10, 1, [(44, [(0, .aload_n 0, 1), (1, .getfield 12, 3), (4, .getfield 120, 3), (7, .ifCond .eq 6, 3), (10, .bipush (-3), 2), (12, .ireturn, 1), (13, .aload_n 0, 1), (14, .getfield 12, 3), (17, .getfield 96, 3), (20, .invokevirtual 124, 3), (23, .ifCond .eq 6, 3), (26, .bipush (-4), 2), (28, .ireturn, 1), (29, .aload_n 0, 1), (30, .getfield 12, 3), (33, .iconst 1, 1), (34, .putfield 120, 3), (37, .aload_n 0, 1), (38, .getfield 12, 3), (41, .getfield 128, 3)]), (100000, [(44, .iconst 0, 1), (45, .putfield 131, 3), (48, .aload_n 0, 1), (49, .getfield 12, 3), (52, .getfield 96, 3), (55, .getfield 134, 3), (58, .ireturn, 1)])], [])
def mt_X10_posting : zMt := (yX10_posting, cX10_posting, 4, (some .int), 10, 1, [(38, [(0, .aload_n 0, 1), (1, .getfield 12, 3), (4, .getfield 56, 3), (7, .iload_n 1, 1), (8, .invokevirtual 60, 3), (11, .ifCond .ne 5, 3), (14, .iconst (-1), 1), (15, .ireturn, 1), (16, .lload_n 2, 1), (17, .lconst 0, 1), (18, .lcmp, 1), (19, .ifCond .eq 19, 3), (22, .lload_n 2, 1), (23, .ldc2_w 137, 3), (26, .lcmp, 1), (27, .ifCond .lt 11, 3), (30, .lload_n 2, 1), (31, .ldc2_w 139, 3), (34, .lcmp, 1), (35, .ifCond .le 6, 3)]), (80, [(38, .bipush (-2), 2), (40, .ireturn, 1), (41, .aload_n 0, 1), (42, .getfield 12, 3), (45, .getfield 120, 3), (48, .ifCond .ne 6, 3), (51, .bipush (-3), 2), (53, .ireturn, 1), (54, .aload_n 0, 1), (55, .getfield 12, 3), (58, .getfield 128, 3), (61, .getfield 131, 3), (64, .bipush 10, 2), (66, .if_icmp .lt 6, 3), (69, .bipush (-4), 2), (71, .ireturn, 1), (72, .aload_n 0, 1), (73, .getfield 12, 3), (76, .getfield 128, 3), (79, .iload_n 1, 1)]), (100000, [(80, .lload_n 2, 1), (81, .l2i, 1), (82, .invokevirtual 141, 3), (85, .aload_n 0, 1), (86, .getfield 12, 3), (89, .getfield 128, 3), (92, .getfield 131, 3), (95, .ireturn, 1)])], [])
def mt_X10_cancel : zMt := (yX10_cancel, cX10_cancel, 1, (some .int), 10, 0, [(100000, [(0, .aload_n 0, 1), (1, .getfield 12, 3), (4, .getfield 120, 3), (7, .ifCond .ne 6, 3), (10, .bipush (-3), 2), (12, .ireturn, 1), (13, .aload_n 0, 1), (14, .getfield 12, 3), (17, .iconst 0, 1), (18, .putfield 120, 3), (21, .aload_n 0, 1), (22, .getfield 12, 3), (25, .getfield 128, 3), (28, .getfield 131, 3), (31, .ireturn, 1)])], [])
def mt_X10_post : zMt := (yX10_post, cX10_post, 2, (some .int), 10, 6, [(42, [(0, .aload_n 0, 1), (1, .getfield 12, 3), (4, .getfield 120, 3), (7, .ifCond .ne 6, 3), (10, .bipush (-3), 2), (12, .ireturn, 1), (13, .aload_n 0, 1), (14, .getfield 12, 3), (17, .aload_n 0, 1), (18, .getfield 12, 3), (21, .getfield 128, 3), (24, .bipush (-5), 2), (26, .invokevirtual 144, 3), (29, .istore_n 1, 1), (30, .iload_n 1, 1), (31, .ifCond .lt 11, 3), (34, .aload_n 0, 1), (35, .getfield 12, 3), (38, .iconst 0, 1), (39, .putfield 120, 3)]), (100000, [(42, .iload_n 1, 1), (43, .ireturn, 1)])], [])
def mt_X10_reverse : zMt := (yX10_reverse, cX10_reverse, 3, (some .int), 10, 6, [(39, [(0, .aload_n 0, 1), (1, .getfield 12, 3), (4, .getfield 96, 3), (7, .astore_n 2, 1), (8, .aload_n 2, 1), (9, .iload_n 1, 1), (10, .invokevirtual 148, 3), (13, .ifCond .ne 5, 3), (16, .iconst (-1), 1), (17, .ireturn, 1), (18, .aload_n 0, 1), (19, .getfield 12, 3), (22, .getfield 120, 3), (25, .ifCond .ne 11, 3), (28, .aload_n 2, 1), (29, .iload_n 1, 1), (30, .invokevirtual 149, 3), (33, .ifCond .ne 6, 3), (36, .bipush (-3), 2), (38, .ireturn, 1)]), (100000, [(39, .aload_n 2, 1), (40, .invokevirtual 124, 3), (43, .ifCond .eq 6, 3), (46, .bipush (-4), 2), (48, .ireturn, 1), (49, .aload_n 2, 1), (50, .iload_n 1, 1), (51, .aload_n 0, 1), (52, .getfield 24, 3), (55, .invokevirtual 152, 3), (58, .aload_n 0, 1), (59, .getfield 12, 3), (62, .aload_n 0, 1), (63, .getfield 24, 3), (66, .iload_n 1, 1), (67, .invokevirtual 144, 3), (70, .ireturn, 1)])], [])
def mt_X10_journal : zMt := (yX10_journal, cX10_journal, 4, (some .int), 10, 1, [(60, [(0, .aload_n 0, 1), (1, .getfield 12, 3), (4, .getfield 96, 3), (7, .astore_n 3, 1), (8, .aload_n 3, 1), (9, .iload_n 1, 1), (10, .invokevirtual 148, 3), (13, .ifCond .ne 5, 3), (16, .iconst (-1), 1), (17, .ireturn, 1), (18, .iload_n 2, 1), (19, .tableswitch 57 0 3 #[29, 36, 43, 50], 29), (48, .aload_n 3, 1), (49, .getfield 156, 3), (52, .iload_n 1, 1), (53, .iaload, 1), (54, .ireturn, 1), (55, .aload_n 3, 1), (56, .getfield 158, 3), (59, .iload_n 1, 1)]), (100000, [(60, .iaload, 1), (61, .ireturn, 1), (62, .aload_n 3, 1), (63, .getfield 160, 3), (66, .iload_n 1, 1), (67, .iaload, 1), (68, .ireturn, 1), (69, .aload_n 3, 1), (70, .getfield 163, 3), (73, .iload_n 1, 1), (74, .iaload, 1), (75, .ireturn, 1), (76, .iconst (-1), 1), (77, .ireturn, 1)])], [])
def mt_X10_part : zMt := (yX10_part, cX10_part, 6, (some .long), 10, 1, [(43, [(0, .aload_n 0, 1), (1, .getfield 12, 3), (4, .getfield 96, 3), (7, .astore 4, 2), (9, .aload 4, 2), (11, .iload_n 1, 1), (12, .invokevirtual 148, 3), (15, .ifCond .eq 25, 3), (18, .iload_n 2, 1), (19, .ifCond .lt 21, 3), (22, .iload_n 2, 1), (23, .aload 4, 2), (25, .getfield 158, 3), (28, .iload_n 1, 1), (29, .iaload, 1), (30, .if_icmp .ge 10, 3), (33, .iload_n 3, 1), (34, .invokestatic 166, 3), (37, .ifCond .ne 7, 3), (40, .ldc2_w 169, 3)]), (77, [(43, .lreturn, 1), (44, .iload_n 1, 1), (45, .bipush 10, 2), (47, .imul, 1), (48, .iload_n 2, 1), (49, .iadd, 1), (50, .istore 5, 2), (52, .iload_n 3, 1), (53, .ifCond .ne 15, 3), (56, .aload 4, 2), (58, .getfield 171, 3), (61, .iload 5, 2), (63, .iaload, 1), (64, .i2l, 1), (65, .goto 12, 3), (68, .aload 4, 2), (70, .getfield 174, 3), (73, .iload 5, 2), (75, .iaload, 1), (76, .i2l, 1)]), (100000, [(77, .lreturn, 1)])], [])
def mt_X10_cause : zMt := (yX10_cause, cX10_cause, 3, (some .int), 10, 1, [(41, [(0, .iload_n 1, 1), (1, .ifCond .lt 10, 3), (4, .iload_n 2, 1), (5, .invokestatic 166, 3), (8, .ifCond .ne 5, 3), (11, .iconst (-1), 1), (12, .ireturn, 1), (13, .iload_n 1, 1), (14, .aload_n 0, 1), (15, .getfield 12, 3), (18, .getfield 177, 3), (21, .getfield 181, 3), (24, .if_icmp .lt 6, 3), (27, .bipush (-5), 2), (29, .ireturn, 1), (30, .iload_n 2, 1), (31, .ifCond .ne 18, 3), (34, .aload_n 0, 1), (35, .getfield 12, 3), (38, .getfield 177, 3)]), (100000, [(41, .getfield 184, 3), (44, .iload_n 1, 1), (45, .iaload, 1), (46, .goto 15, 3), (49, .aload_n 0, 1), (50, .getfield 12, 3), (53, .getfield 177, 3), (56, .getfield 187, 3), (59, .iload_n 1, 1), (60, .iaload, 1), (61, .ireturn, 1)])], [])
def mt_X10_balance : zMt := (yX10_balance, cX10_balance, 3, (some .long), 10, 2, [(100000, [(0, .aload_n 0, 1), (1, .getfield 12, 3), (4, .getfield 56, 3), (7, .iload_n 1, 1), (8, .invokevirtual 60, 3), (11, .ifCond .eq 10, 3), (14, .iload_n 2, 1), (15, .invokestatic 190, 3), (18, .ifCond .ne 7, 3), (21, .ldc2_w 169, 3), (24, .lreturn, 1), (25, .aload_n 0, 1), (26, .getfield 12, 3), (29, .getfield 96, 3), (32, .iload_n 1, 1), (33, .iconst 0, 1), (34, .iload_n 2, 1), (35, .invokevirtual 193, 3), (38, .lreturn, 1)])], [])
def mt_X10_branch : zMt := (yX10_branch, cX10_branch, 4, (some .long), 10, 3, [(40, [(0, .aload_n 0, 1), (1, .getfield 12, 3), (4, .getfield 56, 3), (7, .iload_n 1, 1), (8, .invokevirtual 60, 3), (11, .ifCond .eq 17, 3), (14, .iload_n 2, 1), (15, .invokestatic 66, 3), (18, .ifCond .eq 10, 3), (21, .iload_n 3, 1), (22, .invokestatic 190, 3), (25, .ifCond .ne 7, 3), (28, .ldc2_w 169, 3), (31, .lreturn, 1), (32, .aload_n 0, 1), (33, .getfield 12, 3), (36, .iload_n 1, 1), (37, .iload_n 2, 1), (38, .iconst 0, 1), (39, .iload_n 3, 1)]), (100000, [(40, .invokevirtual 197, 3), (43, .lreturn, 1)])], [])
def mt_X10_close : zMt := (yX10_close, cX10_close, 2, (some .int), 10, 2, [(39, [(0, .iload_n 1, 1), (1, .invokestatic 201, 3), (4, .ifCond .ne 5, 3), (7, .iconst (-1), 1), (8, .ireturn, 1), (9, .iload_n 1, 1), (10, .aload_n 0, 1), (11, .getfield 12, 3), (14, .getfield 204, 3), (17, .if_icmp .ne 19, 3), (20, .aload_n 0, 1), (21, .getfield 12, 3), (24, .getfield 116, 3), (27, .iload_n 1, 1), (28, .iconst 1, 1), (29, .iadd, 1), (30, .invokestatic 207, 3), (33, .if_icmp .ge 6, 3), (36, .bipush (-3), 2), (38, .ireturn, 1)]), (79, [(39, .aload_n 0, 1), (40, .getfield 12, 3), (43, .getfield 210, 3), (46, .iload_n 1, 1), (47, .aload_n 0, 1), (48, .getfield 12, 3), (51, .getfield 96, 3), (54, .iload_n 1, 1), (55, .invokestatic 207, 3), (58, .iload_n 1, 1), (59, .invokestatic 213, 3), (62, .invokevirtual 216, 3), (65, .lastore, 1), (66, .aload_n 0, 1), (67, .getfield 12, 3), (70, .dup, 1), (71, .getfield 204, 3), (74, .iconst 1, 1), (75, .iadd, 1), (76, .putfield 204, 3)]), (100000, [(79, .aload_n 0, 1), (80, .getfield 12, 3), (83, .getfield 204, 3), (86, .ireturn, 1)])], [])
def mt_X10_seal : zMt := (yX10_seal, cX10_seal, 2, (some .long), 10, 1, [(100000, [(0, .iload_n 1, 1), (1, .invokestatic 201, 3), (4, .ifCond .eq 14, 3), (7, .iload_n 1, 1), (8, .aload_n 0, 1), (9, .getfield 12, 3), (12, .getfield 204, 3), (15, .if_icmp .lt 7, 3), (18, .ldc2_w 169, 3), (21, .lreturn, 1), (22, .aload_n 0, 1), (23, .getfield 12, 3), (26, .getfield 210, 3), (29, .iload_n 1, 1), (30, .laload, 1), (31, .lreturn, 1)])], [])
def mt_X10_audit : zMt := (yX10_audit, cX10_audit, 2, (some .int), 10, 2, [(39, [(0, .iconst 0, 1), (1, .istore_n 1, 1), (2, .iload_n 1, 1), (3, .bipush 10, 2), (5, .if_icmp .ge 53, 3), (8, .iload_n 1, 1), (9, .aload_n 0, 1), (10, .getfield 12, 3), (13, .getfield 204, 3), (16, .if_icmp .ge 42, 3), (19, .aload_n 0, 1), (20, .getfield 12, 3), (23, .getfield 210, 3), (26, .iload_n 1, 1), (27, .laload, 1), (28, .aload_n 0, 1), (29, .getfield 12, 3), (32, .getfield 96, 3), (35, .iload_n 1, 1), (36, .invokestatic 207, 3)]), (100000, [(39, .iload_n 1, 1), (40, .invokestatic 213, 3), (43, .invokevirtual 216, 3), (46, .lcmp, 1), (47, .ifCond .eq 5, 3), (50, .iload_n 1, 1), (51, .ireturn, 1), (52, .iinc 1 1, 3), (55, .goto (-53), 3), (58, .bipush (-5), 2), (60, .ireturn, 1)])], [])
def mt_X10_rate : zMt := (yX10_rate, cX10_rate, 5, (some .int), 10, 2, [(42, [(0, .iload_n 1, 1), (1, .invokestatic 66, 3), (4, .ifCond .eq 7, 3), (7, .iload_n 1, 1), (8, .ifCond .ne 5, 3), (11, .iconst (-1), 1), (12, .ireturn, 1), (13, .iload_n 2, 1), (14, .invokestatic 190, 3), (17, .ifCond .eq 18, 3), (20, .iload_n 3, 1), (21, .invokestatic 220, 3), (24, .ifCond .eq 11, 3), (27, .iload 4, 2), (29, .invokestatic 220, 3), (32, .ifCond .ne 6, 3), (35, .bipush (-2), 2), (37, .ireturn, 1), (38, .aload_n 0, 1), (39, .getfield 12, 3)]), (100000, [(42, .iload_n 2, 1), (43, .invokevirtual 223, 3), (46, .ifCond .eq 6, 3), (49, .bipush (-3), 2), (51, .ireturn, 1), (52, .aload_n 0, 1), (53, .getfield 12, 3), (56, .getfield 226, 3), (59, .iload_n 1, 1), (60, .iload_n 2, 1), (61, .iload_n 3, 1), (62, .iload 4, 2), (64, .invokevirtual 230, 3), (67, .ireturn, 1)])], [])
def mt_X10_rateOf : zMt := (yX10_rateOf, cX10_rateOf, 5, (some .int), 10, 2, [(40, [(0, .iload_n 1, 1), (1, .invokestatic 66, 3), (4, .ifCond .eq 10, 3), (7, .iload_n 3, 1), (8, .invokestatic 166, 3), (11, .ifCond .ne 5, 3), (14, .iconst (-1), 1), (15, .ireturn, 1), (16, .iload_n 2, 1), (17, .invokestatic 190, 3), (20, .ifCond .ne 6, 3), (23, .bipush (-2), 2), (25, .ireturn, 1), (26, .aload_n 0, 1), (27, .getfield 12, 3), (30, .getfield 226, 3), (33, .iload_n 1, 1), (34, .iload_n 2, 1), (35, .invokevirtual 236, 3), (38, .istore 4, 2)]), (100000, [(40, .aload_n 0, 1), (41, .getfield 52, 3), (44, .aload_n 0, 1), (45, .getfield 12, 3), (48, .getfield 226, 3), (51, .iload 4, 2), (53, .invokevirtual 240, 3), (56, .aload_n 0, 1), (57, .getfield 12, 3), (60, .getfield 226, 3), (63, .iload 4, 2), (65, .invokevirtual 243, 3), (68, .invokevirtual 246, 3), (71, .aload_n 0, 1), (72, .getfield 52, 3), (75, .iload_n 3, 1), (76, .invokevirtual 250, 3), (79, .l2i, 1), (80, .ireturn, 1)])], [])
def mt_X10_value : zMt := (yX10_value, cX10_value, 4, (some .long), 10, 4, [(42, [(0, .aload_n 0, 1), (1, .getfield 12, 3), (4, .getfield 56, 3), (7, .iload_n 1, 1), (8, .invokevirtual 60, 3), (11, .ifCond .eq 17, 3), (14, .iload_n 2, 1), (15, .invokestatic 190, 3), (18, .ifCond .eq 10, 3), (21, .iload_n 3, 1), (22, .invokestatic 166, 3), (25, .ifCond .ne 7, 3), (28, .ldc2_w 169, 3), (31, .lreturn, 1), (32, .aload_n 0, 1), (33, .getfield 12, 3), (36, .iload_n 1, 1), (37, .iload_n 2, 1), (38, .aload_n 0, 1), (39, .getfield 52, 3)]), (100000, [(42, .invokevirtual 253, 3), (45, .aload_n 0, 1), (46, .getfield 52, 3), (49, .iload_n 3, 1), (50, .invokevirtual 250, 3), (53, .lreturn, 1)])], [])
def mt_X10_real : zMt := (yX10_real, cX10_real, 6, (some .int), 10, 4, [(38, [(0, .aload_n 0, 1), (1, .getfield 12, 3), (4, .getfield 56, 3), (7, .iload_n 1, 1), (8, .invokevirtual 60, 3), (11, .ifCond .eq 19, 3), (14, .iload_n 2, 1), (15, .invokestatic 190, 3), (18, .ifCond .eq 12, 3), (21, .iload_n 3, 1), (22, .ifCond .lt 8, 3), (25, .iload_n 3, 1), (26, .iconst 3, 1), (27, .if_icmp .le 5, 3), (30, .iconst 0, 1), (31, .ireturn, 1), (32, .aload_n 0, 1), (33, .getfield 12, 3), (36, .iload_n 1, 1), (37, .iload_n 2, 1)]), (99, [(38, .aload_n 0, 1), (39, .getfield 52, 3), (42, .invokevirtual 253, 3), (45, .aload_n 0, 1), (46, .getfield 52, 3), (49, .invokevirtual 257, 3), (52, .dstore 4, 2), (54, .iload_n 3, 1), (55, .tableswitch 49 0 2 #[25, 35, 42], 25), (80, .dload 4, 2), (82, .invokestatic 261, 3), (85, .bipush 32, 2), (87, .lshr, 1), (88, .l2i, 1), (89, .ireturn, 1), (90, .dload 4, 2), (92, .invokestatic 261, 3), (95, .l2i, 1), (96, .ireturn, 1), (97, .dload 4, 2)]), (100000, [(99, .d2f, 1), (100, .invokestatic 265, 3), (103, .ireturn, 1), (104, .dload 4, 2), (106, .d2i, 1), (107, .ireturn, 1)])], [])
def mt_X10_gain : zMt := (yX10_gain, cX10_gain, 6, (some .long), 10, 4, [(48, [(0, .aload_n 0, 1), (1, .getfield 12, 3), (4, .getfield 56, 3), (7, .iload_n 1, 1), (8, .invokevirtual 60, 3), (11, .ifCond .eq 18, 3), (14, .iload_n 2, 1), (15, .invokestatic 66, 3), (18, .ifCond .eq 11, 3), (21, .iload 5, 2), (23, .invokestatic 166, 3), (26, .ifCond .ne 7, 3), (29, .ldc2_w 169, 3), (32, .lreturn, 1), (33, .iload_n 3, 1), (34, .invokestatic 190, 3), (37, .ifCond .eq 17, 3), (40, .iload 4, 2), (42, .invokestatic 190, 3), (45, .ifCond .eq 9, 3)]), (100000, [(48, .iload 4, 2), (50, .iload_n 3, 1), (51, .if_icmp .ge 7, 3), (54, .ldc2_w 169, 3), (57, .lreturn, 1), (58, .aload_n 0, 1), (59, .getfield 12, 3), (62, .iload_n 1, 1), (63, .iload_n 2, 1), (64, .iload_n 3, 1), (65, .iload 4, 2), (67, .aload_n 0, 1), (68, .getfield 52, 3), (71, .invokevirtual 269, 3), (74, .aload_n 0, 1), (75, .getfield 52, 3), (78, .iload 5, 2), (80, .invokevirtual 250, 3), (83, .lreturn, 1)])], [])
def mt_X10_line : zMt := (yX10_line, cX10_line, 6, (some .long), 10, 2, [(41, [(0, .aload_n 0, 1), (1, .getfield 12, 3), (4, .getfield 56, 3), (7, .iload_n 1, 1), (8, .invokevirtual 60, 3), (11, .ifCond .eq 12, 3), (14, .iload_n 3, 1), (15, .ifCond .lt 8, 3), (18, .iload_n 3, 1), (19, .iconst 3, 1), (20, .if_icmp .le 7, 3), (23, .ldc2_w 169, 3), (26, .lreturn, 1), (27, .aload_n 0, 1), (28, .getfield 12, 3), (31, .getfield 96, 3), (34, .iload_n 1, 1), (35, .invokevirtual 100, 3), (38, .istore 4, 2), (40, .iload_n 2, 1)]), (81, [(41, .ifCond .ge 10, 3), (44, .iload 4, 2), (46, .iload_n 2, 1), (47, .iadd, 1), (48, .goto 4, 3), (51, .iload_n 2, 1), (52, .istore 5, 2), (54, .iload 5, 2), (56, .ifCond .lt 10, 3), (59, .iload 5, 2), (61, .iload 4, 2), (63, .if_icmp .lt 7, 3), (66, .ldc2_w 169, 3), (69, .lreturn, 1), (70, .aload_n 0, 1), (71, .getfield 12, 3), (74, .getfield 96, 3), (77, .iload_n 1, 1), (78, .iload 5, 2), (80, .iload_n 3, 1)]), (100000, [(81, .invokevirtual 273, 3), (84, .lreturn, 1)])], [])
def mt_X10_trial : zMt := (yX10_trial, cX10_trial, 9, (some .long), 10, 2, [(43, [(0, .iload_n 1, 1), (1, .invokestatic 66, 3), (4, .ifCond .eq 17, 3), (7, .iload_n 2, 1), (8, .invokestatic 190, 3), (11, .ifCond .eq 10, 3), (14, .iload_n 3, 1), (15, .invokestatic 166, 3), (18, .ifCond .ne 7, 3), (21, .ldc2_w 169, 3), (24, .lreturn, 1), (25, .lconst 0, 1), (26, .lstore 4, 2), (28, .iconst 0, 1), (29, .istore 6, 2), (31, .iload 6, 2), (33, .aload_n 0, 1), (34, .getfield 12, 3), (37, .getfield 56, 3), (40, .getfield 276, 3)]), (85, [(43, .if_icmp .ge 66, 3), (46, .aload_n 0, 1), (47, .getfield 12, 3), (50, .getfield 56, 3), (53, .getfield 80, 3), (56, .iload 6, 2), (58, .iaload, 1), (59, .iload_n 1, 1), (60, .if_icmp .ne 43, 3), (63, .aload_n 0, 1), (64, .getfield 12, 3), (67, .getfield 96, 3), (70, .iload 6, 2), (72, .iconst 0, 1), (73, .iload_n 2, 1), (74, .invokevirtual 193, 3), (77, .lstore 7, 2), (79, .lload 4, 2), (81, .iload_n 3, 1), (82, .ifCond .ne 12, 3)]), (100000, [(85, .lload 7, 2), (87, .lconst 0, 1), (88, .invokestatic 277, 3), (91, .goto 9, 3), (94, .lload 7, 2), (96, .lconst 0, 1), (97, .invokestatic 283, 3), (100, .ladd, 1), (101, .lstore 4, 2), (103, .iinc 6 1, 3), (106, .goto (-75), 3), (109, .lload 4, 2), (111, .lreturn, 1)])], [])
def mt_X10_sorts : zMt := (yX10_sorts, cX10_sorts, 6, (some .long), 10, 3, [(42, [(0, .iload_n 1, 1), (1, .invokestatic 69, 3), (4, .ifCond .eq 10, 3), (7, .iload_n 2, 1), (8, .invokestatic 66, 3), (11, .ifCond .ne 7, 3), (14, .ldc2_w 169, 3), (17, .lreturn, 1), (18, .lconst 0, 1), (19, .lstore_n 3, 1), (20, .iconst 0, 1), (21, .istore 5, 2), (23, .iload 5, 2), (25, .aload_n 0, 1), (26, .getfield 12, 3), (29, .getfield 56, 3), (32, .getfield 276, 3), (35, .if_icmp .ge 55, 3), (38, .aload_n 0, 1), (39, .getfield 12, 3)]), (83, [(42, .getfield 56, 3), (45, .getfield 83, 3), (48, .iload 5, 2), (50, .iaload, 1), (51, .iload_n 1, 1), (52, .if_icmp .ne 32, 3), (55, .aload_n 0, 1), (56, .getfield 12, 3), (59, .getfield 56, 3), (62, .getfield 80, 3), (65, .iload 5, 2), (67, .iaload, 1), (68, .iload_n 2, 1), (69, .if_icmp .ne 15, 3), (72, .lload_n 3, 1), (73, .aload_n 0, 1), (74, .getfield 12, 3), (77, .iload 5, 2), (79, .invokevirtual 105, 3), (82, .ladd, 1)]), (100000, [(83, .lstore_n 3, 1), (84, .iinc 5 1, 3), (87, .goto (-64), 3), (90, .lload_n 3, 1), (91, .lreturn, 1)])], [])
def mt_X10_budget : zMt := (yX10_budget, cX10_budget, 5, (some .int), 10, 1, [(41, [(0, .aload_n 0, 1), (1, .getfield 12, 3), (4, .getfield 56, 3), (7, .iload_n 1, 1), (8, .invokevirtual 60, 3), (11, .ifCond .eq 10, 3), (14, .iload_n 2, 1), (15, .invokestatic 201, 3), (18, .ifCond .ne 5, 3), (21, .iconst (-1), 1), (22, .ireturn, 1), (23, .iload_n 2, 1), (24, .aload_n 0, 1), (25, .getfield 12, 3), (28, .getfield 204, 3), (31, .if_icmp .ge 6, 3), (34, .bipush (-3), 2), (36, .ireturn, 1), (37, .aload_n 0, 1), (38, .getfield 12, 3)]), (100000, [(41, .getfield 56, 3), (44, .getfield 286, 3), (47, .iload_n 1, 1), (48, .bipush 10, 2), (50, .imul, 1), (51, .iload_n 2, 1), (52, .iadd, 1), (53, .lload_n 3, 1), (54, .lastore, 1), (55, .iconst 1, 1), (56, .ireturn, 1)])], [])
def mt_X10_left : zMt := (yX10_left, cX10_left, 6, (some .long), 10, 3, [(38, [(0, .aload_n 0, 1), (1, .getfield 12, 3), (4, .getfield 56, 3), (7, .astore_n 3, 1), (8, .aload_n 3, 1), (9, .iload_n 1, 1), (10, .invokevirtual 60, 3), (13, .ifCond .eq 10, 3), (16, .iload_n 2, 1), (17, .invokestatic 201, 3), (20, .ifCond .ne 7, 3), (23, .ldc2_w 169, 3), (26, .lreturn, 1), (27, .aload_n 0, 1), (28, .getfield 12, 3), (31, .iload_n 1, 1), (32, .aload_n 3, 1), (33, .getfield 80, 3), (36, .iload_n 1, 1), (37, .iaload, 1)]), (100000, [(38, .iload_n 2, 1), (39, .invokestatic 207, 3), (42, .iload_n 2, 1), (43, .invokestatic 213, 3), (46, .invokevirtual 197, 3), (49, .lstore 4, 2), (51, .aload_n 3, 1), (52, .getfield 286, 3), (55, .iload_n 1, 1), (56, .bipush 10, 2), (58, .imul, 1), (59, .iload_n 2, 1), (60, .iadd, 1), (61, .laload, 1), (62, .lload 4, 2), (64, .lsub, 1), (65, .lreturn, 1)])], [])
def mt_X10_extreme : zMt := (yX10_extreme, cX10_extreme, 11, (some .int), 10, 3, [(40, [(0, .iload_n 1, 1), (1, .invokestatic 66, 3), (4, .ifCond .eq 10, 3), (7, .iload_n 2, 1), (8, .invokestatic 166, 3), (11, .ifCond .ne 5, 3), (14, .iconst (-1), 1), (15, .ireturn, 1), (16, .bipush (-5), 2), (18, .istore_n 3, 1), (19, .lconst 0, 1), (20, .lstore 4, 2), (22, .iconst 0, 1), (23, .istore 6, 2), (25, .iload 6, 2), (27, .aload_n 0, 1), (28, .getfield 12, 3), (31, .getfield 56, 3), (34, .getfield 276, 3), (37, .if_icmp .ge 72, 3)]), (82, [(40, .aload_n 0, 1), (41, .getfield 12, 3), (44, .getfield 56, 3), (47, .getfield 80, 3), (50, .iload 6, 2), (52, .iaload, 1), (53, .iload_n 1, 1), (54, .if_icmp .ne 49, 3), (57, .aload_n 0, 1), (58, .getfield 12, 3), (61, .iload 6, 2), (63, .invokevirtual 105, 3), (66, .lstore 7, 2), (68, .iload_n 2, 1), (69, .ifCond .ne 8, 3), (72, .lload 7, 2), (74, .goto 6, 3), (77, .lload 7, 2), (79, .lneg, 1), (80, .lstore 9, 2)]), (100000, [(82, .iload_n 3, 1), (83, .bipush (-5), 2), (85, .if_icmp .eq 11, 3), (88, .lload 9, 2), (90, .lload 4, 2), (92, .lcmp, 1), (93, .ifCond .le 10, 3), (96, .iload 6, 2), (98, .istore_n 3, 1), (99, .lload 9, 2), (101, .lstore 4, 2), (103, .iinc 6 1, 3), (106, .goto (-81), 3), (109, .iload_n 3, 1), (110, .ireturn, 1)])], [])
def mt_X10_meet : zMt := (yX10_meet, cX10_meet, 3, (some .int), 10, 1, [(42, [(0, .aload_n 0, 1), (1, .getfield 12, 3), (4, .getfield 56, 3), (7, .iload_n 1, 1), (8, .invokevirtual 60, 3), (11, .ifCond .eq 17, 3), (14, .aload_n 0, 1), (15, .getfield 12, 3), (18, .getfield 56, 3), (21, .iload_n 2, 1), (22, .invokevirtual 60, 3), (25, .ifCond .ne 5, 3), (28, .iconst (-1), 1), (29, .ireturn, 1), (30, .aload_n 0, 1), (31, .getfield 12, 3), (34, .getfield 56, 3), (37, .iload_n 1, 1), (38, .iload_n 2, 1), (39, .invokevirtual 289, 3)]), (100000, [(42, .ireturn, 1)])], [])
def mt_X10_feed : zMt := (yX10_feed, cX10_feed, 2, (some .int), 10, 1, [(38, [(0, .iload_n 1, 1), (1, .iconst 1, 1), (2, .if_icmp .lt 9, 3), (5, .iload_n 1, 1), (6, .bipush 127, 2), (8, .if_icmp .le 6, 3), (11, .bipush (-2), 2), (13, .ireturn, 1), (14, .aload_n 0, 1), (15, .getfield 31, 3), (18, .getfield 292, 3), (21, .bipush 90, 2), (23, .if_icmp .lt 6, 3), (26, .bipush (-4), 2), (28, .ireturn, 1), (29, .aload_n 0, 1), (30, .getfield 31, 3), (33, .iload_n 1, 1), (34, .invokevirtual 295, 3), (37, .aload_n 0, 1)]), (100000, [(38, .getfield 31, 3), (41, .getfield 292, 3), (44, .ireturn, 1)])], [])
def mt_X10_clear : zMt := (yX10_clear, cX10_clear, 2, (some .int), 10, 0, [(100000, [(0, .aload_n 0, 1), (1, .getfield 31, 3), (4, .getfield 292, 3), (7, .istore_n 1, 1), (8, .aload_n 0, 1), (9, .getfield 31, 3), (12, .iconst 0, 1), (13, .putfield 292, 3), (16, .iload_n 1, 1), (17, .ireturn, 1)])], [])
def mt_X10_read : zMt := (yX10_read, cX10_read, 3, (some .int), 10, 6, [(37, [(0, .aload_n 0, 1), (1, .getfield 31, 3), (4, .aload_n 0, 1), (5, .getfield 12, 3), (8, .getfield 56, 3), (11, .aload_n 0, 1), (12, .getfield 24, 3), (15, .invokevirtual 298, 3), (18, .istore_n 1, 1), (19, .aload_n 0, 1), (20, .getfield 31, 3), (23, .iconst 0, 1), (24, .putfield 292, 3), (27, .iload_n 1, 1), (28, .iconst (-1), 1), (29, .if_icmp .eq 8, 3), (32, .bipush (-100), 2), (34, .iload_n 1, 1), (35, .isub, 1), (36, .ireturn, 1)]), (77, [(37, .aload_n 0, 1), (38, .getfield 31, 3), (41, .getfield 302, 3), (44, .istore_n 2, 1), (45, .aload_n 0, 1), (46, .getfield 12, 3), (49, .getfield 120, 3), (52, .ifCond .eq 6, 3), (55, .bipush (-3), 2), (57, .ireturn, 1), (58, .iload_n 2, 1), (59, .bipush (-5), 2), (61, .if_icmp .eq 31, 3), (64, .aload_n 0, 1), (65, .getfield 12, 3), (68, .getfield 96, 3), (71, .iload_n 2, 1), (72, .aload_n 0, 1), (73, .getfield 24, 3), (76, .aload_n 0, 1)]), (124, [(77, .getfield 31, 3), (80, .getfield 305, 3), (83, .invokevirtual 308, 3), (86, .ifCond .ne 6, 3), (89, .bipush (-3), 2), (91, .ireturn, 1), (92, .aload_n 0, 1), (93, .getfield 12, 3), (96, .getfield 96, 3), (99, .invokevirtual 124, 3), (102, .ifCond .ne 15, 3), (105, .aload_n 0, 1), (106, .getfield 31, 3), (109, .getfield 305, 3), (112, .bipush 10, 2), (114, .if_icmp .le 6, 3), (117, .bipush (-4), 2), (119, .ireturn, 1), (120, .aload_n 0, 1), (121, .getfield 12, 3)]), (100000, [(124, .aload_n 0, 1), (125, .getfield 24, 3), (128, .iload_n 2, 1), (129, .invokevirtual 144, 3), (132, .ireturn, 1)])], [])
def mt_X10_spell : zMt := (yX10_spell, cX10_spell, 2, (some .int), 10, 5, [(100000, [(0, .aload_n 0, 1), (1, .getfield 12, 3), (4, .getfield 96, 3), (7, .iload_n 1, 1), (8, .invokevirtual 148, 3), (11, .ifCond .ne 5, 3), (14, .iconst (-1), 1), (15, .ireturn, 1), (16, .aload_n 0, 1), (17, .getfield 38, 3), (20, .aload_n 0, 1), (21, .getfield 12, 3), (24, .getfield 96, 3), (27, .iload_n 1, 1), (28, .invokevirtual 312, 3), (31, .aload_n 0, 1), (32, .getfield 38, 3), (35, .getfield 316, 3), (38, .ireturn, 1)])], [])
def mt_X10_paper : zMt := (yX10_paper, cX10_paper, 2, (some .int), 10, 0, [(100000, [(0, .iload_n 1, 1), (1, .ifCond .lt 14, 3), (4, .iload_n 1, 1), (5, .aload_n 0, 1), (6, .getfield 38, 3), (9, .getfield 316, 3), (12, .if_icmp .lt 5, 3), (15, .iconst (-1), 1), (16, .ireturn, 1), (17, .aload_n 0, 1), (18, .getfield 38, 3), (21, .getfield 317, 3), (24, .iload_n 1, 1), (25, .baload, 1), (26, .ireturn, 1)])], [])
def mt_X10_told : zMt := (yX10_told, cX10_told, 2, (some .int), 10, 1, [(94, [(0, .iload_n 1, 1), (1, .tableswitch 153 0 8 #[51, 62, 73, 99, 107, 115, 123, 131, 142], 51), (52, .aload_n 0, 1), (53, .getfield 12, 3), (56, .getfield 56, 3), (59, .getfield 276, 3), (62, .ireturn, 1), (63, .aload_n 0, 1), (64, .getfield 12, 3), (67, .getfield 96, 3), (70, .getfield 134, 3), (73, .ireturn, 1), (74, .aload_n 0, 1), (75, .getfield 12, 3), (78, .getfield 120, 3), (81, .ifCond .eq 16, 3), (84, .aload_n 0, 1), (85, .getfield 12, 3), (88, .getfield 128, 3), (91, .getfield 131, 3)]), (133, [(94, .goto 5, 3), (97, .bipush (-5), 2), (99, .ireturn, 1), (100, .aload_n 0, 1), (101, .getfield 12, 3), (104, .getfield 116, 3), (107, .ireturn, 1), (108, .aload_n 0, 1), (109, .getfield 12, 3), (112, .getfield 204, 3), (115, .ireturn, 1), (116, .aload_n 0, 1), (117, .getfield 31, 3), (120, .getfield 292, 3), (123, .ireturn, 1), (124, .aload_n 0, 1), (125, .getfield 38, 3), (128, .getfield 316, 3), (131, .ireturn, 1), (132, .aload_n 0, 1)]), (100000, [(133, .getfield 12, 3), (136, .getfield 177, 3), (139, .getfield 181, 3), (142, .ireturn, 1), (143, .aload_n 0, 1), (144, .getfield 12, 3), (147, .getfield 96, 3), (150, .invokevirtual 321, 3), (153, .ireturn, 1), (154, .iconst (-1), 1), (155, .ireturn, 1)])], [])
def mt_X10_list : zMt := (yX10_list, cX10_list, 3, (some .int), 10, 1, [(35, [(0, .iload_n 1, 1), (1, .invokestatic 325, 3), (4, .ifCond .ne 5, 3), (7, .iconst (-1), 1), (8, .ireturn, 1), (9, .iload_n 2, 1), (10, .bipush 40, 2), (12, .if_icmp .le 6, 3), (15, .bipush (-2), 2), (17, .ireturn, 1), (18, .iload_n 2, 1), (19, .ifCond .ge 6, 3), (22, .bipush (-14), 2), (24, .ireturn, 1), (25, .aload_n 0, 1), (26, .getfield 45, 3), (29, .iload_n 1, 1), (30, .iload_n 2, 1), (31, .invokevirtual 328, 3), (34, .iconst 1, 1)]), (100000, [(35, .ireturn, 1)])], [])
def mt_X10_set : zMt := (yX10_set, cX10_set, 5, (some .int), 10, 1, [(38, [(0, .iload_n 1, 1), (1, .invokestatic 325, 3), (4, .ifCond .ne 5, 3), (7, .iconst (-1), 1), (8, .ireturn, 1), (9, .aload_n 0, 1), (10, .getfield 45, 3), (13, .iload_n 1, 1), (14, .invokevirtual 331, 3), (17, .ifCond .ne 6, 3), (20, .bipush (-11), 2), (22, .ireturn, 1), (23, .aload_n 0, 1), (24, .getfield 45, 3), (27, .iload_n 1, 1), (28, .iload_n 2, 1), (29, .invokevirtual 334, 3), (32, .ifCond .ne 6, 3), (35, .bipush (-13), 2), (37, .ireturn, 1)]), (100000, [(38, .aload_n 0, 1), (39, .getfield 45, 3), (42, .iload_n 1, 1), (43, .iload_n 2, 1), (44, .lload_n 3, 1), (45, .invokevirtual 338, 3), (48, .iconst 1, 1), (49, .ireturn, 1)])], [])
def mt_X10_get : zMt := (yX10_get, cX10_get, 3, (some .long), 10, 1, [(100000, [(0, .iload_n 1, 1), (1, .invokestatic 325, 3), (4, .ifCond .eq 15, 3), (7, .aload_n 0, 1), (8, .getfield 45, 3), (11, .iload_n 1, 1), (12, .iload_n 2, 1), (13, .invokevirtual 334, 3), (16, .ifCond .ne 7, 3), (19, .ldc2_w 169, 3), (22, .lreturn, 1), (23, .aload_n 0, 1), (24, .getfield 45, 3), (27, .iload_n 1, 1), (28, .iload_n 2, 1), (29, .invokevirtual 342, 3), (32, .lreturn, 1)])], [])
def mt_X10_lay : zMt := (yX10_lay, cX10_lay, 4, (some .int), 10, 3, [(39, [(0, .iload_n 1, 1), (1, .invokestatic 325, 3), (4, .ifCond .ne 5, 3), (7, .iconst (-1), 1), (8, .ireturn, 1), (9, .aload_n 0, 1), (10, .getfield 45, 3), (13, .iload_n 1, 1), (14, .invokevirtual 331, 3), (17, .ifCond .ne 6, 3), (20, .bipush (-11), 2), (22, .ireturn, 1), (23, .iconst 0, 1), (24, .istore_n 3, 1), (25, .iload_n 3, 1), (26, .aload_n 0, 1), (27, .getfield 12, 3), (30, .getfield 56, 3), (33, .getfield 276, 3), (36, .if_icmp .ge 49, 3)]), (72, [(39, .iload_n 2, 1), (40, .ifCond .lt 17, 3), (43, .aload_n 0, 1), (44, .getfield 45, 3), (47, .iload_n 1, 1), (48, .iload_n 2, 1), (49, .iload_n 3, 1), (50, .iadd, 1), (51, .invokevirtual 334, 3), (54, .ifCond .ne 6, 3), (57, .bipush (-13), 2), (59, .ireturn, 1), (60, .aload_n 0, 1), (61, .getfield 45, 3), (64, .iload_n 1, 1), (65, .iload_n 2, 1), (66, .iload_n 3, 1), (67, .iadd, 1), (68, .aload_n 0, 1), (69, .getfield 12, 3)]), (100000, [(72, .iload_n 3, 1), (73, .invokevirtual 105, 3), (76, .invokevirtual 338, 3), (79, .iinc 3 1, 3), (82, .goto (-57), 3), (85, .aload_n 0, 1), (86, .getfield 12, 3), (89, .getfield 56, 3), (92, .getfield 276, 3), (95, .ireturn, 1)])], [])
def mt_X10_judge : zMt := (yX10_judge, cX10_judge, 4, (some .int), 10, 3, [(39, [(0, .iload_n 1, 1), (1, .invokestatic 325, 3), (4, .ifCond .ne 5, 3), (7, .iconst (-1), 1), (8, .ireturn, 1), (9, .aload_n 0, 1), (10, .getfield 45, 3), (13, .iload_n 1, 1), (14, .invokevirtual 331, 3), (17, .ifCond .ne 6, 3), (20, .bipush (-11), 2), (22, .ireturn, 1), (23, .iconst 0, 1), (24, .istore_n 3, 1), (25, .iload_n 3, 1), (26, .aload_n 0, 1), (27, .getfield 12, 3), (30, .getfield 56, 3), (33, .getfield 276, 3), (36, .if_icmp .ge 57, 3)]), (70, [(39, .iload_n 2, 1), (40, .ifCond .lt 17, 3), (43, .aload_n 0, 1), (44, .getfield 45, 3), (47, .iload_n 1, 1), (48, .iload_n 2, 1), (49, .iload_n 3, 1), (50, .iadd, 1), (51, .invokevirtual 334, 3), (54, .ifCond .ne 8, 3), (57, .bipush 100, 2), (59, .iload_n 3, 1), (60, .iadd, 1), (61, .ireturn, 1), (62, .aload_n 0, 1), (63, .getfield 45, 3), (66, .iload_n 1, 1), (67, .iload_n 2, 1), (68, .iload_n 3, 1), (69, .iadd, 1)]), (100000, [(70, .invokevirtual 342, 3), (73, .aload_n 0, 1), (74, .getfield 12, 3), (77, .iload_n 3, 1), (78, .invokevirtual 105, 3), (81, .lcmp, 1), (82, .ifCond .eq 5, 3), (85, .iload_n 3, 1), (86, .ireturn, 1), (87, .iinc 3 1, 3), (90, .goto (-65), 3), (93, .bipush (-5), 2), (95, .ireturn, 1)])], [])
def mt_X10_image : zMt := (yX10_image, cX10_image, 1, (some .int), 10, 2, [(100000, [(0, .aload_n 0, 1), (1, .getfield 18, 3), (4, .ifnonnull 14, 3), (7, .aload_n 0, 1), (8, .new 9, 3), (11, .dup, 1), (12, .invokespecial 11, 3), (15, .putfield 18, 3), (18, .aload_n 0, 1), (19, .getfield 18, 3), (22, .aload_n 0, 1), (23, .getfield 12, 3), (26, .invokevirtual 345, 3), (29, .aload_n 0, 1), (30, .getfield 12, 3), (33, .getfield 96, 3), (36, .getfield 134, 3), (39, .ireturn, 1)])], [])
def mt_X10_undo : zMt := (yX10_undo, cX10_undo, 1, (some .int), 10, 2, [(100000, [(0, .aload_n 0, 1), (1, .getfield 18, 3), (4, .ifnonnull 6, 3), (7, .bipush (-3), 2), (9, .ireturn, 1), (10, .aload_n 0, 1), (11, .getfield 12, 3), (14, .aload_n 0, 1), (15, .getfield 18, 3), (18, .invokevirtual 345, 3), (21, .aload_n 0, 1), (22, .getfield 12, 3), (25, .getfield 96, 3), (28, .getfield 134, 3), (31, .ireturn, 1)])], [])
def mt_X10_isCurrency : zMt := (yX10_isCurrency, cX10_isCurrency, 1, (some .boolean), 10, 0, [(100000, [(0, .iload_n 0, 1), (1, .ifCond .lt 12, 3), (4, .iload_n 0, 1), (5, .iconst 4, 1), (6, .if_icmp .ge 7, 3), (9, .iconst 1, 1), (10, .goto 4, 3), (13, .iconst 0, 1), (14, .ireturn, 1)])], [])
def mt_X10_isSort : zMt := (yX10_isSort, cX10_isSort, 1, (some .boolean), 10, 0, [(100000, [(0, .iload_n 0, 1), (1, .ifCond .lt 12, 3), (4, .iload_n 0, 1), (5, .iconst 4, 1), (6, .if_icmp .ge 7, 3), (9, .iconst 1, 1), (10, .goto 4, 3), (13, .iconst 0, 1), (14, .ireturn, 1)])], [])
def mt_X10_isDay : zMt := (yX10_isDay, cX10_isDay, 1, (some .boolean), 10, 0, [(100000, [(0, .iload_n 0, 1), (1, .ifCond .lt 14, 3), (4, .iload_n 0, 1), (5, .sipush 1000, 3), (8, .if_icmp .ge 7, 3), (11, .iconst 1, 1), (12, .goto 4, 3), (15, .iconst 0, 1), (16, .ireturn, 1)])], [])
def mt_X10_isPeriod : zMt := (yX10_isPeriod, cX10_isPeriod, 1, (some .boolean), 10, 0, [(100000, [(0, .iload_n 0, 1), (1, .ifCond .lt 13, 3), (4, .iload_n 0, 1), (5, .bipush 10, 2), (7, .if_icmp .ge 7, 3), (10, .iconst 1, 1), (11, .goto 4, 3), (14, .iconst 0, 1), (15, .ireturn, 1)])], [])
def mt_X10_isRatePart : zMt := (yX10_isRatePart, cX10_isRatePart, 1, (some .boolean), 10, 0, [(100000, [(0, .iload_n 0, 1), (1, .iconst 1, 1), (2, .if_icmp .lt 14, 3), (5, .iload_n 0, 1), (6, .sipush 999, 3), (9, .if_icmp .gt 7, 3), (12, .iconst 1, 1), (13, .goto 4, 3), (16, .iconst 0, 1), (17, .ireturn, 1)])], [])
def mt_X10_isList : zMt := (yX10_isList, cX10_isList, 1, (some .boolean), 10, 0, [(100000, [(0, .iload_n 0, 1), (1, .ifCond .lt 12, 3), (4, .iload_n 0, 1), (5, .iconst 4, 1), (6, .if_icmp .ge 7, 3), (9, .iconst 1, 1), (10, .goto 4, 3), (13, .iconst 0, 1), (14, .ireturn, 1)])], [])
def mt_X10_isOneOfTwo : zMt := (yX10_isOneOfTwo, cX10_isOneOfTwo, 1, (some .boolean), 10, 0, [(100000, [(0, .iload_n 0, 1), (1, .ifCond .eq 8, 3), (4, .iload_n 0, 1), (5, .iconst 1, 1), (6, .if_icmp .ne 7, 3), (9, .iconst 1, 1), (10, .goto 4, 3), (13, .iconst 0, 1), (14, .ireturn, 1)])], [])
def mt_X10_firstDay : zMt := (yX10_firstDay, cX10_firstDay, 1, (some .int), 10, 0, [(100000, [(0, .iload_n 0, 1), (1, .bipush 100, 2), (3, .imul, 1), (4, .ireturn, 1)])], [])
def mt_X10_lastDay : zMt := (yX10_lastDay, cX10_lastDay, 1, (some .int), 10, 1, [(100000, [(0, .iload_n 0, 1), (1, .invokestatic 207, 3), (4, .bipush 100, 2), (6, .iadd, 1), (7, .iconst 1, 1), (8, .isub, 1), (9, .ireturn, 1)])], [])
def mt_X10_bitsOfDouble : zMt := (yX10_bitsOfDouble, cX10_bitsOfDouble, 2, (some .long), 10, 1, [(100000, [(0, .dload_n 0, 1), (1, .bipush 52, 2), (3, .sipush 1023, 3), (6, .invokestatic 349, 3), (9, .lreturn, 1)])], [])
def mt_X10_bitsOfFloat : zMt := (yX10_bitsOfFloat, cX10_bitsOfFloat, 1, (some .int), 10, 1, [(100000, [(0, .fload_n 0, 1), (1, .f2d, 1), (2, .bipush 23, 2), (4, .bipush 127, 2), (6, .invokestatic 349, 3), (9, .l2i, 1), (10, .ireturn, 1)])], [])
def mt_X10_bitsInForm : zMt := (yX10_bitsInForm, cX10_bitsInForm, 9, (some .long), 10, 0, [(30, [(0, .dload_n 0, 1), (1, .dconst 0, 1), (2, .dcmp .l, 1), (3, .ifCond .ne 5, 3), (6, .lconst 0, 1), (7, .lreturn, 1), (8, .dload_n 0, 1), (9, .dconst 0, 1), (10, .dcmp .g, 1), (11, .ifCond .ge 8, 3), (14, .dload_n 0, 1), (15, .dneg, 1), (16, .goto 4, 3), (19, .dload_n 0, 1), (20, .dstore 4, 2), (22, .iload_n 3, 1), (23, .istore 6, 2), (25, .iconst 0, 1), (26, .istore 7, 2), (28, .iload 7, 2)]), (72, [(30, .iload_n 3, 1), (31, .if_icmp .ge 29, 3), (34, .dload 4, 2), (36, .ldc2_w 353, 3), (39, .dcmp .l, 1), (40, .ifCond .lt 20, 3), (43, .dload 4, 2), (45, .ldc2_w 353, 3), (48, .ddiv, 1), (49, .dstore 4, 2), (51, .iinc 6 1, 3), (54, .iinc 7 1, 3), (57, .goto (-29), 3), (60, .iconst 0, 1), (61, .istore 7, 2), (63, .iload 7, 2), (65, .iload_n 3, 1), (66, .if_icmp .ge 27, 3), (69, .dload 4, 2), (71, .dconst 1, 1)]), (111, [(72, .dcmp .g, 1), (73, .ifCond .ge 20, 3), (76, .dload 4, 2), (78, .ldc2_w 353, 3), (81, .dmul, 1), (82, .dstore 4, 2), (84, .iinc 6 (-1), 3), (87, .iinc 7 1, 3), (90, .goto (-27), 3), (93, .iload 6, 2), (95, .i2l, 1), (96, .lstore 7, 2), (98, .dload_n 0, 1), (99, .dconst 0, 1), (100, .dcmp .g, 1), (101, .ifCond .ge 16, 3), (104, .lload 7, 2), (106, .ldc2_w 355, 3), (109, .iload_n 3, 1), (110, .iconst 1, 1)]), (100000, [(111, .iadd, 1), (112, .i2l, 1), (113, .lmul, 1), (114, .ladd, 1), (115, .lstore 7, 2), (117, .lload 7, 2), (119, .iload_n 2, 1), (120, .lshl, 1), (121, .dload 4, 2), (123, .dconst 1, 1), (124, .dsub, 1), (125, .lconst 1, 1), (126, .iload_n 2, 1), (127, .lshl, 1), (128, .l2d, 1), (129, .dmul, 1), (130, .d2l, 1), (131, .ladd, 1), (132, .lreturn, 1)])], [])
def mt_X11_in : zMt := (yX11_in, cX11_in, 3, (some .boolean), 11, 0, [(100000, [(0, .iload_n 0, 1), (1, .iload_n 1, 1), (2, .if_icmp .lt 12, 3), (5, .iload_n 0, 1), (6, .iload_n 2, 1), (7, .if_icmp .gt 7, 3), (10, .iconst 1, 1), (11, .goto 4, 3), (14, .iconst 0, 1), (15, .ireturn, 1)])], [])
def mt_X11_init : zMt := (yX11_init, cX11_init, 1, none, 11, 1, [(43, [(0, .aload_n 0, 1), (1, .invokespecial 9, 3), (4, .aload_n 0, 1), (5, .sipush 1280, 3), (8, .newarray .int, 2), (10, .putfield 15, 3), (13, .aload_n 0, 1), (14, .sipush 1000, 3), (17, .newarray .long, 2), (19, .putfield 19, 3), (22, .aload_n 0, 1), (23, .sipush 1280, 3), (26, .newarray .int, 2), (28, .putfield 23, 3), (31, .aload_n 0, 1), (32, .sipush 1000, 3), (35, .newarray .long, 2), (37, .putfield 26, 3), (40, .aload_n 0, 1), (41, .bipush 90, 2)]), (82, [(43, .newarray .int, 2), (45, .putfield 29, 3), (48, .aload_n 0, 1), (49, .bipush 50, 2), (51, .newarray .int, 2), (53, .putfield 32, 3), (56, .aload_n 0, 1), (57, .bipush 50, 2), (59, .newarray .long, 2), (61, .putfield 35, 3), (64, .aload_n 0, 1), (65, .sipush 200, 3), (68, .newarray .int, 2), (70, .putfield 38, 3), (73, .aload_n 0, 1), (74, .iconst 4, 1), (75, .newarray .boolean, 2), (77, .putfield 41, 3), (80, .aload_n 0, 1), (81, .iconst 4, 1)]), (100000, [(82, .newarray .int, 2), (84, .putfield 45, 3), (87, .aload_n 0, 1), (88, .sipush 160, 3), (91, .newarray .long, 2), (93, .putfield 48, 3), (96, .aload_n 0, 1), (97, .getfield 15, 3), (100, .iconst 3, 1), (101, .iconst (-1), 1), (102, .iastore, 1), (103, .aload_n 0, 1), (104, .iconst (-1), 1), (105, .iconst 0, 1), (106, .iconst (-1), 1), (107, .invokevirtual 51, 3), (110, .pop, 1), (111, .return_, 1)])], [])
def mt_X11_isAccount : zMt := (yX11_isAccount, cX11_isAccount, 2, (some .boolean), 11, 1, [(100000, [(0, .iload_n 1, 1), (1, .iconst 0, 1), (2, .aload_n 0, 1), (3, .getfield 15, 3), (6, .iconst 0, 1), (7, .iaload, 1), (8, .iconst 1, 1), (9, .isub, 1), (10, .invokestatic 55, 3), (13, .ireturn, 1)])], [])
def mt_X11_isCurrency : zMt := (yX11_isCurrency, cX11_isCurrency, 1, (some .boolean), 11, 1, [(100000, [(0, .iload_n 0, 1), (1, .iconst 0, 1), (2, .iconst 3, 1), (3, .invokestatic 55, 3), (6, .ireturn, 1)])], [])
def mt_X11_isDay : zMt := (yX11_isDay, cX11_isDay, 1, (some .boolean), 11, 1, [(100000, [(0, .iload_n 0, 1), (1, .iconst 0, 1), (2, .sipush 999, 3), (5, .invokestatic 55, 3), (8, .ireturn, 1)])], [])
def mt_X11_isJournal : zMt := (yX11_isJournal, cX11_isJournal, 2, (some .boolean), 11, 1, [(100000, [(0, .iload_n 1, 1), (1, .iconst 0, 1), (2, .aload_n 0, 1), (3, .getfield 15, 3), (6, .iconst 1, 1), (7, .iaload, 1), (8, .iconst 1, 1), (9, .isub, 1), (10, .invokestatic 55, 3), (13, .ireturn, 1)])], [])
def mt_X11_addAccount : zMt := (yX11_addAccount, cX11_addAccount, 5, (some .int), 11, 0, [(31, [(0, .aload_n 0, 1), (1, .getfield 15, 3), (4, .iconst 0, 1), (5, .iaload, 1), (6, .istore 4, 2), (8, .aload_n 0, 1), (9, .getfield 15, 3), (12, .bipush 10, 2), (14, .iload 4, 2), (16, .iadd, 1), (17, .iload_n 1, 1), (18, .iastore, 1), (19, .aload_n 0, 1), (20, .getfield 15, 3), (23, .bipush 40, 2), (25, .iload 4, 2), (27, .iadd, 1), (28, .iload_n 2, 1), (29, .iastore, 1), (30, .aload_n 0, 1)]), (66, [(31, .getfield 15, 3), (34, .bipush 70, 2), (36, .iload 4, 2), (38, .iadd, 1), (39, .iload_n 3, 1), (40, .iastore, 1), (41, .aload_n 0, 1), (42, .getfield 19, 3), (45, .iconst 0, 1), (46, .iload 4, 2), (48, .iadd, 1), (49, .ldc2_w 59, 3), (52, .lastore, 1), (53, .aload_n 0, 1), (54, .getfield 19, 3), (57, .bipush 30, 2), (59, .iload 4, 2), (61, .iadd, 1), (62, .ldc2_w 61, 3), (65, .lastore, 1)]), (100000, [(66, .aload_n 0, 1), (67, .getfield 15, 3), (70, .iconst 0, 1), (71, .dup2, 1), (72, .iaload, 1), (73, .iconst 1, 1), (74, .iadd, 1), (75, .iastore, 1), (76, .iload 4, 2), (78, .ireturn, 1)])], [])
def mt_X11_account : zMt := (yX11_account, cX11_account, 4, (some .int), 11, 2, [(35, [(0, .aload_n 0, 1), (1, .iload_n 1, 1), (2, .invokevirtual 63, 3), (5, .ifCond .ne 5, 3), (8, .iconst (-1), 1), (9, .ireturn, 1), (10, .iload_n 2, 1), (11, .invokestatic 67, 3), (14, .ifCond .eq 12, 3), (17, .iload_n 3, 1), (18, .iconst 0, 1), (19, .iconst 3, 1), (20, .invokestatic 55, 3), (23, .ifCond .ne 6, 3), (26, .bipush (-2), 2), (28, .ireturn, 1), (29, .aload_n 0, 1), (30, .getfield 15, 3), (33, .iconst 0, 1), (34, .iaload, 1)]), (100000, [(35, .bipush 30, 2), (37, .if_icmp .ne 8, 3), (40, .bipush (-4), 2), (42, .goto 10, 3), (45, .aload_n 0, 1), (46, .iload_n 1, 1), (47, .iload_n 2, 1), (48, .iload_n 3, 1), (49, .invokevirtual 51, 3), (52, .ireturn, 1)])], [])
def mt_X11_isOf : zMt := (yX11_isOf, cX11_isOf, 4, (some .boolean), 11, 0, [(33, [(0, .iload_n 1, 1), (1, .istore_n 3, 1), (2, .iload_n 3, 1), (3, .ifCond .lt 21, 3), (6, .iload_n 3, 1), (7, .iload_n 2, 1), (8, .if_icmp .eq 16, 3), (11, .aload_n 0, 1), (12, .getfield 15, 3), (15, .bipush 10, 2), (17, .iload_n 3, 1), (18, .iadd, 1), (19, .iaload, 1), (20, .istore_n 3, 1), (21, .goto (-19), 3), (24, .iload_n 3, 1), (25, .iload_n 2, 1), (26, .if_icmp .ne 7, 3), (29, .iconst 1, 1), (30, .goto 4, 3)]), (100000, [(33, .iconst 0, 1), (34, .ireturn, 1)])], [])
def mt_X11_above : zMt := (yX11_above, cX11_above, 4, (some .int), 11, 0, [(32, [(0, .iconst 0, 1), (1, .istore_n 2, 1), (2, .aload_n 0, 1), (3, .getfield 15, 3), (6, .bipush 10, 2), (8, .iload_n 1, 1), (9, .iadd, 1), (10, .iaload, 1), (11, .istore_n 3, 1), (12, .iload_n 3, 1), (13, .ifCond .lt 19, 3), (16, .iinc 2 1, 3), (19, .aload_n 0, 1), (20, .getfield 15, 3), (23, .bipush 10, 2), (25, .iload_n 3, 1), (26, .iadd, 1), (27, .iaload, 1), (28, .istore_n 3, 1), (29, .goto (-17), 3)]), (100000, [(32, .iload_n 2, 1), (33, .ireturn, 1)])], [])
def mt_X11_of : zMt := (yX11_of, cX11_of, 5, (some .int), 11, 2, [(70, [(0, .aload_n 0, 1), (1, .iload_n 1, 1), (2, .invokevirtual 63, 3), (5, .ifCond .eq 13, 3), (8, .iload_n 2, 1), (9, .iconst 0, 1), (10, .bipush 6, 2), (12, .invokestatic 55, 3), (15, .ifCond .ne 5, 3), (18, .iconst (-1), 1), (19, .ireturn, 1), (20, .iconst 0, 1), (21, .istore_n 3, 1), (22, .iload_n 2, 1), (23, .tableswitch 165 0 5 #[37, 56, 66, 85, 124, 159], 37), (60, .iload_n 1, 1), (61, .ifCond .ne 8, 3), (64, .bipush (-5), 2), (66, .goto 12, 3), (69, .aload_n 0, 1)]), (104, [(70, .getfield 15, 3), (73, .bipush 10, 2), (75, .iload_n 1, 1), (76, .iadd, 1), (77, .iaload, 1), (78, .ireturn, 1), (79, .aload_n 0, 1), (80, .getfield 15, 3), (83, .bipush 40, 2), (85, .iload_n 1, 1), (86, .iadd, 1), (87, .iaload, 1), (88, .ireturn, 1), (89, .iload_n 1, 1), (90, .ifCond .ne 8, 3), (93, .bipush (-5), 2), (95, .goto 12, 3), (98, .aload_n 0, 1), (99, .getfield 15, 3), (102, .bipush 70, 2)]), (136, [(104, .iload_n 1, 1), (105, .iadd, 1), (106, .iaload, 1), (107, .ireturn, 1), (108, .iconst 1, 1), (109, .istore 4, 2), (111, .iload 4, 2), (113, .aload_n 0, 1), (114, .getfield 15, 3), (117, .iconst 0, 1), (118, .iaload, 1), (119, .if_icmp .ge 26, 3), (122, .aload_n 0, 1), (123, .getfield 15, 3), (126, .bipush 10, 2), (128, .iload 4, 2), (130, .iadd, 1), (131, .iaload, 1), (132, .iload_n 1, 1), (133, .if_icmp .ne 6, 3)]), (177, [(136, .iinc 3 1, 3), (139, .iinc 4 1, 3), (142, .goto (-31), 3), (145, .iload_n 3, 1), (146, .ireturn, 1), (147, .iconst 0, 1), (148, .istore 4, 2), (150, .iload 4, 2), (152, .aload_n 0, 1), (153, .getfield 15, 3), (156, .iconst 0, 1), (157, .iaload, 1), (158, .if_icmp .ge 22, 3), (161, .aload_n 0, 1), (162, .iload 4, 2), (164, .iload_n 1, 1), (165, .invokevirtual 70, 3), (168, .ifCond .eq 6, 3), (171, .iinc 3 1, 3), (174, .iinc 4 1, 3)]), (100000, [(177, .goto (-27), 3), (180, .iload_n 3, 1), (181, .ireturn, 1), (182, .aload_n 0, 1), (183, .iload_n 1, 1), (184, .invokevirtual 74, 3), (187, .ireturn, 1), (188, .aload_n 0, 1), (189, .iload_n 1, 1), (190, .invokevirtual 78, 3), (193, .ireturn, 1)])], [])
def mt_X11_balanceBy : zMt := (yX11_balanceBy, cX11_balanceBy, 7, (some .long), 11, 0, [(34, [(0, .lconst 0, 1), (1, .lstore_n 3, 1), (2, .iconst 0, 1), (3, .istore 5, 2), (5, .iload 5, 2), (7, .aload_n 0, 1), (8, .getfield 15, 3), (11, .iconst 1, 1), (12, .iaload, 1), (13, .if_icmp .ge 101, 3), (16, .aload_n 0, 1), (17, .getfield 15, 3), (20, .bipush 100, 2), (22, .iload 5, 2), (24, .iadd, 1), (25, .iaload, 1), (26, .iload_n 2, 1), (27, .if_icmp .le 6, 3), (30, .goto 78, 3), (33, .aload_n 0, 1)]), (71, [(34, .getfield 15, 3), (37, .sipush 160, 3), (40, .iload 5, 2), (42, .iadd, 1), (43, .iaload, 1), (44, .istore 6, 2), (46, .iload 6, 2), (48, .aload_n 0, 1), (49, .getfield 15, 3), (52, .sipush 160, 3), (55, .iload 5, 2), (57, .iadd, 1), (58, .iaload, 1), (59, .aload_n 0, 1), (60, .getfield 15, 3), (63, .sipush 220, 3), (66, .iload 5, 2), (68, .iadd, 1), (69, .iaload, 1), (70, .iadd, 1)]), (108, [(71, .if_icmp .ge 37, 3), (74, .aload_n 0, 1), (75, .getfield 15, 3), (78, .sipush 400, 3), (81, .iload 6, 2), (83, .iadd, 1), (84, .iaload, 1), (85, .iload_n 1, 1), (86, .if_icmp .ne 16, 3), (89, .lload_n 3, 1), (90, .aload_n 0, 1), (91, .getfield 19, 3), (94, .bipush 60, 2), (96, .iload 6, 2), (98, .iadd, 1), (99, .laload, 1), (100, .ladd, 1), (101, .lstore_n 3, 1), (102, .iinc 6 1, 3), (105, .goto (-59), 3)]), (100000, [(108, .iinc 5 1, 3), (111, .goto (-106), 3), (114, .lload_n 3, 1), (115, .lreturn, 1)])], [])
def mt_X11_branchBy : zMt := (yX11_branchBy, cX11_branchBy, 7, (some .long), 11, 1, [(34, [(0, .lconst 0, 1), (1, .lstore 4, 2), (3, .iconst 0, 1), (4, .istore 6, 2), (6, .iload 6, 2), (8, .aload_n 0, 1), (9, .getfield 15, 3), (12, .iconst 0, 1), (13, .iaload, 1), (14, .if_icmp .ge 45, 3), (17, .aload_n 0, 1), (18, .getfield 15, 3), (21, .bipush 40, 2), (23, .iload 6, 2), (25, .iadd, 1), (26, .iaload, 1), (27, .iload_n 2, 1), (28, .if_icmp .ne 25, 3), (31, .aload_n 0, 1), (32, .iload 6, 2)]), (100000, [(34, .iload_n 1, 1), (35, .invokevirtual 70, 3), (38, .ifCond .eq 15, 3), (41, .lload 4, 2), (43, .aload_n 0, 1), (44, .iload 6, 2), (46, .iload_n 3, 1), (47, .invokevirtual 81, 3), (50, .ladd, 1), (51, .lstore 4, 2), (53, .iinc 6 1, 3), (56, .goto (-50), 3), (59, .lload 4, 2), (61, .lreturn, 1)])], [])
def mt_X11_balance : zMt := (yX11_balance, cX11_balance, 3, (some .long), 11, 2, [(100000, [(0, .aload_n 0, 1), (1, .iload_n 1, 1), (2, .invokevirtual 63, 3), (5, .ifCond .eq 19, 3), (8, .iload_n 2, 1), (9, .invokestatic 85, 3), (12, .ifCond .eq 12, 3), (15, .aload_n 0, 1), (16, .iload_n 1, 1), (17, .iload_n 2, 1), (18, .invokevirtual 81, 3), (21, .goto 6, 3), (24, .ldc2_w 59, 3), (27, .lreturn, 1)])], [])
def mt_X11_branch : zMt := (yX11_branch, cX11_branch, 4, (some .long), 11, 2, [(100000, [(0, .aload_n 0, 1), (1, .iload_n 1, 1), (2, .invokevirtual 63, 3), (5, .ifCond .eq 27, 3), (8, .iload_n 2, 1), (9, .invokestatic 67, 3), (12, .ifCond .eq 20, 3), (15, .iload_n 3, 1), (16, .invokestatic 85, 3), (19, .ifCond .eq 13, 3), (22, .aload_n 0, 1), (23, .iload_n 1, 1), (24, .iload_n 2, 1), (25, .iload_n 3, 1), (26, .invokevirtual 88, 3), (29, .goto 6, 3), (32, .ldc2_w 59, 3), (35, .lreturn, 1)])], [])
def mt_X11_limits : zMt := (yX11_limits, cX11_limits, 8, (some .int), 11, 2, [(34, [(0, .aload_n 0, 1), (1, .iload_n 1, 1), (2, .invokevirtual 63, 3), (5, .ifCond .ne 5, 3), (8, .iconst (-1), 1), (9, .ireturn, 1), (10, .lload_n 2, 1), (11, .lload 4, 2), (13, .lcmp, 1), (14, .ifCond .le 6, 3), (17, .bipush (-2), 2), (19, .ireturn, 1), (20, .aload_n 0, 1), (21, .iload_n 1, 1), (22, .sipush 999, 3), (25, .invokevirtual 81, 3), (28, .lstore 6, 2), (30, .lload 6, 2), (32, .lload_n 2, 1), (33, .lcmp, 1)]), (67, [(34, .ifCond .lt 11, 3), (37, .lload 6, 2), (39, .lload 4, 2), (41, .lcmp, 1), (42, .ifCond .le 6, 3), (45, .bipush (-3), 2), (47, .ireturn, 1), (48, .aload_n 0, 1), (49, .getfield 19, 3), (52, .iconst 0, 1), (53, .iload_n 1, 1), (54, .iadd, 1), (55, .lload_n 2, 1), (56, .lastore, 1), (57, .aload_n 0, 1), (58, .getfield 19, 3), (61, .bipush 30, 2), (63, .iload_n 1, 1), (64, .iadd, 1), (65, .lload 4, 2)]), (100000, [(67, .lastore, 1), (68, .iconst 1, 1), (69, .ireturn, 1)])], [])
def mt_X11_days : zMt := (yX11_days, cX11_days, 2, (some .int), 11, 1, [(34, [(0, .iload_n 1, 1), (1, .iconst 1, 1), (2, .bipush 100, 2), (4, .invokestatic 55, 3), (7, .ifCond .eq 17, 3), (10, .aload_n 0, 1), (11, .getfield 15, 3), (14, .iconst 4, 1), (15, .iaload, 1), (16, .iload_n 1, 1), (17, .iadd, 1), (18, .sipush 999, 3), (21, .if_icmp .le 6, 3), (24, .bipush (-2), 2), (26, .ireturn, 1), (27, .aload_n 0, 1), (28, .getfield 15, 3), (31, .iconst 4, 1), (32, .dup2, 1), (33, .iaload, 1)]), (100000, [(34, .iload_n 1, 1), (35, .iadd, 1), (36, .iastore, 1), (37, .aload_n 0, 1), (38, .getfield 15, 3), (41, .iconst 4, 1), (42, .iaload, 1), (43, .ireturn, 1)])], [])
def mt_X11_postings : zMt := (yX11_postings, cX11_postings, 1, (some .int), 11, 0, [(100000, [(0, .aload_n 0, 1), (1, .getfield 15, 3), (4, .iconst 2, 1), (5, .iaload, 1), (6, .ireturn, 1)])], [])
def mt_X11_begin : zMt := (yX11_begin, cX11_begin, 1, (some .int), 11, 0, [(33, [(0, .aload_n 0, 1), (1, .getfield 15, 3), (4, .iconst 3, 1), (5, .iaload, 1), (6, .ifCond .lt 6, 3), (9, .bipush (-3), 2), (11, .ireturn, 1), (12, .aload_n 0, 1), (13, .getfield 15, 3), (16, .iconst 1, 1), (17, .iaload, 1), (18, .bipush 60, 2), (20, .if_icmp .ne 6, 3), (23, .bipush (-4), 2), (25, .ireturn, 1), (26, .aload_n 0, 1), (27, .getfield 15, 3), (30, .iconst 3, 1), (31, .iconst 0, 1), (32, .iastore, 1)]), (100000, [(33, .aload_n 0, 1), (34, .getfield 15, 3), (37, .iconst 1, 1), (38, .iaload, 1), (39, .ireturn, 1)])], [])
def mt_X11_layPosting : zMt := (yX11_layPosting, cX11_layPosting, 4, none, 11, 1, [(33, [(0, .aload_n 0, 1), (1, .getfield 15, 3), (4, .sipush 400, 3), (7, .aload_n 0, 1), (8, .invokevirtual 92, 3), (11, .iadd, 1), (12, .aload_n 0, 1), (13, .getfield 15, 3), (16, .iconst 3, 1), (17, .iaload, 1), (18, .iadd, 1), (19, .iload_n 1, 1), (20, .iastore, 1), (21, .aload_n 0, 1), (22, .getfield 19, 3), (25, .bipush 60, 2), (27, .aload_n 0, 1), (28, .invokevirtual 92, 3), (31, .iadd, 1), (32, .aload_n 0, 1)]), (100000, [(33, .getfield 15, 3), (36, .iconst 3, 1), (37, .iaload, 1), (38, .iadd, 1), (39, .lload_n 2, 1), (40, .lastore, 1), (41, .aload_n 0, 1), (42, .getfield 15, 3), (45, .iconst 3, 1), (46, .dup2, 1), (47, .iaload, 1), (48, .iconst 1, 1), (49, .iadd, 1), (50, .iastore, 1), (51, .return_, 1)])], [])
def mt_X11_posting : zMt := (yX11_posting, cX11_posting, 4, (some .int), 11, 2, [(35, [(0, .aload_n 0, 1), (1, .iload_n 1, 1), (2, .invokevirtual 63, 3), (5, .ifCond .ne 5, 3), (8, .iconst (-1), 1), (9, .ireturn, 1), (10, .lload_n 2, 1), (11, .lconst 0, 1), (12, .lcmp, 1), (13, .ifCond .eq 19, 3), (16, .lload_n 2, 1), (17, .ldc2_w 96, 3), (20, .lcmp, 1), (21, .ifCond .lt 11, 3), (24, .lload_n 2, 1), (25, .ldc2_w 98, 3), (28, .lcmp, 1), (29, .ifCond .le 6, 3), (32, .bipush (-2), 2), (34, .ireturn, 1)]), (68, [(35, .aload_n 0, 1), (36, .getfield 15, 3), (39, .iconst 3, 1), (40, .iaload, 1), (41, .ifCond .ge 6, 3), (44, .bipush (-3), 2), (46, .ireturn, 1), (47, .aload_n 0, 1), (48, .getfield 15, 3), (51, .iconst 3, 1), (52, .iaload, 1), (53, .bipush 10, 2), (55, .if_icmp .ne 6, 3), (58, .bipush (-4), 2), (60, .ireturn, 1), (61, .aload_n 0, 1), (62, .iload_n 1, 1), (63, .lload_n 2, 1), (64, .invokevirtual 100, 3), (67, .aload_n 0, 1)]), (100000, [(68, .getfield 15, 3), (71, .iconst 3, 1), (72, .iaload, 1), (73, .ireturn, 1)])], [])
def mt_X11_cancel : zMt := (yX11_cancel, cX11_cancel, 2, (some .int), 11, 0, [(100000, [(0, .aload_n 0, 1), (1, .getfield 15, 3), (4, .iconst 3, 1), (5, .iaload, 1), (6, .ifCond .ge 6, 3), (9, .bipush (-3), 2), (11, .ireturn, 1), (12, .aload_n 0, 1), (13, .getfield 15, 3), (16, .iconst 3, 1), (17, .iaload, 1), (18, .istore_n 1, 1), (19, .aload_n 0, 1), (20, .getfield 15, 3), (23, .iconst 3, 1), (24, .iconst (-1), 1), (25, .iastore, 1), (26, .iload_n 1, 1), (27, .ireturn, 1)])], [])
def mt_X11_addCause : zMt := (yX11_addCause, cX11_addCause, 3, none, 11, 0, [(34, [(0, .aload_n 0, 1), (1, .getfield 15, 3), (4, .sipush 1264, 3), (7, .aload_n 0, 1), (8, .getfield 15, 3), (11, .bipush 6, 2), (13, .iaload, 1), (14, .iadd, 1), (15, .iload_n 1, 1), (16, .iastore, 1), (17, .aload_n 0, 1), (18, .getfield 15, 3), (21, .sipush 1270, 3), (24, .aload_n 0, 1), (25, .getfield 15, 3), (28, .bipush 6, 2), (30, .iaload, 1), (31, .iadd, 1), (32, .iload_n 2, 1), (33, .iastore, 1)]), (100000, [(34, .aload_n 0, 1), (35, .getfield 15, 3), (38, .bipush 6, 2), (40, .dup2, 1), (41, .iaload, 1), (42, .iconst 1, 1), (43, .iadd, 1), (44, .iastore, 1), (45, .return_, 1)])], [])
def mt_X11_causedAs : zMt := (yX11_causedAs, cX11_causedAs, 3, (some .boolean), 11, 1, [(100000, [(0, .aload_n 0, 1), (1, .iload_n 1, 1), (2, .iload_n 2, 1), (3, .invokevirtual 104, 3), (6, .iconst 1, 1), (7, .ireturn, 1)])], [])
def mt_X11_isUnbalanced : zMt := (yX11_isUnbalanced, cX11_isUnbalanced, 5, (some .boolean), 11, 2, [(32, [(0, .iconst 0, 1), (1, .istore_n 1, 1), (2, .iload_n 1, 1), (3, .iconst 4, 1), (4, .if_icmp .ge 88, 3), (7, .lconst 0, 1), (8, .lstore_n 2, 1), (9, .aload_n 0, 1), (10, .invokevirtual 92, 3), (13, .istore 4, 2), (15, .iload 4, 2), (17, .aload_n 0, 1), (18, .invokevirtual 92, 3), (21, .aload_n 0, 1), (22, .getfield 15, 3), (25, .iconst 3, 1), (26, .iaload, 1), (27, .iadd, 1), (28, .if_icmp .ge 45, 3), (31, .aload_n 0, 1)]), (66, [(32, .getfield 15, 3), (35, .bipush 40, 2), (37, .aload_n 0, 1), (38, .getfield 15, 3), (41, .sipush 400, 3), (44, .iload 4, 2), (46, .iadd, 1), (47, .iaload, 1), (48, .iadd, 1), (49, .iaload, 1), (50, .iload_n 1, 1), (51, .if_icmp .ne 16, 3), (54, .lload_n 2, 1), (55, .aload_n 0, 1), (56, .getfield 19, 3), (59, .bipush 60, 2), (61, .iload 4, 2), (63, .iadd, 1), (64, .laload, 1), (65, .ladd, 1)]), (100000, [(66, .lstore_n 2, 1), (67, .iinc 4 1, 3), (70, .goto (-55), 3), (73, .lload_n 2, 1), (74, .lconst 0, 1), (75, .lcmp, 1), (76, .ifCond .eq 10, 3), (79, .aload_n 0, 1), (80, .iconst 1, 1), (81, .iload_n 1, 1), (82, .invokevirtual 108, 3), (85, .ireturn, 1), (86, .iinc 1 1, 3), (89, .goto (-87), 3), (92, .iconst 0, 1), (93, .ireturn, 1)])], [(2, [2, 4])])
def mt_X11_behind : zMt := (yX11_behind, cX11_behind, 5, (some .long), 11, 1, [(38, [(0, .aload_n 0, 1), (1, .iload_n 1, 1), (2, .sipush 999, 3), (5, .invokevirtual 81, 3), (8, .lstore_n 2, 1), (9, .aload_n 0, 1), (10, .invokevirtual 92, 3), (13, .istore 4, 2), (15, .iload 4, 2), (17, .aload_n 0, 1), (18, .invokevirtual 92, 3), (21, .aload_n 0, 1), (22, .getfield 15, 3), (25, .iconst 3, 1), (26, .iaload, 1), (27, .iadd, 1), (28, .if_icmp .ge 37, 3), (31, .aload_n 0, 1), (32, .getfield 15, 3), (35, .sipush 400, 3)]), (100000, [(38, .iload 4, 2), (40, .iadd, 1), (41, .iaload, 1), (42, .iload_n 1, 1), (43, .if_icmp .ne 16, 3), (46, .lload_n 2, 1), (47, .aload_n 0, 1), (48, .getfield 19, 3), (51, .bipush 60, 2), (53, .iload 4, 2), (55, .iadd, 1), (56, .laload, 1), (57, .ladd, 1), (58, .lstore_n 2, 1), (59, .iinc 4 1, 3), (62, .goto (-47), 3), (65, .lload_n 2, 1), (66, .lreturn, 1)])], [])
def mt_X11_isBeyond : zMt := (yX11_isBeyond, cX11_isBeyond, 5, (some .boolean), 11, 2, [(32, [(0, .aload_n 0, 1), (1, .invokevirtual 92, 3), (4, .istore_n 1, 1), (5, .iload_n 1, 1), (6, .aload_n 0, 1), (7, .invokevirtual 92, 3), (10, .aload_n 0, 1), (11, .getfield 15, 3), (14, .iconst 3, 1), (15, .iaload, 1), (16, .iadd, 1), (17, .if_icmp .ge 87, 3), (20, .aload_n 0, 1), (21, .getfield 15, 3), (24, .sipush 400, 3), (27, .iload_n 1, 1), (28, .iadd, 1), (29, .iaload, 1), (30, .istore_n 2, 1), (31, .aload_n 0, 1)]), (61, [(32, .iload_n 2, 1), (33, .invokevirtual 111, 3), (36, .lstore_n 3, 1), (37, .lload_n 3, 1), (38, .aload_n 0, 1), (39, .getfield 19, 3), (42, .iconst 0, 1), (43, .iload_n 2, 1), (44, .iadd, 1), (45, .laload, 1), (46, .lcmp, 1), (47, .ifCond .lt 20, 3), (50, .lload_n 3, 1), (51, .aload_n 0, 1), (52, .getfield 19, 3), (55, .bipush 30, 2), (57, .iload_n 2, 1), (58, .iadd, 1), (59, .laload, 1), (60, .lcmp, 1)]), (94, [(61, .ifCond .gt 6, 3), (64, .goto 34, 3), (67, .aload_n 0, 1), (68, .iconst 4, 1), (69, .iload_n 2, 1), (70, .invokevirtual 104, 3), (73, .aload_n 0, 1), (74, .lload_n 3, 1), (75, .aload_n 0, 1), (76, .getfield 19, 3), (79, .iconst 0, 1), (80, .iload_n 2, 1), (81, .iadd, 1), (82, .laload, 1), (83, .lcmp, 1), (84, .ifCond .ge 7, 3), (87, .iconst 5, 1), (88, .goto 5, 3), (91, .bipush 6, 2), (93, .iload_n 2, 1)]), (100000, [(94, .invokevirtual 108, 3), (97, .ireturn, 1), (98, .iinc 1 1, 3), (101, .goto (-96), 3), (104, .iconst 0, 1), (105, .ireturn, 1)])], [(5, [2, 3])])
def mt_X11_isHindered : zMt := (yX11_isHindered, cX11_isHindered, 1, (some .boolean), 11, 3, [(32, [(0, .aload_n 0, 1), (1, .getfield 15, 3), (4, .iconst 3, 1), (5, .iaload, 1), (6, .iconst 2, 1), (7, .if_icmp .ge 15, 3), (10, .aload_n 0, 1), (11, .iconst 2, 1), (12, .aload_n 0, 1), (13, .getfield 15, 3), (16, .iconst 3, 1), (17, .iaload, 1), (18, .invokevirtual 108, 3), (21, .ireturn, 1), (22, .aload_n 0, 1), (23, .invokevirtual 115, 3), (26, .ifCond .eq 5, 3), (29, .iconst 1, 1), (30, .ireturn, 1), (31, .aload_n 0, 1)]), (64, [(32, .getfield 15, 3), (35, .iconst 4, 1), (36, .iaload, 1), (37, .bipush 100, 2), (39, .idiv, 1), (40, .aload_n 0, 1), (41, .getfield 15, 3), (44, .iconst 5, 1), (45, .iaload, 1), (46, .if_icmp .ge 18, 3), (49, .aload_n 0, 1), (50, .iconst 3, 1), (51, .aload_n 0, 1), (52, .getfield 15, 3), (55, .iconst 4, 1), (56, .iaload, 1), (57, .bipush 100, 2), (59, .idiv, 1), (60, .invokevirtual 108, 3), (63, .ireturn, 1)]), (100000, [(64, .aload_n 0, 1), (65, .invokevirtual 119, 3), (68, .ireturn, 1)])], [])
def mt_X11_posted : zMt := (yX11_posted, cX11_posted, 3, (some .int), 11, 1, [(31, [(0, .aload_n 0, 1), (1, .getfield 15, 3), (4, .iconst 1, 1), (5, .iaload, 1), (6, .istore_n 2, 1), (7, .aload_n 0, 1), (8, .getfield 15, 3), (11, .bipush 100, 2), (13, .iload_n 2, 1), (14, .iadd, 1), (15, .aload_n 0, 1), (16, .getfield 15, 3), (19, .iconst 4, 1), (20, .iaload, 1), (21, .iastore, 1), (22, .aload_n 0, 1), (23, .getfield 15, 3), (26, .sipush 160, 3), (29, .iload_n 2, 1), (30, .iadd, 1)]), (63, [(31, .aload_n 0, 1), (32, .invokevirtual 92, 3), (35, .iastore, 1), (36, .aload_n 0, 1), (37, .getfield 15, 3), (40, .sipush 220, 3), (43, .iload_n 2, 1), (44, .iadd, 1), (45, .aload_n 0, 1), (46, .getfield 15, 3), (49, .iconst 3, 1), (50, .iaload, 1), (51, .iastore, 1), (52, .aload_n 0, 1), (53, .getfield 15, 3), (56, .sipush 280, 3), (59, .iload_n 2, 1), (60, .iadd, 1), (61, .iload_n 1, 1), (62, .iastore, 1)]), (95, [(63, .aload_n 0, 1), (64, .getfield 15, 3), (67, .sipush 340, 3), (70, .iload_n 2, 1), (71, .iadd, 1), (72, .iconst (-1), 1), (73, .iastore, 1), (74, .iload_n 1, 1), (75, .ifCond .lt 14, 3), (78, .aload_n 0, 1), (79, .getfield 15, 3), (82, .sipush 340, 3), (85, .iload_n 1, 1), (86, .iadd, 1), (87, .iload_n 2, 1), (88, .iastore, 1), (89, .aload_n 0, 1), (90, .getfield 15, 3), (93, .iconst 2, 1), (94, .dup2, 1)]), (121, [(95, .iaload, 1), (96, .aload_n 0, 1), (97, .getfield 15, 3), (100, .iconst 3, 1), (101, .iaload, 1), (102, .iadd, 1), (103, .iastore, 1), (104, .aload_n 0, 1), (105, .getfield 15, 3), (108, .iconst 3, 1), (109, .iconst (-1), 1), (110, .iastore, 1), (111, .aload_n 0, 1), (112, .getfield 15, 3), (115, .iconst 1, 1), (116, .dup2, 1), (117, .iaload, 1), (118, .iconst 1, 1), (119, .iadd, 1), (120, .iastore, 1)]), (100000, [(121, .iload_n 2, 1), (122, .ireturn, 1)])], [])
def mt_X11_post : zMt := (yX11_post, cX11_post, 1, (some .int), 11, 4, [(37, [(0, .aload_n 0, 1), (1, .getfield 15, 3), (4, .iconst 3, 1), (5, .iaload, 1), (6, .ifCond .ge 6, 3), (9, .bipush (-3), 2), (11, .ireturn, 1), (12, .aload_n 0, 1), (13, .getfield 15, 3), (16, .bipush 6, 2), (18, .iconst 0, 1), (19, .iastore, 1), (20, .aload_n 0, 1), (21, .invokevirtual 122, 3), (24, .ifCond .eq 17, 3), (27, .bipush (-10), 2), (29, .aload_n 0, 1), (30, .getfield 15, 3), (33, .sipush 1264, 3), (36, .iaload, 1)]), (100000, [(37, .isub, 1), (38, .goto 8, 3), (41, .aload_n 0, 1), (42, .iconst (-1), 1), (43, .invokevirtual 125, 3), (46, .ireturn, 1)])], [])
def mt_X11_mayBeReversed : zMt := (yX11_mayBeReversed, cX11_mayBeReversed, 2, (some .boolean), 11, 0, [(100000, [(0, .aload_n 0, 1), (1, .getfield 15, 3), (4, .sipush 280, 3), (7, .iload_n 1, 1), (8, .iadd, 1), (9, .iaload, 1), (10, .ifCond .ge 20, 3), (13, .aload_n 0, 1), (14, .getfield 15, 3), (17, .sipush 340, 3), (20, .iload_n 1, 1), (21, .iadd, 1), (22, .iaload, 1), (23, .ifCond .ge 7, 3), (26, .iconst 1, 1), (27, .goto 4, 3), (30, .iconst 0, 1), (31, .ireturn, 1)])], [])
def mt_X11_reversed : zMt := (yX11_reversed, cX11_reversed, 3, (some .int), 11, 4, [(30, [(0, .aload_n 0, 1), (1, .getfield 15, 3), (4, .iconst 3, 1), (5, .iconst 0, 1), (6, .iastore, 1), (7, .aload_n 0, 1), (8, .getfield 15, 3), (11, .sipush 160, 3), (14, .iload_n 1, 1), (15, .iadd, 1), (16, .iaload, 1), (17, .istore_n 2, 1), (18, .iload_n 2, 1), (19, .aload_n 0, 1), (20, .getfield 15, 3), (23, .sipush 160, 3), (26, .iload_n 1, 1), (27, .iadd, 1), (28, .iaload, 1), (29, .aload_n 0, 1)]), (63, [(30, .getfield 15, 3), (33, .sipush 220, 3), (36, .iload_n 1, 1), (37, .iadd, 1), (38, .iaload, 1), (39, .iadd, 1), (40, .if_icmp .ge 33, 3), (43, .aload_n 0, 1), (44, .aload_n 0, 1), (45, .getfield 15, 3), (48, .sipush 400, 3), (51, .iload_n 2, 1), (52, .iadd, 1), (53, .iaload, 1), (54, .aload_n 0, 1), (55, .getfield 19, 3), (58, .bipush 60, 2), (60, .iload_n 2, 1), (61, .iadd, 1), (62, .laload, 1)]), (101, [(63, .lneg, 1), (64, .invokevirtual 100, 3), (67, .iinc 2 1, 3), (70, .goto (-52), 3), (73, .aload_n 0, 1), (74, .getfield 15, 3), (77, .bipush 6, 2), (79, .iconst 0, 1), (80, .iastore, 1), (81, .aload_n 0, 1), (82, .bipush 7, 2), (84, .iload_n 1, 1), (85, .invokevirtual 104, 3), (88, .aload_n 0, 1), (89, .invokevirtual 122, 3), (92, .ifCond .eq 13, 3), (95, .aload_n 0, 1), (96, .getfield 15, 3), (99, .iconst 3, 1), (100, .iconst (-1), 1)]), (100000, [(101, .iastore, 1), (102, .bipush (-17), 2), (104, .ireturn, 1), (105, .aload_n 0, 1), (106, .getfield 15, 3), (109, .bipush 6, 2), (111, .iconst 0, 1), (112, .iastore, 1), (113, .aload_n 0, 1), (114, .iload_n 1, 1), (115, .invokevirtual 125, 3), (118, .ireturn, 1)])], [])
def mt_X11_reverse : zMt := (yX11_reverse, cX11_reverse, 2, (some .int), 11, 5, [(35, [(0, .aload_n 0, 1), (1, .iload_n 1, 1), (2, .invokevirtual 128, 3), (5, .ifCond .ne 5, 3), (8, .iconst (-1), 1), (9, .ireturn, 1), (10, .aload_n 0, 1), (11, .getfield 15, 3), (14, .iconst 3, 1), (15, .iaload, 1), (16, .ifCond .ge 11, 3), (19, .aload_n 0, 1), (20, .iload_n 1, 1), (21, .invokevirtual 131, 3), (24, .ifCond .ne 6, 3), (27, .bipush (-3), 2), (29, .ireturn, 1), (30, .aload_n 0, 1), (31, .getfield 15, 3), (34, .iconst 1, 1)]), (100000, [(35, .iaload, 1), (36, .bipush 60, 2), (38, .if_icmp .ne 8, 3), (41, .bipush (-4), 2), (43, .goto 8, 3), (46, .aload_n 0, 1), (47, .iload_n 1, 1), (48, .invokevirtual 134, 3), (51, .ireturn, 1)])], [])
def mt_X11_journal : zMt := (yX11_journal, cX11_journal, 3, (some .int), 11, 2, [(59, [(0, .aload_n 0, 1), (1, .iload_n 1, 1), (2, .invokevirtual 128, 3), (5, .ifCond .ne 5, 3), (8, .iconst (-1), 1), (9, .ireturn, 1), (10, .iload_n 2, 1), (11, .tableswitch 108 0 3 #[29, 39, 50, 79], 29), (40, .aload_n 0, 1), (41, .getfield 15, 3), (44, .bipush 100, 2), (46, .iload_n 1, 1), (47, .iadd, 1), (48, .iaload, 1), (49, .ireturn, 1), (50, .aload_n 0, 1), (51, .getfield 15, 3), (54, .sipush 220, 3), (57, .iload_n 1, 1), (58, .iadd, 1)]), (94, [(59, .iaload, 1), (60, .ireturn, 1), (61, .aload_n 0, 1), (62, .getfield 15, 3), (65, .sipush 280, 3), (68, .iload_n 1, 1), (69, .iadd, 1), (70, .iaload, 1), (71, .ifCond .ge 8, 3), (74, .bipush (-5), 2), (76, .goto 13, 3), (79, .aload_n 0, 1), (80, .getfield 15, 3), (83, .sipush 280, 3), (86, .iload_n 1, 1), (87, .iadd, 1), (88, .iaload, 1), (89, .ireturn, 1), (90, .aload_n 0, 1), (91, .getfield 15, 3)]), (100000, [(94, .sipush 340, 3), (97, .iload_n 1, 1), (98, .iadd, 1), (99, .iaload, 1), (100, .ifCond .ge 8, 3), (103, .bipush (-5), 2), (105, .goto 13, 3), (108, .aload_n 0, 1), (109, .getfield 15, 3), (112, .sipush 340, 3), (115, .iload_n 1, 1), (116, .iadd, 1), (117, .iaload, 1), (118, .ireturn, 1), (119, .iconst (-1), 1), (120, .ireturn, 1)])], [])
def mt_X11_part : zMt := (yX11_part, cX11_part, 5, (some .long), 11, 2, [(34, [(0, .aload_n 0, 1), (1, .iload_n 1, 1), (2, .invokevirtual 128, 3), (5, .ifCond .eq 32, 3), (8, .iload_n 2, 1), (9, .iconst 0, 1), (10, .aload_n 0, 1), (11, .getfield 15, 3), (14, .sipush 220, 3), (17, .iload_n 1, 1), (18, .iadd, 1), (19, .iaload, 1), (20, .iconst 1, 1), (21, .isub, 1), (22, .invokestatic 55, 3), (25, .ifCond .eq 12, 3), (28, .iload_n 3, 1), (29, .iconst 0, 1), (30, .iconst 1, 1), (31, .invokestatic 55, 3)]), (70, [(34, .ifCond .ne 7, 3), (37, .ldc2_w 59, 3), (40, .lreturn, 1), (41, .aload_n 0, 1), (42, .getfield 15, 3), (45, .sipush 160, 3), (48, .iload_n 1, 1), (49, .iadd, 1), (50, .iaload, 1), (51, .iload_n 2, 1), (52, .iadd, 1), (53, .istore 4, 2), (55, .iload_n 3, 1), (56, .ifCond .ne 18, 3), (59, .aload_n 0, 1), (60, .getfield 15, 3), (63, .sipush 400, 3), (66, .iload 4, 2), (68, .iadd, 1), (69, .iaload, 1)]), (100000, [(70, .i2l, 1), (71, .goto 13, 3), (74, .aload_n 0, 1), (75, .getfield 19, 3), (78, .bipush 60, 2), (80, .iload 4, 2), (82, .iadd, 1), (83, .laload, 1), (84, .lreturn, 1)])], [])
def mt_X11_cause : zMt := (yX11_cause, cX11_cause, 3, (some .int), 11, 1, [(34, [(0, .iload_n 1, 1), (1, .ifCond .lt 12, 3), (4, .iload_n 2, 1), (5, .iconst 0, 1), (6, .iconst 1, 1), (7, .invokestatic 55, 3), (10, .ifCond .ne 5, 3), (13, .iconst (-1), 1), (14, .ireturn, 1), (15, .iload_n 1, 1), (16, .aload_n 0, 1), (17, .getfield 15, 3), (20, .bipush 6, 2), (22, .iaload, 1), (23, .if_icmp .lt 6, 3), (26, .bipush (-5), 2), (28, .ireturn, 1), (29, .iload_n 2, 1), (30, .ifCond .ne 16, 3), (33, .aload_n 0, 1)]), (100000, [(34, .getfield 15, 3), (37, .sipush 1264, 3), (40, .iload_n 1, 1), (41, .iadd, 1), (42, .iaload, 1), (43, .goto 13, 3), (46, .aload_n 0, 1), (47, .getfield 15, 3), (50, .sipush 1270, 3), (53, .iload_n 1, 1), (54, .iadd, 1), (55, .iaload, 1), (56, .ireturn, 1)])], [])
def mt_X11_sealOf : zMt := (yX11_sealOf, cX11_sealOf, 6, (some .long), 11, 0, [(35, [(0, .ldc2_w 137, 3), (3, .lstore_n 2, 1), (4, .iconst 0, 1), (5, .istore 4, 2), (7, .iload 4, 2), (9, .aload_n 0, 1), (10, .getfield 15, 3), (13, .iconst 1, 1), (14, .iaload, 1), (15, .if_icmp .ge 112, 3), (18, .aload_n 0, 1), (19, .getfield 15, 3), (22, .bipush 100, 2), (24, .iload 4, 2), (26, .iadd, 1), (27, .iaload, 1), (28, .bipush 100, 2), (30, .idiv, 1), (31, .iload_n 1, 1), (32, .if_icmp .eq 6, 3)]), (74, [(35, .goto 86, 3), (38, .aload_n 0, 1), (39, .getfield 15, 3), (42, .sipush 160, 3), (45, .iload 4, 2), (47, .iadd, 1), (48, .iaload, 1), (49, .istore 5, 2), (51, .iload 5, 2), (53, .aload_n 0, 1), (54, .getfield 15, 3), (57, .sipush 160, 3), (60, .iload 4, 2), (62, .iadd, 1), (63, .iaload, 1), (64, .aload_n 0, 1), (65, .getfield 15, 3), (68, .sipush 220, 3), (71, .iload 4, 2), (73, .iadd, 1)]), (107, [(74, .iaload, 1), (75, .iadd, 1), (76, .if_icmp .ge 45, 3), (79, .ldc2_w 139, 3), (82, .lload_n 2, 1), (83, .lmul, 1), (84, .aload_n 0, 1), (85, .getfield 15, 3), (88, .sipush 400, 3), (91, .iload 5, 2), (93, .iadd, 1), (94, .iaload, 1), (95, .i2l, 1), (96, .ladd, 1), (97, .lstore_n 2, 1), (98, .ldc2_w 139, 3), (101, .lload_n 2, 1), (102, .lmul, 1), (103, .aload_n 0, 1), (104, .getfield 19, 3)]), (100000, [(107, .bipush 60, 2), (109, .iload 5, 2), (111, .iadd, 1), (112, .laload, 1), (113, .ladd, 1), (114, .lstore_n 2, 1), (115, .iinc 5 1, 3), (118, .goto (-67), 3), (121, .iinc 4 1, 3), (124, .goto (-117), 3), (127, .lload_n 2, 1), (128, .lreturn, 1)])], [])
def mt_X11_close : zMt := (yX11_close, cX11_close, 2, (some .int), 11, 1, [(32, [(0, .iload_n 1, 1), (1, .iconst 0, 1), (2, .bipush 9, 2), (4, .invokestatic 55, 3), (7, .ifCond .ne 5, 3), (10, .iconst (-1), 1), (11, .ireturn, 1), (12, .iload_n 1, 1), (13, .aload_n 0, 1), (14, .getfield 15, 3), (17, .iconst 5, 1), (18, .iaload, 1), (19, .if_icmp .ne 18, 3), (22, .aload_n 0, 1), (23, .getfield 15, 3), (26, .iconst 4, 1), (27, .iaload, 1), (28, .bipush 100, 2), (30, .iload_n 1, 1), (31, .iconst 1, 1)]), (63, [(32, .iadd, 1), (33, .imul, 1), (34, .if_icmp .ge 6, 3), (37, .bipush (-3), 2), (39, .ireturn, 1), (40, .aload_n 0, 1), (41, .getfield 19, 3), (44, .sipush 980, 3), (47, .iload_n 1, 1), (48, .iadd, 1), (49, .aload_n 0, 1), (50, .iload_n 1, 1), (51, .invokevirtual 141, 3), (54, .lastore, 1), (55, .aload_n 0, 1), (56, .getfield 15, 3), (59, .iconst 5, 1), (60, .dup2, 1), (61, .iaload, 1), (62, .iconst 1, 1)]), (100000, [(63, .iadd, 1), (64, .iastore, 1), (65, .aload_n 0, 1), (66, .getfield 15, 3), (69, .iconst 5, 1), (70, .iaload, 1), (71, .ireturn, 1)])], [])
def mt_X11_seal : zMt := (yX11_seal, cX11_seal, 2, (some .long), 11, 1, [(100000, [(0, .iload_n 1, 1), (1, .iconst 0, 1), (2, .aload_n 0, 1), (3, .getfield 15, 3), (6, .iconst 5, 1), (7, .iaload, 1), (8, .iconst 1, 1), (9, .isub, 1), (10, .invokestatic 55, 3), (13, .ifCond .eq 16, 3), (16, .aload_n 0, 1), (17, .getfield 19, 3), (20, .sipush 980, 3), (23, .iload_n 1, 1), (24, .iadd, 1), (25, .laload, 1), (26, .goto 6, 3), (29, .ldc2_w 59, 3), (32, .lreturn, 1)])], [])
def mt_X11_audit : zMt := (yX11_audit, cX11_audit, 2, (some .int), 11, 1, [(32, [(0, .iconst 0, 1), (1, .istore_n 1, 1), (2, .iload_n 1, 1), (3, .aload_n 0, 1), (4, .getfield 15, 3), (7, .iconst 5, 1), (8, .iaload, 1), (9, .if_icmp .ge 30, 3), (12, .aload_n 0, 1), (13, .getfield 19, 3), (16, .sipush 980, 3), (19, .iload_n 1, 1), (20, .iadd, 1), (21, .laload, 1), (22, .aload_n 0, 1), (23, .iload_n 1, 1), (24, .invokevirtual 141, 3), (27, .lcmp, 1), (28, .ifCond .eq 5, 3), (31, .iload_n 1, 1)]), (100000, [(32, .ireturn, 1), (33, .iinc 1 1, 3), (36, .goto (-34), 3), (39, .bipush (-5), 2), (41, .ireturn, 1)])], [])
def mt_X11_rateAt : zMt := (yX11_rateAt, cX11_rateAt, 2, (some .int), 11, 0, [(100000, [(0, .bipush 20, 2), (2, .iload_n 0, 1), (3, .imul, 1), (4, .iload_n 1, 1), (5, .iadd, 1), (6, .ireturn, 1)])], [])
def mt_X11_rate : zMt := (yX11_rate, cX11_rate, 7, (some .int), 11, 2, [(41, [(0, .iload_n 1, 1), (1, .iconst 1, 1), (2, .iconst 3, 1), (3, .invokestatic 55, 3), (6, .ifCond .ne 5, 3), (9, .iconst (-1), 1), (10, .ireturn, 1), (11, .iload_n 2, 1), (12, .invokestatic 85, 3), (15, .ifCond .eq 26, 3), (18, .iload_n 3, 1), (19, .iconst 1, 1), (20, .sipush 999, 3), (23, .invokestatic 55, 3), (26, .ifCond .eq 15, 3), (29, .iload 4, 2), (31, .iconst 1, 1), (32, .sipush 999, 3), (35, .invokestatic 55, 3), (38, .ifCond .ne 6, 3)]), (73, [(41, .bipush (-2), 2), (43, .ireturn, 1), (44, .iload_n 2, 1), (45, .bipush 100, 2), (47, .idiv, 1), (48, .aload_n 0, 1), (49, .getfield 15, 3), (52, .iconst 5, 1), (53, .iaload, 1), (54, .if_icmp .ge 6, 3), (57, .bipush (-3), 2), (59, .ireturn, 1), (60, .aload_n 0, 1), (61, .getfield 15, 3), (64, .sipush 1020, 3), (67, .iload_n 1, 1), (68, .iadd, 1), (69, .iaload, 1), (70, .istore 5, 2), (72, .iconst 0, 1)]), (116, [(73, .istore 6, 2), (75, .iload 6, 2), (77, .iload 5, 2), (79, .if_icmp .ge 28, 3), (82, .aload_n 0, 1), (83, .getfield 15, 3), (86, .sipush 1024, 3), (89, .iload_n 1, 1), (90, .iload 6, 2), (92, .invokestatic 144, 3), (95, .iadd, 1), (96, .iaload, 1), (97, .iload_n 2, 1), (98, .if_icmp .eq 9, 3), (101, .iinc 6 1, 3), (104, .goto (-29), 3), (107, .iload 6, 2), (109, .bipush 20, 2), (111, .if_icmp .ne 6, 3), (114, .bipush (-4), 2)]), (151, [(116, .ireturn, 1), (117, .iload 6, 2), (119, .iload 5, 2), (121, .if_icmp .ne 17, 3), (124, .aload_n 0, 1), (125, .getfield 15, 3), (128, .sipush 1020, 3), (131, .iload_n 1, 1), (132, .iadd, 1), (133, .dup2, 1), (134, .iaload, 1), (135, .iconst 1, 1), (136, .iadd, 1), (137, .iastore, 1), (138, .aload_n 0, 1), (139, .getfield 15, 3), (142, .sipush 1024, 3), (145, .iload_n 1, 1), (146, .iload 6, 2), (148, .invokestatic 144, 3)]), (186, [(151, .iadd, 1), (152, .iload_n 2, 1), (153, .iastore, 1), (154, .aload_n 0, 1), (155, .getfield 15, 3), (158, .sipush 1104, 3), (161, .iload_n 1, 1), (162, .iload 6, 2), (164, .invokestatic 144, 3), (167, .iadd, 1), (168, .iload_n 3, 1), (169, .iastore, 1), (170, .aload_n 0, 1), (171, .getfield 15, 3), (174, .sipush 1184, 3), (177, .iload_n 1, 1), (178, .iload 6, 2), (180, .invokestatic 144, 3), (183, .iadd, 1), (184, .iload 4, 2)]), (100000, [(186, .iastore, 1), (187, .aload_n 0, 1), (188, .getfield 15, 3), (191, .sipush 1020, 3), (194, .iload_n 1, 1), (195, .iadd, 1), (196, .iaload, 1), (197, .ireturn, 1)])], [])
def mt_X11_fraction : zMt := (yX11_fraction, cX11_fraction, 11, none, 11, 0, [(33, [(0, .lload_n 1, 1), (1, .lconst 0, 1), (2, .lcmp, 1), (3, .ifCond .ge 8, 3), (6, .lload_n 1, 1), (7, .lneg, 1), (8, .goto 4, 3), (11, .lload_n 1, 1), (12, .lstore 5, 2), (14, .lload_n 3, 1), (15, .lstore 7, 2), (17, .lload 7, 2), (19, .lconst 0, 1), (20, .lcmp, 1), (21, .ifCond .eq 21, 3), (24, .lload 5, 2), (26, .lload 7, 2), (28, .lrem, 1), (29, .lstore 9, 2), (31, .lload 7, 2)]), (100000, [(33, .lstore 5, 2), (35, .lload 9, 2), (37, .lstore 7, 2), (39, .goto (-22), 3), (42, .aload_n 0, 1), (43, .lload_n 1, 1), (44, .lload 5, 2), (46, .ldiv, 1), (47, .putfield 148, 3), (50, .aload_n 0, 1), (51, .lload_n 3, 1), (52, .lload 5, 2), (54, .ldiv, 1), (55, .putfield 152, 3), (58, .return_, 1)])], [(17, [9])])
def mt_X11_rateBy : zMt := (yX11_rateBy, cX11_rateBy, 6, none, 11, 1, [(37, [(0, .iconst (-1), 1), (1, .istore_n 3, 1), (2, .iconst 0, 1), (3, .istore 4, 2), (5, .iload 4, 2), (7, .aload_n 0, 1), (8, .getfield 15, 3), (11, .sipush 1020, 3), (14, .iload_n 1, 1), (15, .iadd, 1), (16, .iaload, 1), (17, .if_icmp .ge 63, 3), (20, .iload_n 1, 1), (21, .iload 4, 2), (23, .invokestatic 144, 3), (26, .istore 5, 2), (28, .aload_n 0, 1), (29, .getfield 15, 3), (32, .sipush 1024, 3), (35, .iload 5, 2)]), (73, [(37, .iadd, 1), (38, .iaload, 1), (39, .iload_n 2, 1), (40, .if_icmp .gt 34, 3), (43, .iload_n 3, 1), (44, .ifCond .lt 27, 3), (47, .aload_n 0, 1), (48, .getfield 15, 3), (51, .sipush 1024, 3), (54, .iload 5, 2), (56, .iadd, 1), (57, .iaload, 1), (58, .aload_n 0, 1), (59, .getfield 15, 3), (62, .sipush 1024, 3), (65, .iload_n 3, 1), (66, .iadd, 1), (67, .iaload, 1), (68, .if_icmp .le 6, 3), (71, .iload 5, 2)]), (109, [(73, .istore_n 3, 1), (74, .iinc 4 1, 3), (77, .goto (-72), 3), (80, .iload_n 3, 1), (81, .ifCond .ge 12, 3), (84, .aload_n 0, 1), (85, .lconst 1, 1), (86, .lconst 1, 1), (87, .invokevirtual 155, 3), (90, .goto 29, 3), (93, .aload_n 0, 1), (94, .aload_n 0, 1), (95, .getfield 15, 3), (98, .sipush 1104, 3), (101, .iload_n 3, 1), (102, .iadd, 1), (103, .iaload, 1), (104, .i2l, 1), (105, .aload_n 0, 1), (106, .getfield 15, 3)]), (100000, [(109, .sipush 1184, 3), (112, .iload_n 3, 1), (113, .iadd, 1), (114, .iaload, 1), (115, .i2l, 1), (116, .invokevirtual 155, 3), (119, .return_, 1)])], [(5, [5])])
def mt_X11_rateOf : zMt := (yX11_rateOf, cX11_rateOf, 4, (some .int), 11, 2, [(35, [(0, .iload_n 1, 1), (1, .invokestatic 67, 3), (4, .ifCond .eq 12, 3), (7, .iload_n 3, 1), (8, .iconst 0, 1), (9, .iconst 1, 1), (10, .invokestatic 55, 3), (13, .ifCond .ne 5, 3), (16, .iconst (-1), 1), (17, .ireturn, 1), (18, .iload_n 2, 1), (19, .invokestatic 85, 3), (22, .ifCond .ne 6, 3), (25, .bipush (-2), 2), (27, .ireturn, 1), (28, .aload_n 0, 1), (29, .iload_n 1, 1), (30, .iload_n 2, 1), (31, .invokevirtual 159, 3), (34, .iload_n 3, 1)]), (100000, [(35, .ifCond .ne 10, 3), (38, .aload_n 0, 1), (39, .getfield 148, 3), (42, .goto 7, 3), (45, .aload_n 0, 1), (46, .getfield 152, 3), (49, .l2i, 1), (50, .ireturn, 1)])], [])
def mt_X11_valueBy : zMt := (yX11_valueBy, cX11_valueBy, 10, none, 11, 2, [(32, [(0, .lconst 0, 1), (1, .lstore_n 3, 1), (2, .lconst 1, 1), (3, .lstore 5, 2), (5, .iconst 0, 1), (6, .istore 7, 2), (8, .iload 7, 2), (10, .iconst 4, 1), (11, .if_icmp .ge 65, 3), (14, .aload_n 0, 1), (15, .iload_n 1, 1), (16, .iload 7, 2), (18, .iload_n 2, 1), (19, .invokevirtual 88, 3), (22, .lstore 8, 2), (24, .aload_n 0, 1), (25, .iload 7, 2), (27, .iload_n 2, 1), (28, .invokevirtual 159, 3), (31, .aload_n 0, 1)]), (65, [(32, .lload_n 3, 1), (33, .aload_n 0, 1), (34, .getfield 152, 3), (37, .lmul, 1), (38, .lload 8, 2), (40, .aload_n 0, 1), (41, .getfield 148, 3), (44, .lmul, 1), (45, .lload 5, 2), (47, .lmul, 1), (48, .ladd, 1), (49, .lload 5, 2), (51, .aload_n 0, 1), (52, .getfield 152, 3), (55, .lmul, 1), (56, .invokevirtual 155, 3), (59, .aload_n 0, 1), (60, .getfield 148, 3), (63, .lstore_n 3, 1), (64, .aload_n 0, 1)]), (100000, [(65, .getfield 152, 3), (68, .lstore 5, 2), (70, .iinc 7 1, 3), (73, .goto (-65), 3), (76, .aload_n 0, 1), (77, .lload_n 3, 1), (78, .lload 5, 2), (80, .invokevirtual 155, 3), (83, .return_, 1)])], [(8, [8])])
def mt_X11_value : zMt := (yX11_value, cX11_value, 4, (some .long), 11, 3, [(38, [(0, .aload_n 0, 1), (1, .iload_n 1, 1), (2, .invokevirtual 63, 3), (5, .ifCond .eq 19, 3), (8, .iload_n 2, 1), (9, .invokestatic 85, 3), (12, .ifCond .eq 12, 3), (15, .iload_n 3, 1), (16, .iconst 0, 1), (17, .iconst 1, 1), (18, .invokestatic 55, 3), (21, .ifCond .ne 7, 3), (24, .ldc2_w 59, 3), (27, .lreturn, 1), (28, .aload_n 0, 1), (29, .iload_n 1, 1), (30, .iload_n 2, 1), (31, .invokevirtual 162, 3), (34, .iload_n 3, 1), (35, .ifCond .ne 10, 3)]), (100000, [(38, .aload_n 0, 1), (39, .getfield 148, 3), (42, .goto 7, 3), (45, .aload_n 0, 1), (46, .getfield 152, 3), (49, .lreturn, 1)])], [])
def mt_X11_real : zMt := (yX11_real, cX11_real, 6, (some .int), 11, 3, [(36, [(0, .aload_n 0, 1), (1, .iload_n 1, 1), (2, .invokevirtual 63, 3), (5, .ifCond .eq 19, 3), (8, .iload_n 2, 1), (9, .invokestatic 85, 3), (12, .ifCond .eq 12, 3), (15, .iload_n 3, 1), (16, .iconst 0, 1), (17, .iconst 3, 1), (18, .invokestatic 55, 3), (21, .ifCond .ne 5, 3), (24, .iconst 0, 1), (25, .ireturn, 1), (26, .aload_n 0, 1), (27, .iload_n 1, 1), (28, .iload_n 2, 1), (29, .invokevirtual 162, 3), (32, .aload_n 0, 1), (33, .getfield 148, 3)]), (70, [(36, .l2d, 1), (37, .aload_n 0, 1), (38, .getfield 152, 3), (41, .l2d, 1), (42, .ddiv, 1), (43, .dstore 4, 2), (45, .iload_n 3, 1), (46, .ifCond .ne 13, 3), (49, .dload 4, 2), (51, .invokestatic 165, 3), (54, .bipush 32, 2), (56, .lshr, 1), (57, .l2i, 1), (58, .ireturn, 1), (59, .iload_n 3, 1), (60, .iconst 1, 1), (61, .if_icmp .ne 10, 3), (64, .dload 4, 2), (66, .invokestatic 165, 3), (69, .l2i, 1)]), (100000, [(70, .ireturn, 1), (71, .iload_n 3, 1), (72, .iconst 2, 1), (73, .if_icmp .ne 12, 3), (76, .dload 4, 2), (78, .d2f, 1), (79, .invokestatic 171, 3), (82, .goto 6, 3), (85, .dload 4, 2), (87, .d2i, 1), (88, .ireturn, 1)])], [])
def mt_X11_gain : zMt := (yX11_gain, cX11_gain, 10, (some .long), 11, 2, [(43, [(0, .aload_n 0, 1), (1, .iload_n 1, 1), (2, .invokevirtual 63, 3), (5, .ifCond .eq 41, 3), (8, .iload_n 2, 1), (9, .invokestatic 67, 3), (12, .ifCond .eq 34, 3), (15, .iload_n 3, 1), (16, .invokestatic 85, 3), (19, .ifCond .eq 27, 3), (22, .iload 4, 2), (24, .invokestatic 85, 3), (27, .ifCond .eq 19, 3), (30, .iload 5, 2), (32, .iconst 0, 1), (33, .iconst 1, 1), (34, .invokestatic 55, 3), (37, .ifCond .eq 9, 3), (40, .iload 4, 2), (42, .iload_n 3, 1)]), (80, [(43, .if_icmp .ge 7, 3), (46, .ldc2_w 59, 3), (49, .lreturn, 1), (50, .aload_n 0, 1), (51, .iload_n 2, 1), (52, .iload_n 3, 1), (53, .invokevirtual 159, 3), (56, .aload_n 0, 1), (57, .getfield 148, 3), (60, .lstore 6, 2), (62, .aload_n 0, 1), (63, .getfield 152, 3), (66, .lstore 8, 2), (68, .aload_n 0, 1), (69, .iload_n 2, 1), (70, .iload 4, 2), (72, .invokevirtual 159, 3), (75, .aload_n 0, 1), (76, .aload_n 0, 1), (77, .getfield 148, 3)]), (114, [(80, .lload 8, 2), (82, .lmul, 1), (83, .lload 6, 2), (85, .aload_n 0, 1), (86, .getfield 152, 3), (89, .lmul, 1), (90, .lsub, 1), (91, .aload_n 0, 1), (92, .getfield 152, 3), (95, .lload 8, 2), (97, .lmul, 1), (98, .invokevirtual 155, 3), (101, .aload_n 0, 1), (102, .aload_n 0, 1), (103, .getfield 148, 3), (106, .aload_n 0, 1), (107, .iload_n 1, 1), (108, .iload_n 2, 1), (109, .iload 4, 2), (111, .invokevirtual 88, 3)]), (100000, [(114, .lmul, 1), (115, .aload_n 0, 1), (116, .getfield 152, 3), (119, .invokevirtual 155, 3), (122, .iload 5, 2), (124, .ifCond .ne 10, 3), (127, .aload_n 0, 1), (128, .getfield 148, 3), (131, .goto 7, 3), (134, .aload_n 0, 1), (135, .getfield 152, 3), (138, .lreturn, 1)])], [])
def mt_X11_linesOf : zMt := (yX11_linesOf, cX11_linesOf, 4, (some .int), 11, 1, [(36, [(0, .iconst 0, 1), (1, .istore_n 2, 1), (2, .iconst 0, 1), (3, .istore_n 3, 1), (4, .iload_n 3, 1), (5, .aload_n 0, 1), (6, .invokevirtual 92, 3), (9, .if_icmp .ge 26, 3), (12, .aload_n 0, 1), (13, .getfield 15, 3), (16, .sipush 400, 3), (19, .iload_n 3, 1), (20, .iadd, 1), (21, .iaload, 1), (22, .iload_n 1, 1), (23, .if_icmp .ne 6, 3), (26, .iinc 2 1, 3), (29, .iinc 3 1, 3), (32, .goto (-28), 3), (35, .iload_n 2, 1)]), (100000, [(36, .ireturn, 1)])], [])
def mt_X11_journalOf : zMt := (yX11_journalOf, cX11_journalOf, 3, (some .int), 11, 0, [(34, [(0, .iconst 0, 1), (1, .istore_n 2, 1), (2, .iload_n 1, 1), (3, .aload_n 0, 1), (4, .getfield 15, 3), (7, .sipush 160, 3), (10, .iload_n 2, 1), (11, .iadd, 1), (12, .iaload, 1), (13, .aload_n 0, 1), (14, .getfield 15, 3), (17, .sipush 220, 3), (20, .iload_n 2, 1), (21, .iadd, 1), (22, .iaload, 1), (23, .iadd, 1), (24, .if_icmp .lt 9, 3), (27, .iinc 2 1, 3), (30, .goto (-28), 3), (33, .iload_n 2, 1)]), (100000, [(34, .ireturn, 1)])], [])
def mt_X11_line : zMt := (yX11_line, cX11_line, 9, (some .long), 11, 2, [(36, [(0, .aload_n 0, 1), (1, .iload_n 1, 1), (2, .invokevirtual 63, 3), (5, .ifCond .eq 12, 3), (8, .iload_n 3, 1), (9, .iconst 0, 1), (10, .iconst 3, 1), (11, .invokestatic 55, 3), (14, .ifCond .ne 7, 3), (17, .ldc2_w 59, 3), (20, .lreturn, 1), (21, .iload_n 2, 1), (22, .ifCond .ge 13, 3), (25, .aload_n 0, 1), (26, .iload_n 1, 1), (27, .invokevirtual 78, 3), (30, .iload_n 2, 1), (31, .iadd, 1), (32, .goto 4, 3), (35, .iload_n 2, 1)]), (71, [(36, .istore 4, 2), (38, .iload 4, 2), (40, .iconst 0, 1), (41, .aload_n 0, 1), (42, .iload_n 1, 1), (43, .invokevirtual 78, 3), (46, .iconst 1, 1), (47, .isub, 1), (48, .invokestatic 55, 3), (51, .ifCond .ne 7, 3), (54, .ldc2_w 59, 3), (57, .lreturn, 1), (58, .lconst 0, 1), (59, .lstore 5, 2), (61, .iconst (-1), 1), (62, .istore 7, 2), (64, .iconst (-1), 1), (65, .istore 8, 2), (67, .iload 8, 2), (69, .iload 4, 2)]), (110, [(71, .if_icmp .ge 45, 3), (74, .iinc 7 1, 3), (77, .aload_n 0, 1), (78, .getfield 15, 3), (81, .sipush 400, 3), (84, .iload 7, 2), (86, .iadd, 1), (87, .iaload, 1), (88, .iload_n 1, 1), (89, .if_icmp .eq 6, 3), (92, .goto (-25), 3), (95, .lload 5, 2), (97, .aload_n 0, 1), (98, .getfield 19, 3), (101, .bipush 60, 2), (103, .iload 7, 2), (105, .iadd, 1), (106, .laload, 1), (107, .ladd, 1), (108, .lstore 5, 2)]), (169, [(110, .iinc 8 1, 3), (113, .goto (-46), 3), (116, .iload_n 3, 1), (117, .tableswitch 62 0 2 #[27, 43, 51], 27), (144, .aload_n 0, 1), (145, .getfield 15, 3), (148, .bipush 100, 2), (150, .aload_n 0, 1), (151, .iload 7, 2), (153, .invokevirtual 177, 3), (156, .iadd, 1), (157, .iaload, 1), (158, .i2l, 1), (159, .lreturn, 1), (160, .aload_n 0, 1), (161, .iload 7, 2), (163, .invokevirtual 177, 3), (166, .i2l, 1), (167, .lreturn, 1), (168, .aload_n 0, 1)]), (100000, [(169, .getfield 19, 3), (172, .bipush 60, 2), (174, .iload 7, 2), (176, .iadd, 1), (177, .laload, 1), (178, .lreturn, 1), (179, .lload 5, 2), (181, .lreturn, 1)])], [])
def mt_X11_trial : zMt := (yX11_trial, cX11_trial, 9, (some .long), 11, 2, [(39, [(0, .iload_n 1, 1), (1, .invokestatic 67, 3), (4, .ifCond .eq 19, 3), (7, .iload_n 2, 1), (8, .invokestatic 85, 3), (11, .ifCond .eq 12, 3), (14, .iload_n 3, 1), (15, .iconst 0, 1), (16, .iconst 1, 1), (17, .invokestatic 55, 3), (20, .ifCond .ne 7, 3), (23, .ldc2_w 59, 3), (26, .lreturn, 1), (27, .lconst 0, 1), (28, .lstore 4, 2), (30, .iconst 0, 1), (31, .istore 6, 2), (33, .iload 6, 2), (35, .aload_n 0, 1), (36, .getfield 15, 3)]), (74, [(39, .iconst 0, 1), (40, .iaload, 1), (41, .if_icmp .ge 66, 3), (44, .aload_n 0, 1), (45, .getfield 15, 3), (48, .bipush 40, 2), (50, .iload 6, 2), (52, .iadd, 1), (53, .iaload, 1), (54, .iload_n 1, 1), (55, .if_icmp .eq 6, 3), (58, .goto 43, 3), (61, .aload_n 0, 1), (62, .iload 6, 2), (64, .iload_n 2, 1), (65, .invokevirtual 81, 3), (68, .lstore 7, 2), (70, .lload 7, 2), (72, .lconst 0, 1), (73, .lcmp, 1)]), (100000, [(74, .ifCond .le 7, 3), (77, .iconst 1, 1), (78, .goto 4, 3), (81, .iconst 0, 1), (82, .iload_n 3, 1), (83, .ifCond .ne 7, 3), (86, .iconst 1, 1), (87, .goto 4, 3), (90, .iconst 0, 1), (91, .if_icmp .ne 10, 3), (94, .lload 4, 2), (96, .lload 7, 2), (98, .ladd, 1), (99, .lstore 4, 2), (101, .iinc 6 1, 3), (104, .goto (-71), 3), (107, .lload 4, 2), (109, .lreturn, 1)])], [])
def mt_X11_sorts : zMt := (yX11_sorts, cX11_sorts, 6, (some .long), 11, 2, [(36, [(0, .iload_n 1, 1), (1, .iconst 0, 1), (2, .iconst 3, 1), (3, .invokestatic 55, 3), (6, .ifCond .eq 10, 3), (9, .iload_n 2, 1), (10, .invokestatic 67, 3), (13, .ifCond .ne 7, 3), (16, .ldc2_w 59, 3), (19, .lreturn, 1), (20, .lconst 0, 1), (21, .lstore_n 3, 1), (22, .iconst 1, 1), (23, .istore 5, 2), (25, .iload 5, 2), (27, .aload_n 0, 1), (28, .getfield 15, 3), (31, .iconst 0, 1), (32, .iaload, 1), (33, .if_icmp .ge 49, 3)]), (71, [(36, .aload_n 0, 1), (37, .getfield 15, 3), (40, .bipush 70, 2), (42, .iload 5, 2), (44, .iadd, 1), (45, .iaload, 1), (46, .iload_n 1, 1), (47, .if_icmp .ne 29, 3), (50, .aload_n 0, 1), (51, .getfield 15, 3), (54, .bipush 40, 2), (56, .iload 5, 2), (58, .iadd, 1), (59, .iaload, 1), (60, .iload_n 2, 1), (61, .if_icmp .ne 15, 3), (64, .lload_n 3, 1), (65, .aload_n 0, 1), (66, .iload 5, 2), (68, .sipush 999, 3)]), (100000, [(71, .invokevirtual 81, 3), (74, .ladd, 1), (75, .lstore_n 3, 1), (76, .iinc 5 1, 3), (79, .goto (-54), 3), (82, .lload_n 3, 1), (83, .lreturn, 1)])], [])
def mt_X11_budget : zMt := (yX11_budget, cX11_budget, 5, (some .int), 11, 2, [(34, [(0, .aload_n 0, 1), (1, .iload_n 1, 1), (2, .invokevirtual 63, 3), (5, .ifCond .eq 13, 3), (8, .iload_n 2, 1), (9, .iconst 0, 1), (10, .bipush 9, 2), (12, .invokestatic 55, 3), (15, .ifCond .ne 5, 3), (18, .iconst (-1), 1), (19, .ireturn, 1), (20, .iload_n 2, 1), (21, .aload_n 0, 1), (22, .getfield 15, 3), (25, .iconst 5, 1), (26, .iaload, 1), (27, .if_icmp .ge 6, 3), (30, .bipush (-3), 2), (32, .ireturn, 1), (33, .aload_n 0, 1)]), (100000, [(34, .getfield 19, 3), (37, .sipush 680, 3), (40, .bipush 10, 2), (42, .iload_n 1, 1), (43, .imul, 1), (44, .iadd, 1), (45, .iload_n 2, 1), (46, .iadd, 1), (47, .lload_n 3, 1), (48, .lastore, 1), (49, .iconst 1, 1), (50, .ireturn, 1)])], [])
def mt_X11_left : zMt := (yX11_left, cX11_left, 6, (some .long), 11, 2, [(36, [(0, .aload_n 0, 1), (1, .iload_n 1, 1), (2, .invokevirtual 63, 3), (5, .ifCond .eq 13, 3), (8, .iload_n 2, 1), (9, .iconst 0, 1), (10, .bipush 9, 2), (12, .invokestatic 55, 3), (15, .ifCond .ne 7, 3), (18, .ldc2_w 59, 3), (21, .lreturn, 1), (22, .aload_n 0, 1), (23, .getfield 15, 3), (26, .bipush 40, 2), (28, .iload_n 1, 1), (29, .iadd, 1), (30, .iaload, 1), (31, .istore_n 3, 1), (32, .iload_n 2, 1), (33, .ifCond .ne 7, 3)]), (67, [(36, .lconst 0, 1), (37, .goto 15, 3), (40, .aload_n 0, 1), (41, .iload_n 1, 1), (42, .iload_n 3, 1), (43, .bipush 100, 2), (45, .iload_n 2, 1), (46, .imul, 1), (47, .iconst 1, 1), (48, .isub, 1), (49, .invokevirtual 88, 3), (52, .lstore 4, 2), (54, .aload_n 0, 1), (55, .getfield 19, 3), (58, .sipush 680, 3), (61, .bipush 10, 2), (63, .iload_n 1, 1), (64, .imul, 1), (65, .iadd, 1), (66, .iload_n 2, 1)]), (100000, [(67, .iadd, 1), (68, .laload, 1), (69, .aload_n 0, 1), (70, .iload_n 1, 1), (71, .iload_n 3, 1), (72, .bipush 100, 2), (74, .iload_n 2, 1), (75, .imul, 1), (76, .bipush 99, 2), (78, .iadd, 1), (79, .invokevirtual 88, 3), (82, .lload 4, 2), (84, .lsub, 1), (85, .lsub, 1), (86, .lreturn, 1)])], [])
def mt_X11_extreme : zMt := (yX11_extreme, cX11_extreme, 9, (some .int), 11, 2, [(34, [(0, .iload_n 1, 1), (1, .invokestatic 67, 3), (4, .ifCond .eq 12, 3), (7, .iload_n 2, 1), (8, .iconst 0, 1), (9, .iconst 1, 1), (10, .invokestatic 55, 3), (13, .ifCond .ne 5, 3), (16, .iconst (-1), 1), (17, .ireturn, 1), (18, .bipush (-5), 2), (20, .istore_n 3, 1), (21, .lconst 0, 1), (22, .lstore 4, 2), (24, .iconst 0, 1), (25, .istore 6, 2), (27, .iload 6, 2), (29, .aload_n 0, 1), (30, .getfield 15, 3), (33, .iconst 0, 1)]), (74, [(34, .iaload, 1), (35, .if_icmp .ge 74, 3), (38, .aload_n 0, 1), (39, .getfield 15, 3), (42, .bipush 40, 2), (44, .iload 6, 2), (46, .iadd, 1), (47, .iaload, 1), (48, .iload_n 1, 1), (49, .if_icmp .eq 6, 3), (52, .goto 51, 3), (55, .aload_n 0, 1), (56, .iload 6, 2), (58, .sipush 999, 3), (61, .invokevirtual 81, 3), (64, .lstore 7, 2), (66, .iload_n 3, 1), (67, .ifCond .lt 29, 3), (70, .iload_n 2, 1), (71, .ifCond .ne 14, 3)]), (100000, [(74, .lload 7, 2), (76, .lload 4, 2), (78, .lcmp, 1), (79, .ifCond .gt 17, 3), (82, .goto 21, 3), (85, .lload 7, 2), (87, .lload 4, 2), (89, .lcmp, 1), (90, .ifCond .lt 6, 3), (93, .goto 10, 3), (96, .iload 6, 2), (98, .istore_n 3, 1), (99, .lload 7, 2), (101, .lstore 4, 2), (103, .iinc 6 1, 3), (106, .goto (-79), 3), (109, .iload_n 3, 1), (110, .ireturn, 1)])], [])
def mt_X11_meet : zMt := (yX11_meet, cX11_meet, 4, (some .int), 11, 2, [(35, [(0, .aload_n 0, 1), (1, .iload_n 1, 1), (2, .invokevirtual 63, 3), (5, .ifCond .eq 11, 3), (8, .aload_n 0, 1), (9, .iload_n 2, 1), (10, .invokevirtual 63, 3), (13, .ifCond .ne 5, 3), (16, .iconst (-1), 1), (17, .ireturn, 1), (18, .iload_n 1, 1), (19, .istore_n 3, 1), (20, .aload_n 0, 1), (21, .iload_n 2, 1), (22, .iload_n 3, 1), (23, .invokevirtual 70, 3), (26, .ifCond .ne 16, 3), (29, .aload_n 0, 1), (30, .getfield 15, 3), (33, .bipush 10, 2)]), (100000, [(35, .iload_n 3, 1), (36, .iadd, 1), (37, .iaload, 1), (38, .istore_n 3, 1), (39, .goto (-19), 3), (42, .iload_n 3, 1), (43, .ireturn, 1)])], [])
def mt_X11_feed : zMt := (yX11_feed, cX11_feed, 2, (some .int), 11, 1, [(36, [(0, .iload_n 1, 1), (1, .iconst 1, 1), (2, .bipush 127, 2), (4, .invokestatic 55, 3), (7, .ifCond .ne 6, 3), (10, .bipush (-2), 2), (12, .ireturn, 1), (13, .aload_n 0, 1), (14, .getfield 180, 3), (17, .bipush 90, 2), (19, .if_icmp .ne 6, 3), (22, .bipush (-4), 2), (24, .ireturn, 1), (25, .aload_n 0, 1), (26, .getfield 29, 3), (29, .aload_n 0, 1), (30, .getfield 180, 3), (33, .iload_n 1, 1), (34, .iastore, 1), (35, .aload_n 0, 1)]), (100000, [(36, .dup, 1), (37, .getfield 180, 3), (40, .iconst 1, 1), (41, .iadd, 1), (42, .putfield 180, 3), (45, .aload_n 0, 1), (46, .getfield 180, 3), (49, .ireturn, 1)])], [])
def mt_X11_clear : zMt := (yX11_clear, cX11_clear, 2, (some .int), 11, 0, [(100000, [(0, .aload_n 0, 1), (1, .getfield 180, 3), (4, .istore_n 1, 1), (5, .aload_n 0, 1), (6, .iconst 0, 1), (7, .putfield 180, 3), (10, .iload_n 1, 1), (11, .ireturn, 1)])], [])
def mt_X11_here : zMt := (yX11_here, cX11_here, 1, (some .int), 11, 0, [(100000, [(0, .aload_n 0, 1), (1, .getfield 183, 3), (4, .aload_n 0, 1), (5, .getfield 180, 3), (8, .if_icmp .ge 15, 3), (11, .aload_n 0, 1), (12, .getfield 29, 3), (15, .aload_n 0, 1), (16, .getfield 183, 3), (19, .iaload, 1), (20, .goto 4, 3), (23, .iconst (-1), 1), (24, .ireturn, 1)])], [])
def mt_X11_wrong : zMt := (yX11_wrong, cX11_wrong, 2, none, 11, 0, [(100000, [(0, .aload_n 0, 1), (1, .getfield 186, 3), (4, .ifCond .ge 8, 3), (7, .aload_n 0, 1), (8, .iload_n 1, 1), (9, .putfield 186, 3), (12, .return_, 1)])], [])
def mt_X11_expect : zMt := (yX11_expect, cX11_expect, 2, none, 11, 1, [(100000, [(0, .aload_n 0, 1), (1, .getfield 186, 3), (4, .ifCond .lt 4, 3), (7, .return_, 1), (8, .aload_n 0, 1), (9, .invokevirtual 189, 3), (12, .iload_n 1, 1), (13, .if_icmp .ne 16, 3), (16, .aload_n 0, 1), (17, .dup, 1), (18, .getfield 183, 3), (21, .iconst 1, 1), (22, .iadd, 1), (23, .putfield 183, 3), (26, .goto 11, 3), (29, .aload_n 0, 1), (30, .aload_n 0, 1), (31, .getfield 183, 3), (34, .invokevirtual 192, 3), (37, .return_, 1)])], [])
def mt_X11_figures : zMt := (yX11_figures, cX11_figures, 4, (some .int), 11, 1, [(34, [(0, .aload_n 0, 1), (1, .getfield 186, 3), (4, .ifCond .lt 5, 3), (7, .iconst 0, 1), (8, .ireturn, 1), (9, .aload_n 0, 1), (10, .getfield 183, 3), (13, .istore_n 2, 1), (14, .iconst 0, 1), (15, .istore_n 3, 1), (16, .aload_n 0, 1), (17, .getfield 183, 3), (20, .iload_n 2, 1), (21, .iload_n 1, 1), (22, .iadd, 1), (23, .if_icmp .ge 43, 3), (26, .aload_n 0, 1), (27, .invokevirtual 189, 3), (30, .bipush 48, 2), (32, .bipush 57, 2)]), (70, [(34, .invokestatic 55, 3), (37, .ifCond .eq 29, 3), (40, .bipush 10, 2), (42, .iload_n 3, 1), (43, .imul, 1), (44, .aload_n 0, 1), (45, .invokevirtual 189, 3), (48, .iadd, 1), (49, .bipush 48, 2), (51, .isub, 1), (52, .istore_n 3, 1), (53, .aload_n 0, 1), (54, .dup, 1), (55, .getfield 183, 3), (58, .iconst 1, 1), (59, .iadd, 1), (60, .putfield 183, 3), (63, .goto (-47), 3), (66, .aload_n 0, 1), (67, .getfield 183, 3)]), (100000, [(70, .iload_n 2, 1), (71, .if_icmp .ne 11, 3), (74, .aload_n 0, 1), (75, .aload_n 0, 1), (76, .getfield 183, 3), (79, .invokevirtual 192, 3), (82, .iload_n 3, 1), (83, .ireturn, 1)])], [])
def mt_X11_readPart : zMt := (yX11_readPart, cX11_readPart, 5, none, 11, 2, [(37, [(0, .aload_n 0, 1), (1, .getfield 183, 3), (4, .istore_n 1, 1), (5, .aload_n 0, 1), (6, .iconst 2, 1), (7, .invokevirtual 196, 3), (10, .istore_n 2, 1), (11, .aload_n 0, 1), (12, .getfield 186, 3), (15, .ifCond .ge 16, 3), (18, .aload_n 0, 1), (19, .iload_n 2, 1), (20, .invokevirtual 63, 3), (23, .ifCond .ne 8, 3), (26, .aload_n 0, 1), (27, .iload_n 1, 1), (28, .invokevirtual 192, 3), (31, .aload_n 0, 1), (32, .bipush 32, 2), (34, .invokevirtual 199, 3)]), (74, [(37, .aload_n 0, 1), (38, .getfield 186, 3), (41, .ifCond .ge 16, 3), (44, .aload_n 0, 1), (45, .invokevirtual 189, 3), (48, .bipush 45, 2), (50, .if_icmp .ne 7, 3), (53, .iconst 1, 1), (54, .goto 4, 3), (57, .iconst 0, 1), (58, .istore_n 3, 1), (59, .iload_n 3, 1), (60, .ifCond .eq 13, 3), (63, .aload_n 0, 1), (64, .dup, 1), (65, .getfield 183, 3), (68, .iconst 1, 1), (69, .iadd, 1), (70, .putfield 183, 3), (73, .aload_n 0, 1)]), (116, [(74, .getfield 183, 3), (77, .istore_n 1, 1), (78, .aload_n 0, 1), (79, .bipush 7, 2), (81, .invokevirtual 196, 3), (84, .istore 4, 2), (86, .aload_n 0, 1), (87, .getfield 186, 3), (90, .ifCond .ge 19, 3), (93, .iload 4, 2), (95, .iconst 1, 1), (96, .ldc 202, 2), (98, .invokestatic 55, 3), (101, .ifCond .ne 8, 3), (104, .aload_n 0, 1), (105, .iload_n 1, 1), (106, .invokevirtual 192, 3), (109, .aload_n 0, 1), (110, .getfield 186, 3), (113, .ifCond .lt 4, 3)]), (150, [(116, .return_, 1), (117, .aload_n 0, 1), (118, .getfield 32, 3), (121, .aload_n 0, 1), (122, .getfield 203, 3), (125, .iload_n 2, 1), (126, .iastore, 1), (127, .aload_n 0, 1), (128, .getfield 35, 3), (131, .aload_n 0, 1), (132, .getfield 203, 3), (135, .iload_n 3, 1), (136, .ifCond .eq 10, 3), (139, .iload 4, 2), (141, .ineg, 1), (142, .i2l, 1), (143, .goto 6, 3), (146, .iload 4, 2), (148, .i2l, 1), (149, .lastore, 1)]), (100000, [(150, .aload_n 0, 1), (151, .dup, 1), (152, .getfield 203, 3), (155, .iconst 1, 1), (156, .iadd, 1), (157, .putfield 203, 3), (160, .return_, 1)])], [])
def mt_X11_readText : zMt := (yX11_readText, cX11_readText, 1, none, 11, 3, [(36, [(0, .aload_n 0, 1), (1, .iconst 0, 1), (2, .putfield 183, 3), (5, .aload_n 0, 1), (6, .iconst (-1), 1), (7, .putfield 186, 3), (10, .aload_n 0, 1), (11, .iconst 0, 1), (12, .putfield 203, 3), (15, .aload_n 0, 1), (16, .iconst (-1), 1), (17, .putfield 206, 3), (20, .aload_n 0, 1), (21, .invokevirtual 209, 3), (24, .aload_n 0, 1), (25, .getfield 186, 3), (28, .ifCond .ge 40, 3), (31, .aload_n 0, 1), (32, .getfield 203, 3), (35, .iconst 2, 1)]), (81, [(36, .if_icmp .lt 12, 3), (39, .aload_n 0, 1), (40, .invokevirtual 189, 3), (43, .bipush 59, 2), (45, .if_icmp .ne 23, 3), (48, .aload_n 0, 1), (49, .bipush 59, 2), (51, .invokevirtual 199, 3), (54, .aload_n 0, 1), (55, .getfield 186, 3), (58, .ifCond .ge (-34), 3), (61, .aload_n 0, 1), (62, .invokevirtual 209, 3), (65, .goto (-41), 3), (68, .aload_n 0, 1), (69, .getfield 186, 3), (72, .ifCond .ge 49, 3), (75, .aload_n 0, 1), (76, .invokevirtual 189, 3), (79, .bipush 32, 2)]), (118, [(81, .if_icmp .ne 40, 3), (84, .aload_n 0, 1), (85, .dup, 1), (86, .getfield 183, 3), (89, .iconst 1, 1), (90, .iadd, 1), (91, .putfield 183, 3), (94, .aload_n 0, 1), (95, .bipush 82, 2), (97, .invokevirtual 199, 3), (100, .aload_n 0, 1), (101, .bipush 69, 2), (103, .invokevirtual 199, 3), (106, .aload_n 0, 1), (107, .bipush 86, 2), (109, .invokevirtual 199, 3), (112, .aload_n 0, 1), (113, .aload_n 0, 1), (114, .iconst 2, 1), (115, .invokevirtual 196, 3)]), (100000, [(118, .putfield 206, 3), (121, .aload_n 0, 1), (122, .getfield 186, 3), (125, .ifCond .ge 22, 3), (128, .aload_n 0, 1), (129, .getfield 183, 3), (132, .aload_n 0, 1), (133, .getfield 180, 3), (136, .if_icmp .ge 11, 3), (139, .aload_n 0, 1), (140, .aload_n 0, 1), (141, .getfield 183, 3), (144, .invokevirtual 192, 3), (147, .aload_n 0, 1), (148, .iconst 0, 1), (149, .putfield 180, 3), (152, .return_, 1)])], [])
def mt_X11_doReverse : zMt := (yX11_doReverse, cX11_doReverse, 3, (some .boolean), 11, 0, [(34, [(0, .aload_n 0, 1), (1, .getfield 203, 3), (4, .aload_n 0, 1), (5, .getfield 15, 3), (8, .sipush 220, 3), (11, .iload_n 1, 1), (12, .iadd, 1), (13, .iaload, 1), (14, .if_icmp .eq 5, 3), (17, .iconst 0, 1), (18, .ireturn, 1), (19, .iconst 0, 1), (20, .istore_n 2, 1), (21, .iload_n 2, 1), (22, .aload_n 0, 1), (23, .getfield 203, 3), (26, .if_icmp .ge 72, 3), (29, .aload_n 0, 1), (30, .getfield 32, 3), (33, .iload_n 2, 1)]), (66, [(34, .iaload, 1), (35, .aload_n 0, 1), (36, .getfield 15, 3), (39, .sipush 400, 3), (42, .aload_n 0, 1), (43, .getfield 15, 3), (46, .sipush 160, 3), (49, .iload_n 1, 1), (50, .iadd, 1), (51, .iaload, 1), (52, .iadd, 1), (53, .iload_n 2, 1), (54, .iadd, 1), (55, .iaload, 1), (56, .if_icmp .ne 34, 3), (59, .aload_n 0, 1), (60, .getfield 35, 3), (63, .iload_n 2, 1), (64, .laload, 1), (65, .aload_n 0, 1)]), (99, [(66, .getfield 19, 3), (69, .bipush 60, 2), (71, .aload_n 0, 1), (72, .getfield 15, 3), (75, .sipush 160, 3), (78, .iload_n 1, 1), (79, .iadd, 1), (80, .iaload, 1), (81, .iadd, 1), (82, .iload_n 2, 1), (83, .iadd, 1), (84, .laload, 1), (85, .lneg, 1), (86, .lcmp, 1), (87, .ifCond .eq 5, 3), (90, .iconst 0, 1), (91, .ireturn, 1), (92, .iinc 2 1, 3), (95, .goto (-74), 3), (98, .iconst 1, 1)]), (100000, [(99, .ireturn, 1)])], [])
def mt_X11_read : zMt := (yX11_read, cX11_read, 2, (some .int), 11, 5, [(38, [(0, .aload_n 0, 1), (1, .invokevirtual 212, 3), (4, .aload_n 0, 1), (5, .getfield 186, 3), (8, .ifCond .lt 11, 3), (11, .bipush (-100), 2), (13, .aload_n 0, 1), (14, .getfield 186, 3), (17, .isub, 1), (18, .ireturn, 1), (19, .aload_n 0, 1), (20, .getfield 15, 3), (23, .iconst 3, 1), (24, .iaload, 1), (25, .ifCond .lt 6, 3), (28, .bipush (-3), 2), (30, .ireturn, 1), (31, .aload_n 0, 1), (32, .getfield 206, 3), (35, .ifCond .lt 39, 3)]), (79, [(38, .aload_n 0, 1), (39, .aload_n 0, 1), (40, .getfield 206, 3), (43, .invokevirtual 128, 3), (46, .ifCond .eq 25, 3), (49, .aload_n 0, 1), (50, .aload_n 0, 1), (51, .getfield 206, 3), (54, .invokevirtual 131, 3), (57, .ifCond .eq 14, 3), (60, .aload_n 0, 1), (61, .aload_n 0, 1), (62, .getfield 206, 3), (65, .invokevirtual 215, 3), (68, .ifCond .ne 6, 3), (71, .bipush (-3), 2), (73, .ireturn, 1), (74, .aload_n 0, 1), (75, .getfield 15, 3), (78, .iconst 1, 1)]), (118, [(79, .iaload, 1), (80, .bipush 60, 2), (82, .if_icmp .eq 12, 3), (85, .aload_n 0, 1), (86, .getfield 203, 3), (89, .bipush 10, 2), (91, .if_icmp .le 6, 3), (94, .bipush (-4), 2), (96, .ireturn, 1), (97, .aload_n 0, 1), (98, .getfield 206, 3), (101, .ifCond .lt 12, 3), (104, .aload_n 0, 1), (105, .aload_n 0, 1), (106, .getfield 206, 3), (109, .invokevirtual 134, 3), (112, .ireturn, 1), (113, .aload_n 0, 1), (114, .getfield 15, 3), (117, .iconst 3, 1)]), (152, [(118, .iconst 0, 1), (119, .iastore, 1), (120, .iconst 0, 1), (121, .istore_n 1, 1), (122, .iload_n 1, 1), (123, .aload_n 0, 1), (124, .getfield 203, 3), (127, .if_icmp .ge 25, 3), (130, .aload_n 0, 1), (131, .aload_n 0, 1), (132, .getfield 32, 3), (135, .iload_n 1, 1), (136, .iaload, 1), (137, .aload_n 0, 1), (138, .getfield 35, 3), (141, .iload_n 1, 1), (142, .laload, 1), (143, .invokevirtual 100, 3), (146, .iinc 1 1, 3), (149, .goto (-27), 3)]), (100000, [(152, .aload_n 0, 1), (153, .invokevirtual 218, 3), (156, .istore_n 1, 1), (157, .aload_n 0, 1), (158, .getfield 15, 3), (161, .iconst 3, 1), (162, .iconst (-1), 1), (163, .iastore, 1), (164, .iload_n 1, 1), (165, .ireturn, 1)])], [])
def mt_X11_put : zMt := (yX11_put, cX11_put, 2, none, 11, 0, [(100000, [(0, .aload_n 0, 1), (1, .getfield 38, 3), (4, .aload_n 0, 1), (5, .getfield 221, 3), (8, .iload_n 1, 1), (9, .iastore, 1), (10, .aload_n 0, 1), (11, .dup, 1), (12, .getfield 221, 3), (15, .iconst 1, 1), (16, .iadd, 1), (17, .putfield 221, 3), (20, .return_, 1)])], [])
def mt_X11_putNumber : zMt := (yX11_putNumber, cX11_putNumber, 7, none, 11, 1, [(31, [(0, .lload_n 1, 1), (1, .lstore_n 3, 1), (2, .lload_n 1, 1), (3, .lconst 0, 1), (4, .lcmp, 1), (5, .ifCond .ge 12, 3), (8, .aload_n 0, 1), (9, .bipush 45, 2), (11, .invokevirtual 224, 3), (14, .lload_n 1, 1), (15, .lneg, 1), (16, .lstore_n 3, 1), (17, .lconst 1, 1), (18, .lstore 5, 2), (20, .lload 5, 2), (22, .lload_n 3, 1), (23, .ldc2_w 227, 3), (26, .ldiv, 1), (27, .lcmp, 1), (28, .ifCond .gt 14, 3)]), (67, [(31, .lload 5, 2), (33, .ldc2_w 227, 3), (36, .lmul, 1), (37, .lstore 5, 2), (39, .goto (-19), 3), (42, .lload 5, 2), (44, .lconst 0, 1), (45, .lcmp, 1), (46, .ifCond .le 30, 3), (49, .aload_n 0, 1), (50, .bipush 48, 2), (52, .lload_n 3, 1), (53, .lload 5, 2), (55, .ldiv, 1), (56, .ldc2_w 227, 3), (59, .lrem, 1), (60, .l2i, 1), (61, .iadd, 1), (62, .invokevirtual 224, 3), (65, .lload 5, 2)]), (100000, [(67, .ldc2_w 227, 3), (70, .ldiv, 1), (71, .lstore 5, 2), (73, .goto (-31), 3), (76, .return_, 1)])], [])
def mt_X11_spell : zMt := (yX11_spell, cX11_spell, 4, (some .int), 11, 2, [(32, [(0, .aload_n 0, 1), (1, .iload_n 1, 1), (2, .invokevirtual 128, 3), (5, .ifCond .ne 5, 3), (8, .iconst (-1), 1), (9, .ireturn, 1), (10, .aload_n 0, 1), (11, .iconst 0, 1), (12, .putfield 221, 3), (15, .iconst 0, 1), (16, .istore_n 2, 1), (17, .iload_n 2, 1), (18, .aload_n 0, 1), (19, .getfield 15, 3), (22, .sipush 220, 3), (25, .iload_n 1, 1), (26, .iadd, 1), (27, .iaload, 1), (28, .if_icmp .ge 66, 3), (31, .aload_n 0, 1)]), (65, [(32, .getfield 15, 3), (35, .sipush 160, 3), (38, .iload_n 1, 1), (39, .iadd, 1), (40, .iaload, 1), (41, .iload_n 2, 1), (42, .iadd, 1), (43, .istore_n 3, 1), (44, .iload_n 2, 1), (45, .ifCond .le 9, 3), (48, .aload_n 0, 1), (49, .bipush 59, 2), (51, .invokevirtual 224, 3), (54, .aload_n 0, 1), (55, .aload_n 0, 1), (56, .getfield 15, 3), (59, .sipush 400, 3), (62, .iload_n 3, 1), (63, .iadd, 1), (64, .iaload, 1)]), (103, [(65, .i2l, 1), (66, .invokevirtual 229, 3), (69, .aload_n 0, 1), (70, .bipush 32, 2), (72, .invokevirtual 224, 3), (75, .aload_n 0, 1), (76, .aload_n 0, 1), (77, .getfield 19, 3), (80, .bipush 60, 2), (82, .iload_n 3, 1), (83, .iadd, 1), (84, .laload, 1), (85, .invokevirtual 229, 3), (88, .iinc 2 1, 3), (91, .goto (-74), 3), (94, .aload_n 0, 1), (95, .getfield 15, 3), (98, .sipush 280, 3), (101, .iload_n 1, 1), (102, .iadd, 1)]), (141, [(103, .iaload, 1), (104, .ifCond .lt 42, 3), (107, .aload_n 0, 1), (108, .bipush 32, 2), (110, .invokevirtual 224, 3), (113, .aload_n 0, 1), (114, .bipush 82, 2), (116, .invokevirtual 224, 3), (119, .aload_n 0, 1), (120, .bipush 69, 2), (122, .invokevirtual 224, 3), (125, .aload_n 0, 1), (126, .bipush 86, 2), (128, .invokevirtual 224, 3), (131, .aload_n 0, 1), (132, .aload_n 0, 1), (133, .getfield 15, 3), (136, .sipush 280, 3), (139, .iload_n 1, 1), (140, .iadd, 1)]), (100000, [(141, .iaload, 1), (142, .i2l, 1), (143, .invokevirtual 229, 3), (146, .aload_n 0, 1), (147, .getfield 221, 3), (150, .ireturn, 1)])], [(17, [3])])
def mt_X11_paper : zMt := (yX11_paper, cX11_paper, 2, (some .int), 11, 1, [(100000, [(0, .iload_n 1, 1), (1, .iconst 0, 1), (2, .aload_n 0, 1), (3, .getfield 221, 3), (6, .iconst 1, 1), (7, .isub, 1), (8, .invokestatic 55, 3), (11, .ifCond .eq 12, 3), (14, .aload_n 0, 1), (15, .getfield 38, 3), (18, .iload_n 1, 1), (19, .iaload, 1), (20, .goto 4, 3), (23, .iconst (-1), 1), (24, .ireturn, 1)])], [])
def mt_X11_told : zMt := (yX11_told, cX11_told, 4, (some .int), 11, 0, [(77, [(0, .iconst 0, 1), (1, .istore_n 2, 1), (2, .iload_n 1, 1), (3, .tableswitch 152 0 8 #[49, 56, 63, 84, 91, 98, 103, 108, 116], 49), (52, .aload_n 0, 1), (53, .getfield 15, 3), (56, .iconst 0, 1), (57, .iaload, 1), (58, .ireturn, 1), (59, .aload_n 0, 1), (60, .getfield 15, 3), (63, .iconst 1, 1), (64, .iaload, 1), (65, .ireturn, 1), (66, .aload_n 0, 1), (67, .getfield 15, 3), (70, .iconst 3, 1), (71, .iaload, 1), (72, .ifCond .ge 8, 3), (75, .bipush (-5), 2)]), (107, [(77, .goto 9, 3), (80, .aload_n 0, 1), (81, .getfield 15, 3), (84, .iconst 3, 1), (85, .iaload, 1), (86, .ireturn, 1), (87, .aload_n 0, 1), (88, .getfield 15, 3), (91, .iconst 4, 1), (92, .iaload, 1), (93, .ireturn, 1), (94, .aload_n 0, 1), (95, .getfield 15, 3), (98, .iconst 5, 1), (99, .iaload, 1), (100, .ireturn, 1), (101, .aload_n 0, 1), (102, .getfield 180, 3), (105, .ireturn, 1), (106, .aload_n 0, 1)]), (140, [(107, .getfield 221, 3), (110, .ireturn, 1), (111, .aload_n 0, 1), (112, .getfield 15, 3), (115, .bipush 6, 2), (117, .iaload, 1), (118, .ireturn, 1), (119, .iconst 0, 1), (120, .istore_n 3, 1), (121, .iload_n 3, 1), (122, .aload_n 0, 1), (123, .getfield 15, 3), (126, .iconst 1, 1), (127, .iaload, 1), (128, .if_icmp .ge 25, 3), (131, .aload_n 0, 1), (132, .getfield 15, 3), (135, .sipush 280, 3), (138, .iload_n 3, 1), (139, .iadd, 1)]), (100000, [(140, .iaload, 1), (141, .ifCond .lt 6, 3), (144, .iinc 2 1, 3), (147, .iinc 3 1, 3), (150, .goto (-29), 3), (153, .iload_n 2, 1), (154, .ireturn, 1), (155, .iconst (-1), 1), (156, .ireturn, 1)])], [])
def mt_X11_isList : zMt := (yX11_isList, cX11_isList, 1, (some .boolean), 11, 1, [(100000, [(0, .iload_n 0, 1), (1, .iconst 0, 1), (2, .iconst 3, 1), (3, .invokestatic 55, 3), (6, .ireturn, 1)])], [])
def mt_X11_list : zMt := (yX11_list, cX11_list, 4, (some .int), 11, 2, [(33, [(0, .iload_n 1, 1), (1, .invokestatic 233, 3), (4, .ifCond .ne 5, 3), (7, .iconst (-1), 1), (8, .ireturn, 1), (9, .iload_n 2, 1), (10, .bipush 40, 2), (12, .if_icmp .le 6, 3), (15, .bipush (-2), 2), (17, .ireturn, 1), (18, .iload_n 2, 1), (19, .ifCond .ge 6, 3), (22, .bipush (-14), 2), (24, .ireturn, 1), (25, .aload_n 0, 1), (26, .getfield 41, 3), (29, .iload_n 1, 1), (30, .iconst 1, 1), (31, .bastore, 1), (32, .aload_n 0, 1)]), (65, [(33, .getfield 45, 3), (36, .iload_n 1, 1), (37, .iload_n 2, 1), (38, .iastore, 1), (39, .iconst 0, 1), (40, .istore_n 3, 1), (41, .iload_n 3, 1), (42, .bipush 40, 2), (44, .if_icmp .ge 21, 3), (47, .aload_n 0, 1), (48, .getfield 48, 3), (51, .bipush 40, 2), (53, .iload_n 1, 1), (54, .imul, 1), (55, .iload_n 3, 1), (56, .iadd, 1), (57, .lconst 0, 1), (58, .lastore, 1), (59, .iinc 3 1, 3), (62, .goto (-21), 3)]), (100000, [(65, .iconst 1, 1), (66, .ireturn, 1)])], [])
def mt_X11_set : zMt := (yX11_set, cX11_set, 5, (some .int), 11, 2, [(31, [(0, .iload_n 1, 1), (1, .invokestatic 233, 3), (4, .ifCond .ne 5, 3), (7, .iconst (-1), 1), (8, .ireturn, 1), (9, .aload_n 0, 1), (10, .getfield 41, 3), (13, .iload_n 1, 1), (14, .baload, 1), (15, .ifCond .ne 6, 3), (18, .bipush (-11), 2), (20, .ireturn, 1), (21, .iload_n 2, 1), (22, .iconst 0, 1), (23, .aload_n 0, 1), (24, .getfield 45, 3), (27, .iload_n 1, 1), (28, .iaload, 1), (29, .iconst 1, 1), (30, .isub, 1)]), (100000, [(31, .invokestatic 55, 3), (34, .ifCond .ne 6, 3), (37, .bipush (-13), 2), (39, .ireturn, 1), (40, .aload_n 0, 1), (41, .getfield 48, 3), (44, .bipush 40, 2), (46, .iload_n 1, 1), (47, .imul, 1), (48, .iload_n 2, 1), (49, .iadd, 1), (50, .lload_n 3, 1), (51, .lastore, 1), (52, .iconst 1, 1), (53, .ireturn, 1)])], [])
def mt_X11_get : zMt := (yX11_get, cX11_get, 3, (some .long), 11, 2, [(36, [(0, .iload_n 1, 1), (1, .invokestatic 233, 3), (4, .ifCond .eq 42, 3), (7, .aload_n 0, 1), (8, .getfield 41, 3), (11, .iload_n 1, 1), (12, .baload, 1), (13, .ifCond .eq 33, 3), (16, .iload_n 2, 1), (17, .iconst 0, 1), (18, .aload_n 0, 1), (19, .getfield 45, 3), (22, .iload_n 1, 1), (23, .iaload, 1), (24, .iconst 1, 1), (25, .isub, 1), (26, .invokestatic 55, 3), (29, .ifCond .eq 17, 3), (32, .aload_n 0, 1), (33, .getfield 48, 3)]), (100000, [(36, .bipush 40, 2), (38, .iload_n 1, 1), (39, .imul, 1), (40, .iload_n 2, 1), (41, .iadd, 1), (42, .laload, 1), (43, .goto 6, 3), (46, .ldc2_w 59, 3), (49, .lreturn, 1)])], [])
def mt_X11_lay : zMt := (yX11_lay, cX11_lay, 4, (some .int), 11, 2, [(32, [(0, .iload_n 1, 1), (1, .invokestatic 233, 3), (4, .ifCond .ne 5, 3), (7, .iconst (-1), 1), (8, .ireturn, 1), (9, .aload_n 0, 1), (10, .getfield 41, 3), (13, .iload_n 1, 1), (14, .baload, 1), (15, .ifCond .ne 6, 3), (18, .bipush (-11), 2), (20, .ireturn, 1), (21, .iload_n 2, 1), (22, .ifCond .ge 6, 3), (25, .bipush (-13), 2), (27, .ireturn, 1), (28, .iconst 0, 1), (29, .istore_n 3, 1), (30, .iload_n 3, 1), (31, .aload_n 0, 1)]), (64, [(32, .getfield 15, 3), (35, .iconst 0, 1), (36, .iaload, 1), (37, .if_icmp .ge 45, 3), (40, .iload_n 2, 1), (41, .aload_n 0, 1), (42, .getfield 45, 3), (45, .iload_n 1, 1), (46, .iaload, 1), (47, .iload_n 3, 1), (48, .isub, 1), (49, .if_icmp .lt 6, 3), (52, .bipush (-13), 2), (54, .ireturn, 1), (55, .aload_n 0, 1), (56, .getfield 48, 3), (59, .bipush 40, 2), (61, .iload_n 1, 1), (62, .imul, 1), (63, .iload_n 2, 1)]), (100000, [(64, .iadd, 1), (65, .iload_n 3, 1), (66, .iadd, 1), (67, .aload_n 0, 1), (68, .iload_n 3, 1), (69, .sipush 999, 3), (72, .invokevirtual 81, 3), (75, .lastore, 1), (76, .iinc 3 1, 3), (79, .goto (-49), 3), (82, .aload_n 0, 1), (83, .getfield 15, 3), (86, .iconst 0, 1), (87, .iaload, 1), (88, .ireturn, 1)])], [])
def mt_X11_judge : zMt := (yX11_judge, cX11_judge, 4, (some .int), 11, 2, [(33, [(0, .iload_n 1, 1), (1, .invokestatic 233, 3), (4, .ifCond .ne 5, 3), (7, .iconst (-1), 1), (8, .ireturn, 1), (9, .aload_n 0, 1), (10, .getfield 41, 3), (13, .iload_n 1, 1), (14, .baload, 1), (15, .ifCond .ne 6, 3), (18, .bipush (-11), 2), (20, .ireturn, 1), (21, .iconst 0, 1), (22, .istore_n 3, 1), (23, .iload_n 3, 1), (24, .aload_n 0, 1), (25, .getfield 15, 3), (28, .iconst 0, 1), (29, .iaload, 1), (30, .if_icmp .ge 57, 3)]), (63, [(33, .iload_n 2, 1), (34, .ifCond .lt 15, 3), (37, .iload_n 2, 1), (38, .aload_n 0, 1), (39, .getfield 45, 3), (42, .iload_n 1, 1), (43, .iaload, 1), (44, .iload_n 3, 1), (45, .isub, 1), (46, .if_icmp .lt 8, 3), (49, .bipush 100, 2), (51, .iload_n 3, 1), (52, .iadd, 1), (53, .ireturn, 1), (54, .aload_n 0, 1), (55, .getfield 48, 3), (58, .bipush 40, 2), (60, .iload_n 1, 1), (61, .imul, 1), (62, .iload_n 2, 1)]), (100000, [(63, .iadd, 1), (64, .iload_n 3, 1), (65, .iadd, 1), (66, .laload, 1), (67, .aload_n 0, 1), (68, .iload_n 3, 1), (69, .sipush 999, 3), (72, .invokevirtual 81, 3), (75, .lcmp, 1), (76, .ifCond .eq 5, 3), (79, .iload_n 3, 1), (80, .ireturn, 1), (81, .iinc 3 1, 3), (84, .goto (-61), 3), (87, .bipush (-5), 2), (89, .ireturn, 1)])], [])
def mt_X11_copy : zMt := (yX11_copy, cX11_copy, 3, none, 11, 0, [(34, [(0, .iconst 0, 1), (1, .istore_n 2, 1), (2, .iload_n 2, 1), (3, .sipush 1280, 3), (6, .if_icmp .ge 40, 3), (9, .iload_n 1, 1), (10, .ifCond .eq 18, 3), (13, .aload_n 0, 1), (14, .getfield 15, 3), (17, .iload_n 2, 1), (18, .aload_n 0, 1), (19, .getfield 23, 3), (22, .iload_n 2, 1), (23, .iaload, 1), (24, .iastore, 1), (25, .goto 15, 3), (28, .aload_n 0, 1), (29, .getfield 23, 3), (32, .iload_n 2, 1), (33, .aload_n 0, 1)]), (70, [(34, .getfield 15, 3), (37, .iload_n 2, 1), (38, .iaload, 1), (39, .iastore, 1), (40, .iinc 2 1, 3), (43, .goto (-41), 3), (46, .iconst 0, 1), (47, .istore_n 2, 1), (48, .iload_n 2, 1), (49, .sipush 1000, 3), (52, .if_icmp .ge 40, 3), (55, .iload_n 1, 1), (56, .ifCond .eq 18, 3), (59, .aload_n 0, 1), (60, .getfield 19, 3), (63, .iload_n 2, 1), (64, .aload_n 0, 1), (65, .getfield 26, 3), (68, .iload_n 2, 1), (69, .laload, 1)]), (100000, [(70, .lastore, 1), (71, .goto 15, 3), (74, .aload_n 0, 1), (75, .getfield 26, 3), (78, .iload_n 2, 1), (79, .aload_n 0, 1), (80, .getfield 19, 3), (83, .iload_n 2, 1), (84, .laload, 1), (85, .lastore, 1), (86, .iinc 2 1, 3), (89, .goto (-41), 3), (92, .return_, 1)])], [])
def mt_X11_image : zMt := (yX11_image, cX11_image, 1, (some .int), 11, 1, [(100000, [(0, .aload_n 0, 1), (1, .iconst 1, 1), (2, .putfield 236, 3), (5, .aload_n 0, 1), (6, .iconst 0, 1), (7, .invokevirtual 240, 3), (10, .aload_n 0, 1), (11, .getfield 15, 3), (14, .iconst 1, 1), (15, .iaload, 1), (16, .ireturn, 1)])], [])
def mt_X11_undo : zMt := (yX11_undo, cX11_undo, 1, (some .int), 11, 1, [(100000, [(0, .aload_n 0, 1), (1, .getfield 236, 3), (4, .ifCond .ne 6, 3), (7, .bipush (-3), 2), (9, .ireturn, 1), (10, .aload_n 0, 1), (11, .iconst 1, 1), (12, .invokevirtual 240, 3), (15, .aload_n 0, 1), (16, .getfield 15, 3), (19, .iconst 1, 1), (20, .iaload, 1), (21, .ireturn, 1)])], [])
def mt_Jxe99ae_isNaN_b9ae7 : zMt := (yJxe99ae_isNaN_b9ae7, cJxe99ae_isNaN_b9ae7, 2, (some .boolean), 13, 0, [(100000, [(0, .dload_n 0, 1), (1, .dload_n 0, 1), (2, .dcmp .l, 1), (3, .ifCond .eq 7, 3), (6, .iconst 1, 1), (7, .goto 4, 3), (10, .iconst 0, 1), (11, .ireturn, 1)])], [])
def mt_Jxe99ae_doubleToLongBits_ccdee : zMt := (yJxe99ae_doubleToLongBits_ccdee, cJxe99ae_doubleToLongBits_ccdee, 2, (some .long), 13, 1, [(100000, [(0, .dload_n 0, 1), (1, .invokestatic 122, 3), (4, .ifCond .ne 8, 3), (7, .dload_n 0, 1), (8, .invokestatic 134, 3), (11, .lreturn, 1), (12, .ldc2_w 137, 3), (15, .lreturn, 1)])], [])
def mt_Jxf58ca_isNaN_12338 : zMt := (yJxf58ca_isNaN_12338, cJxf58ca_isNaN_12338, 1, (some .boolean), 14, 0, [(100000, [(0, .fload_n 0, 1), (1, .fload_n 0, 1), (2, .fcmp .l, 1), (3, .ifCond .eq 7, 3), (6, .iconst 1, 1), (7, .goto 4, 3), (10, .iconst 0, 1), (11, .ireturn, 1)])], [])
def mt_Jxf58ca_floatToIntBits_5c35a : zMt := (yJxf58ca_floatToIntBits_5c35a, cJxf58ca_floatToIntBits_5c35a, 1, (some .int), 14, 1, [(100000, [(0, .fload_n 0, 1), (1, .invokestatic 59, 3), (4, .ifCond .ne 8, 3), (7, .fload_n 0, 1), (8, .invokestatic 74, 3), (11, .ireturn, 1), (12, .ldc 77, 2), (14, .ireturn, 1)])], [])
def mt_J9_abs_0f7a4 : zMt := (yJ9_abs_0f7a4, cJ9_abs_0f7a4, 1, (some .int), 15, 0, [(100000, [(0, .iload_n 0, 1), (1, .ifCond .ge 8, 3), (4, .iload_n 0, 1), (5, .ineg, 1), (6, .goto 4, 3), (9, .iload_n 0, 1), (10, .ireturn, 1)])], [])
def mt_J9_abs_067f4 : zMt := (yJ9_abs_067f4, cJ9_abs_067f4, 2, (some .long), 15, 0, [(100000, [(0, .lload_n 0, 1), (1, .lconst 0, 1), (2, .lcmp, 1), (3, .ifCond .ge 8, 3), (6, .lload_n 0, 1), (7, .lneg, 1), (8, .goto 4, 3), (11, .lload_n 0, 1), (12, .lreturn, 1)])], [])
def mt_J9_max_f86c9 : zMt := (yJ9_max_f86c9, cJ9_max_f86c9, 4, (some .long), 15, 0, [(100000, [(0, .lload_n 0, 1), (1, .lload_n 2, 1), (2, .lcmp, 1), (3, .ifCond .lt 7, 3), (6, .lload_n 0, 1), (7, .goto 4, 3), (10, .lload_n 2, 1), (11, .lreturn, 1)])], [])
def mt_J9_min_f86c9 : zMt := (yJ9_min_f86c9, cJ9_min_f86c9, 4, (some .long), 15, 0, [(100000, [(0, .lload_n 0, 1), (1, .lload_n 2, 1), (2, .lcmp, 1), (3, .ifCond .gt 7, 3), (6, .lload_n 0, 1), (7, .goto 4, 3), (10, .lload_n 2, 1), (11, .lreturn, 1)])], [])
def lawc_0 : List (Nat × Instr × Nat) := [(0, .new 7, 3), (3, .dup, 1), (4, .invokespecial 9, 3), (7, .astore_n 1, 1), (8, .new 10, 3), (11, .dup, 1), (12, .invokespecial 12, 3), (15, .astore_n 2, 1), (16, .iconst 0, 1), (17, .istore_n 3, 1), (18, .iload_n 3, 1), (19, .aload_n 0, 1), (20, .arraylength, 1), (21, .bipush 6, 2), (23, .isub, 1), (24, .if_icmp .gt 1665, 3), (27, .aload_n 0, 1), (28, .iload_n 3, 1), (29, .iaload, 1), (30, .bipush 63, 2)]
def lawc_1 : List (Nat × Instr × Nat) := [(32, .iand, 1), (33, .tableswitch 1650 0 41 #[183, 226, 259, 362, 385, 398, 461, 474, 487, 510, 543, 587, 620, 654, 698, 721, 745, 758, 811, 854, 898, 941, 1005, 1049, 1093, 1127, 1200, 1234, 1267, 1300, 1323, 1336, 1349, 1372, 1395, 1418, 1451, 1524, 1558, 1591, 1624, 1637], 183), (216, .aload_n 1, 1), (217, .aload_n 0, 1), (218, .iload_n 3, 1), (219, .iconst 1, 1), (220, .iadd, 1), (221, .iaload, 1), (222, .aload_n 0, 1), (223, .iload_n 3, 1), (224, .iconst 2, 1), (225, .iadd, 1), (226, .iaload, 1), (227, .aload_n 0, 1), (228, .iload_n 3, 1), (229, .iconst 3, 1), (230, .iadd, 1), (231, .iaload, 1), (232, .invokevirtual 13, 3), (235, .aload_n 2, 1)]
def lawc_2 : List (Nat × Instr × Nat) := [(236, .aload_n 0, 1), (237, .iload_n 3, 1), (238, .iconst 1, 1), (239, .iadd, 1), (240, .iaload, 1), (241, .aload_n 0, 1), (242, .iload_n 3, 1), (243, .iconst 2, 1), (244, .iadd, 1), (245, .iaload, 1), (246, .aload_n 0, 1), (247, .iload_n 3, 1), (248, .iconst 3, 1), (249, .iadd, 1), (250, .iaload, 1), (251, .invokevirtual 17, 3), (254, .if_icmp .eq 1429, 3), (257, .iconst 0, 1), (258, .ireturn, 1), (259, .aload_n 1, 1)]
def lawc_3 : List (Nat × Instr × Nat) := [(260, .aload_n 0, 1), (261, .iload_n 3, 1), (262, .iconst 1, 1), (263, .iadd, 1), (264, .iaload, 1), (265, .aload_n 0, 1), (266, .iload_n 3, 1), (267, .iconst 2, 1), (268, .iadd, 1), (269, .iaload, 1), (270, .invokevirtual 18, 3), (273, .aload_n 2, 1), (274, .aload_n 0, 1), (275, .iload_n 3, 1), (276, .iconst 1, 1), (277, .iadd, 1), (278, .iaload, 1), (279, .aload_n 0, 1), (280, .iload_n 3, 1), (281, .iconst 2, 1)]
def lawc_4 : List (Nat × Instr × Nat) := [(282, .iadd, 1), (283, .iaload, 1), (284, .invokevirtual 22, 3), (287, .if_icmp .eq 1396, 3), (290, .iconst 0, 1), (291, .ireturn, 1), (292, .aload_n 1, 1), (293, .aload_n 0, 1), (294, .iload_n 3, 1), (295, .iconst 1, 1), (296, .iadd, 1), (297, .iaload, 1), (298, .aload_n 0, 1), (299, .iload_n 3, 1), (300, .iconst 2, 1), (301, .iadd, 1), (302, .iaload, 1), (303, .i2l, 1), (304, .bipush 32, 2), (306, .lshl, 1)]
def lawc_5 : List (Nat × Instr × Nat) := [(307, .aload_n 0, 1), (308, .iload_n 3, 1), (309, .iconst 3, 1), (310, .iadd, 1), (311, .iaload, 1), (312, .i2l, 1), (313, .ldc2_w 23, 3), (316, .land, 1), (317, .lor, 1), (318, .aload_n 0, 1), (319, .iload_n 3, 1), (320, .iconst 4, 1), (321, .iadd, 1), (322, .iaload, 1), (323, .i2l, 1), (324, .bipush 32, 2), (326, .lshl, 1), (327, .aload_n 0, 1), (328, .iload_n 3, 1), (329, .iconst 5, 1)]
def lawc_6 : List (Nat × Instr × Nat) := [(330, .iadd, 1), (331, .iaload, 1), (332, .i2l, 1), (333, .ldc2_w 23, 3), (336, .land, 1), (337, .lor, 1), (338, .invokevirtual 25, 3), (341, .aload_n 2, 1), (342, .aload_n 0, 1), (343, .iload_n 3, 1), (344, .iconst 1, 1), (345, .iadd, 1), (346, .iaload, 1), (347, .aload_n 0, 1), (348, .iload_n 3, 1), (349, .iconst 2, 1), (350, .iadd, 1), (351, .iaload, 1), (352, .i2l, 1), (353, .bipush 32, 2)]
def lawc_7 : List (Nat × Instr × Nat) := [(355, .lshl, 1), (356, .aload_n 0, 1), (357, .iload_n 3, 1), (358, .iconst 3, 1), (359, .iadd, 1), (360, .iaload, 1), (361, .i2l, 1), (362, .ldc2_w 23, 3), (365, .land, 1), (366, .lor, 1), (367, .aload_n 0, 1), (368, .iload_n 3, 1), (369, .iconst 4, 1), (370, .iadd, 1), (371, .iaload, 1), (372, .i2l, 1), (373, .bipush 32, 2), (375, .lshl, 1), (376, .aload_n 0, 1), (377, .iload_n 3, 1)]
def lawc_8 : List (Nat × Instr × Nat) := [(378, .iconst 5, 1), (379, .iadd, 1), (380, .iaload, 1), (381, .i2l, 1), (382, .ldc2_w 23, 3), (385, .land, 1), (386, .lor, 1), (387, .invokevirtual 29, 3), (390, .if_icmp .eq 1293, 3), (393, .iconst 0, 1), (394, .ireturn, 1), (395, .aload_n 1, 1), (396, .aload_n 0, 1), (397, .iload_n 3, 1), (398, .iconst 1, 1), (399, .iadd, 1), (400, .iaload, 1), (401, .invokevirtual 30, 3), (404, .aload_n 2, 1), (405, .aload_n 0, 1)]
def lawc_9 : List (Nat × Instr × Nat) := [(406, .iload_n 3, 1), (407, .iconst 1, 1), (408, .iadd, 1), (409, .iaload, 1), (410, .invokevirtual 34, 3), (413, .if_icmp .eq 1270, 3), (416, .iconst 0, 1), (417, .ireturn, 1), (418, .aload_n 1, 1), (419, .invokevirtual 35, 3), (422, .aload_n 2, 1), (423, .invokevirtual 39, 3), (426, .if_icmp .eq 1257, 3), (429, .iconst 0, 1), (430, .ireturn, 1), (431, .aload_n 1, 1), (432, .aload_n 0, 1), (433, .iload_n 3, 1), (434, .iconst 1, 1), (435, .iadd, 1)]
def lawc_10 : List (Nat × Instr × Nat) := [(436, .iaload, 1), (437, .aload_n 0, 1), (438, .iload_n 3, 1), (439, .iconst 2, 1), (440, .iadd, 1), (441, .iaload, 1), (442, .i2l, 1), (443, .bipush 32, 2), (445, .lshl, 1), (446, .aload_n 0, 1), (447, .iload_n 3, 1), (448, .iconst 3, 1), (449, .iadd, 1), (450, .iaload, 1), (451, .i2l, 1), (452, .ldc2_w 23, 3), (455, .land, 1), (456, .lor, 1), (457, .invokevirtual 40, 3), (460, .aload_n 2, 1)]
def lawc_11 : List (Nat × Instr × Nat) := [(461, .aload_n 0, 1), (462, .iload_n 3, 1), (463, .iconst 1, 1), (464, .iadd, 1), (465, .iaload, 1), (466, .aload_n 0, 1), (467, .iload_n 3, 1), (468, .iconst 2, 1), (469, .iadd, 1), (470, .iaload, 1), (471, .i2l, 1), (472, .bipush 32, 2), (474, .lshl, 1), (475, .aload_n 0, 1), (476, .iload_n 3, 1), (477, .iconst 3, 1), (478, .iadd, 1), (479, .iaload, 1), (480, .i2l, 1), (481, .ldc2_w 23, 3)]
def lawc_12 : List (Nat × Instr × Nat) := [(484, .land, 1), (485, .lor, 1), (486, .invokevirtual 44, 3), (489, .if_icmp .eq 1194, 3), (492, .iconst 0, 1), (493, .ireturn, 1), (494, .aload_n 1, 1), (495, .invokevirtual 45, 3), (498, .aload_n 2, 1), (499, .invokevirtual 48, 3), (502, .if_icmp .eq 1181, 3), (505, .iconst 0, 1), (506, .ireturn, 1), (507, .aload_n 1, 1), (508, .invokevirtual 49, 3), (511, .aload_n 2, 1), (512, .invokevirtual 52, 3), (515, .if_icmp .eq 1168, 3), (518, .iconst 0, 1), (519, .ireturn, 1)]
def lawc_13 : List (Nat × Instr × Nat) := [(520, .aload_n 1, 1), (521, .aload_n 0, 1), (522, .iload_n 3, 1), (523, .iconst 1, 1), (524, .iadd, 1), (525, .iaload, 1), (526, .invokevirtual 53, 3), (529, .aload_n 2, 1), (530, .aload_n 0, 1), (531, .iload_n 3, 1), (532, .iconst 1, 1), (533, .iadd, 1), (534, .iaload, 1), (535, .invokevirtual 56, 3), (538, .if_icmp .eq 1145, 3), (541, .iconst 0, 1), (542, .ireturn, 1), (543, .aload_n 1, 1), (544, .aload_n 0, 1), (545, .iload_n 3, 1)]
def lawc_14 : List (Nat × Instr × Nat) := [(546, .iconst 1, 1), (547, .iadd, 1), (548, .iaload, 1), (549, .aload_n 0, 1), (550, .iload_n 3, 1), (551, .iconst 2, 1), (552, .iadd, 1), (553, .iaload, 1), (554, .invokevirtual 57, 3), (557, .aload_n 2, 1), (558, .aload_n 0, 1), (559, .iload_n 3, 1), (560, .iconst 1, 1), (561, .iadd, 1), (562, .iaload, 1), (563, .aload_n 0, 1), (564, .iload_n 3, 1), (565, .iconst 2, 1), (566, .iadd, 1), (567, .iaload, 1)]
def lawc_15 : List (Nat × Instr × Nat) := [(568, .invokevirtual 60, 3), (571, .if_icmp .eq 1112, 3), (574, .iconst 0, 1), (575, .ireturn, 1), (576, .aload_n 1, 1), (577, .aload_n 0, 1), (578, .iload_n 3, 1), (579, .iconst 1, 1), (580, .iadd, 1), (581, .iaload, 1), (582, .aload_n 0, 1), (583, .iload_n 3, 1), (584, .iconst 2, 1), (585, .iadd, 1), (586, .iaload, 1), (587, .aload_n 0, 1), (588, .iload_n 3, 1), (589, .iconst 3, 1), (590, .iadd, 1), (591, .iaload, 1)]
def lawc_16 : List (Nat × Instr × Nat) := [(592, .invokevirtual 61, 3), (595, .aload_n 2, 1), (596, .aload_n 0, 1), (597, .iload_n 3, 1), (598, .iconst 1, 1), (599, .iadd, 1), (600, .iaload, 1), (601, .aload_n 0, 1), (602, .iload_n 3, 1), (603, .iconst 2, 1), (604, .iadd, 1), (605, .iaload, 1), (606, .aload_n 0, 1), (607, .iload_n 3, 1), (608, .iconst 3, 1), (609, .iadd, 1), (610, .iaload, 1), (611, .invokevirtual 65, 3), (614, .lcmp, 1), (615, .ifCond .eq 1068, 3)]
def lawc_17 : List (Nat × Instr × Nat) := [(618, .iconst 0, 1), (619, .ireturn, 1), (620, .aload_n 1, 1), (621, .aload_n 0, 1), (622, .iload_n 3, 1), (623, .iconst 1, 1), (624, .iadd, 1), (625, .iaload, 1), (626, .aload_n 0, 1), (627, .iload_n 3, 1), (628, .iconst 2, 1), (629, .iadd, 1), (630, .iaload, 1), (631, .invokevirtual 66, 3), (634, .aload_n 2, 1), (635, .aload_n 0, 1), (636, .iload_n 3, 1), (637, .iconst 1, 1), (638, .iadd, 1), (639, .iaload, 1)]
def lawc_18 : List (Nat × Instr × Nat) := [(640, .aload_n 0, 1), (641, .iload_n 3, 1), (642, .iconst 2, 1), (643, .iadd, 1), (644, .iaload, 1), (645, .invokevirtual 69, 3), (648, .if_icmp .eq 1035, 3), (651, .iconst 0, 1), (652, .ireturn, 1), (653, .aload_n 1, 1), (654, .aload_n 0, 1), (655, .iload_n 3, 1), (656, .iconst 1, 1), (657, .iadd, 1), (658, .iaload, 1), (659, .aload_n 0, 1), (660, .iload_n 3, 1), (661, .iconst 2, 1), (662, .iadd, 1), (663, .iaload, 1)]
def lawc_19 : List (Nat × Instr × Nat) := [(664, .invokevirtual 70, 3), (667, .aload_n 2, 1), (668, .aload_n 0, 1), (669, .iload_n 3, 1), (670, .iconst 1, 1), (671, .iadd, 1), (672, .iaload, 1), (673, .aload_n 0, 1), (674, .iload_n 3, 1), (675, .iconst 2, 1), (676, .iadd, 1), (677, .iaload, 1), (678, .invokevirtual 74, 3), (681, .lcmp, 1), (682, .ifCond .eq 1001, 3), (685, .iconst 0, 1), (686, .ireturn, 1), (687, .aload_n 1, 1), (688, .aload_n 0, 1), (689, .iload_n 3, 1)]
def lawc_20 : List (Nat × Instr × Nat) := [(690, .iconst 1, 1), (691, .iadd, 1), (692, .iaload, 1), (693, .aload_n 0, 1), (694, .iload_n 3, 1), (695, .iconst 2, 1), (696, .iadd, 1), (697, .iaload, 1), (698, .aload_n 0, 1), (699, .iload_n 3, 1), (700, .iconst 3, 1), (701, .iadd, 1), (702, .iaload, 1), (703, .invokevirtual 75, 3), (706, .aload_n 2, 1), (707, .aload_n 0, 1), (708, .iload_n 3, 1), (709, .iconst 1, 1), (710, .iadd, 1), (711, .iaload, 1)]
def lawc_21 : List (Nat × Instr × Nat) := [(712, .aload_n 0, 1), (713, .iload_n 3, 1), (714, .iconst 2, 1), (715, .iadd, 1), (716, .iaload, 1), (717, .aload_n 0, 1), (718, .iload_n 3, 1), (719, .iconst 3, 1), (720, .iadd, 1), (721, .iaload, 1), (722, .invokevirtual 78, 3), (725, .lcmp, 1), (726, .ifCond .eq 957, 3), (729, .iconst 0, 1), (730, .ireturn, 1), (731, .aload_n 1, 1), (732, .aload_n 0, 1), (733, .iload_n 3, 1), (734, .iconst 1, 1), (735, .iadd, 1)]
def lawc_22 : List (Nat × Instr × Nat) := [(736, .iaload, 1), (737, .invokevirtual 79, 3), (740, .aload_n 2, 1), (741, .aload_n 0, 1), (742, .iload_n 3, 1), (743, .iconst 1, 1), (744, .iadd, 1), (745, .iaload, 1), (746, .invokevirtual 82, 3), (749, .if_icmp .eq 934, 3), (752, .iconst 0, 1), (753, .ireturn, 1), (754, .aload_n 1, 1), (755, .aload_n 0, 1), (756, .iload_n 3, 1), (757, .iconst 1, 1), (758, .iadd, 1), (759, .iaload, 1), (760, .invokevirtual 83, 3), (763, .aload_n 2, 1)]
def lawc_23 : List (Nat × Instr × Nat) := [(764, .aload_n 0, 1), (765, .iload_n 3, 1), (766, .iconst 1, 1), (767, .iadd, 1), (768, .iaload, 1), (769, .invokevirtual 87, 3), (772, .lcmp, 1), (773, .ifCond .eq 910, 3), (776, .iconst 0, 1), (777, .ireturn, 1), (778, .aload_n 1, 1), (779, .invokevirtual 88, 3), (782, .aload_n 2, 1), (783, .invokevirtual 91, 3), (786, .if_icmp .eq 897, 3), (789, .iconst 0, 1), (790, .ireturn, 1), (791, .aload_n 1, 1), (792, .aload_n 0, 1), (793, .iload_n 3, 1)]
def lawc_24 : List (Nat × Instr × Nat) := [(794, .iconst 1, 1), (795, .iadd, 1), (796, .iaload, 1), (797, .aload_n 0, 1), (798, .iload_n 3, 1), (799, .iconst 2, 1), (800, .iadd, 1), (801, .iaload, 1), (802, .aload_n 0, 1), (803, .iload_n 3, 1), (804, .iconst 3, 1), (805, .iadd, 1), (806, .iaload, 1), (807, .aload_n 0, 1), (808, .iload_n 3, 1), (809, .iconst 4, 1), (810, .iadd, 1), (811, .iaload, 1), (812, .invokevirtual 92, 3), (815, .aload_n 2, 1)]
def lawc_25 : List (Nat × Instr × Nat) := [(816, .aload_n 0, 1), (817, .iload_n 3, 1), (818, .iconst 1, 1), (819, .iadd, 1), (820, .iaload, 1), (821, .aload_n 0, 1), (822, .iload_n 3, 1), (823, .iconst 2, 1), (824, .iadd, 1), (825, .iaload, 1), (826, .aload_n 0, 1), (827, .iload_n 3, 1), (828, .iconst 3, 1), (829, .iadd, 1), (830, .iaload, 1), (831, .aload_n 0, 1), (832, .iload_n 3, 1), (833, .iconst 4, 1), (834, .iadd, 1), (835, .iaload, 1)]
def lawc_26 : List (Nat × Instr × Nat) := [(836, .invokevirtual 96, 3), (839, .if_icmp .eq 844, 3), (842, .iconst 0, 1), (843, .ireturn, 1), (844, .aload_n 1, 1), (845, .aload_n 0, 1), (846, .iload_n 3, 1), (847, .iconst 1, 1), (848, .iadd, 1), (849, .iaload, 1), (850, .aload_n 0, 1), (851, .iload_n 3, 1), (852, .iconst 2, 1), (853, .iadd, 1), (854, .iaload, 1), (855, .aload_n 0, 1), (856, .iload_n 3, 1), (857, .iconst 3, 1), (858, .iadd, 1), (859, .iaload, 1)]
def lawc_27 : List (Nat × Instr × Nat) := [(860, .invokevirtual 97, 3), (863, .aload_n 2, 1), (864, .aload_n 0, 1), (865, .iload_n 3, 1), (866, .iconst 1, 1), (867, .iadd, 1), (868, .iaload, 1), (869, .aload_n 0, 1), (870, .iload_n 3, 1), (871, .iconst 2, 1), (872, .iadd, 1), (873, .iaload, 1), (874, .aload_n 0, 1), (875, .iload_n 3, 1), (876, .iconst 3, 1), (877, .iadd, 1), (878, .iaload, 1), (879, .invokevirtual 100, 3), (882, .if_icmp .eq 801, 3), (885, .iconst 0, 1)]
def lawc_28 : List (Nat × Instr × Nat) := [(886, .ireturn, 1), (887, .aload_n 1, 1), (888, .aload_n 0, 1), (889, .iload_n 3, 1), (890, .iconst 1, 1), (891, .iadd, 1), (892, .iaload, 1), (893, .aload_n 0, 1), (894, .iload_n 3, 1), (895, .iconst 2, 1), (896, .iadd, 1), (897, .iaload, 1), (898, .aload_n 0, 1), (899, .iload_n 3, 1), (900, .iconst 3, 1), (901, .iadd, 1), (902, .iaload, 1), (903, .invokevirtual 101, 3), (906, .aload_n 2, 1), (907, .aload_n 0, 1)]
def lawc_29 : List (Nat × Instr × Nat) := [(908, .iload_n 3, 1), (909, .iconst 1, 1), (910, .iadd, 1), (911, .iaload, 1), (912, .aload_n 0, 1), (913, .iload_n 3, 1), (914, .iconst 2, 1), (915, .iadd, 1), (916, .iaload, 1), (917, .aload_n 0, 1), (918, .iload_n 3, 1), (919, .iconst 3, 1), (920, .iadd, 1), (921, .iaload, 1), (922, .invokevirtual 104, 3), (925, .lcmp, 1), (926, .ifCond .eq 757, 3), (929, .iconst 0, 1), (930, .ireturn, 1), (931, .aload_n 1, 1)]
def lawc_30 : List (Nat × Instr × Nat) := [(932, .aload_n 0, 1), (933, .iload_n 3, 1), (934, .iconst 1, 1), (935, .iadd, 1), (936, .iaload, 1), (937, .aload_n 0, 1), (938, .iload_n 3, 1), (939, .iconst 2, 1), (940, .iadd, 1), (941, .iaload, 1), (942, .aload_n 0, 1), (943, .iload_n 3, 1), (944, .iconst 3, 1), (945, .iadd, 1), (946, .iaload, 1), (947, .invokevirtual 105, 3), (950, .aload_n 2, 1), (951, .aload_n 0, 1), (952, .iload_n 3, 1), (953, .iconst 1, 1)]
def lawc_31 : List (Nat × Instr × Nat) := [(954, .iadd, 1), (955, .iaload, 1), (956, .aload_n 0, 1), (957, .iload_n 3, 1), (958, .iconst 2, 1), (959, .iadd, 1), (960, .iaload, 1), (961, .aload_n 0, 1), (962, .iload_n 3, 1), (963, .iconst 3, 1), (964, .iadd, 1), (965, .iaload, 1), (966, .invokevirtual 108, 3), (969, .if_icmp .eq 714, 3), (972, .iconst 0, 1), (973, .ireturn, 1), (974, .aload_n 1, 1), (975, .aload_n 0, 1), (976, .iload_n 3, 1), (977, .iconst 1, 1)]
def lawc_32 : List (Nat × Instr × Nat) := [(978, .iadd, 1), (979, .iaload, 1), (980, .aload_n 0, 1), (981, .iload_n 3, 1), (982, .iconst 2, 1), (983, .iadd, 1), (984, .iaload, 1), (985, .aload_n 0, 1), (986, .iload_n 3, 1), (987, .iconst 3, 1), (988, .iadd, 1), (989, .iaload, 1), (990, .aload_n 0, 1), (991, .iload_n 3, 1), (992, .iconst 4, 1), (993, .iadd, 1), (994, .iaload, 1), (995, .aload_n 0, 1), (996, .iload_n 3, 1), (997, .iconst 5, 1)]
def lawc_33 : List (Nat × Instr × Nat) := [(998, .iadd, 1), (999, .iaload, 1), (1000, .invokevirtual 109, 3), (1003, .aload_n 2, 1), (1004, .aload_n 0, 1), (1005, .iload_n 3, 1), (1006, .iconst 1, 1), (1007, .iadd, 1), (1008, .iaload, 1), (1009, .aload_n 0, 1), (1010, .iload_n 3, 1), (1011, .iconst 2, 1), (1012, .iadd, 1), (1013, .iaload, 1), (1014, .aload_n 0, 1), (1015, .iload_n 3, 1), (1016, .iconst 3, 1), (1017, .iadd, 1), (1018, .iaload, 1), (1019, .aload_n 0, 1)]
def lawc_34 : List (Nat × Instr × Nat) := [(1020, .iload_n 3, 1), (1021, .iconst 4, 1), (1022, .iadd, 1), (1023, .iaload, 1), (1024, .aload_n 0, 1), (1025, .iload_n 3, 1), (1026, .iconst 5, 1), (1027, .iadd, 1), (1028, .iaload, 1), (1029, .invokevirtual 113, 3), (1032, .lcmp, 1), (1033, .ifCond .eq 650, 3), (1036, .iconst 0, 1), (1037, .ireturn, 1), (1038, .aload_n 1, 1), (1039, .aload_n 0, 1), (1040, .iload_n 3, 1), (1041, .iconst 1, 1), (1042, .iadd, 1), (1043, .iaload, 1)]
def lawc_35 : List (Nat × Instr × Nat) := [(1044, .aload_n 0, 1), (1045, .iload_n 3, 1), (1046, .iconst 2, 1), (1047, .iadd, 1), (1048, .iaload, 1), (1049, .aload_n 0, 1), (1050, .iload_n 3, 1), (1051, .iconst 3, 1), (1052, .iadd, 1), (1053, .iaload, 1), (1054, .invokevirtual 114, 3), (1057, .aload_n 2, 1), (1058, .aload_n 0, 1), (1059, .iload_n 3, 1), (1060, .iconst 1, 1), (1061, .iadd, 1), (1062, .iaload, 1), (1063, .aload_n 0, 1), (1064, .iload_n 3, 1), (1065, .iconst 2, 1)]
def lawc_36 : List (Nat × Instr × Nat) := [(1066, .iadd, 1), (1067, .iaload, 1), (1068, .aload_n 0, 1), (1069, .iload_n 3, 1), (1070, .iconst 3, 1), (1071, .iadd, 1), (1072, .iaload, 1), (1073, .invokevirtual 117, 3), (1076, .lcmp, 1), (1077, .ifCond .eq 606, 3), (1080, .iconst 0, 1), (1081, .ireturn, 1), (1082, .aload_n 1, 1), (1083, .aload_n 0, 1), (1084, .iload_n 3, 1), (1085, .iconst 1, 1), (1086, .iadd, 1), (1087, .iaload, 1), (1088, .aload_n 0, 1), (1089, .iload_n 3, 1)]
def lawc_37 : List (Nat × Instr × Nat) := [(1090, .iconst 2, 1), (1091, .iadd, 1), (1092, .iaload, 1), (1093, .aload_n 0, 1), (1094, .iload_n 3, 1), (1095, .iconst 3, 1), (1096, .iadd, 1), (1097, .iaload, 1), (1098, .invokevirtual 118, 3), (1101, .aload_n 2, 1), (1102, .aload_n 0, 1), (1103, .iload_n 3, 1), (1104, .iconst 1, 1), (1105, .iadd, 1), (1106, .iaload, 1), (1107, .aload_n 0, 1), (1108, .iload_n 3, 1), (1109, .iconst 2, 1), (1110, .iadd, 1), (1111, .iaload, 1)]
def lawc_38 : List (Nat × Instr × Nat) := [(1112, .aload_n 0, 1), (1113, .iload_n 3, 1), (1114, .iconst 3, 1), (1115, .iadd, 1), (1116, .iaload, 1), (1117, .invokevirtual 121, 3), (1120, .lcmp, 1), (1121, .ifCond .eq 562, 3), (1124, .iconst 0, 1), (1125, .ireturn, 1), (1126, .aload_n 1, 1), (1127, .aload_n 0, 1), (1128, .iload_n 3, 1), (1129, .iconst 1, 1), (1130, .iadd, 1), (1131, .iaload, 1), (1132, .aload_n 0, 1), (1133, .iload_n 3, 1), (1134, .iconst 2, 1), (1135, .iadd, 1)]
def lawc_39 : List (Nat × Instr × Nat) := [(1136, .iaload, 1), (1137, .invokevirtual 122, 3), (1140, .aload_n 2, 1), (1141, .aload_n 0, 1), (1142, .iload_n 3, 1), (1143, .iconst 1, 1), (1144, .iadd, 1), (1145, .iaload, 1), (1146, .aload_n 0, 1), (1147, .iload_n 3, 1), (1148, .iconst 2, 1), (1149, .iadd, 1), (1150, .iaload, 1), (1151, .invokevirtual 125, 3), (1154, .lcmp, 1), (1155, .ifCond .eq 528, 3), (1158, .iconst 0, 1), (1159, .ireturn, 1), (1160, .aload_n 1, 1), (1161, .aload_n 0, 1)]
def lawc_40 : List (Nat × Instr × Nat) := [(1162, .iload_n 3, 1), (1163, .iconst 1, 1), (1164, .iadd, 1), (1165, .iaload, 1), (1166, .aload_n 0, 1), (1167, .iload_n 3, 1), (1168, .iconst 2, 1), (1169, .iadd, 1), (1170, .iaload, 1), (1171, .aload_n 0, 1), (1172, .iload_n 3, 1), (1173, .iconst 3, 1), (1174, .iadd, 1), (1175, .iaload, 1), (1176, .i2l, 1), (1177, .bipush 32, 2), (1179, .lshl, 1), (1180, .aload_n 0, 1), (1181, .iload_n 3, 1), (1182, .iconst 4, 1)]
def lawc_41 : List (Nat × Instr × Nat) := [(1183, .iadd, 1), (1184, .iaload, 1), (1185, .i2l, 1), (1186, .ldc2_w 23, 3), (1189, .land, 1), (1190, .lor, 1), (1191, .invokevirtual 126, 3), (1194, .aload_n 2, 1), (1195, .aload_n 0, 1), (1196, .iload_n 3, 1), (1197, .iconst 1, 1), (1198, .iadd, 1), (1199, .iaload, 1), (1200, .aload_n 0, 1), (1201, .iload_n 3, 1), (1202, .iconst 2, 1), (1203, .iadd, 1), (1204, .iaload, 1), (1205, .aload_n 0, 1), (1206, .iload_n 3, 1)]
def lawc_42 : List (Nat × Instr × Nat) := [(1207, .iconst 3, 1), (1208, .iadd, 1), (1209, .iaload, 1), (1210, .i2l, 1), (1211, .bipush 32, 2), (1213, .lshl, 1), (1214, .aload_n 0, 1), (1215, .iload_n 3, 1), (1216, .iconst 4, 1), (1217, .iadd, 1), (1218, .iaload, 1), (1219, .i2l, 1), (1220, .ldc2_w 23, 3), (1223, .land, 1), (1224, .lor, 1), (1225, .invokevirtual 130, 3), (1228, .if_icmp .eq 455, 3), (1231, .iconst 0, 1), (1232, .ireturn, 1), (1233, .aload_n 1, 1)]
def lawc_43 : List (Nat × Instr × Nat) := [(1234, .aload_n 0, 1), (1235, .iload_n 3, 1), (1236, .iconst 1, 1), (1237, .iadd, 1), (1238, .iaload, 1), (1239, .aload_n 0, 1), (1240, .iload_n 3, 1), (1241, .iconst 2, 1), (1242, .iadd, 1), (1243, .iaload, 1), (1244, .invokevirtual 131, 3), (1247, .aload_n 2, 1), (1248, .aload_n 0, 1), (1249, .iload_n 3, 1), (1250, .iconst 1, 1), (1251, .iadd, 1), (1252, .iaload, 1), (1253, .aload_n 0, 1), (1254, .iload_n 3, 1), (1255, .iconst 2, 1)]
def lawc_44 : List (Nat × Instr × Nat) := [(1256, .iadd, 1), (1257, .iaload, 1), (1258, .invokevirtual 134, 3), (1261, .lcmp, 1), (1262, .ifCond .eq 421, 3), (1265, .iconst 0, 1), (1266, .ireturn, 1), (1267, .aload_n 1, 1), (1268, .aload_n 0, 1), (1269, .iload_n 3, 1), (1270, .iconst 1, 1), (1271, .iadd, 1), (1272, .iaload, 1), (1273, .aload_n 0, 1), (1274, .iload_n 3, 1), (1275, .iconst 2, 1), (1276, .iadd, 1), (1277, .iaload, 1), (1278, .invokevirtual 135, 3), (1281, .aload_n 2, 1)]
def lawc_45 : List (Nat × Instr × Nat) := [(1282, .aload_n 0, 1), (1283, .iload_n 3, 1), (1284, .iconst 1, 1), (1285, .iadd, 1), (1286, .iaload, 1), (1287, .aload_n 0, 1), (1288, .iload_n 3, 1), (1289, .iconst 2, 1), (1290, .iadd, 1), (1291, .iaload, 1), (1292, .invokevirtual 138, 3), (1295, .if_icmp .eq 388, 3), (1298, .iconst 0, 1), (1299, .ireturn, 1), (1300, .aload_n 1, 1), (1301, .aload_n 0, 1), (1302, .iload_n 3, 1), (1303, .iconst 1, 1), (1304, .iadd, 1), (1305, .iaload, 1)]
def lawc_46 : List (Nat × Instr × Nat) := [(1306, .aload_n 0, 1), (1307, .iload_n 3, 1), (1308, .iconst 2, 1), (1309, .iadd, 1), (1310, .iaload, 1), (1311, .invokevirtual 139, 3), (1314, .aload_n 2, 1), (1315, .aload_n 0, 1), (1316, .iload_n 3, 1), (1317, .iconst 1, 1), (1318, .iadd, 1), (1319, .iaload, 1), (1320, .aload_n 0, 1), (1321, .iload_n 3, 1), (1322, .iconst 2, 1), (1323, .iadd, 1), (1324, .iaload, 1), (1325, .invokevirtual 142, 3), (1328, .if_icmp .eq 355, 3), (1331, .iconst 0, 1)]
def lawc_47 : List (Nat × Instr × Nat) := [(1332, .ireturn, 1), (1333, .aload_n 1, 1), (1334, .aload_n 0, 1), (1335, .iload_n 3, 1), (1336, .iconst 1, 1), (1337, .iadd, 1), (1338, .iaload, 1), (1339, .invokevirtual 143, 3), (1342, .aload_n 2, 1), (1343, .aload_n 0, 1), (1344, .iload_n 3, 1), (1345, .iconst 1, 1), (1346, .iadd, 1), (1347, .iaload, 1), (1348, .invokevirtual 146, 3), (1351, .if_icmp .eq 332, 3), (1354, .iconst 0, 1), (1355, .ireturn, 1), (1356, .aload_n 1, 1), (1357, .invokevirtual 147, 3)]
def lawc_48 : List (Nat × Instr × Nat) := [(1360, .aload_n 2, 1), (1361, .invokevirtual 150, 3), (1364, .if_icmp .eq 319, 3), (1367, .iconst 0, 1), (1368, .ireturn, 1), (1369, .aload_n 1, 1), (1370, .invokevirtual 151, 3), (1373, .aload_n 2, 1), (1374, .invokevirtual 154, 3), (1377, .if_icmp .eq 306, 3), (1380, .iconst 0, 1), (1381, .ireturn, 1), (1382, .aload_n 1, 1), (1383, .aload_n 0, 1), (1384, .iload_n 3, 1), (1385, .iconst 1, 1), (1386, .iadd, 1), (1387, .iaload, 1), (1388, .invokevirtual 155, 3), (1391, .aload_n 2, 1)]
def lawc_49 : List (Nat × Instr × Nat) := [(1392, .aload_n 0, 1), (1393, .iload_n 3, 1), (1394, .iconst 1, 1), (1395, .iadd, 1), (1396, .iaload, 1), (1397, .invokevirtual 158, 3), (1400, .if_icmp .eq 283, 3), (1403, .iconst 0, 1), (1404, .ireturn, 1), (1405, .aload_n 1, 1), (1406, .aload_n 0, 1), (1407, .iload_n 3, 1), (1408, .iconst 1, 1), (1409, .iadd, 1), (1410, .iaload, 1), (1411, .invokevirtual 159, 3), (1414, .aload_n 2, 1), (1415, .aload_n 0, 1), (1416, .iload_n 3, 1), (1417, .iconst 1, 1)]
def lawc_50 : List (Nat × Instr × Nat) := [(1418, .iadd, 1), (1419, .iaload, 1), (1420, .invokevirtual 162, 3), (1423, .if_icmp .eq 260, 3), (1426, .iconst 0, 1), (1427, .ireturn, 1), (1428, .aload_n 1, 1), (1429, .aload_n 0, 1), (1430, .iload_n 3, 1), (1431, .iconst 1, 1), (1432, .iadd, 1), (1433, .iaload, 1), (1434, .invokevirtual 163, 3), (1437, .aload_n 2, 1), (1438, .aload_n 0, 1), (1439, .iload_n 3, 1), (1440, .iconst 1, 1), (1441, .iadd, 1), (1442, .iaload, 1), (1443, .invokevirtual 166, 3)]
def lawc_51 : List (Nat × Instr × Nat) := [(1446, .if_icmp .eq 237, 3), (1449, .iconst 0, 1), (1450, .ireturn, 1), (1451, .aload_n 1, 1), (1452, .aload_n 0, 1), (1453, .iload_n 3, 1), (1454, .iconst 1, 1), (1455, .iadd, 1), (1456, .iaload, 1), (1457, .aload_n 0, 1), (1458, .iload_n 3, 1), (1459, .iconst 2, 1), (1460, .iadd, 1), (1461, .iaload, 1), (1462, .invokevirtual 167, 3), (1465, .aload_n 2, 1), (1466, .aload_n 0, 1), (1467, .iload_n 3, 1), (1468, .iconst 1, 1), (1469, .iadd, 1)]
def lawc_52 : List (Nat × Instr × Nat) := [(1470, .iaload, 1), (1471, .aload_n 0, 1), (1472, .iload_n 3, 1), (1473, .iconst 2, 1), (1474, .iadd, 1), (1475, .iaload, 1), (1476, .invokevirtual 170, 3), (1479, .if_icmp .eq 204, 3), (1482, .iconst 0, 1), (1483, .ireturn, 1), (1484, .aload_n 1, 1), (1485, .aload_n 0, 1), (1486, .iload_n 3, 1), (1487, .iconst 1, 1), (1488, .iadd, 1), (1489, .iaload, 1), (1490, .aload_n 0, 1), (1491, .iload_n 3, 1), (1492, .iconst 2, 1), (1493, .iadd, 1)]
def lawc_53 : List (Nat × Instr × Nat) := [(1494, .iaload, 1), (1495, .aload_n 0, 1), (1496, .iload_n 3, 1), (1497, .iconst 3, 1), (1498, .iadd, 1), (1499, .iaload, 1), (1500, .i2l, 1), (1501, .bipush 32, 2), (1503, .lshl, 1), (1504, .aload_n 0, 1), (1505, .iload_n 3, 1), (1506, .iconst 4, 1), (1507, .iadd, 1), (1508, .iaload, 1), (1509, .i2l, 1), (1510, .ldc2_w 23, 3), (1513, .land, 1), (1514, .lor, 1), (1515, .invokevirtual 171, 3), (1518, .aload_n 2, 1)]
def lawc_54 : List (Nat × Instr × Nat) := [(1519, .aload_n 0, 1), (1520, .iload_n 3, 1), (1521, .iconst 1, 1), (1522, .iadd, 1), (1523, .iaload, 1), (1524, .aload_n 0, 1), (1525, .iload_n 3, 1), (1526, .iconst 2, 1), (1527, .iadd, 1), (1528, .iaload, 1), (1529, .aload_n 0, 1), (1530, .iload_n 3, 1), (1531, .iconst 3, 1), (1532, .iadd, 1), (1533, .iaload, 1), (1534, .i2l, 1), (1535, .bipush 32, 2), (1537, .lshl, 1), (1538, .aload_n 0, 1), (1539, .iload_n 3, 1)]
def lawc_55 : List (Nat × Instr × Nat) := [(1540, .iconst 4, 1), (1541, .iadd, 1), (1542, .iaload, 1), (1543, .i2l, 1), (1544, .ldc2_w 23, 3), (1547, .land, 1), (1548, .lor, 1), (1549, .invokevirtual 174, 3), (1552, .if_icmp .eq 131, 3), (1555, .iconst 0, 1), (1556, .ireturn, 1), (1557, .aload_n 1, 1), (1558, .aload_n 0, 1), (1559, .iload_n 3, 1), (1560, .iconst 1, 1), (1561, .iadd, 1), (1562, .iaload, 1), (1563, .aload_n 0, 1), (1564, .iload_n 3, 1), (1565, .iconst 2, 1)]
def lawc_56 : List (Nat × Instr × Nat) := [(1566, .iadd, 1), (1567, .iaload, 1), (1568, .invokevirtual 175, 3), (1571, .aload_n 2, 1), (1572, .aload_n 0, 1), (1573, .iload_n 3, 1), (1574, .iconst 1, 1), (1575, .iadd, 1), (1576, .iaload, 1), (1577, .aload_n 0, 1), (1578, .iload_n 3, 1), (1579, .iconst 2, 1), (1580, .iadd, 1), (1581, .iaload, 1), (1582, .invokevirtual 178, 3), (1585, .lcmp, 1), (1586, .ifCond .eq 97, 3), (1589, .iconst 0, 1), (1590, .ireturn, 1), (1591, .aload_n 1, 1)]
def lawc_57 : List (Nat × Instr × Nat) := [(1592, .aload_n 0, 1), (1593, .iload_n 3, 1), (1594, .iconst 1, 1), (1595, .iadd, 1), (1596, .iaload, 1), (1597, .aload_n 0, 1), (1598, .iload_n 3, 1), (1599, .iconst 2, 1), (1600, .iadd, 1), (1601, .iaload, 1), (1602, .invokevirtual 179, 3), (1605, .aload_n 2, 1), (1606, .aload_n 0, 1), (1607, .iload_n 3, 1), (1608, .iconst 1, 1), (1609, .iadd, 1), (1610, .iaload, 1), (1611, .aload_n 0, 1), (1612, .iload_n 3, 1), (1613, .iconst 2, 1)]
def lawc_58 : List (Nat × Instr × Nat) := [(1614, .iadd, 1), (1615, .iaload, 1), (1616, .invokevirtual 182, 3), (1619, .if_icmp .eq 64, 3), (1622, .iconst 0, 1), (1623, .ireturn, 1), (1624, .aload_n 1, 1), (1625, .aload_n 0, 1), (1626, .iload_n 3, 1), (1627, .iconst 1, 1), (1628, .iadd, 1), (1629, .iaload, 1), (1630, .aload_n 0, 1), (1631, .iload_n 3, 1), (1632, .iconst 2, 1), (1633, .iadd, 1), (1634, .iaload, 1), (1635, .invokevirtual 183, 3), (1638, .aload_n 2, 1), (1639, .aload_n 0, 1)]
def lawc_59 : List (Nat × Instr × Nat) := [(1640, .iload_n 3, 1), (1641, .iconst 1, 1), (1642, .iadd, 1), (1643, .iaload, 1), (1644, .aload_n 0, 1), (1645, .iload_n 3, 1), (1646, .iconst 2, 1), (1647, .iadd, 1), (1648, .iaload, 1), (1649, .invokevirtual 186, 3), (1652, .if_icmp .eq 31, 3), (1655, .iconst 0, 1), (1656, .ireturn, 1), (1657, .aload_n 1, 1), (1658, .invokevirtual 187, 3), (1661, .aload_n 2, 1), (1662, .invokevirtual 190, 3), (1665, .if_icmp .eq 18, 3), (1668, .iconst 0, 1), (1669, .ireturn, 1)]
def lawc_60 : List (Nat × Instr × Nat) := [(1670, .aload_n 1, 1), (1671, .invokevirtual 191, 3), (1674, .aload_n 2, 1), (1675, .invokevirtual 194, 3), (1678, .if_icmp .eq 5, 3), (1681, .iconst 0, 1), (1682, .ireturn, 1), (1683, .iinc 3 6, 3), (1686, .goto (-1668), 3), (1689, .iconst 1, 1), (1690, .ireturn, 1)]
def mt_L_law : zMt := (yL_law, cL_law, 4, (some .boolean), 12, 7, [(32, lawc_0), (236, lawc_1), (260, lawc_2), (282, lawc_3), (307, lawc_4), (330, lawc_5), (355, lawc_6), (378, lawc_7), (406, lawc_8), (436, lawc_9), (461, lawc_10), (484, lawc_11), (520, lawc_12), (546, lawc_13), (568, lawc_14), (592, lawc_15), (618, lawc_16), (640, lawc_17), (664, lawc_18), (690, lawc_19), (712, lawc_20), (736, lawc_21), (764, lawc_22), (794, lawc_23), (816, lawc_24), (836, lawc_25), (860, lawc_26), (886, lawc_27), (908, lawc_28), (932, lawc_29), (954, lawc_30), (978, lawc_31), (998, lawc_32), (1020, lawc_33), (1044, lawc_34), (1066, lawc_35), (1090, lawc_36), (1112, lawc_37), (1136, lawc_38), (1162, lawc_39), (1183, lawc_40), (1207, lawc_41), (1234, lawc_42), (1256, lawc_43), (1282, lawc_44), (1306, lawc_45), (1332, lawc_46), (1360, lawc_47), (1392, lawc_48), (1418, lawc_49), (1446, lawc_50), (1470, lawc_51), (1494, lawc_52), (1519, lawc_53), (1540, lawc_54), (1566, lawc_55), (1592, lawc_56), (1614, lawc_57), (1640, lawc_58), (1670, lawc_59), (100000, lawc_60)], [])
def zdfs : List (List zF) := [[.inr none, .inr none, .inr none, .inr none, .inr none, .inl 2, .inl 0, .inl 0, .inr none], [.inl 0, .inr none, .inr none], [.inl 0, .inr none, .inr none, .inr none, .inr none, .inr none, .inr none], [.inl 1, .inl 1], [.inl 0, .inr none, .inr none, .inr none, .inr none, .inr none, .inr none], [.inr none, .inr none, .inr none, .inr none], [.inr none, .inr none], [.inl 0, .inr none], [.inl 0, .inr none, .inr none], [.inl 0, .inl 0, .inl 0, .inl 0, .inr none], [.inr none, .inr none, .inr none, .inr none, .inr none, .inr none, .inr none], [.inl 0, .inr none, .inr none, .inl 2, .inr none, .inr none, .inl 1, .inl 1, .inr none, .inl 0, .inl 0, .inl 0, .inl 0, .inr none, .inr none, .inl 0, .inr none, .inl 0, .inr none, .inr none, .inr none]]
def zlkFT : List (Nat × List (Nat × List (Nat × (Nat × Nat × Nat)))) := [(0, [(157, [(12, (0, 0, 228)), (21, (0, 1, 230)), (28, (0, 2, 232)), (35, (0, 3, 234)), (42, (0, 4, 236)), (46, (0, 5, 238)), (50, (0, 6, 240)), (54, (0, 7, 242)), (57, (0, 8, 244)), (87, (2, 0, 91)), (90, (2, 2, 97)), (122, (3, 0, 328)), (126, (3, 1, 330)), (129, (1, 0, 190)), (137, (1, 1, 193)), (143, (8, 0, 214))]), (100000, [(157, (8, 1, 217)), (160, (8, 2, 220)), (168, (2, 4, 102)), (171, (2, 5, 105))])]),
  (1, [(100000, [(9, (1, 0, 189)), (15, (1, 1, 192)), (19, (1, 2, 195))])]),
  (2, [(100000, [(9, (2, 0, 90)), (15, (2, 1, 93)), (19, (2, 2, 95)), (22, (2, 3, 98)), (25, (2, 4, 100)), (29, (2, 5, 103)), (32, (2, 6, 106))])]),
  (3, [(100000, [(7, (3, 0, 327)), (13, (3, 1, 329))])]),
  (4, [(100000, [(9, (4, 0, 131)), (15, (4, 1, 133)), (19, (4, 2, 135)), (22, (4, 3, 138)), (25, (4, 4, 141)), (28, (4, 5, 143)), (31, (4, 6, 146)), (44, (8, 0, 212)), (52, (8, 1, 216)), (53, (8, 2, 219))])]),
  (5, [(100000, [(9, (5, 0, 170)), (15, (5, 1, 171)), (18, (5, 2, 172)), (21, (5, 3, 173))])]),
  (6, [(100000, [(9, (6, 0, 314)), (15, (6, 1, 315))])]),
  (7, [(100000, [(9, (7, 0, 299)), (15, (7, 1, 301)), (19, (4, 2, 136)), (29, (4, 5, 144)), (35, (4, 6, 147)), (38, (4, 3, 139))])]),
  (8, [(100000, [(9, (8, 0, 210)), (15, (8, 1, 215)), (19, (8, 2, 218))])]),
  (9, [(100000, [(9, (9, 0, 273)), (15, (9, 1, 275)), (18, (9, 2, 277)), (21, (9, 3, 279)), (24, (9, 4, 280)), (28, (8, 0, 211))])]),
  (10, [(128, [(12, (10, 0, 336)), (18, (10, 1, 337)), (24, (10, 2, 338)), (31, (10, 3, 339)), (38, (10, 4, 340)), (45, (10, 5, 341)), (52, (10, 6, 342)), (56, (0, 0, 229)), (76, (2, 1, 94)), (80, (2, 2, 96)), (83, (2, 3, 99)), (96, (0, 1, 231)), (109, (2, 4, 101)), (113, (2, 5, 104)), (116, (0, 6, 241)), (120, (0, 5, 239))]), (276, [(128, (0, 4, 237)), (131, (8, 0, 213)), (134, (4, 0, 132)), (156, (4, 1, 134)), (158, (4, 2, 137)), (160, (4, 3, 140)), (163, (4, 4, 142)), (171, (4, 5, 145)), (174, (4, 6, 148)), (177, (0, 3, 235)), (181, (1, 0, 191)), (184, (1, 1, 194)), (187, (1, 2, 196)), (204, (0, 7, 243)), (210, (0, 8, 245)), (226, (0, 2, 233))]), (100000, [(276, (2, 0, 92)), (286, (2, 6, 107)), (292, (9, 0, 274)), (302, (9, 2, 278)), (305, (9, 1, 276)), (316, (7, 0, 300)), (317, (7, 1, 302))])]),
  (11, [(203, [(15, (11, 1, 923)), (19, (11, 2, 924)), (23, (11, 4, 926)), (26, (11, 5, 927)), (29, (11, 8, 930)), (32, (11, 13, 935)), (35, (11, 14, 936)), (38, (11, 16, 938)), (41, (11, 18, 940)), (45, (11, 19, 941)), (48, (11, 20, 942)), (148, (11, 6, 928)), (152, (11, 7, 929)), (180, (11, 9, 931)), (183, (11, 10, 932)), (186, (11, 11, 933))]), (100000, [(203, (11, 12, 934)), (206, (11, 15, 937)), (221, (11, 17, 939)), (236, (11, 3, 925))])])]
def zlkF (own idx : Nat) : Option (Nat × Nat × Nat) := zlook zlkFT own idx
def zlkMT : List (Nat × List (Nat × List (Nat × (Nat × Nat × zMt)))) := [(0, [(116, [(11, (2, 1, mt_X2_init)), (20, (3, 1, mt_X4_init)), (27, (3, 1, mt_X5_init)), (34, (3, 1, mt_X1_init)), (41, (3, 1, mt_X8_init)), (61, (0, 2, mt_X2_copyFrom)), (65, (0, 2, mt_X4_copyFrom)), (68, (0, 2, mt_X5_copyFrom)), (71, (0, 2, mt_X1_copyFrom)), (74, (0, 2, mt_X8_copyFrom)), (83, (0, 4, mt_X4_sum)), (94, (0, 3, mt_X2_isInBranch)), (98, (0, 3, mt_X3_become)), (104, (0, 3, mt_X5_findHeld)), (108, (0, 5, mt_X0_sumOfBranch)), (112, (0, 2, mt_X5_aboveAt))]), (100000, [(116, (0, 2, mt_X5_belowAt)), (119, (0, 3, mt_X3_add)), (130, (0, 3, mt_X1_add)), (133, (0, 2, mt_X0_canBePosted)), (140, (0, 4, mt_X4_add)), (146, (0, 2, mt_X0_findUnbalanced)), (150, (0, 2, mt_X0_isClosedOn)), (154, (0, 2, mt_X0_keepsLimits)), (163, (0, 2, mt_X0_sumByNow)), (166, (0, 2, mt_X8_sum))])]),
  (2, [(100000, [(47, (0, 3, mt_X2_isInBranch))])]),
  (3, [(100000, [(16, (1, 1, mt_J9_abs_067f4)), (22, (1, 2, mt_X3_commonDivisor)), (26, (0, 3, mt_X3_become))])]),
  (4, [(100000, [(40, (0, 1, mt_X4_isFull)), (48, (0, 2, mt_X4_has)), (54, (0, 3, mt_X8_add)), (58, (0, 2, mt_X4_isReversible)), (61, (0, 3, mt_X4_sumIn)), (67, (0, 3, mt_X4_sealWith)), (73, (0, 3, mt_X4_isLine)), (77, (0, 4, mt_X4_lineOf))])]),
  (5, [(100000, [(30, (0, 3, mt_X5_findHeld))])]),
  (7, [(100000, [(25, (0, 2, mt_X7_add)), (32, (0, 2, mt_X7_addNumber)), (52, (1, 1, mt_J9_abs_0f7a4))])]),
  (9, [(100000, [(33, (0, 3, mt_X9_takePart)), (37, (0, 1, mt_X9_here)), (41, (0, 1, mt_X9_takeReversed)), (44, (0, 2, mt_X9_takeFigures)), (48, (0, 2, mt_X2_has)), (55, (0, 3, mt_X8_add))])]),
  (10, [(141, [(11, (3, 1, mt_X0_init)), (23, (3, 1, mt_X8_init)), (30, (3, 1, mt_X9_init)), (37, (3, 1, mt_X7_init)), (44, (2, 1, mt_X6_init)), (51, (3, 1, mt_X3_init)), (60, (0, 2, mt_X2_has)), (66, (1, 1, mt_X10_isCurrency)), (69, (1, 1, mt_X10_isSort)), (72, (0, 4, mt_X2_add)), (86, (0, 2, mt_X2_countStraightBelow)), (90, (0, 2, mt_X2_countBranch)), (93, (0, 2, mt_X2_countAbove)), (100, (0, 2, mt_X4_countLines)), (105, (0, 2, mt_X0_sumByNow)), (124, (0, 1, mt_X4_isFull))]), (236, [(141, (0, 3, mt_X8_add)), (144, (0, 3, mt_X0_tryToPost)), (148, (0, 2, mt_X4_has)), (149, (0, 2, mt_X4_isReversible)), (152, (0, 3, mt_X4_writeReversal)), (166, (1, 1, mt_X10_isOneOfTwo)), (190, (1, 1, mt_X10_isDay)), (193, (0, 4, mt_X4_sum)), (197, (0, 5, mt_X0_sumOfBranch)), (201, (1, 1, mt_X10_isPeriod)), (207, (1, 1, mt_X10_firstDay)), (213, (1, 1, mt_X10_lastDay)), (216, (0, 3, mt_X4_sealOver)), (220, (1, 1, mt_X10_isRatePart)), (223, (0, 2, mt_X0_isClosedOn)), (230, (0, 5, mt_X5_tell))]), (308, [(236, (0, 3, mt_X5_findHeld)), (240, (0, 2, mt_X5_aboveAt)), (243, (0, 2, mt_X5_belowAt)), (246, (0, 3, mt_X3_become)), (250, (0, 2, mt_X3_half)), (253, (0, 4, mt_X0_writeValue)), (257, (0, 1, mt_X3_quotient)), (261, (1, 1, mt_X10_bitsOfDouble)), (265, (1, 1, mt_X10_bitsOfFloat)), (269, (0, 6, mt_X0_writeGain)), (273, (0, 4, mt_X4_lineAt)), (277, (1, 2, mt_J9_max_f86c9)), (283, (1, 2, mt_J9_min_f86c9)), (289, (0, 3, mt_X2_findMeeting)), (295, (0, 2, mt_X9_add)), (298, (0, 3, mt_X9_parse))]), (100000, [(308, (0, 4, mt_X4_isReversal)), (312, (0, 3, mt_X7_write)), (321, (0, 1, mt_X4_countReversals)), (325, (1, 1, mt_X10_isList)), (328, (0, 3, mt_X6_make)), (331, (0, 2, mt_X6_isHeld)), (334, (0, 3, mt_X6_hasPlace)), (338, (0, 4, mt_X6_put)), (342, (0, 3, mt_X6_at)), (345, (0, 2, mt_X0_copyFrom)), (349, (1, 3, mt_X10_bitsInForm))])]),
  (11, [(119, [(51, (0, 4, mt_X11_addAccount)), (55, (1, 3, mt_X11_in)), (63, (0, 2, mt_X11_isAccount)), (67, (1, 1, mt_X11_isCurrency)), (70, (0, 3, mt_X11_isOf)), (74, (0, 2, mt_X11_above)), (78, (0, 2, mt_X11_linesOf)), (81, (0, 3, mt_X11_balanceBy)), (85, (1, 1, mt_X11_isDay)), (88, (0, 4, mt_X11_branchBy)), (92, (0, 1, mt_X11_postings)), (100, (0, 3, mt_X11_layPosting)), (104, (0, 3, mt_X11_addCause)), (108, (0, 3, mt_X11_causedAs)), (111, (0, 2, mt_X11_behind)), (115, (0, 1, mt_X11_isUnbalanced))]), (196, [(119, (0, 1, mt_X11_isBeyond)), (122, (0, 1, mt_X11_isHindered)), (125, (0, 2, mt_X11_posted)), (128, (0, 2, mt_X11_isJournal)), (131, (0, 2, mt_X11_mayBeReversed)), (134, (0, 2, mt_X11_reversed)), (141, (0, 2, mt_X11_sealOf)), (144, (1, 2, mt_X11_rateAt)), (155, (0, 3, mt_X11_fraction)), (159, (0, 3, mt_X11_rateBy)), (162, (0, 3, mt_X11_valueBy)), (165, (1, 1, mt_Jxe99ae_doubleToLongBits_ccdee)), (171, (1, 1, mt_Jxf58ca_floatToIntBits_5c35a)), (177, (0, 2, mt_X11_journalOf)), (189, (0, 1, mt_X11_here)), (192, (0, 2, mt_X11_wrong))]), (100000, [(196, (0, 2, mt_X11_figures)), (199, (0, 2, mt_X11_expect)), (209, (0, 1, mt_X11_readPart)), (212, (0, 1, mt_X11_readText)), (215, (0, 2, mt_X11_doReverse)), (218, (0, 1, mt_X11_post)), (224, (0, 2, mt_X11_put)), (229, (0, 2, mt_X11_putNumber)), (233, (1, 1, mt_X11_isList)), (240, (0, 2, mt_X11_copy))])]),
  (12, [(49, [(9, (2, 1, mt_X10_init)), (12, (2, 1, mt_X11_init)), (13, (0, 4, mt_X10_account)), (17, (0, 4, mt_X11_account)), (18, (0, 3, mt_X10_of)), (22, (0, 3, mt_X11_of)), (25, (0, 4, mt_X10_limits)), (29, (0, 4, mt_X11_limits)), (30, (0, 2, mt_X10_days)), (34, (0, 2, mt_X11_days)), (35, (0, 1, mt_X10_begin)), (39, (0, 1, mt_X11_begin)), (40, (0, 3, mt_X10_posting)), (44, (0, 3, mt_X11_posting)), (45, (0, 1, mt_X10_cancel)), (48, (0, 1, mt_X11_cancel))]), (83, [(49, (0, 1, mt_X10_post)), (52, (0, 1, mt_X11_post)), (53, (0, 2, mt_X10_reverse)), (56, (0, 2, mt_X11_reverse)), (57, (0, 3, mt_X10_journal)), (60, (0, 3, mt_X11_journal)), (61, (0, 4, mt_X10_part)), (65, (0, 4, mt_X11_part)), (66, (0, 3, mt_X10_cause)), (69, (0, 3, mt_X11_cause)), (70, (0, 3, mt_X10_balance)), (74, (0, 3, mt_X11_balance)), (75, (0, 4, mt_X10_branch)), (78, (0, 4, mt_X11_branch)), (79, (0, 2, mt_X10_close)), (82, (0, 2, mt_X11_close))]), (118, [(83, (0, 2, mt_X10_seal)), (87, (0, 2, mt_X11_seal)), (88, (0, 1, mt_X10_audit)), (91, (0, 1, mt_X11_audit)), (92, (0, 5, mt_X10_rate)), (96, (0, 5, mt_X11_rate)), (97, (0, 4, mt_X10_rateOf)), (100, (0, 4, mt_X11_rateOf)), (101, (0, 4, mt_X10_value)), (104, (0, 4, mt_X11_value)), (105, (0, 4, mt_X10_real)), (108, (0, 4, mt_X11_real)), (109, (0, 6, mt_X10_gain)), (113, (0, 6, mt_X11_gain)), (114, (0, 4, mt_X10_line)), (117, (0, 4, mt_X11_line))]), (151, [(118, (0, 4, mt_X10_trial)), (121, (0, 4, mt_X11_trial)), (122, (0, 3, mt_X10_sorts)), (125, (0, 3, mt_X11_sorts)), (126, (0, 4, mt_X10_budget)), (130, (0, 4, mt_X11_budget)), (131, (0, 3, mt_X10_left)), (134, (0, 3, mt_X11_left)), (135, (0, 3, mt_X10_extreme)), (138, (0, 3, mt_X11_extreme)), (139, (0, 3, mt_X10_meet)), (142, (0, 3, mt_X11_meet)), (143, (0, 2, mt_X10_feed)), (146, (0, 2, mt_X11_feed)), (147, (0, 1, mt_X10_clear)), (150, (0, 1, mt_X11_clear))]), (183, [(151, (0, 1, mt_X10_read)), (154, (0, 1, mt_X11_read)), (155, (0, 2, mt_X10_spell)), (158, (0, 2, mt_X11_spell)), (159, (0, 2, mt_X10_paper)), (162, (0, 2, mt_X11_paper)), (163, (0, 2, mt_X10_told)), (166, (0, 2, mt_X11_told)), (167, (0, 3, mt_X10_list)), (170, (0, 3, mt_X11_list)), (171, (0, 4, mt_X10_set)), (174, (0, 4, mt_X11_set)), (175, (0, 3, mt_X10_get)), (178, (0, 3, mt_X11_get)), (179, (0, 3, mt_X10_lay)), (182, (0, 3, mt_X11_lay))]), (100000, [(183, (0, 3, mt_X10_judge)), (186, (0, 3, mt_X11_judge)), (187, (0, 1, mt_X10_image)), (190, (0, 1, mt_X11_image)), (191, (0, 1, mt_X10_undo)), (194, (0, 1, mt_X11_undo))])]),
  (13, [(100000, [(122, (1, 1, mt_Jxe99ae_isNaN_b9ae7))])]),
  (14, [(100000, [(59, (1, 1, mt_Jxf58ca_isNaN_12338))])])]
def zlkM (own idx : Nat) : Option (Nat × Nat × zMt) := zlook zlkMT own idx
def zlkPT : List (Nat × List (Nat × List (Nat × (Nat × Nat)))) := [(0, [(100000, [(3, (0, 81)), (77, (1, 906))])]),
  (1, [(100000, [(3, (0, 188)), (22, (1, 900))])]),
  (2, [(100000, [(3, (0, 87)), (41, (1, 886))])]),
  (3, [(100000, [(1, (0, 326))])]),
  (4, [(100000, [(3, (0, 130)), (34, (1, 488))])]),
  (5, [(100000, [(3, (0, 169)), (24, (1, 895))])]),
  (6, [(100000, [(3, (0, 313))])]),
  (7, [(100000, [(3, (0, 298)), (43, (4, 817)), (48, (5, 818))])]),
  (8, [(100000, [(3, (0, 209)), (22, (1, 905))])]),
  (9, [(100000, [(3, (0, 272)), (61, (4, 744)), (65, (5, 754))])]),
  (10, [(100000, [(3, (0, 73))])]),
  (11, [(100000, [(9, (0, 916))])]),
  (13, [(100000, [(134, (2, 1181))])]),
  (14, [(100000, [(74, (3, 1191))])])]
def zlkP (own idx : Nat) : Option (Nat × Nat) := zlook zlkPT own idx
def zlkCT : List (Nat × List (Nat × List (Nat × (Nat × Nat)))) := [(0, [(100000, [(9, (2, 82)), (18, (4, 125)), (25, (5, 164)), (32, (1, 183)), (39, (8, 204))])]),
  (10, [(100000, [(9, (0, 76)), (21, (8, 265)), (28, (9, 267)), (35, (7, 293)), (42, (6, 308)), (49, (3, 321))])]),
  (12, [(100000, [(7, (10, 68)), (10, (11, 911))])])]
def zlkC (own idx : Nat) : Option (Nat × Nat) := zlook zlkCT own idx
def zlkIT : List (Nat × List (Nat × List (Nat × (Int32 × Nat)))) := [(9, [(100000, [(54, (1000000, 737))])]),
  (11, [(100000, [(202, (1000000, 1267))])]),
  (14, [(100000, [(77, (2143289344, 1194))])])]
def zlkI (own idx : Nat) : Option (Int32 × Nat) := zlook zlkIT own idx
def zlkJT : List (Nat × List (Nat × List (Nat × (Int64 × Nat)))) := [(2, [(100000, [(37, (-9223372036854775808, 88)), (39, (9223372036854775807, 89))])]),
  (4, [(100000, [(65, (17, 555)), (71, (31, 560)), (81, (-9223372036854775808, 669))])]),
  (10, [(100000, [(137, (-1000000, 436)), (139, (1000000, 437)), (169, (-9223372036854775808, 516)), (355, (2, 645))])]),
  (11, [(100000, [(59, (-9223372036854775808, 921)), (61, (9223372036854775807, 922)), (96, (-1000000, 1056)), (98, (1000000, 1057)), (137, (17, 1134)), (139, (31, 1135)), (227, (10, 1285))])]),
  (12, [(100000, [(23, (4294967295, 1329))])]),
  (13, [(100000, [(137, (9221120237041090560, 1184))])])]
def zlkJ (own idx : Nat) : Option (Int64 × Nat) := zlook zlkJT own idx
def zlkDT : List (Nat × List (Nat × List (Nat × (UInt64 × Nat)))) := [(10, [(100000, [(353, (4611686018427387904, 644))])])]
def zlkD (own idx : Nat) : Option (UInt64 × Nat) := zlook zlkDT own idx
def zlkST : List (Nat × List (Nat × List (Nat × Nat))) := [(7, [(100000, [(41, 1)])]),
  (9, [(100000, [(59, 0)])])]
def zlkS (own idx : Nat) : Option Nat := zlook zlkST own idx
def zgt {α : Type} : List α → Nat → Option α
  | [], _ => none
  | a :: _, 0 => some a
  | _ :: l, n + 1 => zgt l n
def zic : Int → Int32
  | .ofNat n => Int32.ofNat n
  | .negSucc n => -(Int32.ofNat (n + 1))
def zAll : List zMt := [mt_X0_init, mt_X0_copyFrom, mt_X0_isClosedOn, mt_X0_sumByNow, mt_X0_sumOfBranch, mt_X0_writeValue, mt_X0_writeGain, mt_X0_tryToPost, mt_X0_canBePosted, mt_X0_findUnbalanced, mt_X0_keepsLimits, mt_X1_init, mt_X1_copyFrom, mt_X1_add, mt_X2_init, mt_X2_copyFrom, mt_X2_has, mt_X2_add, mt_X2_isInBranch, mt_X2_countStraightBelow, mt_X2_countBranch, mt_X2_countAbove, mt_X2_findMeeting, mt_X3_init, mt_X3_become, mt_X3_add, mt_X3_half, mt_X3_quotient, mt_X3_commonDivisor, mt_X4_init, mt_X4_copyFrom, mt_X4_has, mt_X4_isFull, mt_X4_add, mt_X4_isReversible, mt_X4_writeReversal, mt_X4_isReversal, mt_X4_countReversals, mt_X4_sum, mt_X4_sumIn, mt_X4_sealOver, mt_X4_sealWith, mt_X4_countLines, mt_X4_lineAt, mt_X4_isLine, mt_X4_lineOf, mt_X5_init, mt_X5_copyFrom, mt_X5_tell, mt_X5_findHeld, mt_X5_aboveAt, mt_X5_belowAt, mt_X6_init, mt_X6_make, mt_X6_isHeld, mt_X6_hasPlace, mt_X6_put, mt_X6_at, mt_X7_init, mt_X7_write, mt_X7_addNumber, mt_X7_add, mt_X8_init, mt_X8_copyFrom, mt_X8_add, mt_X8_sum, mt_X9_init, mt_X9_add, mt_X9_parse, mt_X9_takePart, mt_X9_takeReversed, mt_X9_takeFigures, mt_X9_here, mt_X10_init, mt_X10_account, mt_X10_of, mt_X10_limits, mt_X10_days, mt_X10_begin, mt_X10_posting, mt_X10_cancel, mt_X10_post, mt_X10_reverse, mt_X10_journal, mt_X10_part, mt_X10_cause, mt_X10_balance, mt_X10_branch, mt_X10_close, mt_X10_seal, mt_X10_audit, mt_X10_rate, mt_X10_rateOf, mt_X10_value, mt_X10_real, mt_X10_gain, mt_X10_line, mt_X10_trial, mt_X10_sorts, mt_X10_budget, mt_X10_left, mt_X10_extreme, mt_X10_meet, mt_X10_feed, mt_X10_clear, mt_X10_read, mt_X10_spell, mt_X10_paper, mt_X10_told, mt_X10_list, mt_X10_set, mt_X10_get, mt_X10_lay, mt_X10_judge, mt_X10_image, mt_X10_undo, mt_X10_isCurrency, mt_X10_isSort, mt_X10_isDay, mt_X10_isPeriod, mt_X10_isRatePart, mt_X10_isList, mt_X10_isOneOfTwo, mt_X10_firstDay, mt_X10_lastDay, mt_X10_bitsOfDouble, mt_X10_bitsOfFloat, mt_X10_bitsInForm, mt_X11_in, mt_X11_init, mt_X11_isAccount, mt_X11_isCurrency, mt_X11_isDay, mt_X11_isJournal, mt_X11_addAccount, mt_X11_account, mt_X11_isOf, mt_X11_above, mt_X11_of, mt_X11_balanceBy, mt_X11_branchBy, mt_X11_balance, mt_X11_branch, mt_X11_limits, mt_X11_days, mt_X11_postings, mt_X11_begin, mt_X11_layPosting, mt_X11_posting, mt_X11_cancel, mt_X11_addCause, mt_X11_causedAs, mt_X11_isUnbalanced, mt_X11_behind, mt_X11_isBeyond, mt_X11_isHindered, mt_X11_posted, mt_X11_post, mt_X11_mayBeReversed, mt_X11_reversed, mt_X11_reverse, mt_X11_journal, mt_X11_part, mt_X11_cause, mt_X11_sealOf, mt_X11_close, mt_X11_seal, mt_X11_audit, mt_X11_rateAt, mt_X11_rate, mt_X11_fraction, mt_X11_rateBy, mt_X11_rateOf, mt_X11_valueBy, mt_X11_value, mt_X11_real, mt_X11_gain, mt_X11_linesOf, mt_X11_journalOf, mt_X11_line, mt_X11_trial, mt_X11_sorts, mt_X11_budget, mt_X11_left, mt_X11_extreme, mt_X11_meet, mt_X11_feed, mt_X11_clear, mt_X11_here, mt_X11_wrong, mt_X11_expect, mt_X11_figures, mt_X11_readPart, mt_X11_readText, mt_X11_doReverse, mt_X11_read, mt_X11_put, mt_X11_putNumber, mt_X11_spell, mt_X11_paper, mt_X11_told, mt_X11_isList, mt_X11_list, mt_X11_set, mt_X11_get, mt_X11_lay, mt_X11_judge, mt_X11_copy, mt_X11_image, mt_X11_undo, mt_Jxe99ae_isNaN_b9ae7, mt_Jxe99ae_doubleToLongBits_ccdee, mt_Jxf58ca_isNaN_12338, mt_Jxf58ca_floatToIntBits_5c35a, mt_J9_abs_0f7a4, mt_J9_abs_067f4, mt_J9_max_f86c9, mt_J9_min_f86c9, mt_L_law]
end
section
def zcns : List String := [RX0, RX1, RX2, RX3, RX4, RX5, RX6, RX7, RX8, RX9, RX10, RX11, RX12, RX13, RX14, RX15]
def zcn (k : Nat) : String := match zgt zcns k with
  | some s => s
  | none => ""
theorem zfd_mem {α : Type} {v : α} {k : Nat} : ∀ {l : List (Nat × α)}, zfd l k = some v → (k, v) ∈ l
  | [], h => by cases h
  | (a, w) :: t, h => by
    rw [zfd] at h
    cases e : Nat.beq a k with
    | true =>
      rw [e] at h
      have e2 : a = k := Nat.eq_of_beq_eq_true e
      injection h with h
      subst e2; subst h
      exact List.mem_cons_self
    | false =>
      rw [e] at h
      exact List.mem_cons_of_mem _ (zfd_mem h)
theorem zfd2_mem {α : Type} {v : α} {k : Nat} : ∀ {l : List (Nat × List (Nat × α))}, zfd2 l k = some v → ∃ p ∈ l, (k, v) ∈ p.2
  | [], h => by cases h
  | (b, w) :: t, h => by
    rw [zfd2] at h
    cases e : Nat.blt k b with
    | true =>
      rw [e] at h
      exact ⟨_, List.mem_cons_self, zfd_mem h⟩
    | false =>
      rw [e] at h
      obtain ⟨p, h1, h2⟩ := zfd2_mem (l := t) h
      exact ⟨p, List.mem_cons_of_mem _ h1, h2⟩
theorem zlk_mem {α : Type} {t : List (Nat × List (Nat × List (Nat × α)))} {own idx : Nat} {v : α} (h : zlook t own idx = some v) : ∃ q ∈ t, q.1 = own ∧ ∃ p ∈ q.2, (idx, v) ∈ p.2 := by
  unfold zlook at h
  split at h
  · cases h
  · next c e =>
    obtain ⟨p, h1, h2⟩ := zfd2_mem h
    exact ⟨_, zfd_mem e, rfl, p, h1, h2⟩
theorem zlk_all {α : Type} {t : List (Nat × List (Nat × List (Nat × α)))} {f : Nat → Nat → α → Bool} (ha : t.all (fun q => q.2.all fun p => p.2.all fun e => f q.1 e.1 e.2) = true) {own idx : Nat} {v : α} (h : zlook t own idx = some v) : f own idx v = true := by
  obtain ⟨q, h1, rfl, p, h2, h3⟩ := zlk_mem h
  exact List.all_eq_true.mp (List.all_eq_true.mp (List.all_eq_true.mp ha q h1) p h2) _ h3
def zFc (own idx : Nat) (e : Nat × Nat × Nat) : Bool := match zgt vwCl e.1 with
  | some (C, T, N) => Nat.blt e.2.1 N && (decide (lw_tbl[e.2.2]? = some (.fieldLink (zcn own) idx C (T e.2.1).2.1 (T e.2.1).2.2.1)) && decide (C = (T e.2.1).1))
  | none => false
theorem zF_all : zlkFT.all (fun q => q.2.all fun p => p.2.all fun e => zFc q.1 e.1 e.2) = true := by decide +kernel
def zpn (q : Nat) : MethodName := match q with
  | 0 => objectInit
  | 1 => arraycopyName
  | 2 => ⟨"java/lang/Double", "doubleToRawLongBits", "(D)J"⟩
  | 3 => ⟨"java/lang/Float", "floatToRawIntBits", "(F)I"⟩
  | 4 => ⟨"java/lang/String", "length", "()I"⟩
  | _ => ⟨"java/lang/String", "charAt", "(I)C"⟩
def zPc (own idx : Nat) (e : Nat × Nat) : Bool := decide (lw_tbl[e.2]? = some (.methodLink (zcn own) idx (zpn e.1)))
theorem zP_all : zlkPT.all (fun q => q.2.all fun p => p.2.all fun e => zPc q.1 e.1 e.2) = true := by decide +kernel
def zCc (own idx : Nat) (e : Nat × Nat) : Bool := decide (lw_tbl[e.2]? = some (.classLink (zcn own) idx (zcn e.1)))
theorem zC_all : zlkCT.all (fun q => q.2.all fun p => p.2.all fun e => zCc q.1 e.1 e.2) = true := by decide +kernel
def zIc (own idx : Nat) (e : Int32 × Nat) : Bool := decide (lw_tbl[e.2]? = some (.constant (zcn own) idx e.1))
theorem zI_all : zlkIT.all (fun q => q.2.all fun p => p.2.all fun e => zIc q.1 e.1 e.2) = true := by decide +kernel
def zJc (own idx : Nat) (e : Int64 × Nat) : Bool := decide (lw_tbl[e.2]? = some (.constantLong (zcn own) idx e.1))
theorem zJ_all : zlkJT.all (fun q => q.2.all fun p => p.2.all fun e => zJc q.1 e.1 e.2) = true := by decide +kernel
def zDc (own idx : Nat) (e : UInt64 × Nat) : Bool := decide (lw_tbl[e.2]? = some (.constantDouble (zcn own) idx e.1))
theorem zD_all : zlkDT.all (fun q => q.2.all fun p => p.2.all fun e => zDc q.1 e.1 e.2) = true := by decide +kernel
def zil : Instr → Nat
  | .iload _ | .lload _ | .dload _ | .aload _ | .istore _ | .lstore _ | .dstore _ | .astore _ | .bipush _ | .ldc _ | .newarray _ => 2
  | .sipush _ | .ldc2_w _ | .iinc _ _ | .ifCond _ _ | .if_icmp _ _ | .ifnonnull _ | .goto _ | .getfield _ | .putfield _ | .new _ | .invokevirtual _ | .invokestatic _ | .invokespecial _ => 3
  | .tableswitch _ _ _ _ => 0
  | _ => 1
def zio (m : zMt) (i : Instr) : Bool := match i with
  | .iconst n => decide (Int32.ofInt n = zic n)
  | .bipush n => decide ((Int8.ofInt n).toInt32 = zic n)
  | .sipush n => decide ((Int16.ofInt n).toInt32 = zic n)
  | .iinc _ n => decide (Int32.ofInt n = zic n)
  | .putfield idx => match zlkF (zow m) idx with
    | some (ci, k, _) => match zgt vwCl ci with
      | some (_, T, _) => !(T k).2.2.2 || (decide ((zy m).name = "<init>") && Nat.beq ci (zow m))
      | none => false
    | none => true
  | _ => true
def zgo1 (m : zMt) (e : Nat × Instr × Nat) : Bool := decide (decode (zb m) e.1 = .ok (e.2.1, e.2.2)) && ((Nat.beq (zil e.2.1) 0 || Nat.beq (zil e.2.1) e.2.2) && (zio m e.2.1 && Nat.blt e.1 60000))
theorem zm0 {w : Cond} (h : w ∈ k2_sels lw_privs) : w ∈ lw_tbl := List.mem_append_left _ h
theorem zmt {w : Cond} (h : w ∈ tables_1) : w ∈ lw_tbl := List.mem_append_right _ h
theorem zm1 {w : Cond} (h : w ∈ tables_1_1) : w ∈ lw_tbl := zmt (List.mem_append_left _ h)
theorem zm2 {w : Cond} (h : w ∈ tables_1_2) : w ∈ lw_tbl := zmt (List.mem_append_right _ (List.mem_append_left _ h))
theorem zm3 {w : Cond} (h : w ∈ tables_1_3) : w ∈ lw_tbl := zmt (List.mem_append_right _ (List.mem_append_right _ (List.mem_append_left _ h)))
theorem zm4 {w : Cond} (h : w ∈ tables_1_4) : w ∈ lw_tbl := zmt (List.mem_append_right _ (List.mem_append_right _ (List.mem_append_right _ (List.mem_append_left _ h))))
theorem zm5 {w : Cond} (h : w ∈ tables_1_5) : w ∈ lw_tbl := zmt (List.mem_append_right _ (List.mem_append_right _ (List.mem_append_right _ (List.mem_append_right _ (List.mem_append_left _ h)))))
theorem zm6 {w : Cond} (h : w ∈ tables_1_6) : w ∈ lw_tbl := zmt (List.mem_append_right _ (List.mem_append_right _ (List.mem_append_right _ (List.mem_append_right _ (List.mem_append_right _ h)))))
def zGood (m : zMt) : Prop := (zcd m).all (fun p => p.2.all (zgo1 m)) = true ∧ Cond.code (zy m) (zb m) (zmx m) (zrt m) ∈ lw_tbl ∧ (zy m).cls = zcn (zow m) ∧ plainFor (zy m) = true ∧ Cond.initialized (zy m).cls ∈ lw_tbl ∧ ((zy m).cls ≠ "java/lang/invoke/MethodHandle" ∧ (zy m).cls ≠ "java/lang/invoke/VarHandle") ∧ (Nat.ble (zlv m) 6 && Nat.ble (zmx m) 11) = true
def zpar (y : MethodName) : Option Nat := (parseMethodDescriptor y.desc).map (fun d => d.parameters.length)
def zMok (own idx : Nat) (e : Nat × Nat × zMt) : Prop := zGood e.2.2 ∧ match e.1 with
  | 0 => Cond.methodLink (zcn own) idx (zy e.2.2) ∈ lw_tbl ∧ Cond.instanceMethod (zy e.2.2) ∈ lw_tbl ∧ Cond.selects (zy e.2.2).cls (zy e.2.2) (zy e.2.2) ∈ lw_tbl ∧ (zpar (zy e.2.2)).map (· + 1) = some e.2.1
  | 1 => Cond.methodLink (zcn own) idx (zy e.2.2) ∈ lw_tbl ∧ Cond.static (zy e.2.2) ∈ lw_tbl ∧ zpar (zy e.2.2) = some e.2.1
  | 2 => Cond.methodLink (zcn own) idx (zy e.2.2) ∈ lw_tbl ∧ Cond.instanceMethod (zy e.2.2) ∈ lw_tbl ∧ (zy e.2.2).name = "<init>" ∧ zrt e.2.2 = none ∧ (zpar (zy e.2.2)).map (· + 1) = some e.2.1
  | 3 => Cond.methodLinkNest (zcn own) idx (zy e.2.2) "DoubleLedger" ∈ lw_tbl ∧ Cond.instanceMethod (zy e.2.2) ∈ lw_tbl ∧ (zy e.2.2).name = "<init>" ∧ zrt e.2.2 = none ∧ (zpar (zy e.2.2)).map (· + 1) = some e.2.1
  | _ => False
end
section
set_option maxRecDepth 100000 in
theorem gk_X0_init : zGood mt_X0_init := ⟨by decide +kernel, zm1 (List.mem_of_getElem? (i := 33) rfl), by decide +kernel, by decide +kernel, zm1 (List.mem_of_getElem? (i := 2) rfl), ⟨by decide +kernel, by decide +kernel⟩, by decide +kernel⟩
set_option maxRecDepth 100000 in
theorem gk_X0_copyFrom : zGood mt_X0_copyFrom := ⟨by decide +kernel, zm4 (List.mem_of_getElem? (i := 114) rfl), by decide +kernel, by decide +kernel, zm1 (List.mem_of_getElem? (i := 2) rfl), ⟨by decide +kernel, by decide +kernel⟩, by decide +kernel⟩
set_option maxRecDepth 100000 in
theorem gk_X0_isClosedOn : zGood mt_X0_isClosedOn := ⟨by decide +kernel, zm2 (List.mem_of_getElem? (i := 182) rfl), by decide +kernel, by decide +kernel, zm1 (List.mem_of_getElem? (i := 2) rfl), ⟨by decide +kernel, by decide +kernel⟩, by decide +kernel⟩
set_option maxRecDepth 100000 in
theorem gk_X0_sumByNow : zGood mt_X0_sumByNow := ⟨by decide +kernel, zm2 (List.mem_of_getElem? (i := 124) rfl), by decide +kernel, by decide +kernel, zm1 (List.mem_of_getElem? (i := 2) rfl), ⟨by decide +kernel, by decide +kernel⟩, by decide +kernel⟩
set_option maxRecDepth 100000 in
theorem gk_X0_sumOfBranch : zGood mt_X0_sumOfBranch := ⟨by decide +kernel, zm3 (List.mem_of_getElem? (i := 9) rfl), by decide +kernel, by decide +kernel, zm1 (List.mem_of_getElem? (i := 2) rfl), ⟨by decide +kernel, by decide +kernel⟩, by decide +kernel⟩
set_option maxRecDepth 100000 in
theorem gk_X0_writeValue : zGood mt_X0_writeValue := ⟨by decide +kernel, zm3 (List.mem_of_getElem? (i := 92) rfl), by decide +kernel, by decide +kernel, zm1 (List.mem_of_getElem? (i := 2) rfl), ⟨by decide +kernel, by decide +kernel⟩, by decide +kernel⟩
set_option maxRecDepth 100000 in
theorem gk_X0_writeGain : zGood mt_X0_writeGain := ⟨by decide +kernel, zm3 (List.mem_of_getElem? (i := 129) rfl), by decide +kernel, by decide +kernel, zm1 (List.mem_of_getElem? (i := 2) rfl), ⟨by decide +kernel, by decide +kernel⟩, by decide +kernel⟩
set_option maxRecDepth 100000 in
theorem gk_X0_tryToPost : zGood mt_X0_tryToPost := ⟨by decide +kernel, zm2 (List.mem_of_getElem? (i := 166) rfl), by decide +kernel, by decide +kernel, zm1 (List.mem_of_getElem? (i := 2) rfl), ⟨by decide +kernel, by decide +kernel⟩, by decide +kernel⟩
set_option maxRecDepth 100000 in
theorem gk_X0_canBePosted : zGood mt_X0_canBePosted := ⟨by decide +kernel, zm2 (List.mem_of_getElem? (i := 174) rfl), by decide +kernel, by decide +kernel, zm1 (List.mem_of_getElem? (i := 2) rfl), ⟨by decide +kernel, by decide +kernel⟩, by decide +kernel⟩
set_option maxRecDepth 100000 in
theorem gk_X0_findUnbalanced : zGood mt_X0_findUnbalanced := ⟨by decide +kernel, zm2 (List.mem_of_getElem? (i := 178) rfl), by decide +kernel, by decide +kernel, zm1 (List.mem_of_getElem? (i := 2) rfl), ⟨by decide +kernel, by decide +kernel⟩, by decide +kernel⟩
set_option maxRecDepth 100000 in
theorem gk_X0_keepsLimits : zGood mt_X0_keepsLimits := ⟨by decide +kernel, zm2 (List.mem_of_getElem? (i := 186) rfl), by decide +kernel, by decide +kernel, zm1 (List.mem_of_getElem? (i := 2) rfl), ⟨by decide +kernel, by decide +kernel⟩, by decide +kernel⟩
set_option maxRecDepth 100000 in
theorem gk_X1_init : zGood mt_X1_init := ⟨by decide +kernel, zm1 (List.mem_of_getElem? (i := 140) rfl), by decide +kernel, by decide +kernel, zm1 (List.mem_of_getElem? (i := 6) rfl), ⟨by decide +kernel, by decide +kernel⟩, by decide +kernel⟩
set_option maxRecDepth 100000 in
theorem gk_X1_copyFrom : zGood mt_X1_copyFrom := ⟨by decide +kernel, zm4 (List.mem_of_getElem? (i := 132) rfl), by decide +kernel, by decide +kernel, zm1 (List.mem_of_getElem? (i := 6) rfl), ⟨by decide +kernel, by decide +kernel⟩, by decide +kernel⟩
set_option maxRecDepth 100000 in
theorem gk_X1_add : zGood mt_X1_add := ⟨by decide +kernel, zm2 (List.mem_of_getElem? (i := 170) rfl), by decide +kernel, by decide +kernel, zm1 (List.mem_of_getElem? (i := 6) rfl), ⟨by decide +kernel, by decide +kernel⟩, by decide +kernel⟩
set_option maxRecDepth 100000 in
theorem gk_X2_init : zGood mt_X2_init := ⟨by decide +kernel, zm1 (List.mem_of_getElem? (i := 39) rfl), by decide +kernel, by decide +kernel, zm1 (List.mem_of_getElem? (i := 3) rfl), ⟨by decide +kernel, by decide +kernel⟩, by decide +kernel⟩
set_option maxRecDepth 100000 in
theorem gk_X2_copyFrom : zGood mt_X2_copyFrom := ⟨by decide +kernel, zm4 (List.mem_of_getElem? (i := 118) rfl), by decide +kernel, by decide +kernel, zm1 (List.mem_of_getElem? (i := 3) rfl), ⟨by decide +kernel, by decide +kernel⟩, by decide +kernel⟩
set_option maxRecDepth 100000 in
theorem gk_X2_has : zGood mt_X2_has := ⟨by decide +kernel, zm2 (List.mem_of_getElem? (i := 78) rfl), by decide +kernel, by decide +kernel, zm1 (List.mem_of_getElem? (i := 3) rfl), ⟨by decide +kernel, by decide +kernel⟩, by decide +kernel⟩
set_option maxRecDepth 100000 in
theorem gk_X2_add : zGood mt_X2_add := ⟨by decide +kernel, zm2 (List.mem_of_getElem? (i := 88) rfl), by decide +kernel, by decide +kernel, zm1 (List.mem_of_getElem? (i := 3) rfl), ⟨by decide +kernel, by decide +kernel⟩, by decide +kernel⟩
set_option maxRecDepth 100000 in
theorem gk_X2_isInBranch : zGood mt_X2_isInBranch := ⟨by decide +kernel, zm2 (List.mem_of_getElem? (i := 104) rfl), by decide +kernel, by decide +kernel, zm1 (List.mem_of_getElem? (i := 3) rfl), ⟨by decide +kernel, by decide +kernel⟩, by decide +kernel⟩
set_option maxRecDepth 100000 in
theorem gk_X2_countStraightBelow : zGood mt_X2_countStraightBelow := ⟨by decide +kernel, zm2 (List.mem_of_getElem? (i := 96) rfl), by decide +kernel, by decide +kernel, zm1 (List.mem_of_getElem? (i := 3) rfl), ⟨by decide +kernel, by decide +kernel⟩, by decide +kernel⟩
set_option maxRecDepth 100000 in
theorem gk_X2_countBranch : zGood mt_X2_countBranch := ⟨by decide +kernel, zm2 (List.mem_of_getElem? (i := 100) rfl), by decide +kernel, by decide +kernel, zm1 (List.mem_of_getElem? (i := 3) rfl), ⟨by decide +kernel, by decide +kernel⟩, by decide +kernel⟩
set_option maxRecDepth 100000 in
theorem gk_X2_countAbove : zGood mt_X2_countAbove := ⟨by decide +kernel, zm2 (List.mem_of_getElem? (i := 108) rfl), by decide +kernel, by decide +kernel, zm1 (List.mem_of_getElem? (i := 3) rfl), ⟨by decide +kernel, by decide +kernel⟩, by decide +kernel⟩
set_option maxRecDepth 100000 in
theorem gk_X2_findMeeting : zGood mt_X2_findMeeting := ⟨by decide +kernel, zm3 (List.mem_of_getElem? (i := 176) rfl), by decide +kernel, by decide +kernel, zm1 (List.mem_of_getElem? (i := 3) rfl), ⟨by decide +kernel, by decide +kernel⟩, by decide +kernel⟩
set_option maxRecDepth 100000 in
theorem gk_X3_init : zGood mt_X3_init := ⟨by decide +kernel, zm2 (List.mem_of_getElem? (i := 38) rfl), by decide +kernel, by decide +kernel, zm1 (List.mem_of_getElem? (i := 11) rfl), ⟨by decide +kernel, by decide +kernel⟩, by decide +kernel⟩
set_option maxRecDepth 100000 in
theorem gk_X3_become : zGood mt_X3_become := ⟨by decide +kernel, zm3 (List.mem_of_getElem? (i := 74) rfl), by decide +kernel, by decide +kernel, zm1 (List.mem_of_getElem? (i := 11) rfl), ⟨by decide +kernel, by decide +kernel⟩, by decide +kernel⟩
set_option maxRecDepth 100000 in
theorem gk_X3_add : zGood mt_X3_add := ⟨by decide +kernel, zm3 (List.mem_of_getElem? (i := 101) rfl), by decide +kernel, by decide +kernel, zm1 (List.mem_of_getElem? (i := 11) rfl), ⟨by decide +kernel, by decide +kernel⟩, by decide +kernel⟩
set_option maxRecDepth 100000 in
theorem gk_X3_half : zGood mt_X3_half := ⟨by decide +kernel, zm3 (List.mem_of_getElem? (i := 84) rfl), by decide +kernel, by decide +kernel, zm1 (List.mem_of_getElem? (i := 11) rfl), ⟨by decide +kernel, by decide +kernel⟩, by decide +kernel⟩
set_option maxRecDepth 100000 in
theorem gk_X3_quotient : zGood mt_X3_quotient := ⟨by decide +kernel, zm3 (List.mem_of_getElem? (i := 110) rfl), by decide +kernel, by decide +kernel, zm1 (List.mem_of_getElem? (i := 11) rfl), ⟨by decide +kernel, by decide +kernel⟩, by decide +kernel⟩
set_option maxRecDepth 100000 in
theorem gk_X3_commonDivisor : zGood mt_X3_commonDivisor := ⟨by decide +kernel, zm3 (List.mem_of_getElem? (i := 80) rfl), by decide +kernel, by decide +kernel, zm1 (List.mem_of_getElem? (i := 11) rfl), ⟨by decide +kernel, by decide +kernel⟩, by decide +kernel⟩
set_option maxRecDepth 100000 in
theorem gk_X4_init : zGood mt_X4_init := ⟨by decide +kernel, zm1 (List.mem_of_getElem? (i := 82) rfl), by decide +kernel, by decide +kernel, zm1 (List.mem_of_getElem? (i := 4) rfl), ⟨by decide +kernel, by decide +kernel⟩, by decide +kernel⟩
set_option maxRecDepth 100000 in
theorem gk_X4_copyFrom : zGood mt_X4_copyFrom := ⟨by decide +kernel, zm4 (List.mem_of_getElem? (i := 123) rfl), by decide +kernel, by decide +kernel, zm1 (List.mem_of_getElem? (i := 4) rfl), ⟨by decide +kernel, by decide +kernel⟩, by decide +kernel⟩
set_option maxRecDepth 100000 in
theorem gk_X4_has : zGood mt_X4_has := ⟨by decide +kernel, zm2 (List.mem_of_getElem? (i := 200) rfl), by decide +kernel, by decide +kernel, zm1 (List.mem_of_getElem? (i := 4) rfl), ⟨by decide +kernel, by decide +kernel⟩, by decide +kernel⟩
set_option maxRecDepth 100000 in
theorem gk_X4_isFull : zGood mt_X4_isFull := ⟨by decide +kernel, zm2 (List.mem_of_getElem? (i := 144) rfl), by decide +kernel, by decide +kernel, zm1 (List.mem_of_getElem? (i := 4) rfl), ⟨by decide +kernel, by decide +kernel⟩, by decide +kernel⟩
set_option maxRecDepth 100000 in
theorem gk_X4_add : zGood mt_X4_add := ⟨by decide +kernel, zm2 (List.mem_of_getElem? (i := 195) rfl), by decide +kernel, by decide +kernel, zm1 (List.mem_of_getElem? (i := 4) rfl), ⟨by decide +kernel, by decide +kernel⟩, by decide +kernel⟩
set_option maxRecDepth 100000 in
theorem gk_X4_isReversible : zGood mt_X4_isReversible := ⟨by decide +kernel, zm2 (List.mem_of_getElem? (i := 212) rfl), by decide +kernel, by decide +kernel, zm1 (List.mem_of_getElem? (i := 4) rfl), ⟨by decide +kernel, by decide +kernel⟩, by decide +kernel⟩
set_option maxRecDepth 100000 in
theorem gk_X4_writeReversal : zGood mt_X4_writeReversal := ⟨by decide +kernel, zm2 (List.mem_of_getElem? (i := 216) rfl), by decide +kernel, by decide +kernel, zm1 (List.mem_of_getElem? (i := 4) rfl), ⟨by decide +kernel, by decide +kernel⟩, by decide +kernel⟩
set_option maxRecDepth 100000 in
theorem gk_X4_isReversal : zGood mt_X4_isReversal := ⟨by decide +kernel, zm4 (List.mem_of_getElem? (i := 28) rfl), by decide +kernel, by decide +kernel, zm1 (List.mem_of_getElem? (i := 4) rfl), ⟨by decide +kernel, by decide +kernel⟩, by decide +kernel⟩
set_option maxRecDepth 100000 in
theorem gk_X4_countReversals : zGood mt_X4_countReversals := ⟨by decide +kernel, zm4 (List.mem_of_getElem? (i := 63) rfl), by decide +kernel, by decide +kernel, zm1 (List.mem_of_getElem? (i := 4) rfl), ⟨by decide +kernel, by decide +kernel⟩, by decide +kernel⟩
set_option maxRecDepth 100000 in
theorem gk_X4_sum : zGood mt_X4_sum := ⟨by decide +kernel, zm2 (List.mem_of_getElem? (i := 128) rfl), by decide +kernel, by decide +kernel, zm1 (List.mem_of_getElem? (i := 4) rfl), ⟨by decide +kernel, by decide +kernel⟩, by decide +kernel⟩
set_option maxRecDepth 100000 in
theorem gk_X4_sumIn : zGood mt_X4_sumIn := ⟨by decide +kernel, zm2 (List.mem_of_getElem? (i := 132) rfl), by decide +kernel, by decide +kernel, zm1 (List.mem_of_getElem? (i := 4) rfl), ⟨by decide +kernel, by decide +kernel⟩, by decide +kernel⟩
set_option maxRecDepth 100000 in
theorem gk_X4_sealOver : zGood mt_X4_sealOver := ⟨by decide +kernel, zm3 (List.mem_of_getElem? (i := 27) rfl), by decide +kernel, by decide +kernel, zm1 (List.mem_of_getElem? (i := 4) rfl), ⟨by decide +kernel, by decide +kernel⟩, by decide +kernel⟩
set_option maxRecDepth 100000 in
theorem gk_X4_sealWith : zGood mt_X4_sealWith := ⟨by decide +kernel, zm3 (List.mem_of_getElem? (i := 32) rfl), by decide +kernel, by decide +kernel, zm1 (List.mem_of_getElem? (i := 4) rfl), ⟨by decide +kernel, by decide +kernel⟩, by decide +kernel⟩
set_option maxRecDepth 100000 in
theorem gk_X4_countLines : zGood mt_X4_countLines := ⟨by decide +kernel, zm2 (List.mem_of_getElem? (i := 112) rfl), by decide +kernel, by decide +kernel, zm1 (List.mem_of_getElem? (i := 4) rfl), ⟨by decide +kernel, by decide +kernel⟩, by decide +kernel⟩
set_option maxRecDepth 100000 in
theorem gk_X4_lineAt : zGood mt_X4_lineAt := ⟨by decide +kernel, zm3 (List.mem_of_getElem? (i := 137) rfl), by decide +kernel, by decide +kernel, zm1 (List.mem_of_getElem? (i := 4) rfl), ⟨by decide +kernel, by decide +kernel⟩, by decide +kernel⟩
set_option maxRecDepth 100000 in
theorem gk_X4_isLine : zGood mt_X4_isLine := ⟨by decide +kernel, zm2 (List.mem_of_getElem? (i := 116) rfl), by decide +kernel, by decide +kernel, zm1 (List.mem_of_getElem? (i := 4) rfl), ⟨by decide +kernel, by decide +kernel⟩, by decide +kernel⟩
set_option maxRecDepth 100000 in
theorem gk_X4_lineOf : zGood mt_X4_lineOf := ⟨by decide +kernel, zm3 (List.mem_of_getElem? (i := 141) rfl), by decide +kernel, by decide +kernel, zm1 (List.mem_of_getElem? (i := 4) rfl), ⟨by decide +kernel, by decide +kernel⟩, by decide +kernel⟩
set_option maxRecDepth 100000 in
theorem gk_X5_init : zGood mt_X5_init := ⟨by decide +kernel, zm1 (List.mem_of_getElem? (i := 121) rfl), by decide +kernel, by decide +kernel, zm1 (List.mem_of_getElem? (i := 5) rfl), ⟨by decide +kernel, by decide +kernel⟩, by decide +kernel⟩
set_option maxRecDepth 100000 in
theorem gk_X5_copyFrom : zGood mt_X5_copyFrom := ⟨by decide +kernel, zm4 (List.mem_of_getElem? (i := 127) rfl), by decide +kernel, by decide +kernel, zm1 (List.mem_of_getElem? (i := 5) rfl), ⟨by decide +kernel, by decide +kernel⟩, by decide +kernel⟩
set_option maxRecDepth 100000 in
theorem gk_X5_tell : zGood mt_X5_tell := ⟨by decide +kernel, zm3 (List.mem_of_getElem? (i := 53) rfl), by decide +kernel, by decide +kernel, zm1 (List.mem_of_getElem? (i := 5) rfl), ⟨by decide +kernel, by decide +kernel⟩, by decide +kernel⟩
set_option maxRecDepth 100000 in
theorem gk_X5_findHeld : zGood mt_X5_findHeld := ⟨by decide +kernel, zm3 (List.mem_of_getElem? (i := 57) rfl), by decide +kernel, by decide +kernel, zm1 (List.mem_of_getElem? (i := 5) rfl), ⟨by decide +kernel, by decide +kernel⟩, by decide +kernel⟩
set_option maxRecDepth 100000 in
theorem gk_X5_aboveAt : zGood mt_X5_aboveAt := ⟨by decide +kernel, zm3 (List.mem_of_getElem? (i := 66) rfl), by decide +kernel, by decide +kernel, zm1 (List.mem_of_getElem? (i := 5) rfl), ⟨by decide +kernel, by decide +kernel⟩, by decide +kernel⟩
set_option maxRecDepth 100000 in
theorem gk_X5_belowAt : zGood mt_X5_belowAt := ⟨by decide +kernel, zm3 (List.mem_of_getElem? (i := 70) rfl), by decide +kernel, by decide +kernel, zm1 (List.mem_of_getElem? (i := 5) rfl), ⟨by decide +kernel, by decide +kernel⟩, by decide +kernel⟩
set_option maxRecDepth 100000 in
theorem gk_X6_init : zGood mt_X6_init := ⟨by decide +kernel, zm2 (List.mem_of_getElem? (i := 25) rfl), by decide +kernel, by decide +kernel, zm1 (List.mem_of_getElem? (i := 10) rfl), ⟨by decide +kernel, by decide +kernel⟩, by decide +kernel⟩
set_option maxRecDepth 100000 in
theorem gk_X6_make : zGood mt_X6_make := ⟨by decide +kernel, zm4 (List.mem_of_getElem? (i := 74) rfl), by decide +kernel, by decide +kernel, zm1 (List.mem_of_getElem? (i := 10) rfl), ⟨by decide +kernel, by decide +kernel⟩, by decide +kernel⟩
set_option maxRecDepth 100000 in
theorem gk_X6_isHeld : zGood mt_X6_isHeld := ⟨by decide +kernel, zm4 (List.mem_of_getElem? (i := 82) rfl), by decide +kernel, by decide +kernel, zm1 (List.mem_of_getElem? (i := 10) rfl), ⟨by decide +kernel, by decide +kernel⟩, by decide +kernel⟩
set_option maxRecDepth 100000 in
theorem gk_X6_hasPlace : zGood mt_X6_hasPlace := ⟨by decide +kernel, zm4 (List.mem_of_getElem? (i := 86) rfl), by decide +kernel, by decide +kernel, zm1 (List.mem_of_getElem? (i := 10) rfl), ⟨by decide +kernel, by decide +kernel⟩, by decide +kernel⟩
set_option maxRecDepth 100000 in
theorem gk_X6_put : zGood mt_X6_put := ⟨by decide +kernel, zm4 (List.mem_of_getElem? (i := 90) rfl), by decide +kernel, by decide +kernel, zm1 (List.mem_of_getElem? (i := 10) rfl), ⟨by decide +kernel, by decide +kernel⟩, by decide +kernel⟩
set_option maxRecDepth 100000 in
theorem gk_X6_at : zGood mt_X6_at := ⟨by decide +kernel, zm4 (List.mem_of_getElem? (i := 98) rfl), by decide +kernel, by decide +kernel, zm1 (List.mem_of_getElem? (i := 10) rfl), ⟨by decide +kernel, by decide +kernel⟩, by decide +kernel⟩
set_option maxRecDepth 100000 in
theorem gk_X7_init : zGood mt_X7_init := ⟨by decide +kernel, zm2 (List.mem_of_getElem? (i := 10) rfl), by decide +kernel, by decide +kernel, zm1 (List.mem_of_getElem? (i := 9) rfl), ⟨by decide +kernel, by decide +kernel⟩, by decide +kernel⟩
set_option maxRecDepth 100000 in
theorem gk_X7_write : zGood mt_X7_write := ⟨by decide +kernel, zm4 (List.mem_of_getElem? (i := 37) rfl), by decide +kernel, by decide +kernel, zm1 (List.mem_of_getElem? (i := 9) rfl), ⟨by decide +kernel, by decide +kernel⟩, by decide +kernel⟩
set_option maxRecDepth 100000 in
theorem gk_X7_addNumber : zGood mt_X7_addNumber := ⟨by decide +kernel, zm4 (List.mem_of_getElem? (i := 45) rfl), by decide +kernel, by decide +kernel, zm1 (List.mem_of_getElem? (i := 9) rfl), ⟨by decide +kernel, by decide +kernel⟩, by decide +kernel⟩
set_option maxRecDepth 100000 in
theorem gk_X7_add : zGood mt_X7_add := ⟨by decide +kernel, zm4 (List.mem_of_getElem? (i := 41) rfl), by decide +kernel, by decide +kernel, zm1 (List.mem_of_getElem? (i := 9) rfl), ⟨by decide +kernel, by decide +kernel⟩, by decide +kernel⟩
set_option maxRecDepth 100000 in
theorem gk_X8_init : zGood mt_X8_init := ⟨by decide +kernel, zm1 (List.mem_of_getElem? (i := 161) rfl), by decide +kernel, by decide +kernel, zm1 (List.mem_of_getElem? (i := 7) rfl), ⟨by decide +kernel, by decide +kernel⟩, by decide +kernel⟩
set_option maxRecDepth 100000 in
theorem gk_X8_copyFrom : zGood mt_X8_copyFrom := ⟨by decide +kernel, zm4 (List.mem_of_getElem? (i := 137) rfl), by decide +kernel, by decide +kernel, zm1 (List.mem_of_getElem? (i := 7) rfl), ⟨by decide +kernel, by decide +kernel⟩, by decide +kernel⟩
set_option maxRecDepth 100000 in
theorem gk_X8_add : zGood mt_X8_add := ⟨by decide +kernel, zm2 (List.mem_of_getElem? (i := 154) rfl), by decide +kernel, by decide +kernel, zm1 (List.mem_of_getElem? (i := 7) rfl), ⟨by decide +kernel, by decide +kernel⟩, by decide +kernel⟩
set_option maxRecDepth 100000 in
theorem gk_X8_sum : zGood mt_X8_sum := ⟨by decide +kernel, zm2 (List.mem_of_getElem? (i := 191) rfl), by decide +kernel, by decide +kernel, zm1 (List.mem_of_getElem? (i := 7) rfl), ⟨by decide +kernel, by decide +kernel⟩, by decide +kernel⟩
set_option maxRecDepth 100000 in
theorem gk_X9_init : zGood mt_X9_init := ⟨by decide +kernel, zm1 (List.mem_of_getElem? (i := 224) rfl), by decide +kernel, by decide +kernel, zm1 (List.mem_of_getElem? (i := 8) rfl), ⟨by decide +kernel, by decide +kernel⟩, by decide +kernel⟩
set_option maxRecDepth 100000 in
theorem gk_X9_add : zGood mt_X9_add := ⟨by decide +kernel, zm3 (List.mem_of_getElem? (i := 184) rfl), by decide +kernel, by decide +kernel, zm1 (List.mem_of_getElem? (i := 8) rfl), ⟨by decide +kernel, by decide +kernel⟩, by decide +kernel⟩
set_option maxRecDepth 100000 in
theorem gk_X9_parse : zGood mt_X9_parse := ⟨by decide +kernel, zm3 (List.mem_of_getElem? (i := 196) rfl), by decide +kernel, by decide +kernel, zm1 (List.mem_of_getElem? (i := 8) rfl), ⟨by decide +kernel, by decide +kernel⟩, by decide +kernel⟩
set_option maxRecDepth 100000 in
theorem gk_X9_takePart : zGood mt_X9_takePart := ⟨by decide +kernel, zm3 (List.mem_of_getElem? (i := 200) rfl), by decide +kernel, by decide +kernel, zm1 (List.mem_of_getElem? (i := 8) rfl), ⟨by decide +kernel, by decide +kernel⟩, by decide +kernel⟩
set_option maxRecDepth 100000 in
theorem gk_X9_takeReversed : zGood mt_X9_takeReversed := ⟨by decide +kernel, zm3 (List.mem_of_getElem? (i := 215) rfl), by decide +kernel, by decide +kernel, zm1 (List.mem_of_getElem? (i := 8) rfl), ⟨by decide +kernel, by decide +kernel⟩, by decide +kernel⟩
set_option maxRecDepth 100000 in
theorem gk_X9_takeFigures : zGood mt_X9_takeFigures := ⟨by decide +kernel, zm3 (List.mem_of_getElem? (i := 204) rfl), by decide +kernel, by decide +kernel, zm1 (List.mem_of_getElem? (i := 8) rfl), ⟨by decide +kernel, by decide +kernel⟩, by decide +kernel⟩
set_option maxRecDepth 100000 in
theorem gk_X9_here : zGood mt_X9_here := ⟨by decide +kernel, zm3 (List.mem_of_getElem? (i := 208) rfl), by decide +kernel, by decide +kernel, zm1 (List.mem_of_getElem? (i := 8) rfl), ⟨by decide +kernel, by decide +kernel⟩, by decide +kernel⟩
set_option maxRecDepth 100000 in
theorem gk_X10_init : zGood mt_X10_init := ⟨by decide +kernel, zm1 (List.mem_of_getElem? (i := 25) rfl), by decide +kernel, by decide +kernel, zm1 (List.mem_of_getElem? (i := 1) rfl), ⟨by decide +kernel, by decide +kernel⟩, by decide +kernel⟩
set_option maxRecDepth 100000 in
theorem gk_X10_account : zGood mt_X10_account := ⟨by decide +kernel, zm2 (List.mem_of_getElem? (i := 74) rfl), by decide +kernel, by decide +kernel, zm1 (List.mem_of_getElem? (i := 1) rfl), ⟨by decide +kernel, by decide +kernel⟩, by decide +kernel⟩
set_option maxRecDepth 100000 in
theorem gk_X10_of : zGood mt_X10_of := ⟨by decide +kernel, zm2 (List.mem_of_getElem? (i := 92) rfl), by decide +kernel, by decide +kernel, zm1 (List.mem_of_getElem? (i := 1) rfl), ⟨by decide +kernel, by decide +kernel⟩, by decide +kernel⟩
set_option maxRecDepth 100000 in
theorem gk_X10_limits : zGood mt_X10_limits := ⟨by decide +kernel, zm2 (List.mem_of_getElem? (i := 120) rfl), by decide +kernel, by decide +kernel, zm1 (List.mem_of_getElem? (i := 1) rfl), ⟨by decide +kernel, by decide +kernel⟩, by decide +kernel⟩
set_option maxRecDepth 100000 in
theorem gk_X10_days : zGood mt_X10_days := ⟨by decide +kernel, zm2 (List.mem_of_getElem? (i := 136) rfl), by decide +kernel, by decide +kernel, zm1 (List.mem_of_getElem? (i := 1) rfl), ⟨by decide +kernel, by decide +kernel⟩, by decide +kernel⟩
set_option maxRecDepth 100000 in
theorem gk_X10_begin : zGood mt_X10_begin := ⟨by decide +kernel, zm2 (List.mem_of_getElem? (i := 140) rfl), by decide +kernel, by decide +kernel, zm1 (List.mem_of_getElem? (i := 1) rfl), ⟨by decide +kernel, by decide +kernel⟩, by decide +kernel⟩
set_option maxRecDepth 100000 in
theorem gk_X10_posting : zGood mt_X10_posting := ⟨by decide +kernel, zm2 (List.mem_of_getElem? (i := 148) rfl), by decide +kernel, by decide +kernel, zm1 (List.mem_of_getElem? (i := 1) rfl), ⟨by decide +kernel, by decide +kernel⟩, by decide +kernel⟩
set_option maxRecDepth 100000 in
theorem gk_X10_cancel : zGood mt_X10_cancel := ⟨by decide +kernel, zm2 (List.mem_of_getElem? (i := 158) rfl), by decide +kernel, by decide +kernel, zm1 (List.mem_of_getElem? (i := 1) rfl), ⟨by decide +kernel, by decide +kernel⟩, by decide +kernel⟩
set_option maxRecDepth 100000 in
theorem gk_X10_post : zGood mt_X10_post := ⟨by decide +kernel, zm2 (List.mem_of_getElem? (i := 162) rfl), by decide +kernel, by decide +kernel, zm1 (List.mem_of_getElem? (i := 1) rfl), ⟨by decide +kernel, by decide +kernel⟩, by decide +kernel⟩
set_option maxRecDepth 100000 in
theorem gk_X10_reverse : zGood mt_X10_reverse := ⟨by decide +kernel, zm2 (List.mem_of_getElem? (i := 207) rfl), by decide +kernel, by decide +kernel, zm1 (List.mem_of_getElem? (i := 1) rfl), ⟨by decide +kernel, by decide +kernel⟩, by decide +kernel⟩
set_option maxRecDepth 100000 in
theorem gk_X10_journal : zGood mt_X10_journal := ⟨by decide +kernel, zm2 (List.mem_of_getElem? (i := 221) rfl), by decide +kernel, by decide +kernel, zm1 (List.mem_of_getElem? (i := 1) rfl), ⟨by decide +kernel, by decide +kernel⟩, by decide +kernel⟩
set_option maxRecDepth 100000 in
theorem gk_X10_part : zGood mt_X10_part := ⟨by decide +kernel, zm2 (List.mem_of_getElem? (i := 225) rfl), by decide +kernel, by decide +kernel, zm1 (List.mem_of_getElem? (i := 1) rfl), ⟨by decide +kernel, by decide +kernel⟩, by decide +kernel⟩
set_option maxRecDepth 100000 in
theorem gk_X10_cause : zGood mt_X10_cause := ⟨by decide +kernel, zm2 (List.mem_of_getElem? (i := 233) rfl), by decide +kernel, by decide +kernel, zm1 (List.mem_of_getElem? (i := 1) rfl), ⟨by decide +kernel, by decide +kernel⟩, by decide +kernel⟩
set_option maxRecDepth 100000 in
theorem gk_X10_balance : zGood mt_X10_balance := ⟨by decide +kernel, zm2 (List.mem_of_getElem? (i := 237) rfl), by decide +kernel, by decide +kernel, zm1 (List.mem_of_getElem? (i := 1) rfl), ⟨by decide +kernel, by decide +kernel⟩, by decide +kernel⟩
set_option maxRecDepth 100000 in
theorem gk_X10_branch : zGood mt_X10_branch := ⟨by decide +kernel, zm3 (List.mem_of_getElem? (i := 5) rfl), by decide +kernel, by decide +kernel, zm1 (List.mem_of_getElem? (i := 1) rfl), ⟨by decide +kernel, by decide +kernel⟩, by decide +kernel⟩
set_option maxRecDepth 100000 in
theorem gk_X10_close : zGood mt_X10_close := ⟨by decide +kernel, zm3 (List.mem_of_getElem? (i := 14) rfl), by decide +kernel, by decide +kernel, zm1 (List.mem_of_getElem? (i := 1) rfl), ⟨by decide +kernel, by decide +kernel⟩, by decide +kernel⟩
set_option maxRecDepth 100000 in
theorem gk_X10_seal : zGood mt_X10_seal := ⟨by decide +kernel, zm3 (List.mem_of_getElem? (i := 37) rfl), by decide +kernel, by decide +kernel, zm1 (List.mem_of_getElem? (i := 1) rfl), ⟨by decide +kernel, by decide +kernel⟩, by decide +kernel⟩
set_option maxRecDepth 100000 in
theorem gk_X10_audit : zGood mt_X10_audit := ⟨by decide +kernel, zm3 (List.mem_of_getElem? (i := 41) rfl), by decide +kernel, by decide +kernel, zm1 (List.mem_of_getElem? (i := 1) rfl), ⟨by decide +kernel, by decide +kernel⟩, by decide +kernel⟩
set_option maxRecDepth 100000 in
theorem gk_X10_rate : zGood mt_X10_rate := ⟨by decide +kernel, zm3 (List.mem_of_getElem? (i := 45) rfl), by decide +kernel, by decide +kernel, zm1 (List.mem_of_getElem? (i := 1) rfl), ⟨by decide +kernel, by decide +kernel⟩, by decide +kernel⟩
set_option maxRecDepth 100000 in
theorem gk_X10_rateOf : zGood mt_X10_rateOf := ⟨by decide +kernel, zm3 (List.mem_of_getElem? (i := 61) rfl), by decide +kernel, by decide +kernel, zm1 (List.mem_of_getElem? (i := 1) rfl), ⟨by decide +kernel, by decide +kernel⟩, by decide +kernel⟩
set_option maxRecDepth 100000 in
theorem gk_X10_value : zGood mt_X10_value := ⟨by decide +kernel, zm3 (List.mem_of_getElem? (i := 88) rfl), by decide +kernel, by decide +kernel, zm1 (List.mem_of_getElem? (i := 1) rfl), ⟨by decide +kernel, by decide +kernel⟩, by decide +kernel⟩
set_option maxRecDepth 100000 in
theorem gk_X10_real : zGood mt_X10_real := ⟨by decide +kernel, zm3 (List.mem_of_getElem? (i := 106) rfl), by decide +kernel, by decide +kernel, zm1 (List.mem_of_getElem? (i := 1) rfl), ⟨by decide +kernel, by decide +kernel⟩, by decide +kernel⟩
set_option maxRecDepth 100000 in
theorem gk_X10_gain : zGood mt_X10_gain := ⟨by decide +kernel, zm3 (List.mem_of_getElem? (i := 125) rfl), by decide +kernel, by decide +kernel, zm1 (List.mem_of_getElem? (i := 1) rfl), ⟨by decide +kernel, by decide +kernel⟩, by decide +kernel⟩
set_option maxRecDepth 100000 in
theorem gk_X10_line : zGood mt_X10_line := ⟨by decide +kernel, zm3 (List.mem_of_getElem? (i := 133) rfl), by decide +kernel, by decide +kernel, zm1 (List.mem_of_getElem? (i := 1) rfl), ⟨by decide +kernel, by decide +kernel⟩, by decide +kernel⟩
set_option maxRecDepth 100000 in
theorem gk_X10_trial : zGood mt_X10_trial := ⟨by decide +kernel, zm3 (List.mem_of_getElem? (i := 146) rfl), by decide +kernel, by decide +kernel, zm1 (List.mem_of_getElem? (i := 1) rfl), ⟨by decide +kernel, by decide +kernel⟩, by decide +kernel⟩
set_option maxRecDepth 100000 in
theorem gk_X10_sorts : zGood mt_X10_sorts := ⟨by decide +kernel, zm3 (List.mem_of_getElem? (i := 156) rfl), by decide +kernel, by decide +kernel, zm1 (List.mem_of_getElem? (i := 1) rfl), ⟨by decide +kernel, by decide +kernel⟩, by decide +kernel⟩
set_option maxRecDepth 100000 in
theorem gk_X10_budget : zGood mt_X10_budget := ⟨by decide +kernel, zm3 (List.mem_of_getElem? (i := 160) rfl), by decide +kernel, by decide +kernel, zm1 (List.mem_of_getElem? (i := 1) rfl), ⟨by decide +kernel, by decide +kernel⟩, by decide +kernel⟩
set_option maxRecDepth 100000 in
theorem gk_X10_left : zGood mt_X10_left := ⟨by decide +kernel, zm3 (List.mem_of_getElem? (i := 164) rfl), by decide +kernel, by decide +kernel, zm1 (List.mem_of_getElem? (i := 1) rfl), ⟨by decide +kernel, by decide +kernel⟩, by decide +kernel⟩
set_option maxRecDepth 100000 in
theorem gk_X10_extreme : zGood mt_X10_extreme := ⟨by decide +kernel, zm3 (List.mem_of_getElem? (i := 168) rfl), by decide +kernel, by decide +kernel, zm1 (List.mem_of_getElem? (i := 1) rfl), ⟨by decide +kernel, by decide +kernel⟩, by decide +kernel⟩
set_option maxRecDepth 100000 in
theorem gk_X10_meet : zGood mt_X10_meet := ⟨by decide +kernel, zm3 (List.mem_of_getElem? (i := 172) rfl), by decide +kernel, by decide +kernel, zm1 (List.mem_of_getElem? (i := 1) rfl), ⟨by decide +kernel, by decide +kernel⟩, by decide +kernel⟩
set_option maxRecDepth 100000 in
theorem gk_X10_feed : zGood mt_X10_feed := ⟨by decide +kernel, zm3 (List.mem_of_getElem? (i := 180) rfl), by decide +kernel, by decide +kernel, zm1 (List.mem_of_getElem? (i := 1) rfl), ⟨by decide +kernel, by decide +kernel⟩, by decide +kernel⟩
set_option maxRecDepth 100000 in
theorem gk_X10_clear : zGood mt_X10_clear := ⟨by decide +kernel, zm3 (List.mem_of_getElem? (i := 188) rfl), by decide +kernel, by decide +kernel, zm1 (List.mem_of_getElem? (i := 1) rfl), ⟨by decide +kernel, by decide +kernel⟩, by decide +kernel⟩
set_option maxRecDepth 100000 in
theorem gk_X10_read : zGood mt_X10_read := ⟨by decide +kernel, zm3 (List.mem_of_getElem? (i := 192) rfl), by decide +kernel, by decide +kernel, zm1 (List.mem_of_getElem? (i := 1) rfl), ⟨by decide +kernel, by decide +kernel⟩, by decide +kernel⟩
set_option maxRecDepth 100000 in
theorem gk_X10_spell : zGood mt_X10_spell := ⟨by decide +kernel, zm4 (List.mem_of_getElem? (i := 33) rfl), by decide +kernel, by decide +kernel, zm1 (List.mem_of_getElem? (i := 1) rfl), ⟨by decide +kernel, by decide +kernel⟩, by decide +kernel⟩
set_option maxRecDepth 100000 in
theorem gk_X10_paper : zGood mt_X10_paper := ⟨by decide +kernel, zm4 (List.mem_of_getElem? (i := 55) rfl), by decide +kernel, by decide +kernel, zm1 (List.mem_of_getElem? (i := 1) rfl), ⟨by decide +kernel, by decide +kernel⟩, by decide +kernel⟩
set_option maxRecDepth 100000 in
theorem gk_X10_told : zGood mt_X10_told := ⟨by decide +kernel, zm4 (List.mem_of_getElem? (i := 59) rfl), by decide +kernel, by decide +kernel, zm1 (List.mem_of_getElem? (i := 1) rfl), ⟨by decide +kernel, by decide +kernel⟩, by decide +kernel⟩
set_option maxRecDepth 100000 in
theorem gk_X10_list : zGood mt_X10_list := ⟨by decide +kernel, zm4 (List.mem_of_getElem? (i := 67) rfl), by decide +kernel, by decide +kernel, zm1 (List.mem_of_getElem? (i := 1) rfl), ⟨by decide +kernel, by decide +kernel⟩, by decide +kernel⟩
set_option maxRecDepth 100000 in
theorem gk_X10_set : zGood mt_X10_set := ⟨by decide +kernel, zm4 (List.mem_of_getElem? (i := 78) rfl), by decide +kernel, by decide +kernel, zm1 (List.mem_of_getElem? (i := 1) rfl), ⟨by decide +kernel, by decide +kernel⟩, by decide +kernel⟩
set_option maxRecDepth 100000 in
theorem gk_X10_get : zGood mt_X10_get := ⟨by decide +kernel, zm4 (List.mem_of_getElem? (i := 94) rfl), by decide +kernel, by decide +kernel, zm1 (List.mem_of_getElem? (i := 1) rfl), ⟨by decide +kernel, by decide +kernel⟩, by decide +kernel⟩
set_option maxRecDepth 100000 in
theorem gk_X10_lay : zGood mt_X10_lay := ⟨by decide +kernel, zm4 (List.mem_of_getElem? (i := 102) rfl), by decide +kernel, by decide +kernel, zm1 (List.mem_of_getElem? (i := 1) rfl), ⟨by decide +kernel, by decide +kernel⟩, by decide +kernel⟩
set_option maxRecDepth 100000 in
theorem gk_X10_judge : zGood mt_X10_judge := ⟨by decide +kernel, zm4 (List.mem_of_getElem? (i := 106) rfl), by decide +kernel, by decide +kernel, zm1 (List.mem_of_getElem? (i := 1) rfl), ⟨by decide +kernel, by decide +kernel⟩, by decide +kernel⟩
set_option maxRecDepth 100000 in
theorem gk_X10_image : zGood mt_X10_image := ⟨by decide +kernel, zm4 (List.mem_of_getElem? (i := 110) rfl), by decide +kernel, by decide +kernel, zm1 (List.mem_of_getElem? (i := 1) rfl), ⟨by decide +kernel, by decide +kernel⟩, by decide +kernel⟩
set_option maxRecDepth 100000 in
theorem gk_X10_undo : zGood mt_X10_undo := ⟨by decide +kernel, zm4 (List.mem_of_getElem? (i := 143) rfl), by decide +kernel, by decide +kernel, zm1 (List.mem_of_getElem? (i := 1) rfl), ⟨by decide +kernel, by decide +kernel⟩, by decide +kernel⟩
set_option maxRecDepth 100000 in
theorem gk_X10_isCurrency : zGood mt_X10_isCurrency := ⟨by decide +kernel, zm2 (List.mem_of_getElem? (i := 81) rfl), by decide +kernel, by decide +kernel, zm1 (List.mem_of_getElem? (i := 1) rfl), ⟨by decide +kernel, by decide +kernel⟩, by decide +kernel⟩
set_option maxRecDepth 100000 in
theorem gk_X10_isSort : zGood mt_X10_isSort := ⟨by decide +kernel, zm2 (List.mem_of_getElem? (i := 84) rfl), by decide +kernel, by decide +kernel, zm1 (List.mem_of_getElem? (i := 1) rfl), ⟨by decide +kernel, by decide +kernel⟩, by decide +kernel⟩
set_option maxRecDepth 100000 in
theorem gk_X10_isDay : zGood mt_X10_isDay := ⟨by decide +kernel, zm3 (List.mem_of_getElem? (i := 0) rfl), by decide +kernel, by decide +kernel, zm1 (List.mem_of_getElem? (i := 1) rfl), ⟨by decide +kernel, by decide +kernel⟩, by decide +kernel⟩
set_option maxRecDepth 100000 in
theorem gk_X10_isPeriod : zGood mt_X10_isPeriod := ⟨by decide +kernel, zm3 (List.mem_of_getElem? (i := 17) rfl), by decide +kernel, by decide +kernel, zm1 (List.mem_of_getElem? (i := 1) rfl), ⟨by decide +kernel, by decide +kernel⟩, by decide +kernel⟩
set_option maxRecDepth 100000 in
theorem gk_X10_isRatePart : zGood mt_X10_isRatePart := ⟨by decide +kernel, zm3 (List.mem_of_getElem? (i := 48) rfl), by decide +kernel, by decide +kernel, zm1 (List.mem_of_getElem? (i := 1) rfl), ⟨by decide +kernel, by decide +kernel⟩, by decide +kernel⟩
set_option maxRecDepth 100000 in
theorem gk_X10_isList : zGood mt_X10_isList := ⟨by decide +kernel, zm4 (List.mem_of_getElem? (i := 70) rfl), by decide +kernel, by decide +kernel, zm1 (List.mem_of_getElem? (i := 1) rfl), ⟨by decide +kernel, by decide +kernel⟩, by decide +kernel⟩
set_option maxRecDepth 100000 in
theorem gk_X10_isOneOfTwo : zGood mt_X10_isOneOfTwo := ⟨by decide +kernel, zm2 (List.mem_of_getElem? (i := 228) rfl), by decide +kernel, by decide +kernel, zm1 (List.mem_of_getElem? (i := 1) rfl), ⟨by decide +kernel, by decide +kernel⟩, by decide +kernel⟩
set_option maxRecDepth 100000 in
theorem gk_X10_firstDay : zGood mt_X10_firstDay := ⟨by decide +kernel, zm3 (List.mem_of_getElem? (i := 20) rfl), by decide +kernel, by decide +kernel, zm1 (List.mem_of_getElem? (i := 1) rfl), ⟨by decide +kernel, by decide +kernel⟩, by decide +kernel⟩
set_option maxRecDepth 100000 in
theorem gk_X10_lastDay : zGood mt_X10_lastDay := ⟨by decide +kernel, zm3 (List.mem_of_getElem? (i := 23) rfl), by decide +kernel, by decide +kernel, zm1 (List.mem_of_getElem? (i := 1) rfl), ⟨by decide +kernel, by decide +kernel⟩, by decide +kernel⟩
set_option maxRecDepth 100000 in
theorem gk_X10_bitsOfDouble : zGood mt_X10_bitsOfDouble := ⟨by decide +kernel, zm3 (List.mem_of_getElem? (i := 113) rfl), by decide +kernel, by decide +kernel, zm1 (List.mem_of_getElem? (i := 1) rfl), ⟨by decide +kernel, by decide +kernel⟩, by decide +kernel⟩
set_option maxRecDepth 100000 in
theorem gk_X10_bitsOfFloat : zGood mt_X10_bitsOfFloat := ⟨by decide +kernel, zm3 (List.mem_of_getElem? (i := 121) rfl), by decide +kernel, by decide +kernel, zm1 (List.mem_of_getElem? (i := 1) rfl), ⟨by decide +kernel, by decide +kernel⟩, by decide +kernel⟩
set_option maxRecDepth 100000 in
theorem gk_X10_bitsInForm : zGood mt_X10_bitsInForm := ⟨by decide +kernel, zm3 (List.mem_of_getElem? (i := 116) rfl), by decide +kernel, by decide +kernel, zm1 (List.mem_of_getElem? (i := 1) rfl), ⟨by decide +kernel, by decide +kernel⟩, by decide +kernel⟩
set_option maxRecDepth 100000 in
theorem gk_X11_in : zGood mt_X11_in := ⟨by decide +kernel, zm4 (List.mem_of_getElem? (i := 230) rfl), by decide +kernel, by decide +kernel, zm1 (List.mem_of_getElem? (i := 12) rfl), ⟨by decide +kernel, by decide +kernel⟩, by decide +kernel⟩
set_option maxRecDepth 100000 in
theorem gk_X11_init : zGood mt_X11_init := ⟨by decide +kernel, zm4 (List.mem_of_getElem? (i := 148) rfl), by decide +kernel, by decide +kernel, zm1 (List.mem_of_getElem? (i := 12) rfl), ⟨by decide +kernel, by decide +kernel⟩, by decide +kernel⟩
set_option maxRecDepth 100000 in
theorem gk_X11_isAccount : zGood mt_X11_isAccount := ⟨by decide +kernel, zm4 (List.mem_of_getElem? (i := 227) rfl), by decide +kernel, by decide +kernel, zm1 (List.mem_of_getElem? (i := 12) rfl), ⟨by decide +kernel, by decide +kernel⟩, by decide +kernel⟩
set_option maxRecDepth 100000 in
theorem gk_X11_isCurrency : zGood mt_X11_isCurrency := ⟨by decide +kernel, zm4 (List.mem_of_getElem? (i := 233) rfl), by decide +kernel, by decide +kernel, zm1 (List.mem_of_getElem? (i := 12) rfl), ⟨by decide +kernel, by decide +kernel⟩, by decide +kernel⟩
set_option maxRecDepth 100000 in
theorem gk_X11_isDay : zGood mt_X11_isDay := ⟨by decide +kernel, zm5 (List.mem_of_getElem? (i := 20) rfl), by decide +kernel, by decide +kernel, zm1 (List.mem_of_getElem? (i := 12) rfl), ⟨by decide +kernel, by decide +kernel⟩, by decide +kernel⟩
set_option maxRecDepth 100000 in
theorem gk_X11_isJournal : zGood mt_X11_isJournal := ⟨by decide +kernel, zm5 (List.mem_of_getElem? (i := 98) rfl), by decide +kernel, by decide +kernel, zm1 (List.mem_of_getElem? (i := 12) rfl), ⟨by decide +kernel, by decide +kernel⟩, by decide +kernel⟩
set_option maxRecDepth 100000 in
theorem gk_X11_addAccount : zGood mt_X11_addAccount := ⟨by decide +kernel, zm4 (List.mem_of_getElem? (i := 153) rfl), by decide +kernel, by decide +kernel, zm1 (List.mem_of_getElem? (i := 12) rfl), ⟨by decide +kernel, by decide +kernel⟩, by decide +kernel⟩
set_option maxRecDepth 100000 in
theorem gk_X11_account : zGood mt_X11_account := ⟨by decide +kernel, zm4 (List.mem_of_getElem? (i := 223) rfl), by decide +kernel, by decide +kernel, zm1 (List.mem_of_getElem? (i := 12) rfl), ⟨by decide +kernel, by decide +kernel⟩, by decide +kernel⟩
set_option maxRecDepth 100000 in
theorem gk_X11_isOf : zGood mt_X11_isOf := ⟨by decide +kernel, zm5 (List.mem_of_getElem? (i := 1) rfl), by decide +kernel, by decide +kernel, zm1 (List.mem_of_getElem? (i := 12) rfl), ⟨by decide +kernel, by decide +kernel⟩, by decide +kernel⟩
set_option maxRecDepth 100000 in
theorem gk_X11_above : zGood mt_X11_above := ⟨by decide +kernel, zm5 (List.mem_of_getElem? (i := 5) rfl), by decide +kernel, by decide +kernel, zm1 (List.mem_of_getElem? (i := 12) rfl), ⟨by decide +kernel, by decide +kernel⟩, by decide +kernel⟩
set_option maxRecDepth 100000 in
theorem gk_X11_of : zGood mt_X11_of := ⟨by decide +kernel, zm4 (List.mem_of_getElem? (i := 237) rfl), by decide +kernel, by decide +kernel, zm1 (List.mem_of_getElem? (i := 12) rfl), ⟨by decide +kernel, by decide +kernel⟩, by decide +kernel⟩
set_option maxRecDepth 100000 in
theorem gk_X11_balanceBy : zGood mt_X11_balanceBy := ⟨by decide +kernel, zm5 (List.mem_of_getElem? (i := 24) rfl), by decide +kernel, by decide +kernel, zm1 (List.mem_of_getElem? (i := 12) rfl), ⟨by decide +kernel, by decide +kernel⟩, by decide +kernel⟩
set_option maxRecDepth 100000 in
theorem gk_X11_branchBy : zGood mt_X11_branchBy := ⟨by decide +kernel, zm5 (List.mem_of_getElem? (i := 32) rfl), by decide +kernel, by decide +kernel, zm1 (List.mem_of_getElem? (i := 12) rfl), ⟨by decide +kernel, by decide +kernel⟩, by decide +kernel⟩
set_option maxRecDepth 100000 in
theorem gk_X11_balance : zGood mt_X11_balance := ⟨by decide +kernel, zm5 (List.mem_of_getElem? (i := 17) rfl), by decide +kernel, by decide +kernel, zm1 (List.mem_of_getElem? (i := 12) rfl), ⟨by decide +kernel, by decide +kernel⟩, by decide +kernel⟩
set_option maxRecDepth 100000 in
theorem gk_X11_branch : zGood mt_X11_branch := ⟨by decide +kernel, zm5 (List.mem_of_getElem? (i := 28) rfl), by decide +kernel, by decide +kernel, zm1 (List.mem_of_getElem? (i := 12) rfl), ⟨by decide +kernel, by decide +kernel⟩, by decide +kernel⟩
set_option maxRecDepth 100000 in
theorem gk_X11_limits : zGood mt_X11_limits := ⟨by decide +kernel, zm5 (List.mem_of_getElem? (i := 36) rfl), by decide +kernel, by decide +kernel, zm1 (List.mem_of_getElem? (i := 12) rfl), ⟨by decide +kernel, by decide +kernel⟩, by decide +kernel⟩
set_option maxRecDepth 100000 in
theorem gk_X11_days : zGood mt_X11_days := ⟨by decide +kernel, zm5 (List.mem_of_getElem? (i := 40) rfl), by decide +kernel, by decide +kernel, zm1 (List.mem_of_getElem? (i := 12) rfl), ⟨by decide +kernel, by decide +kernel⟩, by decide +kernel⟩
set_option maxRecDepth 100000 in
theorem gk_X11_postings : zGood mt_X11_postings := ⟨by decide +kernel, zm5 (List.mem_of_getElem? (i := 13) rfl), by decide +kernel, by decide +kernel, zm1 (List.mem_of_getElem? (i := 12) rfl), ⟨by decide +kernel, by decide +kernel⟩, by decide +kernel⟩
set_option maxRecDepth 100000 in
theorem gk_X11_begin : zGood mt_X11_begin := ⟨by decide +kernel, zm5 (List.mem_of_getElem? (i := 44) rfl), by decide +kernel, by decide +kernel, zm1 (List.mem_of_getElem? (i := 12) rfl), ⟨by decide +kernel, by decide +kernel⟩, by decide +kernel⟩
set_option maxRecDepth 100000 in
theorem gk_X11_layPosting : zGood mt_X11_layPosting := ⟨by decide +kernel, zm5 (List.mem_of_getElem? (i := 54) rfl), by decide +kernel, by decide +kernel, zm1 (List.mem_of_getElem? (i := 12) rfl), ⟨by decide +kernel, by decide +kernel⟩, by decide +kernel⟩
set_option maxRecDepth 100000 in
theorem gk_X11_posting : zGood mt_X11_posting := ⟨by decide +kernel, zm5 (List.mem_of_getElem? (i := 48) rfl), by decide +kernel, by decide +kernel, zm1 (List.mem_of_getElem? (i := 12) rfl), ⟨by decide +kernel, by decide +kernel⟩, by decide +kernel⟩
set_option maxRecDepth 100000 in
theorem gk_X11_cancel : zGood mt_X11_cancel := ⟨by decide +kernel, zm5 (List.mem_of_getElem? (i := 58) rfl), by decide +kernel, by decide +kernel, zm1 (List.mem_of_getElem? (i := 12) rfl), ⟨by decide +kernel, by decide +kernel⟩, by decide +kernel⟩
set_option maxRecDepth 100000 in
theorem gk_X11_addCause : zGood mt_X11_addCause := ⟨by decide +kernel, zm5 (List.mem_of_getElem? (i := 74) rfl), by decide +kernel, by decide +kernel, zm1 (List.mem_of_getElem? (i := 12) rfl), ⟨by decide +kernel, by decide +kernel⟩, by decide +kernel⟩
set_option maxRecDepth 100000 in
theorem gk_X11_causedAs : zGood mt_X11_causedAs := ⟨by decide +kernel, zm5 (List.mem_of_getElem? (i := 70) rfl), by decide +kernel, by decide +kernel, zm1 (List.mem_of_getElem? (i := 12) rfl), ⟨by decide +kernel, by decide +kernel⟩, by decide +kernel⟩
set_option maxRecDepth 100000 in
theorem gk_X11_isUnbalanced : zGood mt_X11_isUnbalanced := ⟨by decide +kernel, zm5 (List.mem_of_getElem? (i := 78) rfl), by decide +kernel, by decide +kernel, zm1 (List.mem_of_getElem? (i := 12) rfl), ⟨by decide +kernel, by decide +kernel⟩, by decide +kernel⟩
set_option maxRecDepth 100000 in
theorem gk_X11_behind : zGood mt_X11_behind := ⟨by decide +kernel, zm5 (List.mem_of_getElem? (i := 86) rfl), by decide +kernel, by decide +kernel, zm1 (List.mem_of_getElem? (i := 12) rfl), ⟨by decide +kernel, by decide +kernel⟩, by decide +kernel⟩
set_option maxRecDepth 100000 in
theorem gk_X11_isBeyond : zGood mt_X11_isBeyond := ⟨by decide +kernel, zm5 (List.mem_of_getElem? (i := 82) rfl), by decide +kernel, by decide +kernel, zm1 (List.mem_of_getElem? (i := 12) rfl), ⟨by decide +kernel, by decide +kernel⟩, by decide +kernel⟩
set_option maxRecDepth 100000 in
theorem gk_X11_isHindered : zGood mt_X11_isHindered := ⟨by decide +kernel, zm5 (List.mem_of_getElem? (i := 66) rfl), by decide +kernel, by decide +kernel, zm1 (List.mem_of_getElem? (i := 12) rfl), ⟨by decide +kernel, by decide +kernel⟩, by decide +kernel⟩
set_option maxRecDepth 100000 in
theorem gk_X11_posted : zGood mt_X11_posted := ⟨by decide +kernel, zm5 (List.mem_of_getElem? (i := 90) rfl), by decide +kernel, by decide +kernel, zm1 (List.mem_of_getElem? (i := 12) rfl), ⟨by decide +kernel, by decide +kernel⟩, by decide +kernel⟩
set_option maxRecDepth 100000 in
theorem gk_X11_post : zGood mt_X11_post := ⟨by decide +kernel, zm5 (List.mem_of_getElem? (i := 62) rfl), by decide +kernel, by decide +kernel, zm1 (List.mem_of_getElem? (i := 12) rfl), ⟨by decide +kernel, by decide +kernel⟩, by decide +kernel⟩
set_option maxRecDepth 100000 in
theorem gk_X11_mayBeReversed : zGood mt_X11_mayBeReversed := ⟨by decide +kernel, zm5 (List.mem_of_getElem? (i := 102) rfl), by decide +kernel, by decide +kernel, zm1 (List.mem_of_getElem? (i := 12) rfl), ⟨by decide +kernel, by decide +kernel⟩, by decide +kernel⟩
set_option maxRecDepth 100000 in
theorem gk_X11_reversed : zGood mt_X11_reversed := ⟨by decide +kernel, zm5 (List.mem_of_getElem? (i := 106) rfl), by decide +kernel, by decide +kernel, zm1 (List.mem_of_getElem? (i := 12) rfl), ⟨by decide +kernel, by decide +kernel⟩, by decide +kernel⟩
set_option maxRecDepth 100000 in
theorem gk_X11_reverse : zGood mt_X11_reverse := ⟨by decide +kernel, zm5 (List.mem_of_getElem? (i := 94) rfl), by decide +kernel, by decide +kernel, zm1 (List.mem_of_getElem? (i := 12) rfl), ⟨by decide +kernel, by decide +kernel⟩, by decide +kernel⟩
set_option maxRecDepth 100000 in
theorem gk_X11_journal : zGood mt_X11_journal := ⟨by decide +kernel, zm5 (List.mem_of_getElem? (i := 110) rfl), by decide +kernel, by decide +kernel, zm1 (List.mem_of_getElem? (i := 12) rfl), ⟨by decide +kernel, by decide +kernel⟩, by decide +kernel⟩
set_option maxRecDepth 100000 in
theorem gk_X11_part : zGood mt_X11_part := ⟨by decide +kernel, zm5 (List.mem_of_getElem? (i := 114) rfl), by decide +kernel, by decide +kernel, zm1 (List.mem_of_getElem? (i := 12) rfl), ⟨by decide +kernel, by decide +kernel⟩, by decide +kernel⟩
set_option maxRecDepth 100000 in
theorem gk_X11_cause : zGood mt_X11_cause := ⟨by decide +kernel, zm5 (List.mem_of_getElem? (i := 118) rfl), by decide +kernel, by decide +kernel, zm1 (List.mem_of_getElem? (i := 12) rfl), ⟨by decide +kernel, by decide +kernel⟩, by decide +kernel⟩
set_option maxRecDepth 100000 in
theorem gk_X11_sealOf : zGood mt_X11_sealOf := ⟨by decide +kernel, zm5 (List.mem_of_getElem? (i := 126) rfl), by decide +kernel, by decide +kernel, zm1 (List.mem_of_getElem? (i := 12) rfl), ⟨by decide +kernel, by decide +kernel⟩, by decide +kernel⟩
set_option maxRecDepth 100000 in
theorem gk_X11_close : zGood mt_X11_close := ⟨by decide +kernel, zm5 (List.mem_of_getElem? (i := 122) rfl), by decide +kernel, by decide +kernel, zm1 (List.mem_of_getElem? (i := 12) rfl), ⟨by decide +kernel, by decide +kernel⟩, by decide +kernel⟩
set_option maxRecDepth 100000 in
theorem gk_X11_seal : zGood mt_X11_seal := ⟨by decide +kernel, zm5 (List.mem_of_getElem? (i := 132) rfl), by decide +kernel, by decide +kernel, zm1 (List.mem_of_getElem? (i := 12) rfl), ⟨by decide +kernel, by decide +kernel⟩, by decide +kernel⟩
set_option maxRecDepth 100000 in
theorem gk_X11_audit : zGood mt_X11_audit := ⟨by decide +kernel, zm5 (List.mem_of_getElem? (i := 136) rfl), by decide +kernel, by decide +kernel, zm1 (List.mem_of_getElem? (i := 12) rfl), ⟨by decide +kernel, by decide +kernel⟩, by decide +kernel⟩
set_option maxRecDepth 100000 in
theorem gk_X11_rateAt : zGood mt_X11_rateAt := ⟨by decide +kernel, zm5 (List.mem_of_getElem? (i := 143) rfl), by decide +kernel, by decide +kernel, zm1 (List.mem_of_getElem? (i := 12) rfl), ⟨by decide +kernel, by decide +kernel⟩, by decide +kernel⟩
set_option maxRecDepth 100000 in
theorem gk_X11_rate : zGood mt_X11_rate := ⟨by decide +kernel, zm5 (List.mem_of_getElem? (i := 140) rfl), by decide +kernel, by decide +kernel, zm1 (List.mem_of_getElem? (i := 12) rfl), ⟨by decide +kernel, by decide +kernel⟩, by decide +kernel⟩
set_option maxRecDepth 100000 in
theorem gk_X11_fraction : zGood mt_X11_fraction := ⟨by decide +kernel, zm5 (List.mem_of_getElem? (i := 155) rfl), by decide +kernel, by decide +kernel, zm1 (List.mem_of_getElem? (i := 12) rfl), ⟨by decide +kernel, by decide +kernel⟩, by decide +kernel⟩
set_option maxRecDepth 100000 in
theorem gk_X11_rateBy : zGood mt_X11_rateBy := ⟨by decide +kernel, zm5 (List.mem_of_getElem? (i := 151) rfl), by decide +kernel, by decide +kernel, zm1 (List.mem_of_getElem? (i := 12) rfl), ⟨by decide +kernel, by decide +kernel⟩, by decide +kernel⟩
set_option maxRecDepth 100000 in
theorem gk_X11_rateOf : zGood mt_X11_rateOf := ⟨by decide +kernel, zm5 (List.mem_of_getElem? (i := 147) rfl), by decide +kernel, by decide +kernel, zm1 (List.mem_of_getElem? (i := 12) rfl), ⟨by decide +kernel, by decide +kernel⟩, by decide +kernel⟩
set_option maxRecDepth 100000 in
theorem gk_X11_valueBy : zGood mt_X11_valueBy := ⟨by decide +kernel, zm5 (List.mem_of_getElem? (i := 163) rfl), by decide +kernel, by decide +kernel, zm1 (List.mem_of_getElem? (i := 12) rfl), ⟨by decide +kernel, by decide +kernel⟩, by decide +kernel⟩
set_option maxRecDepth 100000 in
theorem gk_X11_value : zGood mt_X11_value := ⟨by decide +kernel, zm5 (List.mem_of_getElem? (i := 159) rfl), by decide +kernel, by decide +kernel, zm1 (List.mem_of_getElem? (i := 12) rfl), ⟨by decide +kernel, by decide +kernel⟩, by decide +kernel⟩
set_option maxRecDepth 100000 in
theorem gk_X11_real : zGood mt_X11_real := ⟨by decide +kernel, zm5 (List.mem_of_getElem? (i := 167) rfl), by decide +kernel, by decide +kernel, zm1 (List.mem_of_getElem? (i := 12) rfl), ⟨by decide +kernel, by decide +kernel⟩, by decide +kernel⟩
set_option maxRecDepth 100000 in
theorem gk_X11_gain : zGood mt_X11_gain := ⟨by decide +kernel, zm5 (List.mem_of_getElem? (i := 191) rfl), by decide +kernel, by decide +kernel, zm1 (List.mem_of_getElem? (i := 12) rfl), ⟨by decide +kernel, by decide +kernel⟩, by decide +kernel⟩
set_option maxRecDepth 100000 in
theorem gk_X11_linesOf : zGood mt_X11_linesOf := ⟨by decide +kernel, zm5 (List.mem_of_getElem? (i := 9) rfl), by decide +kernel, by decide +kernel, zm1 (List.mem_of_getElem? (i := 12) rfl), ⟨by decide +kernel, by decide +kernel⟩, by decide +kernel⟩
set_option maxRecDepth 100000 in
theorem gk_X11_journalOf : zGood mt_X11_journalOf := ⟨by decide +kernel, zm5 (List.mem_of_getElem? (i := 199) rfl), by decide +kernel, by decide +kernel, zm1 (List.mem_of_getElem? (i := 12) rfl), ⟨by decide +kernel, by decide +kernel⟩, by decide +kernel⟩
set_option maxRecDepth 100000 in
theorem gk_X11_line : zGood mt_X11_line := ⟨by decide +kernel, zm5 (List.mem_of_getElem? (i := 195) rfl), by decide +kernel, by decide +kernel, zm1 (List.mem_of_getElem? (i := 12) rfl), ⟨by decide +kernel, by decide +kernel⟩, by decide +kernel⟩
set_option maxRecDepth 100000 in
theorem gk_X11_trial : zGood mt_X11_trial := ⟨by decide +kernel, zm5 (List.mem_of_getElem? (i := 203) rfl), by decide +kernel, by decide +kernel, zm1 (List.mem_of_getElem? (i := 12) rfl), ⟨by decide +kernel, by decide +kernel⟩, by decide +kernel⟩
set_option maxRecDepth 100000 in
theorem gk_X11_sorts : zGood mt_X11_sorts := ⟨by decide +kernel, zm5 (List.mem_of_getElem? (i := 207) rfl), by decide +kernel, by decide +kernel, zm1 (List.mem_of_getElem? (i := 12) rfl), ⟨by decide +kernel, by decide +kernel⟩, by decide +kernel⟩
set_option maxRecDepth 100000 in
theorem gk_X11_budget : zGood mt_X11_budget := ⟨by decide +kernel, zm5 (List.mem_of_getElem? (i := 211) rfl), by decide +kernel, by decide +kernel, zm1 (List.mem_of_getElem? (i := 12) rfl), ⟨by decide +kernel, by decide +kernel⟩, by decide +kernel⟩
set_option maxRecDepth 100000 in
theorem gk_X11_left : zGood mt_X11_left := ⟨by decide +kernel, zm5 (List.mem_of_getElem? (i := 215) rfl), by decide +kernel, by decide +kernel, zm1 (List.mem_of_getElem? (i := 12) rfl), ⟨by decide +kernel, by decide +kernel⟩, by decide +kernel⟩
set_option maxRecDepth 100000 in
theorem gk_X11_extreme : zGood mt_X11_extreme := ⟨by decide +kernel, zm5 (List.mem_of_getElem? (i := 219) rfl), by decide +kernel, by decide +kernel, zm1 (List.mem_of_getElem? (i := 12) rfl), ⟨by decide +kernel, by decide +kernel⟩, by decide +kernel⟩
set_option maxRecDepth 100000 in
theorem gk_X11_meet : zGood mt_X11_meet := ⟨by decide +kernel, zm5 (List.mem_of_getElem? (i := 223) rfl), by decide +kernel, by decide +kernel, zm1 (List.mem_of_getElem? (i := 12) rfl), ⟨by decide +kernel, by decide +kernel⟩, by decide +kernel⟩
set_option maxRecDepth 100000 in
theorem gk_X11_feed : zGood mt_X11_feed := ⟨by decide +kernel, zm5 (List.mem_of_getElem? (i := 227) rfl), by decide +kernel, by decide +kernel, zm1 (List.mem_of_getElem? (i := 12) rfl), ⟨by decide +kernel, by decide +kernel⟩, by decide +kernel⟩
set_option maxRecDepth 100000 in
theorem gk_X11_clear : zGood mt_X11_clear := ⟨by decide +kernel, zm5 (List.mem_of_getElem? (i := 231) rfl), by decide +kernel, by decide +kernel, zm1 (List.mem_of_getElem? (i := 12) rfl), ⟨by decide +kernel, by decide +kernel⟩, by decide +kernel⟩
set_option maxRecDepth 100000 in
theorem gk_X11_here : zGood mt_X11_here := ⟨by decide +kernel, zm6 (List.mem_of_getElem? (i := 11) rfl), by decide +kernel, by decide +kernel, zm1 (List.mem_of_getElem? (i := 12) rfl), ⟨by decide +kernel, by decide +kernel⟩, by decide +kernel⟩
set_option maxRecDepth 100000 in
theorem gk_X11_wrong : zGood mt_X11_wrong := ⟨by decide +kernel, zm6 (List.mem_of_getElem? (i := 15) rfl), by decide +kernel, by decide +kernel, zm1 (List.mem_of_getElem? (i := 12) rfl), ⟨by decide +kernel, by decide +kernel⟩, by decide +kernel⟩
set_option maxRecDepth 100000 in
theorem gk_X11_expect : zGood mt_X11_expect := ⟨by decide +kernel, zm6 (List.mem_of_getElem? (i := 19) rfl), by decide +kernel, by decide +kernel, zm1 (List.mem_of_getElem? (i := 12) rfl), ⟨by decide +kernel, by decide +kernel⟩, by decide +kernel⟩
set_option maxRecDepth 100000 in
theorem gk_X11_figures : zGood mt_X11_figures := ⟨by decide +kernel, zm6 (List.mem_of_getElem? (i := 7) rfl), by decide +kernel, by decide +kernel, zm1 (List.mem_of_getElem? (i := 12) rfl), ⟨by decide +kernel, by decide +kernel⟩, by decide +kernel⟩
set_option maxRecDepth 100000 in
theorem gk_X11_readPart : zGood mt_X11_readPart := ⟨by decide +kernel, zm6 (List.mem_of_getElem? (i := 3) rfl), by decide +kernel, by decide +kernel, zm1 (List.mem_of_getElem? (i := 12) rfl), ⟨by decide +kernel, by decide +kernel⟩, by decide +kernel⟩
set_option maxRecDepth 100000 in
theorem gk_X11_readText : zGood mt_X11_readText := ⟨by decide +kernel, zm5 (List.mem_of_getElem? (i := 239) rfl), by decide +kernel, by decide +kernel, zm1 (List.mem_of_getElem? (i := 12) rfl), ⟨by decide +kernel, by decide +kernel⟩, by decide +kernel⟩
set_option maxRecDepth 100000 in
theorem gk_X11_doReverse : zGood mt_X11_doReverse := ⟨by decide +kernel, zm6 (List.mem_of_getElem? (i := 24) rfl), by decide +kernel, by decide +kernel, zm1 (List.mem_of_getElem? (i := 12) rfl), ⟨by decide +kernel, by decide +kernel⟩, by decide +kernel⟩
set_option maxRecDepth 100000 in
theorem gk_X11_read : zGood mt_X11_read := ⟨by decide +kernel, zm5 (List.mem_of_getElem? (i := 235) rfl), by decide +kernel, by decide +kernel, zm1 (List.mem_of_getElem? (i := 12) rfl), ⟨by decide +kernel, by decide +kernel⟩, by decide +kernel⟩
set_option maxRecDepth 100000 in
theorem gk_X11_put : zGood mt_X11_put := ⟨by decide +kernel, zm6 (List.mem_of_getElem? (i := 33) rfl), by decide +kernel, by decide +kernel, zm1 (List.mem_of_getElem? (i := 12) rfl), ⟨by decide +kernel, by decide +kernel⟩, by decide +kernel⟩
set_option maxRecDepth 100000 in
theorem gk_X11_putNumber : zGood mt_X11_putNumber := ⟨by decide +kernel, zm6 (List.mem_of_getElem? (i := 37) rfl), by decide +kernel, by decide +kernel, zm1 (List.mem_of_getElem? (i := 12) rfl), ⟨by decide +kernel, by decide +kernel⟩, by decide +kernel⟩
set_option maxRecDepth 100000 in
theorem gk_X11_spell : zGood mt_X11_spell := ⟨by decide +kernel, zm6 (List.mem_of_getElem? (i := 29) rfl), by decide +kernel, by decide +kernel, zm1 (List.mem_of_getElem? (i := 12) rfl), ⟨by decide +kernel, by decide +kernel⟩, by decide +kernel⟩
set_option maxRecDepth 100000 in
theorem gk_X11_paper : zGood mt_X11_paper := ⟨by decide +kernel, zm6 (List.mem_of_getElem? (i := 42) rfl), by decide +kernel, by decide +kernel, zm1 (List.mem_of_getElem? (i := 12) rfl), ⟨by decide +kernel, by decide +kernel⟩, by decide +kernel⟩
set_option maxRecDepth 100000 in
theorem gk_X11_told : zGood mt_X11_told := ⟨by decide +kernel, zm6 (List.mem_of_getElem? (i := 46) rfl), by decide +kernel, by decide +kernel, zm1 (List.mem_of_getElem? (i := 12) rfl), ⟨by decide +kernel, by decide +kernel⟩, by decide +kernel⟩
set_option maxRecDepth 100000 in
theorem gk_X11_isList : zGood mt_X11_isList := ⟨by decide +kernel, zm6 (List.mem_of_getElem? (i := 53) rfl), by decide +kernel, by decide +kernel, zm1 (List.mem_of_getElem? (i := 12) rfl), ⟨by decide +kernel, by decide +kernel⟩, by decide +kernel⟩
set_option maxRecDepth 100000 in
theorem gk_X11_list : zGood mt_X11_list := ⟨by decide +kernel, zm6 (List.mem_of_getElem? (i := 50) rfl), by decide +kernel, by decide +kernel, zm1 (List.mem_of_getElem? (i := 12) rfl), ⟨by decide +kernel, by decide +kernel⟩, by decide +kernel⟩
set_option maxRecDepth 100000 in
theorem gk_X11_set : zGood mt_X11_set := ⟨by decide +kernel, zm6 (List.mem_of_getElem? (i := 57) rfl), by decide +kernel, by decide +kernel, zm1 (List.mem_of_getElem? (i := 12) rfl), ⟨by decide +kernel, by decide +kernel⟩, by decide +kernel⟩
set_option maxRecDepth 100000 in
theorem gk_X11_get : zGood mt_X11_get := ⟨by decide +kernel, zm6 (List.mem_of_getElem? (i := 61) rfl), by decide +kernel, by decide +kernel, zm1 (List.mem_of_getElem? (i := 12) rfl), ⟨by decide +kernel, by decide +kernel⟩, by decide +kernel⟩
set_option maxRecDepth 100000 in
theorem gk_X11_lay : zGood mt_X11_lay := ⟨by decide +kernel, zm6 (List.mem_of_getElem? (i := 65) rfl), by decide +kernel, by decide +kernel, zm1 (List.mem_of_getElem? (i := 12) rfl), ⟨by decide +kernel, by decide +kernel⟩, by decide +kernel⟩
set_option maxRecDepth 100000 in
theorem gk_X11_judge : zGood mt_X11_judge := ⟨by decide +kernel, zm6 (List.mem_of_getElem? (i := 69) rfl), by decide +kernel, by decide +kernel, zm1 (List.mem_of_getElem? (i := 12) rfl), ⟨by decide +kernel, by decide +kernel⟩, by decide +kernel⟩
set_option maxRecDepth 100000 in
theorem gk_X11_copy : zGood mt_X11_copy := ⟨by decide +kernel, zm6 (List.mem_of_getElem? (i := 77) rfl), by decide +kernel, by decide +kernel, zm1 (List.mem_of_getElem? (i := 12) rfl), ⟨by decide +kernel, by decide +kernel⟩, by decide +kernel⟩
set_option maxRecDepth 100000 in
theorem gk_X11_image : zGood mt_X11_image := ⟨by decide +kernel, zm6 (List.mem_of_getElem? (i := 73) rfl), by decide +kernel, by decide +kernel, zm1 (List.mem_of_getElem? (i := 12) rfl), ⟨by decide +kernel, by decide +kernel⟩, by decide +kernel⟩
set_option maxRecDepth 100000 in
theorem gk_X11_undo : zGood mt_X11_undo := ⟨by decide +kernel, zm6 (List.mem_of_getElem? (i := 81) rfl), by decide +kernel, by decide +kernel, zm1 (List.mem_of_getElem? (i := 12) rfl), ⟨by decide +kernel, by decide +kernel⟩, by decide +kernel⟩
set_option maxRecDepth 100000 in
theorem gk_Jxe99ae_isNaN_b9ae7 : zGood mt_Jxe99ae_isNaN_b9ae7 := ⟨by decide +kernel, zm5 (List.mem_of_getElem? (i := 173) rfl), by decide +kernel, by decide +kernel, zm1 (List.mem_of_getElem? (i := 15) rfl), ⟨by decide +kernel, by decide +kernel⟩, by decide +kernel⟩
set_option maxRecDepth 100000 in
theorem gk_Jxe99ae_doubleToLongBits_ccdee : zGood mt_Jxe99ae_doubleToLongBits_ccdee := ⟨by decide +kernel, zm5 (List.mem_of_getElem? (i := 170) rfl), by decide +kernel, by decide +kernel, zm1 (List.mem_of_getElem? (i := 15) rfl), ⟨by decide +kernel, by decide +kernel⟩, by decide +kernel⟩
set_option maxRecDepth 100000 in
theorem gk_Jxf58ca_isNaN_12338 : zGood mt_Jxf58ca_isNaN_12338 := ⟨by decide +kernel, zm5 (List.mem_of_getElem? (i := 183) rfl), by decide +kernel, by decide +kernel, zm1 (List.mem_of_getElem? (i := 16) rfl), ⟨by decide +kernel, by decide +kernel⟩, by decide +kernel⟩
set_option maxRecDepth 100000 in
theorem gk_Jxf58ca_floatToIntBits_5c35a : zGood mt_Jxf58ca_floatToIntBits_5c35a := ⟨by decide +kernel, zm5 (List.mem_of_getElem? (i := 180) rfl), by decide +kernel, by decide +kernel, zm1 (List.mem_of_getElem? (i := 16) rfl), ⟨by decide +kernel, by decide +kernel⟩, by decide +kernel⟩
set_option maxRecDepth 100000 in
theorem gk_J9_abs_0f7a4 : zGood mt_J9_abs_0f7a4 := ⟨by decide +kernel, zm4 (List.mem_of_getElem? (i := 48) rfl), by decide +kernel, by decide +kernel, zm1 (List.mem_of_getElem? (i := 14) rfl), ⟨by decide +kernel, by decide +kernel⟩, by decide +kernel⟩
set_option maxRecDepth 100000 in
theorem gk_J9_abs_067f4 : zGood mt_J9_abs_067f4 := ⟨by decide +kernel, zm3 (List.mem_of_getElem? (i := 77) rfl), by decide +kernel, by decide +kernel, zm1 (List.mem_of_getElem? (i := 14) rfl), ⟨by decide +kernel, by decide +kernel⟩, by decide +kernel⟩
set_option maxRecDepth 100000 in
theorem gk_J9_max_f86c9 : zGood mt_J9_max_f86c9 := ⟨by decide +kernel, zm3 (List.mem_of_getElem? (i := 149) rfl), by decide +kernel, by decide +kernel, zm1 (List.mem_of_getElem? (i := 14) rfl), ⟨by decide +kernel, by decide +kernel⟩, by decide +kernel⟩
set_option maxRecDepth 100000 in
theorem gk_J9_min_f86c9 : zGood mt_J9_min_f86c9 := ⟨by decide +kernel, zm3 (List.mem_of_getElem? (i := 152) rfl), by decide +kernel, by decide +kernel, zm1 (List.mem_of_getElem? (i := 14) rfl), ⟨by decide +kernel, by decide +kernel⟩, by decide +kernel⟩
theorem gl_0 : lawc_0.all (zgo1 mt_L_law) = true := by decide +kernel
theorem gl_1 : lawc_1.all (zgo1 mt_L_law) = true := by decide +kernel
theorem gl_2 : lawc_2.all (zgo1 mt_L_law) = true := by decide +kernel
theorem gl_3 : lawc_3.all (zgo1 mt_L_law) = true := by decide +kernel
theorem gl_4 : lawc_4.all (zgo1 mt_L_law) = true := by decide +kernel
theorem gl_5 : lawc_5.all (zgo1 mt_L_law) = true := by decide +kernel
theorem gl_6 : lawc_6.all (zgo1 mt_L_law) = true := by decide +kernel
theorem gl_7 : lawc_7.all (zgo1 mt_L_law) = true := by decide +kernel
theorem gl_8 : lawc_8.all (zgo1 mt_L_law) = true := by decide +kernel
theorem gl_9 : lawc_9.all (zgo1 mt_L_law) = true := by decide +kernel
theorem gl_10 : lawc_10.all (zgo1 mt_L_law) = true := by decide +kernel
theorem gl_11 : lawc_11.all (zgo1 mt_L_law) = true := by decide +kernel
theorem gl_12 : lawc_12.all (zgo1 mt_L_law) = true := by decide +kernel
theorem gl_13 : lawc_13.all (zgo1 mt_L_law) = true := by decide +kernel
theorem gl_14 : lawc_14.all (zgo1 mt_L_law) = true := by decide +kernel
theorem gl_15 : lawc_15.all (zgo1 mt_L_law) = true := by decide +kernel
theorem gl_16 : lawc_16.all (zgo1 mt_L_law) = true := by decide +kernel
theorem gl_17 : lawc_17.all (zgo1 mt_L_law) = true := by decide +kernel
theorem gl_18 : lawc_18.all (zgo1 mt_L_law) = true := by decide +kernel
theorem gl_19 : lawc_19.all (zgo1 mt_L_law) = true := by decide +kernel
theorem gl_20 : lawc_20.all (zgo1 mt_L_law) = true := by decide +kernel
theorem gl_21 : lawc_21.all (zgo1 mt_L_law) = true := by decide +kernel
theorem gl_22 : lawc_22.all (zgo1 mt_L_law) = true := by decide +kernel
theorem gl_23 : lawc_23.all (zgo1 mt_L_law) = true := by decide +kernel
theorem gl_24 : lawc_24.all (zgo1 mt_L_law) = true := by decide +kernel
theorem gl_25 : lawc_25.all (zgo1 mt_L_law) = true := by decide +kernel
theorem gl_26 : lawc_26.all (zgo1 mt_L_law) = true := by decide +kernel
theorem gl_27 : lawc_27.all (zgo1 mt_L_law) = true := by decide +kernel
theorem gl_28 : lawc_28.all (zgo1 mt_L_law) = true := by decide +kernel
theorem gl_29 : lawc_29.all (zgo1 mt_L_law) = true := by decide +kernel
theorem gl_30 : lawc_30.all (zgo1 mt_L_law) = true := by decide +kernel
theorem gl_31 : lawc_31.all (zgo1 mt_L_law) = true := by decide +kernel
theorem gl_32 : lawc_32.all (zgo1 mt_L_law) = true := by decide +kernel
theorem gl_33 : lawc_33.all (zgo1 mt_L_law) = true := by decide +kernel
theorem gl_34 : lawc_34.all (zgo1 mt_L_law) = true := by decide +kernel
theorem gl_35 : lawc_35.all (zgo1 mt_L_law) = true := by decide +kernel
theorem gl_36 : lawc_36.all (zgo1 mt_L_law) = true := by decide +kernel
theorem gl_37 : lawc_37.all (zgo1 mt_L_law) = true := by decide +kernel
theorem gl_38 : lawc_38.all (zgo1 mt_L_law) = true := by decide +kernel
theorem gl_39 : lawc_39.all (zgo1 mt_L_law) = true := by decide +kernel
theorem gl_40 : lawc_40.all (zgo1 mt_L_law) = true := by decide +kernel
theorem gl_41 : lawc_41.all (zgo1 mt_L_law) = true := by decide +kernel
theorem gl_42 : lawc_42.all (zgo1 mt_L_law) = true := by decide +kernel
theorem gl_43 : lawc_43.all (zgo1 mt_L_law) = true := by decide +kernel
theorem gl_44 : lawc_44.all (zgo1 mt_L_law) = true := by decide +kernel
theorem gl_45 : lawc_45.all (zgo1 mt_L_law) = true := by decide +kernel
theorem gl_46 : lawc_46.all (zgo1 mt_L_law) = true := by decide +kernel
theorem gl_47 : lawc_47.all (zgo1 mt_L_law) = true := by decide +kernel
theorem gl_48 : lawc_48.all (zgo1 mt_L_law) = true := by decide +kernel
theorem gl_49 : lawc_49.all (zgo1 mt_L_law) = true := by decide +kernel
theorem gl_50 : lawc_50.all (zgo1 mt_L_law) = true := by decide +kernel
theorem gl_51 : lawc_51.all (zgo1 mt_L_law) = true := by decide +kernel
theorem gl_52 : lawc_52.all (zgo1 mt_L_law) = true := by decide +kernel
theorem gl_53 : lawc_53.all (zgo1 mt_L_law) = true := by decide +kernel
theorem gl_54 : lawc_54.all (zgo1 mt_L_law) = true := by decide +kernel
theorem gl_55 : lawc_55.all (zgo1 mt_L_law) = true := by decide +kernel
theorem gl_56 : lawc_56.all (zgo1 mt_L_law) = true := by decide +kernel
theorem gl_57 : lawc_57.all (zgo1 mt_L_law) = true := by decide +kernel
theorem gl_58 : lawc_58.all (zgo1 mt_L_law) = true := by decide +kernel
theorem gl_59 : lawc_59.all (zgo1 mt_L_law) = true := by decide +kernel
theorem gl_60 : lawc_60.all (zgo1 mt_L_law) = true := by decide +kernel
theorem gk_law : (zcd mt_L_law).all (fun p => p.2.all (zgo1 mt_L_law)) = true := List.all_eq_true.mpr (List.forall_mem_cons.mpr ⟨gl_0, List.forall_mem_cons.mpr ⟨gl_1, List.forall_mem_cons.mpr ⟨gl_2, List.forall_mem_cons.mpr ⟨gl_3, List.forall_mem_cons.mpr ⟨gl_4, List.forall_mem_cons.mpr ⟨gl_5, List.forall_mem_cons.mpr ⟨gl_6, List.forall_mem_cons.mpr ⟨gl_7, List.forall_mem_cons.mpr ⟨gl_8, List.forall_mem_cons.mpr ⟨gl_9, List.forall_mem_cons.mpr ⟨gl_10, List.forall_mem_cons.mpr ⟨gl_11, List.forall_mem_cons.mpr ⟨gl_12, List.forall_mem_cons.mpr ⟨gl_13, List.forall_mem_cons.mpr ⟨gl_14, List.forall_mem_cons.mpr ⟨gl_15, List.forall_mem_cons.mpr ⟨gl_16, List.forall_mem_cons.mpr ⟨gl_17, List.forall_mem_cons.mpr ⟨gl_18, List.forall_mem_cons.mpr ⟨gl_19, List.forall_mem_cons.mpr ⟨gl_20, List.forall_mem_cons.mpr ⟨gl_21, List.forall_mem_cons.mpr ⟨gl_22, List.forall_mem_cons.mpr ⟨gl_23, List.forall_mem_cons.mpr ⟨gl_24, List.forall_mem_cons.mpr ⟨gl_25, List.forall_mem_cons.mpr ⟨gl_26, List.forall_mem_cons.mpr ⟨gl_27, List.forall_mem_cons.mpr ⟨gl_28, List.forall_mem_cons.mpr ⟨gl_29, List.forall_mem_cons.mpr ⟨gl_30, List.forall_mem_cons.mpr ⟨gl_31, List.forall_mem_cons.mpr ⟨gl_32, List.forall_mem_cons.mpr ⟨gl_33, List.forall_mem_cons.mpr ⟨gl_34, List.forall_mem_cons.mpr ⟨gl_35, List.forall_mem_cons.mpr ⟨gl_36, List.forall_mem_cons.mpr ⟨gl_37, List.forall_mem_cons.mpr ⟨gl_38, List.forall_mem_cons.mpr ⟨gl_39, List.forall_mem_cons.mpr ⟨gl_40, List.forall_mem_cons.mpr ⟨gl_41, List.forall_mem_cons.mpr ⟨gl_42, List.forall_mem_cons.mpr ⟨gl_43, List.forall_mem_cons.mpr ⟨gl_44, List.forall_mem_cons.mpr ⟨gl_45, List.forall_mem_cons.mpr ⟨gl_46, List.forall_mem_cons.mpr ⟨gl_47, List.forall_mem_cons.mpr ⟨gl_48, List.forall_mem_cons.mpr ⟨gl_49, List.forall_mem_cons.mpr ⟨gl_50, List.forall_mem_cons.mpr ⟨gl_51, List.forall_mem_cons.mpr ⟨gl_52, List.forall_mem_cons.mpr ⟨gl_53, List.forall_mem_cons.mpr ⟨gl_54, List.forall_mem_cons.mpr ⟨gl_55, List.forall_mem_cons.mpr ⟨gl_56, List.forall_mem_cons.mpr ⟨gl_57, List.forall_mem_cons.mpr ⟨gl_58, List.forall_mem_cons.mpr ⟨gl_59, List.forall_mem_cons.mpr ⟨gl_60, fun _ h => absurd h List.not_mem_nil⟩⟩⟩⟩⟩⟩⟩⟩⟩⟩⟩⟩⟩⟩⟩⟩⟩⟩⟩⟩⟩⟩⟩⟩⟩⟩⟩⟩⟩⟩⟩⟩⟩⟩⟩⟩⟩⟩⟩⟩⟩⟩⟩⟩⟩⟩⟩⟩⟩⟩⟩⟩⟩⟩⟩⟩⟩⟩⟩⟩⟩)
end
section
theorem lk_0_11 : zMok 0 11 (2, 1, mt_X2_init) := ⟨gk_X2_init, zm1 (List.mem_of_getElem? (i := 37) rfl), zm1 (List.mem_of_getElem? (i := 38) rfl), by decide +kernel, rfl, by decide +kernel⟩
theorem lk_0_20 : zMok 0 20 (3, 1, mt_X4_init) := ⟨gk_X4_init, zm1 (List.mem_of_getElem? (i := 80) rfl), zm1 (List.mem_of_getElem? (i := 81) rfl), by decide +kernel, rfl, by decide +kernel⟩
theorem lk_0_27 : zMok 0 27 (3, 1, mt_X5_init) := ⟨gk_X5_init, zm1 (List.mem_of_getElem? (i := 119) rfl), zm1 (List.mem_of_getElem? (i := 120) rfl), by decide +kernel, rfl, by decide +kernel⟩
theorem lk_0_34 : zMok 0 34 (3, 1, mt_X1_init) := ⟨gk_X1_init, zm1 (List.mem_of_getElem? (i := 138) rfl), zm1 (List.mem_of_getElem? (i := 139) rfl), by decide +kernel, rfl, by decide +kernel⟩
theorem lk_0_41 : zMok 0 41 (3, 1, mt_X8_init) := ⟨gk_X8_init, zm1 (List.mem_of_getElem? (i := 159) rfl), zm1 (List.mem_of_getElem? (i := 160) rfl), by decide +kernel, rfl, by decide +kernel⟩
theorem lk_0_61 : zMok 0 61 (0, 2, mt_X2_copyFrom) := ⟨gk_X2_copyFrom, zm4 (List.mem_of_getElem? (i := 115) rfl), zm4 (List.mem_of_getElem? (i := 116) rfl), zm4 (List.mem_of_getElem? (i := 117) rfl), by decide +kernel⟩
theorem lk_0_65 : zMok 0 65 (0, 2, mt_X4_copyFrom) := ⟨gk_X4_copyFrom, zm4 (List.mem_of_getElem? (i := 120) rfl), zm4 (List.mem_of_getElem? (i := 121) rfl), zm4 (List.mem_of_getElem? (i := 122) rfl), by decide +kernel⟩
theorem lk_0_68 : zMok 0 68 (0, 2, mt_X5_copyFrom) := ⟨gk_X5_copyFrom, zm4 (List.mem_of_getElem? (i := 124) rfl), zm4 (List.mem_of_getElem? (i := 125) rfl), zm4 (List.mem_of_getElem? (i := 126) rfl), by decide +kernel⟩
theorem lk_0_71 : zMok 0 71 (0, 2, mt_X1_copyFrom) := ⟨gk_X1_copyFrom, zm4 (List.mem_of_getElem? (i := 129) rfl), zm4 (List.mem_of_getElem? (i := 130) rfl), zm4 (List.mem_of_getElem? (i := 131) rfl), by decide +kernel⟩
theorem lk_0_74 : zMok 0 74 (0, 2, mt_X8_copyFrom) := ⟨gk_X8_copyFrom, zm4 (List.mem_of_getElem? (i := 134) rfl), zm4 (List.mem_of_getElem? (i := 135) rfl), zm4 (List.mem_of_getElem? (i := 136) rfl), by decide +kernel⟩
theorem lk_0_83 : zMok 0 83 (0, 4, mt_X4_sum) := ⟨gk_X4_sum, zm2 (List.mem_of_getElem? (i := 125) rfl), zm2 (List.mem_of_getElem? (i := 126) rfl), zm2 (List.mem_of_getElem? (i := 127) rfl), by decide +kernel⟩
theorem lk_0_94 : zMok 0 94 (0, 3, mt_X2_isInBranch) := ⟨gk_X2_isInBranch, zm3 (List.mem_of_getElem? (i := 10) rfl), zm2 (List.mem_of_getElem? (i := 102) rfl), zm2 (List.mem_of_getElem? (i := 103) rfl), by decide +kernel⟩
theorem lk_0_98 : zMok 0 98 (0, 3, mt_X3_become) := ⟨gk_X3_become, zm3 (List.mem_of_getElem? (i := 93) rfl), zm3 (List.mem_of_getElem? (i := 72) rfl), zm3 (List.mem_of_getElem? (i := 73) rfl), by decide +kernel⟩
theorem lk_0_104 : zMok 0 104 (0, 3, mt_X5_findHeld) := ⟨gk_X5_findHeld, zm3 (List.mem_of_getElem? (i := 94) rfl), zm3 (List.mem_of_getElem? (i := 55) rfl), zm3 (List.mem_of_getElem? (i := 56) rfl), by decide +kernel⟩
theorem lk_0_108 : zMok 0 108 (0, 5, mt_X0_sumOfBranch) := ⟨gk_X0_sumOfBranch, zm3 (List.mem_of_getElem? (i := 95) rfl), zm3 (List.mem_of_getElem? (i := 7) rfl), zm3 (List.mem_of_getElem? (i := 8) rfl), by decide +kernel⟩
theorem lk_0_112 : zMok 0 112 (0, 2, mt_X5_aboveAt) := ⟨gk_X5_aboveAt, zm3 (List.mem_of_getElem? (i := 96) rfl), zm3 (List.mem_of_getElem? (i := 64) rfl), zm3 (List.mem_of_getElem? (i := 65) rfl), by decide +kernel⟩
theorem lk_0_116 : zMok 0 116 (0, 2, mt_X5_belowAt) := ⟨gk_X5_belowAt, zm3 (List.mem_of_getElem? (i := 97) rfl), zm3 (List.mem_of_getElem? (i := 68) rfl), zm3 (List.mem_of_getElem? (i := 69) rfl), by decide +kernel⟩
theorem lk_0_119 : zMok 0 119 (0, 3, mt_X3_add) := ⟨gk_X3_add, zm3 (List.mem_of_getElem? (i := 98) rfl), zm3 (List.mem_of_getElem? (i := 99) rfl), zm3 (List.mem_of_getElem? (i := 100) rfl), by decide +kernel⟩
theorem lk_0_130 : zMok 0 130 (0, 3, mt_X1_add) := ⟨gk_X1_add, zm2 (List.mem_of_getElem? (i := 167) rfl), zm2 (List.mem_of_getElem? (i := 168) rfl), zm2 (List.mem_of_getElem? (i := 169) rfl), by decide +kernel⟩
theorem lk_0_133 : zMok 0 133 (0, 2, mt_X0_canBePosted) := ⟨gk_X0_canBePosted, zm2 (List.mem_of_getElem? (i := 171) rfl), zm2 (List.mem_of_getElem? (i := 173) rfl), zm0 (List.mem_of_getElem? (i := 2) rfl), by decide +kernel⟩
theorem lk_0_140 : zMok 0 140 (0, 4, mt_X4_add) := ⟨gk_X4_add, zm2 (List.mem_of_getElem? (i := 192) rfl), zm2 (List.mem_of_getElem? (i := 193) rfl), zm2 (List.mem_of_getElem? (i := 194) rfl), by decide +kernel⟩
theorem lk_0_146 : zMok 0 146 (0, 2, mt_X0_findUnbalanced) := ⟨gk_X0_findUnbalanced, zm2 (List.mem_of_getElem? (i := 175) rfl), zm2 (List.mem_of_getElem? (i := 177) rfl), zm0 (List.mem_of_getElem? (i := 3) rfl), by decide +kernel⟩
theorem lk_0_150 : zMok 0 150 (0, 2, mt_X0_isClosedOn) := ⟨gk_X0_isClosedOn, zm2 (List.mem_of_getElem? (i := 179) rfl), zm2 (List.mem_of_getElem? (i := 180) rfl), zm2 (List.mem_of_getElem? (i := 181) rfl), by decide +kernel⟩
theorem lk_0_154 : zMok 0 154 (0, 2, mt_X0_keepsLimits) := ⟨gk_X0_keepsLimits, zm2 (List.mem_of_getElem? (i := 183) rfl), zm2 (List.mem_of_getElem? (i := 185) rfl), zm0 (List.mem_of_getElem? (i := 4) rfl), by decide +kernel⟩
theorem lk_0_163 : zMok 0 163 (0, 2, mt_X0_sumByNow) := ⟨gk_X0_sumByNow, zm2 (List.mem_of_getElem? (i := 187) rfl), zm2 (List.mem_of_getElem? (i := 122) rfl), zm2 (List.mem_of_getElem? (i := 123) rfl), by decide +kernel⟩
theorem lk_0_166 : zMok 0 166 (0, 2, mt_X8_sum) := ⟨gk_X8_sum, zm2 (List.mem_of_getElem? (i := 188) rfl), zm2 (List.mem_of_getElem? (i := 189) rfl), zm2 (List.mem_of_getElem? (i := 190) rfl), by decide +kernel⟩
theorem lk_2_47 : zMok 2 47 (0, 3, mt_X2_isInBranch) := ⟨gk_X2_isInBranch, zm2 (List.mem_of_getElem? (i := 101) rfl), zm2 (List.mem_of_getElem? (i := 102) rfl), zm2 (List.mem_of_getElem? (i := 103) rfl), by decide +kernel⟩
theorem lk_3_16 : zMok 3 16 (1, 1, mt_J9_abs_067f4) := ⟨gk_J9_abs_067f4, zm3 (List.mem_of_getElem? (i := 75) rfl), zm3 (List.mem_of_getElem? (i := 76) rfl), by decide +kernel⟩
theorem lk_3_22 : zMok 3 22 (1, 2, mt_X3_commonDivisor) := ⟨gk_X3_commonDivisor, zm3 (List.mem_of_getElem? (i := 78) rfl), zm3 (List.mem_of_getElem? (i := 79) rfl), by decide +kernel⟩
theorem lk_3_26 : zMok 3 26 (0, 3, mt_X3_become) := ⟨gk_X3_become, zm3 (List.mem_of_getElem? (i := 102) rfl), zm3 (List.mem_of_getElem? (i := 72) rfl), zm3 (List.mem_of_getElem? (i := 73) rfl), by decide +kernel⟩
theorem lk_4_40 : zMok 4 40 (0, 1, mt_X4_isFull) := ⟨gk_X4_isFull, zm2 (List.mem_of_getElem? (i := 196) rfl), zm2 (List.mem_of_getElem? (i := 142) rfl), zm2 (List.mem_of_getElem? (i := 143) rfl), by decide +kernel⟩
theorem lk_4_48 : zMok 4 48 (0, 2, mt_X4_has) := ⟨gk_X4_has, zm2 (List.mem_of_getElem? (i := 197) rfl), zm2 (List.mem_of_getElem? (i := 198) rfl), zm2 (List.mem_of_getElem? (i := 199) rfl), by decide +kernel⟩
theorem lk_4_54 : zMok 4 54 (0, 3, mt_X8_add) := ⟨gk_X8_add, zm2 (List.mem_of_getElem? (i := 217) rfl), zm2 (List.mem_of_getElem? (i := 152) rfl), zm2 (List.mem_of_getElem? (i := 153) rfl), by decide +kernel⟩
theorem lk_4_58 : zMok 4 58 (0, 2, mt_X4_isReversible) := ⟨gk_X4_isReversible, zm4 (List.mem_of_getElem? (i := 29) rfl), zm2 (List.mem_of_getElem? (i := 210) rfl), zm2 (List.mem_of_getElem? (i := 211) rfl), by decide +kernel⟩
theorem lk_4_61 : zMok 4 61 (0, 3, mt_X4_sumIn) := ⟨gk_X4_sumIn, zm2 (List.mem_of_getElem? (i := 129) rfl), zm2 (List.mem_of_getElem? (i := 131) rfl), zm0 (List.mem_of_getElem? (i := 1) rfl), by decide +kernel⟩
theorem lk_4_67 : zMok 4 67 (0, 3, mt_X4_sealWith) := ⟨gk_X4_sealWith, zm3 (List.mem_of_getElem? (i := 29) rfl), zm3 (List.mem_of_getElem? (i := 31) rfl), zm0 (List.mem_of_getElem? (i := 5) rfl), by decide +kernel⟩
theorem lk_4_73 : zMok 4 73 (0, 3, mt_X4_isLine) := ⟨gk_X4_isLine, zm2 (List.mem_of_getElem? (i := 113) rfl), zm2 (List.mem_of_getElem? (i := 115) rfl), zm0 (List.mem_of_getElem? (i := 0) rfl), by decide +kernel⟩
theorem lk_4_77 : zMok 4 77 (0, 4, mt_X4_lineOf) := ⟨gk_X4_lineOf, zm3 (List.mem_of_getElem? (i := 138) rfl), zm3 (List.mem_of_getElem? (i := 140) rfl), zm0 (List.mem_of_getElem? (i := 6) rfl), by decide +kernel⟩
theorem lk_5_30 : zMok 5 30 (0, 3, mt_X5_findHeld) := ⟨gk_X5_findHeld, zm3 (List.mem_of_getElem? (i := 54) rfl), zm3 (List.mem_of_getElem? (i := 55) rfl), zm3 (List.mem_of_getElem? (i := 56) rfl), by decide +kernel⟩
theorem lk_7_25 : zMok 7 25 (0, 2, mt_X7_add) := ⟨gk_X7_add, zm4 (List.mem_of_getElem? (i := 38) rfl), zm4 (List.mem_of_getElem? (i := 40) rfl), zm0 (List.mem_of_getElem? (i := 11) rfl), by decide +kernel⟩
theorem lk_7_32 : zMok 7 32 (0, 2, mt_X7_addNumber) := ⟨gk_X7_addNumber, zm4 (List.mem_of_getElem? (i := 42) rfl), zm4 (List.mem_of_getElem? (i := 44) rfl), zm0 (List.mem_of_getElem? (i := 12) rfl), by decide +kernel⟩
theorem lk_7_52 : zMok 7 52 (1, 1, mt_J9_abs_0f7a4) := ⟨gk_J9_abs_0f7a4, zm4 (List.mem_of_getElem? (i := 46) rfl), zm4 (List.mem_of_getElem? (i := 47) rfl), by decide +kernel⟩
theorem lk_9_33 : zMok 9 33 (0, 3, mt_X9_takePart) := ⟨gk_X9_takePart, zm3 (List.mem_of_getElem? (i := 197) rfl), zm3 (List.mem_of_getElem? (i := 199) rfl), zm0 (List.mem_of_getElem? (i := 7) rfl), by decide +kernel⟩
theorem lk_9_37 : zMok 9 37 (0, 1, mt_X9_here) := ⟨gk_X9_here, zm3 (List.mem_of_getElem? (i := 205) rfl), zm3 (List.mem_of_getElem? (i := 207) rfl), zm0 (List.mem_of_getElem? (i := 9) rfl), by decide +kernel⟩
theorem lk_9_41 : zMok 9 41 (0, 1, mt_X9_takeReversed) := ⟨gk_X9_takeReversed, zm3 (List.mem_of_getElem? (i := 212) rfl), zm3 (List.mem_of_getElem? (i := 214) rfl), zm0 (List.mem_of_getElem? (i := 10) rfl), by decide +kernel⟩
theorem lk_9_44 : zMok 9 44 (0, 2, mt_X9_takeFigures) := ⟨gk_X9_takeFigures, zm3 (List.mem_of_getElem? (i := 201) rfl), zm3 (List.mem_of_getElem? (i := 203) rfl), zm0 (List.mem_of_getElem? (i := 8) rfl), by decide +kernel⟩
theorem lk_9_48 : zMok 9 48 (0, 2, mt_X2_has) := ⟨gk_X2_has, zm3 (List.mem_of_getElem? (i := 209) rfl), zm2 (List.mem_of_getElem? (i := 76) rfl), zm2 (List.mem_of_getElem? (i := 77) rfl), by decide +kernel⟩
theorem lk_9_55 : zMok 9 55 (0, 3, mt_X8_add) := ⟨gk_X8_add, zm3 (List.mem_of_getElem? (i := 211) rfl), zm2 (List.mem_of_getElem? (i := 152) rfl), zm2 (List.mem_of_getElem? (i := 153) rfl), by decide +kernel⟩
theorem lk_10_11 : zMok 10 11 (3, 1, mt_X0_init) := ⟨gk_X0_init, zm1 (List.mem_of_getElem? (i := 31) rfl), zm1 (List.mem_of_getElem? (i := 32) rfl), by decide +kernel, rfl, by decide +kernel⟩
theorem lk_10_23 : zMok 10 23 (3, 1, mt_X8_init) := ⟨gk_X8_init, zm1 (List.mem_of_getElem? (i := 219) rfl), zm1 (List.mem_of_getElem? (i := 160) rfl), by decide +kernel, rfl, by decide +kernel⟩
theorem lk_10_30 : zMok 10 30 (3, 1, mt_X9_init) := ⟨gk_X9_init, zm1 (List.mem_of_getElem? (i := 222) rfl), zm1 (List.mem_of_getElem? (i := 223) rfl), by decide +kernel, rfl, by decide +kernel⟩
theorem lk_10_37 : zMok 10 37 (3, 1, mt_X7_init) := ⟨gk_X7_init, zm2 (List.mem_of_getElem? (i := 8) rfl), zm2 (List.mem_of_getElem? (i := 9) rfl), by decide +kernel, rfl, by decide +kernel⟩
theorem lk_10_44 : zMok 10 44 (2, 1, mt_X6_init) := ⟨gk_X6_init, zm2 (List.mem_of_getElem? (i := 23) rfl), zm2 (List.mem_of_getElem? (i := 24) rfl), by decide +kernel, rfl, by decide +kernel⟩
theorem lk_10_51 : zMok 10 51 (3, 1, mt_X3_init) := ⟨gk_X3_init, zm2 (List.mem_of_getElem? (i := 36) rfl), zm2 (List.mem_of_getElem? (i := 37) rfl), by decide +kernel, rfl, by decide +kernel⟩
theorem lk_10_60 : zMok 10 60 (0, 2, mt_X2_has) := ⟨gk_X2_has, zm2 (List.mem_of_getElem? (i := 75) rfl), zm2 (List.mem_of_getElem? (i := 76) rfl), zm2 (List.mem_of_getElem? (i := 77) rfl), by decide +kernel⟩
theorem lk_10_66 : zMok 10 66 (1, 1, mt_X10_isCurrency) := ⟨gk_X10_isCurrency, zm2 (List.mem_of_getElem? (i := 79) rfl), zm2 (List.mem_of_getElem? (i := 80) rfl), by decide +kernel⟩
theorem lk_10_69 : zMok 10 69 (1, 1, mt_X10_isSort) := ⟨gk_X10_isSort, zm2 (List.mem_of_getElem? (i := 82) rfl), zm2 (List.mem_of_getElem? (i := 83) rfl), by decide +kernel⟩
theorem lk_10_72 : zMok 10 72 (0, 4, mt_X2_add) := ⟨gk_X2_add, zm2 (List.mem_of_getElem? (i := 85) rfl), zm2 (List.mem_of_getElem? (i := 86) rfl), zm2 (List.mem_of_getElem? (i := 87) rfl), by decide +kernel⟩
theorem lk_10_86 : zMok 10 86 (0, 2, mt_X2_countStraightBelow) := ⟨gk_X2_countStraightBelow, zm2 (List.mem_of_getElem? (i := 93) rfl), zm2 (List.mem_of_getElem? (i := 94) rfl), zm2 (List.mem_of_getElem? (i := 95) rfl), by decide +kernel⟩
theorem lk_10_90 : zMok 10 90 (0, 2, mt_X2_countBranch) := ⟨gk_X2_countBranch, zm2 (List.mem_of_getElem? (i := 97) rfl), zm2 (List.mem_of_getElem? (i := 98) rfl), zm2 (List.mem_of_getElem? (i := 99) rfl), by decide +kernel⟩
theorem lk_10_93 : zMok 10 93 (0, 2, mt_X2_countAbove) := ⟨gk_X2_countAbove, zm2 (List.mem_of_getElem? (i := 105) rfl), zm2 (List.mem_of_getElem? (i := 106) rfl), zm2 (List.mem_of_getElem? (i := 107) rfl), by decide +kernel⟩
theorem lk_10_100 : zMok 10 100 (0, 2, mt_X4_countLines) := ⟨gk_X4_countLines, zm2 (List.mem_of_getElem? (i := 109) rfl), zm2 (List.mem_of_getElem? (i := 110) rfl), zm2 (List.mem_of_getElem? (i := 111) rfl), by decide +kernel⟩
theorem lk_10_105 : zMok 10 105 (0, 2, mt_X0_sumByNow) := ⟨gk_X0_sumByNow, zm2 (List.mem_of_getElem? (i := 121) rfl), zm2 (List.mem_of_getElem? (i := 122) rfl), zm2 (List.mem_of_getElem? (i := 123) rfl), by decide +kernel⟩
theorem lk_10_124 : zMok 10 124 (0, 1, mt_X4_isFull) := ⟨gk_X4_isFull, zm2 (List.mem_of_getElem? (i := 141) rfl), zm2 (List.mem_of_getElem? (i := 142) rfl), zm2 (List.mem_of_getElem? (i := 143) rfl), by decide +kernel⟩
theorem lk_10_141 : zMok 10 141 (0, 3, mt_X8_add) := ⟨gk_X8_add, zm2 (List.mem_of_getElem? (i := 151) rfl), zm2 (List.mem_of_getElem? (i := 152) rfl), zm2 (List.mem_of_getElem? (i := 153) rfl), by decide +kernel⟩
theorem lk_10_144 : zMok 10 144 (0, 3, mt_X0_tryToPost) := ⟨gk_X0_tryToPost, zm2 (List.mem_of_getElem? (i := 163) rfl), zm2 (List.mem_of_getElem? (i := 164) rfl), zm2 (List.mem_of_getElem? (i := 165) rfl), by decide +kernel⟩
theorem lk_10_148 : zMok 10 148 (0, 2, mt_X4_has) := ⟨gk_X4_has, zm2 (List.mem_of_getElem? (i := 208) rfl), zm2 (List.mem_of_getElem? (i := 198) rfl), zm2 (List.mem_of_getElem? (i := 199) rfl), by decide +kernel⟩
theorem lk_10_149 : zMok 10 149 (0, 2, mt_X4_isReversible) := ⟨gk_X4_isReversible, zm2 (List.mem_of_getElem? (i := 209) rfl), zm2 (List.mem_of_getElem? (i := 210) rfl), zm2 (List.mem_of_getElem? (i := 211) rfl), by decide +kernel⟩
theorem lk_10_152 : zMok 10 152 (0, 3, mt_X4_writeReversal) := ⟨gk_X4_writeReversal, zm2 (List.mem_of_getElem? (i := 213) rfl), zm2 (List.mem_of_getElem? (i := 214) rfl), zm2 (List.mem_of_getElem? (i := 215) rfl), by decide +kernel⟩
theorem lk_10_166 : zMok 10 166 (1, 1, mt_X10_isOneOfTwo) := ⟨gk_X10_isOneOfTwo, zm2 (List.mem_of_getElem? (i := 226) rfl), zm2 (List.mem_of_getElem? (i := 227) rfl), by decide +kernel⟩
theorem lk_10_190 : zMok 10 190 (1, 1, mt_X10_isDay) := ⟨gk_X10_isDay, zm2 (List.mem_of_getElem? (i := 238) rfl), zm2 (List.mem_of_getElem? (i := 239) rfl), by decide +kernel⟩
theorem lk_10_193 : zMok 10 193 (0, 4, mt_X4_sum) := ⟨gk_X4_sum, zm3 (List.mem_of_getElem? (i := 1) rfl), zm2 (List.mem_of_getElem? (i := 126) rfl), zm2 (List.mem_of_getElem? (i := 127) rfl), by decide +kernel⟩
theorem lk_10_197 : zMok 10 197 (0, 5, mt_X0_sumOfBranch) := ⟨gk_X0_sumOfBranch, zm3 (List.mem_of_getElem? (i := 6) rfl), zm3 (List.mem_of_getElem? (i := 7) rfl), zm3 (List.mem_of_getElem? (i := 8) rfl), by decide +kernel⟩
theorem lk_10_201 : zMok 10 201 (1, 1, mt_X10_isPeriod) := ⟨gk_X10_isPeriod, zm3 (List.mem_of_getElem? (i := 15) rfl), zm3 (List.mem_of_getElem? (i := 16) rfl), by decide +kernel⟩
theorem lk_10_207 : zMok 10 207 (1, 1, mt_X10_firstDay) := ⟨gk_X10_firstDay, zm3 (List.mem_of_getElem? (i := 18) rfl), zm3 (List.mem_of_getElem? (i := 19) rfl), by decide +kernel⟩
theorem lk_10_213 : zMok 10 213 (1, 1, mt_X10_lastDay) := ⟨gk_X10_lastDay, zm3 (List.mem_of_getElem? (i := 21) rfl), zm3 (List.mem_of_getElem? (i := 22) rfl), by decide +kernel⟩
theorem lk_10_216 : zMok 10 216 (0, 3, mt_X4_sealOver) := ⟨gk_X4_sealOver, zm3 (List.mem_of_getElem? (i := 24) rfl), zm3 (List.mem_of_getElem? (i := 25) rfl), zm3 (List.mem_of_getElem? (i := 26) rfl), by decide +kernel⟩
theorem lk_10_220 : zMok 10 220 (1, 1, mt_X10_isRatePart) := ⟨gk_X10_isRatePart, zm3 (List.mem_of_getElem? (i := 46) rfl), zm3 (List.mem_of_getElem? (i := 47) rfl), by decide +kernel⟩
theorem lk_10_223 : zMok 10 223 (0, 2, mt_X0_isClosedOn) := ⟨gk_X0_isClosedOn, zm3 (List.mem_of_getElem? (i := 49) rfl), zm2 (List.mem_of_getElem? (i := 180) rfl), zm2 (List.mem_of_getElem? (i := 181) rfl), by decide +kernel⟩
theorem lk_10_230 : zMok 10 230 (0, 5, mt_X5_tell) := ⟨gk_X5_tell, zm3 (List.mem_of_getElem? (i := 50) rfl), zm3 (List.mem_of_getElem? (i := 51) rfl), zm3 (List.mem_of_getElem? (i := 52) rfl), by decide +kernel⟩
theorem lk_10_236 : zMok 10 236 (0, 3, mt_X5_findHeld) := ⟨gk_X5_findHeld, zm3 (List.mem_of_getElem? (i := 62) rfl), zm3 (List.mem_of_getElem? (i := 55) rfl), zm3 (List.mem_of_getElem? (i := 56) rfl), by decide +kernel⟩
theorem lk_10_240 : zMok 10 240 (0, 2, mt_X5_aboveAt) := ⟨gk_X5_aboveAt, zm3 (List.mem_of_getElem? (i := 63) rfl), zm3 (List.mem_of_getElem? (i := 64) rfl), zm3 (List.mem_of_getElem? (i := 65) rfl), by decide +kernel⟩
theorem lk_10_243 : zMok 10 243 (0, 2, mt_X5_belowAt) := ⟨gk_X5_belowAt, zm3 (List.mem_of_getElem? (i := 67) rfl), zm3 (List.mem_of_getElem? (i := 68) rfl), zm3 (List.mem_of_getElem? (i := 69) rfl), by decide +kernel⟩
theorem lk_10_246 : zMok 10 246 (0, 3, mt_X3_become) := ⟨gk_X3_become, zm3 (List.mem_of_getElem? (i := 71) rfl), zm3 (List.mem_of_getElem? (i := 72) rfl), zm3 (List.mem_of_getElem? (i := 73) rfl), by decide +kernel⟩
theorem lk_10_250 : zMok 10 250 (0, 2, mt_X3_half) := ⟨gk_X3_half, zm3 (List.mem_of_getElem? (i := 81) rfl), zm3 (List.mem_of_getElem? (i := 82) rfl), zm3 (List.mem_of_getElem? (i := 83) rfl), by decide +kernel⟩
theorem lk_10_253 : zMok 10 253 (0, 4, mt_X0_writeValue) := ⟨gk_X0_writeValue, zm3 (List.mem_of_getElem? (i := 89) rfl), zm3 (List.mem_of_getElem? (i := 90) rfl), zm3 (List.mem_of_getElem? (i := 91) rfl), by decide +kernel⟩
theorem lk_10_257 : zMok 10 257 (0, 1, mt_X3_quotient) := ⟨gk_X3_quotient, zm3 (List.mem_of_getElem? (i := 107) rfl), zm3 (List.mem_of_getElem? (i := 108) rfl), zm3 (List.mem_of_getElem? (i := 109) rfl), by decide +kernel⟩
theorem lk_10_261 : zMok 10 261 (1, 1, mt_X10_bitsOfDouble) := ⟨gk_X10_bitsOfDouble, zm3 (List.mem_of_getElem? (i := 111) rfl), zm3 (List.mem_of_getElem? (i := 112) rfl), by decide +kernel⟩
theorem lk_10_265 : zMok 10 265 (1, 1, mt_X10_bitsOfFloat) := ⟨gk_X10_bitsOfFloat, zm3 (List.mem_of_getElem? (i := 119) rfl), zm3 (List.mem_of_getElem? (i := 120) rfl), by decide +kernel⟩
theorem lk_10_269 : zMok 10 269 (0, 6, mt_X0_writeGain) := ⟨gk_X0_writeGain, zm3 (List.mem_of_getElem? (i := 126) rfl), zm3 (List.mem_of_getElem? (i := 127) rfl), zm3 (List.mem_of_getElem? (i := 128) rfl), by decide +kernel⟩
theorem lk_10_273 : zMok 10 273 (0, 4, mt_X4_lineAt) := ⟨gk_X4_lineAt, zm3 (List.mem_of_getElem? (i := 134) rfl), zm3 (List.mem_of_getElem? (i := 135) rfl), zm3 (List.mem_of_getElem? (i := 136) rfl), by decide +kernel⟩
theorem lk_10_277 : zMok 10 277 (1, 2, mt_J9_max_f86c9) := ⟨gk_J9_max_f86c9, zm3 (List.mem_of_getElem? (i := 147) rfl), zm3 (List.mem_of_getElem? (i := 148) rfl), by decide +kernel⟩
theorem lk_10_283 : zMok 10 283 (1, 2, mt_J9_min_f86c9) := ⟨gk_J9_min_f86c9, zm3 (List.mem_of_getElem? (i := 150) rfl), zm3 (List.mem_of_getElem? (i := 151) rfl), by decide +kernel⟩
theorem lk_10_289 : zMok 10 289 (0, 3, mt_X2_findMeeting) := ⟨gk_X2_findMeeting, zm3 (List.mem_of_getElem? (i := 173) rfl), zm3 (List.mem_of_getElem? (i := 174) rfl), zm3 (List.mem_of_getElem? (i := 175) rfl), by decide +kernel⟩
theorem lk_10_295 : zMok 10 295 (0, 2, mt_X9_add) := ⟨gk_X9_add, zm3 (List.mem_of_getElem? (i := 181) rfl), zm3 (List.mem_of_getElem? (i := 182) rfl), zm3 (List.mem_of_getElem? (i := 183) rfl), by decide +kernel⟩
theorem lk_10_298 : zMok 10 298 (0, 3, mt_X9_parse) := ⟨gk_X9_parse, zm3 (List.mem_of_getElem? (i := 193) rfl), zm3 (List.mem_of_getElem? (i := 194) rfl), zm3 (List.mem_of_getElem? (i := 195) rfl), by decide +kernel⟩
theorem lk_10_308 : zMok 10 308 (0, 4, mt_X4_isReversal) := ⟨gk_X4_isReversal, zm4 (List.mem_of_getElem? (i := 25) rfl), zm4 (List.mem_of_getElem? (i := 26) rfl), zm4 (List.mem_of_getElem? (i := 27) rfl), by decide +kernel⟩
theorem lk_10_312 : zMok 10 312 (0, 3, mt_X7_write) := ⟨gk_X7_write, zm4 (List.mem_of_getElem? (i := 34) rfl), zm4 (List.mem_of_getElem? (i := 35) rfl), zm4 (List.mem_of_getElem? (i := 36) rfl), by decide +kernel⟩
theorem lk_10_321 : zMok 10 321 (0, 1, mt_X4_countReversals) := ⟨gk_X4_countReversals, zm4 (List.mem_of_getElem? (i := 60) rfl), zm4 (List.mem_of_getElem? (i := 61) rfl), zm4 (List.mem_of_getElem? (i := 62) rfl), by decide +kernel⟩
theorem lk_10_325 : zMok 10 325 (1, 1, mt_X10_isList) := ⟨gk_X10_isList, zm4 (List.mem_of_getElem? (i := 68) rfl), zm4 (List.mem_of_getElem? (i := 69) rfl), by decide +kernel⟩
theorem lk_10_328 : zMok 10 328 (0, 3, mt_X6_make) := ⟨gk_X6_make, zm4 (List.mem_of_getElem? (i := 71) rfl), zm4 (List.mem_of_getElem? (i := 72) rfl), zm4 (List.mem_of_getElem? (i := 73) rfl), by decide +kernel⟩
theorem lk_10_331 : zMok 10 331 (0, 2, mt_X6_isHeld) := ⟨gk_X6_isHeld, zm4 (List.mem_of_getElem? (i := 79) rfl), zm4 (List.mem_of_getElem? (i := 80) rfl), zm4 (List.mem_of_getElem? (i := 81) rfl), by decide +kernel⟩
theorem lk_10_334 : zMok 10 334 (0, 3, mt_X6_hasPlace) := ⟨gk_X6_hasPlace, zm4 (List.mem_of_getElem? (i := 83) rfl), zm4 (List.mem_of_getElem? (i := 84) rfl), zm4 (List.mem_of_getElem? (i := 85) rfl), by decide +kernel⟩
theorem lk_10_338 : zMok 10 338 (0, 4, mt_X6_put) := ⟨gk_X6_put, zm4 (List.mem_of_getElem? (i := 87) rfl), zm4 (List.mem_of_getElem? (i := 88) rfl), zm4 (List.mem_of_getElem? (i := 89) rfl), by decide +kernel⟩
theorem lk_10_342 : zMok 10 342 (0, 3, mt_X6_at) := ⟨gk_X6_at, zm4 (List.mem_of_getElem? (i := 95) rfl), zm4 (List.mem_of_getElem? (i := 96) rfl), zm4 (List.mem_of_getElem? (i := 97) rfl), by decide +kernel⟩
theorem lk_10_345 : zMok 10 345 (0, 2, mt_X0_copyFrom) := ⟨gk_X0_copyFrom, zm4 (List.mem_of_getElem? (i := 111) rfl), zm4 (List.mem_of_getElem? (i := 112) rfl), zm4 (List.mem_of_getElem? (i := 113) rfl), by decide +kernel⟩
theorem lk_10_349 : zMok 10 349 (1, 3, mt_X10_bitsInForm) := ⟨gk_X10_bitsInForm, zm3 (List.mem_of_getElem? (i := 114) rfl), zm3 (List.mem_of_getElem? (i := 115) rfl), by decide +kernel⟩
theorem lk_11_51 : zMok 11 51 (0, 4, mt_X11_addAccount) := ⟨gk_X11_addAccount, zm4 (List.mem_of_getElem? (i := 150) rfl), zm4 (List.mem_of_getElem? (i := 152) rfl), zm0 (List.mem_of_getElem? (i := 13) rfl), by decide +kernel⟩
theorem lk_11_55 : zMok 11 55 (1, 3, mt_X11_in) := ⟨gk_X11_in, zm4 (List.mem_of_getElem? (i := 228) rfl), zm4 (List.mem_of_getElem? (i := 229) rfl), by decide +kernel⟩
theorem lk_11_63 : zMok 11 63 (0, 2, mt_X11_isAccount) := ⟨gk_X11_isAccount, zm4 (List.mem_of_getElem? (i := 224) rfl), zm4 (List.mem_of_getElem? (i := 226) rfl), zm0 (List.mem_of_getElem? (i := 14) rfl), by decide +kernel⟩
theorem lk_11_67 : zMok 11 67 (1, 1, mt_X11_isCurrency) := ⟨gk_X11_isCurrency, zm4 (List.mem_of_getElem? (i := 231) rfl), zm4 (List.mem_of_getElem? (i := 232) rfl), by decide +kernel⟩
theorem lk_11_70 : zMok 11 70 (0, 3, mt_X11_isOf) := ⟨gk_X11_isOf, zm4 (List.mem_of_getElem? (i := 238) rfl), zm5 (List.mem_of_getElem? (i := 0) rfl), zm0 (List.mem_of_getElem? (i := 15) rfl), by decide +kernel⟩
theorem lk_11_74 : zMok 11 74 (0, 2, mt_X11_above) := ⟨gk_X11_above, zm5 (List.mem_of_getElem? (i := 2) rfl), zm5 (List.mem_of_getElem? (i := 4) rfl), zm0 (List.mem_of_getElem? (i := 16) rfl), by decide +kernel⟩
theorem lk_11_78 : zMok 11 78 (0, 2, mt_X11_linesOf) := ⟨gk_X11_linesOf, zm5 (List.mem_of_getElem? (i := 6) rfl), zm5 (List.mem_of_getElem? (i := 8) rfl), zm0 (List.mem_of_getElem? (i := 17) rfl), by decide +kernel⟩
theorem lk_11_81 : zMok 11 81 (0, 3, mt_X11_balanceBy) := ⟨gk_X11_balanceBy, zm5 (List.mem_of_getElem? (i := 21) rfl), zm5 (List.mem_of_getElem? (i := 23) rfl), zm0 (List.mem_of_getElem? (i := 19) rfl), by decide +kernel⟩
theorem lk_11_85 : zMok 11 85 (1, 1, mt_X11_isDay) := ⟨gk_X11_isDay, zm5 (List.mem_of_getElem? (i := 18) rfl), zm5 (List.mem_of_getElem? (i := 19) rfl), by decide +kernel⟩
theorem lk_11_88 : zMok 11 88 (0, 4, mt_X11_branchBy) := ⟨gk_X11_branchBy, zm5 (List.mem_of_getElem? (i := 29) rfl), zm5 (List.mem_of_getElem? (i := 31) rfl), zm0 (List.mem_of_getElem? (i := 20) rfl), by decide +kernel⟩
theorem lk_11_92 : zMok 11 92 (0, 1, mt_X11_postings) := ⟨gk_X11_postings, zm5 (List.mem_of_getElem? (i := 10) rfl), zm5 (List.mem_of_getElem? (i := 12) rfl), zm0 (List.mem_of_getElem? (i := 18) rfl), by decide +kernel⟩
theorem lk_11_100 : zMok 11 100 (0, 3, mt_X11_layPosting) := ⟨gk_X11_layPosting, zm5 (List.mem_of_getElem? (i := 51) rfl), zm5 (List.mem_of_getElem? (i := 53) rfl), zm0 (List.mem_of_getElem? (i := 21) rfl), by decide +kernel⟩
theorem lk_11_104 : zMok 11 104 (0, 3, mt_X11_addCause) := ⟨gk_X11_addCause, zm5 (List.mem_of_getElem? (i := 71) rfl), zm5 (List.mem_of_getElem? (i := 73) rfl), zm0 (List.mem_of_getElem? (i := 24) rfl), by decide +kernel⟩
theorem lk_11_108 : zMok 11 108 (0, 3, mt_X11_causedAs) := ⟨gk_X11_causedAs, zm5 (List.mem_of_getElem? (i := 67) rfl), zm5 (List.mem_of_getElem? (i := 69) rfl), zm0 (List.mem_of_getElem? (i := 23) rfl), by decide +kernel⟩
theorem lk_11_111 : zMok 11 111 (0, 2, mt_X11_behind) := ⟨gk_X11_behind, zm5 (List.mem_of_getElem? (i := 83) rfl), zm5 (List.mem_of_getElem? (i := 85) rfl), zm0 (List.mem_of_getElem? (i := 27) rfl), by decide +kernel⟩
theorem lk_11_115 : zMok 11 115 (0, 1, mt_X11_isUnbalanced) := ⟨gk_X11_isUnbalanced, zm5 (List.mem_of_getElem? (i := 75) rfl), zm5 (List.mem_of_getElem? (i := 77) rfl), zm0 (List.mem_of_getElem? (i := 25) rfl), by decide +kernel⟩
theorem lk_11_119 : zMok 11 119 (0, 1, mt_X11_isBeyond) := ⟨gk_X11_isBeyond, zm5 (List.mem_of_getElem? (i := 79) rfl), zm5 (List.mem_of_getElem? (i := 81) rfl), zm0 (List.mem_of_getElem? (i := 26) rfl), by decide +kernel⟩
theorem lk_11_122 : zMok 11 122 (0, 1, mt_X11_isHindered) := ⟨gk_X11_isHindered, zm5 (List.mem_of_getElem? (i := 63) rfl), zm5 (List.mem_of_getElem? (i := 65) rfl), zm0 (List.mem_of_getElem? (i := 22) rfl), by decide +kernel⟩
theorem lk_11_125 : zMok 11 125 (0, 2, mt_X11_posted) := ⟨gk_X11_posted, zm5 (List.mem_of_getElem? (i := 87) rfl), zm5 (List.mem_of_getElem? (i := 89) rfl), zm0 (List.mem_of_getElem? (i := 28) rfl), by decide +kernel⟩
theorem lk_11_128 : zMok 11 128 (0, 2, mt_X11_isJournal) := ⟨gk_X11_isJournal, zm5 (List.mem_of_getElem? (i := 95) rfl), zm5 (List.mem_of_getElem? (i := 97) rfl), zm0 (List.mem_of_getElem? (i := 29) rfl), by decide +kernel⟩
theorem lk_11_131 : zMok 11 131 (0, 2, mt_X11_mayBeReversed) := ⟨gk_X11_mayBeReversed, zm5 (List.mem_of_getElem? (i := 99) rfl), zm5 (List.mem_of_getElem? (i := 101) rfl), zm0 (List.mem_of_getElem? (i := 30) rfl), by decide +kernel⟩
theorem lk_11_134 : zMok 11 134 (0, 2, mt_X11_reversed) := ⟨gk_X11_reversed, zm5 (List.mem_of_getElem? (i := 103) rfl), zm5 (List.mem_of_getElem? (i := 105) rfl), zm0 (List.mem_of_getElem? (i := 31) rfl), by decide +kernel⟩
theorem lk_11_141 : zMok 11 141 (0, 2, mt_X11_sealOf) := ⟨gk_X11_sealOf, zm5 (List.mem_of_getElem? (i := 123) rfl), zm5 (List.mem_of_getElem? (i := 125) rfl), zm0 (List.mem_of_getElem? (i := 32) rfl), by decide +kernel⟩
theorem lk_11_144 : zMok 11 144 (1, 2, mt_X11_rateAt) := ⟨gk_X11_rateAt, zm5 (List.mem_of_getElem? (i := 141) rfl), zm5 (List.mem_of_getElem? (i := 142) rfl), by decide +kernel⟩
theorem lk_11_155 : zMok 11 155 (0, 3, mt_X11_fraction) := ⟨gk_X11_fraction, zm5 (List.mem_of_getElem? (i := 152) rfl), zm5 (List.mem_of_getElem? (i := 154) rfl), zm0 (List.mem_of_getElem? (i := 34) rfl), by decide +kernel⟩
theorem lk_11_159 : zMok 11 159 (0, 3, mt_X11_rateBy) := ⟨gk_X11_rateBy, zm5 (List.mem_of_getElem? (i := 148) rfl), zm5 (List.mem_of_getElem? (i := 150) rfl), zm0 (List.mem_of_getElem? (i := 33) rfl), by decide +kernel⟩
theorem lk_11_162 : zMok 11 162 (0, 3, mt_X11_valueBy) := ⟨gk_X11_valueBy, zm5 (List.mem_of_getElem? (i := 160) rfl), zm5 (List.mem_of_getElem? (i := 162) rfl), zm0 (List.mem_of_getElem? (i := 35) rfl), by decide +kernel⟩
theorem lk_11_165 : zMok 11 165 (1, 1, mt_Jxe99ae_doubleToLongBits_ccdee) := ⟨gk_Jxe99ae_doubleToLongBits_ccdee, zm5 (List.mem_of_getElem? (i := 168) rfl), zm5 (List.mem_of_getElem? (i := 169) rfl), by decide +kernel⟩
theorem lk_11_171 : zMok 11 171 (1, 1, mt_Jxf58ca_floatToIntBits_5c35a) := ⟨gk_Jxf58ca_floatToIntBits_5c35a, zm5 (List.mem_of_getElem? (i := 178) rfl), zm5 (List.mem_of_getElem? (i := 179) rfl), by decide +kernel⟩
theorem lk_11_177 : zMok 11 177 (0, 2, mt_X11_journalOf) := ⟨gk_X11_journalOf, zm5 (List.mem_of_getElem? (i := 196) rfl), zm5 (List.mem_of_getElem? (i := 198) rfl), zm0 (List.mem_of_getElem? (i := 36) rfl), by decide +kernel⟩
theorem lk_11_189 : zMok 11 189 (0, 1, mt_X11_here) := ⟨gk_X11_here, zm6 (List.mem_of_getElem? (i := 8) rfl), zm6 (List.mem_of_getElem? (i := 10) rfl), zm0 (List.mem_of_getElem? (i := 40) rfl), by decide +kernel⟩
theorem lk_11_192 : zMok 11 192 (0, 2, mt_X11_wrong) := ⟨gk_X11_wrong, zm6 (List.mem_of_getElem? (i := 12) rfl), zm6 (List.mem_of_getElem? (i := 14) rfl), zm0 (List.mem_of_getElem? (i := 41) rfl), by decide +kernel⟩
theorem lk_11_196 : zMok 11 196 (0, 2, mt_X11_figures) := ⟨gk_X11_figures, zm6 (List.mem_of_getElem? (i := 4) rfl), zm6 (List.mem_of_getElem? (i := 6) rfl), zm0 (List.mem_of_getElem? (i := 39) rfl), by decide +kernel⟩
theorem lk_11_199 : zMok 11 199 (0, 2, mt_X11_expect) := ⟨gk_X11_expect, zm6 (List.mem_of_getElem? (i := 16) rfl), zm6 (List.mem_of_getElem? (i := 18) rfl), zm0 (List.mem_of_getElem? (i := 42) rfl), by decide +kernel⟩
theorem lk_11_209 : zMok 11 209 (0, 1, mt_X11_readPart) := ⟨gk_X11_readPart, zm6 (List.mem_of_getElem? (i := 0) rfl), zm6 (List.mem_of_getElem? (i := 2) rfl), zm0 (List.mem_of_getElem? (i := 38) rfl), by decide +kernel⟩
theorem lk_11_212 : zMok 11 212 (0, 1, mt_X11_readText) := ⟨gk_X11_readText, zm5 (List.mem_of_getElem? (i := 236) rfl), zm5 (List.mem_of_getElem? (i := 238) rfl), zm0 (List.mem_of_getElem? (i := 37) rfl), by decide +kernel⟩
theorem lk_11_215 : zMok 11 215 (0, 2, mt_X11_doReverse) := ⟨gk_X11_doReverse, zm6 (List.mem_of_getElem? (i := 21) rfl), zm6 (List.mem_of_getElem? (i := 23) rfl), zm0 (List.mem_of_getElem? (i := 43) rfl), by decide +kernel⟩
theorem lk_11_218 : zMok 11 218 (0, 1, mt_X11_post) := ⟨gk_X11_post, zm6 (List.mem_of_getElem? (i := 25) rfl), zm5 (List.mem_of_getElem? (i := 60) rfl), zm5 (List.mem_of_getElem? (i := 61) rfl), by decide +kernel⟩
theorem lk_11_224 : zMok 11 224 (0, 2, mt_X11_put) := ⟨gk_X11_put, zm6 (List.mem_of_getElem? (i := 30) rfl), zm6 (List.mem_of_getElem? (i := 32) rfl), zm0 (List.mem_of_getElem? (i := 44) rfl), by decide +kernel⟩
theorem lk_11_229 : zMok 11 229 (0, 2, mt_X11_putNumber) := ⟨gk_X11_putNumber, zm6 (List.mem_of_getElem? (i := 34) rfl), zm6 (List.mem_of_getElem? (i := 36) rfl), zm0 (List.mem_of_getElem? (i := 45) rfl), by decide +kernel⟩
theorem lk_11_233 : zMok 11 233 (1, 1, mt_X11_isList) := ⟨gk_X11_isList, zm6 (List.mem_of_getElem? (i := 51) rfl), zm6 (List.mem_of_getElem? (i := 52) rfl), by decide +kernel⟩
theorem lk_11_240 : zMok 11 240 (0, 2, mt_X11_copy) := ⟨gk_X11_copy, zm6 (List.mem_of_getElem? (i := 74) rfl), zm6 (List.mem_of_getElem? (i := 76) rfl), zm0 (List.mem_of_getElem? (i := 46) rfl), by decide +kernel⟩
theorem lk_12_9 : zMok 12 9 (2, 1, mt_X10_init) := ⟨gk_X10_init, zm1 (List.mem_of_getElem? (i := 23) rfl), zm1 (List.mem_of_getElem? (i := 24) rfl), by decide +kernel, rfl, by decide +kernel⟩
theorem lk_12_12 : zMok 12 12 (2, 1, mt_X11_init) := ⟨gk_X11_init, zm4 (List.mem_of_getElem? (i := 146) rfl), zm4 (List.mem_of_getElem? (i := 147) rfl), by decide +kernel, rfl, by decide +kernel⟩
theorem lk_12_13 : zMok 12 13 (0, 4, mt_X10_account) := ⟨gk_X10_account, zm2 (List.mem_of_getElem? (i := 71) rfl), zm2 (List.mem_of_getElem? (i := 72) rfl), zm2 (List.mem_of_getElem? (i := 73) rfl), by decide +kernel⟩
theorem lk_12_17 : zMok 12 17 (0, 4, mt_X11_account) := ⟨gk_X11_account, zm4 (List.mem_of_getElem? (i := 220) rfl), zm4 (List.mem_of_getElem? (i := 221) rfl), zm4 (List.mem_of_getElem? (i := 222) rfl), by decide +kernel⟩
theorem lk_12_18 : zMok 12 18 (0, 3, mt_X10_of) := ⟨gk_X10_of, zm2 (List.mem_of_getElem? (i := 89) rfl), zm2 (List.mem_of_getElem? (i := 90) rfl), zm2 (List.mem_of_getElem? (i := 91) rfl), by decide +kernel⟩
theorem lk_12_22 : zMok 12 22 (0, 3, mt_X11_of) := ⟨gk_X11_of, zm4 (List.mem_of_getElem? (i := 234) rfl), zm4 (List.mem_of_getElem? (i := 235) rfl), zm4 (List.mem_of_getElem? (i := 236) rfl), by decide +kernel⟩
theorem lk_12_25 : zMok 12 25 (0, 4, mt_X10_limits) := ⟨gk_X10_limits, zm2 (List.mem_of_getElem? (i := 117) rfl), zm2 (List.mem_of_getElem? (i := 118) rfl), zm2 (List.mem_of_getElem? (i := 119) rfl), by decide +kernel⟩
theorem lk_12_29 : zMok 12 29 (0, 4, mt_X11_limits) := ⟨gk_X11_limits, zm5 (List.mem_of_getElem? (i := 33) rfl), zm5 (List.mem_of_getElem? (i := 34) rfl), zm5 (List.mem_of_getElem? (i := 35) rfl), by decide +kernel⟩
theorem lk_12_30 : zMok 12 30 (0, 2, mt_X10_days) := ⟨gk_X10_days, zm2 (List.mem_of_getElem? (i := 133) rfl), zm2 (List.mem_of_getElem? (i := 134) rfl), zm2 (List.mem_of_getElem? (i := 135) rfl), by decide +kernel⟩
theorem lk_12_34 : zMok 12 34 (0, 2, mt_X11_days) := ⟨gk_X11_days, zm5 (List.mem_of_getElem? (i := 37) rfl), zm5 (List.mem_of_getElem? (i := 38) rfl), zm5 (List.mem_of_getElem? (i := 39) rfl), by decide +kernel⟩
theorem lk_12_35 : zMok 12 35 (0, 1, mt_X10_begin) := ⟨gk_X10_begin, zm2 (List.mem_of_getElem? (i := 137) rfl), zm2 (List.mem_of_getElem? (i := 138) rfl), zm2 (List.mem_of_getElem? (i := 139) rfl), by decide +kernel⟩
theorem lk_12_39 : zMok 12 39 (0, 1, mt_X11_begin) := ⟨gk_X11_begin, zm5 (List.mem_of_getElem? (i := 41) rfl), zm5 (List.mem_of_getElem? (i := 42) rfl), zm5 (List.mem_of_getElem? (i := 43) rfl), by decide +kernel⟩
theorem lk_12_40 : zMok 12 40 (0, 3, mt_X10_posting) := ⟨gk_X10_posting, zm2 (List.mem_of_getElem? (i := 145) rfl), zm2 (List.mem_of_getElem? (i := 146) rfl), zm2 (List.mem_of_getElem? (i := 147) rfl), by decide +kernel⟩
theorem lk_12_44 : zMok 12 44 (0, 3, mt_X11_posting) := ⟨gk_X11_posting, zm5 (List.mem_of_getElem? (i := 45) rfl), zm5 (List.mem_of_getElem? (i := 46) rfl), zm5 (List.mem_of_getElem? (i := 47) rfl), by decide +kernel⟩
theorem lk_12_45 : zMok 12 45 (0, 1, mt_X10_cancel) := ⟨gk_X10_cancel, zm2 (List.mem_of_getElem? (i := 155) rfl), zm2 (List.mem_of_getElem? (i := 156) rfl), zm2 (List.mem_of_getElem? (i := 157) rfl), by decide +kernel⟩
theorem lk_12_48 : zMok 12 48 (0, 1, mt_X11_cancel) := ⟨gk_X11_cancel, zm5 (List.mem_of_getElem? (i := 55) rfl), zm5 (List.mem_of_getElem? (i := 56) rfl), zm5 (List.mem_of_getElem? (i := 57) rfl), by decide +kernel⟩
theorem lk_12_49 : zMok 12 49 (0, 1, mt_X10_post) := ⟨gk_X10_post, zm2 (List.mem_of_getElem? (i := 159) rfl), zm2 (List.mem_of_getElem? (i := 160) rfl), zm2 (List.mem_of_getElem? (i := 161) rfl), by decide +kernel⟩
theorem lk_12_52 : zMok 12 52 (0, 1, mt_X11_post) := ⟨gk_X11_post, zm5 (List.mem_of_getElem? (i := 59) rfl), zm5 (List.mem_of_getElem? (i := 60) rfl), zm5 (List.mem_of_getElem? (i := 61) rfl), by decide +kernel⟩
theorem lk_12_53 : zMok 12 53 (0, 2, mt_X10_reverse) := ⟨gk_X10_reverse, zm2 (List.mem_of_getElem? (i := 204) rfl), zm2 (List.mem_of_getElem? (i := 205) rfl), zm2 (List.mem_of_getElem? (i := 206) rfl), by decide +kernel⟩
theorem lk_12_56 : zMok 12 56 (0, 2, mt_X11_reverse) := ⟨gk_X11_reverse, zm5 (List.mem_of_getElem? (i := 91) rfl), zm5 (List.mem_of_getElem? (i := 92) rfl), zm5 (List.mem_of_getElem? (i := 93) rfl), by decide +kernel⟩
theorem lk_12_57 : zMok 12 57 (0, 3, mt_X10_journal) := ⟨gk_X10_journal, zm2 (List.mem_of_getElem? (i := 218) rfl), zm2 (List.mem_of_getElem? (i := 219) rfl), zm2 (List.mem_of_getElem? (i := 220) rfl), by decide +kernel⟩
theorem lk_12_60 : zMok 12 60 (0, 3, mt_X11_journal) := ⟨gk_X11_journal, zm5 (List.mem_of_getElem? (i := 107) rfl), zm5 (List.mem_of_getElem? (i := 108) rfl), zm5 (List.mem_of_getElem? (i := 109) rfl), by decide +kernel⟩
theorem lk_12_61 : zMok 12 61 (0, 4, mt_X10_part) := ⟨gk_X10_part, zm2 (List.mem_of_getElem? (i := 222) rfl), zm2 (List.mem_of_getElem? (i := 223) rfl), zm2 (List.mem_of_getElem? (i := 224) rfl), by decide +kernel⟩
theorem lk_12_65 : zMok 12 65 (0, 4, mt_X11_part) := ⟨gk_X11_part, zm5 (List.mem_of_getElem? (i := 111) rfl), zm5 (List.mem_of_getElem? (i := 112) rfl), zm5 (List.mem_of_getElem? (i := 113) rfl), by decide +kernel⟩
theorem lk_12_66 : zMok 12 66 (0, 3, mt_X10_cause) := ⟨gk_X10_cause, zm2 (List.mem_of_getElem? (i := 230) rfl), zm2 (List.mem_of_getElem? (i := 231) rfl), zm2 (List.mem_of_getElem? (i := 232) rfl), by decide +kernel⟩
theorem lk_12_69 : zMok 12 69 (0, 3, mt_X11_cause) := ⟨gk_X11_cause, zm5 (List.mem_of_getElem? (i := 115) rfl), zm5 (List.mem_of_getElem? (i := 116) rfl), zm5 (List.mem_of_getElem? (i := 117) rfl), by decide +kernel⟩
theorem lk_12_70 : zMok 12 70 (0, 3, mt_X10_balance) := ⟨gk_X10_balance, zm2 (List.mem_of_getElem? (i := 234) rfl), zm2 (List.mem_of_getElem? (i := 235) rfl), zm2 (List.mem_of_getElem? (i := 236) rfl), by decide +kernel⟩
theorem lk_12_74 : zMok 12 74 (0, 3, mt_X11_balance) := ⟨gk_X11_balance, zm5 (List.mem_of_getElem? (i := 14) rfl), zm5 (List.mem_of_getElem? (i := 15) rfl), zm5 (List.mem_of_getElem? (i := 16) rfl), by decide +kernel⟩
theorem lk_12_75 : zMok 12 75 (0, 4, mt_X10_branch) := ⟨gk_X10_branch, zm3 (List.mem_of_getElem? (i := 2) rfl), zm3 (List.mem_of_getElem? (i := 3) rfl), zm3 (List.mem_of_getElem? (i := 4) rfl), by decide +kernel⟩
theorem lk_12_78 : zMok 12 78 (0, 4, mt_X11_branch) := ⟨gk_X11_branch, zm5 (List.mem_of_getElem? (i := 25) rfl), zm5 (List.mem_of_getElem? (i := 26) rfl), zm5 (List.mem_of_getElem? (i := 27) rfl), by decide +kernel⟩
theorem lk_12_79 : zMok 12 79 (0, 2, mt_X10_close) := ⟨gk_X10_close, zm3 (List.mem_of_getElem? (i := 11) rfl), zm3 (List.mem_of_getElem? (i := 12) rfl), zm3 (List.mem_of_getElem? (i := 13) rfl), by decide +kernel⟩
theorem lk_12_82 : zMok 12 82 (0, 2, mt_X11_close) := ⟨gk_X11_close, zm5 (List.mem_of_getElem? (i := 119) rfl), zm5 (List.mem_of_getElem? (i := 120) rfl), zm5 (List.mem_of_getElem? (i := 121) rfl), by decide +kernel⟩
theorem lk_12_83 : zMok 12 83 (0, 2, mt_X10_seal) := ⟨gk_X10_seal, zm3 (List.mem_of_getElem? (i := 34) rfl), zm3 (List.mem_of_getElem? (i := 35) rfl), zm3 (List.mem_of_getElem? (i := 36) rfl), by decide +kernel⟩
theorem lk_12_87 : zMok 12 87 (0, 2, mt_X11_seal) := ⟨gk_X11_seal, zm5 (List.mem_of_getElem? (i := 129) rfl), zm5 (List.mem_of_getElem? (i := 130) rfl), zm5 (List.mem_of_getElem? (i := 131) rfl), by decide +kernel⟩
theorem lk_12_88 : zMok 12 88 (0, 1, mt_X10_audit) := ⟨gk_X10_audit, zm3 (List.mem_of_getElem? (i := 38) rfl), zm3 (List.mem_of_getElem? (i := 39) rfl), zm3 (List.mem_of_getElem? (i := 40) rfl), by decide +kernel⟩
theorem lk_12_91 : zMok 12 91 (0, 1, mt_X11_audit) := ⟨gk_X11_audit, zm5 (List.mem_of_getElem? (i := 133) rfl), zm5 (List.mem_of_getElem? (i := 134) rfl), zm5 (List.mem_of_getElem? (i := 135) rfl), by decide +kernel⟩
theorem lk_12_92 : zMok 12 92 (0, 5, mt_X10_rate) := ⟨gk_X10_rate, zm3 (List.mem_of_getElem? (i := 42) rfl), zm3 (List.mem_of_getElem? (i := 43) rfl), zm3 (List.mem_of_getElem? (i := 44) rfl), by decide +kernel⟩
theorem lk_12_96 : zMok 12 96 (0, 5, mt_X11_rate) := ⟨gk_X11_rate, zm5 (List.mem_of_getElem? (i := 137) rfl), zm5 (List.mem_of_getElem? (i := 138) rfl), zm5 (List.mem_of_getElem? (i := 139) rfl), by decide +kernel⟩
theorem lk_12_97 : zMok 12 97 (0, 4, mt_X10_rateOf) := ⟨gk_X10_rateOf, zm3 (List.mem_of_getElem? (i := 58) rfl), zm3 (List.mem_of_getElem? (i := 59) rfl), zm3 (List.mem_of_getElem? (i := 60) rfl), by decide +kernel⟩
theorem lk_12_100 : zMok 12 100 (0, 4, mt_X11_rateOf) := ⟨gk_X11_rateOf, zm5 (List.mem_of_getElem? (i := 144) rfl), zm5 (List.mem_of_getElem? (i := 145) rfl), zm5 (List.mem_of_getElem? (i := 146) rfl), by decide +kernel⟩
theorem lk_12_101 : zMok 12 101 (0, 4, mt_X10_value) := ⟨gk_X10_value, zm3 (List.mem_of_getElem? (i := 85) rfl), zm3 (List.mem_of_getElem? (i := 86) rfl), zm3 (List.mem_of_getElem? (i := 87) rfl), by decide +kernel⟩
theorem lk_12_104 : zMok 12 104 (0, 4, mt_X11_value) := ⟨gk_X11_value, zm5 (List.mem_of_getElem? (i := 156) rfl), zm5 (List.mem_of_getElem? (i := 157) rfl), zm5 (List.mem_of_getElem? (i := 158) rfl), by decide +kernel⟩
theorem lk_12_105 : zMok 12 105 (0, 4, mt_X10_real) := ⟨gk_X10_real, zm3 (List.mem_of_getElem? (i := 103) rfl), zm3 (List.mem_of_getElem? (i := 104) rfl), zm3 (List.mem_of_getElem? (i := 105) rfl), by decide +kernel⟩
theorem lk_12_108 : zMok 12 108 (0, 4, mt_X11_real) := ⟨gk_X11_real, zm5 (List.mem_of_getElem? (i := 164) rfl), zm5 (List.mem_of_getElem? (i := 165) rfl), zm5 (List.mem_of_getElem? (i := 166) rfl), by decide +kernel⟩
theorem lk_12_109 : zMok 12 109 (0, 6, mt_X10_gain) := ⟨gk_X10_gain, zm3 (List.mem_of_getElem? (i := 122) rfl), zm3 (List.mem_of_getElem? (i := 123) rfl), zm3 (List.mem_of_getElem? (i := 124) rfl), by decide +kernel⟩
theorem lk_12_113 : zMok 12 113 (0, 6, mt_X11_gain) := ⟨gk_X11_gain, zm5 (List.mem_of_getElem? (i := 188) rfl), zm5 (List.mem_of_getElem? (i := 189) rfl), zm5 (List.mem_of_getElem? (i := 190) rfl), by decide +kernel⟩
theorem lk_12_114 : zMok 12 114 (0, 4, mt_X10_line) := ⟨gk_X10_line, zm3 (List.mem_of_getElem? (i := 130) rfl), zm3 (List.mem_of_getElem? (i := 131) rfl), zm3 (List.mem_of_getElem? (i := 132) rfl), by decide +kernel⟩
theorem lk_12_117 : zMok 12 117 (0, 4, mt_X11_line) := ⟨gk_X11_line, zm5 (List.mem_of_getElem? (i := 192) rfl), zm5 (List.mem_of_getElem? (i := 193) rfl), zm5 (List.mem_of_getElem? (i := 194) rfl), by decide +kernel⟩
theorem lk_12_118 : zMok 12 118 (0, 4, mt_X10_trial) := ⟨gk_X10_trial, zm3 (List.mem_of_getElem? (i := 143) rfl), zm3 (List.mem_of_getElem? (i := 144) rfl), zm3 (List.mem_of_getElem? (i := 145) rfl), by decide +kernel⟩
theorem lk_12_121 : zMok 12 121 (0, 4, mt_X11_trial) := ⟨gk_X11_trial, zm5 (List.mem_of_getElem? (i := 200) rfl), zm5 (List.mem_of_getElem? (i := 201) rfl), zm5 (List.mem_of_getElem? (i := 202) rfl), by decide +kernel⟩
theorem lk_12_122 : zMok 12 122 (0, 3, mt_X10_sorts) := ⟨gk_X10_sorts, zm3 (List.mem_of_getElem? (i := 153) rfl), zm3 (List.mem_of_getElem? (i := 154) rfl), zm3 (List.mem_of_getElem? (i := 155) rfl), by decide +kernel⟩
theorem lk_12_125 : zMok 12 125 (0, 3, mt_X11_sorts) := ⟨gk_X11_sorts, zm5 (List.mem_of_getElem? (i := 204) rfl), zm5 (List.mem_of_getElem? (i := 205) rfl), zm5 (List.mem_of_getElem? (i := 206) rfl), by decide +kernel⟩
theorem lk_12_126 : zMok 12 126 (0, 4, mt_X10_budget) := ⟨gk_X10_budget, zm3 (List.mem_of_getElem? (i := 157) rfl), zm3 (List.mem_of_getElem? (i := 158) rfl), zm3 (List.mem_of_getElem? (i := 159) rfl), by decide +kernel⟩
theorem lk_12_130 : zMok 12 130 (0, 4, mt_X11_budget) := ⟨gk_X11_budget, zm5 (List.mem_of_getElem? (i := 208) rfl), zm5 (List.mem_of_getElem? (i := 209) rfl), zm5 (List.mem_of_getElem? (i := 210) rfl), by decide +kernel⟩
theorem lk_12_131 : zMok 12 131 (0, 3, mt_X10_left) := ⟨gk_X10_left, zm3 (List.mem_of_getElem? (i := 161) rfl), zm3 (List.mem_of_getElem? (i := 162) rfl), zm3 (List.mem_of_getElem? (i := 163) rfl), by decide +kernel⟩
theorem lk_12_134 : zMok 12 134 (0, 3, mt_X11_left) := ⟨gk_X11_left, zm5 (List.mem_of_getElem? (i := 212) rfl), zm5 (List.mem_of_getElem? (i := 213) rfl), zm5 (List.mem_of_getElem? (i := 214) rfl), by decide +kernel⟩
theorem lk_12_135 : zMok 12 135 (0, 3, mt_X10_extreme) := ⟨gk_X10_extreme, zm3 (List.mem_of_getElem? (i := 165) rfl), zm3 (List.mem_of_getElem? (i := 166) rfl), zm3 (List.mem_of_getElem? (i := 167) rfl), by decide +kernel⟩
theorem lk_12_138 : zMok 12 138 (0, 3, mt_X11_extreme) := ⟨gk_X11_extreme, zm5 (List.mem_of_getElem? (i := 216) rfl), zm5 (List.mem_of_getElem? (i := 217) rfl), zm5 (List.mem_of_getElem? (i := 218) rfl), by decide +kernel⟩
theorem lk_12_139 : zMok 12 139 (0, 3, mt_X10_meet) := ⟨gk_X10_meet, zm3 (List.mem_of_getElem? (i := 169) rfl), zm3 (List.mem_of_getElem? (i := 170) rfl), zm3 (List.mem_of_getElem? (i := 171) rfl), by decide +kernel⟩
theorem lk_12_142 : zMok 12 142 (0, 3, mt_X11_meet) := ⟨gk_X11_meet, zm5 (List.mem_of_getElem? (i := 220) rfl), zm5 (List.mem_of_getElem? (i := 221) rfl), zm5 (List.mem_of_getElem? (i := 222) rfl), by decide +kernel⟩
theorem lk_12_143 : zMok 12 143 (0, 2, mt_X10_feed) := ⟨gk_X10_feed, zm3 (List.mem_of_getElem? (i := 177) rfl), zm3 (List.mem_of_getElem? (i := 178) rfl), zm3 (List.mem_of_getElem? (i := 179) rfl), by decide +kernel⟩
theorem lk_12_146 : zMok 12 146 (0, 2, mt_X11_feed) := ⟨gk_X11_feed, zm5 (List.mem_of_getElem? (i := 224) rfl), zm5 (List.mem_of_getElem? (i := 225) rfl), zm5 (List.mem_of_getElem? (i := 226) rfl), by decide +kernel⟩
theorem lk_12_147 : zMok 12 147 (0, 1, mt_X10_clear) := ⟨gk_X10_clear, zm3 (List.mem_of_getElem? (i := 185) rfl), zm3 (List.mem_of_getElem? (i := 186) rfl), zm3 (List.mem_of_getElem? (i := 187) rfl), by decide +kernel⟩
theorem lk_12_150 : zMok 12 150 (0, 1, mt_X11_clear) := ⟨gk_X11_clear, zm5 (List.mem_of_getElem? (i := 228) rfl), zm5 (List.mem_of_getElem? (i := 229) rfl), zm5 (List.mem_of_getElem? (i := 230) rfl), by decide +kernel⟩
theorem lk_12_151 : zMok 12 151 (0, 1, mt_X10_read) := ⟨gk_X10_read, zm3 (List.mem_of_getElem? (i := 189) rfl), zm3 (List.mem_of_getElem? (i := 190) rfl), zm3 (List.mem_of_getElem? (i := 191) rfl), by decide +kernel⟩
theorem lk_12_154 : zMok 12 154 (0, 1, mt_X11_read) := ⟨gk_X11_read, zm5 (List.mem_of_getElem? (i := 232) rfl), zm5 (List.mem_of_getElem? (i := 233) rfl), zm5 (List.mem_of_getElem? (i := 234) rfl), by decide +kernel⟩
theorem lk_12_155 : zMok 12 155 (0, 2, mt_X10_spell) := ⟨gk_X10_spell, zm4 (List.mem_of_getElem? (i := 30) rfl), zm4 (List.mem_of_getElem? (i := 31) rfl), zm4 (List.mem_of_getElem? (i := 32) rfl), by decide +kernel⟩
theorem lk_12_158 : zMok 12 158 (0, 2, mt_X11_spell) := ⟨gk_X11_spell, zm6 (List.mem_of_getElem? (i := 26) rfl), zm6 (List.mem_of_getElem? (i := 27) rfl), zm6 (List.mem_of_getElem? (i := 28) rfl), by decide +kernel⟩
theorem lk_12_159 : zMok 12 159 (0, 2, mt_X10_paper) := ⟨gk_X10_paper, zm4 (List.mem_of_getElem? (i := 52) rfl), zm4 (List.mem_of_getElem? (i := 53) rfl), zm4 (List.mem_of_getElem? (i := 54) rfl), by decide +kernel⟩
theorem lk_12_162 : zMok 12 162 (0, 2, mt_X11_paper) := ⟨gk_X11_paper, zm6 (List.mem_of_getElem? (i := 39) rfl), zm6 (List.mem_of_getElem? (i := 40) rfl), zm6 (List.mem_of_getElem? (i := 41) rfl), by decide +kernel⟩
theorem lk_12_163 : zMok 12 163 (0, 2, mt_X10_told) := ⟨gk_X10_told, zm4 (List.mem_of_getElem? (i := 56) rfl), zm4 (List.mem_of_getElem? (i := 57) rfl), zm4 (List.mem_of_getElem? (i := 58) rfl), by decide +kernel⟩
theorem lk_12_166 : zMok 12 166 (0, 2, mt_X11_told) := ⟨gk_X11_told, zm6 (List.mem_of_getElem? (i := 43) rfl), zm6 (List.mem_of_getElem? (i := 44) rfl), zm6 (List.mem_of_getElem? (i := 45) rfl), by decide +kernel⟩
theorem lk_12_167 : zMok 12 167 (0, 3, mt_X10_list) := ⟨gk_X10_list, zm4 (List.mem_of_getElem? (i := 64) rfl), zm4 (List.mem_of_getElem? (i := 65) rfl), zm4 (List.mem_of_getElem? (i := 66) rfl), by decide +kernel⟩
theorem lk_12_170 : zMok 12 170 (0, 3, mt_X11_list) := ⟨gk_X11_list, zm6 (List.mem_of_getElem? (i := 47) rfl), zm6 (List.mem_of_getElem? (i := 48) rfl), zm6 (List.mem_of_getElem? (i := 49) rfl), by decide +kernel⟩
theorem lk_12_171 : zMok 12 171 (0, 4, mt_X10_set) := ⟨gk_X10_set, zm4 (List.mem_of_getElem? (i := 75) rfl), zm4 (List.mem_of_getElem? (i := 76) rfl), zm4 (List.mem_of_getElem? (i := 77) rfl), by decide +kernel⟩
theorem lk_12_174 : zMok 12 174 (0, 4, mt_X11_set) := ⟨gk_X11_set, zm6 (List.mem_of_getElem? (i := 54) rfl), zm6 (List.mem_of_getElem? (i := 55) rfl), zm6 (List.mem_of_getElem? (i := 56) rfl), by decide +kernel⟩
theorem lk_12_175 : zMok 12 175 (0, 3, mt_X10_get) := ⟨gk_X10_get, zm4 (List.mem_of_getElem? (i := 91) rfl), zm4 (List.mem_of_getElem? (i := 92) rfl), zm4 (List.mem_of_getElem? (i := 93) rfl), by decide +kernel⟩
theorem lk_12_178 : zMok 12 178 (0, 3, mt_X11_get) := ⟨gk_X11_get, zm6 (List.mem_of_getElem? (i := 58) rfl), zm6 (List.mem_of_getElem? (i := 59) rfl), zm6 (List.mem_of_getElem? (i := 60) rfl), by decide +kernel⟩
theorem lk_12_179 : zMok 12 179 (0, 3, mt_X10_lay) := ⟨gk_X10_lay, zm4 (List.mem_of_getElem? (i := 99) rfl), zm4 (List.mem_of_getElem? (i := 100) rfl), zm4 (List.mem_of_getElem? (i := 101) rfl), by decide +kernel⟩
theorem lk_12_182 : zMok 12 182 (0, 3, mt_X11_lay) := ⟨gk_X11_lay, zm6 (List.mem_of_getElem? (i := 62) rfl), zm6 (List.mem_of_getElem? (i := 63) rfl), zm6 (List.mem_of_getElem? (i := 64) rfl), by decide +kernel⟩
theorem lk_12_183 : zMok 12 183 (0, 3, mt_X10_judge) := ⟨gk_X10_judge, zm4 (List.mem_of_getElem? (i := 103) rfl), zm4 (List.mem_of_getElem? (i := 104) rfl), zm4 (List.mem_of_getElem? (i := 105) rfl), by decide +kernel⟩
theorem lk_12_186 : zMok 12 186 (0, 3, mt_X11_judge) := ⟨gk_X11_judge, zm6 (List.mem_of_getElem? (i := 66) rfl), zm6 (List.mem_of_getElem? (i := 67) rfl), zm6 (List.mem_of_getElem? (i := 68) rfl), by decide +kernel⟩
theorem lk_12_187 : zMok 12 187 (0, 1, mt_X10_image) := ⟨gk_X10_image, zm4 (List.mem_of_getElem? (i := 107) rfl), zm4 (List.mem_of_getElem? (i := 108) rfl), zm4 (List.mem_of_getElem? (i := 109) rfl), by decide +kernel⟩
theorem lk_12_190 : zMok 12 190 (0, 1, mt_X11_image) := ⟨gk_X11_image, zm6 (List.mem_of_getElem? (i := 70) rfl), zm6 (List.mem_of_getElem? (i := 71) rfl), zm6 (List.mem_of_getElem? (i := 72) rfl), by decide +kernel⟩
theorem lk_12_191 : zMok 12 191 (0, 1, mt_X10_undo) := ⟨gk_X10_undo, zm4 (List.mem_of_getElem? (i := 140) rfl), zm4 (List.mem_of_getElem? (i := 141) rfl), zm4 (List.mem_of_getElem? (i := 142) rfl), by decide +kernel⟩
theorem lk_12_194 : zMok 12 194 (0, 1, mt_X11_undo) := ⟨gk_X11_undo, zm6 (List.mem_of_getElem? (i := 78) rfl), zm6 (List.mem_of_getElem? (i := 79) rfl), zm6 (List.mem_of_getElem? (i := 80) rfl), by decide +kernel⟩
theorem lk_13_122 : zMok 13 122 (1, 1, mt_Jxe99ae_isNaN_b9ae7) := ⟨gk_Jxe99ae_isNaN_b9ae7, zm5 (List.mem_of_getElem? (i := 171) rfl), zm5 (List.mem_of_getElem? (i := 172) rfl), by decide +kernel⟩
theorem lk_14_59 : zMok 14 59 (1, 1, mt_Jxf58ca_isNaN_12338) := ⟨gk_Jxf58ca_isNaN_12338, zm5 (List.mem_of_getElem? (i := 181) rfl), zm5 (List.mem_of_getElem? (i := 182) rfl), by decide +kernel⟩
theorem zM_all : ∀ q ∈ zlkMT, ∀ p ∈ q.2, ∀ e ∈ p.2, zMok q.1 e.1 e.2 := List.forall_mem_cons.mpr ⟨(List.forall_mem_cons.mpr ⟨(List.forall_mem_cons.mpr ⟨lk_0_11, List.forall_mem_cons.mpr ⟨lk_0_20, List.forall_mem_cons.mpr ⟨lk_0_27, List.forall_mem_cons.mpr ⟨lk_0_34, List.forall_mem_cons.mpr ⟨lk_0_41, List.forall_mem_cons.mpr ⟨lk_0_61, List.forall_mem_cons.mpr ⟨lk_0_65, List.forall_mem_cons.mpr ⟨lk_0_68, List.forall_mem_cons.mpr ⟨lk_0_71, List.forall_mem_cons.mpr ⟨lk_0_74, List.forall_mem_cons.mpr ⟨lk_0_83, List.forall_mem_cons.mpr ⟨lk_0_94, List.forall_mem_cons.mpr ⟨lk_0_98, List.forall_mem_cons.mpr ⟨lk_0_104, List.forall_mem_cons.mpr ⟨lk_0_108, List.forall_mem_cons.mpr ⟨lk_0_112, fun _ h => absurd h List.not_mem_nil⟩⟩⟩⟩⟩⟩⟩⟩⟩⟩⟩⟩⟩⟩⟩⟩), List.forall_mem_cons.mpr ⟨(List.forall_mem_cons.mpr ⟨lk_0_116, List.forall_mem_cons.mpr ⟨lk_0_119, List.forall_mem_cons.mpr ⟨lk_0_130, List.forall_mem_cons.mpr ⟨lk_0_133, List.forall_mem_cons.mpr ⟨lk_0_140, List.forall_mem_cons.mpr ⟨lk_0_146, List.forall_mem_cons.mpr ⟨lk_0_150, List.forall_mem_cons.mpr ⟨lk_0_154, List.forall_mem_cons.mpr ⟨lk_0_163, List.forall_mem_cons.mpr ⟨lk_0_166, fun _ h => absurd h List.not_mem_nil⟩⟩⟩⟩⟩⟩⟩⟩⟩⟩), fun _ h => absurd h List.not_mem_nil⟩⟩), List.forall_mem_cons.mpr ⟨(List.forall_mem_cons.mpr ⟨(List.forall_mem_cons.mpr ⟨lk_2_47, fun _ h => absurd h List.not_mem_nil⟩), fun _ h => absurd h List.not_mem_nil⟩), List.forall_mem_cons.mpr ⟨(List.forall_mem_cons.mpr ⟨(List.forall_mem_cons.mpr ⟨lk_3_16, List.forall_mem_cons.mpr ⟨lk_3_22, List.forall_mem_cons.mpr ⟨lk_3_26, fun _ h => absurd h List.not_mem_nil⟩⟩⟩), fun _ h => absurd h List.not_mem_nil⟩), List.forall_mem_cons.mpr ⟨(List.forall_mem_cons.mpr ⟨(List.forall_mem_cons.mpr ⟨lk_4_40, List.forall_mem_cons.mpr ⟨lk_4_48, List.forall_mem_cons.mpr ⟨lk_4_54, List.forall_mem_cons.mpr ⟨lk_4_58, List.forall_mem_cons.mpr ⟨lk_4_61, List.forall_mem_cons.mpr ⟨lk_4_67, List.forall_mem_cons.mpr ⟨lk_4_73, List.forall_mem_cons.mpr ⟨lk_4_77, fun _ h => absurd h List.not_mem_nil⟩⟩⟩⟩⟩⟩⟩⟩), fun _ h => absurd h List.not_mem_nil⟩), List.forall_mem_cons.mpr ⟨(List.forall_mem_cons.mpr ⟨(List.forall_mem_cons.mpr ⟨lk_5_30, fun _ h => absurd h List.not_mem_nil⟩), fun _ h => absurd h List.not_mem_nil⟩), List.forall_mem_cons.mpr ⟨(List.forall_mem_cons.mpr ⟨(List.forall_mem_cons.mpr ⟨lk_7_25, List.forall_mem_cons.mpr ⟨lk_7_32, List.forall_mem_cons.mpr ⟨lk_7_52, fun _ h => absurd h List.not_mem_nil⟩⟩⟩), fun _ h => absurd h List.not_mem_nil⟩), List.forall_mem_cons.mpr ⟨(List.forall_mem_cons.mpr ⟨(List.forall_mem_cons.mpr ⟨lk_9_33, List.forall_mem_cons.mpr ⟨lk_9_37, List.forall_mem_cons.mpr ⟨lk_9_41, List.forall_mem_cons.mpr ⟨lk_9_44, List.forall_mem_cons.mpr ⟨lk_9_48, List.forall_mem_cons.mpr ⟨lk_9_55, fun _ h => absurd h List.not_mem_nil⟩⟩⟩⟩⟩⟩), fun _ h => absurd h List.not_mem_nil⟩), List.forall_mem_cons.mpr ⟨(List.forall_mem_cons.mpr ⟨(List.forall_mem_cons.mpr ⟨lk_10_11, List.forall_mem_cons.mpr ⟨lk_10_23, List.forall_mem_cons.mpr ⟨lk_10_30, List.forall_mem_cons.mpr ⟨lk_10_37, List.forall_mem_cons.mpr ⟨lk_10_44, List.forall_mem_cons.mpr ⟨lk_10_51, List.forall_mem_cons.mpr ⟨lk_10_60, List.forall_mem_cons.mpr ⟨lk_10_66, List.forall_mem_cons.mpr ⟨lk_10_69, List.forall_mem_cons.mpr ⟨lk_10_72, List.forall_mem_cons.mpr ⟨lk_10_86, List.forall_mem_cons.mpr ⟨lk_10_90, List.forall_mem_cons.mpr ⟨lk_10_93, List.forall_mem_cons.mpr ⟨lk_10_100, List.forall_mem_cons.mpr ⟨lk_10_105, List.forall_mem_cons.mpr ⟨lk_10_124, fun _ h => absurd h List.not_mem_nil⟩⟩⟩⟩⟩⟩⟩⟩⟩⟩⟩⟩⟩⟩⟩⟩), List.forall_mem_cons.mpr ⟨(List.forall_mem_cons.mpr ⟨lk_10_141, List.forall_mem_cons.mpr ⟨lk_10_144, List.forall_mem_cons.mpr ⟨lk_10_148, List.forall_mem_cons.mpr ⟨lk_10_149, List.forall_mem_cons.mpr ⟨lk_10_152, List.forall_mem_cons.mpr ⟨lk_10_166, List.forall_mem_cons.mpr ⟨lk_10_190, List.forall_mem_cons.mpr ⟨lk_10_193, List.forall_mem_cons.mpr ⟨lk_10_197, List.forall_mem_cons.mpr ⟨lk_10_201, List.forall_mem_cons.mpr ⟨lk_10_207, List.forall_mem_cons.mpr ⟨lk_10_213, List.forall_mem_cons.mpr ⟨lk_10_216, List.forall_mem_cons.mpr ⟨lk_10_220, List.forall_mem_cons.mpr ⟨lk_10_223, List.forall_mem_cons.mpr ⟨lk_10_230, fun _ h => absurd h List.not_mem_nil⟩⟩⟩⟩⟩⟩⟩⟩⟩⟩⟩⟩⟩⟩⟩⟩), List.forall_mem_cons.mpr ⟨(List.forall_mem_cons.mpr ⟨lk_10_236, List.forall_mem_cons.mpr ⟨lk_10_240, List.forall_mem_cons.mpr ⟨lk_10_243, List.forall_mem_cons.mpr ⟨lk_10_246, List.forall_mem_cons.mpr ⟨lk_10_250, List.forall_mem_cons.mpr ⟨lk_10_253, List.forall_mem_cons.mpr ⟨lk_10_257, List.forall_mem_cons.mpr ⟨lk_10_261, List.forall_mem_cons.mpr ⟨lk_10_265, List.forall_mem_cons.mpr ⟨lk_10_269, List.forall_mem_cons.mpr ⟨lk_10_273, List.forall_mem_cons.mpr ⟨lk_10_277, List.forall_mem_cons.mpr ⟨lk_10_283, List.forall_mem_cons.mpr ⟨lk_10_289, List.forall_mem_cons.mpr ⟨lk_10_295, List.forall_mem_cons.mpr ⟨lk_10_298, fun _ h => absurd h List.not_mem_nil⟩⟩⟩⟩⟩⟩⟩⟩⟩⟩⟩⟩⟩⟩⟩⟩), List.forall_mem_cons.mpr ⟨(List.forall_mem_cons.mpr ⟨lk_10_308, List.forall_mem_cons.mpr ⟨lk_10_312, List.forall_mem_cons.mpr ⟨lk_10_321, List.forall_mem_cons.mpr ⟨lk_10_325, List.forall_mem_cons.mpr ⟨lk_10_328, List.forall_mem_cons.mpr ⟨lk_10_331, List.forall_mem_cons.mpr ⟨lk_10_334, List.forall_mem_cons.mpr ⟨lk_10_338, List.forall_mem_cons.mpr ⟨lk_10_342, List.forall_mem_cons.mpr ⟨lk_10_345, List.forall_mem_cons.mpr ⟨lk_10_349, fun _ h => absurd h List.not_mem_nil⟩⟩⟩⟩⟩⟩⟩⟩⟩⟩⟩), fun _ h => absurd h List.not_mem_nil⟩⟩⟩⟩), List.forall_mem_cons.mpr ⟨(List.forall_mem_cons.mpr ⟨(List.forall_mem_cons.mpr ⟨lk_11_51, List.forall_mem_cons.mpr ⟨lk_11_55, List.forall_mem_cons.mpr ⟨lk_11_63, List.forall_mem_cons.mpr ⟨lk_11_67, List.forall_mem_cons.mpr ⟨lk_11_70, List.forall_mem_cons.mpr ⟨lk_11_74, List.forall_mem_cons.mpr ⟨lk_11_78, List.forall_mem_cons.mpr ⟨lk_11_81, List.forall_mem_cons.mpr ⟨lk_11_85, List.forall_mem_cons.mpr ⟨lk_11_88, List.forall_mem_cons.mpr ⟨lk_11_92, List.forall_mem_cons.mpr ⟨lk_11_100, List.forall_mem_cons.mpr ⟨lk_11_104, List.forall_mem_cons.mpr ⟨lk_11_108, List.forall_mem_cons.mpr ⟨lk_11_111, List.forall_mem_cons.mpr ⟨lk_11_115, fun _ h => absurd h List.not_mem_nil⟩⟩⟩⟩⟩⟩⟩⟩⟩⟩⟩⟩⟩⟩⟩⟩), List.forall_mem_cons.mpr ⟨(List.forall_mem_cons.mpr ⟨lk_11_119, List.forall_mem_cons.mpr ⟨lk_11_122, List.forall_mem_cons.mpr ⟨lk_11_125, List.forall_mem_cons.mpr ⟨lk_11_128, List.forall_mem_cons.mpr ⟨lk_11_131, List.forall_mem_cons.mpr ⟨lk_11_134, List.forall_mem_cons.mpr ⟨lk_11_141, List.forall_mem_cons.mpr ⟨lk_11_144, List.forall_mem_cons.mpr ⟨lk_11_155, List.forall_mem_cons.mpr ⟨lk_11_159, List.forall_mem_cons.mpr ⟨lk_11_162, List.forall_mem_cons.mpr ⟨lk_11_165, List.forall_mem_cons.mpr ⟨lk_11_171, List.forall_mem_cons.mpr ⟨lk_11_177, List.forall_mem_cons.mpr ⟨lk_11_189, List.forall_mem_cons.mpr ⟨lk_11_192, fun _ h => absurd h List.not_mem_nil⟩⟩⟩⟩⟩⟩⟩⟩⟩⟩⟩⟩⟩⟩⟩⟩), List.forall_mem_cons.mpr ⟨(List.forall_mem_cons.mpr ⟨lk_11_196, List.forall_mem_cons.mpr ⟨lk_11_199, List.forall_mem_cons.mpr ⟨lk_11_209, List.forall_mem_cons.mpr ⟨lk_11_212, List.forall_mem_cons.mpr ⟨lk_11_215, List.forall_mem_cons.mpr ⟨lk_11_218, List.forall_mem_cons.mpr ⟨lk_11_224, List.forall_mem_cons.mpr ⟨lk_11_229, List.forall_mem_cons.mpr ⟨lk_11_233, List.forall_mem_cons.mpr ⟨lk_11_240, fun _ h => absurd h List.not_mem_nil⟩⟩⟩⟩⟩⟩⟩⟩⟩⟩), fun _ h => absurd h List.not_mem_nil⟩⟩⟩), List.forall_mem_cons.mpr ⟨(List.forall_mem_cons.mpr ⟨(List.forall_mem_cons.mpr ⟨lk_12_9, List.forall_mem_cons.mpr ⟨lk_12_12, List.forall_mem_cons.mpr ⟨lk_12_13, List.forall_mem_cons.mpr ⟨lk_12_17, List.forall_mem_cons.mpr ⟨lk_12_18, List.forall_mem_cons.mpr ⟨lk_12_22, List.forall_mem_cons.mpr ⟨lk_12_25, List.forall_mem_cons.mpr ⟨lk_12_29, List.forall_mem_cons.mpr ⟨lk_12_30, List.forall_mem_cons.mpr ⟨lk_12_34, List.forall_mem_cons.mpr ⟨lk_12_35, List.forall_mem_cons.mpr ⟨lk_12_39, List.forall_mem_cons.mpr ⟨lk_12_40, List.forall_mem_cons.mpr ⟨lk_12_44, List.forall_mem_cons.mpr ⟨lk_12_45, List.forall_mem_cons.mpr ⟨lk_12_48, fun _ h => absurd h List.not_mem_nil⟩⟩⟩⟩⟩⟩⟩⟩⟩⟩⟩⟩⟩⟩⟩⟩), List.forall_mem_cons.mpr ⟨(List.forall_mem_cons.mpr ⟨lk_12_49, List.forall_mem_cons.mpr ⟨lk_12_52, List.forall_mem_cons.mpr ⟨lk_12_53, List.forall_mem_cons.mpr ⟨lk_12_56, List.forall_mem_cons.mpr ⟨lk_12_57, List.forall_mem_cons.mpr ⟨lk_12_60, List.forall_mem_cons.mpr ⟨lk_12_61, List.forall_mem_cons.mpr ⟨lk_12_65, List.forall_mem_cons.mpr ⟨lk_12_66, List.forall_mem_cons.mpr ⟨lk_12_69, List.forall_mem_cons.mpr ⟨lk_12_70, List.forall_mem_cons.mpr ⟨lk_12_74, List.forall_mem_cons.mpr ⟨lk_12_75, List.forall_mem_cons.mpr ⟨lk_12_78, List.forall_mem_cons.mpr ⟨lk_12_79, List.forall_mem_cons.mpr ⟨lk_12_82, fun _ h => absurd h List.not_mem_nil⟩⟩⟩⟩⟩⟩⟩⟩⟩⟩⟩⟩⟩⟩⟩⟩), List.forall_mem_cons.mpr ⟨(List.forall_mem_cons.mpr ⟨lk_12_83, List.forall_mem_cons.mpr ⟨lk_12_87, List.forall_mem_cons.mpr ⟨lk_12_88, List.forall_mem_cons.mpr ⟨lk_12_91, List.forall_mem_cons.mpr ⟨lk_12_92, List.forall_mem_cons.mpr ⟨lk_12_96, List.forall_mem_cons.mpr ⟨lk_12_97, List.forall_mem_cons.mpr ⟨lk_12_100, List.forall_mem_cons.mpr ⟨lk_12_101, List.forall_mem_cons.mpr ⟨lk_12_104, List.forall_mem_cons.mpr ⟨lk_12_105, List.forall_mem_cons.mpr ⟨lk_12_108, List.forall_mem_cons.mpr ⟨lk_12_109, List.forall_mem_cons.mpr ⟨lk_12_113, List.forall_mem_cons.mpr ⟨lk_12_114, List.forall_mem_cons.mpr ⟨lk_12_117, fun _ h => absurd h List.not_mem_nil⟩⟩⟩⟩⟩⟩⟩⟩⟩⟩⟩⟩⟩⟩⟩⟩), List.forall_mem_cons.mpr ⟨(List.forall_mem_cons.mpr ⟨lk_12_118, List.forall_mem_cons.mpr ⟨lk_12_121, List.forall_mem_cons.mpr ⟨lk_12_122, List.forall_mem_cons.mpr ⟨lk_12_125, List.forall_mem_cons.mpr ⟨lk_12_126, List.forall_mem_cons.mpr ⟨lk_12_130, List.forall_mem_cons.mpr ⟨lk_12_131, List.forall_mem_cons.mpr ⟨lk_12_134, List.forall_mem_cons.mpr ⟨lk_12_135, List.forall_mem_cons.mpr ⟨lk_12_138, List.forall_mem_cons.mpr ⟨lk_12_139, List.forall_mem_cons.mpr ⟨lk_12_142, List.forall_mem_cons.mpr ⟨lk_12_143, List.forall_mem_cons.mpr ⟨lk_12_146, List.forall_mem_cons.mpr ⟨lk_12_147, List.forall_mem_cons.mpr ⟨lk_12_150, fun _ h => absurd h List.not_mem_nil⟩⟩⟩⟩⟩⟩⟩⟩⟩⟩⟩⟩⟩⟩⟩⟩), List.forall_mem_cons.mpr ⟨(List.forall_mem_cons.mpr ⟨lk_12_151, List.forall_mem_cons.mpr ⟨lk_12_154, List.forall_mem_cons.mpr ⟨lk_12_155, List.forall_mem_cons.mpr ⟨lk_12_158, List.forall_mem_cons.mpr ⟨lk_12_159, List.forall_mem_cons.mpr ⟨lk_12_162, List.forall_mem_cons.mpr ⟨lk_12_163, List.forall_mem_cons.mpr ⟨lk_12_166, List.forall_mem_cons.mpr ⟨lk_12_167, List.forall_mem_cons.mpr ⟨lk_12_170, List.forall_mem_cons.mpr ⟨lk_12_171, List.forall_mem_cons.mpr ⟨lk_12_174, List.forall_mem_cons.mpr ⟨lk_12_175, List.forall_mem_cons.mpr ⟨lk_12_178, List.forall_mem_cons.mpr ⟨lk_12_179, List.forall_mem_cons.mpr ⟨lk_12_182, fun _ h => absurd h List.not_mem_nil⟩⟩⟩⟩⟩⟩⟩⟩⟩⟩⟩⟩⟩⟩⟩⟩), List.forall_mem_cons.mpr ⟨(List.forall_mem_cons.mpr ⟨lk_12_183, List.forall_mem_cons.mpr ⟨lk_12_186, List.forall_mem_cons.mpr ⟨lk_12_187, List.forall_mem_cons.mpr ⟨lk_12_190, List.forall_mem_cons.mpr ⟨lk_12_191, List.forall_mem_cons.mpr ⟨lk_12_194, fun _ h => absurd h List.not_mem_nil⟩⟩⟩⟩⟩⟩), fun _ h => absurd h List.not_mem_nil⟩⟩⟩⟩⟩⟩), List.forall_mem_cons.mpr ⟨(List.forall_mem_cons.mpr ⟨(List.forall_mem_cons.mpr ⟨lk_13_122, fun _ h => absurd h List.not_mem_nil⟩), fun _ h => absurd h List.not_mem_nil⟩), List.forall_mem_cons.mpr ⟨(List.forall_mem_cons.mpr ⟨(List.forall_mem_cons.mpr ⟨lk_14_59, fun _ h => absurd h List.not_mem_nil⟩), fun _ h => absurd h List.not_mem_nil⟩), fun _ h => absurd h List.not_mem_nil⟩⟩⟩⟩⟩⟩⟩⟩⟩⟩⟩⟩
theorem zM_ok {own idx : Nat} {v : Nat × Nat × zMt} (h : zlkM own idx = some v) : zMok own idx v := by
  obtain ⟨q, h1, rfl, p, h2, h3⟩ := zlk_mem (t := zlkMT) h
  exact zM_all q h1 p h2 _ h3
end
section
/-! the small machine: what each instruction does to places, locals, stack and memory; 65535: no place of any method (a guard that fails goes there) -/
abbrev zX : Type := (Nat × List Value × List Value × zM) ⊕ ((zMt × List Value × Nat × List Value) ⊕ Option Value)
abbrev zSc : Type := Nat × (Nat → Int32)
def zt (pc : Nat) : Int → Option Nat
  | .ofNat n => some (pc + n)
  | .negSucc n => bif Nat.ble (n + 1) pc then some (pc - (n + 1)) else none
def zn (pc : Nat) (ls st : List Value) (M : zM) : Option zX := some (.inl (pc, ls, st, M))
def zkill (ls : List Value) : Nat → List Value
  | 0 => ls
  | k + 1 => match zgt ls k with
    | some (.long _) => ls.set k .null
    | some (.double _) => ls.set k .null
    | _ => ls
def zsto1 (ls : List Value) (i : Nat) (v : Value) : List Value := (zkill ls i).set i v
def zsto2 (ls : List Value) (i : Nat) (v : Value) : List Value := ((zkill ls i).set i v).set (i + 1) .null
def zval (I : zI) (L : zL) (a k : Nat) : zF → Value
  | .inl 1 => .long (L a k)
  | .inl _ => .int (I a k)
  | .inr none => .null
  | .inr (some q) => .ref q
def zbr (c : ClassFile.Cond) (x y : Int32) (t f : Nat) : Nat := match c with
  | .eq => if x = y then t else f
  | .ne => if x = y then f else t
  | .lt => if x < y then t else f
  | .ge => if y ≤ x then t else f
  | .gt => if y < x then t else f
  | .le => if x ≤ y then t else f
def ztsw (pc : Nat) (d lo hi : Int) (offs : Array Int) (x : Int32) : Option Nat :=
  if x.toInt < lo ∨ hi < x.toInt then zt pc d else match zgt offs.toList (x.toInt - lo).toNat with
    | some o => zt pc o
    | none => none
def zargs : Nat → List Value → List Value → Option (List Value × List Value)
  | 0, as, st => some (as, st)
  | n + 1, as, v :: st => zargs n (v :: as) st
  | _ + 1, _, [] => none
def zsp : List Value → List Value
  | [] => []
  | .long x :: vs => .long x :: .null :: zsp vs
  | .double x :: vs => .double x :: .null :: zsp vs
  | v :: vs => v :: zsp vs
def zpad : Nat → List Value → List Value
  | 0, l => l
  | n + 1, [] => .null :: zpad n []
  | n + 1, v :: l => v :: zpad n l
def zent (n : Nat) (as : List Value) : List Value := zpad n (zsp as)
def zcat : List Value → Nat
  | [] => 0
  | .long _ :: l => zcat l + 2
  | .double _ :: l => zcat l + 2
  | _ :: l => zcat l + 1
def zcls (S : List zS) (a : Nat) : Option Nat := match zgt S a with
  | some (.inr (c, _)) => some c
  | _ => none
def zld (v : Option Value) (pc : Nat) (ls st : List Value) (M : zM) : Option zX := match v with
  | some .null => none
  | some v => zn pc ls (v :: st) M
  | none => none
def zbi (f : Int32 → Int32 → Int32) (pc : Nat) (ls st : List Value) (M : zM) : Option zX := match st with
  | .int y :: .int x :: r => zn pc ls (.int (f x y) :: r) M
  | _ => none
def zbl (f : Int64 → Int64 → Int64) (pc : Nat) (ls st : List Value) (M : zM) : Option zX := match st with
  | .long y :: .long x :: r => zn pc ls (.long (f x y) :: r) M
  | _ => none
def zbd (f : UInt64 → UInt64 → UInt64) (pc : Nat) (ls st : List Value) (M : zM) : Option zX := match st with
  | .double y :: .double x :: r => zn (if f x y &&& 0x7fffffffffffffff ≤ 0x7ff0000000000000 then pc else 65535) ls (.double (f x y) :: r) M
  | _ => none
def zs1 (k pc : Nat) (ls r : List Value) (v : Value) (M : zM) : Option zX := bif Nat.blt k ls.length then zn pc (zsto1 ls k v) r M else none
def zs2 (k pc : Nat) (ls r : List Value) (v : Value) (M : zM) : Option zX := bif Nat.blt (k + 1) ls.length then zn pc (zsto2 ls k v) r M else none
def zisto (k pc : Nat) (ls st : List Value) (M : zM) : Option zX := match st with
  | .int x :: r => zs1 k pc ls r (.int x) M
  | _ => none
def zasto (k pc : Nat) (ls st : List Value) (M : zM) : Option zX := match st with
  | .ref x :: r => zs1 k pc ls r (.ref x) M
  | _ => none
def zlsto (k pc : Nat) (ls st : List Value) (M : zM) : Option zX := match st with
  | .long x :: r => zs2 k pc ls r (.long x) M
  | _ => none
def zdsto (k pc : Nat) (ls st : List Value) (M : zM) : Option zX := match st with
  | .double x :: r => zs2 k pc ls r (.double x) M
  | _ => none
def zli (k pc : Nat) (ls st : List Value) (M : zM) : Option zX := match zgt ls k with
  | some (.int x) => zn pc ls (.int x :: st) M
  | _ => none
def zll (k pc : Nat) (ls st : List Value) (M : zM) : Option zX := match zgt ls k with
  | some (.long x) => zn pc ls (.long x :: st) M
  | _ => none
def zlf (k pc : Nat) (ls st : List Value) (M : zM) : Option zX := match zgt ls k with
  | some (.float x) => zn pc ls (.float x :: st) M
  | _ => none
def zldd (k pc : Nat) (ls st : List Value) (M : zM) : Option zX := match zgt ls k with
  | some (.double x) => zn pc ls (.double x :: st) M
  | _ => none
def zla (k pc : Nat) (ls st : List Value) (M : zM) : Option zX := match zgt ls k with
  | some (.ref x) => zn pc ls (.ref x :: st) M
  | some (.retAddr x) => zn pc ls (.retAddr x :: st) M
  | _ => none
def zgetf (own idx pc : Nat) (ls st : List Value) (M : zM) : Option zX := match st with
  | .ref a :: r => match zlkF own idx with
    | some (ci, k, _) => match zgt M.1 a with
      | some (.inr (cj, fs)) => bif Nat.beq ci cj then (match zgt fs k with
        | some kd => zn pc ls (zval M.2.1 M.2.2 a k kd :: r) M
        | none => none) else none
      | _ => none
    | none => none
  | _ => none
def zput (a k cj : Nat) (fs : List zF) (pc : Nat) (ls r : List Value) (v : Value) (M : zM) : zF → Option zX
  | .inl 0 => match v with
    | .int x => zn pc ls r (M.1, va_up M.2.1 a (upd (M.2.1 a) k x), M.2.2)
    | _ => none
  | .inl 1 => match v with
    | .long x => zn pc ls r (M.1, M.2.1, va_up M.2.2 a (vp_updL (M.2.2 a) k x))
    | _ => none
  | .inl _ => match v with
    | .int x => zn (if x = 0 ∨ x = 1 then pc else 65535) ls r (M.1, va_up M.2.1 a (upd (M.2.1 a) k x), M.2.2)
    | _ => none
  | .inr _ => match v with
    | .ref q => zn pc ls r (M.1.set a (.inr (cj, fs.set k (.inr (some q)))), M.2)
    | .null => zn pc ls r (M.1.set a (.inr (cj, fs.set k (.inr none))), M.2)
    | _ => none
/-- a field's kind, as its class has it -/
def zkd (ci k : Nat) : Option zF := match zgt zdfs ci with
  | some d => zgt d k
  | none => none
def zke : zF → zF → Bool
  | .inl a, .inl b => Nat.beq a b
  | .inr _, .inr _ => true
  | _, _ => false
def zputf (own idx pc : Nat) (ls st : List Value) (M : zM) : Option zX := match st with
  | v :: .ref a :: r => match zlkF own idx with
    | some (ci, k, _) => match zgt M.1 a with
      | some (.inr (cj, fs)) => bif Nat.beq ci cj then (match zgt fs k, zkd ci k with
        | some kd, some kd0 => bif zke kd kd0 then zput a k ci fs pc ls r v M kd else none
        | _, _ => none) else none
      | _ => none
    | none => none
  | _ => none
def zild (X : zSc) (pc : Nat) (ls st : List Value) (M : zM) : Option zX := match st with
  | .int i :: .ref a :: r => match zgt M.1 a with
    | some (.inl (0, n)) => zn (if i < 0 ∨ n ≤ i.toNatClampNeg then 65535 else pc) ls (.int (M.2.1 a i.toNatClampNeg) :: r) M
    | _ => none
  | .int i :: .retAddr 2 :: r => zn (if i < 0 ∨ X.1 ≤ i.toNatClampNeg then 65535 else pc) ls (.int (X.2 i.toNatClampNeg) :: r) M
  | _ => none
def zlld (pc : Nat) (ls st : List Value) (M : zM) : Option zX := match st with
  | .int i :: .ref a :: r => match zgt M.1 a with
    | some (.inl (1, n)) => zn (if i < 0 ∨ n ≤ i.toNatClampNeg then 65535 else pc) ls (.long (M.2.2 a i.toNatClampNeg) :: r) M
    | _ => none
  | _ => none
def zbld (pc : Nat) (ls st : List Value) (M : zM) : Option zX := match st with
  | .int i :: .ref a :: r => match zgt M.1 a with
    | some (.inl (2, n)) => zn (if i < 0 ∨ n ≤ i.toNatClampNeg then 65535 else pc) ls (.int (M.2.1 a i.toNatClampNeg) :: r) M
    | some (.inl (3, n)) => zn (if i < 0 ∨ n ≤ i.toNatClampNeg then 65535 else pc) ls (.int (M.2.1 a i.toNatClampNeg) :: r) M
    | _ => none
  | _ => none
def zias (pc : Nat) (ls st : List Value) (M : zM) : Option zX := match st with
  | .int x :: .int i :: .ref a :: r => match zgt M.1 a with
    | some (.inl (0, n)) => zn (if i < 0 ∨ n ≤ i.toNatClampNeg then 65535 else pc) ls r (M.1, va_up M.2.1 a (upd (M.2.1 a) i.toNatClampNeg x), M.2.2)
    | _ => none
  | _ => none
def zlas (pc : Nat) (ls st : List Value) (M : zM) : Option zX := match st with
  | .long x :: .int i :: .ref a :: r => match zgt M.1 a with
    | some (.inl (1, n)) => zn (if i < 0 ∨ n ≤ i.toNatClampNeg then 65535 else pc) ls r (M.1, M.2.1, va_up M.2.2 a (vp_updL (M.2.2 a) i.toNatClampNeg x))
    | _ => none
  | _ => none
def zbas (pc : Nat) (ls st : List Value) (M : zM) : Option zX := match st with
  | .int x :: .int i :: .ref a :: r => match zgt M.1 a with
    | some (.inl (2, n)) => zn (if i < 0 ∨ n ≤ i.toNatClampNeg then 65535 else pc) ls r (M.1, va_up M.2.1 a (upd (M.2.1 a) i.toNatClampNeg (vp_nar .byte x)), M.2.2)
    | some (.inl (3, n)) => zn (if i < 0 ∨ n ≤ i.toNatClampNeg then 65535 else pc) ls r (M.1, va_up M.2.1 a (upd (M.2.1 a) i.toNatClampNeg (vp_nar .boolean x)), M.2.2)
    | _ => none
  | _ => none
def zlen (X : zSc) (pc : Nat) (ls st : List Value) (M : zM) : Option zX := match st with
  | .retAddr 2 :: r => zn pc ls (.int (Int32.ofNat X.1) :: r) M
  | _ => none
def zadd (s : zS) (pc : Nat) (ls r : List Value) (M : zM) : Option zX := zn pc ls (.ref M.1.length :: r) (M.1 ++ [s], va_up M.2.1 M.1.length (fun _ => 0), va_up M.2.2 M.1.length (fun _ => 0))
def znew (own idx pc : Nat) (ls st : List Value) (M : zM) : Option zX := match zlkC own idx with
  | some (ci, _) => match zgt zdfs ci with
    | some fs => zadd (.inr (ci, fs)) pc ls st M
    | none => none
  | none => none
def znat (t pc : Nat) (ls st : List Value) (M : zM) : Option zX := match st with
  | .int k :: r => zadd (.inl (t, k.toNatClampNeg)) (if k < 0 ∨ 100000 < k.toNatClampNeg then 65535 else pc) ls r M
  | _ => none
def zch (i : Nat) : Int32 := match i with
  | 0 => 32
  | 1 => 82
  | 2 => 69
  | _ => 86
def zp0 (pc : Nat) (ls st : List Value) (M : zM) : Option zX := match st with
  | .ref _ :: r => bif Nat.ble (zcat r) 8 then zn pc ls r M else none
  | _ => none
def zp1 (pc : Nat) (ls st : List Value) (M : zM) : Option zX := match st with
  | .int n :: .int dp :: .ref d :: .int sp :: .ref a :: r => bif Nat.ble (zcat r) 8 then (match zgt M.1 a, zgt M.1 d with
    | some (.inl (0, la)), some (.inl (0, ld)) => zn (if sp < 0 ∨ dp < 0 ∨ n < 0 ∨ la < sp.toNatClampNeg + n.toNatClampNeg ∨ ld < dp.toNatClampNeg + n.toNatClampNeg then 65535 else pc) ls r (M.1, va_up M.2.1 d (va_cpy (M.2.1 a) (M.2.1 d) sp.toNatClampNeg dp.toNatClampNeg n.toNatClampNeg), M.2.2)
    | some (.inl (1, la)), some (.inl (1, ld)) => zn (if sp < 0 ∨ dp < 0 ∨ n < 0 ∨ la < sp.toNatClampNeg + n.toNatClampNeg ∨ ld < dp.toNatClampNeg + n.toNatClampNeg then 65535 else pc) ls r (M.1, M.2.1, va_up M.2.2 d (va_cpy (M.2.2 a) (M.2.2 d) sp.toNatClampNeg dp.toNatClampNeg n.toNatClampNeg))
    | _, _ => none) else none
  | _ => none
def zp2 (pc : Nat) (ls st : List Value) (M : zM) : Option zX := match st with
  | .double b :: r => bif Nat.ble (zcat r) 8 then zn pc ls (.long b.toInt64 :: r) M else none
  | _ => none
def zp3 (pc : Nat) (ls st : List Value) (M : zM) : Option zX := match st with
  | .float b :: r => bif Nat.ble (zcat r) 8 then zn pc ls (.int b.toInt32 :: r) M else none
  | _ => none
def zp4 (pc : Nat) (ls st : List Value) (M : zM) : Option zX := match st with
  | .retAddr k :: r => bif Nat.blt k 2 && Nat.ble (zcat r) 8 then zn pc ls (.int 4 :: r) M else none
  | _ => none
def zp5 (pc : Nat) (ls st : List Value) (M : zM) : Option zX := match st with
  | .int i :: .retAddr k :: r => bif Nat.blt k 2 && Nat.ble (zcat r) 8 then zn (if i < 0 ∨ 4 ≤ i.toNatClampNeg then 65535 else pc) ls (.int (zch i.toNatClampNeg) :: r) M else none
  | _ => none
def zpc (q kind : Nat) (m : zMt) (pc : Nat) (ls st : List Value) (M : zM) : Option zX := match q, kind with
  | 0, 2 => zp0 pc ls st M
  | 1, 1 => zp1 pc ls st M
  | 2, 1 => zp2 pc ls st M
  | 3, 1 => zp3 pc ls st M
  | 4, 0 => bif Nat.ble 4 (zlv m) then zp4 pc ls st M else none
  | 5, 0 => bif Nat.ble 4 (zlv m) then zp5 pc ls st M else none
  | _, _ => none
def zcall (m : zMt) (idx kind pc : Nat) (ls st : List Value) (M : zM) : Option zX := match zlkM (zow m) idx with
  | some (kd, na, mj) => bif Nat.beq kd kind && Nat.blt (zlv mj) (zlv m) then (match zargs na [] st with
    | some (as, rest) => bif Nat.ble (zcat rest) 8 && Nat.ble (zsp as).length (zmx mj) then (match kind, as with
      | 0, .ref a :: _ => match zcls M.1 a with
        | some c => bif Nat.beq c (zow mj) then some (.inr (.inl (mj, as, pc, rest))) else none
        | none => none
      | 1, _ => some (.inr (.inl (mj, as, pc, rest)))
      | 2, .ref _ :: _ => some (.inr (.inl (mj, as, pc, rest)))
      | 3, .ref _ :: _ => some (.inr (.inl (mj, as, pc, rest)))
      | _, _ => none) else none
    | none => none) else none
  | none => none
def zinv (m : zMt) (idx kind pc : Nat) (ls st : List Value) (M : zM) : Option zX := match zlkP (zow m) idx with
  | some (q, _) => zpc q kind m pc ls st M
  | none => zcall m idx kind pc ls st M
def zspec (m : zMt) (idx pc : Nat) (ls st : List Value) (M : zM) : Option zX := match zlkM (zow m) idx with
  | some (3, _, _) => zcall m idx 3 pc ls st M
  | _ => zinv m idx 2 pc ls st M
def zclr : List Nat → List Value → List Value
  | [], ls => ls
  | i :: l, ls => zclr l (ls.set i .null)
def zfgt (o : Option (List Nat)) (ls : List Value) : List Value := match o with
  | none => ls
  | some l => zclr l ls
def zret (m : zMt) (st : List Value) : Option zX := match st with
  | [.int v] => match zrt m with
    | some .int => some (.inr (.inr (some (.int v))))
    | some .boolean => if v = 0 ∨ v = 1 then some (.inr (.inr (some (.int v)))) else none
    | _ => none
  | _ => none
def zx (X : zSc) (m : zMt) (pc : Nat) (ls st : List Value) (M : zM) (n : Nat) : Instr → Option zX
  | .iconst i => zn (pc + n) ls (.int (zic i) :: st) M
  | .bipush i => zn (pc + n) ls (.int (zic i) :: st) M
  | .sipush i => zn (pc + n) ls (.int (zic i) :: st) M
  | .lconst i => zn (pc + n) ls (.long (Int64.ofNat (i : Nat)) :: st) M
  | .dconst i => match i with
    | 0 => zn (pc + n) ls (.double FP.dconst0 :: st) M
    | 1 => zn (pc + n) ls (.double FP.dconst1 :: st) M
  | .aconst_null => zn (pc + n) ls (.null :: st) M
  | .ldc idx => match zlkI (zow m) idx with
    | some (v, _) => zn (pc + n) ls (.int v :: st) M
    | none => match zlkS (zow m) idx with
      | some q => zn (pc + n) ls (.retAddr q :: st) M
      | none => none
  | .ldc2_w idx => match zlkJ (zow m) idx with
    | some (v, _) => zn (pc + n) ls (.long v :: st) M
    | none => match zlkD (zow m) idx with
      | some (v, _) => zn (pc + n) ls (.double v :: st) M
      | none => none
  | .iload k => zli k (pc + n) ls st M
  | .iload_n k => zli k (pc + n) ls st M
  | .lload k => zll k (pc + n) ls st M
  | .lload_n k => zll k (pc + n) ls st M
  | .fload_n k => zlf k (pc + n) ls st M
  | .dload k => zldd k (pc + n) ls st M
  | .dload_n k => zldd k (pc + n) ls st M
  | .aload k => zla k (pc + n) ls st M
  | .aload_n k => zla k (pc + n) ls st M
  | .istore k => zisto k (pc + n) ls st M
  | .istore_n k => zisto k (pc + n) ls st M
  | .lstore k => zlsto k (pc + n) ls st M
  | .lstore_n k => zlsto k (pc + n) ls st M
  | .dstore k => zdsto k (pc + n) ls st M
  | .astore k => zasto k (pc + n) ls st M
  | .astore_n k => zasto k (pc + n) ls st M
  | .iinc k c => match zgt ls k with
    | some (.int x) => zs1 k (pc + n) ls st (.int (x + zic c)) M
    | _ => none
  | .iadd => zbi (fun x y => x + y) (pc + n) ls st M
  | .isub => zbi (fun x y => x - y) (pc + n) ls st M
  | .imul => zbi (fun x y => x * y) (pc + n) ls st M
  | .iand => zbi (fun x y => x &&& y) (pc + n) ls st M
  | .ladd => zbl (fun x y => x + y) (pc + n) ls st M
  | .lsub => zbl (fun x y => x - y) (pc + n) ls st M
  | .lmul => zbl (fun x y => x * y) (pc + n) ls st M
  | .land => zbl (fun x y => x &&& y) (pc + n) ls st M
  | .lor => zbl (fun x y => x ||| y) (pc + n) ls st M
  | .idiv => match st with
    | .int y :: .int x :: r => zn (if y = 0 then 65535 else pc + n) ls (.int (x / y) :: r) M
    | _ => none
  | .irem => match st with
    | .int y :: .int x :: r => zn (if y = 0 then 65535 else pc + n) ls (.int (x - x / y * y) :: r) M
    | _ => none
  | .ldiv => match st with
    | .long y :: .long x :: r => zn (if y = 0 then 65535 else pc + n) ls (.long (x / y) :: r) M
    | _ => none
  | .lrem => match st with
    | .long y :: .long x :: r => zn (if y = 0 then 65535 else pc + n) ls (.long (x - x / y * y) :: r) M
    | _ => none
  | .ineg => match st with
    | .int x :: r => zn (pc + n) ls (.int (-x) :: r) M
    | _ => none
  | .lneg => match st with
    | .long x :: r => zn (pc + n) ls (.long (-x) :: r) M
    | _ => none
  | .lshl => match st with
    | .int y :: .long x :: r => zn (pc + n) ls (.long (x <<< (y.toInt64 &&& 63)) :: r) M
    | _ => none
  | .lshr => match st with
    | .int y :: .long x :: r => zn (pc + n) ls (.long (x >>> (y.toInt64 &&& 63)) :: r) M
    | _ => none
  | .i2l => match st with
    | .int x :: r => zn (pc + n) ls (.long x.toInt64 :: r) M
    | _ => none
  | .l2i => match st with
    | .long x :: r => zn (pc + n) ls (.int x.toInt32 :: r) M
    | _ => none
  | .i2b => match st with
    | .int x :: r => zn (pc + n) ls (.int x.toInt8.toInt32 :: r) M
    | _ => none
  | .l2d => match st with
    | .long x :: r => zn (pc + n) ls (.double (FP.l2d x) :: r) M
    | _ => none
  | .d2i => match st with
    | .double x :: r => zn (pc + n) ls (.int (FP.d2i x) :: r) M
    | _ => none
  | .d2l => match st with
    | .double x :: r => zn (pc + n) ls (.long (FP.d2l x) :: r) M
    | _ => none
  | .d2f => match st with
    | .double x :: r => zn (if FP.d2f x &&& 0x7fffffff ≤ 0x7f800000 then pc + n else 65535) ls (.float (FP.d2f x) :: r) M
    | _ => none
  | .f2d => match st with
    | .float x :: r => zn (if FP.f2d x &&& 0x7fffffffffffffff ≤ 0x7ff0000000000000 then pc + n else 65535) ls (.double (FP.f2d x) :: r) M
    | _ => none
  | .ddiv => zbd FP.ddiv (pc + n) ls st M
  | .dmul => zbd FP.dmul (pc + n) ls st M
  | .dsub => zbd FP.dsub (pc + n) ls st M
  | .dneg => match st with
    | .double x :: r => zn (pc + n) ls (.double (FP.dneg x) :: r) M
    | _ => none
  | .lcmp => match st with
    | .long y :: .long x :: r => zn (pc + n) ls (.int (lg_cmp x y) :: r) M
    | _ => none
  | .dcmp op => match st with
    | .double y :: .double x :: r => zn (pc + n) ls (.int (Op.cmpValue (FP.dcmp x y) op) :: r) M
    | _ => none
  | .fcmp op => match st with
    | .float y :: .float x :: r => zn (pc + n) ls (.int (Op.cmpValue (FP.fcmp x y) op) :: r) M
    | _ => none
  | .ifCond c off => match st with
    | .int x :: r => match zt pc off with
      | some t => zn (zbr c x 0 t (pc + n)) ls r M
      | none => none
    | _ => none
  | .if_icmp c off => match st with
    | .int y :: .int x :: r => match zt pc off with
      | some t => zn (zbr c x y t (pc + n)) ls r M
      | none => none
    | _ => none
  | .ifnonnull off => match st with
    | .ref _ :: r => match zt pc off with
      | some t => zn t ls r M
      | none => none
    | .null :: r => zn (pc + n) ls r M
    | _ => none
  | .goto off => match zt pc off with
    | some t => zn t (bif Nat.ble t pc then zfgt (zfd (zfg m) t) ls else ls) st M
    | none => none
  | .tableswitch d lo hi offs => match st with
    | .int x :: r => match ztsw pc d lo hi offs x with
      | some t => zn t ls r M
      | none => none
    | _ => none
  | .dup => match st with
    | .int x :: r => zn (pc + n) ls (.int x :: .int x :: r) M
    | .ref x :: r => zn (pc + n) ls (.ref x :: .ref x :: r) M
    | _ => none
  | .dup2 => match st with
    | .int x :: .ref a :: r => zn (pc + n) ls (.int x :: .ref a :: .int x :: .ref a :: r) M
    | _ => none
  | .pop => match st with
    | .int _ :: r => zn (pc + n) ls r M
    | .ref _ :: r => zn (pc + n) ls r M
    | _ => none
  | .getfield idx => zgetf (zow m) idx (pc + n) ls st M
  | .putfield idx => zputf (zow m) idx (pc + n) ls st M
  | .iaload => zild X (pc + n) ls st M
  | .laload => zlld (pc + n) ls st M
  | .baload => zbld (pc + n) ls st M
  | .iastore => zias (pc + n) ls st M
  | .lastore => zlas (pc + n) ls st M
  | .bastore => zbas (pc + n) ls st M
  | .arraylength => zlen X (pc + n) ls st M
  | .new idx => znew (zow m) idx (pc + n) ls st M
  | .newarray t => match t with
    | .int => znat 0 (pc + n) ls st M
    | .long => znat 1 (pc + n) ls st M
    | .byte => znat 2 (pc + n) ls st M
    | .boolean => znat 3 (pc + n) ls st M
    | _ => none
  | .invokevirtual idx => zinv m idx 0 (pc + n) ls st M
  | .invokestatic idx => zinv m idx 1 (pc + n) ls st M
  | .invokespecial idx => zspec m idx (pc + n) ls st M
  | .ireturn => zret m st
  | .lreturn => match st with
    | [.long v] => match zrt m with
      | some .long => some (.inr (.inr (some (.long v))))
      | _ => none
    | _ => none
  | .dreturn => match st with
    | [.double v] => match zrt m with
      | some .double => some (.inr (.inr (some (.double v))))
      | _ => none
    | _ => none
  | .return_ => match st with
    | [] => match zrt m with
      | none => some (.inr (.inr none))
      | _ => none
    | _ => none
  | _ => none
def zstep (X : zSc) (m : zMt) (pc : Nat) (ls st : List Value) (M : zM) : Option zX := match zfd2 (zcd m) pc with
  | some (i, n) => zx X m pc ls st M n i
  | none => none
def zrun (X : zSc) : Nat → zMt → Nat → List Value → List Value → zM → Option (Option Value × zM)
  | 0, _, _, _, _, _ => none
  | f + 1, m, pc, ls, st, M => match zstep X m pc ls st M with
    | none => none
    | some (.inl (pc', ls', st', M')) => zrun X f m pc' ls' st' M'
    | some (.inr (.inl (mj, as, pc', rest))) => match zrun X f mj 0 (zent (zmx mj) as) [] M with
      | none => none
      | some (v, M') => zrun X f m pc' ls (v.toList ++ rest) M'
    | some (.inr (.inr v)) => some (v, M)
def zEv (X : zSc) (m : zMt) (pc : Nat) (ls st : List Value) (M : zM) (r : Option Value × zM) : Prop := ∃ f, zrun X f m pc ls st M = some r
def zgo (X : zSc) (m : zMt) : Nat → Nat → List Value → List Value → zM → Option (Nat × List Value × List Value × zM)
  | 0, pc, ls, st, M => some (pc, ls, st, M)
  | k + 1, pc, ls, st, M => match zstep X m pc ls st M with
    | some (.inl (pc', ls', st', M')) => zgo X m k pc' ls' st' M'
    | _ => none
theorem zrun_le (X : zSc) : ∀ (f : Nat) (m : zMt) (pc : Nat) (ls st : List Value) (M : zM) (r : Option Value × zM), zrun X f m pc ls st M = some r → zrun X (f + 1) m pc ls st M = some r := by
  intro f
  induction f with
  | zero => intro m pc ls st M r h; cases h
  | succ f ih =>
    intro m pc ls st M r h
    rw [zrun] at h ⊢
    split at h
    · cases h
    · exact ih _ _ _ _ _ _ h
    · split at h
      · cases h
      · next v M' e =>
        rw [ih _ _ _ _ _ _ e]
        exact ih _ _ _ _ _ _ h
    · exact h
theorem zrun_mono (X : zSc) {f g : Nat} (hfg : f ≤ g) {m : zMt} {pc : Nat} {ls st : List Value} {M : zM} {r : Option Value × zM} (h : zrun X f m pc ls st M = some r) : zrun X g m pc ls st M = some r := by
  induction hfg with
  | refl => exact h
  | step _ ih => exact zrun_le X _ _ _ _ _ _ _ ih
theorem ev_go {X : zSc} {m : zMt} (k : Nat) {pc : Nat} {ls st : List Value} {M : zM} (pc' : Nat) (ls' st' : List Value) (M' : zM) {r : Option Value × zM} (h : zgo X m k pc ls st M = some (pc', ls', st', M')) (K : zEv X m pc' ls' st' M' r) : zEv X m pc ls st M r := by
  induction k generalizing pc ls st M with
  | zero =>
    rw [zgo] at h
    injection h with h
    injection h with e1 h
    injection h with e2 h
    injection h with e3 e4
    subst e1; subst e2; subst e3; subst e4
    exact K
  | succ k ih =>
    rw [zgo] at h
    split at h
    · next pc1 ls1 st1 M1 e =>
      obtain ⟨f, hf⟩ := ih h
      refine ⟨f + 1, ?_⟩
      rw [zrun, e]
      exact hf
    · cases h
theorem ev_if {X : zSc} {m : zMt} {c : Prop} [Decidable c] {a b : Nat} {ls st : List Value} {M : zM} {r : Option Value × zM} (h : c) (K : zEv X m a ls st M r) : zEv X m (if c then a else b) ls st M r := by
  rw [if_pos h]; exact K
theorem ev_nif {X : zSc} {m : zMt} {c : Prop} [Decidable c] {a b : Nat} {ls st : List Value} {M : zM} {r : Option Value × zM} (h : ¬ c) (K : zEv X m b ls st M r) : zEv X m (if c then a else b) ls st M r := by
  rw [if_neg h]; exact K
theorem ev_call {X : zSc} {m : zMt} {pc : Nat} {ls st : List Value} {M M' : zM} {r : Option Value × zM} {v : Option Value} (mj : zMt) (as : List Value) (pc' : Nat) (rest st' : List Value) (h : zstep X m pc ls st M = some (.inr (.inl (mj, as, pc', rest)))) (hs : v.toList ++ rest = st') (C : zEv X mj 0 (zent (zmx mj) as) [] M (v, M')) (K : zEv X m pc' ls st' M' r) : zEv X m pc ls st M r := by
  subst hs
  obtain ⟨f, hf⟩ := C
  obtain ⟨g, hg⟩ := K
  refine ⟨(f + g) + 1, ?_⟩
  rw [zrun, h]
  dsimp only
  rw [zrun_mono X (Nat.le_add_right f g) hf]
  exact zrun_mono X (Nat.le_add_left g f) hg
theorem ev_ret {X : zSc} {m : zMt} {pc : Nat} {ls st : List Value} {M : zM} {v : Option Value} (h : zstep X m pc ls st M = some (.inr (.inr v))) : zEv X m pc ls st M (v, M) := ⟨1, by rw [zrun, h]⟩
theorem ev_retz {X : zSc} {m : zMt} {pc : Nat} {ls : List Value} {M : zM} {v : Int32} (hd : zfd2 (zcd m) pc = some (.ireturn, 1)) (hr : zrt m = some .boolean) (h : v = 0 ∨ v = 1) : zEv X m pc ls [.int v] M (some (.int v), M) := ev_ret (by
  unfold zstep
  rw [hd]
  show zret m [.int v] = _
  unfold zret
  rw [hr]
  exact if_pos h)
end
section
/-! the world of the machine that a memory of the small one stands for -/
def zren (n0 : Nat) (q : Nat → Nat) : Value → Value
  | .ref a => .ref (n0 + a)
  | .retAddr k => .ref (q k)
  | v => v
def zfs (n0 : Nat) (q : Nat → Nat) (I : zI) (L : zL) (i : Nat) (fs : List zF) : List Value := fs.mapIdx (fun k kd => zren n0 q (zval I L i k kd))
def zce (kA : Nat → ClassId) (n0 : Nat) (q : Nat → Nat) (I : zI) (L : zL) (i : Nat) : zS → va_E
  | .inl (1, n) => .inl (kA 1, n, .inr (.inl (L i)))
  | .inl (t, n) => .inl (kA t, n, .inl (I i))
  | .inr (ci, fs) => .inr (ci, zfs n0 q I L i fs)
def zwd (kA : Nat → ClassId) (n0 : Nat) (q : Nat → Nat) (M : zM) : va_W := M.1.mapIdx (fun i s => (n0 + i, zce kA n0 q M.2.1 M.2.2 i s))
def ztys (kA : Nat → ClassId) : List (ClassId × FieldType) := [(kA 0, .int), (kA 1, .long), (kA 2, .byte), (kA 3, .boolean)]
def zsz : zS → Nat
  | .inl (_, n) => n
  | .inr (_, fs) => fs.length
def zsize (S : List zS) : Nat := (S.map zsz).sum
def zW (D : va_G) (kA : Nat → ClassId) (n0 : Nat) (q : Nat → Nat) (M : zM) (H : Heap) : Prop := H.size = n0 + M.1.length ∧ va_P D vwCl (zwd kA n0 q M) H
def zpr (n0 : Nat) (q : Nat → Nat) : Nat → List Value → List (Nat × Value)
  | _, [] => []
  | k, .null :: l => zpr n0 q (k + 1) l
  | k, v :: l => (k, zren n0 q v) :: zpr n0 q (k + 1) l
def zLoc (n0 : Nat) (q : Nat → Nat) (nL : Nat) (ls : List Value) (lsM : Array Slot) : Prop := ls.length = nL ∧ lv_has lsM nL (zpr n0 q 0 ls)
theorem zgt_eq {α : Type} : ∀ (l : List α) (k : Nat), zgt l k = l[k]?
  | [], k => by simp [zgt]
  | a :: l, 0 => by simp [zgt]
  | a :: l, k + 1 => by simp [zgt, zgt_eq l k]
theorem zgt_lt {α : Type} {l : List α} {k : Nat} {v : α} (h : zgt l k = some v) : k < l.length := by
  rw [zgt_eq] at h
  exact (List.getElem?_eq_some_iff.mp h).1
theorem zgt_set_self {α : Type} {l : List α} {k : Nat} (v : α) (h : k < l.length) : zgt (l.set k v) k = some v := by
  rw [zgt_eq, List.getElem?_set_self h]
theorem zgt_set_ne {α : Type} {l : List α} {k j : Nat} (v : α) (h : j ≠ k) : zgt (l.set k v) j = zgt l j := by
  rw [zgt_eq, zgt_eq, List.getElem?_set_ne (Ne.symm h)]
theorem zpr_mem {n0 : Nat} {q : Nat → Nat} {w : Value} : ∀ {l : List Value} {b k : Nat}, (k, w) ∈ zpr n0 q b l ↔ ∃ j v, k = b + j ∧ zgt l j = some v ∧ v ≠ .null ∧ w = zren n0 q v
  | [], b, k => by
    constructor
    · intro h; cases h
    · rintro ⟨j, v, -, h, -⟩; simp [zgt] at h
  | u :: l, b, k => by
    have ih := @zpr_mem n0 q w l (b + 1) k
    have key : (∃ j v, k = b + j ∧ zgt (u :: l) j = some v ∧ v ≠ .null ∧ w = zren n0 q v) ↔ (k = b ∧ u ≠ .null ∧ w = zren n0 q u) ∨ ∃ j v, k = (b + 1) + j ∧ zgt l j = some v ∧ v ≠ .null ∧ w = zren n0 q v := by
      constructor
      · rintro ⟨j, v, e, h, h1, h2⟩
        cases j with
        | zero =>
          simp [zgt] at h
          subst h
          exact Or.inl ⟨e, h1, h2⟩
        | succ j => exact Or.inr ⟨j, v, by omega, h, h1, h2⟩
      · rintro (⟨e, h1, h2⟩ | ⟨j, v, e, h, h1, h2⟩)
        · exact ⟨0, u, by omega, rfl, h1, h2⟩
        · exact ⟨j + 1, v, by omega, h, h1, h2⟩
    rw [key]
    cases u with
    | null => simp only [zpr]; rw [ih]; simp
    | int x => simp only [zpr, List.mem_cons]; rw [ih]; simp
    | long x => simp only [zpr, List.mem_cons]; rw [ih]; simp
    | float x => simp only [zpr, List.mem_cons]; rw [ih]; simp
    | double x => simp only [zpr, List.mem_cons]; rw [ih]; simp
    | ref x => simp only [zpr, List.mem_cons]; rw [ih]; simp
    | retAddr x => simp only [zpr, List.mem_cons]; rw [ih]; simp
theorem zpr_in {n0 : Nat} {q : Nat → Nat} {l : List Value} {k : Nat} {v : Value} (h : zgt l k = some v) (hv : v ≠ .null) : (k, zren n0 q v) ∈ zpr n0 q 0 l := zpr_mem.mpr ⟨k, v, by omega, h, hv, rfl⟩
theorem zpr_of {n0 : Nat} {q : Nat → Nat} {l : List Value} {p : Nat × Value} (h : p ∈ zpr n0 q 0 l) : ∃ v, zgt l p.1 = some v ∧ v ≠ .null ∧ p.2 = zren n0 q v := by
  obtain ⟨k, w⟩ := p
  obtain ⟨j, v, e, h1, h2, h3⟩ := zpr_mem.mp h
  have : k = j := by omega
  subst this
  exact ⟨v, h1, h2, h3⟩
theorem zLoc.at {n0 : Nat} {q : Nat → Nat} {nL : Nat} {ls : List Value} {lsM : Array Slot} (h : zLoc n0 q nL ls lsM) {k : Nat} {v : Value} (hk : zgt ls k = some v) (hv : v ≠ .null) : lsM[k]? = some (.val (zren n0 q v)) := h.2.2.2 _ (zpr_in hk hv)
theorem zkill_len (ls : List Value) (i : Nat) : (zkill ls i).length = ls.length := by
  unfold zkill
  split
  · rfl
  · split <;> simp
theorem zkill_at {ls : List Value} {i k : Nat} {v : Value} (h : zgt (zkill ls i) k = some v) (hv : v ≠ .null) : zgt ls k = some v ∧ ¬ (k + 1 = i ∧ v.category = 2) := by
  unfold zkill at h
  split at h
  · exact ⟨h, fun e => by omega⟩
  · next j =>
    by_cases hkj : k = j
    · subst hkj
      split at h
      · next x e =>
        rw [zgt_set_self _ (zgt_lt e)] at h
        cases h
        exact absurd rfl hv
      · next x e =>
        rw [zgt_set_self _ (zgt_lt e)] at h
        cases h
        exact absurd rfl hv
      · next h1 h2 =>
        refine ⟨h, fun e => ?_⟩
        cases v with
        | long x => exact h1 x h
        | double x => exact h2 x h
        | _ => simp [Value.category] at e
    · refine ⟨?_, fun e => hkj (by omega)⟩
      split at h
      · rw [zgt_set_ne _ hkj] at h; exact h
      · rw [zgt_set_ne _ hkj] at h; exact h
      · exact h
theorem zren_cat (n0 : Nat) (q : Nat → Nat) (v : Value) : (zren n0 q v).category = v.category := by
  cases v <;> rfl
theorem zLoc.sto1 {n0 : Nat} {q : Nat → Nat} {nL i : Nat} {ls : List Value} {v : Value} {lsM' : Array Slot} (hlen : ls.length = nL) (hi : i < nL) (h : lv_has lsM' nL ((i, zren n0 q v) :: (zpr n0 q 0 ls).filter (fun q => !(q.1 == i) && !(q.1 + 1 == i && q.2.category == 2)))) : zLoc n0 q nL (zsto1 ls i v) lsM' := by
  refine ⟨by simp [zsto1, zkill_len, hlen], h.1, h.2.1, fun p hp => ?_⟩
  obtain ⟨w, h1, h2, h3⟩ := zpr_of hp
  obtain ⟨k, u⟩ := p
  simp only at h1 h3
  subst h3
  refine h.2.2 _ ?_
  unfold zsto1 at h1
  by_cases hk : k = i
  · subst hk
    rw [zgt_set_self _ (by rw [zkill_len, hlen]; exact hi)] at h1
    cases h1
    exact List.mem_cons_self
  · rw [zgt_set_ne _ hk] at h1
    obtain ⟨h4, h5⟩ := zkill_at h1 h2
    refine List.mem_cons_of_mem _ (List.mem_filter.mpr ⟨zpr_in h4 h2, ?_⟩)
    simp only [zren_cat, Bool.and_eq_true, Bool.not_eq_true', beq_eq_false_iff_ne, ne_eq, Bool.and_eq_false_iff]
    refine ⟨hk, ?_⟩
    by_cases h6 : k + 1 = i
    · exact Or.inr (fun e => h5 ⟨h6, e⟩)
    · exact Or.inl h6
theorem zLoc.sto2 {n0 : Nat} {q : Nat → Nat} {nL i : Nat} {ls : List Value} {v : Value} {lsM' : Array Slot} (hlen : ls.length = nL) (hi : i + 1 < nL) (h : lv_has lsM' nL ((i, zren n0 q v) :: (zpr n0 q 0 ls).filter (fun q => !(q.1 == i) && (!(q.1 == i + 1) && !(q.1 + 1 == i && q.2.category == 2))))) : zLoc n0 q nL (zsto2 ls i v) lsM' := by
  refine ⟨by simp [zsto2, zkill_len, hlen], h.1, h.2.1, fun p hp => ?_⟩
  obtain ⟨w, h1, h2, h3⟩ := zpr_of hp
  obtain ⟨k, u⟩ := p
  simp only at h1 h3
  subst h3
  refine h.2.2 _ ?_
  unfold zsto2 at h1
  by_cases hk1 : k = i + 1
  · subst hk1
    rw [zgt_set_self _ (by simp [zkill_len, hlen]; exact hi)] at h1
    cases h1
    exact absurd rfl h2
  · rw [zgt_set_ne _ hk1] at h1
    by_cases hk : k = i
    · subst hk
      rw [zgt_set_self _ (by rw [zkill_len, hlen]; omega)] at h1
      cases h1
      exact List.mem_cons_self
    · rw [zgt_set_ne _ hk] at h1
      obtain ⟨h4, h5⟩ := zkill_at h1 h2
      refine List.mem_cons_of_mem _ (List.mem_filter.mpr ⟨zpr_in h4 h2, ?_⟩)
      simp only [zren_cat, Bool.and_eq_true, Bool.not_eq_true', beq_eq_false_iff_ne, ne_eq, Bool.and_eq_false_iff]
      refine ⟨hk, hk1, ?_⟩
      by_cases h6 : k + 1 = i
      · exact Or.inr (fun e => h5 ⟨h6, e⟩)
      · exact Or.inl h6
theorem zLoc.clr {n0 : Nat} {q : Nat → Nat} {nL : Nat} {lsM : Array Slot} : ∀ (is : List Nat) {ls : List Value}, zLoc n0 q nL ls lsM → zLoc n0 q nL (zclr is ls) lsM
  | [], _, h => h
  | i :: is, ls, h => zLoc.clr is ⟨by simp [h.1], h.2.1, h.2.2.1, fun p hp => by
    obtain ⟨w, h1, h2, h3⟩ := zpr_of hp
    obtain ⟨k, u⟩ := p
    simp only at h1 h3
    subst h3
    by_cases hk : k = i
    · subst hk
      have hl := zgt_lt h1
      rw [List.length_set] at hl
      rw [zgt_set_self _ hl] at h1
      cases h1
      exact absurd rfl h2
    · rw [zgt_set_ne _ hk] at h1
      exact h.2.2.2 _ (zpr_in h1 h2)⟩
theorem zwd_get {kA : Nat → ClassId} {n0 : Nat} {q : Nat → Nat} {M : zM} {a : Nat} {s : zS} (h : zgt M.1 a = some s) : (zwd kA n0 q M)[a]? = some (n0 + a, zce kA n0 q M.2.1 M.2.2 a s) := by
  rw [zgt_eq] at h
  simp [zwd, List.getElem?_mapIdx, h]
theorem zwd_addr {kA : Nat → ClassId} {n0 : Nat} {q : Nat → Nat} {M : zM} {a : Nat} {p : Nat × va_E} (h : (zwd kA n0 q M)[a]? = some p) : p.1 = n0 + a := by
  rw [zwd, List.getElem?_mapIdx] at h
  cases e : M.1[a]? with
  | none => rw [e] at h; cases h
  | some s =>
    rw [e] at h
    simp only [Option.map_some, Option.some.injEq] at h
    rw [← h]
theorem zwd_D (kA : Nat → ClassId) (n0 : Nat) (q : Nat → Nat) (M : zM) : va_D (fun a => n0 ≤ a) (zwd kA n0 q M) := by
  refine ⟨fun i j x y hi hj e => ?_, fun k x h => ?_⟩
  · rw [zwd_addr hi, zwd_addr hj] at e
    omega
  · rw [zwd_addr h]
    exact Nat.le_add_right _ _
theorem zce_congr {kA : Nat → ClassId} {n0 : Nat} {q : Nat → Nat} {I I' : zI} {L L' : zL} {i : Nat} (h1 : I' i = I i) (h2 : L' i = L i) (s : zS) : zce kA n0 q I' L' i s = zce kA n0 q I L i s := by
  rcases s with ⟨t, n⟩ | ⟨ci, fs⟩
  · unfold zce
    split <;> simp_all
  · simp only [zce, zfs]
    congr 2
    apply congrArg (fun f => List.mapIdx f fs)
    funext k kd
    unfold zval
    split <;> simp [h1, h2]
theorem zwd_set {kA : Nat → ClassId} {n0 : Nat} {q : Nat → Nat} {M M' : zM} {a : Nat} {s' : zS} (hl : M'.1.length = M.1.length) (ha : zgt M'.1 a = some s') (hS : ∀ i, i ≠ a → zgt M'.1 i = zgt M.1 i) (hI : ∀ i, i ≠ a → M'.2.1 i = M.2.1 i) (hL : ∀ i, i ≠ a → M'.2.2 i = M.2.2 i) : zwd kA n0 q M' = (zwd kA n0 q M).set a (n0 + a, zce kA n0 q M'.2.1 M'.2.2 a s') := by
  apply List.ext_getElem?
  intro i
  by_cases hi : i = a
  · subst hi
    rw [zwd_get ha, List.getElem?_set_self]
    have := zgt_lt ha
    simp [zwd]
    omega
  · rw [List.getElem?_set_ne (Ne.symm hi)]
    have e := hS i hi
    rw [zgt_eq, zgt_eq] at e
    simp only [zwd, List.getElem?_mapIdx, e]
    cases M.1[i]? with
    | none => rfl
    | some s => simp only [Option.map_some]; rw [zce_congr (hI i hi) (hL i hi)]
theorem zwd_push {kA : Nat → ClassId} {n0 : Nat} {q : Nat → Nat} {M : zM} {s : zS} {I' : zI} {L' : zL} (hI : ∀ i, i < M.1.length → I' i = M.2.1 i) (hL : ∀ i, i < M.1.length → L' i = M.2.2 i) : zwd kA n0 q (M.1 ++ [s], I', L') = zwd kA n0 q M ++ [(n0 + M.1.length, zce kA n0 q I' L' M.1.length s)] := by
  apply List.ext_getElem?
  intro i
  simp only [zwd, List.getElem?_mapIdx]
  by_cases hi : i < M.1.length
  · rw [List.getElem?_append_left hi, List.getElem?_append_left (by simpa using hi), List.getElem?_mapIdx]
    cases M.1[i]? with
    | none => rfl
    | some s => simp only [Option.map_some]; rw [zce_congr (hI i hi) (hL i hi)]
  · by_cases he : i = M.1.length
    · subst he
      simp
    · rw [List.getElem?_eq_none (by simp; omega), List.getElem?_eq_none (by simp; omega)]
      rfl
end
section
/-! one-instruction rows that keep the heap's size in sight -/
section ZR
variable {p : Program} {l : Launch} {e : Env} {R : Room} {s : State} {m : MethodId} {args : Array Value} {below : List Frame} {meth : Method} {c : Code} {H : Heap} {locs : List Loc} {cells slots : Nat} {Q : State → Prop}
variable {cc : ByteArray} {pc : Nat} {ls : Array Slot} {rest : List Value} {D : va_G} {cl : List vw_C} {A : Nat → Prop} {a : Nat} {tys : List (ClassId × FieldType)} {ws : va_W} {H0 : Heap}
/-- what a store into a cell leaves -/
theorem zr_ast {α : Type} {mk : α → Value} {cA : ClassId} {n j : Nat} {f : Nat → α} {x : α} {e0 e1 : va_E} {H1 : Heap} {q0 : Nat} (hP : va_P D cl ws H) (hD : va_D A ws) (hS : va_S A H0 H locs) (ha : ws[q0]? = some (a, e0)) (hc : ∀ K : Heap, K[a]? = some (arrV cA n (fun k => mk (if k = j then x else f k))) → va_at D cl (a, e1) K) (e : H1[a]? = some ((arrV cA n (fun k => mk (f k))).setSlot j (mk x))) (z : H1.size = H.size) (oq : ∀ q : Nat, q ≠ a → H1[q]? = H[q]?) : va_P D cl (ws.set q0 (a, e1)) H1 ∧ va_S A H0 H1 (locs ++ [⟨a, j⟩]) := by
  refine ⟨hP.set hD ha (hc H1 ?_) oq, hS.put z oq (hD.2 q0 _ ha)⟩
  rw [e, arrV_store]
  congr 2
  funext k
  by_cases hk : k = j
  · subst hk
    simp [updV]
  · simp [updV, hk]
theorem zr_iast (hexec : p.tables.exec = Jvm.exec) (hb : c.code = cc) (hK : va_K D cl tys s) (hP : va_P D cl ws H) (hD : va_D A ws) (hS : va_S A H0 H locs) (q0 t0 : Nat) {cA : ClassId} {n : Nat} {f : Nat → Int32} (ha : ws[q0]? = some (a, .inl (cA, n, .inl f))) (ht : tys[t0]? = some (cA, .int)) {i x : Int32} (hin : vp_in i n) (hdg : decode cc pc = .ok (.iastore, 1))
    (kk : ∀ (H1 : Heap) (locs1 : List Loc), H1.size = H.size → va_P D cl (ws.set q0 (a, .inl (cA, n, .inl (upd f i.toNatClampNeg x)))) H1 → va_S A H0 H1 locs1 → W p l e R s m args below meth c H1 locs1 cells slots Q (F0 m (pc + 1) ls rest)) : W p l e R s m args below meth c H locs cells slots Q (F0 m pc ls (.int x :: .int i :: .ref a :: rest)) := by
  refine W.iast hexec hb (hP q0 _ ha) ((hK.2 t0 _ ht).1 n (fun j => .int (f j))) (fun h => by cases h) (by show ¬ (i < 0 ∨ (arrV _ _ _).slots.size ≤ _); rw [arrV_size]; exact hin) rfl rfl hdg fun H1 h1 z oq => ?_
  obtain ⟨g1, g2⟩ := zr_ast (mk := Value.int) (f := f) (x := x) (j := i.toNatClampNeg) (e1 := .inl (cA, n, .inl (upd f i.toNatClampNeg x))) hP hD hS ha (fun K hK1 => hK1) h1 z oq
  exact kk H1 _ z g1 g2
theorem zr_last (hexec : p.tables.exec = Jvm.exec) (hb : c.code = cc) (hK : va_K D cl tys s) (hP : va_P D cl ws H) (hD : va_D A ws) (hS : va_S A H0 H locs) (q0 t0 : Nat) {cA : ClassId} {n : Nat} {f : Nat → Int64} (ha : ws[q0]? = some (a, .inl (cA, n, .inr (.inl f)))) (ht : tys[t0]? = some (cA, .long)) {i : Int32} {x : Int64} (hin : vp_in i n) (hdg : decode cc pc = .ok (.lastore, 1))
    (kk : ∀ (H1 : Heap) (locs1 : List Loc), H1.size = H.size → va_P D cl (ws.set q0 (a, .inl (cA, n, .inr (.inl (vp_updL f i.toNatClampNeg x))))) H1 → va_S A H0 H1 locs1 → W p l e R s m args below meth c H1 locs1 cells slots Q (F0 m (pc + 1) ls rest)) : W p l e R s m args below meth c H locs cells slots Q (F0 m pc ls (.long x :: .int i :: .ref a :: rest)) := by
  refine W.last hexec hb (hP q0 _ ha) ((hK.2 t0 _ ht).1 n (fun j => .long (f j))) (fun h => by cases h) (by show ¬ (i < 0 ∨ (arrV _ _ _).slots.size ≤ _); rw [arrV_size]; exact hin) rfl rfl hdg fun H1 h1 z oq => ?_
  obtain ⟨g1, g2⟩ := zr_ast (mk := Value.long) (f := f) (x := x) (j := i.toNatClampNeg) (e1 := .inl (cA, n, .inr (.inl (vp_updL f i.toNatClampNeg x)))) hP hD hS ha (fun K hK1 => hK1) h1 z oq
  exact kk H1 _ z g1 g2
theorem zr_nar (ty : FieldType) (h : ty = .byte ∨ ty = .boolean) (x : Int32) : narrow ty (.int x) = .int (vp_nar ty x) := by
  rcases h with rfl | rfl <;> rfl
theorem zr_bast (hexec : p.tables.exec = Jvm.exec) (hb : c.code = cc) (hK : va_K D cl tys s) (hP : va_P D cl ws H) (hD : va_D A ws) (hS : va_S A H0 H locs) (q0 t0 : Nat) {cA : ClassId} {n : Nat} {f : Nat → Int32} (ha : ws[q0]? = some (a, .inl (cA, n, .inl f))) (ht : tys[t0]? = some (cA, .byte)) {i x : Int32} (hin : vp_in i n) (hdg : decode cc pc = .ok (.bastore, 1))
    (kk : ∀ (H1 : Heap) (locs1 : List Loc), H1.size = H.size → va_P D cl (ws.set q0 (a, .inl (cA, n, .inl (upd f i.toNatClampNeg (vp_nar .byte x))))) H1 → va_S A H0 H1 locs1 → W p l e R s m args below meth c H1 locs1 cells slots Q (F0 m (pc + 1) ls rest)) : W p l e R s m args below meth c H locs cells slots Q (F0 m pc ls (.int x :: .int i :: .ref a :: rest)) := by
  refine W.bast hexec hb (hP q0 _ ha) ((hK.2 t0 _ ht).1 n (fun j => .int (f j))) (fun h => by cases h) (by show ¬ (i < 0 ∨ (arrV _ _ _).slots.size ≤ _); rw [arrV_size]; exact hin) rfl rfl hdg fun H1 h1 z oq => ?_
  rw [zr_nar .byte (Or.inl rfl)] at h1
  obtain ⟨g1, g2⟩ := zr_ast (mk := Value.int) (f := f) (x := vp_nar .byte x) (j := i.toNatClampNeg) (e1 := .inl (cA, n, .inl (upd f i.toNatClampNeg (vp_nar .byte x)))) hP hD hS ha (fun K hK1 => hK1) h1 z oq
  exact kk H1 _ z g1 g2
theorem zr_zast (hexec : p.tables.exec = Jvm.exec) (hb : c.code = cc) (hK : va_K D cl tys s) (hP : va_P D cl ws H) (hD : va_D A ws) (hS : va_S A H0 H locs) (q0 t0 : Nat) {cA : ClassId} {n : Nat} {f : Nat → Int32} (ha : ws[q0]? = some (a, .inl (cA, n, .inl f))) (ht : tys[t0]? = some (cA, .boolean)) {i x : Int32} (hin : vp_in i n) (hdg : decode cc pc = .ok (.bastore, 1))
    (kk : ∀ (H1 : Heap) (locs1 : List Loc), H1.size = H.size → va_P D cl (ws.set q0 (a, .inl (cA, n, .inl (upd f i.toNatClampNeg (vp_nar .boolean x))))) H1 → va_S A H0 H1 locs1 → W p l e R s m args below meth c H1 locs1 cells slots Q (F0 m (pc + 1) ls rest)) : W p l e R s m args below meth c H locs cells slots Q (F0 m pc ls (.int x :: .int i :: .ref a :: rest)) := by
  refine W.zast hexec hb (hP q0 _ ha) ((hK.2 t0 _ ht).1 n (fun j => .int (f j))) (fun h => by cases h) (by show ¬ (i < 0 ∨ (arrV _ _ _).slots.size ≤ _); rw [arrV_size]; exact hin) rfl rfl hdg fun H1 h1 z oq => ?_
  rw [zr_nar .boolean (Or.inr rfl)] at h1
  obtain ⟨g1, g2⟩ := zr_ast (mk := Value.int) (f := f) (x := vp_nar .boolean x) (j := i.toNatClampNeg) (e1 := .inl (cA, n, .inl (upd f i.toNatClampNeg (vp_nar .boolean x)))) hP hD hS ha (fun K hK1 => hK1) h1 z oq
  exact kk H1 _ z g1 g2
/-- a field is written, a final one in its own constructor -/
theorem zr_put (hexec : p.tables.exec = Jvm.exec) (hb : c.code = cc) {own C : String} {T : u_T} {N ci index : Nat} {Ts : List Cond} (hts : ∀ w ∈ Ts, w.before args s = true) (hin : ∀ w ∈ u_ws C T N, w ∈ Ts) (ty0 : Nat → FieldType) (hty : ∀ k, k < N → parseFieldDescriptor (T k).2.2.1 = some (ty0 k)) (hnm : ∀ a, a < N → ∀ b, b < N → a ≠ b → (T a).2.1 ≠ (T b).2.1) (hown : s.vm.findClass own = some m.cls) (hK : va_K D cl tys s) (hP : va_P D cl ws H) (hD : va_D A ws) (hS0 : va_S A H0 H locs) (q0 : Nat) {fs : List Value} (he : ws[q0]? = some (a, .inr (ci, fs))) (hc : cl[ci]? = some (C, T, N)) (k : Nat) (hk : k < N) (hlink : (Cond.fieldLink own index (T k).1 (T k).2.1 (T k).2.2.1).before args s = true)
    (hfin : (T k).2.2.2 = false ∨ ((T k).2.2.2 = true ∧ meth.name = "<init>" ∧ (T k).1 = own)) {v : Value} (hn : narrow (ty0 k) v = v) (hfit : fits (ty0 k) v = true) (hl : k < fs.length) (hdg : decode cc pc = .ok (.putfield index, 3))
    (kk : ∀ (H1 : Heap) (locs1 : List Loc), H1.size = H.size → va_P D cl (ws.set q0 (a, .inr (ci, fs.set k v))) H1 → va_S A H0 H1 locs1 → W p l e R s m args below meth c H1 locs1 cells slots Q (F0 m (pc + 3) ls rest)) : W p l e R s m args below meth c H locs cells slots Q (F0 m pc ls (v :: .ref a :: rest)) := by
  have hap := va_apart (own := own) hts hin ty0 hty hnm hK hc
  obtain ⟨r, h1, cell, q1, q2, q3, q4⟩ := hP q0 _ he
  have hr : r = (C, T, N) := Option.some.inj (h1.symm.trans hc)
  subst hr
  obtain ⟨hS, hfc, kC, hkC, hkind⟩ := hK.1 ci _ hc
  obtain ⟨cf, kf, fi, f, hi, hsl⟩ := hS k hk
  have hlays := u_lays hts hin hk
  have hst := (u_facts hfc hkC hlays hi).1
  have fin : ∀ H1 : Heap, H1[a]? = some (cell.setSlot f.slot v) → H1.size = H.size → (∀ q, q ≠ a → H1[q]? = H[q]?) → W p l e R s m args below meth c H1 (locs ++ [⟨a, f.slot⟩]) cells slots Q (F0 m (pc + 3) ls rest) := by
    intro H1 e1 e2 e3
    rw [hsl] at e1 ⊢
    exact kk H1 _ e2 (hP.set hD he ⟨_, hc, t_OB.to (V := updV (vp_V fs) k v) ⟨_, e1, q2, q3, t_set q4 hap hk v⟩ (fun j _ => vp_updV_set hl v j)⟩ e3) (hS0.put e2 e3 (hD.2 q0 _ he))
  have hlay := hts _ (hin _ (u_in_lay hk))
  unfold u_lay at hlay
  rcases hfin with hf | ⟨hf, hin2, hdecl⟩
  · rw [if_neg (by rw [hf]; decide)] at hlay
    exact W.putK hexec hb (f := f) ⟨hown, hlink, ⟨_, _, _, hi⟩, hst⟩ (by rw [q2]; exact u_store hfc hkC hkind hlay hi (hty k hk) hn hfit) q1 q3 (by rw [hsl]; exact k2_hasslot (q4 k hk)) rfl rfl hdg fin
  · rw [if_pos hf] at hlay
    have hcf : m.cls = cf := by
      obtain ⟨_, _, c', _, _, _, -, -, hf', -, -, -, hown2, -⟩ := Cond.laysFinal_spec hlay
      have e1 : c' = cf := by have := hi.symm.trans hf'; simp at this; exact this.1.symm
      rw [hdecl] at hown2
      rw [← e1]; exact Option.some.inj (hown.symm.trans hown2)
    exact W.putFinK hexec hb hown hlink hi hst hcf hin2 (by rw [q2]; exact u_fits hfc hkC hkind (Or.inr hlay) hi (hty k hk) hn hfit) q1 q3 (by rw [hsl]; exact k2_hasslot (q4 k hk)) rfl rfl hdg fin
/-- a run of places is laid over another array's -/
theorem zr_copy {α : Type} (mk : α → Value) (hexec : p.tables.exec = Jvm.exec) (hb : c.code = cc) (hml : c.maxLocals = ls.size) {own : String} {index : Nat} (hown : s.vm.findClass own = some m.cls) (hlink : (Cond.methodLink own index arraycopyName).before args s = true) (hnat : (Cond.native arraycopyName).before args s = true) (hstat : (Cond.static arraycopyName).before args s = true) (hini : (Cond.initialized "java/lang/System").before args s = true)
    (hP : va_P D cl ws H) (hD : va_D A ws) (hS : va_S A H0 H locs) (q0 q1 : Nat) {a0 : Nat} {c0 c1 : ClassId} {n0 n1 : Nat} {f g : Nat → α} {ty : FieldType} {e0 e1 e2 : va_E} (ha0 : ws[q0]? = some (a0, e0)) (ha1 : ws[q1]? = some (a, e1)) (w0 : va_at D cl (a0, e0) H → H[a0]? = some (arrV c0 n0 (fun j => mk (f j)))) (w1 : va_at D cl (a, e1) H → H[a]? = some (arrV c1 n1 (fun j => mk (g j)))) (ht0 : ArrOfT s c0 ty) (ht1 : ArrOfT s c1 ty) (hprim : refKind ty = false) (hfit : ∀ z, fits ty (mk z) = true) (htk : ∀ z (U : State) (cm : ClassId), U.takes cm (mk z))
    {sp dp n : Int32} (h1 : ¬ sp < 0) (h2 : ¬ dp < 0) (h3 : ¬ n < 0) (h4 : sp.toNatClampNeg + n.toNatClampNeg ≤ n0) (h5 : dp.toNatClampNeg + n.toNatClampNeg ≤ n1) (w2 : ∀ K : Heap, K[a]? = some (arrV c1 n1 (fun j => mk (va_cpy f g sp.toNatClampNeg dp.toNatClampNeg n.toNatClampNeg j))) → va_at D cl (a, e2) K)
    (hframes : 1 ≤ R.frames) (hlocals : (rest.map fun v => v.category).sum + (nativeFrameWords "java/lang/System" "arraycopy" 5 + 11) ≤ R.locals) (hdg : decode cc pc = .ok (.invokestatic index, 3))
    (kk : ∀ (H1 : Heap) (locs1 : List Loc), H1.size = H.size → va_P D cl (ws.set q1 (a, e2)) H1 → va_S A H0 H1 locs1 → W p l e R s m args below meth c H1 locs1 cells slots Q (F0 m (pc + 3) ls rest)) : W p l e R s m args below meth c H locs cells slots Q (F0 m pc ls (.int n :: .int dp :: .ref a :: .int sp :: .ref a0 :: rest)) := by
  have nn : ∀ z : Int32, ¬ z < 0 → z.toInt = (z.toNatClampNeg : Int) := by
    intro z hz
    have h0 : (0 : Int) ≤ z.toInt := by simpa using Int32.le_iff_toInt_le.mp (Int32.not_lt.mp hz)
    show z.toInt = ((z.toInt.toNat : Nat) : Int)
    omega
  intro T hT X
  have hc0 := w0 (hP q0 _ ha0)
  have hc1 := w1 (hP q1 _ ha1)
  obtain ⟨-, k0, hk0, cm0, hkk0⟩ := ht0 n0 (fun j => mk (f j))
  obtain ⟨-, k1, hk1, cm1, hkk1⟩ := ht1 n1 (fun j => mk (g j))
  have rd : ∀ i, i < n.toNatClampNeg → (arrV c0 n0 (fun j => mk (f j))).slots.getD (sp.toNatClampNeg + i) .null = mk (f (sp.toNatClampNeg + i)) := fun i hi => by
    rw [Array.getD_eq_getD_getElem?, arrV_read _ _ (by omega)]
    rfl
  obtain ⟨vm', X', step⟩ := X.arraycopy hexec hown hlink hnat hstat hini (src := a0) (dst := a) (srcPos := sp) (destPos := dp) (n := n) (by rw [hT]; exact hc0) (by rw [hT]; exact hc1)
    (fun _ h => by cases h) (fun _ h => by cases h) (fun h => by cases h) (fun h => by cases h) hk0 hk1 hkk0 hkk1 (by simp [hprim]) h1 h2 h3
    (by rw [nn sp h1, nn n h3, arrV_size]; omega) (by rw [nn dp h2, nn n h3, arrV_size]; omega)
    (fun vm₁ _ i hi => ⟨by rw [rd i hi]; exact hfit _, by rw [rd i hi]; exact htk _ _ _⟩)
    (g := F0 m pc ls (.int n :: .int dp :: .ref a :: .int sp :: .ref a0 :: rest)) rfl (by rw [hml]) (rest := rest) rfl (by rw [hb]; exact hdg) hframes (by show 2 * 0 + _ + _ ≤ _; omega)
  rw [show copied (arrV c0 n0 (fun j => mk (f j))) (arrV c1 n1 (fun j => mk (g j))) sp dp n = arrV c1 n1 (fun j => mk (va_cpy f g sp.toNatClampNeg dp.toNatClampNeg n.toNatClampNeg j)) from va_copied mk c0 c1 f g h4] at X' step
  generalize hN : arrV c1 n1 (fun j => mk (va_cpy f g sp.toNatClampNeg dp.toNatClampNeg n.toNatClampNeg j)) = N at X' step w2
  have hl : a < H.size := (Array.getElem?_eq_some_iff.mp hc1).1
  have hheap : ((T.setVm vm').setCell a N).heap = H.setIfInBounds a N := by rw [← hT]; rfl
  have oq : ∀ q : Nat, q ≠ a → (H.setIfInBounds a N)[q]? = H[q]? := fun q hq => by simp [Array.getElem?_setIfInBounds, Ne.symm hq]
  have hA : A a := hD.2 q1 _ ha1
  obtain ⟨t, b1, b2⟩ := kk _ _ (by simp) (hP.set hD ha1 (w2 _ (by simp [Array.getElem?_setIfInBounds, hl])) oq) ⟨by simp; exact hS.1, fun q g1 g2 => (oq q (fun z => g2 (z ▸ hA))).trans (hS.2.1 q g1 g2), fun q hq => by
      rcases List.mem_append.mp hq with h | h
      · exact hS.2.2 q h
      · obtain ⟨z, -, hz⟩ := List.mem_map.mp h
        rw [← hz]
        exact hA⟩ _ hheap X'
  exact ⟨t, step t b1, b2⟩
end ZR
end
section
/-! a step of the small machine is a step of the machine -/
def zTb : List Cond := lw_tbl.filter goodWord
theorem zg {w : Cond} (h : w ∈ lw_tbl) (hg : goodWord w = true) : w ∈ zTb := List.mem_filter.mpr ⟨h, hg⟩
def zlo (k : Nat) : Nat := 40 + 30 * k
def zA (n0 : Nat) : Nat → Prop := fun a => n0 ≤ a
def zStr (n0 : Nat) (q : Nat → Nat) (s : State) (H : Heap) : Prop := (∀ own idx k, zlkS own idx = some k → vk_R (zcn own) idx " REV" (q k) s) ∧ (∀ k, k < 2 → va_O "java/lang/String" (q k) (zA n0) s H ∧ va_OF "java/lang/String" "coder" "B" (.int 0) (q k) (zA n0) s H ∧ va_OF "java/lang/String" "value" "[B" (.ref (q (k + 3))) (q k) (zA n0) s H ∧ va_T .byte (q (k + 3)) 4 (fun j => .int (zch j)) (zA n0) s H) ∧ va_Z "java/lang/String" "COMPACT_STRINGS" "Z" (.int 1) (zA n0) s H ∧ va_Zq "jdk/internal/util/Preconditions" "SIOOBE_FORMATTER" "Ljava/util/function/BiFunction;" (zA n0) s H
def zExt (n0 : Nat) (q : Nat → Nat) (X : zSc) (s : State) (H : Heap) : Prop := va_X (q 2) X.1 X.2 s H ∧ q 2 < n0 ∧ zStr n0 q s H ∧ ∀ own idx y, Cond.methodLinkNest (zcn own) idx y "DoubleLedger" ∈ lw_tbl → va_Nw (.methodLinkNest (zcn own) idx y "DoubleLedger") s
def zCx (D : va_G) (kA : Nat → ClassId) (n0 : Nat) (q : Nat → Nat) (X : zSc) (m0 : zMt) (p : Program) (R : Room) (s : State) (m : MethodId) (args : Array Value) (meth : Method) (c : Code) : Prop :=
  p.tables.exec = Jvm.exec ∧ c.code = zb m0 ∧ c.maxLocals = zmx m0 ∧ s.vm.findClass (zcn (zow m0)) = some m.cls ∧ (∀ w ∈ zTb, w.before args s = true) ∧ ((zy m0).name = "<init>" → meth.name = "<init>") ∧ va_K D vwCl (ztys kA) s ∧ n0 ≤ s.heap.size ∧ zExt n0 q X s s.heap ∧ zlv m0 + 1 ≤ R.frames ∧ zlo (zlv m0) ≤ R.locals ∧ (zcd m0).all (fun p => p.2.all (zgo1 m0)) = true
def zWs (D : va_G) (kA : Nat → ClassId) (n0 : Nat) (q : Nat → Nat) (m0 : zMt) (p : Program) (l : Launch) (e : Env) (R : Room) (s : State) (m : MethodId) (args : Array Value) (below : List Frame) (meth : Method) (c : Code) (Q : State → Prop) (len0 sz0 : Nat) (pc : Nat) (ls st : List Value) (M : zM) : Prop :=
  ∀ (H : Heap) (locs : List Loc) (lsM : Array Slot), zW D kA n0 q M H → va_S (zA n0) s.heap H locs → zLoc n0 q (zmx m0) ls lsM → W p l e R s m args below meth c H locs (M.1.length - len0) (zsize M.1 - sz0) Q (F0 m pc lsM (st.map (zren n0 q)))
theorem zcat_eq (n0 : Nat) (q : Nat → Nat) : ∀ l : List Value, ((l.map (zren n0 q)).map fun v => v.category).sum = zcat l
  | [] => rfl
  | v :: l => by
    have ih := zcat_eq n0 q l
    rw [List.map_cons, List.map_cons, List.sum_cons, ih]
    cases v <;> simp only [zren, Value.category, zcat] <;> omega
theorem zt_ok {pc t : Nat} {off : Int} (h : zt pc off = some t) : (pc : Int) + off = (t : Int) := by
  unfold zt at h
  split at h
  · next n => cases h; simp
  · next n =>
    cases e : Nat.ble (n + 1) pc with
    | true =>
      rw [e] at h
      have := Nat.le_of_ble_eq_true e
      simp at h
      omega
    | false => rw [e] at h; cases h
theorem zw_nat : Cond.native arraycopyName ∈ lw_tbl := zm2 (List.mem_of_getElem? (i := 203) rfl)
theorem zw_stat : Cond.static arraycopyName ∈ lw_tbl := zm2 (List.mem_of_getElem? (i := 202) rfl)
theorem zw_ini : Cond.initialized "java/lang/System" ∈ lw_tbl := zm1 (List.mem_of_getElem? (i := 13) rfl)
theorem zw_dnat : Cond.native ⟨"java/lang/Double", "doubleToRawLongBits", "(D)J"⟩ ∈ lw_tbl := zm5 (List.mem_of_getElem? (i := 176) rfl)
theorem zw_dstat : Cond.static ⟨"java/lang/Double", "doubleToRawLongBits", "(D)J"⟩ ∈ lw_tbl := zm5 (List.mem_of_getElem? (i := 175) rfl)
theorem zw_dini : Cond.initialized "java/lang/Double" ∈ lw_tbl := zm1 (List.mem_of_getElem? (i := 15) rfl)
theorem zw_fnat : Cond.native ⟨"java/lang/Float", "floatToRawIntBits", "(F)I"⟩ ∈ lw_tbl := zm5 (List.mem_of_getElem? (i := 186) rfl)
theorem zw_fstat : Cond.static ⟨"java/lang/Float", "floatToRawIntBits", "(F)I"⟩ ∈ lw_tbl := zm5 (List.mem_of_getElem? (i := 185) rfl)
theorem zw_fini : Cond.initialized "java/lang/Float" ∈ lw_tbl := zm1 (List.mem_of_getElem? (i := 16) rfl)
theorem zw_oinst : Cond.instanceMethod objectInit ∈ lw_tbl := zm1 (List.mem_of_getElem? (i := 27) rfl)
theorem zw_ocode : Cond.code objectInit ⟨#[0xb1]⟩ 1 none ∈ lw_tbl := zm1 (List.mem_of_getElem? (i := 28) rfl)
def zty (T : u_T) (k : Nat) : FieldType := (parseFieldDescriptor (T k).2.2.1).getD .int
def ztok (kd : zF) (ty : FieldType) : Prop := (kd = .inl 0 ∧ ty = .int) ∨ (kd = .inl 1 ∧ ty = .long) ∨ (kd = .inl 2 ∧ ty = .boolean) ∨ (kd = .inr none ∧ ((∃ n, ty = .object n) ∨ ∃ t, ty = .array t))
def ztkb (kd : zF) (ty : FieldType) : Bool := match kd, ty with
  | .inl 0, .int => true
  | .inl 1, .long => true
  | .inl 2, .boolean => true
  | .inr none, .object _ => true
  | .inr none, .array _ => true
  | _, _ => false
theorem ztkb_ok {kd : zF} {ty : FieldType} (h : ztkb kd ty = true) : ztok kd ty := by
  unfold ztkb at h
  split at h
  · exact Or.inl ⟨rfl, rfl⟩
  · exact Or.inr (Or.inl ⟨rfl, rfl⟩)
  · exact Or.inr (Or.inr (Or.inl ⟨rfl, rfl⟩))
  · exact Or.inr (Or.inr (Or.inr ⟨rfl, Or.inl ⟨_, rfl⟩⟩))
  · exact Or.inr (Or.inr (Or.inr ⟨rfl, Or.inr ⟨_, rfl⟩⟩))
  · cases h
def zcb (ci : Nat) : Bool := match zgt vwCl ci, zgt zdfs ci with
  | some (C, T, N), some d => decide (C = zcn ci) && (Nat.beq d.length N && ((List.range N).all (fun k => (parseFieldDescriptor (T k).2.2.1).isSome && (match zgt d k with | some kd => ztkb kd (zty T k) | none => false)) && ((List.range N).all (fun a => (List.range N).all fun b => Nat.beq a b || decide ((T a).2.1 ≠ (T b).2.1)) && (decide (Cond.instantiable C N ∈ lw_tbl) && decide (Cond.initialized C ∈ lw_tbl)))))
  | _, _ => false
theorem zcb_all : (List.range 12).all zcb = true := by decide +kernel
theorem zcl_lt {ci : Nat} {r : vw_C} (h : zgt vwCl ci = some r) : ci < 12 := zgt_lt h
theorem zcls_all {ci : Nat} {C : String} {T : u_T} {N : Nat} (h : zgt vwCl ci = some (C, T, N)) : C = zcn ci ∧ (∀ k, k < N → parseFieldDescriptor (T k).2.2.1 = some (zty T k)) ∧ (∀ a, a < N → ∀ b, b < N → a ≠ b → (T a).2.1 ≠ (T b).2.1) ∧ Cond.instantiable C N ∈ lw_tbl ∧ Cond.initialized C ∈ lw_tbl ∧ ∀ d, zgt zdfs ci = some d → d.length = N ∧ ∀ k, k < N → ∃ kd, zgt d k = some kd ∧ ztok kd (zty T k) := by
  have hb := List.all_eq_true.mp zcb_all ci (List.mem_range.mpr (zcl_lt h))
  unfold zcb at hb
  rw [h] at hb
  split at hb
  · next C' T' N' d hC hd =>
    cases hC
    simp only [Bool.and_eq_true, decide_eq_true_eq, List.all_eq_true, List.mem_range, Bool.or_eq_true] at hb
    obtain ⟨h1, h2, h3, h4, h5, h6⟩ := hb
    refine ⟨h1, fun k hk => ?_, fun a ha b hbb hne => ?_, h5, h6, fun d2 hd2 => ?_⟩
    · obtain ⟨y, hy⟩ := Option.isSome_iff_exists.mp (h3 k hk).1
      rw [zty, hy]; rfl
    · rcases h4 a ha b hbb with h7 | h7
      · exact absurd (Nat.eq_of_beq_eq_true h7) hne
      · exact h7
    · rw [hd] at hd2
      cases hd2
      refine ⟨Nat.eq_of_beq_eq_true h2, fun k hk => ?_⟩
      have h8 := (h3 k hk).2
      split at h8
      · next kd hkd => exact ⟨kd, hkd, ztkb_ok h8⟩
      · cases h8
  · cases hb
theorem zcls_ok {ci : Nat} {C : String} {T : u_T} {N : Nat} (h : zgt vwCl ci = some (C, T, N)) : (∀ k, k < N → parseFieldDescriptor (T k).2.2.1 = some (zty T k)) ∧ (∀ a, a < N → ∀ b, b < N → a ≠ b → (T a).2.1 ≠ (T b).2.1) ∧ Cond.instantiable C N ∈ lw_tbl ∧ Cond.initialized C ∈ lw_tbl ∧ ∀ d, zgt zdfs ci = some d → d.length = N ∧ ∀ k, k < N → ∃ kd, zgt d k = some kd ∧ ztok kd (zty T k) := (zcls_all h).2
theorem zcn_cl {ci : Nat} {C : String} {T : u_T} {N : Nat} (h : zgt vwCl ci = some (C, T, N)) : zcn ci = C := (zcls_all h).1.symm
theorem zdf_cl {ci : Nat} {fs : List zF} (h : zgt zdfs ci = some fs) : ∃ T N, zgt vwCl ci = some (zcn ci, T, N) := by
  have hl : ci < 12 := zgt_lt h
  cases e : zgt vwCl ci with
  | none =>
    rw [zgt_eq] at e
    exact absurd (List.getElem?_eq_none_iff.mp e) (by show ¬ 12 ≤ ci; omega)
  | some r =>
    obtain ⟨C, T, N⟩ := r
    exact ⟨T, N, by rw [zcn_cl e]⟩
theorem ztok_0 {kd0 : zF} {ty : FieldType} (h : zke (.inl 0) kd0 = true) (hk : ztok kd0 ty) : ty = .int := by
  rcases hk with ⟨rfl, h2⟩ | ⟨rfl, h2⟩ | ⟨rfl, h2⟩ | ⟨rfl, h2⟩
  · exact h2
  · cases h
  · cases h
  · cases h
theorem ztok_1 {kd0 : zF} {ty : FieldType} (h : zke (.inl 1) kd0 = true) (hk : ztok kd0 ty) : ty = .long := by
  rcases hk with ⟨rfl, h2⟩ | ⟨rfl, h2⟩ | ⟨rfl, h2⟩ | ⟨rfl, h2⟩
  · cases h
  · exact h2
  · cases h
  · cases h
theorem ztok_2 {t : Nat} {kd0 : zF} {ty : FieldType} (h0 : t = 0 → False) (h1 : t = 1 → False) (h : zke (.inl t) kd0 = true) (hk : ztok kd0 ty) : t = 2 ∧ ty = .boolean := by
  rcases hk with ⟨rfl, h2⟩ | ⟨rfl, h2⟩ | ⟨rfl, h2⟩ | ⟨rfl, h2⟩
  · exact (h0 (Nat.eq_of_beq_eq_true h)).elim
  · exact (h1 (Nat.eq_of_beq_eq_true h)).elim
  · exact ⟨Nat.eq_of_beq_eq_true h, h2⟩
  · cases h
theorem ztok_r {r : Option Nat} {kd0 : zF} {ty : FieldType} (h : zke (.inr r) kd0 = true) (hk : ztok kd0 ty) : (∃ n, ty = .object n) ∨ ∃ t, ty = .array t := by
  rcases hk with ⟨rfl, h2⟩ | ⟨rfl, h2⟩ | ⟨rfl, h2⟩ | ⟨rfl, h2⟩
  · cases h
  · cases h
  · cases h
  · exact h2
theorem ztok_def {kd : zF} {ty : FieldType} {n0 : Nat} {q : Nat → Nat} {I : zI} {L : zL} {i j : Nat} (hk : ztok kd ty) : defaultValue ty = zren n0 q (zval (va_up I i (fun _ => 0)) (va_up L i (fun _ => 0)) i j kd) := by
  rcases hk with ⟨rfl, rfl⟩ | ⟨rfl, rfl⟩ | ⟨rfl, rfl⟩ | ⟨rfl, h2⟩
  · simp [zval, zren, va_up, defaultValue]
  · simp [zval, zren, va_up, defaultValue]
  · simp [zval, zren, va_up, defaultValue]
  · rcases h2 with ⟨n, rfl⟩ | ⟨t, rfl⟩ <;> rfl
theorem zfs_set {n0 : Nat} {q : Nat → Nat} {I I' : zI} {L L' : zL} {i k : Nat} {fs : List zF} {kd : zF} {w : Value} (hk : zgt fs k = some kd) (h1 : zren n0 q (zval I' L' i k kd) = w) (h2 : ∀ j kj, j ≠ k → zval I' L' i j kj = zval I L i j kj) : zfs n0 q I' L' i fs = (zfs n0 q I L i fs).set k w := by
  have hlt := zgt_lt hk
  rw [zgt_eq] at hk
  apply List.ext_getElem?
  intro j
  by_cases hj : j = k
  · subst hj
    rw [List.getElem?_set_self (by simp [zfs]; exact hlt)]
    simp [zfs, List.getElem?_mapIdx, hk, h1]
  · rw [List.getElem?_set_ne (Ne.symm hj)]
    simp only [zfs, List.getElem?_mapIdx]
    cases fs[j]? with
    | none => rfl
    | some kj => simp only [Option.map_some]; rw [h2 j kj hj]
theorem zsize_set {x : zS} : ∀ {S : List zS} {o : Nat} {y : zS}, zgt S o = some y → zsz x = zsz y → zsize (S.set o x) = zsize S
  | [], o, y, h, _ => by simp [zgt] at h
  | a :: S, 0, y, h, e => by
    simp only [zgt, Option.some.injEq] at h
    subst h
    simp [zsize, e]
  | a :: S, o + 1, y, h, e => by
    have ih := zsize_set (S := S) (o := o) (y := y) h e
    simp only [zsize] at ih
    simp only [zsize, List.set_cons_succ, List.map_cons, List.sum_cons, ih]
theorem zF_ok {own idx ci k pl : Nat} (h : zlkF own idx = some (ci, k, pl)) : ∃ (C : String) (T : u_T) (N : Nat), zgt vwCl ci = some (C, T, N) ∧ k < N ∧ Cond.fieldLink (zcn own) idx C (T k).2.1 (T k).2.2.1 ∈ lw_tbl ∧ C = (T k).1 := by
  have hw := zlk_all (t := zlkFT) zF_all h
  unfold zFc at hw
  split at hw
  · next C T N hC =>
    simp only [Bool.and_eq_true, decide_eq_true_eq] at hw
    exact ⟨C, T, N, hC, Nat.le_of_ble_eq_true hw.1, List.mem_of_getElem? hw.2.1, hw.2.2⟩
  · cases hw
theorem zin_all : (vwCl.all fun r => (u_ws r.1 r.2.1 r.2.2).all fun w => decide (w ∈ lw_tbl) && goodWord w) = true := by decide +kernel
theorem zin_ok {ci : Nat} {C : String} {T : u_T} {N : Nat} (h : zgt vwCl ci = some (C, T, N)) : ∀ w ∈ u_ws C T N, w ∈ zTb := by
  intro w hw
  rw [zgt_eq] at h
  have h1 := List.all_eq_true.mp zin_all _ (List.mem_of_getElem? h)
  have h2 := List.all_eq_true.mp h1 w hw
  simp only [Bool.and_eq_true, decide_eq_true_eq] at h2
  exact zg h2.1 h2.2
section ZS
variable {D : va_G} {kA : Nat → ClassId} {n0 : Nat} {q : Nat → Nat} {X : zSc} {m0 : zMt} {p : Program} {l : Launch} {e : Env} {R : Room} {s : State} {m : MethodId} {args : Array Value} {below : List Frame} {meth : Method} {c : Code} {Q : State → Prop} {len0 sz0 : Nat}
variable {pc pc' : Nat} {ls ls' st st' : List Value} {M M' : zM}
theorem zs_pure (row : ∀ (H : Heap) (locs : List Loc) (lsM : Array Slot), zLoc n0 q (zmx m0) ls lsM → W p l e R s m args below meth c H locs (M.1.length - len0) (zsize M.1 - sz0) Q (F0 m pc' lsM (st'.map (zren n0 q))) → W p l e R s m args below meth c H locs (M.1.length - len0) (zsize M.1 - sz0) Q (F0 m pc lsM (st.map (zren n0 q)))) (K : zWs D kA n0 q m0 p l e R s m args below meth c Q len0 sz0 pc' ls st' M) : zWs D kA n0 q m0 p l e R s m args below meth c Q len0 sz0 pc ls st M := fun H locs lsM hW hS hl => row H locs lsM hl (K H locs lsM hW hS hl)
theorem zs_if {x y : Int32} {t f : Nat} {cd : ClassFile.Cond} (K : zWs D kA n0 q m0 p l e R s m args below meth c Q len0 sz0 (zbr cd x y t f) ls st M) {H : Heap} {locs : List Loc} {lsM : Array Slot} (hW : zW D kA n0 q M H) (hS : va_S (zA n0) s.heap H locs) (hl : zLoc n0 q (zmx m0) ls lsM) (t' : Nat) (h : zbr cd x y t f = t') : W p l e R s m args below meth c H locs (M.1.length - len0) (zsize M.1 - sz0) Q (F0 m t' lsM (st.map (zren n0 q))) := by
  subst h
  exact K H locs lsM hW hS hl
end ZS
end
section
def ty_len : MethodName := ⟨"java/lang/String", "length", "()I"⟩
abbrev tc_len : ByteArray := prog_17_method_54_code
theorem tw_len : Cond.code ty_len tc_len 1 (some .int) ∈ lw_tbl := zm3 (List.mem_of_getElem? (i := 220) rfl)
def ts_len : List Cond := Cond.code ty_len tc_len 1 (some .int) :: zTb
theorem tg_len : GoodIn zTb ts_len := by
  intro w hw
  rcases List.mem_cons.mp hw with rfl | h
  · exact ⟨zg tw_len rfl, good_of_word rfl⟩
  · exact ⟨h, good_of_word (List.mem_filter.mp h).2⟩
def ty_cod : MethodName := ⟨"java/lang/String", "coder", "()B"⟩
abbrev tc_cod : ByteArray := prog_17_method_152_code
theorem tw_cod : Cond.code ty_cod tc_cod 1 (some .byte) ∈ lw_tbl := zm3 (List.mem_of_getElem? (i := 224) rfl)
def ts_cod : List Cond := Cond.code ty_cod tc_cod 1 (some .byte) :: zTb
theorem tg_cod : GoodIn zTb ts_cod := by
  intro w hw
  rcases List.mem_cons.mp hw with rfl | h
  · exact ⟨zg tw_cod rfl, good_of_word rfl⟩
  · exact ⟨h, good_of_word (List.mem_filter.mp h).2⟩
def ty_chr : MethodName := ⟨"java/lang/String", "charAt", "(I)C"⟩
abbrev tc_chr : ByteArray := prog_17_method_56_code
theorem tw_chr : Cond.code ty_chr tc_chr 2 (some .char) ∈ lw_tbl := zm3 (List.mem_of_getElem? (i := 230) rfl)
def ts_chr : List Cond := Cond.code ty_chr tc_chr 2 (some .char) :: zTb
theorem tg_chr : GoodIn zTb ts_chr := by
  intro w hw
  rcases List.mem_cons.mp hw with rfl | h
  · exact ⟨zg tw_chr rfl, good_of_word rfl⟩
  · exact ⟨h, good_of_word (List.mem_filter.mp h).2⟩
def ty_lat : MethodName := ⟨"java/lang/String", "isLatin1", "()Z"⟩
abbrev tc_lat : ByteArray := prog_17_method_154_code
theorem tw_lat : Cond.code ty_lat tc_lat 1 (some .boolean) ∈ lw_tbl := zm3 (List.mem_of_getElem? (i := 234) rfl)
def ts_lat : List Cond := Cond.code ty_lat tc_lat 1 (some .boolean) :: zTb
theorem tg_lat : GoodIn zTb ts_lat := by
  intro w hw
  rcases List.mem_cons.mp hw with rfl | h
  · exact ⟨zg tw_lat rfl, good_of_word rfl⟩
  · exact ⟨h, good_of_word (List.mem_filter.mp h).2⟩
def ty_lch : MethodName := ⟨"java/lang/StringLatin1", "charAt", "([BI)C"⟩
abbrev tc_lch : ByteArray := prog_18_method_2_code
theorem tw_lch : Cond.code ty_lch tc_lch 2 (some .char) ∈ lw_tbl := zm3 (List.mem_of_getElem? (i := 237) rfl)
def ts_lch : List Cond := Cond.code ty_lch tc_lch 2 (some .char) :: zTb
theorem tg_lch : GoodIn zTb ts_lch := by
  intro w hw
  rcases List.mem_cons.mp hw with rfl | h
  · exact ⟨zg tw_lch rfl, good_of_word rfl⟩
  · exact ⟨h, good_of_word (List.mem_filter.mp h).2⟩
def ty_chk : MethodName := ⟨"java/lang/String", "checkIndex", "(II)V"⟩
abbrev tc_chk : ByteArray := prog_17_method_155_code
theorem tw_chk : Cond.code ty_chk tc_chk 2 none ∈ lw_tbl := zm4 (List.mem_of_getElem? (i := 0) rfl)
def ts_chk : List Cond := Cond.code ty_chk tc_chk 2 none :: zTb
theorem tg_chk : GoodIn zTb ts_chk := by
  intro w hw
  rcases List.mem_cons.mp hw with rfl | h
  · exact ⟨zg tw_chk rfl, good_of_word rfl⟩
  · exact ⟨h, good_of_word (List.mem_filter.mp h).2⟩
def ty_pck : MethodName := ⟨"jdk/internal/util/Preconditions", "checkIndex", "(IILjava/util/function/BiFunction;)I"⟩
abbrev tc_pck : ByteArray := prog_21_method_11_code
theorem tw_pck : Cond.code ty_pck tc_pck 3 (some .int) ∈ lw_tbl := zm4 (List.mem_of_getElem? (i := 5) rfl)
def ts_pck : List Cond := Cond.code ty_pck tc_pck 3 (some .int) :: zTb
theorem tg_pck : GoodIn zTb ts_pck := by
  intro w hw
  rcases List.mem_cons.mp hw with rfl | h
  · exact ⟨zg tw_pck rfl, good_of_word rfl⟩
  · exact ⟨h, good_of_word (List.mem_filter.mp h).2⟩
def zQs (v : Option Value) : Array Value → State → Outcome → State → Prop := fun _ st oc t => oc = .returned v ∧ t.heap = st.heap
def zPt (n0 : Nat) (q : Nat → Nat) (X : zSc) (av : List Value) : Array Value → State → Prop := va_Pc av (fun U => zExt n0 q X U U.heap ∧ n0 ≤ U.heap.size)
theorem zExt.same {n0 : Nat} {q : Nat → Nat} {X : zSc} {s U : State} {H : Heap} (hv : U.vm = s.vm) (h : zExt n0 q X s H) : zExt n0 q X U H := by
  have ha : s.vm.Alike U.vm := by rw [hv]; exact Vm.Alike.refl _
  obtain ⟨h1, h2, ⟨h3, h4, h5, h6⟩, h7⟩ := h
  refine ⟨h1.moved ha, h2, ⟨fun own idx k hk2 => (h3 own idx k hk2).same hv, fun k hk2 => ?_, h5.moved ha, h6.moved ha⟩, fun own idx y hm => va_Nw.same rfl hv.symm (h7 own idx y hm)⟩
  obtain ⟨g1, g2, g3, g4⟩ := h4 k hk2
  exact ⟨g1.moved ha, g2.moved ha, g3.moved ha, g4.moved ha⟩
theorem zExt.at {n0 : Nat} {q : Nat → Nat} {X : zSc} {s U : State} {H : Heap} (h : zExt n0 q X s s.heap) (hn : n0 ≤ s.heap.size) (hk : ∀ a, a < s.heap.size → ¬ zA n0 a → H[a]? = s.heap[a]?) (hW : s.WarmedH U.vm) : zExt n0 q X U H := by
  obtain ⟨h1, h2, ⟨h3, h4, h5, h6⟩, h7⟩ := h
  refine ⟨va_X.moved hW.alike (h1.kept (hk _ (by omega) (Nat.not_le.mpr h2))), h2, ⟨fun own idx k hk2 => (h3 own idx k hk2).warm hW, fun k hk2 => ?_, (h5.kept hk).moved hW.alike, (h6.kept hk).moved hW.alike⟩, fun own idx y hm => va_Nw.warmM hW (h7 own idx y hm)⟩
  obtain ⟨g1, g2, g3, g4⟩ := h4 k hk2
  exact ⟨(g1.kept hk).moved hW.alike, (g2.kept hk).moved hW.alike, (g3.kept hk).moved hW.alike, (g4.kept hk).moved hW.alike⟩
theorem zPt_blind {n0 : Nat} {q : Nat → Nat} {X : zSc} {av : List Value} : FrameBlind (zPt n0 q X av) := by
  rintro a U g mk ⟨h1, h2, h3⟩
  exact ⟨h1, zExt.same (s := U) (U := U.calling g mk a) rfl h2, h3⟩
theorem zs_backS {p : Program} {l : Launch} {e : Env} {R : Room} {s : State} {m : MethodId} {args a : Array Value} {below : List Frame} {meth : Method} {c : Code} {Q : State → Prop} {H : Heap} {locs : List Loc} {cells slots pc : Nat} {ls : Array Slot} {st0 rest : List Value} {v : Option Value} (hr : va_Run p l e R s m args below meth c H locs cells slots 0 0 (F0 m pc ls st0) rest (zQs v a) (fun _ => False))
    (kk : W p l e R s m args below meth c H locs cells slots Q (F0 m (pc + 3) ls (v.toList ++ rest))) : W p l e R s m args below meth c H locs cells slots Q (F0 m pc ls st0) := by
  intro T hT X
  obtain ⟨v', st₀, t, T', L, h0, X', hL, e1, e2, ⟨h3, h4⟩, st⟩ := hr T hT X
  cases h3
  have hL0 : L = [] := by
    cases L with
    | nil => rfl
    | cons a L => exact (hL a List.mem_cons_self).elim
  subst hL0
  rw [List.append_nil] at X'
  obtain ⟨t2, a1, b1⟩ := kk T' (by rw [e1, h4, h0]) X'
  exact ⟨t2, st t2 a1, b1⟩
set_option maxRecDepth 100000 in
theorem tm_cod (l : Launch) (n0 : Nat) (q : Nat → Nat) (X : zSc) (k : Nat) (hk : k < 2) : Met l ty_cod ts_cod ({ frames := 0, cells := 0, slots := 0, locals := 0 }) (zPt n0 q X [.ref (q k)]) (zQs (some (.int 0))) 0 0 (fun _ => False) := by
  refine va_MetF (cc := tc_cod) (maxL := 1) (ret := (some .byte)) (ws' := zTb) (by decide +kernel) rfl ?_
  intro p e s m args below meth c s₁ B hml hv
  obtain ⟨rfl, hE, hn0⟩ := hv
  have hx := B.exec
  have hb := B.bytes
  have hr := B.returns
  have hlocks := B.notSynchronized
  have hts0 := atoms_spec (ws := ts_cod) B.pre
  have hts : ∀ w ∈ zTb, w.before _ s = true := fun w hw => hts0 w (List.mem_cons_of_mem _ hw)
  have hown : s.vm.findClass "java/lang/String" = some m.cls := findClass_of_methodNamed B.named
  have hS : va_S (zA n0) s.heap s.heap [] := va_S.rf
  have hl := lv_entry ([.ref (q k)]) (n := 1) (Nat.le_of_ble_eq_true rfl)
  rw [lg_entry_eq]
  generalize (lg_sl ([.ref (q k)]) ++ List.replicate (1 - (lg_sl ([.ref (q k)])).length) Slot.unset).toArray = ls at hl ⊢
  have hl : lv_has ls 1 [(0, .ref (q k))] := hl
  obtain ⟨-, -, ⟨-, hs4, hs5, -⟩, -⟩ := hE
  obtain ⟨g1, g2, g3, g4⟩ := hs4 k hk
  refine va_gets hx hb hs5 hS hown (hts _ (zg (zm3 (List.mem_of_getElem? (i := 225) rfl)) rfl)) (fun _ h => h) (by decide +kernel : decode tc_cod 0 = .ok (.getstatic 38, 3)) ?_
  refine lv_if_eq (tgt := 13) hx hb (by decide +kernel : decode tc_cod 3 = .ok (.ifCond .eq 10, 3)) (by decide) (fun h => absurd h (by decide)) (fun _ => ?_)
  refine lv_aload_n hx hb (by decide +kernel : decode tc_cod 6 = .ok (.aload_n 0, 1)) rfl (lv_at hl 0 rfl) ?_
  refine vk_getf hx hb g2 hS hown (hts _ (zg (zm6 (List.mem_of_getElem? (i := 84) rfl)) rfl)) (fun _ h => h) (by decide +kernel : decode tc_cod 7 = .ok (.getfield 15, 3)) ?_
  refine lv_goto (tgt := 14) hx hb (by decide +kernel : decode tc_cod 10 = .ok (.goto 4, 3)) (by decide) ?_
  exact W.zret (ty := .byte) hx hb hr rfl (fun t ht hW2 => ⟨rfl, ht⟩) (fun _ h => by cases h) (by decide +kernel : decode tc_cod 14 = .ok (.ireturn, 1))

set_option maxRecDepth 100000 in
theorem tm_lat (l : Launch) (n0 : Nat) (q : Nat → Nat) (X : zSc) (k : Nat) (hk : k < 2) : Met l ty_lat ts_lat ({ frames := 0, cells := 0, slots := 0, locals := 0 }) (zPt n0 q X [.ref (q k)]) (zQs (some (.int 1))) 0 0 (fun _ => False) := by
  refine va_MetF (cc := tc_lat) (maxL := 1) (ret := (some .boolean)) (ws' := zTb) (by decide +kernel) rfl ?_
  intro p e s m args below meth c s₁ B hml hv
  obtain ⟨rfl, hE, hn0⟩ := hv
  have hx := B.exec
  have hb := B.bytes
  have hr := B.returns
  have hlocks := B.notSynchronized
  have hts0 := atoms_spec (ws := ts_lat) B.pre
  have hts : ∀ w ∈ zTb, w.before _ s = true := fun w hw => hts0 w (List.mem_cons_of_mem _ hw)
  have hown : s.vm.findClass "java/lang/String" = some m.cls := findClass_of_methodNamed B.named
  have hS : va_S (zA n0) s.heap s.heap [] := va_S.rf
  have hl := lv_entry ([.ref (q k)]) (n := 1) (Nat.le_of_ble_eq_true rfl)
  rw [lg_entry_eq]
  generalize (lg_sl ([.ref (q k)]) ++ List.replicate (1 - (lg_sl ([.ref (q k)])).length) Slot.unset).toArray = ls at hl ⊢
  have hl : lv_has ls 1 [(0, .ref (q k))] := hl
  obtain ⟨-, -, ⟨-, hs4, hs5, -⟩, -⟩ := hE
  obtain ⟨g1, g2, g3, g4⟩ := hs4 k hk
  refine va_gets hx hb hs5 hS hown (hts _ (zg (zm3 (List.mem_of_getElem? (i := 225) rfl)) rfl)) (fun _ h => h) (by decide +kernel : decode tc_lat 0 = .ok (.getstatic 38, 3)) ?_
  refine lv_if_eq (tgt := 17) hx hb (by decide +kernel : decode tc_lat 3 = .ok (.ifCond .eq 14, 3)) (by decide) (fun h => absurd h (by decide)) (fun _ => ?_)
  refine lv_aload_n hx hb (by decide +kernel : decode tc_lat 6 = .ok (.aload_n 0, 1)) rfl (lv_at hl 0 rfl) ?_
  refine vk_getf hx hb g2 hS hown (hts _ (zg (zm6 (List.mem_of_getElem? (i := 84) rfl)) rfl)) (fun _ h => h) (by decide +kernel : decode tc_lat 7 = .ok (.getfield 15, 3)) ?_
  refine lv_if_ne (tgt := 17) hx hb (by decide +kernel : decode tc_lat 10 = .ok (.ifCond .ne 7, 3)) (by decide) (fun h => absurd rfl h) (fun _ => ?_)
  refine lv_iconst (v := 1) hx hb (by decide +kernel : decode tc_lat 13 = .ok (.iconst 1, 1)) (by decide) ?_
  refine lv_goto (tgt := 18) hx hb (by decide +kernel : decode tc_lat 14 = .ok (.goto 4, 3)) (by decide) ?_
  exact W.zret (ty := .boolean) hx hb hr rfl (fun t ht hW2 => ⟨rfl, ht⟩) (fun _ h => by cases h) (by decide +kernel : decode tc_lat 18 = .ok (.ireturn, 1))

set_option maxRecDepth 100000 in
theorem tm_len (l : Launch) (n0 : Nat) (q : Nat → Nat) (X : zSc) (k : Nat) (hk : k < 2) : Met l ty_len ts_len ({ frames := 1, cells := 0, slots := 0, locals := 20 }) (zPt n0 q X [.ref (q k)]) (zQs (some (.int 4))) 0 0 (fun _ => False) := by
  refine va_MetF (cc := tc_len) (maxL := 1) (ret := (some .int)) (ws' := zTb) (by decide +kernel) rfl ?_
  intro p e s m args below meth c s₁ B hml hv
  obtain ⟨rfl, hE, hn0⟩ := hv
  have hx := B.exec
  have hb := B.bytes
  have hr := B.returns
  have hlocks := B.notSynchronized
  have hts0 := atoms_spec (ws := ts_len) B.pre
  have hts : ∀ w ∈ zTb, w.before _ s = true := fun w hw => hts0 w (List.mem_cons_of_mem _ hw)
  have hown : s.vm.findClass "java/lang/String" = some m.cls := findClass_of_methodNamed B.named
  have hS : va_S (zA n0) s.heap s.heap [] := va_S.rf
  have hl := lv_entry ([.ref (q k)]) (n := 1) (Nat.le_of_ble_eq_true rfl)
  rw [lg_entry_eq]
  generalize (lg_sl ([.ref (q k)]) ++ List.replicate (1 - (lg_sl ([.ref (q k)])).length) Slot.unset).toArray = ls at hl ⊢
  have hl : lv_has ls 1 [(0, .ref (q k))] := hl
  obtain ⟨-, -, ⟨-, hs4, hs5, -⟩, -⟩ := id hE
  obtain ⟨g1, g2, g3, g4⟩ := hs4 k hk
  refine lv_aload_n hx hb (by decide +kernel : decode tc_len 0 = .ok (.aload_n 0, 1)) rfl (lv_at hl 0 rfl) ?_
  refine vk_getf hx hb g3 hS hown (hts _ (zg (zm6 (List.mem_of_getElem? (i := 83) rfl)) rfl)) (fun _ h => h) (by decide +kernel : decode tc_len 1 = .ok (.getfield 9, 3)) ?_
  refine va_tlen (A := zA n0) (v := 4) hx hb g4 hS (by decide) (by decide +kernel : decode tc_len 4 = .ok (.arraylength, 1)) ?_
  refine lv_aload_n hx hb (by decide +kernel : decode tc_len 5 = .ok (.aload_n 0, 1)) rfl (lv_at hl 0 rfl) ?_
  refine zs_backS (va_runV (C := "java/lang/String") (As := []) (b := q k) (rest := [.int 4]) (Ts := zTb) (own := "java/lang/String") ⟨hx, hb, hml, hown, hts⟩ (tm_cod l n0 q X k hk) ⟨callB_of 0 hts tg_cod rfl rfl rfl (hts _ (zg (zm1 (List.mem_of_getElem? (i := 17) rfl)) rfl)) (hts _ (zg (zm3 (List.mem_of_getElem? (i := 221) rfl)) rfl)) ⟨by decide +kernel, by decide +kernel, by decide +kernel⟩ ⟨Nat.le_of_ble_eq_true rfl, Nat.le_of_ble_eq_true rfl⟩, hts _ (zg (zm3 (List.mem_of_getElem? (i := 222) rfl)) rfl), hts _ (zg (zm3 (List.mem_of_getElem? (i := 223) rfl)) rfl)⟩ ⟨zPt_blind, (by obtain ⟨cell, h1, h2, h3, -⟩ := g1; exact ⟨cell, h1, h2, h3⟩), fun U hU hWU => ⟨rfl, by rw [hU]; exact zExt.at hE hn0 (fun _ _ _ => rfl) hWU, by rw [hU]; exact hn0⟩⟩ rfl rfl hl.1 rfl (lv_room (Nat.le_of_ble_eq_true rfl)) (by decide +kernel : decode tc_len 6 = .ok (.invokevirtual 335, 3)) ⟨Nat.zero_le _, Nat.zero_le _⟩) ?_
  refine lv_ishr hx hb (by decide +kernel : decode tc_len 9 = .ok (.ishr, 1)) ?_
  exact W.iret (v := 4) hx hb hr (fun t ht hW2 => ⟨rfl, ht⟩) (fun _ h => by cases h) (by decide +kernel : decode tc_len 10 = .ok (.ireturn, 1))

theorem zi4 {i : Int32} (h : ¬ (i < 0 ∨ 4 ≤ i.toNatClampNeg)) : i < 4 := by
  obtain ⟨j, hj, rfl⟩ := vp_in_of (n := 4) h (by decide)
  exact nI_lt (a := j) (b := 4) hj (by decide)
set_option maxRecDepth 100000 in
theorem tm_pck (l : Launch) (n0 : Nat) (q : Nat → Nat) (X : zSc) (i : Int32) (w : Value) (hw : w = .null ∨ ∃ t, w = .ref t) (hi : ¬ (i < 0 ∨ 4 ≤ i.toNatClampNeg)) : Met l ty_pck ts_pck ({ frames := 0, cells := 0, slots := 0, locals := 0 }) (zPt n0 q X [.int i, .int 4, w]) (zQs (some (.int i))) 0 0 (fun _ => False) := by
  refine va_MetF (cc := tc_pck) (maxL := 3) (ret := (some .int)) (ws' := zTb) (by decide +kernel) rfl ?_
  intro p e s m args below meth c s₁ B hml hv
  obtain ⟨rfl, hE, hn0⟩ := hv
  have hx := B.exec
  have hb := B.bytes
  have hr := B.returns
  have hlocks := B.notSynchronized
  have hts0 := atoms_spec (ws := ts_pck) B.pre
  have hts : ∀ w ∈ zTb, w.before _ s = true := fun w hw => hts0 w (List.mem_cons_of_mem _ hw)
  have hown : s.vm.findClass "jdk/internal/util/Preconditions" = some m.cls := findClass_of_methodNamed B.named
  have hS : va_S (zA n0) s.heap s.heap [] := va_S.rf
  have hcat : w.category = 1 := by rcases hw with rfl | ⟨t, rfl⟩ <;> rfl
  have hl := lv_entry ([.int i, .int 4, w]) (n := 3) (by rcases hw with rfl | ⟨t, rfl⟩ <;> exact Nat.le_of_ble_eq_true rfl)
  rw [lg_entry_eq]
  generalize (lg_sl ([.int i, .int 4, w]) ++ List.replicate (3 - (lg_sl ([.int i, .int 4, w])).length) Slot.unset).toArray = ls at hl ⊢
  have hl : lv_has ls 3 [(0, .int i), (1, .int 4)] := lv_sub hl [0, 1] rfl
  have hi0 : ¬ i < 0 := fun h => hi (Or.inl h)
  have hi4 : i < 4 := zi4 hi
  refine lv_iload_n hx hb (by decide +kernel : decode tc_pck 0 = .ok (.iload_n 0, 1)) rfl (lv_at hl 0 rfl) ?_
  refine lv_if_lt (tgt := 9) hx hb (by decide +kernel : decode tc_pck 1 = .ok (.ifCond .lt 8, 3)) (by decide) (fun h => absurd h hi0) (fun _ => ?_)
  refine lv_iload_n hx hb (by decide +kernel : decode tc_pck 4 = .ok (.iload_n 0, 1)) rfl (lv_at hl 0 rfl) ?_
  refine lv_iload_n hx hb (by decide +kernel : decode tc_pck 5 = .ok (.iload_n 1, 1)) rfl (lv_at hl 1 rfl) ?_
  refine lv_icmp_lt (tgt := 16) hx hb (by decide +kernel : decode tc_pck 6 = .ok (.if_icmp .lt 10, 3)) (by decide) (fun _ => ?_) (fun h => absurd hi4 h)
  refine lv_iload_n hx hb (by decide +kernel : decode tc_pck 16 = .ok (.iload_n 0, 1)) rfl (lv_at hl 0 rfl) ?_
  exact W.iret hx hb hr (fun t ht hW2 => ⟨rfl, ht⟩) (fun _ h => by cases h) (by decide +kernel : decode tc_pck 17 = .ok (.ireturn, 1))

set_option maxRecDepth 100000 in
theorem tm_chk (l : Launch) (n0 : Nat) (q : Nat → Nat) (X : zSc) (i : Int32) (hi : ¬ (i < 0 ∨ 4 ≤ i.toNatClampNeg)) : Met l ty_chk ts_chk ({ frames := 1, cells := 0, slots := 0, locals := 22 }) (zPt n0 q X [.int i, .int 4]) (zQs (none)) 0 0 (fun _ => False) := by
  refine va_MetF (cc := tc_chk) (maxL := 2) (ret := none) (ws' := zTb) (by decide +kernel) rfl ?_
  intro p e s m args below meth c s₁ B hml hv
  obtain ⟨rfl, hE, hn0⟩ := hv
  have hx := B.exec
  have hb := B.bytes
  have hr := B.returns
  have hlocks := B.notSynchronized
  have hts0 := atoms_spec (ws := ts_chk) B.pre
  have hts : ∀ w ∈ zTb, w.before _ s = true := fun w hw => hts0 w (List.mem_cons_of_mem _ hw)
  have hown : s.vm.findClass "java/lang/String" = some m.cls := findClass_of_methodNamed B.named
  have hS : va_S (zA n0) s.heap s.heap [] := va_S.rf
  have hl := lv_entry ([.int i, .int 4]) (n := 2) (Nat.le_of_ble_eq_true rfl)
  rw [lg_entry_eq]
  generalize (lg_sl ([.int i, .int 4]) ++ List.replicate (2 - (lg_sl ([.int i, .int 4])).length) Slot.unset).toArray = ls at hl ⊢
  have hl : lv_has ls 2 [(0, .int i), (1, .int 4)] := hl
  obtain ⟨-, -, ⟨-, hs4, hs5, hs6⟩, -⟩ := id hE
  obtain ⟨w, hw, hz⟩ : ∃ w : Value, (w = .null ∨ ∃ t, w = .ref t) ∧ va_Z "jdk/internal/util/Preconditions" "SIOOBE_FORMATTER" "Ljava/util/function/BiFunction;" w (zA n0) s s.heap := by
    rcases hs6 with h | ⟨t, h⟩
    · exact ⟨_, Or.inl rfl, h⟩
    · exact ⟨_, Or.inr ⟨t, rfl⟩, h⟩
  refine lv_iload_n hx hb (by decide +kernel : decode tc_chk 0 = .ok (.iload_n 0, 1)) rfl (lv_at hl 0 rfl) ?_
  refine lv_iload_n hx hb (by decide +kernel : decode tc_chk 1 = .ok (.iload_n 1, 1)) rfl (lv_at hl 1 rfl) ?_
  refine va_gets hx hb hz hS hown (hts _ (zg (zm4 (List.mem_of_getElem? (i := 1) rfl)) rfl)) (fun _ h => h) (by decide +kernel : decode tc_chk 2 = .ok (.getstatic 1053, 3)) ?_
  refine zs_backS (va_runS (As := [.int i, .int 4, w]) (rest := []) (Ts := zTb) (own := "java/lang/String") ⟨hx, hb, hml, hown, hts⟩ (tm_pck l n0 q X i w hw hi) ⟨callB_of 3 hts tg_pck rfl rfl rfl (hts _ (zg (zm1 (List.mem_of_getElem? (i := 19) rfl)) rfl)) (hts _ (zg (zm4 (List.mem_of_getElem? (i := 3) rfl)) rfl)) ⟨by decide +kernel, by decide +kernel, by decide +kernel⟩ ⟨Nat.le_of_ble_eq_true rfl, Nat.le_of_ble_eq_true rfl⟩, hts _ (zg (zm4 (List.mem_of_getElem? (i := 4) rfl)) rfl)⟩ ⟨zPt_blind, fun U hU hWU => ⟨rfl, by rw [hU]; exact zExt.at hE hn0 (fun _ _ _ => rfl) hWU, by rw [hU]; exact hn0⟩⟩ rfl rfl hl.1 rfl (lv_room (Nat.le_of_ble_eq_true rfl)) (by decide +kernel : decode tc_chk 5 = .ok (.invokestatic 1059, 3)) ⟨Nat.zero_le _, Nat.zero_le _⟩) ?_
  refine lv_pop hx hb (by decide +kernel : decode tc_chk 8 = .ok (.pop, 1)) rfl ?_
  exact W.vret hx hb hr (fun t ht hW2 => ⟨rfl, ht⟩) (fun _ h => by cases h) (by decide +kernel : decode tc_chk 9 = .ok (.return_, 1))

theorem zch_c : ∀ j, j < 4 → ((zch j &&& 255).toUInt32 % 65536).toInt32 = zch j := by decide +kernel
theorem zch_n : ∀ j, j < 4 → narrow .char (.int (zch j)) = .int (zch j) := by decide +kernel
set_option maxRecDepth 100000 in
theorem tm_lch (l : Launch) (n0 : Nat) (q : Nat → Nat) (X : zSc) (k : Nat) (i : Int32) (hk : k < 2) (hi : ¬ (i < 0 ∨ 4 ≤ i.toNatClampNeg)) : Met l ty_lch ts_lch ({ frames := 2, cells := 0, slots := 0, locals := 43 }) (zPt n0 q X [.ref (q (k + 3)), .int i]) (zQs (some (.int (zch i.toNatClampNeg)))) 0 0 (fun _ => False) := by
  refine va_MetF (cc := tc_lch) (maxL := 2) (ret := (some .char)) (ws' := zTb) (by decide +kernel) rfl ?_
  intro p e s m args below meth c s₁ B hml hv
  obtain ⟨rfl, hE, hn0⟩ := hv
  have hx := B.exec
  have hb := B.bytes
  have hr := B.returns
  have hlocks := B.notSynchronized
  have hts0 := atoms_spec (ws := ts_lch) B.pre
  have hts : ∀ w ∈ zTb, w.before _ s = true := fun w hw => hts0 w (List.mem_cons_of_mem _ hw)
  have hown : s.vm.findClass "java/lang/StringLatin1" = some m.cls := findClass_of_methodNamed B.named
  have hS : va_S (zA n0) s.heap s.heap [] := va_S.rf
  have hl := lv_entry ([.ref (q (k + 3)), .int i]) (n := 2) (Nat.le_of_ble_eq_true rfl)
  rw [lg_entry_eq]
  generalize (lg_sl ([.ref (q (k + 3)), .int i]) ++ List.replicate (2 - (lg_sl ([.ref (q (k + 3)), .int i])).length) Slot.unset).toArray = ls at hl ⊢
  have hl : lv_has ls 2 [(0, .ref (q (k + 3))), (1, .int i)] := hl
  obtain ⟨-, -, ⟨-, hs4, hs5, -⟩, -⟩ := id hE
  obtain ⟨g1, g2, g3, g4⟩ := hs4 k hk
  have hlt : i.toNatClampNeg < 4 := Nat.not_le.mp fun h => hi (Or.inr h)
  refine lv_iload_n hx hb (by decide +kernel : decode tc_lch 0 = .ok (.iload_n 1, 1)) rfl (lv_at hl 1 rfl) ?_
  refine lv_aload_n hx hb (by decide +kernel : decode tc_lch 1 = .ok (.aload_n 0, 1)) rfl (lv_at hl 0 rfl) ?_
  refine va_tlen (A := zA n0) (v := 4) hx hb g4 hS (by decide) (by decide +kernel : decode tc_lch 2 = .ok (.arraylength, 1)) ?_
  refine zs_backS (va_runS (As := [.int i, .int 4]) (rest := []) (Ts := zTb) (own := "java/lang/StringLatin1") ⟨hx, hb, hml, hown, hts⟩ (tm_chk l n0 q X i hi) ⟨callB_of 2 hts tg_chk rfl rfl rfl (hts _ (zg (zm1 (List.mem_of_getElem? (i := 17) rfl)) rfl)) (hts _ (zg (zm3 (List.mem_of_getElem? (i := 238) rfl)) rfl)) ⟨by decide +kernel, by decide +kernel, by decide +kernel⟩ ⟨Nat.le_of_ble_eq_true rfl, Nat.le_of_ble_eq_true rfl⟩, hts _ (zg (zm3 (List.mem_of_getElem? (i := 239) rfl)) rfl)⟩ ⟨zPt_blind, fun U hU hWU => ⟨rfl, by rw [hU]; exact zExt.at hE hn0 (fun _ _ _ => rfl) hWU, by rw [hU]; exact hn0⟩⟩ rfl rfl hl.1 rfl (lv_room (Nat.le_of_ble_eq_true rfl)) (by decide +kernel : decode tc_lch 3 = .ok (.invokestatic 9, 3)) ⟨Nat.zero_le _, Nat.zero_le _⟩) ?_
  refine lv_aload_n hx hb (by decide +kernel : decode tc_lch 6 = .ok (.aload_n 0, 1)) rfl (lv_at hl 0 rfl) ?_
  refine lv_iload_n hx hb (by decide +kernel : decode tc_lch 7 = .ok (.iload_n 1, 1)) rfl (lv_at hl 1 rfl) ?_
  refine va_tb (A := zA n0) hx hb g4 hS hi rfl (by decide +kernel : decode tc_lch 8 = .ok (.baload, 1)) ?_
  refine lv_sipush (v := 255) hx hb (by decide +kernel : decode tc_lch 9 = .ok (.sipush 255, 3)) (by decide) ?_
  refine lv_iand hx hb (by decide +kernel : decode tc_lch 12 = .ok (.iand, 1)) ?_
  refine lv_i2c hx hb (by decide +kernel : decode tc_lch 13 = .ok (.i2c, 1)) rfl ?_
  rw [show (((zch i.toNatClampNeg) &&& 255).toUInt32 % 65536).toInt32 = zch i.toNatClampNeg from zch_c _ hlt]
  exact W.zret (ty := .char) hx hb hr (zch_n _ hlt) (fun t ht hW2 => ⟨rfl, ht⟩) (fun _ h => by cases h) (by decide +kernel : decode tc_lch 14 = .ok (.ireturn, 1))

set_option maxRecDepth 100000 in
theorem tm_chr (l : Launch) (n0 : Nat) (q : Nat → Nat) (X : zSc) (k : Nat) (i : Int32) (hk : k < 2) (hi : ¬ (i < 0 ∨ 4 ≤ i.toNatClampNeg)) : Met l ty_chr ts_chr ({ frames := 3, cells := 0, slots := 0, locals := 64 }) (zPt n0 q X [.ref (q k), .int i]) (zQs (some (.int (zch i.toNatClampNeg)))) 0 0 (fun _ => False) := by
  refine va_MetF (cc := tc_chr) (maxL := 2) (ret := (some .char)) (ws' := zTb) (by decide +kernel) rfl ?_
  intro p e s m args below meth c s₁ B hml hv
  obtain ⟨rfl, hE, hn0⟩ := hv
  have hx := B.exec
  have hb := B.bytes
  have hr := B.returns
  have hlocks := B.notSynchronized
  have hts0 := atoms_spec (ws := ts_chr) B.pre
  have hts : ∀ w ∈ zTb, w.before _ s = true := fun w hw => hts0 w (List.mem_cons_of_mem _ hw)
  have hown : s.vm.findClass "java/lang/String" = some m.cls := findClass_of_methodNamed B.named
  have hS : va_S (zA n0) s.heap s.heap [] := va_S.rf
  have hl := lv_entry ([.ref (q k), .int i]) (n := 2) (Nat.le_of_ble_eq_true rfl)
  rw [lg_entry_eq]
  generalize (lg_sl ([.ref (q k), .int i]) ++ List.replicate (2 - (lg_sl ([.ref (q k), .int i])).length) Slot.unset).toArray = ls at hl ⊢
  have hl : lv_has ls 2 [(0, .ref (q k)), (1, .int i)] := hl
  obtain ⟨-, -, ⟨-, hs4, hs5, -⟩, -⟩ := id hE
  obtain ⟨g1, g2, g3, g4⟩ := hs4 k hk
  have hlt : i.toNatClampNeg < 4 := Nat.not_le.mp fun h => hi (Or.inr h)
  refine lv_aload_n hx hb (by decide +kernel : decode tc_chr 0 = .ok (.aload_n 0, 1)) rfl (lv_at hl 0 rfl) ?_
  refine zs_backS (va_runV (C := "java/lang/String") (As := []) (b := q k) (rest := []) (Ts := zTb) (own := "java/lang/String") ⟨hx, hb, hml, hown, hts⟩ (tm_lat l n0 q X k hk) ⟨callB_of 0 hts tg_lat rfl rfl rfl (hts _ (zg (zm1 (List.mem_of_getElem? (i := 17) rfl)) rfl)) (hts _ (zg (zm3 (List.mem_of_getElem? (i := 231) rfl)) rfl)) ⟨by decide +kernel, by decide +kernel, by decide +kernel⟩ ⟨Nat.le_of_ble_eq_true rfl, Nat.le_of_ble_eq_true rfl⟩, hts _ (zg (zm3 (List.mem_of_getElem? (i := 232) rfl)) rfl), hts _ (zg (zm3 (List.mem_of_getElem? (i := 233) rfl)) rfl)⟩ ⟨zPt_blind, (by obtain ⟨cell, h1, h2, h3, -⟩ := g1; exact ⟨cell, h1, h2, h3⟩), fun U hU hWU => ⟨rfl, by rw [hU]; exact zExt.at hE hn0 (fun _ _ _ => rfl) hWU, by rw [hU]; exact hn0⟩⟩ rfl rfl hl.1 rfl (lv_room (Nat.le_of_ble_eq_true rfl)) (by decide +kernel : decode tc_chr 1 = .ok (.invokevirtual 492, 3)) ⟨Nat.zero_le _, Nat.zero_le _⟩) ?_
  refine lv_if_eq (tgt := 16) hx hb (by decide +kernel : decode tc_chr 4 = .ok (.ifCond .eq 12, 3)) (by decide) (fun h => absurd h (by decide)) (fun _ => ?_)
  refine lv_aload_n hx hb (by decide +kernel : decode tc_chr 7 = .ok (.aload_n 0, 1)) rfl (lv_at hl 0 rfl) ?_
  refine vk_getf hx hb g3 hS hown (hts _ (zg (zm6 (List.mem_of_getElem? (i := 83) rfl)) rfl)) (fun _ h => h) (by decide +kernel : decode tc_chr 8 = .ok (.getfield 9, 3)) ?_
  refine lv_iload_n hx hb (by decide +kernel : decode tc_chr 11 = .ok (.iload_n 1, 1)) rfl (lv_at hl 1 rfl) ?_
  refine zs_backS (va_runS (As := [.ref (q (k + 3)), .int i]) (rest := []) (Ts := zTb) (own := "java/lang/String") ⟨hx, hb, hml, hown, hts⟩ (tm_lch l n0 q X k i hk hi) ⟨callB_of 2 hts tg_lch rfl rfl rfl (hts _ (zg (zm1 (List.mem_of_getElem? (i := 18) rfl)) rfl)) (hts _ (zg (zm3 (List.mem_of_getElem? (i := 235) rfl)) rfl)) ⟨by decide +kernel, by decide +kernel, by decide +kernel⟩ ⟨Nat.le_of_ble_eq_true rfl, Nat.le_of_ble_eq_true rfl⟩, hts _ (zg (zm3 (List.mem_of_getElem? (i := 236) rfl)) rfl)⟩ ⟨zPt_blind, fun U hU hWU => ⟨rfl, by rw [hU]; exact zExt.at hE hn0 (fun _ _ _ => rfl) hWU, by rw [hU]; exact hn0⟩⟩ rfl rfl hl.1 rfl (lv_room (Nat.le_of_ble_eq_true rfl)) (by decide +kernel : decode tc_chr 12 = .ok (.invokestatic 495, 3)) ⟨Nat.zero_le _, Nat.zero_le _⟩) ?_
  exact W.zret (ty := .char) hx hb hr (zch_n _ hlt) (fun t ht hW2 => ⟨rfl, ht⟩) (fun _ h => by cases h) (by decide +kernel : decode tc_chr 15 = .ok (.ireturn, 1))

section ZS
variable {D : va_G} {kA : Nat → ClassId} {n0 : Nat} {q : Nat → Nat} {X : zSc} {m0 : zMt} {p : Program} {l : Launch} {e : Env} {R : Room} {s : State} {m : MethodId} {args : Array Value} {below : List Frame} {meth : Method} {c : Code} {Q : State → Prop} {len0 sz0 : Nat}
variable {pc pc' : Nat} {ls ls' st st' : List Value} {M M' : zM}
theorem zs_strlen (C : zCx D kA n0 q X m0 p R s m args meth c) {a k : Nat} {r : List Value} (hdec : decode (zb m0) pc = .ok (.invokevirtual a, 3)) (hlk : Cond.methodLink (zcn (zow m0)) a ⟨"java/lang/String", "length", "()I"⟩ ∈ lw_tbl) (hk : k < 2) (hr : zcat r ≤ 8) (hlv : 4 ≤ zlv m0) (hR : M.1.length - len0 ≤ R.cells ∧ zsize M.1 - sz0 ≤ R.slots) (K : zWs D kA n0 q m0 p l e R s m args below meth c Q len0 sz0 (pc + 3) ls (.int 4 :: r) M) : zWs D kA n0 q m0 p l e R s m args below meth c Q len0 sz0 pc ls (.retAddr k :: r) M := by
  obtain ⟨hx, hb, hml, hown, hts, hnm, hK, hn0, hE, hfr, hlo, -⟩ := id C
  intro H locs lsM hW hS hl
  have hE2 : zExt n0 q X s H := by
    have h9 := zExt.at (U := s) (H := H) hE hn0 hS.2.1 (State.WarmedH.refl s)
    exact h9
  obtain ⟨g1, g2, g3, g4⟩ := hE2.2.2.1.2.1 k hk
  have hsz : n0 ≤ H.size := Nat.le_trans hn0 hS.1
  refine zs_backS (va_runV (C := "java/lang/String") (As := []) (b := q k) (rest := r.map (zren n0 q)) (Ts := zTb) (own := zcn (zow m0)) ⟨hx, hb, hml, hown, hts⟩ (tm_len l n0 q X k hk) ⟨callB_of 0 hts tg_len rfl rfl rfl (hts _ (zg (zm1 (List.mem_of_getElem? (i := 17) rfl)) rfl)) (hts _ (zg hlk rfl)) ⟨by decide +kernel, by decide +kernel, by decide +kernel⟩ ?_, hts _ (zg (zm3 (List.mem_of_getElem? (i := 218) rfl)) rfl), hts _ (zg (zm3 (List.mem_of_getElem? (i := 219) rfl)) rfl)⟩ ⟨zPt_blind, (by obtain ⟨cell, h1, h2, h3, -⟩ := g1; exact ⟨cell, h1, h2, h3⟩), fun U hU hWU => ⟨rfl, by rw [hU]; exact zExt.at hE hn0 hS.2.1 hWU, by rw [hU]; exact hsz⟩⟩ rfl rfl hl.2.1 rfl (lv_room (by rw [zcat_eq]; exact hr)) hdec ⟨?_, ?_⟩) ?_
  · unfold zlo at hlo
    exact ⟨by show 1 + 1 ≤ R.frames; omega, by show 8 + (1 + 11) + 20 ≤ R.locals; omega⟩
  · exact hR.1
  · exact hR.2
  · exact K H locs lsM hW hS hl

theorem zs_charAt (C : zCx D kA n0 q X m0 p R s m args meth c) {a k : Nat} {r : List Value} {i : Int32} (hdec : decode (zb m0) pc = .ok (.invokevirtual a, 3)) (hlk : Cond.methodLink (zcn (zow m0)) a ⟨"java/lang/String", "charAt", "(I)C"⟩ ∈ lw_tbl) (hk : k < 2) (hr : zcat r ≤ 8) (hlv : 4 ≤ zlv m0) (hi : ¬ (i < 0 ∨ 4 ≤ i.toNatClampNeg)) (hR : M.1.length - len0 ≤ R.cells ∧ zsize M.1 - sz0 ≤ R.slots) (K : zWs D kA n0 q m0 p l e R s m args below meth c Q len0 sz0 (pc + 3) ls (.int (zch i.toNatClampNeg) :: r) M) : zWs D kA n0 q m0 p l e R s m args below meth c Q len0 sz0 pc ls (.int i :: .retAddr k :: r) M := by
  obtain ⟨hx, hb, hml, hown, hts, hnm, hK, hn0, hE, hfr, hlo, -⟩ := id C
  intro H locs lsM hW hS hl
  have hE2 : zExt n0 q X s H := by
    have h9 := zExt.at (U := s) (H := H) hE hn0 hS.2.1 (State.WarmedH.refl s)
    exact h9
  obtain ⟨g1, g2, g3, g4⟩ := hE2.2.2.1.2.1 k hk
  have hsz : n0 ≤ H.size := Nat.le_trans hn0 hS.1
  refine zs_backS (va_runV (C := "java/lang/String") (As := [.int i]) (b := q k) (rest := r.map (zren n0 q)) (Ts := zTb) (own := zcn (zow m0)) ⟨hx, hb, hml, hown, hts⟩ (tm_chr l n0 q X k i hk hi) ⟨callB_of 1 hts tg_chr rfl rfl rfl (hts _ (zg (zm1 (List.mem_of_getElem? (i := 17) rfl)) rfl)) (hts _ (zg hlk rfl)) ⟨by decide +kernel, by decide +kernel, by decide +kernel⟩ ?_, hts _ (zg (zm3 (List.mem_of_getElem? (i := 228) rfl)) rfl), hts _ (zg (zm3 (List.mem_of_getElem? (i := 229) rfl)) rfl)⟩ ⟨zPt_blind, (by obtain ⟨cell, h1, h2, h3, -⟩ := g1; exact ⟨cell, h1, h2, h3⟩), fun U hU hWU => ⟨rfl, by rw [hU]; exact zExt.at hE hn0 hS.2.1 hWU, by rw [hU]; exact hsz⟩⟩ rfl rfl hl.2.1 rfl (lv_room (by rw [zcat_eq]; exact hr)) hdec ⟨?_, ?_⟩) ?_
  · unfold zlo at hlo
    exact ⟨by show 3 + 1 ≤ R.frames; omega, by show 8 + (2 + 11) + 64 ≤ R.locals; omega⟩
  · exact hR.1
  · exact hR.2
  · exact K H locs lsM hW hS hl

end ZS
end
section
section ZS
variable {D : va_G} {kA : Nat → ClassId} {n0 : Nat} {q : Nat → Nat} {X : zSc} {m0 : zMt} {p : Program} {l : Launch} {e : Env} {R : Room} {s : State} {m : MethodId} {args : Array Value} {below : List Frame} {meth : Method} {c : Code} {Q : State → Prop} {len0 sz0 : Nat}
variable {pc pc' : Nat} {ls ls' st st' : List Value} {M M' : zM}
theorem zcl_at {ci : Nat} {r : vw_C} (h : zgt vwCl ci = some r) : vwCl[ci]? = some r := by rw [← zgt_eq]; exact h
theorem zs_getfield (C : zCx D kA n0 q X m0 p R s m args meth c) {a : Nat} (hdec : decode (zb m0) pc = .ok (.getfield a, 3)) (hio : zio m0 (.getfield a) = true) (hz : zx X m0 pc ls st M 3 (.getfield a) = some (.inl (pc', ls', st', M'))) (hpc : pc' ≠ 65535) (h0 : len0 ≤ M.1.length ∧ sz0 ≤ zsize M.1) (hR : M'.1.length - len0 ≤ R.cells ∧ zsize M'.1 - sz0 ≤ R.slots) (K : zWs D kA n0 q m0 p l e R s m args below meth c Q len0 sz0 pc' ls' st' M') : zWs D kA n0 q m0 p l e R s m args below meth c Q len0 sz0 pc ls st M := by
  obtain ⟨hx, hb, hml, hown, hts, hnm, hK, hn0, hE, hfr, hlo, -⟩ := id C
  replace hz : zgetf (zow m0) a (pc + 3) ls st M = _ := hz
  unfold zgetf at hz
  split at hz
  · next o r =>
    split at hz
    · next ci k pl hlk =>
      split at hz
      · next cj fs hS0 =>
        cases hb2 : Nat.beq ci cj with
        | false => rw [hb2] at hz; cases hz
        | true =>
          rw [hb2] at hz
          have hcj := Nat.eq_of_beq_eq_true hb2
          subst hcj
          replace hz : (match zgt fs k with | some kd => zn (pc + 3) ls (zval M.2.1 M.2.2 o k kd :: r) M | none => none) = _ := hz
          split at hz
          · next kd hkd =>
            unfold zn at hz; cases hz
            obtain ⟨C1, T, N, hC, hk, hw, hcls⟩ := zF_ok hlk
            intro H locs lsM hW hS hl
            refine va_get (D := D) (ci := ci) (C := C1) (T := T) (N := N) (ref := (T k).1) hx hb hts (zin_ok hC) hown hK hW.2 o (zwd_get hS0) (zcl_at hC) k hk (by rw [← hcls]; exact hts _ (zg hw rfl)) (fun _ h => h) (v := zren n0 q (zval M.2.1 M.2.2 o k kd)) ?_ hdec (K H locs lsM hW hS hl)
            rw [zgt_eq] at hkd
            simp [zfs, List.getElem?_mapIdx, hkd]
          · cases hz
      · cases hz
    · cases hz
  · cases hz
theorem zs_iaload (C : zCx D kA n0 q X m0 p R s m args meth c) (hdec : decode (zb m0) pc = .ok (.iaload, 1)) (hz : zx X m0 pc ls st M 1 (.iaload) = some (.inl (pc', ls', st', M'))) (hpc : pc' ≠ 65535) (h0 : len0 ≤ M.1.length ∧ sz0 ≤ zsize M.1) (hR : M'.1.length - len0 ≤ R.cells ∧ zsize M'.1 - sz0 ≤ R.slots) (K : zWs D kA n0 q m0 p l e R s m args below meth c Q len0 sz0 pc' ls' st' M') : zWs D kA n0 q m0 p l e R s m args below meth c Q len0 sz0 pc ls st M := by
  obtain ⟨hx, hb, hml, hown, hts, hnm, hK, hn0, hE, hfr, hlo, -⟩ := id C
  replace hz : zild X (pc + 1) ls st M = _ := hz
  unfold zild at hz
  split at hz
  · next i o r =>
    split at hz
    · next nn hS0 =>
      unfold zn at hz; cases hz
      split at hpc
      · exact absurd rfl hpc
      · next hy =>
        rw [if_neg hy] at K
        intro H locs lsM hW hS hl
        exact va_iald (n := nn) (f := M.2.1 o) hx hb hK hW.2 o 0 (zwd_get hS0) rfl hy hdec (K H locs lsM hW hS hl)
    · cases hz
  · next i r =>
    unfold zn at hz; cases hz
    split at hpc
    · exact absurd rfl hpc
    · next hy =>
      rw [if_neg hy] at K
      intro H locs lsM hW hS hl
      exact va_sld (A := zA n0) hx hb hE.1 (Nat.lt_of_lt_of_le hE.2.1 hn0) (Nat.not_le.mpr hE.2.1) hS hy hdec (K H locs lsM hW hS hl)
  · cases hz
theorem zs_laload (C : zCx D kA n0 q X m0 p R s m args meth c) (hdec : decode (zb m0) pc = .ok (.laload, 1)) (hz : zx X m0 pc ls st M 1 (.laload) = some (.inl (pc', ls', st', M'))) (hpc : pc' ≠ 65535) (h0 : len0 ≤ M.1.length ∧ sz0 ≤ zsize M.1) (hR : M'.1.length - len0 ≤ R.cells ∧ zsize M'.1 - sz0 ≤ R.slots) (K : zWs D kA n0 q m0 p l e R s m args below meth c Q len0 sz0 pc' ls' st' M') : zWs D kA n0 q m0 p l e R s m args below meth c Q len0 sz0 pc ls st M := by
  obtain ⟨hx, hb, hml, hown, hts, hnm, hK, hn0, hE, hfr, hlo, -⟩ := id C
  replace hz : zlld (pc + 1) ls st M = _ := hz
  unfold zlld at hz
  split at hz
  · next i o r =>
    split at hz
    · next nn hS0 =>
      unfold zn at hz; cases hz
      split at hpc
      · exact absurd rfl hpc
      · next hy =>
        rw [if_neg hy] at K
        intro H locs lsM hW hS hl
        exact va_lald (n := nn) (f := M.2.2 o) hx hb hK hW.2 o 1 (zwd_get hS0) rfl hy hdec (K H locs lsM hW hS hl)
    · cases hz
  · cases hz
theorem zs_baload (C : zCx D kA n0 q X m0 p R s m args meth c) (hdec : decode (zb m0) pc = .ok (.baload, 1)) (hz : zx X m0 pc ls st M 1 (.baload) = some (.inl (pc', ls', st', M'))) (hpc : pc' ≠ 65535) (h0 : len0 ≤ M.1.length ∧ sz0 ≤ zsize M.1) (hR : M'.1.length - len0 ≤ R.cells ∧ zsize M'.1 - sz0 ≤ R.slots) (K : zWs D kA n0 q m0 p l e R s m args below meth c Q len0 sz0 pc' ls' st' M') : zWs D kA n0 q m0 p l e R s m args below meth c Q len0 sz0 pc ls st M := by
  obtain ⟨hx, hb, hml, hown, hts, hnm, hK, hn0, hE, hfr, hlo, -⟩ := id C
  replace hz : zbld (pc + 1) ls st M = _ := hz
  unfold zbld at hz
  split at hz
  · next i o r =>
    split at hz
    · next nn hS0 =>
      unfold zn at hz; cases hz
      split at hpc
      · exact absurd rfl hpc
      · next hy =>
        rw [if_neg hy] at K
        intro H locs lsM hW hS hl
        exact va_bald (n := nn) (f := M.2.1 o) hx hb hK hW.2 o 2 (zwd_get hS0) rfl hy hdec (K H locs lsM hW hS hl)
    · next nn hS0 =>
      unfold zn at hz; cases hz
      split at hpc
      · exact absurd rfl hpc
      · next hy =>
        rw [if_neg hy] at K
        intro H locs lsM hW hS hl
        exact va_zald (n := nn) (f := M.2.1 o) hx hb hK hW.2 o 3 (zwd_get hS0) rfl hy hdec (K H locs lsM hW hS hl)
    · cases hz
  · cases hz
theorem zs_iastore (C : zCx D kA n0 q X m0 p R s m args meth c) (hdec : decode (zb m0) pc = .ok (.iastore, 1)) (hz : zx X m0 pc ls st M 1 (.iastore) = some (.inl (pc', ls', st', M'))) (hpc : pc' ≠ 65535) (h0 : len0 ≤ M.1.length ∧ sz0 ≤ zsize M.1) (hR : M'.1.length - len0 ≤ R.cells ∧ zsize M'.1 - sz0 ≤ R.slots) (K : zWs D kA n0 q m0 p l e R s m args below meth c Q len0 sz0 pc' ls' st' M') : zWs D kA n0 q m0 p l e R s m args below meth c Q len0 sz0 pc ls st M := by
  obtain ⟨hx, hb, hml, hown, hts, hnm, hK, hn0, hE, hfr, hlo, -⟩ := id C
  replace hz : zias (pc + 1) ls st M = _ := hz
  unfold zias at hz
  split at hz
  · next x i o r =>
    split at hz
    · next nn hS0 =>
      unfold zn at hz; cases hz
      split at hpc
      · exact absurd rfl hpc
      · next hy =>
        rw [if_neg hy] at K
        intro H locs lsM hW hS hl
        refine zr_iast hx hb hK hW.2 (zwd_D kA n0 q M) hS o 0 (zwd_get hS0) rfl hy hdec (fun H1 locs1 z hP1 hS1 => ?_)
        refine K H1 locs1 lsM ⟨z.trans hW.1, ?_⟩ hS1 hl
        rw [zwd_set (M := M) (M' := (M.1, va_up M.2.1 o (upd (M.2.1 o) i.toNatClampNeg x), M.2.2)) (a := o) (s' := .inl (0, nn)) rfl hS0 (fun _ _ => rfl) (fun j hj => va_up_ne _ _ hj) (fun _ _ => rfl)]
        simp only [zce, va_up_self]
        exact hP1
    · cases hz
  · cases hz
theorem zs_lastore (C : zCx D kA n0 q X m0 p R s m args meth c) (hdec : decode (zb m0) pc = .ok (.lastore, 1)) (hz : zx X m0 pc ls st M 1 (.lastore) = some (.inl (pc', ls', st', M'))) (hpc : pc' ≠ 65535) (h0 : len0 ≤ M.1.length ∧ sz0 ≤ zsize M.1) (hR : M'.1.length - len0 ≤ R.cells ∧ zsize M'.1 - sz0 ≤ R.slots) (K : zWs D kA n0 q m0 p l e R s m args below meth c Q len0 sz0 pc' ls' st' M') : zWs D kA n0 q m0 p l e R s m args below meth c Q len0 sz0 pc ls st M := by
  obtain ⟨hx, hb, hml, hown, hts, hnm, hK, hn0, hE, hfr, hlo, -⟩ := id C
  replace hz : zlas (pc + 1) ls st M = _ := hz
  unfold zlas at hz
  split at hz
  · next x i o r =>
    split at hz
    · next nn hS0 =>
      unfold zn at hz; cases hz
      split at hpc
      · exact absurd rfl hpc
      · next hy =>
        rw [if_neg hy] at K
        intro H locs lsM hW hS hl
        refine zr_last hx hb hK hW.2 (zwd_D kA n0 q M) hS o 1 (zwd_get hS0) rfl hy hdec (fun H1 locs1 z hP1 hS1 => ?_)
        refine K H1 locs1 lsM ⟨z.trans hW.1, ?_⟩ hS1 hl
        rw [zwd_set (M := M) (M' := (M.1, M.2.1, va_up M.2.2 o (vp_updL (M.2.2 o) i.toNatClampNeg x))) (a := o) (s' := .inl (1, nn)) rfl hS0 (fun _ _ => rfl) (fun _ _ => rfl) (fun j hj => va_up_ne _ _ hj)]
        simp only [zce, va_up_self]
        exact hP1
    · cases hz
  · cases hz
theorem zs_bastore (C : zCx D kA n0 q X m0 p R s m args meth c) (hdec : decode (zb m0) pc = .ok (.bastore, 1)) (hz : zx X m0 pc ls st M 1 (.bastore) = some (.inl (pc', ls', st', M'))) (hpc : pc' ≠ 65535) (h0 : len0 ≤ M.1.length ∧ sz0 ≤ zsize M.1) (hR : M'.1.length - len0 ≤ R.cells ∧ zsize M'.1 - sz0 ≤ R.slots) (K : zWs D kA n0 q m0 p l e R s m args below meth c Q len0 sz0 pc' ls' st' M') : zWs D kA n0 q m0 p l e R s m args below meth c Q len0 sz0 pc ls st M := by
  obtain ⟨hx, hb, hml, hown, hts, hnm, hK, hn0, hE, hfr, hlo, -⟩ := id C
  replace hz : zbas (pc + 1) ls st M = _ := hz
  unfold zbas at hz
  split at hz
  · next x i o r =>
    split at hz
    · next nn hS0 =>
      unfold zn at hz; cases hz
      split at hpc
      · exact absurd rfl hpc
      · next hy =>
        rw [if_neg hy] at K
        intro H locs lsM hW hS hl
        refine zr_bast hx hb hK hW.2 (zwd_D kA n0 q M) hS o 2 (zwd_get hS0) rfl hy hdec (fun H1 locs1 z hP1 hS1 => ?_)
        refine K H1 locs1 lsM ⟨z.trans hW.1, ?_⟩ hS1 hl
        rw [zwd_set (M := M) (M' := (M.1, va_up M.2.1 o (upd (M.2.1 o) i.toNatClampNeg (vp_nar .byte x)), M.2.2)) (a := o) (s' := .inl (2, nn)) rfl hS0 (fun _ _ => rfl) (fun j hj => va_up_ne _ _ hj) (fun _ _ => rfl)]
        simp only [zce, va_up_self]
        exact hP1
    · next nn hS0 =>
      unfold zn at hz; cases hz
      split at hpc
      · exact absurd rfl hpc
      · next hy =>
        rw [if_neg hy] at K
        intro H locs lsM hW hS hl
        refine zr_zast hx hb hK hW.2 (zwd_D kA n0 q M) hS o 3 (zwd_get hS0) rfl hy hdec (fun H1 locs1 z hP1 hS1 => ?_)
        refine K H1 locs1 lsM ⟨z.trans hW.1, ?_⟩ hS1 hl
        rw [zwd_set (M := M) (M' := (M.1, va_up M.2.1 o (upd (M.2.1 o) i.toNatClampNeg (vp_nar .boolean x)), M.2.2)) (a := o) (s' := .inl (3, nn)) rfl hS0 (fun _ _ => rfl) (fun j hj => va_up_ne _ _ hj) (fun _ _ => rfl)]
        simp only [zce, va_up_self]
        exact hP1
    · cases hz
  · cases hz
theorem zs_arraylength (C : zCx D kA n0 q X m0 p R s m args meth c) (hdec : decode (zb m0) pc = .ok (.arraylength, 1)) (hz : zx X m0 pc ls st M 1 (.arraylength) = some (.inl (pc', ls', st', M'))) (hpc : pc' ≠ 65535) (h0 : len0 ≤ M.1.length ∧ sz0 ≤ zsize M.1) (hR : M'.1.length - len0 ≤ R.cells ∧ zsize M'.1 - sz0 ≤ R.slots) (K : zWs D kA n0 q m0 p l e R s m args below meth c Q len0 sz0 pc' ls' st' M') : zWs D kA n0 q m0 p l e R s m args below meth c Q len0 sz0 pc ls st M := by
  obtain ⟨hx, hb, hml, hown, hts, hnm, hK, hn0, hE, hfr, hlo, -⟩ := id C
  replace hz : zlen X (pc + 1) ls st M = _ := hz
  unfold zlen at hz
  split at hz
  · next r =>
    unfold zn at hz; cases hz
    intro H locs lsM hW hS hl
    exact va_slen (A := zA n0) hx hb hE.1 (Nat.lt_of_lt_of_le hE.2.1 hn0) (Nat.not_le.mpr hE.2.1) hS hdec (K H locs lsM hW hS hl)
  · cases hz
theorem zsize_push (S : List zS) (x : zS) : zsize (S ++ [x]) = zsize S + zsz x := by simp [zsize]
theorem zs_newP {x : zS} {H H1 : Heap} {locs : List Loc} (hW : zW D kA n0 q M H) (hS : va_S (zA n0) s.heap H locs) (hc : va_at D vwCl (n0 + M.1.length, zce kA n0 q (va_up M.2.1 M.1.length (fun _ => 0)) (va_up M.2.2 M.1.length (fun _ => 0)) M.1.length x) H1) (hz : H1.size = H.size + 1) (ho : ∀ a, a < H.size → H1[a]? = H[a]?) : zW D kA n0 q (M.1 ++ [x], va_up M.2.1 M.1.length (fun _ => 0), va_up M.2.2 M.1.length (fun _ => 0)) H1 ∧ va_S (zA n0) s.heap H1 locs := by
  refine ⟨⟨by rw [hz, hW.1]; simp; omega, ?_⟩, ⟨Nat.le_trans hS.1 (by omega), fun a h1 h2 => (ho a (Nat.lt_of_lt_of_le h1 hS.1)).trans (hS.2.1 a h1 h2), hS.2.2⟩⟩
  rw [zwd_push (fun i hi => va_up_ne _ _ (Nat.ne_of_lt hi)) (fun i hi => va_up_ne _ _ (Nat.ne_of_lt hi))]
  refine va_P.app (hW.2.kept fun k x hk => ho x.1 ((hW.2 k x hk).lt)) (fun k x hk => ?_)
  have hz : k < 1 := (List.getElem?_eq_some_iff.mp hk).1
  rw [show k = 0 by omega] at hk
  cases hk
  exact hc
theorem zs_new (C : zCx D kA n0 q X m0 p R s m args meth c) {a : Nat} (hdec : decode (zb m0) pc = .ok (.new a, 3)) (hio : zio m0 (.new a) = true) (hz : zx X m0 pc ls st M 3 (.new a) = some (.inl (pc', ls', st', M'))) (hpc : pc' ≠ 65535) (h0 : len0 ≤ M.1.length ∧ sz0 ≤ zsize M.1) (hR : M'.1.length - len0 ≤ R.cells ∧ zsize M'.1 - sz0 ≤ R.slots) (K : zWs D kA n0 q m0 p l e R s m args below meth c Q len0 sz0 pc' ls' st' M') : zWs D kA n0 q m0 p l e R s m args below meth c Q len0 sz0 pc ls st M := by
  obtain ⟨hx, hb, hml, hown, hts, hnm, hK, hn0, hE, hfr, hlo, -⟩ := id C
  replace hz : znew (zow m0) a (pc + 3) ls st M = _ := hz
  unfold znew at hz
  split at hz
  · next ci pl hlk =>
    split at hz
    · next fs hfs =>
      unfold zadd zn at hz; cases hz
      have hw := zlk_all (t := zlkCT) zC_all hlk
      simp only [zCc, decide_eq_true_eq] at hw
      obtain ⟨T, N, hC⟩ := zdf_cl hfs
      obtain ⟨hty, hnm2, hins, hini, hdf⟩ := zcls_ok hC
      obtain ⟨hlN, hkN⟩ := hdf fs hfs
      intro H locs lsM hW hS hl
      have hKn := hK.1 ci _ (zcl_at hC)
      simp only [List.length_append, List.length_cons, List.length_nil, zsize_push, zsz] at hR K
      have e1 : M.1.length - len0 + 1 = M.1.length + (0 + 1) - len0 := by omega
      have e2 : zsize M.1 - sz0 + N = zsize M.1 + fs.length - sz0 := by rw [hlN]; omega
      refine W.newcK (n := N) hx hb hown (hts _ (zg (List.mem_of_getElem? hw) rfl)) (hts _ (zg hins rfl)) (hts _ (zg hini rfl)) rfl hdec (by rw [e1]; exact hR.1) (by rw [e2]; exact hR.2) hKn.2.1 rfl fun H1 kC hkC h1 h2 h3 => ?_
      rw [hW.1] at h1
      have hfsV : ∀ j, j < N → defaultValue (zty T j) = vp_V (zfs n0 q (va_up M.2.1 M.1.length (fun _ => 0)) (va_up M.2.2 M.1.length (fun _ => 0)) M.1.length fs) j := by
        intro j hj
        obtain ⟨kd, hkd, hok⟩ := hkN j hj
        have hkd' : fs[j]? = some kd := by rw [← zgt_eq]; exact hkd
        have e3 : vp_V (zfs n0 q (va_up M.2.1 M.1.length (fun _ => 0)) (va_up M.2.2 M.1.length (fun _ => 0)) M.1.length fs) j = zren n0 q (zval (va_up M.2.1 M.1.length (fun _ => 0)) (va_up M.2.2 M.1.length (fun _ => 0)) M.1.length j kd) := by
          simp [vp_V, zfs, List.getD_eq_getElem?_getD, List.getElem?_mapIdx, hkd']
        rw [e3]
        exact ztok_def hok
      obtain ⟨g1, g2⟩ := zs_newP (x := .inr (ci, fs)) hW hS ⟨_, zcl_at hC, (u_born (zty T) hts (zin_ok hC) hKn hkC h1 hty).to hfsV⟩ h2 h3
      have K2 := K H1 locs lsM g1 g2 hl
      simp only [List.length_append, List.length_cons, List.length_nil, zsize_push, zsz] at K2
      rw [e1, e2, hW.1]
      exact K2
    · cases hz
  · cases hz
theorem zs_newarray (C : zCx D kA n0 q X m0 p R s m args meth c) {a : ArrayType} (hdec : decode (zb m0) pc = .ok (.newarray a, 2)) (hz : zx X m0 pc ls st M 2 (.newarray a) = some (.inl (pc', ls', st', M'))) (hpc : pc' ≠ 65535) (h0 : len0 ≤ M.1.length ∧ sz0 ≤ zsize M.1) (hR : M'.1.length - len0 ≤ R.cells ∧ zsize M'.1 - sz0 ≤ R.slots) (K : zWs D kA n0 q m0 p l e R s m args below meth c Q len0 sz0 pc' ls' st' M') : zWs D kA n0 q m0 p l e R s m args below meth c Q len0 sz0 pc ls st M := by
  obtain ⟨hx, hb, hml, hown, hts, hnm, hK, hn0, hE, hfr, hlo, -⟩ := id C
  have key : ∀ (t : Nat) (ty : FieldType), newarray.typeOf a = ty → (ztys kA)[t]? = some (kA t, ty) → Cond.arrayClass ty ∈ lw_tbl → (∀ n : Nat, n ≤ 100000 → n * componentBytes ty ≤ 536870912) → (∀ (nn : Nat) (I : zI) (L : zL) (i : Nat), I i = (fun _ => 0) → L i = (fun _ => 0) → ∃ x : vp_A, zce kA n0 q I L i (.inl (t, nn)) = .inl (kA t, x) ∧ vp_cell (kA t) x = arrV (kA t) nn (fun _ => defaultValue ty)) → znat t (pc + 2) ls st M = some (.inl (pc', ls', st', M')) → zWs D kA n0 q m0 p l e R s m args below meth c Q len0 sz0 pc ls st M := by
    clear hz
    intro t ty hty htt hwd hby hcell hz
    subst hty
    unfold znat at hz
    split at hz
    · next kk r =>
      unfold zadd zn at hz; cases hz
      split at hpc
      · exact absurd rfl hpc
      · next hy =>
        rw [if_neg hy] at K
        simp only [not_or, Nat.not_lt] at hy
        intro H locs lsM hW hS hl
        simp only [List.length_append, List.length_cons, List.length_nil, zsize_push, zsz] at hR K
        have e1 : M.1.length - len0 + 1 = M.1.length + (0 + 1) - len0 := by omega
        have e2 : zsize M.1 - sz0 + kk.toNatClampNeg = zsize M.1 + kk.toNatClampNeg - sz0 := by omega
        refine va_newaK hx hb (hts _ (zg hwd rfl)) rfl hdec rfl hy.1 rfl (hby _ hy.2) (by rw [e1]; exact hR.1) (by rw [e2]; exact hR.2) rfl fun H1 cA h1 h2 h3 h4 h5 => ?_
        have hcA : cA = kA t := by
          have h6 := (hK.2 t _ htt).2
          rw [show va_RA s (kA t) (newarray.typeOf a) = (s.vm.findClass ("[" ++ (newarray.typeOf a).toString) = some (kA t)) by cases a <;> rfl] at h6
          exact Option.some.inj (h5.symm.trans h6)
        subst hcA
        rw [hW.1] at h1
        obtain ⟨xx, hx1, hx2⟩ := hcell kk.toNatClampNeg (va_up M.2.1 M.1.length (fun _ => 0)) (va_up M.2.2 M.1.length (fun _ => 0)) M.1.length (va_up_self _ _ _) (va_up_self _ _ _)
        obtain ⟨g1, g2⟩ := zs_newP (x := .inl (t, kk.toNatClampNeg)) hW hS (by rw [hx1]; show H1[_]? = some (vp_cell _ _); rw [hx2]; exact h1) h2 h3
        have K2 := K H1 locs lsM g1 g2 hl
        simp only [List.length_append, List.length_cons, List.length_nil, zsize_push, zsz] at K2
        rw [e1, e2, hW.1]
        exact K2
    · cases hz
  cases a with
  | int => exact key 0 .int rfl rfl (by decide +kernel) (fun n hn => by show n * 4 ≤ _; omega) (fun nn I L i hI hL => ⟨_, rfl, by rw [vp_cell_i, hI]; rfl⟩) hz
  | long => exact key 1 .long rfl rfl (by decide +kernel) (fun n hn => by show n * 8 ≤ _; omega) (fun nn I L i hI hL => ⟨_, rfl, by rw [vp_cell_l, hL]; rfl⟩) hz
  | byte => exact key 2 .byte rfl rfl (by decide +kernel) (fun n hn => by show n * 1 ≤ _; omega) (fun nn I L i hI hL => ⟨_, rfl, by rw [vp_cell_i, hI]; rfl⟩) hz
  | boolean => exact key 3 .boolean rfl rfl (by decide +kernel) (fun n hn => by show n * 1 ≤ _; omega) (fun nn I L i hI hL => ⟨_, rfl, by rw [vp_cell_i, hI]; rfl⟩) hz
  | _ => cases hz
theorem zs_putfield (C : zCx D kA n0 q X m0 p R s m args meth c) {a : Nat} (hdec : decode (zb m0) pc = .ok (.putfield a, 3)) (hio : zio m0 (.putfield a) = true) (hz : zx X m0 pc ls st M 3 (.putfield a) = some (.inl (pc', ls', st', M'))) (hpc : pc' ≠ 65535) (h0 : len0 ≤ M.1.length ∧ sz0 ≤ zsize M.1) (hR : M'.1.length - len0 ≤ R.cells ∧ zsize M'.1 - sz0 ≤ R.slots) (K : zWs D kA n0 q m0 p l e R s m args below meth c Q len0 sz0 pc' ls' st' M') : zWs D kA n0 q m0 p l e R s m args below meth c Q len0 sz0 pc ls st M := by
  obtain ⟨hx, hb, hml, hown, hts, hnm, hK, hn0, hE, hfr, hlo, -⟩ := id C
  replace hz : zputf (zow m0) a (pc + 3) ls st M = _ := hz
  unfold zputf at hz
  split at hz
  · next v o r =>
    split at hz
    · next ci k pl hlk =>
      split at hz
      · next cj fs hS0 =>
        cases hb2 : Nat.beq ci cj with
        | false => rw [hb2] at hz; cases hz
        | true =>
          rw [hb2] at hz
          have hcj := Nat.eq_of_beq_eq_true hb2
          subst hcj
          dsimp only [cond_true] at hz
          split at hz
          · next kd kd0 hkd hkd0 =>
            cases hke : zke kd kd0 with
            | false => rw [hke] at hz; cases hz
            | true =>
              rw [hke] at hz
              replace hz : zput o k ci fs (pc + 3) ls r v M kd = _ := hz
              obtain ⟨C1, T, N, hC, hk, hw, hcls⟩ := zF_ok hlk
              obtain ⟨hty, hnm2, hins, hini, hdf⟩ := zcls_ok hC
              have hok : ztok kd0 (zty T k) := by
                unfold zkd at hkd0
                split at hkd0
                · next d hd =>
                  obtain ⟨kd1, h1, h2⟩ := (hdf d hd).2 k hk
                  rw [hkd0] at h1
                  cases h1
                  exact h2
                · cases hkd0
              have hfin : (T k).2.2.2 = false ∨ ((T k).2.2.2 = true ∧ meth.name = "<init>" ∧ (T k).1 = zcn (zow m0)) := by
                unfold zio at hio
                dsimp only at hio
                rw [hlk] at hio
                dsimp only at hio
                rw [hC] at hio
                dsimp only at hio
                cases hff : (T k).2.2.2 with
                | false => exact Or.inl rfl
                | true =>
                  rw [hff] at hio
                  simp only [Bool.not_true, Bool.false_or, Bool.and_eq_true, decide_eq_true_eq] at hio
                  refine Or.inr ⟨rfl, hnm hio.1, ?_⟩
                  rw [← hcls, ← Nat.eq_of_beq_eq_true hio.2]
                  exact (zcn_cl hC).symm
              have hlt : k < (zfs n0 q M.2.1 M.2.2 o fs).length := by rw [zfs, List.length_mapIdx]; exact zgt_lt hkd
              have row : ∀ (w : Value) (M2 : zM), zren n0 q v = w → narrow (zty T k) w = w → fits (zty T k) w = true → M2.1.length = M.1.length → zsize M2.1 = zsize M.1 → (∀ H1 : Heap, va_P D vwCl ((zwd kA n0 q M).set o (n0 + o, .inr (ci, (zfs n0 q M.2.1 M.2.2 o fs).set k w))) H1 → va_P D vwCl (zwd kA n0 q M2) H1) → (zWs D kA n0 q m0 p l e R s m args below meth c Q len0 sz0 (pc + 3) ls r M2) → zWs D kA n0 q m0 p l e R s m args below meth c Q len0 sz0 pc ls (v :: .ref o :: r) M := by
                intro w M2 hv hn hfit hl2 hs2 hp2 K2 H locs lsM hW hS hl
                show W _ _ _ _ _ _ _ _ _ _ _ _ _ _ _ (F0 m pc lsM (zren n0 q v :: .ref (n0 + o) :: r.map (zren n0 q)))
                rw [hv]
                refine zr_put hx hb hts (zin_ok hC) (zty T) hty hnm2 hown hK hW.2 (zwd_D kA n0 q M) hS o (zwd_get hS0) (zcl_at hC) k hk (by rw [← hcls]; exact hts _ (zg hw rfl)) hfin hn hfit hlt hdec (fun H1 locs1 z hP1 hS1 => ?_)
                have K3 := K2 H1 locs1 lsM ⟨by rw [z, hW.1, hl2], hp2 H1 hP1⟩ hS1 hl
                rw [hl2, hs2] at K3
                exact K3
              have setI : ∀ x : Int32, (kd = .inl 0 ∨ kd = .inl 2) → zwd kA n0 q (M.1, va_up M.2.1 o (upd (M.2.1 o) k x), M.2.2) = (zwd kA n0 q M).set o (n0 + o, .inr (ci, (zfs n0 q M.2.1 M.2.2 o fs).set k (.int x))) := by
                intro x hkd1
                rw [zwd_set (M := M) (M' := (M.1, va_up M.2.1 o (upd (M.2.1 o) k x), M.2.2)) (a := o) (s' := .inr (ci, fs)) rfl hS0 (fun _ _ => rfl) (fun j hj => va_up_ne _ _ hj) (fun _ _ => rfl)]
                congr 3
                simp only [zce]
                congr 2
                refine zfs_set hkd ?_ (fun j kj hj => ?_)
                · rcases hkd1 with rfl | rfl <;> simp [zval, zren, va_up, upd]
                · cases kj with
                  | inl t => unfold zval; split <;> simp_all [va_up, upd]
                  | inr rr => unfold zval; split <;> simp_all
              have setL : ∀ x : Int64, kd = .inl 1 → zwd kA n0 q (M.1, M.2.1, va_up M.2.2 o (vp_updL (M.2.2 o) k x)) = (zwd kA n0 q M).set o (n0 + o, .inr (ci, (zfs n0 q M.2.1 M.2.2 o fs).set k (.long x))) := by
                intro x hkd1
                rw [zwd_set (M := M) (M' := (M.1, M.2.1, va_up M.2.2 o (vp_updL (M.2.2 o) k x))) (a := o) (s' := .inr (ci, fs)) rfl hS0 (fun _ _ => rfl) (fun _ _ => rfl) (fun j hj => va_up_ne _ _ hj)]
                congr 3
                simp only [zce]
                congr 2
                refine zfs_set hkd ?_ (fun j kj hj => ?_)
                · subst hkd1; simp [zval, zren, va_up, vp_updL]
                · cases kj with
                  | inl t => unfold zval; split <;> simp_all [va_up, vp_updL]
                  | inr rr => unfold zval; split <;> simp_all
              have setR : ∀ rr : Option Nat, zwd kA n0 q (M.1.set o (.inr (ci, fs.set k (.inr rr))), M.2) = (zwd kA n0 q M).set o (n0 + o, .inr (ci, (zfs n0 q M.2.1 M.2.2 o fs).set k (zren n0 q (zval M.2.1 M.2.2 o k (.inr rr))))) := by
                intro rr
                rw [zwd_set (M := M) (M' := (M.1.set o (.inr (ci, fs.set k (.inr rr))), M.2)) (a := o) (s' := .inr (ci, fs.set k (.inr rr))) (by simp) (zgt_set_self _ (zgt_lt hS0)) (fun j hj => zgt_set_ne _ hj) (fun _ _ => rfl) (fun _ _ => rfl)]
                congr 3
                simp only [zce]
                congr 2
                apply List.ext_getElem?
                intro j
                by_cases hj : j = k
                · subst hj
                  have e5 : (zfs n0 q M.2.1 M.2.2 o (fs.set j (.inr rr)))[j]? = some (zren n0 q (zval M.2.1 M.2.2 o j (.inr rr))) := by
                    rw [zfs, List.getElem?_mapIdx, List.getElem?_set_self (zgt_lt hkd)]; rfl
                  exact e5.trans (List.getElem?_set_self hlt).symm
                · rw [List.getElem?_set_ne (Ne.symm hj)]
                  simp [zfs, List.getElem?_mapIdx, List.getElem?_set_ne (Ne.symm hj)]
              have hsz : ∀ rr : Option Nat, zsize (M.1.set o (.inr (ci, fs.set k (.inr rr)))) = zsize M.1 := fun rr => zsize_set hS0 (by simp [zsz])
              unfold zput at hz
              split at hz
              · split at hz
                · next x =>
                  unfold zn at hz; cases hz
                  have ht := ztok_0 hke hok
                  exact row (.int x) (M.1, va_up M.2.1 o (upd (M.2.1 o) k x), M.2.2) rfl (by rw [ht]; rfl) (by rw [ht]; rfl) rfl rfl (fun H1 h => by rw [setI x (Or.inl rfl)]; exact h) K
                · cases hz
              · split at hz
                · next x =>
                  unfold zn at hz; cases hz
                  have ht := ztok_1 hke hok
                  exact row (.long x) (M.1, M.2.1, va_up M.2.2 o (vp_updL (M.2.2 o) k x)) rfl (by rw [ht]; rfl) (by rw [ht]; rfl) rfl rfl (fun H1 h => by rw [setL x rfl]; exact h) K
                · cases hz
              · next t ht0 ht1 =>
                split at hz
                · next x =>
                  unfold zn at hz; cases hz
                  split at hpc
                  · next hy =>
                    rw [if_pos hy] at K
                    obtain ⟨h2, ht⟩ := ztok_2 (fun h => ht0 h) (fun h => ht1 h) hke hok
                    exact row (.int x) (M.1, va_up M.2.1 o (upd (M.2.1 o) k x), M.2.2) rfl (by rw [ht]; rcases hy with rfl | rfl <;> rfl) (by rw [ht]; rcases hy with rfl | rfl <;> rfl) rfl rfl (fun H1 h => by rw [setI x (Or.inr (by rw [h2]))]; exact h) K
                  · exact absurd rfl hpc
                · cases hz
              · next rr0 =>
                have ht := ztok_r hke hok
                split at hz
                · next qq =>
                  unfold zn at hz; cases hz
                  exact row (.ref (n0 + qq)) (M.1.set o (.inr (ci, fs.set k (.inr (some qq)))), M.2) rfl (by rcases ht with ⟨nn, ht⟩ | ⟨nn, ht⟩ <;> rw [ht] <;> rfl) (by rcases ht with ⟨nn, ht⟩ | ⟨nn, ht⟩ <;> rw [ht] <;> rfl) (by simp) (hsz _) (fun H1 h => by rw [setR (some qq)]; exact h) K
                · unfold zn at hz; cases hz
                  exact row .null (M.1.set o (.inr (ci, fs.set k (.inr none))), M.2) rfl (by rcases ht with ⟨nn, ht⟩ | ⟨nn, ht⟩ <;> rw [ht] <;> rfl) (by rcases ht with ⟨nn, ht⟩ | ⟨nn, ht⟩ <;> rw [ht] <;> rfl) (by simp) (hsz _) (fun H1 h => by rw [setR none]; exact h) K
                · cases hz
          · cases hz
      · cases hz
    · cases hz
  · cases hz
theorem zcall_inl {mm : zMt} {idx kind pc1 : Nat} {l1 s1 : List Value} {M1 : zM} {y : Nat × List Value × List Value × zM} (h : zcall mm idx kind pc1 l1 s1 M1 = some (.inl y)) : False := by
  unfold zcall at h
  split at h
  · next kd na mj _ =>
    cases h1 : (Nat.beq kd kind && Nat.blt (zlv mj) (zlv mm)) with
    | false => rw [h1] at h; cases h
    | true =>
      rw [h1] at h
      dsimp only [cond_true] at h
      split at h
      · next as rest _ =>
        cases h2 : (Nat.ble (zcat rest) 8 && Nat.ble (zsp as).length (zmx mj)) with
        | false => rw [h2] at h; cases h
        | true =>
          rw [h2] at h
          dsimp only [cond_true] at h
          split at h
          · split at h
            · next c _ =>
              cases h3 : Nat.beq c (zow mj) with
              | false => rw [h3] at h; cases h
              | true => rw [h3] at h; cases h
            · cases h
          · cases h
          · cases h
          · cases h
          · cases h
      · cases h
  · cases h
theorem zs_invokevirtual (C : zCx D kA n0 q X m0 p R s m args meth c) {a : Nat} (hdec : decode (zb m0) pc = .ok (.invokevirtual a, 3)) (hio : zio m0 (.invokevirtual a) = true) (hz : zx X m0 pc ls st M 3 (.invokevirtual a) = some (.inl (pc', ls', st', M'))) (hpc : pc' ≠ 65535) (h0 : len0 ≤ M.1.length ∧ sz0 ≤ zsize M.1) (hR : M'.1.length - len0 ≤ R.cells ∧ zsize M'.1 - sz0 ≤ R.slots) (K : zWs D kA n0 q m0 p l e R s m args below meth c Q len0 sz0 pc' ls' st' M') : zWs D kA n0 q m0 p l e R s m args below meth c Q len0 sz0 pc ls st M := by
  obtain ⟨hx, hb, hml, hown, hts, hnm, hK, hn0, hE, hfr, hlo, -⟩ := id C
  replace hz : zinv m0 a 0 (pc + 3) ls st M = _ := hz
  unfold zinv at hz
  split at hz
  · next qq pl hlk =>
    have hw := zlk_all (t := zlkPT) zP_all hlk
    simp only [zPc, decide_eq_true_eq] at hw
    have hlink := List.mem_of_getElem? hw
    unfold zpc at hz
    split at hz
    · next h9 => cases h9
    · next h9 => cases h9
    · next h9 => cases h9
    · next h9 => cases h9
    · cases hg : Nat.ble 4 (zlv m0) with
      | false => rw [hg] at hz; cases hz
      | true =>
        rw [hg] at hz
        have hlv := Nat.le_of_ble_eq_true hg
        replace hz : zp4 (pc + 3) ls st M = _ := hz
        unfold zp4 at hz
        split at hz
        · next k r =>
          cases h1 : (Nat.blt k 2 && Nat.ble (zcat r) 8) with
          | false => rw [h1] at hz; cases hz
          | true =>
            rw [h1] at hz
            replace hz : zn _ _ _ _ = _ := hz
            unfold zn at hz; cases hz
            simp only [Bool.and_eq_true] at h1
            exact zs_strlen C hdec hlink (Nat.le_of_ble_eq_true h1.1) (Nat.le_of_ble_eq_true h1.2) hlv hR K
        · cases hz
    · cases hg : Nat.ble 4 (zlv m0) with
      | false => rw [hg] at hz; cases hz
      | true =>
        rw [hg] at hz
        have hlv := Nat.le_of_ble_eq_true hg
        replace hz : zp5 (pc + 3) ls st M = _ := hz
        unfold zp5 at hz
        split at hz
        · next i k r =>
          cases h1 : (Nat.blt k 2 && Nat.ble (zcat r) 8) with
          | false => rw [h1] at hz; cases hz
          | true =>
            rw [h1] at hz
            replace hz : zn _ _ _ _ = _ := hz
            unfold zn at hz; cases hz
            simp only [Bool.and_eq_true] at h1
            split at hpc
            · exact absurd rfl hpc
            · next hy =>
              rw [if_neg hy] at K
              exact zs_charAt C hdec hlink (Nat.le_of_ble_eq_true h1.1) (Nat.le_of_ble_eq_true h1.2) hlv hy hR K
        · cases hz
    · cases hz
  · exact (zcall_inl hz).elim
theorem zfits_i (z : Int32) : fits .int (.int z) = true := rfl
theorem zfits_l (z : Int64) : fits .long (.long z) = true := rfl
theorem zs_invokestatic (C : zCx D kA n0 q X m0 p R s m args meth c) {a : Nat} (hdec : decode (zb m0) pc = .ok (.invokestatic a, 3)) (hio : zio m0 (.invokestatic a) = true) (hz : zx X m0 pc ls st M 3 (.invokestatic a) = some (.inl (pc', ls', st', M'))) (hpc : pc' ≠ 65535) (h0 : len0 ≤ M.1.length ∧ sz0 ≤ zsize M.1) (hR : M'.1.length - len0 ≤ R.cells ∧ zsize M'.1 - sz0 ≤ R.slots) (K : zWs D kA n0 q m0 p l e R s m args below meth c Q len0 sz0 pc' ls' st' M') : zWs D kA n0 q m0 p l e R s m args below meth c Q len0 sz0 pc ls st M := by
  obtain ⟨hx, hb, hml, hown, hts, hnm, hK, hn0, hE, hfr, hlo, -⟩ := id C
  replace hz : zinv m0 a 1 (pc + 3) ls st M = _ := hz
  unfold zinv at hz
  split at hz
  · next qq pl hlk =>
    have hw := zlk_all (t := zlkPT) zP_all hlk
    simp only [zPc, decide_eq_true_eq] at hw
    have hlink := List.mem_of_getElem? hw
    unfold zpc at hz
    split at hz
    · next h9 => cases h9
    · replace hz : zp1 (pc + 3) ls st M = _ := hz
      unfold zp1 at hz
      split at hz
      · next nn dp d sp o r =>
        cases h1 : Nat.ble (zcat r) 8 with
        | false => rw [h1] at hz; cases hz
        | true =>
          rw [h1] at hz
          have hr := Nat.le_of_ble_eq_true h1
          dsimp only [cond_true] at hz
          split at hz
          · next la ld hSa hSd =>
            unfold zn at hz; cases hz
            split at hpc
            · exact absurd rfl hpc
            · next hy =>
              rw [if_neg hy] at K
              simp only [not_or, Nat.not_lt] at hy
              obtain ⟨y1, y2, y3, y4, y5⟩ := hy
              intro H locs lsM hW hS hl
              refine zr_copy (D := D) (cl := vwCl) (ws := zwd kA n0 q M) (A := zA n0) (H0 := s.heap) Value.int hx hb (hml.trans hl.2.1.symm) hown (hts _ (zg hlink rfl)) (hts _ (zg zw_nat rfl)) (hts _ (zg zw_stat rfl)) (hts _ (zg zw_ini rfl)) hW.2 (zwd_D kA n0 q M) hS o d (c0 := kA 0) (c1 := kA 0) (n0 := la) (n1 := ld) (f := M.2.1 o) (g := M.2.1 d) (ty := .int) (e2 := .inl (kA 0, ld, .inl (va_cpy (M.2.1 o) (M.2.1 d) sp.toNatClampNeg dp.toNatClampNeg nn.toNatClampNeg))) (zwd_get hSa) (zwd_get hSd) (fun h => h) (fun h => h) (hK.2 0 _ rfl).1 (hK.2 0 _ rfl).1 rfl (fun _ => rfl) (fun _ _ _ => trivial) y1 y2 y3 y4 y5 (fun K2 h => h) (Nat.le_trans (Nat.le_add_left 1 _) hfr) ?_ hdec (fun H1 locs1 z hP1 hS1 => ?_)
              · rw [zcat_eq]
                have e9 : nativeFrameWords "java/lang/System" "arraycopy" 5 ≤ 15 := by decide
                unfold zlo at hlo
                omega
              · refine K H1 locs1 lsM ⟨z.trans hW.1, ?_⟩ hS1 hl
                rw [zwd_set (M := M) (M' := (M.1, va_up M.2.1 d (va_cpy (M.2.1 o) (M.2.1 d) sp.toNatClampNeg dp.toNatClampNeg nn.toNatClampNeg), M.2.2)) (a := d) (s' := .inl (0, ld)) rfl hSd (fun _ _ => rfl) (fun j hj => va_up_ne _ _ hj) (fun _ _ => rfl)]
                simp only [zce, va_up_self]
                exact hP1
          · next la ld hSa hSd =>
            unfold zn at hz; cases hz
            split at hpc
            · exact absurd rfl hpc
            · next hy =>
              rw [if_neg hy] at K
              simp only [not_or, Nat.not_lt] at hy
              obtain ⟨y1, y2, y3, y4, y5⟩ := hy
              intro H locs lsM hW hS hl
              refine zr_copy (D := D) (cl := vwCl) (ws := zwd kA n0 q M) (A := zA n0) (H0 := s.heap) Value.long hx hb (hml.trans hl.2.1.symm) hown (hts _ (zg hlink rfl)) (hts _ (zg zw_nat rfl)) (hts _ (zg zw_stat rfl)) (hts _ (zg zw_ini rfl)) hW.2 (zwd_D kA n0 q M) hS o d (c0 := kA 1) (c1 := kA 1) (n0 := la) (n1 := ld) (f := M.2.2 o) (g := M.2.2 d) (ty := .long) (e2 := .inl (kA 1, ld, .inr (.inl (va_cpy (M.2.2 o) (M.2.2 d) sp.toNatClampNeg dp.toNatClampNeg nn.toNatClampNeg)))) (zwd_get hSa) (zwd_get hSd) (fun h => h) (fun h => h) (hK.2 1 _ rfl).1 (hK.2 1 _ rfl).1 rfl (fun _ => rfl) (fun _ _ _ => trivial) y1 y2 y3 y4 y5 (fun K2 h => h) (Nat.le_trans (Nat.le_add_left 1 _) hfr) ?_ hdec (fun H1 locs1 z hP1 hS1 => ?_)
              · rw [zcat_eq]
                have e9 : nativeFrameWords "java/lang/System" "arraycopy" 5 ≤ 15 := by decide
                unfold zlo at hlo
                omega
              · refine K H1 locs1 lsM ⟨z.trans hW.1, ?_⟩ hS1 hl
                rw [zwd_set (M := M) (M' := (M.1, M.2.1, va_up M.2.2 d (va_cpy (M.2.2 o) (M.2.2 d) sp.toNatClampNeg dp.toNatClampNeg nn.toNatClampNeg))) (a := d) (s' := .inl (1, ld)) rfl hSd (fun _ _ => rfl) (fun _ _ => rfl) (fun j hj => va_up_ne _ _ hj)]
                simp only [zce, va_up_self]
                exact hP1
          · cases hz
      · cases hz
    · have h_ := hz
      replace hz : zp2 (pc + 3) ls st M = _ := hz
      unfold zp2 at hz
      split at hz
      · next b r =>
        cases h1 : Nat.ble (zcat r) 8 with
        | false => rw [h1] at hz; cases hz
        | true =>
          rw [h1] at hz
          have hr := Nat.le_of_ble_eq_true h1
          replace hz : zn _ _ _ _ = _ := hz
          unfold zn at hz; cases hz
          refine zs_pure (fun H locs lsM hl k => vn_d2l hx hb (hml.trans hl.2.1.symm) hown (hts _ (zg hlink rfl)) (hts _ (zg zw_dnat rfl)) (hts _ (zg zw_dstat rfl)) (hts _ (zg zw_dini rfl)) (Nat.le_trans (Nat.le_add_left 1 _) hfr) (by rw [zcat_eq]; unfold zlo at hlo; omega) hdec k) K
      · cases hz
    · have h_ := hz
      replace hz : zp3 (pc + 3) ls st M = _ := hz
      unfold zp3 at hz
      split at hz
      · next b r =>
        cases h1 : Nat.ble (zcat r) 8 with
        | false => rw [h1] at hz; cases hz
        | true =>
          rw [h1] at hz
          have hr := Nat.le_of_ble_eq_true h1
          replace hz : zn _ _ _ _ = _ := hz
          unfold zn at hz; cases hz
          refine zs_pure (fun H locs lsM hl k => vn_f2i hx hb (hml.trans hl.2.1.symm) hown (hts _ (zg hlink rfl)) (hts _ (zg zw_fnat rfl)) (hts _ (zg zw_fstat rfl)) (hts _ (zg zw_fini rfl)) (Nat.le_trans (Nat.le_add_left 1 _) hfr) (by rw [zcat_eq]; unfold zlo at hlo; omega) hdec k) K
      · cases hz
    · next h9 => cases h9
    · next h9 => cases h9
    · cases hz
  · exact (zcall_inl hz).elim
theorem zs_invokespecial (C : zCx D kA n0 q X m0 p R s m args meth c) {a : Nat} (hdec : decode (zb m0) pc = .ok (.invokespecial a, 3)) (hio : zio m0 (.invokespecial a) = true) (hz : zx X m0 pc ls st M 3 (.invokespecial a) = some (.inl (pc', ls', st', M'))) (hpc : pc' ≠ 65535) (h0 : len0 ≤ M.1.length ∧ sz0 ≤ zsize M.1) (hR : M'.1.length - len0 ≤ R.cells ∧ zsize M'.1 - sz0 ≤ R.slots) (K : zWs D kA n0 q m0 p l e R s m args below meth c Q len0 sz0 pc' ls' st' M') : zWs D kA n0 q m0 p l e R s m args below meth c Q len0 sz0 pc ls st M := by
  obtain ⟨hx, hb, hml, hown, hts, hnm, hK, hn0, hE, hfr, hlo, -⟩ := id C
  replace hz : zspec m0 a (pc + 3) ls st M = _ := hz
  unfold zspec at hz
  split at hz
  · exact (zcall_inl hz).elim
  · unfold zinv at hz
    split at hz
    · next qq pl hlk =>
      have hw := zlk_all (t := zlkPT) zP_all hlk
      simp only [zPc, decide_eq_true_eq] at hw
      have hlink := List.mem_of_getElem? hw
      unfold zpc at hz
      split at hz
      · replace hz : zp0 (pc + 3) ls st M = _ := hz
        unfold zp0 at hz
        split at hz
        · next o r =>
          cases h1 : Nat.ble (zcat r) 8 with
          | false => rw [h1] at hz; cases hz
          | true =>
            rw [h1] at hz
            have hr := Nat.le_of_ble_eq_true h1
            replace hz : zn _ _ _ _ = _ := hz
            unfold zn at hz; cases hz
            exact zs_pure (fun H locs lsM hl k => W.objInit hx hb hown (hts _ (zg hlink rfl)) (hts _ (zg zw_oinst rfl)) (hts _ (zg zw_ocode rfl)) rfl (hl.2.1.trans hml.symm) rfl hdec (Nat.le_trans (Nat.le_add_left 1 _) hfr) (by show 2 * 0 + _ + 12 ≤ _; rw [zcat_eq]; unfold zlo at hlo; omega) k) K
        · cases hz
      · next h9 => cases h9
      · next h9 => cases h9
      · next h9 => cases h9
      · next h9 => cases h9
      · next h9 => cases h9
      · cases hz
    · exact (zcall_inl hz).elim
set_option maxHeartbeats 4000000 in
set_option maxRecDepth 100000 in
theorem zs_one (C : zCx D kA n0 q X m0 p R s m args meth c) {i : Instr} {n : Nat} (hd : zgo1 m0 (pc, i, n) = true) (hz : zx X m0 pc ls st M n i = some (.inl (pc', ls', st', M'))) (hpc : pc' ≠ 65535) (h0 : len0 ≤ M.1.length ∧ sz0 ≤ zsize M.1) (hR : M'.1.length - len0 ≤ R.cells ∧ zsize M'.1 - sz0 ≤ R.slots) (K : zWs D kA n0 q m0 p l e R s m args below meth c Q len0 sz0 pc' ls' st' M') : zWs D kA n0 q m0 p l e R s m args below meth c Q len0 sz0 pc ls st M := by
  obtain ⟨hx, hb, hml, hown, hts, hnm, hK, hn0, hE, hfr, hlo, -⟩ := id C
  simp only [zgo1, Bool.and_eq_true, decide_eq_true_eq] at hd
  obtain ⟨hdec, hlen, hio, -⟩ := hd
  cases i with
  | iconst a =>
    have hn : 1 = n := Nat.eq_of_beq_eq_true hlen
    subst hn
    have hv := of_decide_eq_true hio
    replace hz : zn (pc + 1) ls (.int (zic a) :: st) M = _ := hz
    unfold zn at hz; cases hz
    exact zs_pure (fun H locs lsM hl k => lv_iconst hx hb hdec hv k) K
  | bipush a =>
    have hn : 2 = n := Nat.eq_of_beq_eq_true hlen
    subst hn
    have hv := of_decide_eq_true hio
    replace hz : zn (pc + 2) ls (.int (zic a) :: st) M = _ := hz
    unfold zn at hz; cases hz
    exact zs_pure (fun H locs lsM hl k => lv_bipush hx hb hdec hv k) K
  | sipush a =>
    have hn : 3 = n := Nat.eq_of_beq_eq_true hlen
    subst hn
    have hv := of_decide_eq_true hio
    replace hz : zn (pc + 3) ls (.int (zic a) :: st) M = _ := hz
    unfold zn at hz; cases hz
    exact zs_pure (fun H locs lsM hl k => lv_sipush hx hb hdec hv k) K
  | lconst a =>
    have hn : 1 = n := Nat.eq_of_beq_eq_true hlen
    subst hn
    replace hz : zn (pc + 1) ls (.long (Int64.ofNat (a : Nat)) :: st) M = _ := hz
    unfold zn at hz; cases hz
    exact zs_pure (fun H locs lsM hl k => lv_lconst hx hb hdec rfl k) K
  | dconst a =>
    have hn : 1 = n := Nat.eq_of_beq_eq_true hlen
    subst hn
    match a, hz, hdec with
    | 0, hz, hdec =>
      replace hz : zn (pc + 1) ls (.double FP.dconst0 :: st) M = _ := hz
      unfold zn at hz; cases hz
      exact zs_pure (fun H locs lsM hl k => lv_dconst0 hx hb hdec k) K
    | 1, hz, hdec =>
      replace hz : zn (pc + 1) ls (.double FP.dconst1 :: st) M = _ := hz
      unfold zn at hz; cases hz
      exact zs_pure (fun H locs lsM hl k => lv_dconst1 hx hb hdec k) K
  | aconst_null =>
    have hn : 1 = n := Nat.eq_of_beq_eq_true hlen
    subst hn
    replace hz : zn (pc + 1) ls (.null :: st) M = _ := hz
    unfold zn at hz; cases hz
    exact zs_pure (fun H locs lsM hl k => lv_null hx hb hdec k) K
  | ldc a =>
    have hn : 2 = n := Nat.eq_of_beq_eq_true hlen
    subst hn
    simp only [zx] at hz
    split at hz
    · next v pl hv =>
      have hw := zlk_all zI_all hv
      simp only [zIc, decide_eq_true_eq] at hw
      unfold zn at hz; cases hz
      exact zs_pure (fun H locs lsM hl k => lv_ldc hx hb hown (hts _ (zg (List.mem_of_getElem? hw) rfl)) hdec k) K
    · split at hz
      · next k hv =>
        have hw := hE.2.2.1.1 _ _ _ hv
        unfold zn at hz; cases hz
        exact zs_pure (fun H locs lsM hl k => va_ldcS hx hb hown hw hdec k) K
      · cases hz
  | ldc2_w a =>
    have hn : 3 = n := Nat.eq_of_beq_eq_true hlen
    subst hn
    simp only [zx] at hz
    split at hz
    · next v pl hv =>
      have hw := zlk_all zJ_all hv
      simp only [zJc, decide_eq_true_eq] at hw
      unfold zn at hz; cases hz
      exact zs_pure (fun H locs lsM hl k => lv_ldc2 hx hb hown (hts _ (zg (List.mem_of_getElem? hw) rfl)) hdec k) K
    · split at hz
      · next v pl hv =>
        have hw := zlk_all zD_all hv
        simp only [zDc, decide_eq_true_eq] at hw
        unfold zn at hz; cases hz
        exact zs_pure (fun H locs lsM hl k => lv_ldc2d hx hb hown (hts _ (zg (List.mem_of_getElem? hw) rfl)) hdec k) K
      · cases hz
  | iload a =>
    have hn : 2 = n := Nat.eq_of_beq_eq_true hlen
    subst hn
    replace hz : zli a (pc + 2) ls st M = _ := hz
    unfold zli at hz
    split at hz
    · next x hv => unfold zn at hz; cases hz; exact zs_pure (fun H locs lsM hl k => lv_iload hx hb hdec (hl.at hv (by simp)) k) K
    · cases hz
  | iload_n a =>
    have hn : 1 = n := Nat.eq_of_beq_eq_true hlen
    subst hn
    replace hz : zli a (pc + 1) ls st M = _ := hz
    unfold zli at hz
    split at hz
    · next x hv => unfold zn at hz; cases hz; exact zs_pure (fun H locs lsM hl k => lv_iload_n hx hb hdec rfl (hl.at hv (by simp)) k) K
    · cases hz
  | lload a =>
    have hn : 2 = n := Nat.eq_of_beq_eq_true hlen
    subst hn
    replace hz : zll a (pc + 2) ls st M = _ := hz
    unfold zll at hz
    split at hz
    · next x hv => unfold zn at hz; cases hz; exact zs_pure (fun H locs lsM hl k => lv_lload hx hb hdec (hl.at hv (by simp)) k) K
    · cases hz
  | lload_n a =>
    have hn : 1 = n := Nat.eq_of_beq_eq_true hlen
    subst hn
    replace hz : zll a (pc + 1) ls st M = _ := hz
    unfold zll at hz
    split at hz
    · next x hv => unfold zn at hz; cases hz; exact zs_pure (fun H locs lsM hl k => lv_lload_n hx hb hdec rfl (hl.at hv (by simp)) k) K
    · cases hz
  | dload a =>
    have hn : 2 = n := Nat.eq_of_beq_eq_true hlen
    subst hn
    replace hz : zldd a (pc + 2) ls st M = _ := hz
    unfold zldd at hz
    split at hz
    · next x hv => unfold zn at hz; cases hz; exact zs_pure (fun H locs lsM hl k => lv_dload hx hb hdec (hl.at hv (by simp)) k) K
    · cases hz
  | dload_n a =>
    have hn : 1 = n := Nat.eq_of_beq_eq_true hlen
    subst hn
    replace hz : zldd a (pc + 1) ls st M = _ := hz
    unfold zldd at hz
    split at hz
    · next x hv => unfold zn at hz; cases hz; exact zs_pure (fun H locs lsM hl k => lv_dload_n hx hb hdec rfl (hl.at hv (by simp)) k) K
    · cases hz
  | fload_n a =>
    have hn : 1 = n := Nat.eq_of_beq_eq_true hlen
    subst hn
    replace hz : zlf a (pc + 1) ls st M = _ := hz
    unfold zlf at hz
    split at hz
    · next x hv => unfold zn at hz; cases hz; exact zs_pure (fun H locs lsM hl k => lv_fload_n hx hb hdec rfl (hl.at hv (by simp)) k) K
    · cases hz
  | aload a =>
    have hn : 2 = n := Nat.eq_of_beq_eq_true hlen
    subst hn
    replace hz : zla a (pc + 2) ls st M = _ := hz
    unfold zla at hz
    split at hz
    · next x hv => unfold zn at hz; cases hz; exact zs_pure (fun H locs lsM hl k => lv_aload hx hb hdec (hl.at hv (by simp)) k) K
    · next x hv => unfold zn at hz; cases hz; exact zs_pure (fun H locs lsM hl k => lv_aload hx hb hdec (hl.at hv (by simp)) k) K
    · cases hz
  | aload_n a =>
    have hn : 1 = n := Nat.eq_of_beq_eq_true hlen
    subst hn
    replace hz : zla a (pc + 1) ls st M = _ := hz
    unfold zla at hz
    split at hz
    · next x hv => unfold zn at hz; cases hz; exact zs_pure (fun H locs lsM hl k => lv_aload_n hx hb hdec rfl (hl.at hv (by simp)) k) K
    · next x hv => unfold zn at hz; cases hz; exact zs_pure (fun H locs lsM hl k => lv_aload_n hx hb hdec rfl (hl.at hv (by simp)) k) K
    · cases hz
  | istore a =>
    have hn : 2 = n := Nat.eq_of_beq_eq_true hlen
    subst hn
    replace hz : zisto a (pc + 2) ls st M = _ := hz
    unfold zisto at hz
    split at hz
    · next x r =>
      unfold zs1 at hz
      cases hlt : Nat.blt ((a : Nat)) ls.length with
      | false => rw [hlt] at hz; cases hz
      | true =>
        rw [hlt] at hz
        replace hlt := Nat.le_of_ble_eq_true hlt
        replace hz : zn _ _ _ _ = _ := hz
        unfold zn at hz; cases hz
        intro H locs lsM hW hS hl
        refine lv_istore hx hb hdec hl.2 (by rw [← hl.1]; exact hlt) rfl (fun lsM' hl' => ?_)
        exact K H locs lsM' hW hS (zLoc.sto1 hl.1 (by rw [← hl.1]; exact hlt) hl')
    · cases hz
  | istore_n a =>
    have hn : 1 = n := Nat.eq_of_beq_eq_true hlen
    subst hn
    replace hz : zisto a (pc + 1) ls st M = _ := hz
    unfold zisto at hz
    split at hz
    · next x r =>
      unfold zs1 at hz
      cases hlt : Nat.blt ((a : Nat)) ls.length with
      | false => rw [hlt] at hz; cases hz
      | true =>
        rw [hlt] at hz
        replace hlt := Nat.le_of_ble_eq_true hlt
        replace hz : zn _ _ _ _ = _ := hz
        unfold zn at hz; cases hz
        intro H locs lsM hW hS hl
        refine lv_istore_n hx hb hdec rfl hl.2 (by rw [← hl.1]; exact hlt) rfl (fun lsM' hl' => ?_)
        exact K H locs lsM' hW hS (zLoc.sto1 hl.1 (by rw [← hl.1]; exact hlt) hl')
    · cases hz
  | lstore a =>
    have hn : 2 = n := Nat.eq_of_beq_eq_true hlen
    subst hn
    replace hz : zlsto a (pc + 2) ls st M = _ := hz
    unfold zlsto at hz
    split at hz
    · next x r =>
      unfold zs2 at hz
      cases hlt : Nat.blt ((a : Nat) + 1) ls.length with
      | false => rw [hlt] at hz; cases hz
      | true =>
        rw [hlt] at hz
        replace hlt := Nat.le_of_ble_eq_true hlt
        replace hz : zn _ _ _ _ = _ := hz
        unfold zn at hz; cases hz
        intro H locs lsM hW hS hl
        refine lv_lstore hx hb hdec hl.2 (by rw [← hl.1]; exact hlt) rfl (fun lsM' hl' => ?_)
        exact K H locs lsM' hW hS (zLoc.sto2 hl.1 (by rw [← hl.1]; exact hlt) hl')
    · cases hz
  | lstore_n a =>
    have hn : 1 = n := Nat.eq_of_beq_eq_true hlen
    subst hn
    replace hz : zlsto a (pc + 1) ls st M = _ := hz
    unfold zlsto at hz
    split at hz
    · next x r =>
      unfold zs2 at hz
      cases hlt : Nat.blt ((a : Nat) + 1) ls.length with
      | false => rw [hlt] at hz; cases hz
      | true =>
        rw [hlt] at hz
        replace hlt := Nat.le_of_ble_eq_true hlt
        replace hz : zn _ _ _ _ = _ := hz
        unfold zn at hz; cases hz
        intro H locs lsM hW hS hl
        refine lv_lstore_n hx hb hdec rfl hl.2 (by rw [← hl.1]; exact hlt) rfl (fun lsM' hl' => ?_)
        exact K H locs lsM' hW hS (zLoc.sto2 hl.1 (by rw [← hl.1]; exact hlt) hl')
    · cases hz
  | dstore a =>
    have hn : 2 = n := Nat.eq_of_beq_eq_true hlen
    subst hn
    replace hz : zdsto a (pc + 2) ls st M = _ := hz
    unfold zdsto at hz
    split at hz
    · next x r =>
      unfold zs2 at hz
      cases hlt : Nat.blt ((a : Nat) + 1) ls.length with
      | false => rw [hlt] at hz; cases hz
      | true =>
        rw [hlt] at hz
        replace hlt := Nat.le_of_ble_eq_true hlt
        replace hz : zn _ _ _ _ = _ := hz
        unfold zn at hz; cases hz
        intro H locs lsM hW hS hl
        refine lv_dstore hx hb hdec hl.2 (by rw [← hl.1]; exact hlt) rfl (fun lsM' hl' => ?_)
        exact K H locs lsM' hW hS (zLoc.sto2 hl.1 (by rw [← hl.1]; exact hlt) hl')
    · cases hz
  | astore a =>
    have hn : 2 = n := Nat.eq_of_beq_eq_true hlen
    subst hn
    replace hz : zasto a (pc + 2) ls st M = _ := hz
    unfold zasto at hz
    split at hz
    · next x r =>
      unfold zs1 at hz
      cases hlt : Nat.blt ((a : Nat)) ls.length with
      | false => rw [hlt] at hz; cases hz
      | true =>
        rw [hlt] at hz
        replace hlt := Nat.le_of_ble_eq_true hlt
        replace hz : zn _ _ _ _ = _ := hz
        unfold zn at hz; cases hz
        intro H locs lsM hW hS hl
        refine lv_astore hx hb hdec hl.2 (by rw [← hl.1]; exact hlt) rfl (fun lsM' hl' => ?_)
        exact K H locs lsM' hW hS (zLoc.sto1 hl.1 (by rw [← hl.1]; exact hlt) hl')
    · cases hz
  | astore_n a =>
    have hn : 1 = n := Nat.eq_of_beq_eq_true hlen
    subst hn
    replace hz : zasto a (pc + 1) ls st M = _ := hz
    unfold zasto at hz
    split at hz
    · next x r =>
      unfold zs1 at hz
      cases hlt : Nat.blt ((a : Nat)) ls.length with
      | false => rw [hlt] at hz; cases hz
      | true =>
        rw [hlt] at hz
        replace hlt := Nat.le_of_ble_eq_true hlt
        replace hz : zn _ _ _ _ = _ := hz
        unfold zn at hz; cases hz
        intro H locs lsM hW hS hl
        refine lv_astore_n hx hb hdec rfl hl.2 (by rw [← hl.1]; exact hlt) rfl (fun lsM' hl' => ?_)
        exact K H locs lsM' hW hS (zLoc.sto1 hl.1 (by rw [← hl.1]; exact hlt) hl')
    · cases hz
  | iinc a b =>
    have hn : 3 = n := Nat.eq_of_beq_eq_true hlen
    subst hn
    have hv := of_decide_eq_true hio
    simp only [zx] at hz
    split at hz
    · next x hx2 =>
      unfold zs1 at hz
      cases hlt : Nat.blt a ls.length with
      | false => rw [hlt] at hz; cases hz
      | true =>
        rw [hlt] at hz
        replace hlt := Nat.le_of_ble_eq_true hlt
        replace hz : zn _ _ _ _ = _ := hz
        unfold zn at hz; cases hz
        intro H locs lsM hW hS hl
        have hin := zpr_in (n0 := n0) (q := q) hx2 (by simp)
        obtain ⟨kx, hkx⟩ := List.getElem?_of_mem hin
        refine lv_iinc hx hb hdec hl.2 hkx (by rw [hv]) (by rw [← hl.1]; exact hlt) rfl (fun lsM' hl' => ?_)
        exact K H locs lsM' hW hS (zLoc.sto1 (v := .int (x + zic b)) hl.1 (by rw [← hl.1]; exact hlt) hl')
    · cases hz
  | iadd =>
    have hn : 1 = n := Nat.eq_of_beq_eq_true hlen
    subst hn
    replace hz : zbi (fun x y => x + y) (pc + 1) ls st M = _ := hz
    unfold zbi at hz
    split at hz
    · unfold zn at hz; cases hz; exact zs_pure (fun H locs lsM hl k => lv_iadd hx hb hdec k) K
    · cases hz
  | isub =>
    have hn : 1 = n := Nat.eq_of_beq_eq_true hlen
    subst hn
    replace hz : zbi (fun x y => x - y) (pc + 1) ls st M = _ := hz
    unfold zbi at hz
    split at hz
    · unfold zn at hz; cases hz; exact zs_pure (fun H locs lsM hl k => lv_isub hx hb hdec k) K
    · cases hz
  | imul =>
    have hn : 1 = n := Nat.eq_of_beq_eq_true hlen
    subst hn
    replace hz : zbi (fun x y => x * y) (pc + 1) ls st M = _ := hz
    unfold zbi at hz
    split at hz
    · unfold zn at hz; cases hz; exact zs_pure (fun H locs lsM hl k => lv_imul hx hb hdec k) K
    · cases hz
  | iand =>
    have hn : 1 = n := Nat.eq_of_beq_eq_true hlen
    subst hn
    replace hz : zbi (fun x y => x &&& y) (pc + 1) ls st M = _ := hz
    unfold zbi at hz
    split at hz
    · unfold zn at hz; cases hz; exact zs_pure (fun H locs lsM hl k => lv_iand hx hb hdec k) K
    · cases hz
  | ladd =>
    have hn : 1 = n := Nat.eq_of_beq_eq_true hlen
    subst hn
    replace hz : zbl (fun x y => x + y) (pc + 1) ls st M = _ := hz
    unfold zbl at hz
    split at hz
    · unfold zn at hz; cases hz; exact zs_pure (fun H locs lsM hl k => lv_ladd hx hb hdec k) K
    · cases hz
  | lsub =>
    have hn : 1 = n := Nat.eq_of_beq_eq_true hlen
    subst hn
    replace hz : zbl (fun x y => x - y) (pc + 1) ls st M = _ := hz
    unfold zbl at hz
    split at hz
    · unfold zn at hz; cases hz; exact zs_pure (fun H locs lsM hl k => lv_lsub hx hb hdec k) K
    · cases hz
  | lmul =>
    have hn : 1 = n := Nat.eq_of_beq_eq_true hlen
    subst hn
    replace hz : zbl (fun x y => x * y) (pc + 1) ls st M = _ := hz
    unfold zbl at hz
    split at hz
    · unfold zn at hz; cases hz; exact zs_pure (fun H locs lsM hl k => lv_lmul hx hb hdec k) K
    · cases hz
  | land =>
    have hn : 1 = n := Nat.eq_of_beq_eq_true hlen
    subst hn
    replace hz : zbl (fun x y => x &&& y) (pc + 1) ls st M = _ := hz
    unfold zbl at hz
    split at hz
    · unfold zn at hz; cases hz; exact zs_pure (fun H locs lsM hl k => lv_land hx hb hdec k) K
    · cases hz
  | lor =>
    have hn : 1 = n := Nat.eq_of_beq_eq_true hlen
    subst hn
    replace hz : zbl (fun x y => x ||| y) (pc + 1) ls st M = _ := hz
    unfold zbl at hz
    split at hz
    · unfold zn at hz; cases hz; exact zs_pure (fun H locs lsM hl k => lv_lor hx hb hdec k) K
    · cases hz
  | idiv =>
    have hn : 1 = n := Nat.eq_of_beq_eq_true hlen
    subst hn
    simp only [zx] at hz
    split at hz
    · next y x r =>
      unfold zn at hz; cases hz
      by_cases hy : y = 0
      · rw [if_pos hy] at hpc; exact absurd rfl hpc
      · rw [if_neg hy] at K
        exact zs_pure (fun H locs lsM hl k => lv_idiv hx hb hdec hy k) K
    · cases hz
  | irem =>
    have hn : 1 = n := Nat.eq_of_beq_eq_true hlen
    subst hn
    simp only [zx] at hz
    split at hz
    · next y x r =>
      unfold zn at hz; cases hz
      by_cases hy : y = 0
      · rw [if_pos hy] at hpc; exact absurd rfl hpc
      · rw [if_neg hy] at K
        exact zs_pure (fun H locs lsM hl k => lv_irem hx hb hdec hy k) K
    · cases hz
  | ldiv =>
    have hn : 1 = n := Nat.eq_of_beq_eq_true hlen
    subst hn
    simp only [zx] at hz
    split at hz
    · next y x r =>
      unfold zn at hz; cases hz
      by_cases hy : y = 0
      · rw [if_pos hy] at hpc; exact absurd rfl hpc
      · rw [if_neg hy] at K
        exact zs_pure (fun H locs lsM hl k => lv_ldiv hx hb hdec hy k) K
    · cases hz
  | lrem =>
    have hn : 1 = n := Nat.eq_of_beq_eq_true hlen
    subst hn
    simp only [zx] at hz
    split at hz
    · next y x r =>
      unfold zn at hz; cases hz
      by_cases hy : y = 0
      · rw [if_pos hy] at hpc; exact absurd rfl hpc
      · rw [if_neg hy] at K
        exact zs_pure (fun H locs lsM hl k => lv_lrem hx hb hdec hy k) K
    · cases hz
  | ineg =>
    have hn : 1 = n := Nat.eq_of_beq_eq_true hlen
    subst hn
    simp only [zx] at hz
    split at hz
    · unfold zn at hz; cases hz; exact zs_pure (fun H locs lsM hl k => lv_ineg hx hb hdec k) K
    · cases hz
  | lneg =>
    have hn : 1 = n := Nat.eq_of_beq_eq_true hlen
    subst hn
    simp only [zx] at hz
    split at hz
    · unfold zn at hz; cases hz; exact zs_pure (fun H locs lsM hl k => lv_lneg hx hb hdec k) K
    · cases hz
  | i2l =>
    have hn : 1 = n := Nat.eq_of_beq_eq_true hlen
    subst hn
    simp only [zx] at hz
    split at hz
    · unfold zn at hz; cases hz; exact zs_pure (fun H locs lsM hl k => lv_i2l hx hb hdec rfl k) K
    · cases hz
  | l2i =>
    have hn : 1 = n := Nat.eq_of_beq_eq_true hlen
    subst hn
    simp only [zx] at hz
    split at hz
    · unfold zn at hz; cases hz; exact zs_pure (fun H locs lsM hl k => lv_l2i hx hb hdec rfl k) K
    · cases hz
  | i2b =>
    have hn : 1 = n := Nat.eq_of_beq_eq_true hlen
    subst hn
    simp only [zx] at hz
    split at hz
    · unfold zn at hz; cases hz; exact zs_pure (fun H locs lsM hl k => lv_i2b hx hb hdec rfl k) K
    · cases hz
  | l2d =>
    have hn : 1 = n := Nat.eq_of_beq_eq_true hlen
    subst hn
    simp only [zx] at hz
    split at hz
    · unfold zn at hz; cases hz; exact zs_pure (fun H locs lsM hl k => lv_l2d hx hb hdec k) K
    · cases hz
  | d2i =>
    have hn : 1 = n := Nat.eq_of_beq_eq_true hlen
    subst hn
    simp only [zx] at hz
    split at hz
    · unfold zn at hz; cases hz; exact zs_pure (fun H locs lsM hl k => lv_d2i hx hb hdec k) K
    · cases hz
  | d2l =>
    have hn : 1 = n := Nat.eq_of_beq_eq_true hlen
    subst hn
    simp only [zx] at hz
    split at hz
    · unfold zn at hz; cases hz; exact zs_pure (fun H locs lsM hl k => lv_d2l hx hb hdec k) K
    · cases hz
  | dneg =>
    have hn : 1 = n := Nat.eq_of_beq_eq_true hlen
    subst hn
    simp only [zx] at hz
    split at hz
    · unfold zn at hz; cases hz; exact zs_pure (fun H locs lsM hl k => lv_dneg hx hb hdec k) K
    · cases hz
  | lshl =>
    have hn : 1 = n := Nat.eq_of_beq_eq_true hlen
    subst hn
    simp only [zx] at hz
    split at hz
    · unfold zn at hz; cases hz; exact zs_pure (fun H locs lsM hl k => lv_lshl hx hb hdec rfl k) K
    · cases hz
  | lshr =>
    have hn : 1 = n := Nat.eq_of_beq_eq_true hlen
    subst hn
    simp only [zx] at hz
    split at hz
    · unfold zn at hz; cases hz; exact zs_pure (fun H locs lsM hl k => lv_lshr hx hb hdec rfl k) K
    · cases hz
  | lcmp =>
    have hn : 1 = n := Nat.eq_of_beq_eq_true hlen
    subst hn
    simp only [zx] at hz
    split at hz
    · unfold zn at hz; cases hz; exact zs_pure (fun H locs lsM hl k => W.lcmp hx hb hdec k) K
    · cases hz
  | dcmp a =>
    have hn : 1 = n := Nat.eq_of_beq_eq_true hlen
    subst hn
    simp only [zx] at hz
    split at hz
    · unfold zn at hz; cases hz; exact zs_pure (fun H locs lsM hl k => lv_dcmp hx hb hdec k) K
    · cases hz
  | fcmp a =>
    have hn : 1 = n := Nat.eq_of_beq_eq_true hlen
    subst hn
    simp only [zx] at hz
    split at hz
    · unfold zn at hz; cases hz; exact zs_pure (fun H locs lsM hl k => lv_fcmp hx hb hdec k) K
    · cases hz
  | d2f =>
    have hn : 1 = n := Nat.eq_of_beq_eq_true hlen
    subst hn
    simp only [zx] at hz
    split at hz
    · next x r =>
      unfold zn at hz; cases hz
      split at hpc
      · next hy =>
        rw [if_pos hy] at K
        exact zs_pure (fun H locs lsM hl k => lv_d2f hx hb hdec hy k) K
      · exact absurd rfl hpc
    · cases hz
  | f2d =>
    have hn : 1 = n := Nat.eq_of_beq_eq_true hlen
    subst hn
    simp only [zx] at hz
    split at hz
    · next x r =>
      unfold zn at hz; cases hz
      split at hpc
      · next hy =>
        rw [if_pos hy] at K
        exact zs_pure (fun H locs lsM hl k => lv_f2d hx hb hdec hy k) K
      · exact absurd rfl hpc
    · cases hz
  | ddiv =>
    have hn : 1 = n := Nat.eq_of_beq_eq_true hlen
    subst hn
    replace hz : zbd FP.ddiv (pc + 1) ls st M = _ := hz
    unfold zbd at hz
    split at hz
    · next y x r =>
      unfold zn at hz; cases hz
      split at hpc
      · next hy =>
        rw [if_pos hy] at K
        exact zs_pure (fun H locs lsM hl k => lv_ddiv hx hb hdec hy k) K
      · exact absurd rfl hpc
    · cases hz
  | dmul =>
    have hn : 1 = n := Nat.eq_of_beq_eq_true hlen
    subst hn
    replace hz : zbd FP.dmul (pc + 1) ls st M = _ := hz
    unfold zbd at hz
    split at hz
    · next y x r =>
      unfold zn at hz; cases hz
      split at hpc
      · next hy =>
        rw [if_pos hy] at K
        exact zs_pure (fun H locs lsM hl k => lv_dmul hx hb hdec hy k) K
      · exact absurd rfl hpc
    · cases hz
  | dsub =>
    have hn : 1 = n := Nat.eq_of_beq_eq_true hlen
    subst hn
    replace hz : zbd FP.dsub (pc + 1) ls st M = _ := hz
    unfold zbd at hz
    split at hz
    · next y x r =>
      unfold zn at hz; cases hz
      split at hpc
      · next hy =>
        rw [if_pos hy] at K
        exact zs_pure (fun H locs lsM hl k => lv_dsub hx hb hdec hy k) K
      · exact absurd rfl hpc
    · cases hz
  | ifCond a b =>
    have hn : 3 = n := Nat.eq_of_beq_eq_true hlen
    subst hn
    simp only [zx] at hz
    split at hz
    · next x r =>
      split at hz
      · next t ht =>
        have htt := zt_ok ht
        unfold zn at hz; cases hz
        intro H locs lsM hW hS hl
        cases a with
          | eq => exact lv_if_eq hx hb hdec htt (fun h => zs_if K hW hS hl _ (if_pos h)) (fun h => zs_if K hW hS hl _ (if_neg h))
          | ne => exact lv_if_ne hx hb hdec htt (fun h => zs_if K hW hS hl _ (if_neg h)) (fun h => zs_if K hW hS hl _ (if_pos h))
          | lt => exact lv_if_lt hx hb hdec htt (fun h => zs_if K hW hS hl _ (if_pos h)) (fun h => zs_if K hW hS hl _ (if_neg h))
          | ge => exact lv_if_ge hx hb hdec htt (fun h => zs_if K hW hS hl _ (if_pos h)) (fun h => zs_if K hW hS hl _ (if_neg h))
          | gt => exact lv_if_gt hx hb hdec htt (fun h => zs_if K hW hS hl _ (if_pos h)) (fun h => zs_if K hW hS hl _ (if_neg h))
          | le => exact lv_if_le hx hb hdec htt (fun h => zs_if K hW hS hl _ (if_pos h)) (fun h => zs_if K hW hS hl _ (if_neg h))
      · cases hz
    · cases hz
  | if_icmp a b =>
    have hn : 3 = n := Nat.eq_of_beq_eq_true hlen
    subst hn
    simp only [zx] at hz
    split at hz
    · next y x r =>
      split at hz
      · next t ht =>
        have htt := zt_ok ht
        unfold zn at hz; cases hz
        intro H locs lsM hW hS hl
        cases a with
          | eq => exact lv_icmp_eq hx hb hdec htt (fun h => zs_if K hW hS hl _ (if_pos h)) (fun h => zs_if K hW hS hl _ (if_neg h))
          | ne => exact lv_icmp_ne hx hb hdec htt (fun h => zs_if K hW hS hl _ (if_neg h)) (fun h => zs_if K hW hS hl _ (if_pos h))
          | lt => exact lv_icmp_lt hx hb hdec htt (fun h => zs_if K hW hS hl _ (if_pos h)) (fun h => zs_if K hW hS hl _ (if_neg h))
          | ge => exact lv_icmp_ge hx hb hdec htt (fun h => zs_if K hW hS hl _ (if_pos h)) (fun h => zs_if K hW hS hl _ (if_neg h))
          | gt => exact lv_icmp_gt hx hb hdec htt (fun h => zs_if K hW hS hl _ (if_pos h)) (fun h => zs_if K hW hS hl _ (if_neg h))
          | le => exact lv_icmp_le hx hb hdec htt (fun h => zs_if K hW hS hl _ (if_pos h)) (fun h => zs_if K hW hS hl _ (if_neg h))
      · cases hz
    · cases hz
  | ifnonnull a =>
    have hn : 3 = n := Nat.eq_of_beq_eq_true hlen
    subst hn
    simp only [zx] at hz
    split at hz
    · split at hz
      · next t ht =>
        have htt := zt_ok ht
        unfold zn at hz; cases hz
        exact zs_pure (fun H locs lsM hl k => lv_ifnonnull hx hb hdec htt k) K
      · cases hz
    · unfold zn at hz; cases hz; exact zs_pure (fun H locs lsM hl k => lv_ifnonnullN hx hb hdec k) K
    · cases hz
  | goto a =>
    have hn : 3 = n := Nat.eq_of_beq_eq_true hlen
    subst hn
    simp only [zx] at hz
    split at hz
    · next t ht =>
      have htt := zt_ok ht
      unfold zn at hz; cases hz
      intro H locs lsM hW hS hl
      refine lv_goto hx hb hdec htt (K H locs lsM hW hS ?_)
      cases Nat.ble pc' pc with
      | false => exact hl
      | true =>
        show zLoc n0 q (zmx m0) (zfgt (zfd (zfg m0) pc') ls) lsM
        unfold zfgt
        split
        · exact hl
        · exact hl.clr _
    · cases hz
  | tableswitch d lo hi offs =>
    simp only [zx] at hz
    split at hz
    · next x r =>
      split at hz
      · next t ht =>
        unfold zn at hz; cases hz
        intro H locs lsM hW hS hl
        unfold ztsw at ht
        split at ht
        · next h => exact lv_tableOut hx hb hdec h (zt_ok ht) (K H locs lsM hW hS hl)
        · next h =>
          split at ht
          · next o ho =>
            rw [zgt_eq] at ho
            exact lv_tableIn hx hb hdec (fun h1 => h (Or.inl h1)) (fun h1 => h (Or.inr h1)) (by rw [← Array.getElem?_toList]; exact ho) (zt_ok ht) (K H locs lsM hW hS hl)
          · cases ht
      · cases hz
    · cases hz
  | dup =>
    have hn : 1 = n := Nat.eq_of_beq_eq_true hlen
    subst hn
    simp only [zx] at hz
    split at hz
    · unfold zn at hz; cases hz; exact zs_pure (fun H locs lsM hl k => lv_dup hx hb hdec rfl k) K
    · unfold zn at hz; cases hz; exact zs_pure (fun H locs lsM hl k => lv_dup hx hb hdec rfl k) K
    · cases hz
  | dup2 =>
    have hn : 1 = n := Nat.eq_of_beq_eq_true hlen
    subst hn
    simp only [zx] at hz
    split at hz
    · unfold zn at hz; cases hz; exact zs_pure (fun H locs lsM hl k => lv_dup2_11 hx hb hdec rfl rfl k) K
    · cases hz
  | pop =>
    have hn : 1 = n := Nat.eq_of_beq_eq_true hlen
    subst hn
    simp only [zx] at hz
    split at hz
    · unfold zn at hz; cases hz; exact zs_pure (fun H locs lsM hl k => lv_pop hx hb hdec rfl k) K
    · unfold zn at hz; cases hz; exact zs_pure (fun H locs lsM hl k => lv_pop hx hb hdec rfl k) K
    · cases hz
  | getfield a =>
    have hn : 3 = n := Nat.eq_of_beq_eq_true hlen
    subst hn
    exact zs_getfield C hdec hio hz hpc h0 hR K
  | putfield a =>
    have hn : 3 = n := Nat.eq_of_beq_eq_true hlen
    subst hn
    exact zs_putfield C hdec hio hz hpc h0 hR K
  | new a =>
    have hn : 3 = n := Nat.eq_of_beq_eq_true hlen
    subst hn
    exact zs_new C hdec hio hz hpc h0 hR K
  | invokevirtual a =>
    have hn : 3 = n := Nat.eq_of_beq_eq_true hlen
    subst hn
    exact zs_invokevirtual C hdec hio hz hpc h0 hR K
  | invokestatic a =>
    have hn : 3 = n := Nat.eq_of_beq_eq_true hlen
    subst hn
    exact zs_invokestatic C hdec hio hz hpc h0 hR K
  | invokespecial a =>
    have hn : 3 = n := Nat.eq_of_beq_eq_true hlen
    subst hn
    exact zs_invokespecial C hdec hio hz hpc h0 hR K
  | iaload =>
    have hn : 1 = n := Nat.eq_of_beq_eq_true hlen
    subst hn
    exact zs_iaload C hdec hz hpc h0 hR K
  | laload =>
    have hn : 1 = n := Nat.eq_of_beq_eq_true hlen
    subst hn
    exact zs_laload C hdec hz hpc h0 hR K
  | baload =>
    have hn : 1 = n := Nat.eq_of_beq_eq_true hlen
    subst hn
    exact zs_baload C hdec hz hpc h0 hR K
  | iastore =>
    have hn : 1 = n := Nat.eq_of_beq_eq_true hlen
    subst hn
    exact zs_iastore C hdec hz hpc h0 hR K
  | lastore =>
    have hn : 1 = n := Nat.eq_of_beq_eq_true hlen
    subst hn
    exact zs_lastore C hdec hz hpc h0 hR K
  | bastore =>
    have hn : 1 = n := Nat.eq_of_beq_eq_true hlen
    subst hn
    exact zs_bastore C hdec hz hpc h0 hR K
  | arraylength =>
    have hn : 1 = n := Nat.eq_of_beq_eq_true hlen
    subst hn
    exact zs_arraylength C hdec hz hpc h0 hR K
  | newarray a =>
    have hn : 2 = n := Nat.eq_of_beq_eq_true hlen
    subst hn
    exact zs_newarray C hdec hz hpc h0 hR K
  | ireturn =>
    have hn : 1 = n := Nat.eq_of_beq_eq_true hlen
    subst hn
    replace hz : zret m0 st = _ := hz
    unfold zret at hz
    repeat' (split at hz)
    all_goals cases hz
  | lreturn =>
    have hn : 1 = n := Nat.eq_of_beq_eq_true hlen
    subst hn
    simp only [zx] at hz
    repeat' (split at hz)
    all_goals cases hz
  | dreturn =>
    have hn : 1 = n := Nat.eq_of_beq_eq_true hlen
    subst hn
    simp only [zx] at hz
    repeat' (split at hz)
    all_goals cases hz
  | return_ =>
    have hn : 1 = n := Nat.eq_of_beq_eq_true hlen
    subst hn
    simp only [zx] at hz
    repeat' (split at hz)
    all_goals cases hz
  | _ => cases hz
end ZS
end
section
/-! a run of the small machine is a run of the machine -/
def zShp (S S' : List zS) : Prop := S' = S ∨ (∃ x, S' = S ++ [x]) ∨ ∃ o x y, zgt S o = some y ∧ zsz x = zsz y ∧ S' = S.set o x
theorem zput_shp {a k cj : Nat} {fs : List zF} {pc pc' : Nat} {ls r ls' st' : List Value} {v : Value} {M M' : zM} {kd : zF} (hf : zgt M.1 a = some (.inr (cj, fs))) (hz : zput a k cj fs pc ls r v M kd = some (.inl (pc', ls', st', M'))) : zShp M.1 M'.1 := by
  unfold zput at hz
  repeat' (split at hz)
  all_goals first
    | (cases hz; done)
    | (unfold zn at hz; cases hz; exact Or.inl rfl)
    | (unfold zn at hz; cases hz; exact Or.inr (Or.inr ⟨a, _, _, hf, by simp [zsz], rfl⟩))
set_option maxHeartbeats 4000000 in
theorem zx_shp {X : zSc} {m0 : zMt} {pc pc' n : Nat} {ls st ls' st' : List Value} {M M' : zM} {i : Instr} (hz : zx X m0 pc ls st M n i = some (.inl (pc', ls', st', M'))) : zShp M.1 M'.1 := by
  cases i
  case putfield a =>
    replace hz : zputf (zow m0) a (pc + n) ls st M = _ := hz
    unfold zputf at hz
    split at hz
    · split at hz
      · next ci k pl _ =>
        split at hz
        · next o _ _ _ _ _ cj fs hf =>
          cases hb2 : Nat.beq ci cj with
          | false => rw [hb2] at hz; cases hz
          | true =>
            rw [hb2] at hz
            have hcj := Nat.eq_of_beq_eq_true hb2
            subst hcj
            dsimp only [cond_true] at hz
            split at hz
            · next kd kd0 _ _ =>
              cases hke : zke kd kd0 with
              | false => rw [hke] at hz; cases hz
              | true => rw [hke] at hz; exact zput_shp hf hz
            · cases hz
        · cases hz
      · cases hz
    · cases hz
  case new a =>
    replace hz : znew (zow m0) a (pc + n) ls st M = _ := hz
    unfold znew at hz
    repeat' (split at hz)
    · unfold zadd zn at hz; cases hz; exact Or.inr (Or.inl ⟨_, rfl⟩)
    · cases hz
    · cases hz
  case newarray a =>
    simp only [zx, znat, zadd, zn] at hz
    repeat' (split at hz)
    all_goals first
      | (cases hz; exact Or.inr (Or.inl ⟨_, rfl⟩))
      | cases hz
  all_goals (
    simp only [zx, zn, zs1, zs2, zli, zll, zlf, zldd, zla, zisto, zasto, zlsto, zdsto, zbi, zbl, zbd, zgetf, zild, zlld, zbld, zias, zlas, zbas, zlen, zinv, zspec, zpc, zp0, zp1, zp2, zp3, zp4, zp5, zret, Bool.cond_eq_ite] at hz
    repeat' (split at hz)
    all_goals first
      | (cases hz; exact Or.inl rfl)
      | cases hz
      | exact (zcall_inl hz).elim)
theorem zShp.le {S S' : List zS} (h : zShp S S') : S.length ≤ S'.length ∧ zsize S ≤ zsize S' := by
  rcases h with rfl | ⟨x, rfl⟩ | ⟨o, x, y, h1, h2, rfl⟩
  · exact ⟨Nat.le_refl _, Nat.le_refl _⟩
  · rw [zsize_push]; simp
  · rw [zsize_set h1 h2]; simp
theorem zrun_le2 {X : zSc} : ∀ (f : Nat) {m0 : zMt} {pc : Nat} {ls st : List Value} {M : zM} {r : Option Value} {M' : zM}, zrun X f m0 pc ls st M = some (r, M') → M.1.length ≤ M'.1.length ∧ zsize M.1 ≤ zsize M'.1 := by
  intro f
  induction f with
  | zero => intro m0 pc ls st M r M' h; cases h
  | succ f ih =>
    intro m0 pc ls st M r M' h
    rw [zrun] at h
    split at h
    · cases h
    · next pc1 ls1 st1 M1 e1 =>
      have h1 := ih h
      unfold zstep at e1
      split at e1
      · have h2 := (zx_shp e1).le
        omega
      · cases e1
    · split at h
      · cases h
      · next v M1 e1 =>
        have h1 := ih e1
        have h2 := ih h
        omega
    · cases h
      exact ⟨Nat.le_refl _, Nat.le_refl _⟩
def zRt (m0 : zMt) (i : Instr) (v : Option Value) : Prop := (v = none ∧ i = .return_ ∧ zrt m0 = none) ∨ (∃ x, v = some (.int x) ∧ i = .ireturn ∧ (zrt m0 = some .int ∨ (zrt m0 = some .boolean ∧ (x = 0 ∨ x = 1)))) ∨ (∃ x, v = some (.long x) ∧ i = .lreturn ∧ zrt m0 = some .long) ∨ (∃ x, v = some (.double x) ∧ i = .dreturn ∧ zrt m0 = some .double)
theorem zcall_ok {mm mj : zMt} {idx kind pc1 pc2 : Nat} {l1 s1 as rest : List Value} {M1 : zM} (h : zcall mm idx kind pc1 l1 s1 M1 = some (.inr (.inl (mj, as, pc2, rest)))) : ∃ na, zlkM (zow mm) idx = some (kind, na, mj) ∧ zlv mj < zlv mm ∧ zargs na [] s1 = some (as, rest) ∧ zcat rest ≤ 8 ∧ (zsp as).length ≤ zmx mj ∧ pc2 = pc1 ∧ ((kind = 0 ∧ ∃ a t, as = .ref a :: t ∧ zcls M1.1 a = some (zow mj)) ∨ kind = 1 ∨ ((kind = 2 ∨ kind = 3) ∧ ∃ a t, as = .ref a :: t)) := by
  unfold zcall at h
  split at h
  · next kd na mj2 hlk =>
    cases h1 : (Nat.beq kd kind && Nat.blt (zlv mj2) (zlv mm)) with
    | false => rw [h1] at h; cases h
    | true =>
      rw [h1] at h
      simp only [Bool.and_eq_true] at h1
      have hk := Nat.eq_of_beq_eq_true h1.1
      have hlv := Nat.le_of_ble_eq_true h1.2
      subst hk
      dsimp only [cond_true] at h
      split at h
      · next as2 rest2 hargs =>
        cases h2 : (Nat.ble (zcat rest2) 8 && Nat.ble (zsp as2).length (zmx mj2)) with
        | false => rw [h2] at h; cases h
        | true =>
          rw [h2] at h
          simp only [Bool.and_eq_true] at h2
          have hc := Nat.le_of_ble_eq_true h2.1
          have hl := Nat.le_of_ble_eq_true h2.2
          dsimp only [cond_true] at h
          split at h
          · next a t =>
            split at h
            · next c hcl =>
              cases h3 : Nat.beq c (zow mj2) with
              | false => rw [h3] at h; cases h
              | true =>
                rw [h3] at h
                have hcc := Nat.eq_of_beq_eq_true h3
                subst hcc
                cases h
                exact ⟨na, hlk, hlv, hargs, hc, hl, rfl, Or.inl ⟨rfl, a, t, rfl, hcl⟩⟩
            · cases h
          · cases h
            exact ⟨na, hlk, hlv, hargs, hc, hl, rfl, Or.inr (Or.inl rfl)⟩
          · next a t =>
            cases h
            exact ⟨na, hlk, hlv, hargs, hc, hl, rfl, Or.inr (Or.inr ⟨Or.inl rfl, a, t, rfl⟩)⟩
          · next a t =>
            cases h
            exact ⟨na, hlk, hlv, hargs, hc, hl, rfl, Or.inr (Or.inr ⟨Or.inr rfl, a, t, rfl⟩)⟩
          · cases h
      · cases h
  · cases h
theorem zcall_noret {mm : zMt} {idx kind pc1 : Nat} {l1 s1 : List Value} {M1 : zM} {v : Option Value} (h : zcall mm idx kind pc1 l1 s1 M1 = some (.inr (.inr v))) : False := by
  unfold zcall at h
  simp only [Bool.cond_eq_ite] at h
  repeat' (split at h)
  all_goals cases h
set_option maxHeartbeats 4000000 in
theorem zx_ret {X : zSc} {m0 : zMt} {pc n : Nat} {ls st : List Value} {M : zM} {i : Instr} {v : Option Value} (hz : zx X m0 pc ls st M n i = some (.inr (.inr v))) : st = v.toList ∧ zRt m0 i v := by
  cases i
  case ireturn =>
    replace hz : zret m0 st = _ := hz
    unfold zret at hz
    split at hz
    · next x =>
      split at hz
      · next h => cases hz; exact ⟨rfl, Or.inr (Or.inl ⟨x, rfl, rfl, Or.inl h⟩)⟩
      · next h =>
        split at hz
        · next h2 => cases hz; exact ⟨rfl, Or.inr (Or.inl ⟨x, rfl, rfl, Or.inr ⟨h, h2⟩⟩)⟩
        · cases hz
      · cases hz
    · cases hz
  case lreturn =>
    simp only [zx] at hz
    split at hz
    · next x =>
      split at hz
      · next h => cases hz; exact ⟨rfl, Or.inr (Or.inr (Or.inl ⟨x, rfl, rfl, h⟩))⟩
      · cases hz
    · cases hz
  case dreturn =>
    simp only [zx] at hz
    split at hz
    · next x =>
      split at hz
      · next h => cases hz; exact ⟨rfl, Or.inr (Or.inr (Or.inr ⟨x, rfl, rfl, h⟩))⟩
      · cases hz
    · cases hz
  case return_ =>
    simp only [zx] at hz
    split at hz
    · split at hz
      · next h => cases hz; exact ⟨rfl, Or.inl ⟨rfl, rfl, h⟩⟩
      · cases hz
    · cases hz
  all_goals (
    exfalso
    simp only [zx, zn, zs1, zs2, zli, zll, zlf, zldd, zla, zisto, zasto, zlsto, zdsto, zbi, zbl, zbd, zgetf, zputf, zput, zild, zlld, zbld, zias, zlas, zbas, zlen, znew, znat, zadd, zinv, zspec, zpc, zp0, zp1, zp2, zp3, zp4, zp5, Bool.cond_eq_ite] at hz
    repeat' (split at hz)
    all_goals first
      | cases hz
      | exact zcall_noret hz)
set_option maxHeartbeats 4000000 in
theorem zx_call {X : zSc} {m0 mj : zMt} {pc n pc1 : Nat} {ls st as rest : List Value} {M : zM} {i : Instr} (hz : zx X m0 pc ls st M n i = some (.inr (.inl (mj, as, pc1, rest)))) : ∃ idx kind, ((i = .invokevirtual idx ∧ kind = 0) ∨ (i = .invokestatic idx ∧ kind = 1) ∨ (i = .invokespecial idx ∧ (kind = 2 ∨ kind = 3))) ∧ zcall m0 idx kind (pc + n) ls st M = some (.inr (.inl (mj, as, pc1, rest))) := by
  cases i
  case invokevirtual a =>
    replace hz : zinv m0 a 0 (pc + n) ls st M = _ := hz
    unfold zinv at hz
    split at hz
    · exfalso
      simp only [zpc, zp0, zp1, zp2, zp3, zp4, zp5, zn, Bool.cond_eq_ite] at hz
      repeat' (split at hz)
      all_goals cases hz
    · exact ⟨a, 0, Or.inl ⟨rfl, rfl⟩, hz⟩
  case invokestatic a =>
    replace hz : zinv m0 a 1 (pc + n) ls st M = _ := hz
    unfold zinv at hz
    split at hz
    · exfalso
      simp only [zpc, zp0, zp1, zp2, zp3, zp4, zp5, zn, Bool.cond_eq_ite] at hz
      repeat' (split at hz)
      all_goals cases hz
    · exact ⟨a, 1, Or.inr (Or.inl ⟨rfl, rfl⟩), hz⟩
  case invokespecial a =>
    replace hz : zspec m0 a (pc + n) ls st M = _ := hz
    unfold zspec at hz
    split at hz
    · exact ⟨a, 3, Or.inr (Or.inr ⟨rfl, Or.inr rfl⟩), hz⟩
    · unfold zinv at hz
      split at hz
      · exfalso
        simp only [zpc, zp0, zp1, zp2, zp3, zp4, zp5, zn, Bool.cond_eq_ite] at hz
        repeat' (split at hz)
        all_goals cases hz
      · exact ⟨a, 2, Or.inr (Or.inr ⟨rfl, Or.inl rfl⟩), hz⟩
  all_goals (
    exfalso
    simp only [zx, zn, zs1, zs2, zli, zll, zlf, zldd, zla, zisto, zasto, zlsto, zdsto, zbi, zbl, zbd, zgetf, zputf, zput, zild, zlld, zbld, zias, zlas, zbas, zlen, znew, znat, zadd, zret, Bool.cond_eq_ite] at hz
    repeat' (split at hz)
    all_goals cases hz)
theorem zargs_ok : ∀ {n : Nat} {acc st as rest : List Value}, zargs n acc st = some (as, rest) → ∃ xs : List Value, xs.length = n ∧ as = xs ++ acc ∧ st = xs.reverse ++ rest
  | 0, acc, st, as, rest, h => by
    cases h
    exact ⟨[], rfl, rfl, rfl⟩
  | n + 1, acc, v :: st, as, rest, h => by
    obtain ⟨xs, h1, h2, h3⟩ := zargs_ok (n := n) (acc := v :: acc) h
    exact ⟨xs ++ [v], by simp [h1], by simp [h2], by simp [h3]⟩
  | n + 1, acc, [], as, rest, h => by cases h
/-- the locals at a method's entry -/
theorem zent_in {n0 : Nat} {q : Nat → Nat} {x : Nat × Value} : ∀ {as : List Value} {n b : Nat}, x ∈ zpr n0 q b (zpad n (zsp as)) → x ∈ lv_args b (as.map (zren n0 q)) := by
  have hnil : ∀ (n b : Nat), zpr n0 q b (zpad n []) = [] := by
    intro n
    induction n with
    | zero => intro b; rfl
    | succ n ih => intro b; exact ih (b + 1)
  intro as
  induction as with
  | nil =>
    intro n b h
    rw [show zsp ([] : List Value) = [] from rfl, hnil] at h
    cases h
  | cons v as ih =>
    intro n b h
    cases v with
    | long y =>
      cases n with
      | zero =>
        have h' : x ∈ zpr n0 q b (.long y :: .null :: zpad 0 (zsp as)) := h
        simp only [zpr, List.mem_cons] at h'
        rcases h' with h' | h'
        · exact List.mem_cons.mpr (Or.inl h')
        · exact List.mem_cons_of_mem _ (ih (n := 0) h')
      | succ n =>
        cases n with
        | zero =>
          have h' : x ∈ zpr n0 q b (.long y :: .null :: zpad 0 (zsp as)) := h
          simp only [zpr, List.mem_cons] at h'
          rcases h' with h' | h'
          · exact List.mem_cons.mpr (Or.inl h')
          · exact List.mem_cons_of_mem _ (ih (n := 0) h')
        | succ n =>
          have h' : x ∈ zpr n0 q b (.long y :: .null :: zpad n (zsp as)) := h
          simp only [zpr, List.mem_cons] at h'
          rcases h' with h' | h'
          · exact List.mem_cons.mpr (Or.inl h')
          · exact List.mem_cons_of_mem _ (ih (n := n) h')
    | double y =>
      cases n with
      | zero =>
        have h' : x ∈ zpr n0 q b (.double y :: .null :: zpad 0 (zsp as)) := h
        simp only [zpr, List.mem_cons] at h'
        rcases h' with h' | h'
        · exact List.mem_cons.mpr (Or.inl h')
        · exact List.mem_cons_of_mem _ (ih (n := 0) h')
      | succ n =>
        cases n with
        | zero =>
          have h' : x ∈ zpr n0 q b (.double y :: .null :: zpad 0 (zsp as)) := h
          simp only [zpr, List.mem_cons] at h'
          rcases h' with h' | h'
          · exact List.mem_cons.mpr (Or.inl h')
          · exact List.mem_cons_of_mem _ (ih (n := 0) h')
        | succ n =>
          have h' : x ∈ zpr n0 q b (.double y :: .null :: zpad n (zsp as)) := h
          simp only [zpr, List.mem_cons] at h'
          rcases h' with h' | h'
          · exact List.mem_cons.mpr (Or.inl h')
          · exact List.mem_cons_of_mem _ (ih (n := n) h')
    | int y =>
      have h' : x ∈ zpr n0 q b (.int y :: zpad (n - 1) (zsp as)) := by cases n <;> exact h
      simp only [zpr, List.mem_cons] at h'
      rcases h' with h' | h'
      · exact List.mem_cons.mpr (Or.inl h')
      · exact List.mem_cons_of_mem _ (ih h')
    | float y =>
      have h' : x ∈ zpr n0 q b (.float y :: zpad (n - 1) (zsp as)) := by cases n <;> exact h
      simp only [zpr, List.mem_cons] at h'
      rcases h' with h' | h'
      · exact List.mem_cons.mpr (Or.inl h')
      · exact List.mem_cons_of_mem _ (ih h')
    | ref y =>
      have h' : x ∈ zpr n0 q b (.ref y :: zpad (n - 1) (zsp as)) := by cases n <;> exact h
      simp only [zpr, List.mem_cons] at h'
      rcases h' with h' | h'
      · exact List.mem_cons.mpr (Or.inl h')
      · exact List.mem_cons_of_mem _ (ih h')
    | retAddr y =>
      have h' : x ∈ zpr n0 q b (.retAddr y :: zpad (n - 1) (zsp as)) := by cases n <;> exact h
      simp only [zpr, List.mem_cons] at h'
      rcases h' with h' | h'
      · exact List.mem_cons.mpr (Or.inl h')
      · exact List.mem_cons_of_mem _ (ih h')
    | null =>
      have h' : x ∈ zpr n0 q b (.null :: zpad (n - 1) (zsp as)) := by cases n <;> exact h
      simp only [zpr] at h'
      exact List.mem_cons_of_mem _ (ih h')
theorem zpad_len : ∀ (n : Nat) (l : List Value), l.length ≤ n → (zpad n l).length = n
  | 0, l, h => by
    cases l with
    | nil => rfl
    | cons a l => simp at h
  | n + 1, [], h => by simp [zpad, zpad_len n [] (Nat.zero_le n)]
  | n + 1, a :: l, h => by simp [zpad, zpad_len n l (by simpa using h)]
theorem zsp_len (n0 : Nat) (q : Nat → Nat) : ∀ as : List Value, (lg_sl (as.map (zren n0 q))).length = (zsp as).length
  | [] => rfl
  | v :: as => by
    have ih := zsp_len n0 q as
    cases v <;> simp_all [lg_sl, zsp, zren, Value.category]
theorem zentLoc {n0 : Nat} {q : Nat → Nat} {as : List Value} {n : Nat} (h : (zsp as).length ≤ n) : zLoc n0 q n (zent n as) ((lg_sl (as.map (zren n0 q)) ++ List.replicate (n - (lg_sl (as.map (zren n0 q))).length) Slot.unset).toArray) := by
  have h1 := lv_entry (as.map (zren n0 q)) (n := n) (by rw [zsp_len]; exact h)
  exact ⟨zpad_len _ _ h, h1.1, h1.2.1, fun x hx => h1.2.2 x (zent_in hx)⟩
end
section
/-! the whole run: a call of the small machine gives the callee's contract -/
def zws (m : zMt) : List Cond := Cond.code (zy m) (zb m) (zmx m) (zrt m) :: zTb
def zrm (m : zMt) (M M1 : zM) : Room := { frames := zlv m + 1, cells := M1.1.length - M.1.length, slots := zsize M1.1 - zsize M.1, locals := zlo (zlv m) }
def zPre (D : va_G) (kA : Nat → ClassId) (n0 : Nat) (q : Nat → Nat) (X : zSc) (as : List Value) (M : zM) : Array Value → State → Prop := va_Pc (as.map (zren n0 q)) (fun U => zW D kA n0 q M U.heap ∧ va_K D vwCl (ztys kA) U ∧ zExt n0 q X U U.heap)
def zQc (D : va_G) (kA : Nat → ClassId) (n0 : Nat) (q : Nat → Nat) (v : Option Value) (M : zM) : Array Value → State → Outcome → State → Prop := fun _ st oc t => oc = .returned (v.map (zren n0 q)) ∧ zW D kA n0 q M t.heap ∧ va_F (zA n0) st t
theorem zgd {m : zMt} (hg : zGood m) : GoodIn zTb (zws m) := by
  intro w hw
  rcases List.mem_cons.mp hw with rfl | h
  · exact ⟨zg hg.2.1 rfl, good_of_word rfl⟩
  · exact ⟨h, good_of_word (List.mem_filter.mp h).2⟩
theorem zPre_blind {D : va_G} {kA : Nat → ClassId} {n0 : Nat} {q : Nat → Nat} {X : zSc} {as : List Value} {M : zM} : FrameBlind (zPre D kA n0 q X as M) := by
  rintro a U g mk ⟨h1, h2, h3, h4⟩
  exact ⟨h1, h2, va_K.moved (u := U) (U := U.calling g mk a) (Vm.Alike.refl U.vm) h3, zExt.same (s := U) (U := U.calling g mk a) rfl h4⟩
theorem zdec_ok {m : zMt} (h : (zcd m).all (fun p => p.2.all (zgo1 m)) = true) {pc n : Nat} {i : Instr} (hf : zfd2 (zcd m) pc = some (i, n)) : zgo1 m (pc, i, n) = true := by
  obtain ⟨p, h1, h2⟩ := zfd2_mem hf
  exact List.all_eq_true.mp (List.all_eq_true.mp h p h1) _ h2
theorem zmet {X : zSc} {D : va_G} {kA : Nat → ClassId} {n0 : Nat} {q : Nat → Nat} {l : Launch} {m0 : zMt} {as : List Value} {v : Option Value} {M M1 : zM} (hg : zGood m0) (hsp : (zsp as).length ≤ zmx m0)
    (body : ∀ {p : Program} {e : Env} {R : Room} {s : State} {m : MethodId} {args : Array Value} {below : List Frame} {meth : Method} {c : Code} {Q : State → Prop} {len0 sz0 : Nat}, zCx D kA n0 q X m0 p R s m args meth c → len0 ≤ M.1.length ∧ sz0 ≤ zsize M.1 → M1.1.length - len0 ≤ R.cells ∧ zsize M1.1 - sz0 ≤ R.slots → (∀ (pc' : Nat) (ls' : List Value) (i : Instr), decode (zb m0) pc' = .ok (i, 1) → zRt m0 i v → zWs D kA n0 q m0 p l e R s m args below meth c Q len0 sz0 pc' ls' v.toList M1) → zWs D kA n0 q m0 p l e R s m args below meth c Q len0 sz0 0 (zent (zmx m0) as) [] M) :
    Met l (zy m0) (zws m0) (zrm m0 M M1) (zPre D kA n0 q X as M) (zQc D kA n0 q v M1) (M1.1.length - M.1.length) (zsize M1.1 - zsize M.1) (zA n0) := by
  obtain ⟨g1, g2, g3, g4, g5, g6, g7⟩ := hg
  refine va_MetF (cc := zb m0) (maxL := zmx m0) (ret := zrt m0) (ws' := zTb) g4 rfl ?_
  intro p e s m args below meth c s₁ B hml hv
  obtain ⟨rfl, hW, hK, hE⟩ := hv
  have hx := B.exec
  have hb := B.bytes
  have hr := B.returns
  have hlocks := B.notSynchronized
  have hts := atoms_spec (ws := zws m0) B.pre
  have hown : s.vm.findClass (zcn (zow m0)) = some m.cls := by rw [← g3]; exact findClass_of_methodNamed B.named
  have hnm : (zy m0).name = "<init>" → meth.name = "<init>" := fun h => (name_of_methodNamed B.named B.method).1.trans h
  have hn0 : n0 ≤ s.heap.size := by rw [hW.1]; exact Nat.le_add_right _ _
  have C : zCx D kA n0 q X m0 p (headSpec (zws m0) (zrm m0 M M1)).room s m (as.map (zren n0 q)).toArray meth c := ⟨hx, hb, hml, hown, fun w hw => hts w (List.mem_cons_of_mem _ hw), hnm, hK, hn0, hE, Nat.le_refl _, Nat.le_refl _, g1⟩
  rw [lg_entry_eq]
  have K := body (e := e) (below := below) (Q := MQ below (zQc D kA n0 q v M1) (as.map (zren n0 q)).toArray s (M1.1.length - M.1.length) (zsize M1.1 - zsize M.1) (zA n0)) (len0 := M.1.length) (sz0 := zsize M.1) C ⟨Nat.le_refl _, Nat.le_refl _⟩ ⟨Nat.le_refl _, Nat.le_refl _⟩ ?_ s.heap [] _ hW va_S.rf (zentLoc hsp)
  · rw [Nat.sub_self, Nat.sub_self] at K
    exact K
  · intro pc' ls' i hdec hrt H locs lsM hW1 hS hl
    rcases hrt with ⟨rfl, rfl, h3⟩ | ⟨x, rfl, rfl, h3⟩ | ⟨x, rfl, rfl, h3⟩ | ⟨x, rfl, rfl, h3⟩
    · exact W.vret hx hb (hr.trans h3) (fun t ht hW2 => ⟨rfl, by rw [ht]; exact hW1, hS.F ht⟩) hS.2.2 hdec
    · rcases h3 with h3 | ⟨h3, h4⟩
      · exact W.iret hx hb (hr.trans h3) (fun t ht hW2 => ⟨rfl, by rw [ht]; exact hW1, hS.F ht⟩) hS.2.2 hdec
      · exact W.zret (ty := .boolean) hx hb (hr.trans h3) (by rcases h4 with rfl | rfl <;> rfl) (fun t ht hW2 => ⟨rfl, by rw [ht]; exact hW1, hS.F ht⟩) hS.2.2 hdec
    · exact W.lret hx hb (hr.trans h3) (fun t ht hW2 => ⟨rfl, by rw [ht]; exact hW1, hS.F ht⟩) hS.2.2 hdec
    · exact W.dret hx hb (hr.trans h3) (fun t ht hW2 => ⟨rfl, by rw [ht]; exact hW1, hS.F ht⟩) hS.2.2 hdec
theorem zs_back {D : va_G} {kA : Nat → ClassId} {n0 : Nat} {q : Nat → Nat} {p : Program} {l : Launch} {e : Env} {R : Room} {s : State} {m : MethodId} {args a : Array Value} {below : List Frame} {meth : Method} {c : Code} {Q : State → Prop} {H : Heap} {locs : List Loc} {cells slots mc ms pc : Nat} {ls : Array Slot} {st0 rest : List Value} {v : Option Value} {M1 : zM} (hn0 : n0 ≤ s.heap.size) (hr : va_Run p l e R s m args below meth c H locs cells slots mc ms (F0 m pc ls st0) rest (zQc D kA n0 q v M1 a) (zA n0)) (hS : va_S (zA n0) s.heap H locs)
    (kk : ∀ (H1 : Heap) (locs1 : List Loc), zW D kA n0 q M1 H1 → va_S (zA n0) s.heap H1 locs1 → W p l e R s m args below meth c H1 locs1 (cells + mc) (slots + ms) Q (F0 m (pc + 3) ls ((v.map (zren n0 q)).toList ++ rest))) : W p l e R s m args below meth c H locs cells slots Q (F0 m pc ls st0) := by
  intro T hT X
  obtain ⟨v', st₀, t, T', L, h0, X', hL, e1, e2, ⟨h3, h4, h5, h6⟩, st⟩ := hr T hT X
  cases h3
  rw [h0] at h5 h6
  obtain ⟨t2, a1, b1⟩ := kk T'.heap (locs ++ L) (by rw [e1]; exact h4) ⟨Nat.le_trans hS.1 (by rw [e1]; exact h5), fun a g1 g2 => by rw [e1, h6 a (Nat.lt_of_lt_of_le g1 hS.1) g2]; exact hS.2.1 a g1 g2, fun a ha => by
    rcases List.mem_append.mp ha with h | h
    · exact hS.2.2 a h
    · exact hL a h⟩ T' rfl X'
  exact ⟨t2, st t2 a1, b1⟩
set_option maxHeartbeats 4000000 in
theorem zsound {X : zSc} : ∀ (f : Nat) {m0 : zMt} {pc : Nat} {ls st : List Value} {M : zM} {r : Option Value} {M' : zM}, zrun X f m0 pc ls st M = some (r, M') → ∀ {D : va_G} {kA : Nat → ClassId} {n0 : Nat} {q : Nat → Nat} {p : Program} {l : Launch} {e : Env} {R : Room} {s : State} {m : MethodId} {args : Array Value} {below : List Frame} {meth : Method} {c : Code} {Q : State → Prop} {len0 sz0 : Nat}, zCx D kA n0 q X m0 p R s m args meth c → len0 ≤ M.1.length ∧ sz0 ≤ zsize M.1 → M'.1.length - len0 ≤ R.cells ∧ zsize M'.1 - sz0 ≤ R.slots → (∀ (pc' : Nat) (ls' : List Value) (i : Instr), decode (zb m0) pc' = .ok (i, 1) → zRt m0 i r → zWs D kA n0 q m0 p l e R s m args below meth c Q len0 sz0 pc' ls' r.toList M') → zWs D kA n0 q m0 p l e R s m args below meth c Q len0 sz0 pc ls st M := by
  intro f
  induction f with
  | zero => intro m0 pc ls st M r M' h; cases h
  | succ f ih =>
    intro m0 pc ls st M r M' h D kA n0 q p l e R s m args below meth c Q len0 sz0 C h0 hR hret
    have hgood := C.2.2.2.2.2.2.2.2.2.2.2
    rw [zrun] at h
    split at h
    · cases h
    · next pc1 ls1 st1 M1 e1 =>
      unfold zstep at e1
      split at e1
      · next i n hf =>
        have hgo := zdec_ok hgood hf
        have hle := (zx_shp e1).le
        have hle2 := zrun_le2 _ h
        have hpc : pc1 ≠ 65535 := by
          intro he
          subst he
          cases f with
          | zero => cases h
          | succ f =>
            rw [zrun] at h
            cases e2 : zfd2 (zcd m0) 65535 with
            | none =>
              have e3 : zstep X m0 65535 ls1 st1 M1 = none := by unfold zstep; rw [e2]
              rw [e3] at h
              cases h
            | some y =>
              obtain ⟨i2, n2⟩ := y
              have h9 := zdec_ok hgood e2
              simp only [zgo1, Bool.and_eq_true] at h9
              have h10 := Nat.le_of_ble_eq_true h9.2.2.2
              simp at h10
        exact zs_one C hgo e1 hpc h0 (by omega) (ih h C (by omega) hR hret)
      · cases e1
    · next mj as pc1 rest e1 =>
      split at h
      · cases h
      · next v M1 e2 =>
        unfold zstep at e1
        split at e1
        · next i n hf =>
          have hgo := zdec_ok hgood hf
          simp only [zgo1, Bool.and_eq_true, decide_eq_true_eq] at hgo
          obtain ⟨hdec, hlen, -⟩ := hgo
          obtain ⟨idx, kind, hk, hcall⟩ := zx_call e1
          obtain ⟨na, hlk, hlv, hargs, hcat, hsp, rfl, hkind⟩ := zcall_ok hcall
          have hle1 := zrun_le2 _ e2
          have hle2 := zrun_le2 _ h
          have K := ih h C (by omega) hR hret
          obtain ⟨hx, hb, hml, hown, hts, hnm, hK, hn0, hE, hfr, hlo, -⟩ := id C
          have hMok := zM_ok hlk
          obtain ⟨hg, hmk⟩ := hMok
          have hM : Met l (zy mj) (zws mj) (zrm mj M M1) (zPre D kA n0 q X as M) (zQc D kA n0 q v M1) (M1.1.length - M.1.length) (zsize M1.1 - zsize M.1) (zA n0) := zmet hg hsp (fun C2 h2 hR2 hret2 => ih e2 C2 h2 hR2 hret2)
          obtain ⟨xs, hx1, hx2, hx3⟩ := zargs_ok hargs
          rw [List.append_nil] at hx2
          subst hx2
          subst hx3
          have hRR : (zrm mj M M1).frames + 1 ≤ R.frames ∧ 8 + (zmx mj + 11) + (zrm mj M M1).locals ≤ R.locals := by
            have h9 := hg.2.2.2.2.2.2
            simp only [Bool.and_eq_true] at h9
            have h10 := Nat.le_of_ble_eq_true h9.2
            show zlv mj + 1 + 1 ≤ R.frames ∧ 8 + (zmx mj + 11) + zlo (zlv mj) ≤ R.locals
            unfold zlo at hlo ⊢
            omega
          intro H locs lsM hW hS hl
          have hpre : ∀ U : State, U.heap = H → s.WarmedH U.vm → zPre D kA n0 q X as M (as.map (zren n0 q)).toArray U := fun U hU hWU => ⟨rfl, by rw [hU]; exact hW, va_K.moved hWU.alike hK, by rw [hU]; exact zExt.at hE hn0 hS.2.1 hWU⟩
          have hsum : 2 * (F0 m pc lsM ((as.reverse ++ rest).map (zren n0 q))).monitorRoom + ((rest.map (zren n0 q)).map fun v => v.category).sum ≤ 8 := lv_room (by rw [zcat_eq]; exact hcat)
          have hcells : M.1.length - len0 + (M1.1.length - M.1.length) = M1.1.length - len0 := by omega
          have hslots : zsize M.1 - sz0 + (zsize M1.1 - zsize M.1) = zsize M1.1 - sz0 := by omega
          have hf2 : M.1.length - len0 + (M1.1.length - M.1.length) ≤ R.cells ∧ zsize M.1 - sz0 + (zsize M1.1 - zsize M.1) ≤ R.slots := by rw [hcells, hslots]; omega
          have hgoon : ∀ (a' : Array Value) (hdec3 : n = 3), va_Run p l e R s m args below meth c H locs (M.1.length - len0) (zsize M.1 - sz0) (M1.1.length - M.1.length) (zsize M1.1 - zsize M.1) (F0 m pc lsM ((as.reverse ++ rest).map (zren n0 q))) (rest.map (zren n0 q)) (zQc D kA n0 q v M1 a') (zA n0) → W p l e R s m args below meth c H locs (M.1.length - len0) (zsize M.1 - sz0) Q (F0 m pc lsM ((as.reverse ++ rest).map (zren n0 q))) := by
            intro a' hn3 hrun
            subst hn3
            refine zs_back hn0 hrun hS (fun H1 locs1 hW1 hS1 => ?_)
            rw [hcells, hslots]
            have K2 := K H1 locs1 lsM hW1 hS1 hl
            rw [List.map_append] at K2
            cases v with
            | none => exact K2
            | some v => exact K2
          have hmh := hg.2.2.2.2.2.1
          rcases hk with ⟨rfl, rfl⟩ | ⟨rfl, rfl⟩ | ⟨rfl, hkk⟩
          · have hn3 : n = 3 := (Nat.eq_of_beq_eq_true hlen).symm
            subst hn3
            obtain ⟨hl1, hl2, hl3, hl4⟩ := hmk
            rcases hkind with ⟨-, b, t, rfl, hcl⟩ | h9 | ⟨h9, -⟩
            · have hpar : (parseMethodDescriptor (zy mj).desc).map (fun d => d.parameters.length) = some t.length := by
                simp only [zpar, Option.map_eq_some_iff] at hl4 ⊢
                obtain ⟨k, ⟨y, hy, hy2⟩, hk2⟩ := hl4
                refine ⟨y, hy, ?_⟩
                simp at hx1
                omega
              refine hgoon _ rfl (va_runV (C := (zy mj).cls) (As := t.map (zren n0 q)) (b := n0 + b) (Ts := zTb) (own := zcn (zow m0)) ⟨hx, hb, hml, hown, hts⟩ hM ⟨callB_of t.length hts (zgd hg) rfl rfl rfl (hts _ (zg hg.2.2.2.2.1 rfl)) (hts _ (zg hl1 rfl)) ⟨hmh.1, hmh.2, hpar⟩ hRR, hts _ (zg hl2 rfl), hts _ (zg hl3 rfl)⟩ ⟨zPre_blind, ?_, fun U hU hWU => hpre U hU hWU⟩ rfl (by simp) hl.2.1 (by simp [zren]) hsum hdec hf2)
              unfold zcls at hcl
              split at hcl
              · next cc fs hgt =>
                cases hcl
                obtain ⟨r1, h11, cell, h12, h13, h14, -⟩ := hW.2 b _ (zwd_get hgt)
                have h15 : r1.1 = zcn (zow mj) := by
                  obtain ⟨C1, T1, N1⟩ := r1
                  exact (zcn_cl (ci := zow mj) (T := T1) (N := N1) (by rw [zgt_eq]; exact h11)).symm
                refine ⟨cell, h12, by rw [h14]; rfl, ?_⟩
                rw [h13, hg.2.2.1, ← h15]
                exact (hK.1 _ _ h11).2.1
              · cases hcl
            · cases h9
            · rcases h9 with h9 | h9 <;> cases h9
          · have hn3 : n = 3 := (Nat.eq_of_beq_eq_true hlen).symm
            subst hn3
            obtain ⟨hl1, hl2, hl4⟩ := hmk
            have hpar : (parseMethodDescriptor (zy mj).desc).map (fun d => d.parameters.length) = some as.length := by
              rw [hx1]; exact hl4
            exact hgoon _ rfl (va_runS (As := as.map (zren n0 q)) (Ts := zTb) (own := zcn (zow m0)) ⟨hx, hb, hml, hown, hts⟩ hM ⟨callB_of as.length hts (zgd hg) rfl rfl rfl (hts _ (zg hg.2.2.2.2.1 rfl)) (hts _ (zg hl1 rfl)) ⟨hmh.1, hmh.2, hpar⟩ hRR, hts _ (zg hl2 rfl)⟩ ⟨zPre_blind, hpre⟩ rfl (by simp) hl.2.1 (by simp) hsum hdec hf2)
          · have hn3 : n = 3 := (Nat.eq_of_beq_eq_true hlen).symm
            subst hn3
            have hkind2 : ∃ b t, as = .ref b :: t := by
              rcases hkind with ⟨rfl, -⟩ | rfl | ⟨-, h9⟩
              · rcases hkk with h9 | h9 <;> cases h9
              · rcases hkk with h9 | h9 <;> cases h9
              · exact h9
            obtain ⟨b, t, rfl⟩ := hkind2
            rcases hkk with rfl | rfl
            · obtain ⟨hl1, hl2, hl3, hl5, hl4⟩ := hmk
              have hpar : (parseMethodDescriptor (zy mj).desc).map (fun d => d.parameters.length) = some t.length := by
                simp only [zpar, Option.map_eq_some_iff] at hl4 ⊢
                obtain ⟨k, ⟨y, hy, hy2⟩, hk2⟩ := hl4
                refine ⟨y, hy, ?_⟩
                simp at hx1
                omega
              exact hgoon _ rfl (va_runI (maxL := zmx mj) (bytes := zb mj) (As := t.map (zren n0 q)) (b := n0 + b) (Ts := zTb) (own := zcn (zow m0)) ⟨hx, hb, hml, hown, hts⟩ hM ⟨callB_of (ws' := zTb) t.length hts (zgd hg) (by rw [← hl5]; rfl) rfl rfl (hts _ (zg hg.2.2.2.2.1 rfl)) (hts _ (zg hl1 rfl)) ⟨hmh.1, hmh.2, hpar⟩ hRR, hl3, hts _ (zg hl2 rfl)⟩ ⟨zPre_blind, hpre⟩ rfl (by simp) hl.2.1 (by simp [zren]) hsum hdec hf2)
            · obtain ⟨hl1, hl2, hl3, hl5, hl4⟩ := hmk
              have hpar : (parseMethodDescriptor (zy mj).desc).map (fun d => d.parameters.length) = some t.length := by
                simp only [zpar, Option.map_eq_some_iff] at hl4 ⊢
                obtain ⟨k, ⟨y, hy, hy2⟩, hk2⟩ := hl4
                refine ⟨y, hy, ?_⟩
                simp at hx1
                omega
              exact hgoon _ rfl (va_runIN (host := "DoubleLedger") (maxL := zmx mj) (bytes := zb mj) (As := t.map (zren n0 q)) (b := n0 + b) (Ts := zTb) (own := zcn (zow m0)) ⟨hx, hb, hml, hown, hts⟩ hM ⟨va_cnB (ws' := zTb) t.length hts (zgd hg) (by rw [← hl5]; rfl) rfl rfl (hE.2.2.2 _ _ _ hl1) (hts _ (zg hg.2.2.2.2.1 rfl)) ⟨hmh.1, hmh.2, hpar⟩ hRR, hl3, hts _ (zg hl2 rfl)⟩ ⟨zPre_blind, hpre⟩ rfl (by simp) hl.2.1 (by simp [zren]) hsum hdec hf2)
        · cases e1
    · next v e1 =>
      cases h
      unfold zstep at e1
      split at e1
      · next i n hf =>
        have hgo := zdec_ok hgood hf
        simp only [zgo1, Bool.and_eq_true, decide_eq_true_eq] at hgo
        obtain ⟨hdec, hlen, -⟩ := hgo
        obtain ⟨rfl, hrt⟩ := zx_ret e1
        have hn1 : n = 1 := by
          rcases hrt with ⟨-, rfl, -⟩ | ⟨x, -, rfl, -⟩ | ⟨x, -, rfl, -⟩ | ⟨x, -, rfl, -⟩ <;> exact (Nat.eq_of_beq_eq_true hlen).symm
        subst hn1
        exact hret pc ls i hdec hrt
      · cases e1
end
section
theorem law_ev (X : zSc) (hX : X.1 ≤ 3072) : ∃ M' : zM, zEv X mt_L_law 0 (zent 4 [.retAddr 2]) [] ([], fun _ _ => 0, fun _ _ => 0) (some (.int 1), M') ∧ M'.1.length ≤ 600000 ∧ zsize M'.1 ≤ 7302250 := by
  sorry
end
section
/-! THE CLAIM OUT OF ONE WALK OF THE LAW'S BODY. Your part is whole_start (and what it stands on); all else here is the same for every law, but numbers. -/
def R_law : String := "DoubleLedgerLaw"
def lw_P (b : Addr) (xs : List Int32) (args : Array Value) (s : State) : Prop := args = #[.ref b] ∧ s.IntsAt b xs ∧ xs.length ≤ 3072 ∧ (Jvm.Cond.and given_1 narrow_1).before args s = true
/-- what a walk over the start with the record d0 says of its end, said of the start itself -/
theorem lw_closed {s t : State} {o : Outcome} {d0 : Drawn} {L : List Loc} {k n : Nat} (hd0 : s.drawn.sameBut d0 lw_cs) (hv : ∃ v, o = .returned v) (hW : (s.setDrawn d0).WarmedH t.vm) (hs : (s.setDrawn d0).sameButNew ({ t with vm := s.vm } : State) L k n) : State.butDraws s t lw_cs (fun t1 => Framed s o t1 L k n) := by
  have h2 : t.drawn = d0 := congrArg State.drawn hs.1
  refine ⟨⟨hv, hW, State.sameButNew.setDrawn hs s.drawn⟩, ?_, by decide⟩
  rw [h2]
  exact hd0
def lw_Q (_ : Array Value) (s : State) (o : Outcome) (t : State) : Prop := o = .returned (some (.int 1)) ∧ State.butDraws s t lw_cs (fun t1 => Framed s o t1 [] 600000 7302250)
def lw_Z (below : List Frame) (a : Array Value) (s : State) : State → Prop := fun t => ∃ o, t.status = .running ∧ Ended t below o ∧ lw_Q a s o t
/-- the law's own end, with 1 on the stack, nothing written that was there before, its room as the claim has it; d0: the record of draws at this point (at the entry s.drawn: begin with 'refine W.base ?_' and 'have hd0 := Drawn.sameBut.refl s.drawn lw_cs') -/
theorem lw_ret {p : Program} {l : Launch} {e : Env} {s : State} {m : MethodId} {below : List Frame} {meth : Method} {c : Code} {b : Nat} {d0 : Drawn} (hd0 : s.drawn.sameBut d0 lw_cs) (hx : p.tables.exec = Jvm.exec) (hb : c.code = code) (hr : meth.sig.returnType = ret) (hlocks : meth.locks = false) {pc : Nat} {H : Heap} {ls : Array Slot} (hdg : decode code pc = .ok (.ireturn, 1)) : W p l e room_1 (s.setDrawn d0) m #[Value.ref b] below meth c H [] 600000 7302250 (lw_Z below #[Value.ref b] s) (F0 m pc ls [.int 1]) := by
  intro T hT X
  obtain ⟨fs, hret, hrun, hended, hW, hframe⟩ := X.leave (v := some (.int 1)) (hlocks := hlocks) (fun h => by rw [hr] at h; cases h)
  have hmeth' : T.vm.method? m = some meth := X.method'
  refine ⟨T.setFrames fs, ?_, .returned (some (.int 1)), hrun, hended, rfl, lw_closed hd0 ⟨_, rfl⟩ hW hframe⟩
  jvm_step X.here [X.here.top, hx, hb, hdg, hmeth', hr, ret, narrow_b1]
  (try refine ⟨rfl, ?_⟩); (try refine ⟨rfl, ?_⟩)
  first | (intro acts; rw [hret _ acts rfl rfl rfl]) | rw [hret _ _ rfl rfl rfl]
  exact Steps.refl _
/-- what holds at the law's entry: the machine, the code, the tables' words (any of lw_tbl by 'hts w (by decide +kernel)'), the script of L ints xs at the cell b, what the Statement gives of the start (any of its parts by flat_of_before) -/
def lw_At (p : Program) (s : State) (m : MethodId) (meth : Method) (c : Code) (b L : Nat) (xs : Nat → Int32) : Prop :=
  p.tables.exec = Jvm.exec ∧ c.code = code ∧ meth.sig.returnType = ret ∧ c.maxLocals = 4 ∧ s.vm.findClass R_law = some m.cls ∧ (∀ w ∈ lw_tbl, w.before #[Value.ref b] s = true) ∧ va_X b L xs s s.heap ∧ b < s.heap.size ∧ meth.locks = false ∧ (Jvm.Cond.and given_1 narrow_1).before #[Value.ref b] s = true
def zSc2 (own idx k : Nat) : Bool := (Nat.beq own 9 && (Nat.beq idx 59 && Nat.beq k 0)) || (Nat.beq own 7 && (Nat.beq idx 41 && Nat.beq k 1))
theorem zS_all : zlkST.all (fun q => q.2.all fun p => p.2.all fun e => zSc2 q.1 e.1 e.2) = true := by decide +kernel
theorem zS_ok {own idx k : Nat} (h : zlkS own idx = some k) : (own = 9 ∧ idx = 59 ∧ k = 0) ∨ (own = 7 ∧ idx = 41 ∧ k = 1) := by
  have h1 := zlk_all (t := zlkST) (f := zSc2) zS_all h
  simp only [zSc2, Bool.or_eq_true, Bool.and_eq_true] at h1
  rcases h1 with ⟨h1, h2, h3⟩ | ⟨h1, h2, h3⟩
  · exact Or.inl ⟨Nat.eq_of_beq_eq_true h1, Nat.eq_of_beq_eq_true h2, Nat.eq_of_beq_eq_true h3⟩
  · exact Or.inr ⟨Nat.eq_of_beq_eq_true h1, Nat.eq_of_beq_eq_true h2, Nat.eq_of_beq_eq_true h3⟩
theorem zarr {s : State} {args : Array Value} {ty : FieldType} (h : (Cond.arrayClass ty).before args s = true) (hp : ∀ C, ty ≠ .object C) : ∃ c : ClassId, ArrOfT s c ty ∧ va_RA s c ty := by
  obtain ⟨c, k, comp, h1, h2, h3⟩ := Cond.arrayClass_spec h
  refine ⟨c, fun n z => ⟨fun k h => (by cases h), k, h2, comp, h3⟩, ?_⟩
  cases ty with
  | object C => exact absurd rfl (hp C)
  | _ => exact h1
/-- the text constant of a class: its cells -/
theorem zstr1 {s : State} {args : Array Value} {own : String} {idx : Nat} (hg : (Jvm.Cond.and given_1 narrow_1).before args s = true) (hw : (Cond.stringRef own idx " REV").before args s = true)
    (h1 : Cond.exactly (Term.string own idx) "java/lang/String" ∈ flatC (Jvm.Cond.and given_1 narrow_1)) (h2 : Cond.eq (.field (Term.string own idx) "java/lang/String" "coder" "B") (.int 0) ∈ flatC (Jvm.Cond.and given_1 narrow_1)) (h3 : Cond.arrayOf (.field (Term.string own idx) "java/lang/String" "value" "[B") .byte ∈ flatC (Jvm.Cond.and given_1 narrow_1)) (h4 : Cond.eq (.length (.field (Term.string own idx) "java/lang/String" "value" "[B")) (.int 4) ∈ flatC (Jvm.Cond.and given_1 narrow_1))
    (h5 : ∀ j, j < 4 → Cond.eq (.elem (.field (Term.string own idx) "java/lang/String" "value" "[B") (.int (Int32.ofNat j))) (.int (zch j)) ∈ flatC (Jvm.Cond.and given_1 narrow_1)) :
    ∃ a v, vk_R own idx " REV" a s ∧ va_O "java/lang/String" a (zA s.heap.size) s s.heap ∧ va_OF "java/lang/String" "coder" "B" (.int 0) a (zA s.heap.size) s s.heap ∧ va_OF "java/lang/String" "value" "[B" (.ref v) a (zA s.heap.size) s s.heap ∧ va_T .byte v 4 (fun j => .int (zch j)) (zA s.heap.size) s s.heap := by
  have hs := flat_of_before _ hg
  obtain ⟨adK, adV, hV, hT⟩ := vk_Sof (N := 1) (tm := fun _ => Term.string own idx) (len := [4]) (byt := [[32, 82, 69, 86]]) (A := zA s.heap.size) (args := args) (s := s) (fun i hi => by rw [show i = 0 by omega]; decide) (fun i hi => hs _ h1) (fun i hi => hs _ h2) (fun i hi => hs _ h3) (fun i hi => by rw [show i = 0 by omega]; exact hs _ h4) (fun i hi j hj => by
      rw [show i = 0 by omega] at hj ⊢
      have hj4 : j < 4 := hj
      have h6 := hs _ (h5 j hj4)
      match j, hj4, h6 with
      | 0, _, h6 => exact h6
      | 1, _, h6 => exact h6
      | 2, _, h6 => exact h6
      | 3, _, h6 => exact h6) (fun i j hi hj hne => absurd (show i = j by omega) hne) (fun a ha => Nat.not_le.mpr ha)
  obtain ⟨g1, g2, g3, g4⟩ := hV.1 0 (by decide)
  have g5 : va_T .byte (adV 0) 4 (fun j => .int (zch j)) (zA s.heap.size) s s.heap := by
    obtain ⟨cell, k1, k2, k3, k4, k5, k6, k7⟩ := g4
    refine ⟨cell, k1, k2, k3, k4, k5, fun j hj => ?_, k7⟩
    have k8 := k6 j hj
    match j, hj, k8 with
    | 0, _, k8 => exact k8
    | 1, _, k8 => exact k8
    | 2, _, k8 => exact k8
    | 3, _, k8 => exact k8
  have ht := hT 0 (by decide)
  exact ⟨adK 0, adV 0, vk_R.of hw ht, g1, g2, g3, g5⟩
set_option maxHeartbeats 4000000 in
theorem whole_start {p : Program} {e : Env} {s : State} {m : MethodId} {below : List Frame} {meth : Method} {c : Code} (l : Launch) (hflags : l.flags = flags0) {b L : Nat} {xs : Nat → Int32} (hL : L ≤ 3072) (C0 : lw_At p s m meth c b L xs) : W p l e room_1 s m #[Value.ref b] below meth c s.heap [] 0 0 (lw_Z below #[Value.ref b] s) (entryFrame m ([Value.ref b] : List Value).toArray 4) := by
  obtain ⟨hx, hb, hr, hml, hown, hts, hX, hbl, hlocks, hgv⟩ := id C0
  have hs := flat_of_before _ hgv
  have hA : ∀ a : Nat, a < s.heap.size → ¬ zA s.heap.size a := fun a h => Nat.not_le.mpr h
  obtain ⟨aT, vT, rT, oT⟩ := zstr1 (own := "DoubleLedger$Tape") (idx := 59) hgv (hts _ (zm3 (List.mem_of_getElem? (i := 216) rfl))) (by decide +kernel) (by decide +kernel) (by decide +kernel) (by decide +kernel) (fun j hj => by match j, hj with | 0, _ => decide +kernel | 1, _ => decide +kernel | 2, _ => decide +kernel | 3, _ => decide +kernel)
  obtain ⟨aS, vS, rS, oS⟩ := zstr1 (own := "DoubleLedger$Sheet") (idx := 41) hgv (hts _ (zm4 (List.mem_of_getElem? (i := 49) rfl))) (by decide +kernel) (by decide +kernel) (by decide +kernel) (by decide +kernel) (fun j hj => by match j, hj with | 0, _ => decide +kernel | 1, _ => decide +kernel | 2, _ => decide +kernel | 3, _ => decide +kernel)
  have hKn : ∀ ci : Nat, ∃ (cC : ClassId) (iS : Nat → Nat), ∀ r : vw_C, vwCl[ci]? = some r → u_Kn s r.1 r.2.1 r.2.2 cC iS := by
    intro ci
    cases hci : vwCl[ci]? with
    | none => exact ⟨0, fun _ => 0, fun r hr2 => by cases hr2⟩
    | some r =>
      obtain ⟨C1, T, N⟩ := r
      rw [← zgt_eq] at hci
      obtain ⟨cC, iS, hk⟩ := u_known (C := C1) (T := T) (N := N) (n := N) hts (fun w hw => (List.mem_filter.mp (zin_ok hci w hw)).1) (hts _ (zcls_ok hci).2.2.1)
      exact ⟨cC, iS, fun r hr2 => by cases hr2; exact hk⟩
  obtain ⟨dC, hKn⟩ := Classical.axiomOfChoice hKn
  obtain ⟨dI, hKn⟩ := Classical.axiomOfChoice hKn
  obtain ⟨k0, hk0⟩ := zarr (hts (Cond.arrayClass .int) (by decide +kernel)) (fun C h => by cases h)
  obtain ⟨k1, hk1⟩ := zarr (hts (Cond.arrayClass .long) (by decide +kernel)) (fun C h => by cases h)
  obtain ⟨k2, hk2⟩ := zarr (hts (Cond.arrayClass .byte) (by decide +kernel)) (fun C h => by cases h)
  obtain ⟨k3, hk3⟩ := zarr (hts (Cond.arrayClass .boolean) (by decide +kernel)) (fun C h => by cases h)
  obtain ⟨kA, e0, e1, e2, e3⟩ : ∃ kA : Nat → ClassId, kA 0 = k0 ∧ kA 1 = k1 ∧ kA 2 = k2 ∧ kA 3 = k3 := ⟨fun k => if k = 0 then k0 else if k = 1 then k1 else if k = 2 then k2 else k3, rfl, rfl, rfl, rfl⟩
  obtain ⟨q, q0, q1, q2, q3, q4⟩ : ∃ q : Nat → Nat, q 0 = aT ∧ q 1 = aS ∧ q 2 = b ∧ q 3 = vT ∧ q 4 = vS := ⟨fun k => if k = 0 then aT else if k = 1 then aS else if k = 2 then b else if k = 3 then vT else vS, rfl, rfl, rfl, rfl, rfl⟩
  have hK : va_K (dC, dI) vwCl (ztys kA) s := by
    refine ⟨fun ci r hr2 => hKn ci r hr2, fun k x hk => ?_⟩
    match k, hk with
    | 0, hk => cases hk; show ArrOfT s (kA 0) _ ∧ va_RA s (kA 0) _; rw [e0]; exact hk0
    | 1, hk => cases hk; show ArrOfT s (kA 1) _ ∧ va_RA s (kA 1) _; rw [e1]; exact hk1
    | 2, hk => cases hk; show ArrOfT s (kA 2) _ ∧ va_RA s (kA 2) _; rw [e2]; exact hk2
    | 3, hk => cases hk; show ArrOfT s (kA 3) _ ∧ va_RA s (kA 3) _; rw [e3]; exact hk3
    | k + 4, hk => cases hk
  have hE : zExt s.heap.size q (L, xs) s s.heap := by
    refine ⟨by rw [q2]; exact hX, by rw [q2]; exact hbl, ⟨fun own idx k hk => ?_, fun k hk => ?_, va_Zof (hts _ (zm3 (List.mem_of_getElem? (i := 226) rfl))) (hts _ (zm1 (List.mem_of_getElem? (i := 17) rfl))) (va_eqi (hs _ (by decide +kernel))) hA, va_Zqof (hts _ (zm4 (List.mem_of_getElem? (i := 2) rfl))) (hts _ (zm1 (List.mem_of_getElem? (i := 19) rfl))) (hs _ (by decide +kernel)) hA⟩, fun own idx y hm => va_Nw.of rfl (hts _ hm)⟩
    · rcases zS_ok hk with ⟨rfl, rfl, rfl⟩ | ⟨rfl, rfl, rfl⟩
      · rw [q0]; exact rT
      · rw [q1]; exact rS
    · match k, hk with
      | 0, _ => show va_O _ (q 0) _ _ _ ∧ va_OF _ _ _ _ (q 0) _ _ _ ∧ va_OF _ _ _ (.ref (q 3)) (q 0) _ _ _ ∧ va_T _ (q 3) _ _ _ _ _; rw [q0, q3]; exact oT
      | 1, _ => show va_O _ (q 1) _ _ _ ∧ va_OF _ _ _ _ (q 1) _ _ _ ∧ va_OF _ _ _ (.ref (q 4)) (q 1) _ _ _ ∧ va_T _ (q 4) _ _ _ _ _; rw [q1, q4]; exact oS
  have C : zCx (dC, dI) kA s.heap.size q (L, xs) mt_L_law p room_1 s m #[Value.ref b] meth c := ⟨hx, hb, hml, hown, fun w hw => hts w (List.mem_filter.mp hw).1, fun h => absurd h (by decide +kernel), hK, Nat.le_refl _, hE, by decide +kernel, by decide +kernel, gk_law⟩
  obtain ⟨M', ⟨f, hf⟩, hM1, hM2⟩ := law_ev (L, xs) hL
  have hd0 := Drawn.sameBut.refl s.drawn lw_cs
  rw [lg_entry_eq]
  have hloc : zLoc s.heap.size q 4 (zent 4 [.retAddr 2]) ((lg_sl ([.retAddr 2].map (zren s.heap.size q)) ++ List.replicate (4 - (lg_sl ([.retAddr 2].map (zren s.heap.size q))).length) Slot.unset).toArray) := zentLoc (by decide)
  have hlist : [.retAddr 2].map (zren s.heap.size q) = [Value.ref b] := by simp [zren, q2]
  rw [hlist] at hloc
  refine zsound f hf C (len0 := 0) (sz0 := 0) ⟨Nat.zero_le _, Nat.zero_le _⟩ ⟨by rw [Nat.sub_zero]; exact hM1, by rw [Nat.sub_zero]; exact hM2⟩ ?_ s.heap [] _ ⟨by simp, fun k x hk => by simp [zwd] at hk⟩ va_S.rf hloc
  intro pc' ls' i hdec hrt H locs lsM hW hS hl
  rcases hrt with ⟨h1, -⟩ | ⟨x, h1, rfl, h3⟩ | ⟨x, h1, -⟩ | ⟨x, h1, -⟩
  · cases h1
  · cases h1
    refine va_forget (fun a ha => hS.2.2 a ha) ?_
    refine W.widen (k := 600000) (n := 7302250) (by simpa using hM1) (by simpa using hM2) ?_
    exact lw_ret (d0 := s.drawn) hd0 hx hb hr hlocks hdec
  · cases h1
  · cases h1
-- ===== YOUR PART ENDS =====
set_option maxHeartbeats 4000000 in
theorem lw_walk (l : Launch) (hflags : l.flags = flags0) (b : Addr) (xs : List Int32) : MetFree l x (headSpec (Jvm.Cond.code x code maxLocals ret :: tables_1) room_1) (lw_P b xs) (fun _ _ _ _ _ => True) lw_Q := by
  refine MetFree.of_bodyS (code := code) (maxLocals := maxLocals) (ret := ret) (by decide) ?_ ?_
  · intro args s m h hn
    obtain ⟨meth, c, h1, h2, h3, h4, h5, h6, -, -⟩ := Cond.code_spec hn (atoms_spec (ws := Jvm.Cond.code x code maxLocals ret :: tables_1) h _ List.mem_cons_self)
    exact ⟨meth, c, h1, h2, h3, h4, h5, h6⟩
  · intro p e s m args below meth c s₁ B hml0 hP _
    obtain ⟨rfl, hx, hbd, hgv⟩ := hP
    obtain ⟨scr, harrAt, hlist, hof, hsmall⟩ := hx
    obtain ⟨hcb, hkn, -, -⟩ := State.arrayAt?_spec harrAt
    have hown : s.vm.findClass R_law = some m.cls := findClass_of_methodNamed B.named
    have hts0 : ∀ c ∈ (Jvm.Cond.code x code maxLocals ret :: tables_1), c.before #[Value.ref b] s = true := atoms_spec (ws := Jvm.Cond.code x code maxLocals ret :: tables_1) B.pre
    have hts : ∀ w ∈ lw_tbl, w.before #[Value.ref b] s = true := k2_hts_sels lw_privs (fun w hw => hts0 w (List.mem_cons_of_mem _ hw)) lw_privs_ok
    have hml : c.maxLocals = 4 := B.maxLocals_eq (hts0 _ List.mem_cons_self)
    have X₀ : Stand p l e room_1 s m #[Value.ref b] below meth c s₁ [] 0 0 := Stand.of_body B
    have hh0 : s₁.heap = s.heap := by rw [B.state]; rfl
    have hsz : scr.slots.size = xs.length := by rw [← Array.length_toList, hlist, List.length_map]
    have hval : ∀ j : Nat, j < xs.length → scr.slots[j]? = some (.int (xs.getD j 0)) := fun j hj => by
      rw [← Array.getElem?_toList, hlist]
      simp [hj]
    have hbl : b < s.heap.size := (Array.getElem?_eq_some_iff.mp hcb).1
    have hX : va_X b xs.length (fun j => xs.getD j 0) s s.heap := ⟨scr, hcb, hof, hkn, hsz, hval⟩
    have K : W p l e room_1 s m #[Value.ref b] below meth c s₁.heap [] 0 0 (lw_Z below #[Value.ref b] s) (entryFrame m ([Value.ref b] : List Value).toArray 4) := by
      rw [hh0]
      exact whole_start l hflags hbd ⟨B.exec, B.bytes, B.returns, hml, hown, hts, hX, hbl, B.notSynchronized, hgv⟩
    obtain ⟨t, a1, o, b1, b2, b3⟩ := K s₁ rfl X₀
    exact ⟨t, o, a1, b1, b2, b3⟩
theorem lw_pre_spec {args : Array Value} {s : State} (h : (Jvm.Cond.and given_1 narrow_1).before args s = true) (hr : rest_1_c.before args s = true) : ∃ (b : Addr) (xs : List Int32), lw_P b xs args s := by
  have hs := flat_of_before _ h
  have hq := flat_of_before _ hr
  have hc : (Cond.count 1).before args s = true := hs _ (by decide +kernel)
  have harr : (Cond.arrayOf (.arg 0) .int).before args s = true := hs _ (by decide +kernel)
  have hle : (Cond.le (.length (.arg 0)) (.int 3072)).before args s = true := hs _ (by decide +kernel)
  have hlen : (Cond.isInt (.length (.arg 0))).before args s = true := hq _ (by decide +kernel)
  have hall : (Cond.all (.arg 0) (.isInt (.elem (.arg 0) (.index 0)))).before args s = true := hq _ (by decide +kernel)
  obtain ⟨b, xs, hb, hx⟩ := State.ints_of_pre rfl harr hlen hall
  have hsm : xs.length < 2 ^ 31 := hx.choose_spec.2.2.2
  have hev : (Term.length (.arg 0)).eval args s none [] s = some (.int xs.length.toInt32) := hx.length_eval hb
  have hv := Cond.le_ints hev (show (Term.int 3072).eval args s none [] s = some (.int 3072) from rfl)
  have hd : xs.length.toInt32 ≤ 3072 := by
    simpa [Cond.before, Cond.holds, hv] using hle
  have hN : xs.length ≤ 3072 := (Int32.ofNat_le_ofNat hsm (by decide)).mp (show Int32.ofNat xs.length ≤ Int32.ofNat 3072 from hd)
  exact ⟨b, xs, Cond.one_arg hc (show args[0]? = some (.ref b) from hb), hx, hN, h⟩
theorem lw_comes (l : Launch) (hflags : l.flags = flags0) : Comes l x (Jvm.Cond.code x code maxLocals ret :: tables_1) room_1 (fun tb e args s => Calls_1 tb e args s ∧ rest_1 tb e args s ∧ Pre_1 tb e args s)
    (fun _ _ args s o t => lw_Q args s o t) := by
  intro p e ha hc hk s m args below hf hfit hheap happ hpre
  obtain ⟨b, xs, hP⟩ := lw_pre_spec hpre.2.2 hpre.2.1
  obtain ⟨k, o, h1, h2, h3, hQ⟩ := lw_walk l hflags b xs p e ha hc hk s m args below hf ((Spec.applies_iff_loose hf).mp happ).1 hP trivial
  exact ⟨k, o, h1, h2, h3, hQ⟩
theorem lw_frame {s t : State} {o : Outcome} {args : Array Value} (h : State.butDraws s t lw_cs (fun t1 => Framed s o t1 [] 600000 7302250)) :
    State.butDraws s t [Jvm.Choice.named "NaN.bits"] (fun t1 => Framed s o t1 (fieldLocs frame_1_writes args s ++ arrayLocs frame_1_arrays args s ++ staticLocs frame_1_statics s) 600000 7302250) := h
theorem lw_limb (L : Cond) (hL : ∀ (args : Array Value) (s t : State), L.after args s (.returned (some (.int 1))) t = true) :
    ArmFor flags0 classFile x code maxLocals ret World_1 tables_1 room_1 Calls_1 rest_1 Pre_1
      (fun tb e a s o t => postC L tb e a s o t ∧ State.butDraws s t [Jvm.Choice.named "NaN.bits"] (fun t1 => Framed s o t1 (fieldLocs frame_1_writes a s ++ arrayLocs frame_1_arrays a s ++ staticLocs frame_1_statics s) 600000 7302250)) := by
  intro l hflags _ _ p e ha hc hk s m args below hf hfit hheap happ hpre
  obtain ⟨k, o, h1, h2, h3, rfl, hF⟩ := lw_comes l hflags p e ha hc hk s m args below hf hfit hheap happ hpre
  exact ⟨k, _, h1, h2, h3, hL args s _, lw_frame hF⟩
theorem i_vc : Claimed_1_1 ∧ Claimed_1_2 := ⟨lw_limb limb_1_1 (fun args s t => by simp [limb_1_1, Cond.after, Cond.holds, Cond.value]), lw_limb limb_1_2 (fun args s t => Cond.after_iff.mpr (by
  first | (rw [show limb_1_2 = Cond.eq .result (.int 1) from rfl, Cond.eq_ints (x := 1) (y := 1) rfl rfl]; simp; done) | (simp [limb_1_2, Cond.value, Term.eval]; done)))⟩
end
