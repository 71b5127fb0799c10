-- ===== PART A: goes FIRST, ahead of the names: the tables' words, and 'selects' of the private methods out of them =====
/-- a private method of a class that the tables say can be made, by its rows of tables_1 -/
def lw_okq (q : MethodName × Nat) : Prop := (q.1.cls ≠ "java/lang/invoke/MethodHandle" ∧ q.1.cls ≠ "java/lang/invoke/VarHandle") ∧ Cond.instantiable q.1.cls q.2 ∈ tables_1 ∧ Cond.privateMethod q.1 ∈ tables_1 ∧ Cond.instanceMethod q.1 ∈ tables_1
theorem lw_p0 : lw_okq (⟨"StrikeDays$Reader", "skipBlanks", "(LStrikeDays$Cells;)V"⟩, 2) := ⟨⟨by decide +kernel, by decide +kernel⟩, List.mem_of_getElem? (i := 119) (by decide +kernel), List.mem_of_getElem? (i := 386) (by decide +kernel), List.mem_of_getElem? (i := 387) (by decide +kernel)⟩
theorem lw_p1 : lw_okq (⟨"StrikeDays$Reader", "isWhole", "()Z"⟩, 2) := ⟨⟨by decide +kernel, by decide +kernel⟩, List.mem_of_getElem? (i := 119) (by decide +kernel), List.mem_of_getElem? (i := 395) (by decide +kernel), List.mem_of_getElem? (i := 396) (by decide +kernel)⟩
theorem lw_p2 : lw_okq (⟨"StrikeDays$Reader", "readItem", "(LStrikeDays$Cells;)Z"⟩, 2) := ⟨⟨by decide +kernel, by decide +kernel⟩, List.mem_of_getElem? (i := 119) (by decide +kernel), List.mem_of_getElem? (i := 400) (by decide +kernel), List.mem_of_getElem? (i := 401) (by decide +kernel)⟩
theorem lw_p3 : lw_okq (⟨"StrikeDays$Reader", "readSort", "(LStrikeDays$Cells;I)Z"⟩, 2) := ⟨⟨by decide +kernel, by decide +kernel⟩, List.mem_of_getElem? (i := 119) (by decide +kernel), List.mem_of_getElem? (i := 404) (by decide +kernel), List.mem_of_getElem? (i := 405) (by decide +kernel)⟩
theorem lw_p4 : lw_okq (⟨"StrikeDays$Reader", "readValue", "(LStrikeDays$Cells;)I"⟩, 2) := ⟨⟨by decide +kernel, by decide +kernel⟩, List.mem_of_getElem? (i := 119) (by decide +kernel), List.mem_of_getElem? (i := 408) (by decide +kernel), List.mem_of_getElem? (i := 409) (by decide +kernel)⟩
theorem lw_p5 : lw_okq (⟨"StrikeDays$Reader", "isFigure", "(LStrikeDays$Cells;)Z"⟩, 2) := ⟨⟨by decide +kernel, by decide +kernel⟩, List.mem_of_getElem? (i := 119) (by decide +kernel), List.mem_of_getElem? (i := 412) (by decide +kernel), List.mem_of_getElem? (i := 413) (by decide +kernel)⟩
theorem lw_p6 : lw_okq (⟨"StrikeDays", "ofQuarrel", "(I)I"⟩, 14) := ⟨⟨by decide +kernel, by decide +kernel⟩, List.mem_of_getElem? (i := 18) (by decide +kernel), List.mem_of_getElem? (i := 447) (by decide +kernel), List.mem_of_getElem? (i := 448) (by decide +kernel)⟩
theorem lw_p7 : lw_okq (⟨"StrikeDays", "refusePair", "(IIZ)I"⟩, 14) := ⟨⟨by decide +kernel, by decide +kernel⟩, List.mem_of_getElem? (i := 18) (by decide +kernel), List.mem_of_getElem? (i := 582) (by decide +kernel), List.mem_of_getElem? (i := 583) (by decide +kernel)⟩
theorem lw_p8 : lw_okq (⟨"StrikeDays$Runs", "isTaken", "(LStrikeDays$Way;III)Z"⟩, 2) := ⟨⟨by decide +kernel, by decide +kernel⟩, List.mem_of_getElem? (i := 134) (by decide +kernel), List.mem_of_getElem? (i := 595) (by decide +kernel), List.mem_of_getElem? (i := 596) (by decide +kernel)⟩
theorem lw_p9 : lw_okq (⟨"StrikeDays$Runs", "payJudged", "(IIII)J"⟩, 2) := ⟨⟨by decide +kernel, by decide +kernel⟩, List.mem_of_getElem? (i := 134) (by decide +kernel), List.mem_of_getElem? (i := 620) (by decide +kernel), List.mem_of_getElem? (i := 621) (by decide +kernel)⟩
theorem lw_p10 : lw_okq (⟨"StrikeDays$Runs", "pairWeight", "(II)J"⟩, 2) := ⟨⟨by decide +kernel, by decide +kernel⟩, List.mem_of_getElem? (i := 134) (by decide +kernel), List.mem_of_getElem? (i := 677) (by decide +kernel), List.mem_of_getElem? (i := 678) (by decide +kernel)⟩
theorem lw_p11 : lw_okq (⟨"StrikeDays$Bests", "endUnsettled", "(II)V"⟩, 4) := ⟨⟨by decide +kernel, by decide +kernel⟩, List.mem_of_getElem? (i := 147) (by decide +kernel), List.mem_of_getElem? (i := 697) (by decide +kernel), List.mem_of_getElem? (i := 698) (by decide +kernel)⟩
theorem lw_p12 : lw_okq (⟨"StrikeDays$Bests", "keep", "(IIJ)V"⟩, 4) := ⟨⟨by decide +kernel, by decide +kernel⟩, List.mem_of_getElem? (i := 147) (by decide +kernel), List.mem_of_getElem? (i := 704) (by decide +kernel), List.mem_of_getElem? (i := 705) (by decide +kernel)⟩
theorem lw_p13 : lw_okq (⟨"StrikeDays$Bests", "sum", "(II)J"⟩, 4) := ⟨⟨by decide +kernel, by decide +kernel⟩, List.mem_of_getElem? (i := 147) (by decide +kernel), List.mem_of_getElem? (i := 713) (by decide +kernel), List.mem_of_getElem? (i := 714) (by decide +kernel)⟩
theorem lw_p14 : lw_okq (⟨"StrikeDays$Bests", "bestByTaking", "(LStrikeDays$Way;III)J"⟩, 4) := ⟨⟨by decide +kernel, by decide +kernel⟩, List.mem_of_getElem? (i := 147) (by decide +kernel), List.mem_of_getElem? (i := 717) (by decide +kernel), List.mem_of_getElem? (i := 718) (by decide +kernel)⟩
theorem lw_p15 : lw_okq (⟨"StrikeDays$Bests", "settled", "(IIIII)J"⟩, 4) := ⟨⟨by decide +kernel, by decide +kernel⟩, List.mem_of_getElem? (i := 147) (by decide +kernel), List.mem_of_getElem? (i := 724) (by decide +kernel), List.mem_of_getElem? (i := 725) (by decide +kernel)⟩
def lw_privs_1 : List (MethodName × Nat) := [(⟨"StrikeDays$Reader", "skipBlanks", "(LStrikeDays$Cells;)V"⟩, 2), (⟨"StrikeDays$Reader", "isWhole", "()Z"⟩, 2), (⟨"StrikeDays$Reader", "readItem", "(LStrikeDays$Cells;)Z"⟩, 2), (⟨"StrikeDays$Reader", "readSort", "(LStrikeDays$Cells;I)Z"⟩, 2), (⟨"StrikeDays$Reader", "readValue", "(LStrikeDays$Cells;)I"⟩, 2), (⟨"StrikeDays$Reader", "isFigure", "(LStrikeDays$Cells;)Z"⟩, 2), (⟨"StrikeDays", "ofQuarrel", "(I)I"⟩, 14), (⟨"StrikeDays", "refusePair", "(IIZ)I"⟩, 14), (⟨"StrikeDays$Runs", "isTaken", "(LStrikeDays$Way;III)Z"⟩, 2), (⟨"StrikeDays$Runs", "payJudged", "(IIII)J"⟩, 2), (⟨"StrikeDays$Runs", "pairWeight", "(II)J"⟩, 2), (⟨"StrikeDays$Bests", "endUnsettled", "(II)V"⟩, 4), (⟨"StrikeDays$Bests", "keep", "(IIJ)V"⟩, 4), (⟨"StrikeDays$Bests", "sum", "(II)J"⟩, 4), (⟨"StrikeDays$Bests", "bestByTaking", "(LStrikeDays$Way;III)J"⟩, 4), (⟨"StrikeDays$Bests", "settled", "(IIIII)J"⟩, 4)]
theorem lw_r1 : ∀ q ∈ lw_privs_1, lw_okq q := List.forall_mem_cons.mpr ⟨lw_p0, List.forall_mem_cons.mpr ⟨lw_p1, List.forall_mem_cons.mpr ⟨lw_p2, List.forall_mem_cons.mpr ⟨lw_p3, List.forall_mem_cons.mpr ⟨lw_p4, List.forall_mem_cons.mpr ⟨lw_p5, List.forall_mem_cons.mpr ⟨lw_p6, List.forall_mem_cons.mpr ⟨lw_p7, List.forall_mem_cons.mpr ⟨lw_p8, List.forall_mem_cons.mpr ⟨lw_p9, List.forall_mem_cons.mpr ⟨lw_p10, List.forall_mem_cons.mpr ⟨lw_p11, List.forall_mem_cons.mpr ⟨lw_p12, List.forall_mem_cons.mpr ⟨lw_p13, List.forall_mem_cons.mpr ⟨lw_p14, List.forall_mem_cons.mpr ⟨lw_p15, fun _ h => absurd h List.not_mem_nil⟩⟩⟩⟩⟩⟩⟩⟩⟩⟩⟩⟩⟩⟩⟩⟩
theorem lw_p16 : lw_okq (⟨"StrikeDays$Bests", "judged", "(IIIIJ)J"⟩, 4) := ⟨⟨by decide +kernel, by decide +kernel⟩, List.mem_of_getElem? (i := 147) (by decide +kernel), List.mem_of_getElem? (i := 732) (by decide +kernel), List.mem_of_getElem? (i := 733) (by decide +kernel)⟩
theorem lw_p17 : lw_okq (⟨"StrikeDays$Bests", "weighOffering", "(LStrikeDays$Way;I)V"⟩, 4) := ⟨⟨by decide +kernel, by decide +kernel⟩, List.mem_of_getElem? (i := 147) (by decide +kernel), List.mem_of_getElem? (i := 736) (by decide +kernel), List.mem_of_getElem? (i := 737) (by decide +kernel)⟩
theorem lw_p18 : lw_okq (⟨"StrikeDays$Bests", "bestByOffering", "(LStrikeDays$Way;III)J"⟩, 4) := ⟨⟨by decide +kernel, by decide +kernel⟩, List.mem_of_getElem? (i := 147) (by decide +kernel), List.mem_of_getElem? (i := 740) (by decide +kernel), List.mem_of_getElem? (i := 741) (by decide +kernel)⟩
theorem lw_p19 : lw_okq (⟨"StrikeDays$Bests", "refusing", "(LStrikeDays$Way;III)I"⟩, 4) := ⟨⟨by decide +kernel, by decide +kernel⟩, List.mem_of_getElem? (i := 147) (by decide +kernel), List.mem_of_getElem? (i := 744) (by decide +kernel), List.mem_of_getElem? (i := 745) (by decide +kernel)⟩
theorem lw_p20 : lw_okq (⟨"StrikeDays", "leastTaken", "(LStrikeDays$Way;II)I"⟩, 14) := ⟨⟨by decide +kernel, by decide +kernel⟩, List.mem_of_getElem? (i := 18) (by decide +kernel), List.mem_of_getElem? (i := 766) (by decide +kernel), List.mem_of_getElem? (i := 767) (by decide +kernel)⟩
theorem lw_p21 : lw_okq (⟨"StrikeDays$Runs", "daysJudged", "(I)J"⟩, 2) := ⟨⟨by decide +kernel, by decide +kernel⟩, List.mem_of_getElem? (i := 134) (by decide +kernel), List.mem_of_getElem? (i := 805) (by decide +kernel), List.mem_of_getElem? (i := 806) (by decide +kernel)⟩
theorem lw_p22 : lw_okq (⟨"StrikeDays$Strikers", "begin", "(II)V"⟩, 6) := ⟨⟨by decide +kernel, by decide +kernel⟩, List.mem_of_getElem? (i := 170) (by decide +kernel), List.mem_of_getElem? (i := 832) (by decide +kernel), List.mem_of_getElem? (i := 833) (by decide +kernel)⟩
theorem lw_p23 : lw_okq (⟨"StrikeDays$Strikers", "goBack", "()V"⟩, 6) := ⟨⟨by decide +kernel, by decide +kernel⟩, List.mem_of_getElem? (i := 170) (by decide +kernel), List.mem_of_getElem? (i := 836) (by decide +kernel), List.mem_of_getElem? (i := 837) (by decide +kernel)⟩
theorem lw_p24 : lw_okq (⟨"StrikeDays$Strikers", "followThose", "(II)V"⟩, 6) := ⟨⟨by decide +kernel, by decide +kernel⟩, List.mem_of_getElem? (i := 170) (by decide +kernel), List.mem_of_getElem? (i := 848) (by decide +kernel), List.mem_of_getElem? (i := 849) (by decide +kernel)⟩
theorem lw_p25 : lw_okq (⟨"StrikeDays$Strikers", "payOut", "(I)Z"⟩, 6) := ⟨⟨by decide +kernel, by decide +kernel⟩, List.mem_of_getElem? (i := 170) (by decide +kernel), List.mem_of_getElem? (i := 852) (by decide +kernel), List.mem_of_getElem? (i := 853) (by decide +kernel)⟩
theorem lw_p26 : lw_okq (⟨"StrikeDays", "counted", "(I)I"⟩, 14) := ⟨⟨by decide +kernel, by decide +kernel⟩, List.mem_of_getElem? (i := 18) (by decide +kernel), List.mem_of_getElem? (i := 906) (by decide +kernel), List.mem_of_getElem? (i := 907) (by decide +kernel)⟩
theorem lw_p27 : lw_okq (⟨"StrikeDays", "waysOf", "(I)I"⟩, 14) := ⟨⟨by decide +kernel, by decide +kernel⟩, List.mem_of_getElem? (i := 18) (by decide +kernel), List.mem_of_getElem? (i := 913) (by decide +kernel), List.mem_of_getElem? (i := 914) (by decide +kernel)⟩
theorem lw_p28 : lw_okq (⟨"StrikeDaysModel", "meets", "(I)I"⟩, 36) := ⟨⟨by decide +kernel, by decide +kernel⟩, List.mem_of_getElem? (i := 961) (by decide +kernel), List.mem_of_getElem? (i := 1086) (by decide +kernel), List.mem_of_getElem? (i := 1087) (by decide +kernel)⟩
theorem lw_p29 : lw_okq (⟨"StrikeDaysModel", "askedRow", "(I)I"⟩, 36) := ⟨⟨by decide +kernel, by decide +kernel⟩, List.mem_of_getElem? (i := 961) (by decide +kernel), List.mem_of_getElem? (i := 1094) (by decide +kernel), List.mem_of_getElem? (i := 1095) (by decide +kernel)⟩
theorem lw_p30 : lw_okq (⟨"StrikeDaysModel", "rowAt", "(II)I"⟩, 36) := ⟨⟨by decide +kernel, by decide +kernel⟩, List.mem_of_getElem? (i := 961) (by decide +kernel), List.mem_of_getElem? (i := 1098) (by decide +kernel), List.mem_of_getElem? (i := 1099) (by decide +kernel)⟩
theorem lw_p31 : lw_okq (⟨"StrikeDaysModel", "ask", "(II)I"⟩, 36) := ⟨⟨by decide +kernel, by decide +kernel⟩, List.mem_of_getElem? (i := 961) (by decide +kernel), List.mem_of_getElem? (i := 1114) (by decide +kernel), List.mem_of_getElem? (i := 1115) (by decide +kernel)⟩
def lw_privs_2 : List (MethodName × Nat) := [(⟨"StrikeDays$Bests", "judged", "(IIIIJ)J"⟩, 4), (⟨"StrikeDays$Bests", "weighOffering", "(LStrikeDays$Way;I)V"⟩, 4), (⟨"StrikeDays$Bests", "bestByOffering", "(LStrikeDays$Way;III)J"⟩, 4), (⟨"StrikeDays$Bests", "refusing", "(LStrikeDays$Way;III)I"⟩, 4), (⟨"StrikeDays", "leastTaken", "(LStrikeDays$Way;II)I"⟩, 14), (⟨"StrikeDays$Runs", "daysJudged", "(I)J"⟩, 2), (⟨"StrikeDays$Strikers", "begin", "(II)V"⟩, 6), (⟨"StrikeDays$Strikers", "goBack", "()V"⟩, 6), (⟨"StrikeDays$Strikers", "followThose", "(II)V"⟩, 6), (⟨"StrikeDays$Strikers", "payOut", "(I)Z"⟩, 6), (⟨"StrikeDays", "counted", "(I)I"⟩, 14), (⟨"StrikeDays", "waysOf", "(I)I"⟩, 14), (⟨"StrikeDaysModel", "meets", "(I)I"⟩, 36), (⟨"StrikeDaysModel", "askedRow", "(I)I"⟩, 36), (⟨"StrikeDaysModel", "rowAt", "(II)I"⟩, 36), (⟨"StrikeDaysModel", "ask", "(II)I"⟩, 36)]
theorem lw_r2 : ∀ q ∈ lw_privs_2, lw_okq q := List.forall_mem_cons.mpr ⟨lw_p16, List.forall_mem_cons.mpr ⟨lw_p17, List.forall_mem_cons.mpr ⟨lw_p18, List.forall_mem_cons.mpr ⟨lw_p19, List.forall_mem_cons.mpr ⟨lw_p20, List.forall_mem_cons.mpr ⟨lw_p21, List.forall_mem_cons.mpr ⟨lw_p22, List.forall_mem_cons.mpr ⟨lw_p23, List.forall_mem_cons.mpr ⟨lw_p24, List.forall_mem_cons.mpr ⟨lw_p25, List.forall_mem_cons.mpr ⟨lw_p26, List.forall_mem_cons.mpr ⟨lw_p27, List.forall_mem_cons.mpr ⟨lw_p28, List.forall_mem_cons.mpr ⟨lw_p29, List.forall_mem_cons.mpr ⟨lw_p30, List.forall_mem_cons.mpr ⟨lw_p31, fun _ h => absurd h List.not_mem_nil⟩⟩⟩⟩⟩⟩⟩⟩⟩⟩⟩⟩⟩⟩⟩⟩
theorem lw_p32 : lw_okq (⟨"StrikeDaysModel", "askedText", "(I)I"⟩, 36) := ⟨⟨by decide +kernel, by decide +kernel⟩, List.mem_of_getElem? (i := 961) (by decide +kernel), List.mem_of_getElem? (i := 1129) (by decide +kernel), List.mem_of_getElem? (i := 1130) (by decide +kernel)⟩
theorem lw_p33 : lw_okq (⟨"StrikeDaysModel", "reads", "(I)I"⟩, 36) := ⟨⟨by decide +kernel, by decide +kernel⟩, List.mem_of_getElem? (i := 961) (by decide +kernel), List.mem_of_getElem? (i := 1137) (by decide +kernel), List.mem_of_getElem? (i := 1138) (by decide +kernel)⟩
theorem lw_p34 : lw_okq (⟨"StrikeDaysModel", "here", "(I)I"⟩, 36) := ⟨⟨by decide +kernel, by decide +kernel⟩, List.mem_of_getElem? (i := 961) (by decide +kernel), List.mem_of_getElem? (i := 1141) (by decide +kernel), List.mem_of_getElem? (i := 1142) (by decide +kernel)⟩
theorem lw_p35 : lw_okq (⟨"StrikeDaysModel", "readsSort", "(II)Z"⟩, 36) := ⟨⟨by decide +kernel, by decide +kernel⟩, List.mem_of_getElem? (i := 961) (by decide +kernel), List.mem_of_getElem? (i := 1148) (by decide +kernel), List.mem_of_getElem? (i := 1149) (by decide +kernel)⟩
theorem lw_p36 : lw_okq (⟨"StrikeDaysModel", "readsNumber", "(III)Z"⟩, 36) := ⟨⟨by decide +kernel, by decide +kernel⟩, List.mem_of_getElem? (i := 961) (by decide +kernel), List.mem_of_getElem? (i := 1152) (by decide +kernel), List.mem_of_getElem? (i := 1153) (by decide +kernel)⟩
theorem lw_p37 : lw_okq (⟨"StrikeDaysModel", "tells", "(I)I"⟩, 36) := ⟨⟨by decide +kernel, by decide +kernel⟩, List.mem_of_getElem? (i := 961) (by decide +kernel), List.mem_of_getElem? (i := 1164) (by decide +kernel), List.mem_of_getElem? (i := 1165) (by decide +kernel)⟩
theorem lw_p38 : lw_okq (⟨"StrikeDaysModel", "isSort", "(II)Z"⟩, 36) := ⟨⟨by decide +kernel, by decide +kernel⟩, List.mem_of_getElem? (i := 961) (by decide +kernel), List.mem_of_getElem? (i := 1172) (by decide +kernel), List.mem_of_getElem? (i := 1173) (by decide +kernel)⟩
theorem lw_p39 : lw_okq (⟨"StrikeDaysModel", "askedWay", "(I)I"⟩, 36) := ⟨⟨by decide +kernel, by decide +kernel⟩, List.mem_of_getElem? (i := 961) (by decide +kernel), List.mem_of_getElem? (i := 1201) (by decide +kernel), List.mem_of_getElem? (i := 1202) (by decide +kernel)⟩
theorem lw_p40 : lw_okq (⟨"StrikeDaysModel", "isOfKind", "(II)Z"⟩, 36) := ⟨⟨by decide +kernel, by decide +kernel⟩, List.mem_of_getElem? (i := 961) (by decide +kernel), List.mem_of_getElem? (i := 1205) (by decide +kernel), List.mem_of_getElem? (i := 1206) (by decide +kernel)⟩
theorem lw_p41 : lw_okq (⟨"StrikeDaysModel", "number", "(III)I"⟩, 36) := ⟨⟨by decide +kernel, by decide +kernel⟩, List.mem_of_getElem? (i := 961) (by decide +kernel), List.mem_of_getElem? (i := 1209) (by decide +kernel), List.mem_of_getElem? (i := 1210) (by decide +kernel)⟩
theorem lw_p42 : lw_okq (⟨"StrikeDaysModel", "needed", "()I"⟩, 36) := ⟨⟨by decide +kernel, by decide +kernel⟩, List.mem_of_getElem? (i := 961) (by decide +kernel), List.mem_of_getElem? (i := 1229) (by decide +kernel), List.mem_of_getElem? (i := 1230) (by decide +kernel)⟩
theorem lw_p43 : lw_okq (⟨"StrikeDaysModel", "whoAll", "(I)I"⟩, 36) := ⟨⟨by decide +kernel, by decide +kernel⟩, List.mem_of_getElem? (i := 961) (by decide +kernel), List.mem_of_getElem? (i := 1233) (by decide +kernel), List.mem_of_getElem? (i := 1234) (by decide +kernel)⟩
theorem lw_p44 : lw_okq (⟨"StrikeDaysModel", "chances", "(II)I"⟩, 36) := ⟨⟨by decide +kernel, by decide +kernel⟩, List.mem_of_getElem? (i := 961) (by decide +kernel), List.mem_of_getElem? (i := 1237) (by decide +kernel), List.mem_of_getElem? (i := 1238) (by decide +kernel)⟩
theorem lw_p45 : lw_okq (⟨"StrikeDaysModel", "askedTwo", "(IIZ)I"⟩, 36) := ⟨⟨by decide +kernel, by decide +kernel⟩, List.mem_of_getElem? (i := 961) (by decide +kernel), List.mem_of_getElem? (i := 1248) (by decide +kernel), List.mem_of_getElem? (i := 1249) (by decide +kernel)⟩
theorem lw_p46 : lw_okq (⟨"StrikeDaysModel", "dayOf", "(IIII)I"⟩, 36) := ⟨⟨by decide +kernel, by decide +kernel⟩, List.mem_of_getElem? (i := 961) (by decide +kernel), List.mem_of_getElem? (i := 1252) (by decide +kernel), List.mem_of_getElem? (i := 1253) (by decide +kernel)⟩
theorem lw_p47 : lw_okq (⟨"StrikeDaysModel", "last", "()I"⟩, 36) := ⟨⟨by decide +kernel, by decide +kernel⟩, List.mem_of_getElem? (i := 961) (by decide +kernel), List.mem_of_getElem? (i := 1256) (by decide +kernel), List.mem_of_getElem? (i := 1257) (by decide +kernel)⟩
def lw_privs_3 : List (MethodName × Nat) := [(⟨"StrikeDaysModel", "askedText", "(I)I"⟩, 36), (⟨"StrikeDaysModel", "reads", "(I)I"⟩, 36), (⟨"StrikeDaysModel", "here", "(I)I"⟩, 36), (⟨"StrikeDaysModel", "readsSort", "(II)Z"⟩, 36), (⟨"StrikeDaysModel", "readsNumber", "(III)Z"⟩, 36), (⟨"StrikeDaysModel", "tells", "(I)I"⟩, 36), (⟨"StrikeDaysModel", "isSort", "(II)Z"⟩, 36), (⟨"StrikeDaysModel", "askedWay", "(I)I"⟩, 36), (⟨"StrikeDaysModel", "isOfKind", "(II)Z"⟩, 36), (⟨"StrikeDaysModel", "number", "(III)I"⟩, 36), (⟨"StrikeDaysModel", "needed", "()I"⟩, 36), (⟨"StrikeDaysModel", "whoAll", "(I)I"⟩, 36), (⟨"StrikeDaysModel", "chances", "(II)I"⟩, 36), (⟨"StrikeDaysModel", "askedTwo", "(IIZ)I"⟩, 36), (⟨"StrikeDaysModel", "dayOf", "(IIII)I"⟩, 36), (⟨"StrikeDaysModel", "last", "()I"⟩, 36)]
theorem lw_r3 : ∀ q ∈ lw_privs_3, lw_okq q := List.forall_mem_cons.mpr ⟨lw_p32, List.forall_mem_cons.mpr ⟨lw_p33, List.forall_mem_cons.mpr ⟨lw_p34, List.forall_mem_cons.mpr ⟨lw_p35, List.forall_mem_cons.mpr ⟨lw_p36, List.forall_mem_cons.mpr ⟨lw_p37, List.forall_mem_cons.mpr ⟨lw_p38, List.forall_mem_cons.mpr ⟨lw_p39, List.forall_mem_cons.mpr ⟨lw_p40, List.forall_mem_cons.mpr ⟨lw_p41, List.forall_mem_cons.mpr ⟨lw_p42, List.forall_mem_cons.mpr ⟨lw_p43, List.forall_mem_cons.mpr ⟨lw_p44, List.forall_mem_cons.mpr ⟨lw_p45, List.forall_mem_cons.mpr ⟨lw_p46, List.forall_mem_cons.mpr ⟨lw_p47, fun _ h => absurd h List.not_mem_nil⟩⟩⟩⟩⟩⟩⟩⟩⟩⟩⟩⟩⟩⟩⟩⟩
theorem lw_p48 : lw_okq (⟨"StrikeDaysModel", "takes", "(IIII)Z"⟩, 36) := ⟨⟨by decide +kernel, by decide +kernel⟩, List.mem_of_getElem? (i := 961) (by decide +kernel), List.mem_of_getElem? (i := 1260) (by decide +kernel), List.mem_of_getElem? (i := 1261) (by decide +kernel)⟩
theorem lw_p49 : lw_okq (⟨"StrikeDaysModel", "wageOn", "(III)I"⟩, 36) := ⟨⟨by decide +kernel, by decide +kernel⟩, List.mem_of_getElem? (i := 961) (by decide +kernel), List.mem_of_getElem? (i := 1264) (by decide +kernel), List.mem_of_getElem? (i := 1265) (by decide +kernel)⟩
theorem lw_p50 : lw_okq (⟨"StrikeDaysModel", "worthIn", "(IIII)J"⟩, 36) := ⟨⟨by decide +kernel, by decide +kernel⟩, List.mem_of_getElem? (i := 961) (by decide +kernel), List.mem_of_getElem? (i := 1272) (by decide +kernel), List.mem_of_getElem? (i := 1273) (by decide +kernel)⟩
theorem lw_p51 : lw_okq (⟨"StrikeDaysModel", "judged", "(IIII)J"⟩, 36) := ⟨⟨by decide +kernel, by decide +kernel⟩, List.mem_of_getElem? (i := 961) (by decide +kernel), List.mem_of_getElem? (i := 1276) (by decide +kernel), List.mem_of_getElem? (i := 1277) (by decide +kernel)⟩
theorem lw_p52 : lw_okq (⟨"StrikeDaysModel", "worthOf", "(IIII)J"⟩, 36) := ⟨⟨by decide +kernel, by decide +kernel⟩, List.mem_of_getElem? (i := 961) (by decide +kernel), List.mem_of_getElem? (i := 1280) (by decide +kernel), List.mem_of_getElem? (i := 1281) (by decide +kernel)⟩
theorem lw_p53 : lw_okq (⟨"StrikeDaysModel", "whole", "(I)J"⟩, 36) := ⟨⟨by decide +kernel, by decide +kernel⟩, List.mem_of_getElem? (i := 961) (by decide +kernel), List.mem_of_getElem? (i := 1288) (by decide +kernel), List.mem_of_getElem? (i := 1289) (by decide +kernel)⟩
theorem lw_p54 : lw_okq (⟨"StrikeDaysModel", "share", "(JJI)I"⟩, 36) := ⟨⟨by decide +kernel, by decide +kernel⟩, List.mem_of_getElem? (i := 961) (by decide +kernel), List.mem_of_getElem? (i := 1292) (by decide +kernel), List.mem_of_getElem? (i := 1293) (by decide +kernel)⟩
theorem lw_p55 : lw_okq (⟨"StrikeDaysModel", "notTaken", "(IIII)I"⟩, 36) := ⟨⟨by decide +kernel, by decide +kernel⟩, List.mem_of_getElem? (i := 961) (by decide +kernel), List.mem_of_getElem? (i := 1300) (by decide +kernel), List.mem_of_getElem? (i := 1301) (by decide +kernel)⟩
theorem lw_p56 : lw_okq (⟨"StrikeDaysModel", "alikeTo", "(III)I"⟩, 36) := ⟨⟨by decide +kernel, by decide +kernel⟩, List.mem_of_getElem? (i := 961) (by decide +kernel), List.mem_of_getElem? (i := 1304) (by decide +kernel), List.mem_of_getElem? (i := 1305) (by decide +kernel)⟩
theorem lw_p57 : lw_okq (⟨"StrikeDaysModel", "pairs", "()J"⟩, 36) := ⟨⟨by decide +kernel, by decide +kernel⟩, List.mem_of_getElem? (i := 961) (by decide +kernel), List.mem_of_getElem? (i := 1312) (by decide +kernel), List.mem_of_getElem? (i := 1313) (by decide +kernel)⟩
theorem lw_p58 : lw_okq (⟨"StrikeDaysModel", "bestOf", "(III)J"⟩, 36) := ⟨⟨by decide +kernel, by decide +kernel⟩, List.mem_of_getElem? (i := 961) (by decide +kernel), List.mem_of_getElem? (i := 1320) (by decide +kernel), List.mem_of_getElem? (i := 1321) (by decide +kernel)⟩
theorem lw_p59 : lw_okq (⟨"StrikeDaysModel", "setBestOfMen", "(II)V"⟩, 36) := ⟨⟨by decide +kernel, by decide +kernel⟩, List.mem_of_getElem? (i := 961) (by decide +kernel), List.mem_of_getElem? (i := 1324) (by decide +kernel), List.mem_of_getElem? (i := 1325) (by decide +kernel)⟩
theorem lw_p60 : lw_okq (⟨"StrikeDaysModel", "offering", "(IIII)I"⟩, 36) := ⟨⟨by decide +kernel, by decide +kernel⟩, List.mem_of_getElem? (i := 961) (by decide +kernel), List.mem_of_getElem? (i := 1328) (by decide +kernel), List.mem_of_getElem? (i := 1329) (by decide +kernel)⟩
theorem lw_p61 : lw_okq (⟨"StrikeDaysModel", "byJudge", "(IIII)J"⟩, 36) := ⟨⟨by decide +kernel, by decide +kernel⟩, List.mem_of_getElem? (i := 961) (by decide +kernel), List.mem_of_getElem? (i := 1332) (by decide +kernel), List.mem_of_getElem? (i := 1333) (by decide +kernel)⟩
theorem lw_p62 : lw_okq (⟨"StrikeDaysModel", "setBestOfOwners", "(II)V"⟩, 36) := ⟨⟨by decide +kernel, by decide +kernel⟩, List.mem_of_getElem? (i := 961) (by decide +kernel), List.mem_of_getElem? (i := 1336) (by decide +kernel), List.mem_of_getElem? (i := 1337) (by decide +kernel)⟩
theorem lw_p63 : lw_okq (⟨"StrikeDaysModel", "taking", "(IIII)I"⟩, 36) := ⟨⟨by decide +kernel, by decide +kernel⟩, List.mem_of_getElem? (i := 961) (by decide +kernel), List.mem_of_getElem? (i := 1340) (by decide +kernel), List.mem_of_getElem? (i := 1341) (by decide +kernel)⟩
def lw_privs_4 : List (MethodName × Nat) := [(⟨"StrikeDaysModel", "takes", "(IIII)Z"⟩, 36), (⟨"StrikeDaysModel", "wageOn", "(III)I"⟩, 36), (⟨"StrikeDaysModel", "worthIn", "(IIII)J"⟩, 36), (⟨"StrikeDaysModel", "judged", "(IIII)J"⟩, 36), (⟨"StrikeDaysModel", "worthOf", "(IIII)J"⟩, 36), (⟨"StrikeDaysModel", "whole", "(I)J"⟩, 36), (⟨"StrikeDaysModel", "share", "(JJI)I"⟩, 36), (⟨"StrikeDaysModel", "notTaken", "(IIII)I"⟩, 36), (⟨"StrikeDaysModel", "alikeTo", "(III)I"⟩, 36), (⟨"StrikeDaysModel", "pairs", "()J"⟩, 36), (⟨"StrikeDaysModel", "bestOf", "(III)J"⟩, 36), (⟨"StrikeDaysModel", "setBestOfMen", "(II)V"⟩, 36), (⟨"StrikeDaysModel", "offering", "(IIII)I"⟩, 36), (⟨"StrikeDaysModel", "byJudge", "(IIII)J"⟩, 36), (⟨"StrikeDaysModel", "setBestOfOwners", "(II)V"⟩, 36), (⟨"StrikeDaysModel", "taking", "(IIII)I"⟩, 36)]
theorem lw_r4 : ∀ q ∈ lw_privs_4, lw_okq q := List.forall_mem_cons.mpr ⟨lw_p48, List.forall_mem_cons.mpr ⟨lw_p49, List.forall_mem_cons.mpr ⟨lw_p50, List.forall_mem_cons.mpr ⟨lw_p51, List.forall_mem_cons.mpr ⟨lw_p52, List.forall_mem_cons.mpr ⟨lw_p53, List.forall_mem_cons.mpr ⟨lw_p54, List.forall_mem_cons.mpr ⟨lw_p55, List.forall_mem_cons.mpr ⟨lw_p56, List.forall_mem_cons.mpr ⟨lw_p57, List.forall_mem_cons.mpr ⟨lw_p58, List.forall_mem_cons.mpr ⟨lw_p59, List.forall_mem_cons.mpr ⟨lw_p60, List.forall_mem_cons.mpr ⟨lw_p61, List.forall_mem_cons.mpr ⟨lw_p62, List.forall_mem_cons.mpr ⟨lw_p63, fun _ h => absurd h List.not_mem_nil⟩⟩⟩⟩⟩⟩⟩⟩⟩⟩⟩⟩⟩⟩⟩⟩
theorem lw_p64 : lw_okq (⟨"StrikeDaysModel", "changes", "(IIII)I"⟩, 36) := ⟨⟨by decide +kernel, by decide +kernel⟩, List.mem_of_getElem? (i := 961) (by decide +kernel), List.mem_of_getElem? (i := 1352) (by decide +kernel), List.mem_of_getElem? (i := 1353) (by decide +kernel)⟩
theorem lw_p65 : lw_okq (⟨"StrikeDaysModel", "wanted", "(III)I"⟩, 36) := ⟨⟨by decide +kernel, by decide +kernel⟩, List.mem_of_getElem? (i := 961) (by decide +kernel), List.mem_of_getElem? (i := 1360) (by decide +kernel), List.mem_of_getElem? (i := 1361) (by decide +kernel)⟩
theorem lw_p66 : lw_okq (⟨"StrikeDaysModel", "loses", "(IIZ)I"⟩, 36) := ⟨⟨by decide +kernel, by decide +kernel⟩, List.mem_of_getElem? (i := 961) (by decide +kernel), List.mem_of_getElem? (i := 1368) (by decide +kernel), List.mem_of_getElem? (i := 1369) (by decide +kernel)⟩
theorem lw_p67 : lw_okq (⟨"StrikeDaysModel", "losesBy", "(III)J"⟩, 36) := ⟨⟨by decide +kernel, by decide +kernel⟩, List.mem_of_getElem? (i := 961) (by decide +kernel), List.mem_of_getElem? (i := 1384) (by decide +kernel), List.mem_of_getElem? (i := 1385) (by decide +kernel)⟩
theorem lw_p68 : lw_okq (⟨"StrikeDaysModel", "begins", "(I)V"⟩, 36) := ⟨⟨by decide +kernel, by decide +kernel⟩, List.mem_of_getElem? (i := 961) (by decide +kernel), List.mem_of_getElem? (i := 1406) (by decide +kernel), List.mem_of_getElem? (i := 1407) (by decide +kernel)⟩
theorem lw_p69 : lw_okq (⟨"StrikeDaysModel", "goesOn", "(I)V"⟩, 36) := ⟨⟨by decide +kernel, by decide +kernel⟩, List.mem_of_getElem? (i := 961) (by decide +kernel), List.mem_of_getElem? (i := 1410) (by decide +kernel), List.mem_of_getElem? (i := 1411) (by decide +kernel)⟩
theorem lw_p70 : lw_okq (⟨"StrikeDaysModel", "menOf", "(I)I"⟩, 36) := ⟨⟨by decide +kernel, by decide +kernel⟩, List.mem_of_getElem? (i := 961) (by decide +kernel), List.mem_of_getElem? (i := 1414) (by decide +kernel), List.mem_of_getElem? (i := 1415) (by decide +kernel)⟩
theorem lw_p71 : lw_okq (⟨"StrikeDaysModel", "turnsAll", "(II)Z"⟩, 36) := ⟨⟨by decide +kernel, by decide +kernel⟩, List.mem_of_getElem? (i := 961) (by decide +kernel), List.mem_of_getElem? (i := 1426) (by decide +kernel), List.mem_of_getElem? (i := 1427) (by decide +kernel)⟩
theorem lw_p72 : lw_okq (⟨"StrikeDaysModel", "counts", "(I)I"⟩, 36) := ⟨⟨by decide +kernel, by decide +kernel⟩, List.mem_of_getElem? (i := 961) (by decide +kernel), List.mem_of_getElem? (i := 1454) (by decide +kernel), List.mem_of_getElem? (i := 1455) (by decide +kernel)⟩
theorem lw_p73 : lw_okq (⟨"StrikeDaysModel", "mix", "(I)V"⟩, 36) := ⟨⟨by decide +kernel, by decide +kernel⟩, List.mem_of_getElem? (i := 961) (by decide +kernel), List.mem_of_getElem? (i := 1471) (by decide +kernel), List.mem_of_getElem? (i := 1472) (by decide +kernel)⟩
theorem lw_p74 : lw_okq (⟨"StrikeDaysModel", "mixQuarrel", "()V"⟩, 36) := ⟨⟨by decide +kernel, by decide +kernel⟩, List.mem_of_getElem? (i := 961) (by decide +kernel), List.mem_of_getElem? (i := 1476) (by decide +kernel), List.mem_of_getElem? (i := 1477) (by decide +kernel)⟩
def lw_privs_5 : List (MethodName × Nat) := [(⟨"StrikeDaysModel", "changes", "(IIII)I"⟩, 36), (⟨"StrikeDaysModel", "wanted", "(III)I"⟩, 36), (⟨"StrikeDaysModel", "loses", "(IIZ)I"⟩, 36), (⟨"StrikeDaysModel", "losesBy", "(III)J"⟩, 36), (⟨"StrikeDaysModel", "begins", "(I)V"⟩, 36), (⟨"StrikeDaysModel", "goesOn", "(I)V"⟩, 36), (⟨"StrikeDaysModel", "menOf", "(I)I"⟩, 36), (⟨"StrikeDaysModel", "turnsAll", "(II)Z"⟩, 36), (⟨"StrikeDaysModel", "counts", "(I)I"⟩, 36), (⟨"StrikeDaysModel", "mix", "(I)V"⟩, 36), (⟨"StrikeDaysModel", "mixQuarrel", "()V"⟩, 36)]
theorem lw_r5 : ∀ q ∈ lw_privs_5, lw_okq q := List.forall_mem_cons.mpr ⟨lw_p64, List.forall_mem_cons.mpr ⟨lw_p65, List.forall_mem_cons.mpr ⟨lw_p66, List.forall_mem_cons.mpr ⟨lw_p67, List.forall_mem_cons.mpr ⟨lw_p68, List.forall_mem_cons.mpr ⟨lw_p69, List.forall_mem_cons.mpr ⟨lw_p70, List.forall_mem_cons.mpr ⟨lw_p71, List.forall_mem_cons.mpr ⟨lw_p72, List.forall_mem_cons.mpr ⟨lw_p73, List.forall_mem_cons.mpr ⟨lw_p74, fun _ h => absurd h List.not_mem_nil⟩⟩⟩⟩⟩⟩⟩⟩⟩⟩⟩
def lw_privs : List (MethodName × Nat) := lw_privs_1 ++ (lw_privs_2 ++ (lw_privs_3 ++ (lw_privs_4 ++ (lw_privs_5))))
def lw_tbl : List Cond := k2_sels lw_privs ++ tables_1
theorem lw_privs_ok : ∀ q ∈ lw_privs, lw_okq q := by
  show ∀ q ∈ lw_privs_1 ++ (lw_privs_2 ++ (lw_privs_3 ++ (lw_privs_4 ++ (lw_privs_5)))), lw_okq q
  exact List.forall_mem_append.mpr ⟨lw_r1, List.forall_mem_append.mpr ⟨lw_r2, List.forall_mem_append.mpr ⟨lw_r3, List.forall_mem_append.mpr ⟨lw_r4, lw_r5⟩⟩⟩⟩
def RX0 : String := "StrikeDays$Bests"
def TX0 : u_T := fun k => match k with
  | 0 => ("StrikeDays$Bests", "quarrel", "LStrikeDays$Quarrel;", true)
  | 1 => ("StrikeDays$Bests", "law", "LStrikeDays$Law;", true)
  | 2 => ("StrikeDays$Bests", "sums", "[[J", true)
  | _ => ("StrikeDays$Bests", "offers", "[[I", true)
def tyX0 : Nat → FieldType := fun k => match k with
  | 0 => .object "StrikeDays$Quarrel"
  | 1 => .object "StrikeDays$Law"
  | 2 => .array (.array .long)
  | _ => .array (.array .int)
theorem nmX0 : ∀ a, a < 4 → ∀ b, b < 4 → a ≠ b → (TX0 a).2.1 ≠ (TX0 b).2.1 := by decide +kernel
theorem tyX0_ok : ∀ k, k < 4 → parseFieldDescriptor (TX0 k).2.2.1 = some (tyX0 k) := by decide +kernel
abbrev cX0_init : ByteArray := prog_2_method_1_code
def yX0_init : MethodName := ⟨RX0, "<init>", "(LStrikeDays$Quarrel;LStrikeDays$Law;)V"⟩
abbrev cX0_bestSum : ByteArray := prog_2_method_2_code
def yX0_bestSum : MethodName := ⟨RX0, "bestSum", "(LStrikeDays$Way;II)J"⟩
abbrev cX0_isHeld : ByteArray := prog_2_method_3_code
def yX0_isHeld : MethodName := ⟨RX0, "isHeld", "(II)Z"⟩
abbrev cX0_sum : ByteArray := prog_2_method_4_code
def yX0_sum : MethodName := ⟨RX0, "sum", "(II)J"⟩
abbrev cX0_keep : ByteArray := prog_2_method_5_code
def yX0_keep : MethodName := ⟨RX0, "keep", "(IIJ)V"⟩
abbrev cX0_weighTaking : ByteArray := prog_2_method_6_code
def yX0_weighTaking : MethodName := ⟨RX0, "weighTaking", "(LStrikeDays$Way;I)V"⟩
abbrev cX0_weighOffering : ByteArray := prog_2_method_7_code
def yX0_weighOffering : MethodName := ⟨RX0, "weighOffering", "(LStrikeDays$Way;I)V"⟩
abbrev cX0_endUnsettled : ByteArray := prog_2_method_8_code
def yX0_endUnsettled : MethodName := ⟨RX0, "endUnsettled", "(II)V"⟩
abbrev cX0_settled : ByteArray := prog_2_method_9_code
def yX0_settled : MethodName := ⟨RX0, "settled", "(IIIII)J"⟩
abbrev cX0_judged : ByteArray := prog_2_method_10_code
def yX0_judged : MethodName := ⟨RX0, "judged", "(IIIIJ)J"⟩
abbrev cX0_bestByTaking : ByteArray := prog_2_method_11_code
def yX0_bestByTaking : MethodName := ⟨RX0, "bestByTaking", "(LStrikeDays$Way;III)J"⟩
abbrev cX0_isTaken : ByteArray := prog_2_method_12_code
def yX0_isTaken : MethodName := ⟨RX0, "isTaken", "(IIII)Z"⟩
abbrev cX0_bestByOffering : ByteArray := prog_2_method_13_code
def yX0_bestByOffering : MethodName := ⟨RX0, "bestByOffering", "(LStrikeDays$Way;III)J"⟩
abbrev cX0_refusing : ByteArray := prog_2_method_14_code
def yX0_refusing : MethodName := ⟨RX0, "refusing", "(LStrikeDays$Way;III)I"⟩
abbrev cX0_layOffers : ByteArray := prog_2_method_15_code
def yX0_layOffers : MethodName := ⟨RX0, "layOffers", "(LStrikeDays$Way;LStrikeDays$Way;I)I"⟩
def RX1 : String := "StrikeDays$Cells"
def TX1 : u_T := fun k => match k with
  | 0 => ("StrikeDays$Cells", "cells", "[I", true)
  | _ => ("StrikeDays$Cells", "size", "I", false)
def tyX1 : Nat → FieldType := fun k => match k with
  | 0 => .array .int
  | _ => .int
theorem nmX1 : ∀ a, a < 2 → ∀ b, b < 2 → a ≠ b → (TX1 a).2.1 ≠ (TX1 b).2.1 := by decide +kernel
theorem tyX1_ok : ∀ k, k < 2 → parseFieldDescriptor (TX1 k).2.2.1 = some (tyX1 k) := by decide +kernel
abbrev cX1_init : ByteArray := prog_3_method_1_code
def yX1_init : MethodName := ⟨RX1, "<init>", "(I)V"⟩
abbrev cX1_isMissing : ByteArray := prog_3_method_2_code
def yX1_isMissing : MethodName := ⟨RX1, "isMissing", "()Z"⟩
abbrev cX1_size : ByteArray := prog_3_method_3_code
def yX1_size : MethodName := ⟨RX1, "size", "()I"⟩
abbrev cX1_make : ByteArray := prog_3_method_4_code
def yX1_make : MethodName := ⟨RX1, "make", "(II)V"⟩
abbrev cX1_drop : ByteArray := prog_3_method_5_code
def yX1_drop : MethodName := ⟨RX1, "drop", "()V"⟩
abbrev cX1_holds : ByteArray := prog_3_method_6_code
def yX1_holds : MethodName := ⟨RX1, "holds", "(II)Z"⟩
abbrev cX1_cell : ByteArray := prog_3_method_7_code
def yX1_cell : MethodName := ⟨RX1, "cell", "(I)I"⟩
abbrev cX1_swap : ByteArray := prog_3_method_8_code
def yX1_swap : MethodName := ⟨RX1, "swap", "(II)I"⟩
abbrev cX1_take : ByteArray := prog_3_method_9_code
def yX1_take : MethodName := ⟨RX1, "take", "(ILStrikeDays$Cells;II)V"⟩
abbrev cX1_middle : ByteArray := prog_3_method_10_code
def yX1_middle : MethodName := ⟨RX1, "middle", "()I"⟩
abbrev cX1_mixInto : ByteArray := prog_3_method_11_code
def yX1_mixInto : MethodName := ⟨RX1, "mixInto", "(J)J"⟩
def RX2 : String := "StrikeDays$Findings"
def TX2 : u_T := fun k => match k with
  | 0 => ("StrikeDays$Findings", "times", "[I", true)
  | _ => ("StrikeDays$Findings", "newest", "I", false)
def tyX2 : Nat → FieldType := fun k => match k with
  | 0 => .array .int
  | _ => .int
theorem nmX2 : ∀ a, a < 2 → ∀ b, b < 2 → a ≠ b → (TX2 a).2.1 ≠ (TX2 b).2.1 := by decide +kernel
theorem tyX2_ok : ∀ k, k < 2 → parseFieldDescriptor (TX2 k).2.2.1 = some (tyX2 k) := by decide +kernel
abbrev cX2_init : ByteArray := prog_4_method_1_code
def yX2_init : MethodName := ⟨RX2, "<init>", "()V"⟩
abbrev cX2_tell : ByteArray := prog_4_method_2_code
def yX2_tell : MethodName := ⟨RX2, "tell", "(I)I"⟩
abbrev cX2_latest : ByteArray := prog_4_method_3_code
def yX2_latest : MethodName := ⟨RX2, "latest", "()I"⟩
abbrev cX2_often : ByteArray := prog_4_method_4_code
def yX2_often : MethodName := ⟨RX2, "often", "(I)I"⟩
def RX3 : String := "StrikeDays$Fraction"
def TX3 : u_T := fun k => match k with
  | 0 => ("StrikeDays$Fraction", "above", "J", false)
  | _ => ("StrikeDays$Fraction", "below", "J", false)
def tyX3 : Nat → FieldType := fun k => match k with
  | 0 => .long
  | _ => .long
theorem nmX3 : ∀ a, a < 2 → ∀ b, b < 2 → a ≠ b → (TX3 a).2.1 ≠ (TX3 b).2.1 := by decide +kernel
theorem tyX3_ok : ∀ k, k < 2 → parseFieldDescriptor (TX3 k).2.2.1 = some (tyX3 k) := by decide +kernel
abbrev cX3_init : ByteArray := prog_5_method_1_code
def yX3_init : MethodName := ⟨RX3, "<init>", "()V"⟩
abbrev cX3_tell : ByteArray := prog_5_method_2_code
def yX3_tell : MethodName := ⟨RX3, "tell", "(JJ)V"⟩
abbrev cX3_commonDivisor : ByteArray := prog_5_method_3_code
def yX3_commonDivisor : MethodName := ⟨RX3, "commonDivisor", "(JJ)J"⟩
def RX4 : String := "StrikeDays$Law"
def TX4 : u_T := fun k => match k with
  | 0 => ("StrikeDays$Law", "notice", "I", false)
  | 1 => ("StrikeDays$Law", "twelfths", "I", false)
  | _ => ("StrikeDays$Law", "wage", "I", false)
def tyX4 : Nat → FieldType := fun k => match k with
  | 0 => .int
  | 1 => .int
  | _ => .int
theorem nmX4 : ∀ a, a < 3 → ∀ b, b < 3 → a ≠ b → (TX4 a).2.1 ≠ (TX4 b).2.1 := by decide +kernel
theorem tyX4_ok : ∀ k, k < 3 → parseFieldDescriptor (TX4 k).2.2.1 = some (tyX4 k) := by decide +kernel
abbrev cX4_init : ByteArray := prog_6_method_1_code
def yX4_init : MethodName := ⟨RX4, "<init>", "()V"⟩
def RX5 : String := "StrikeDays$Quarrel"
def TX5 : u_T := fun k => match k with
  | 0 => ("StrikeDays$Quarrel", "sorts", "[I", true)
  | 1 => ("StrikeDays$Quarrel", "totals", "[I", true)
  | 2 => ("StrikeDays$Quarrel", "chances", "[[I", true)
  | 3 => ("StrikeDays$Quarrel", "costs", "[[I", true)
  | 4 => ("StrikeDays$Quarrel", "value", "I", false)
  | 5 => ("StrikeDays$Quarrel", "horizon", "I", false)
  | 6 => ("StrikeDays$Quarrel", "last", "I", false)
  | _ => ("StrikeDays$Quarrel", "wage", "I", false)
def tyX5 : Nat → FieldType := fun k => match k with
  | 0 => .array .int
  | 1 => .array .int
  | 2 => .array (.array .int)
  | 3 => .array (.array .int)
  | 4 => .int
  | 5 => .int
  | 6 => .int
  | _ => .int
theorem nmX5 : ∀ a, a < 8 → ∀ b, b < 8 → a ≠ b → (TX5 a).2.1 ≠ (TX5 b).2.1 := by decide +kernel
theorem tyX5_ok : ∀ k, k < 8 → parseFieldDescriptor (TX5 k).2.2.1 = some (tyX5 k) := by decide +kernel
abbrev cX5_init : ByteArray := prog_7_method_1_code
def yX5_init : MethodName := ⟨RX5, "<init>", "()V"⟩
abbrev cX5_clear : ByteArray := prog_7_method_2_code
def yX5_clear : MethodName := ⟨RX5, "clear", "()V"⟩
abbrev cX5_addSort : ByteArray := prog_7_method_3_code
def yX5_addSort : MethodName := ⟨RX5, "addSort", "(III)V"⟩
abbrev cX5_become : ByteArray := prog_7_method_4_code
def yX5_become : MethodName := ⟨RX5, "become", "(LStrikeDays$Quarrel;)V"⟩
abbrev cX5_last : ByteArray := prog_7_method_5_code
def yX5_last : MethodName := ⟨RX5, "last", "()I"⟩
abbrev cX5_sorts : ByteArray := prog_7_method_6_code
def yX5_sorts : MethodName := ⟨RX5, "sorts", "(I)I"⟩
abbrev cX5_hasSort : ByteArray := prog_7_method_7_code
def yX5_hasSort : MethodName := ⟨RX5, "hasSort", "(II)Z"⟩
abbrev cX5_chance : ByteArray := prog_7_method_8_code
def yX5_chance : MethodName := ⟨RX5, "chance", "(II)I"⟩
abbrev cX5_cost : ByteArray := prog_7_method_9_code
def yX5_cost : MethodName := ⟨RX5, "cost", "(II)I"⟩
abbrev cX5_everySort : ByteArray := prog_7_method_10_code
def yX5_everySort : MethodName := ⟨RX5, "everySort", "(I)I"⟩
abbrev cX5_weight : ByteArray := prog_7_method_11_code
def yX5_weight : MethodName := ⟨RX5, "weight", "(II)I"⟩
abbrev cX5_total : ByteArray := prog_7_method_12_code
def yX5_total : MethodName := ⟨RX5, "total", "(I)I"⟩
abbrev cX5_pairs : ByteArray := prog_7_method_13_code
def yX5_pairs : MethodName := ⟨RX5, "pairs", "()J"⟩
abbrev cX5_judgings : ByteArray := prog_7_method_14_code
def yX5_judgings : MethodName := ⟨RX5, "judgings", "()J"⟩
abbrev cX5_power : ByteArray := prog_7_method_15_code
def yX5_power : MethodName := ⟨RX5, "power", "(I)J"⟩
abbrev cX5_pay : ByteArray := prog_7_method_16_code
def yX5_pay : MethodName := ⟨RX5, "pay", "(IIII)J"⟩
abbrev cX5_carries : ByteArray := prog_7_method_17_code
def yX5_carries : MethodName := ⟨RX5, "carries", "(I)Z"⟩
abbrev cX5_sortsToCarry : ByteArray := prog_7_method_18_code
def yX5_sortsToCarry : MethodName := ⟨RX5, "sortsToCarry", "()I"⟩
abbrev cX5_mixInto : ByteArray := prog_7_method_19_code
def yX5_mixInto : MethodName := ⟨RX5, "mixInto", "(J)J"⟩
def RX6 : String := "StrikeDays$Reader"
def TX6 : u_T := fun k => match k with
  | 0 => ("StrikeDays$Reader", "draft", "LStrikeDays$Quarrel;", true)
  | _ => ("StrikeDays$Reader", "place", "I", false)
def tyX6 : Nat → FieldType := fun k => match k with
  | 0 => .object "StrikeDays$Quarrel"
  | _ => .int
theorem nmX6 : ∀ a, a < 2 → ∀ b, b < 2 → a ≠ b → (TX6 a).2.1 ≠ (TX6 b).2.1 := by decide +kernel
theorem tyX6_ok : ∀ k, k < 2 → parseFieldDescriptor (TX6 k).2.2.1 = some (tyX6 k) := by decide +kernel
abbrev cX6_init : ByteArray := prog_8_method_1_code
def yX6_init : MethodName := ⟨RX6, "<init>", "()V"⟩
abbrev cX6_draft : ByteArray := prog_8_method_2_code
def yX6_draft : MethodName := ⟨RX6, "draft", "()LStrikeDays$Quarrel;"⟩
abbrev cX6_read : ByteArray := prog_8_method_3_code
def yX6_read : MethodName := ⟨RX6, "read", "(LStrikeDays$Cells;)I"⟩
abbrev cX6_isWhole : ByteArray := prog_8_method_4_code
def yX6_isWhole : MethodName := ⟨RX6, "isWhole", "()Z"⟩
abbrev cX6_skipBlanks : ByteArray := prog_8_method_5_code
def yX6_skipBlanks : MethodName := ⟨RX6, "skipBlanks", "(LStrikeDays$Cells;)V"⟩
abbrev cX6_readItem : ByteArray := prog_8_method_6_code
def yX6_readItem : MethodName := ⟨RX6, "readItem", "(LStrikeDays$Cells;)Z"⟩
abbrev cX6_readSort : ByteArray := prog_8_method_7_code
def yX6_readSort : MethodName := ⟨RX6, "readSort", "(LStrikeDays$Cells;I)Z"⟩
abbrev cX6_readValue : ByteArray := prog_8_method_8_code
def yX6_readValue : MethodName := ⟨RX6, "readValue", "(LStrikeDays$Cells;)I"⟩
abbrev cX6_isFigure : ByteArray := prog_8_method_9_code
def yX6_isFigure : MethodName := ⟨RX6, "isFigure", "(LStrikeDays$Cells;)Z"⟩
def RX7 : String := "StrikeDays$Runs"
def TX7 : u_T := fun k => match k with
  | 0 => ("StrikeDays$Runs", "quarrel", "LStrikeDays$Quarrel;", true)
  | _ => ("StrikeDays$Runs", "law", "LStrikeDays$Law;", true)
def tyX7 : Nat → FieldType := fun k => match k with
  | 0 => .object "StrikeDays$Quarrel"
  | _ => .object "StrikeDays$Law"
theorem nmX7 : ∀ a, a < 2 → ∀ b, b < 2 → a ≠ b → (TX7 a).2.1 ≠ (TX7 b).2.1 := by decide +kernel
theorem tyX7_ok : ∀ k, k < 2 → parseFieldDescriptor (TX7 k).2.2.1 = some (tyX7 k) := by decide +kernel
abbrev cX7_init : ByteArray := prog_9_method_1_code
def yX7_init : MethodName := ⟨RX7, "<init>", "(LStrikeDays$Quarrel;LStrikeDays$Law;)V"⟩
abbrev cX7_settlingDay : ByteArray := prog_9_method_2_code
def yX7_settlingDay : MethodName := ⟨RX7, "settlingDay", "(LStrikeDays$Way;LStrikeDays$Way;II)I"⟩
abbrev cX7_isTaken : ByteArray := prog_9_method_3_code
def yX7_isTaken : MethodName := ⟨RX7, "isTaken", "(LStrikeDays$Way;III)Z"⟩
abbrev cX7_wageOn : ByteArray := prog_9_method_4_code
def yX7_wageOn : MethodName := ⟨RX7, "wageOn", "(LStrikeDays$Way;II)I"⟩
abbrev cX7_stillOut : ByteArray := prog_9_method_5_code
def yX7_stillOut : MethodName := ⟨RX7, "stillOut", "(LStrikeDays$Way;LStrikeDays$Way;II)I"⟩
abbrev cX7_offeringAlike : ByteArray := prog_9_method_6_code
def yX7_offeringAlike : MethodName := ⟨RX7, "offeringAlike", "(LStrikeDays$Way;II)I"⟩
abbrev cX7_worthShares : ByteArray := prog_9_method_7_code
def yX7_worthShares : MethodName := ⟨RX7, "worthShares", "(I)J"⟩
abbrev cX7_worthSum : ByteArray := prog_9_method_8_code
def yX7_worthSum : MethodName := ⟨RX7, "worthSum", "(LStrikeDays$Way;LStrikeDays$Way;II)J"⟩
abbrev cX7_payJudged : ByteArray := prog_9_method_9_code
def yX7_payJudged : MethodName := ⟨RX7, "payJudged", "(IIII)J"⟩
abbrev cX7_daysJudged : ByteArray := prog_9_method_10_code
def yX7_daysJudged : MethodName := ⟨RX7, "daysJudged", "(I)J"⟩
abbrev cX7_pairWeight : ByteArray := prog_9_method_11_code
def yX7_pairWeight : MethodName := ⟨RX7, "pairWeight", "(II)J"⟩
abbrev cX7_endingWeight : ByteArray := prog_9_method_12_code
def yX7_endingWeight : MethodName := ⟨RX7, "endingWeight", "(LStrikeDays$Way;LStrikeDays$Way;I)J"⟩
abbrev cX7_lostDays : ByteArray := prog_9_method_13_code
def yX7_lostDays : MethodName := ⟨RX7, "lostDays", "(LStrikeDays$Way;LStrikeDays$Way;)J"⟩
abbrev cX7_lostDaysJudged : ByteArray := prog_9_method_14_code
def yX7_lostDaysJudged : MethodName := ⟨RX7, "lostDaysJudged", "(LStrikeDays$Way;LStrikeDays$Way;)J"⟩
abbrev cX7_lostGoods : ByteArray := prog_9_method_15_code
def yX7_lostGoods : MethodName := ⟨RX7, "lostGoods", "(LStrikeDays$Way;LStrikeDays$Way;)J"⟩
def RX8 : String := "StrikeDays$Strikers"
def TX8 : u_T := fun k => match k with
  | 0 => ("StrikeDays$Strikers", "many", "[I", true)
  | 1 => ("StrikeDays$Strikers", "left", "[I", true)
  | 2 => ("StrikeDays$Strikers", "share", "[I", true)
  | 3 => ("StrikeDays$Strikers", "leftNow", "[I", true)
  | 4 => ("StrikeDays$Strikers", "back", "[Z", true)
  | _ => ("StrikeDays$Strikers", "inFund", "I", false)
def tyX8 : Nat → FieldType := fun k => match k with
  | 0 => .array .int
  | 1 => .array .int
  | 2 => .array .int
  | 3 => .array .int
  | 4 => .array .boolean
  | _ => .int
theorem nmX8 : ∀ a, a < 6 → ∀ b, b < 6 → a ≠ b → (TX8 a).2.1 ≠ (TX8 b).2.1 := by decide +kernel
theorem tyX8_ok : ∀ k, k < 6 → parseFieldDescriptor (TX8 k).2.2.1 = some (tyX8 k) := by decide +kernel
abbrev cX8_init : ByteArray := prog_10_method_1_code
def yX8_init : MethodName := ⟨RX8, "<init>", "()V"⟩
abbrev cX8_begin : ByteArray := prog_10_method_2_code
def yX8_begin : MethodName := ⟨RX8, "begin", "(II)V"⟩
abbrev cX8_goBack : ByteArray := prog_10_method_3_code
def yX8_goBack : MethodName := ⟨RX8, "goBack", "()V"⟩
abbrev cX8_followThose : ByteArray := prog_10_method_4_code
def yX8_followThose : MethodName := ⟨RX8, "followThose", "(II)V"⟩
abbrev cX8_payOut : ByteArray := prog_10_method_5_code
def yX8_payOut : MethodName := ⟨RX8, "payOut", "(I)Z"⟩
abbrev cX8_liveTill : ByteArray := prog_10_method_6_code
def yX8_liveTill : MethodName := ⟨RX8, "liveTill", "(III)V"⟩
abbrev cX8_dayAllBack : ByteArray := prog_10_method_7_code
def yX8_dayAllBack : MethodName := ⟨RX8, "dayAllBack", "(IIII)I"⟩
abbrev cX8_turningKind : ByteArray := prog_10_method_8_code
def yX8_turningKind : MethodName := ⟨RX8, "turningKind", "(I)I"⟩
abbrev cX8_daysPaid : ByteArray := prog_10_method_9_code
def yX8_daysPaid : MethodName := ⟨RX8, "daysPaid", "(II)I"⟩
abbrev cX8_menInAll : ByteArray := prog_10_method_10_code
def yX8_menInAll : MethodName := ⟨RX8, "menInAll", "()I"⟩
abbrev cX8_menBack : ByteArray := prog_10_method_11_code
def yX8_menBack : MethodName := ⟨RX8, "menBack", "()I"⟩
abbrev cX8_kindsBack : ByteArray := prog_10_method_12_code
def yX8_kindsBack : MethodName := ⟨RX8, "kindsBack", "()I"⟩
abbrev cX8_mixInto : ByteArray := prog_10_method_13_code
def yX8_mixInto : MethodName := ⟨RX8, "mixInto", "(J)J"⟩
def RX9 : String := "StrikeDays$Way"
def TX9 : u_T := fun k => match k with
  | 0 => ("StrikeDays$Way", "numbers", "[I", true)
  | _ => ("StrikeDays$Way", "kind", "I", false)
def tyX9 : Nat → FieldType := fun k => match k with
  | 0 => .array .int
  | _ => .int
theorem nmX9 : ∀ a, a < 2 → ∀ b, b < 2 → a ≠ b → (TX9 a).2.1 ≠ (TX9 b).2.1 := by decide +kernel
theorem tyX9_ok : ∀ k, k < 2 → parseFieldDescriptor (TX9 k).2.2.1 = some (tyX9 k) := by decide +kernel
abbrev cX9_init : ByteArray := prog_11_method_1_code
def yX9_init : MethodName := ⟨RX9, "<init>", "()V"⟩
abbrev cX9_make : ByteArray := prog_11_method_2_code
def yX9_make : MethodName := ⟨RX9, "make", "(I)V"⟩
abbrev cX9_isMissing : ByteArray := prog_11_method_3_code
def yX9_isMissing : MethodName := ⟨RX9, "isMissing", "()Z"⟩
abbrev cX9_ownKind : ByteArray := prog_11_method_4_code
def yX9_ownKind : MethodName := ⟨RX9, "ownKind", "()I"⟩
abbrev cX9_is : ByteArray := prog_11_method_5_code
def yX9_is : MethodName := ⟨RX9, "is", "(I)Z"⟩
abbrev cX9_isPlainTake : ByteArray := prog_11_method_6_code
def yX9_isPlainTake : MethodName := ⟨RX9, "isPlainTake", "()Z"⟩
abbrev cX9_fits : ByteArray := prog_11_method_7_code
def yX9_fits : MethodName := ⟨RX9, "fits", "(I)Z"⟩
abbrev cX9_number : ByteArray := prog_11_method_8_code
def yX9_number : MethodName := ⟨RX9, "number", "(II)I"⟩
abbrev cX9_swap : ByteArray := prog_11_method_9_code
def yX9_swap : MethodName := ⟨RX9, "swap", "(III)I"⟩
abbrev cX9_greatest : ByteArray := prog_11_method_10_code
def yX9_greatest : MethodName := ⟨RX9, "greatest", "()I"⟩
abbrev cX9_least : ByteArray := prog_11_method_11_code
def yX9_least : MethodName := ⟨RX9, "least", "()I"⟩
abbrev cX9_sum : ByteArray := prog_11_method_12_code
def yX9_sum : MethodName := ⟨RX9, "sum", "()I"⟩
abbrev cX9_mixInto : ByteArray := prog_11_method_13_code
def yX9_mixInto : MethodName := ⟨RX9, "mixInto", "(J)J"⟩
def RX10 : String := "StrikeDays"
def TX10 : u_T := fun k => match k with
  | 0 => ("StrikeDays", "rows", "[LStrikeDays$Cells;", true)
  | 1 => ("StrikeDays", "texts", "[LStrikeDays$Cells;", true)
  | 2 => ("StrikeDays", "ways", "[LStrikeDays$Way;", true)
  | 3 => ("StrikeDays", "quarrel", "LStrikeDays$Quarrel;", true)
  | 4 => ("StrikeDays", "law", "LStrikeDays$Law;", true)
  | 5 => ("StrikeDays", "trialLaw", "LStrikeDays$Law;", true)
  | 6 => ("StrikeDays", "reader", "LStrikeDays$Reader;", true)
  | 7 => ("StrikeDays", "runs", "LStrikeDays$Runs;", true)
  | 8 => ("StrikeDays", "trialRuns", "LStrikeDays$Runs;", true)
  | 9 => ("StrikeDays", "bests", "LStrikeDays$Bests;", true)
  | 10 => ("StrikeDays", "strikers", "LStrikeDays$Strikers;", true)
  | 11 => ("StrikeDays", "fraction", "LStrikeDays$Fraction;", true)
  | 12 => ("StrikeDays", "findings", "LStrikeDays$Findings;", true)
  | _ => ("StrikeDays", "asked", "I", false)
def tyX10 : Nat → FieldType := fun k => match k with
  | 0 => .array (.object "StrikeDays$Cells")
  | 1 => .array (.object "StrikeDays$Cells")
  | 2 => .array (.object "StrikeDays$Way")
  | 3 => .object "StrikeDays$Quarrel"
  | 4 => .object "StrikeDays$Law"
  | 5 => .object "StrikeDays$Law"
  | 6 => .object "StrikeDays$Reader"
  | 7 => .object "StrikeDays$Runs"
  | 8 => .object "StrikeDays$Runs"
  | 9 => .object "StrikeDays$Bests"
  | 10 => .object "StrikeDays$Strikers"
  | 11 => .object "StrikeDays$Fraction"
  | 12 => .object "StrikeDays$Findings"
  | _ => .int
theorem nmX10 : ∀ a, a < 14 → ∀ b, b < 14 → a ≠ b → (TX10 a).2.1 ≠ (TX10 b).2.1 := by decide +kernel
theorem tyX10_ok : ∀ k, k < 14 → parseFieldDescriptor (TX10 k).2.2.1 = some (tyX10 k) := by decide +kernel
abbrev cX10_init : ByteArray := prog_1_method_1_code
def yX10_init : MethodName := ⟨RX10, "<init>", "()V"⟩
abbrev cX10_row : ByteArray := prog_1_method_2_code
def yX10_row : MethodName := ⟨RX10, "row", "(II)I"⟩
abbrev cX10_lay : ByteArray := prog_1_method_3_code
def yX10_lay : MethodName := ⟨RX10, "lay", "(III)I"⟩
abbrev cX10_tear : ByteArray := prog_1_method_4_code
def yX10_tear : MethodName := ⟨RX10, "tear", "(I)I"⟩
abbrev cX10_copy : ByteArray := prog_1_method_5_code
def yX10_copy : MethodName := ⟨RX10, "copy", "(IIIII)I"⟩
abbrev cX10_mean : ByteArray := prog_1_method_6_code
def yX10_mean : MethodName := ⟨RX10, "mean", "(I)I"⟩
abbrev cX10_text : ByteArray := prog_1_method_7_code
def yX10_text : MethodName := ⟨RX10, "text", "(II)I"⟩
abbrev cX10_put : ByteArray := prog_1_method_8_code
def yX10_put : MethodName := ⟨RX10, "put", "(III)I"⟩
abbrev cX10_fault : ByteArray := prog_1_method_9_code
def yX10_fault : MethodName := ⟨RX10, "fault", "(I)I"⟩
abbrev cX10_quarrel : ByteArray := prog_1_method_10_code
def yX10_quarrel : MethodName := ⟨RX10, "quarrel", "(I)I"⟩
abbrev cX10_told : ByteArray := prog_1_method_11_code
def yX10_told : MethodName := ⟨RX10, "told", "(I)I"⟩
abbrev cX10_sort : ByteArray := prog_1_method_12_code
def yX10_sort : MethodName := ⟨RX10, "sort", "(III)I"⟩
abbrev cX10_notice : ByteArray := prog_1_method_13_code
def yX10_notice : MethodName := ⟨RX10, "notice", "(I)I"⟩
abbrev cX10_judge : ByteArray := prog_1_method_14_code
def yX10_judge : MethodName := ⟨RX10, "judge", "(II)I"⟩
abbrev cX10_way : ByteArray := prog_1_method_15_code
def yX10_way : MethodName := ⟨RX10, "way", "(II)I"⟩
abbrev cX10_set : ByteArray := prog_1_method_16_code
def yX10_set : MethodName := ⟨RX10, "set", "(IIII)I"⟩
abbrev cX10_setAll : ByteArray := prog_1_method_17_code
def yX10_setAll : MethodName := ⟨RX10, "setAll", "(III)I"⟩
abbrev cX10_at : ByteArray := prog_1_method_18_code
def yX10_at : MethodName := ⟨RX10, "at", "(III)I"⟩
abbrev cX10_kind : ByteArray := prog_1_method_19_code
def yX10_kind : MethodName := ⟨RX10, "kind", "(I)I"⟩
abbrev cX10_mark : ByteArray := prog_1_method_20_code
def yX10_mark : MethodName := ⟨RX10, "mark", "(II)I"⟩
abbrev cX10_run : ByteArray := prog_1_method_21_code
def yX10_run : MethodName := ⟨RX10, "run", "(IIII)I"⟩
abbrev cX10_worth : ByteArray := prog_1_method_22_code
def yX10_worth : MethodName := ⟨RX10, "worth", "(IIII)I"⟩
abbrev cX10_think : ByteArray := prog_1_method_23_code
def yX10_think : MethodName := ⟨RX10, "think", "(IIIIII)I"⟩
abbrev cX10_end : ByteArray := prog_1_method_24_code
def yX10_end : MethodName := ⟨RX10, "end", "(III)I"⟩
abbrev cX10_best : ByteArray := prog_1_method_25_code
def yX10_best : MethodName := ⟨RX10, "best", "(III)I"⟩
abbrev cX10_rest : ByteArray := prog_1_method_26_code
def yX10_rest : MethodName := ⟨RX10, "rest", "(II)I"⟩
abbrev cX10_answer : ByteArray := prog_1_method_27_code
def yX10_answer : MethodName := ⟨RX10, "answer", "(II)I"⟩
abbrev cX10_reply : ByteArray := prog_1_method_28_code
def yX10_reply : MethodName := ⟨RX10, "reply", "(II)I"⟩
abbrev cX10_longer : ByteArray := prog_1_method_29_code
def yX10_longer : MethodName := ⟨RX10, "longer", "(II)I"⟩
abbrev cX10_lost : ByteArray := prog_1_method_30_code
def yX10_lost : MethodName := ⟨RX10, "lost", "(II)I"⟩
abbrev cX10_morning : ByteArray := prog_1_method_31_code
def yX10_morning : MethodName := ⟨RX10, "morning", "(IIII)I"⟩
abbrev cX10_law : ByteArray := prog_1_method_32_code
def yX10_law : MethodName := ⟨RX10, "law", "(II)I"⟩
abbrev cX10_men : ByteArray := prog_1_method_33_code
def yX10_men : MethodName := ⟨RX10, "men", "(IIII)I"⟩
abbrev cX10_leftBy : ByteArray := prog_1_method_34_code
def yX10_leftBy : MethodName := ⟨RX10, "leftBy", "(IIII)I"⟩
abbrev cX10_gone : ByteArray := prog_1_method_35_code
def yX10_gone : MethodName := ⟨RX10, "gone", "(III)I"⟩
abbrev cX10_all : ByteArray := prog_1_method_36_code
def yX10_all : MethodName := ⟨RX10, "all", "(II)I"⟩
abbrev cX10_turns : ByteArray := prog_1_method_37_code
def yX10_turns : MethodName := ⟨RX10, "turns", "(I)I"⟩
abbrev cX10_fund : ByteArray := prog_1_method_38_code
def yX10_fund : MethodName := ⟨RX10, "fund", "(II)I"⟩
abbrev cX10_pact : ByteArray := prog_1_method_39_code
def yX10_pact : MethodName := ⟨RX10, "pact", "(III)I"⟩
abbrev cX10_asked : ByteArray := prog_1_method_40_code
def yX10_asked : MethodName := ⟨RX10, "asked", "()I"⟩
abbrev cX10_upper : ByteArray := prog_1_method_41_code
def yX10_upper : MethodName := ⟨RX10, "upper", "()J"⟩
abbrev cX10_lower : ByteArray := prog_1_method_42_code
def yX10_lower : MethodName := ⟨RX10, "lower", "()J"⟩
abbrev cX10_count : ByteArray := prog_1_method_43_code
def yX10_count : MethodName := ⟨RX10, "count", "(I)I"⟩
abbrev cX10_finding : ByteArray := prog_1_method_44_code
def yX10_finding : MethodName := ⟨RX10, "finding", "()I"⟩
abbrev cX10_findings : ByteArray := prog_1_method_45_code
def yX10_findings : MethodName := ⟨RX10, "findings", "(I)I"⟩
abbrev cX10_digest : ByteArray := prog_1_method_46_code
def yX10_digest : MethodName := ⟨RX10, "digest", "()J"⟩
abbrev cX10_within : ByteArray := prog_1_method_47_code
def yX10_within : MethodName := ⟨RX10, "within", "(III)Z"⟩
abbrev cX10_isRow : ByteArray := prog_1_method_48_code
def yX10_isRow : MethodName := ⟨RX10, "isRow", "(I)Z"⟩
abbrev cX10_isText : ByteArray := prog_1_method_49_code
def yX10_isText : MethodName := ⟨RX10, "isText", "(I)Z"⟩
abbrev cX10_isWay : ByteArray := prog_1_method_50_code
def yX10_isWay : MethodName := ⟨RX10, "isWay", "(I)Z"⟩
abbrev cX10_isPlace : ByteArray := prog_1_method_51_code
def yX10_isPlace : MethodName := ⟨RX10, "isPlace", "(II)Z"⟩
abbrev cX10_isKindOfMen : ByteArray := prog_1_method_52_code
def yX10_isKindOfMen : MethodName := ⟨RX10, "isKindOfMen", "(I)Z"⟩
abbrev cX10_isFund : ByteArray := prog_1_method_53_code
def yX10_isFund : MethodName := ⟨RX10, "isFund", "(II)Z"⟩
abbrev cX10_otherSide : ByteArray := prog_1_method_54_code
def yX10_otherSide : MethodName := ⟨RX10, "otherSide", "(I)I"⟩
abbrev cX10_contains : ByteArray := prog_1_method_55_code
def yX10_contains : MethodName := ⟨RX10, "contains", "(II)Z"⟩
abbrev cX10_refusePair : ByteArray := prog_1_method_56_code
def yX10_refusePair : MethodName := ⟨RX10, "refusePair", "(IIZ)I"⟩
abbrev cX10_leastTaken : ByteArray := prog_1_method_57_code
def yX10_leastTaken : MethodName := ⟨RX10, "leastTaken", "(LStrikeDays$Way;II)I"⟩
abbrev cX10_ofQuarrel : ByteArray := prog_1_method_58_code
def yX10_ofQuarrel : MethodName := ⟨RX10, "ofQuarrel", "(I)I"⟩
abbrev cX10_counted : ByteArray := prog_1_method_59_code
def yX10_counted : MethodName := ⟨RX10, "counted", "(I)I"⟩
abbrev cX10_present : ByteArray := prog_1_method_60_code
def yX10_present : MethodName := ⟨RX10, "present", "([LStrikeDays$Cells;)I"⟩
abbrev cX10_waysOf : ByteArray := prog_1_method_61_code
def yX10_waysOf : MethodName := ⟨RX10, "waysOf", "(I)I"⟩
def RX11 : String := "StrikeDaysModel"
def TX11 : u_T := fun k => match k with
  | 0 => ("StrikeDaysModel", "finding", "I", false)
  | 1 => ("StrikeDaysModel", "findings", "[I", true)
  | 2 => ("StrikeDaysModel", "asked", "I", false)
  | 3 => ("StrikeDaysModel", "upper", "J", false)
  | 4 => ("StrikeDaysModel", "lower", "J", false)
  | 5 => ("StrikeDaysModel", "sizes", "[I", true)
  | 6 => ("StrikeDaysModel", "rows", "[I", true)
  | 7 => ("StrikeDaysModel", "moving", "[I", true)
  | 8 => ("StrikeDaysModel", "lengths", "[I", true)
  | 9 => ("StrikeDaysModel", "texts", "[I", true)
  | 10 => ("StrikeDaysModel", "sortMany", "[I", true)
  | 11 => ("StrikeDaysModel", "chance", "[I", true)
  | 12 => ("StrikeDaysModel", "cost", "[I", true)
  | 13 => ("StrikeDaysModel", "quarrel", "[I", true)
  | 14 => ("StrikeDaysModel", "notice", "I", false)
  | 15 => ("StrikeDaysModel", "twelfths", "I", false)
  | 16 => ("StrikeDaysModel", "judgeWage", "I", false)
  | 17 => ("StrikeDaysModel", "readMany", "[I", true)
  | 18 => ("StrikeDaysModel", "readChance", "[I", true)
  | 19 => ("StrikeDaysModel", "readCost", "[I", true)
  | 20 => ("StrikeDaysModel", "readQuarrel", "[I", true)
  | 21 => ("StrikeDaysModel", "readAt", "I", false)
  | 22 => ("StrikeDaysModel", "readNumber", "I", false)
  | 23 => ("StrikeDaysModel", "kinds", "[I", true)
  | 24 => ("StrikeDaysModel", "numbers", "[I", true)
  | 25 => ("StrikeDaysModel", "bests", "[J", true)
  | 26 => ("StrikeDaysModel", "bestOffer", "[I", true)
  | 27 => ("StrikeDaysModel", "many", "[I", true)
  | 28 => ("StrikeDaysModel", "left", "[I", true)
  | 29 => ("StrikeDaysModel", "tenths", "[I", true)
  | 30 => ("StrikeDaysModel", "backs", "I", false)
  | 31 => ("StrikeDaysModel", "still", "[I", true)
  | 32 => ("StrikeDaysModel", "purse", "I", false)
  | 33 => ("StrikeDaysModel", "paidRow", "I", false)
  | 34 => ("StrikeDaysModel", "isBroken", "Z", false)
  | _ => ("StrikeDaysModel", "h", "J", false)
def tyX11 : Nat → FieldType := fun k => match k with
  | 0 => .int
  | 1 => .array .int
  | 2 => .int
  | 3 => .long
  | 4 => .long
  | 5 => .array .int
  | 6 => .array .int
  | 7 => .array .int
  | 8 => .array .int
  | 9 => .array .int
  | 10 => .array .int
  | 11 => .array .int
  | 12 => .array .int
  | 13 => .array .int
  | 14 => .int
  | 15 => .int
  | 16 => .int
  | 17 => .array .int
  | 18 => .array .int
  | 19 => .array .int
  | 20 => .array .int
  | 21 => .int
  | 22 => .int
  | 23 => .array .int
  | 24 => .array .int
  | 25 => .array .long
  | 26 => .array .int
  | 27 => .array .int
  | 28 => .array .int
  | 29 => .array .int
  | 30 => .int
  | 31 => .array .int
  | 32 => .int
  | 33 => .int
  | 34 => .boolean
  | _ => .long
theorem nmX11 : ∀ a, a < 36 → ∀ b, b < 36 → a ≠ b → (TX11 a).2.1 ≠ (TX11 b).2.1 := by decide +kernel
theorem tyX11_ok : ∀ k, k < 36 → parseFieldDescriptor (TX11 k).2.2.1 = some (tyX11 k) := by decide +kernel
abbrev cX11_init : ByteArray := prog_13_method_1_code
def yX11_init : MethodName := ⟨RX11, "<init>", "()V"⟩
abbrev cX11_in : ByteArray := prog_13_method_3_code
def yX11_in : MethodName := ⟨RX11, "in", "(III)Z"⟩
abbrev cX11_meets : ByteArray := prog_13_method_4_code
def yX11_meets : MethodName := ⟨RX11, "meets", "(I)I"⟩
abbrev cX11_ask : ByteArray := prog_13_method_5_code
def yX11_ask : MethodName := ⟨RX11, "ask", "(II)I"⟩
abbrev cX11_isIn : ByteArray := prog_13_method_6_code
def yX11_isIn : MethodName := ⟨RX11, "isIn", "(II)Z"⟩
abbrev cX11_share : ByteArray := prog_13_method_7_code
def yX11_share : MethodName := ⟨RX11, "share", "(JJI)I"⟩
abbrev cX11_isRow : ByteArray := prog_13_method_8_code
def yX11_isRow : MethodName := ⟨RX11, "isRow", "(I)Z"⟩
abbrev cX11_isText : ByteArray := prog_13_method_9_code
def yX11_isText : MethodName := ⟨RX11, "isText", "(I)Z"⟩
abbrev cX11_askedRow : ByteArray := prog_13_method_10_code
def yX11_askedRow : MethodName := ⟨RX11, "askedRow", "(I)I"⟩
abbrev cX11_askedText : ByteArray := prog_13_method_11_code
def yX11_askedText : MethodName := ⟨RX11, "askedText", "(I)I"⟩
abbrev cX11_rowAt : ByteArray := prog_13_method_12_code
def yX11_rowAt : MethodName := ⟨RX11, "rowAt", "(II)I"⟩
abbrev cX11_row : ByteArray := prog_13_method_13_code
def yX11_row : MethodName := ⟨RX11, "row", "(II)I"⟩
abbrev cX11_lay : ByteArray := prog_13_method_14_code
def yX11_lay : MethodName := ⟨RX11, "lay", "(III)I"⟩
abbrev cX11_tear : ByteArray := prog_13_method_15_code
def yX11_tear : MethodName := ⟨RX11, "tear", "(I)I"⟩
abbrev cX11_copy : ByteArray := prog_13_method_16_code
def yX11_copy : MethodName := ⟨RX11, "copy", "(IIIII)I"⟩
abbrev cX11_mean : ByteArray := prog_13_method_17_code
def yX11_mean : MethodName := ⟨RX11, "mean", "(I)I"⟩
abbrev cX11_text : ByteArray := prog_13_method_18_code
def yX11_text : MethodName := ⟨RX11, "text", "(II)I"⟩
abbrev cX11_put : ByteArray := prog_13_method_19_code
def yX11_put : MethodName := ⟨RX11, "put", "(III)I"⟩
abbrev cX11_here : ByteArray := prog_13_method_20_code
def yX11_here : MethodName := ⟨RX11, "here", "(I)I"⟩
abbrev cX11_readsNumber : ByteArray := prog_13_method_21_code
def yX11_readsNumber : MethodName := ⟨RX11, "readsNumber", "(III)Z"⟩
abbrev cX11_which : ByteArray := prog_13_method_22_code
def yX11_which : MethodName := ⟨RX11, "which", "(I)I"⟩
abbrev cX11_readsSort : ByteArray := prog_13_method_23_code
def yX11_readsSort : MethodName := ⟨RX11, "readsSort", "(II)Z"⟩
abbrev cX11_reads : ByteArray := prog_13_method_24_code
def yX11_reads : MethodName := ⟨RX11, "reads", "(I)I"⟩
abbrev cX11_fault : ByteArray := prog_13_method_25_code
def yX11_fault : MethodName := ⟨RX11, "fault", "(I)I"⟩
abbrev cX11_quarrel : ByteArray := prog_13_method_26_code
def yX11_quarrel : MethodName := ⟨RX11, "quarrel", "(I)I"⟩
abbrev cX11_tells : ByteArray := prog_13_method_27_code
def yX11_tells : MethodName := ⟨RX11, "tells", "(I)I"⟩
abbrev cX11_told : ByteArray := prog_13_method_28_code
def yX11_told : MethodName := ⟨RX11, "told", "(I)I"⟩
abbrev cX11_isSort : ByteArray := prog_13_method_29_code
def yX11_isSort : MethodName := ⟨RX11, "isSort", "(II)Z"⟩
abbrev cX11_sort : ByteArray := prog_13_method_30_code
def yX11_sort : MethodName := ⟨RX11, "sort", "(III)I"⟩
abbrev cX11_isDay : ByteArray := prog_13_method_31_code
def yX11_isDay : MethodName := ⟨RX11, "isDay", "(I)Z"⟩
abbrev cX11_notice : ByteArray := prog_13_method_32_code
def yX11_notice : MethodName := ⟨RX11, "notice", "(I)I"⟩
abbrev cX11_judge : ByteArray := prog_13_method_33_code
def yX11_judge : MethodName := ⟨RX11, "judge", "(II)I"⟩
abbrev cX11_last : ByteArray := prog_13_method_34_code
def yX11_last : MethodName := ⟨RX11, "last", "()I"⟩
abbrev cX11_chances : ByteArray := prog_13_method_35_code
def yX11_chances : MethodName := ⟨RX11, "chances", "(II)I"⟩
abbrev cX11_whoAll : ByteArray := prog_13_method_36_code
def yX11_whoAll : MethodName := ⟨RX11, "whoAll", "(I)I"⟩
abbrev cX11_worthOf : ByteArray := prog_13_method_37_code
def yX11_worthOf : MethodName := ⟨RX11, "worthOf", "(IIII)J"⟩
abbrev cX11_isWay : ByteArray := prog_13_method_38_code
def yX11_isWay : MethodName := ⟨RX11, "isWay", "(I)Z"⟩
abbrev cX11_askedWay : ByteArray := prog_13_method_39_code
def yX11_askedWay : MethodName := ⟨RX11, "askedWay", "(I)I"⟩
abbrev cX11_number : ByteArray := prog_13_method_40_code
def yX11_number : MethodName := ⟨RX11, "number", "(III)I"⟩
abbrev cX11_way : ByteArray := prog_13_method_41_code
def yX11_way : MethodName := ⟨RX11, "way", "(II)I"⟩
abbrev cX11_isOfKind : ByteArray := prog_13_method_42_code
def yX11_isOfKind : MethodName := ⟨RX11, "isOfKind", "(II)Z"⟩
abbrev cX11_isPlace : ByteArray := prog_13_method_43_code
def yX11_isPlace : MethodName := ⟨RX11, "isPlace", "(II)Z"⟩
abbrev cX11_set : ByteArray := prog_13_method_44_code
def yX11_set : MethodName := ⟨RX11, "set", "(IIII)I"⟩
abbrev cX11_setAll : ByteArray := prog_13_method_45_code
def yX11_setAll : MethodName := ⟨RX11, "setAll", "(III)I"⟩
abbrev cX11_at : ByteArray := prog_13_method_46_code
def yX11_at : MethodName := ⟨RX11, "at", "(III)I"⟩
abbrev cX11_kind : ByteArray := prog_13_method_47_code
def yX11_kind : MethodName := ⟨RX11, "kind", "(I)I"⟩
abbrev cX11_needed : ByteArray := prog_13_method_48_code
def yX11_needed : MethodName := ⟨RX11, "needed", "()I"⟩
abbrev cX11_mark : ByteArray := prog_13_method_49_code
def yX11_mark : MethodName := ⟨RX11, "mark", "(II)I"⟩
abbrev cX11_askedTwo : ByteArray := prog_13_method_50_code
def yX11_askedTwo : MethodName := ⟨RX11, "askedTwo", "(IIZ)I"⟩
abbrev cX11_takes : ByteArray := prog_13_method_51_code
def yX11_takes : MethodName := ⟨RX11, "takes", "(IIII)Z"⟩
abbrev cX11_dayOf : ByteArray := prog_13_method_52_code
def yX11_dayOf : MethodName := ⟨RX11, "dayOf", "(IIII)I"⟩
abbrev cX11_wageOn : ByteArray := prog_13_method_53_code
def yX11_wageOn : MethodName := ⟨RX11, "wageOn", "(III)I"⟩
abbrev cX11_run : ByteArray := prog_13_method_54_code
def yX11_run : MethodName := ⟨RX11, "run", "(IIII)I"⟩
abbrev cX11_twelve : ByteArray := prog_13_method_55_code
def yX11_twelve : MethodName := ⟨RX11, "twelve", "(I)J"⟩
abbrev cX11_judged : ByteArray := prog_13_method_56_code
def yX11_judged : MethodName := ⟨RX11, "judged", "(IIII)J"⟩
abbrev cX11_worthIn : ByteArray := prog_13_method_57_code
def yX11_worthIn : MethodName := ⟨RX11, "worthIn", "(IIII)J"⟩
abbrev cX11_whole : ByteArray := prog_13_method_58_code
def yX11_whole : MethodName := ⟨RX11, "whole", "(I)J"⟩
abbrev cX11_worth : ByteArray := prog_13_method_59_code
def yX11_worth : MethodName := ⟨RX11, "worth", "(IIII)I"⟩
abbrev cX11_notTaken : ByteArray := prog_13_method_60_code
def yX11_notTaken : MethodName := ⟨RX11, "notTaken", "(IIII)I"⟩
abbrev cX11_alikeTo : ByteArray := prog_13_method_61_code
def yX11_alikeTo : MethodName := ⟨RX11, "alikeTo", "(III)I"⟩
abbrev cX11_think : ByteArray := prog_13_method_62_code
def yX11_think : MethodName := ⟨RX11, "think", "(IIIIII)I"⟩
abbrev cX11_end : ByteArray := prog_13_method_63_code
def yX11_end : MethodName := ⟨RX11, "end", "(III)I"⟩
abbrev cX11_pairs : ByteArray := prog_13_method_64_code
def yX11_pairs : MethodName := ⟨RX11, "pairs", "()J"⟩
abbrev cX11_byJudge : ByteArray := prog_13_method_65_code
def yX11_byJudge : MethodName := ⟨RX11, "byJudge", "(IIII)J"⟩
abbrev cX11_setBestOfMen : ByteArray := prog_13_method_66_code
def yX11_setBestOfMen : MethodName := ⟨RX11, "setBestOfMen", "(II)V"⟩
abbrev cX11_offering : ByteArray := prog_13_method_67_code
def yX11_offering : MethodName := ⟨RX11, "offering", "(IIII)I"⟩
abbrev cX11_taking : ByteArray := prog_13_method_68_code
def yX11_taking : MethodName := ⟨RX11, "taking", "(IIII)I"⟩
abbrev cX11_setBestOfOwners : ByteArray := prog_13_method_69_code
def yX11_setBestOfOwners : MethodName := ⟨RX11, "setBestOfOwners", "(II)V"⟩
abbrev cX11_bestOf : ByteArray := prog_13_method_70_code
def yX11_bestOf : MethodName := ⟨RX11, "bestOf", "(III)J"⟩
abbrev cX11_best : ByteArray := prog_13_method_71_code
def yX11_best : MethodName := ⟨RX11, "best", "(III)I"⟩
abbrev cX11_rest : ByteArray := prog_13_method_72_code
def yX11_rest : MethodName := ⟨RX11, "rest", "(II)I"⟩
abbrev cX11_changes : ByteArray := prog_13_method_73_code
def yX11_changes : MethodName := ⟨RX11, "changes", "(IIII)I"⟩
abbrev cX11_answer : ByteArray := prog_13_method_74_code
def yX11_answer : MethodName := ⟨RX11, "answer", "(II)I"⟩
abbrev cX11_wanted : ByteArray := prog_13_method_75_code
def yX11_wanted : MethodName := ⟨RX11, "wanted", "(III)I"⟩
abbrev cX11_reply : ByteArray := prog_13_method_76_code
def yX11_reply : MethodName := ⟨RX11, "reply", "(II)I"⟩
abbrev cX11_longer : ByteArray := prog_13_method_77_code
def yX11_longer : MethodName := ⟨RX11, "longer", "(II)I"⟩
abbrev cX11_lost : ByteArray := prog_13_method_78_code
def yX11_lost : MethodName := ⟨RX11, "lost", "(II)I"⟩
abbrev cX11_loses : ByteArray := prog_13_method_79_code
def yX11_loses : MethodName := ⟨RX11, "loses", "(IIZ)I"⟩
abbrev cX11_morning : ByteArray := prog_13_method_80_code
def yX11_morning : MethodName := ⟨RX11, "morning", "(IIII)I"⟩
abbrev cX11_losesBy : ByteArray := prog_13_method_81_code
def yX11_losesBy : MethodName := ⟨RX11, "losesBy", "(III)J"⟩
abbrev cX11_law : ByteArray := prog_13_method_82_code
def yX11_law : MethodName := ⟨RX11, "law", "(II)I"⟩
abbrev cX11_isKindOfMen : ByteArray := prog_13_method_83_code
def yX11_isKindOfMen : MethodName := ⟨RX11, "isKindOfMen", "(I)Z"⟩
abbrev cX11_men : ByteArray := prog_13_method_84_code
def yX11_men : MethodName := ⟨RX11, "men", "(IIII)I"⟩
abbrev cX11_leftBy : ByteArray := prog_13_method_85_code
def yX11_leftBy : MethodName := ⟨RX11, "leftBy", "(IIII)I"⟩
abbrev cX11_menOf : ByteArray := prog_13_method_86_code
def yX11_menOf : MethodName := ⟨RX11, "menOf", "(I)I"⟩
abbrev cX11_begins : ByteArray := prog_13_method_87_code
def yX11_begins : MethodName := ⟨RX11, "begins", "(I)V"⟩
abbrev cX11_goesOn : ByteArray := prog_13_method_88_code
def yX11_goesOn : MethodName := ⟨RX11, "goesOn", "(I)V"⟩
abbrev cX11_isFund : ByteArray := prog_13_method_89_code
def yX11_isFund : MethodName := ⟨RX11, "isFund", "(II)Z"⟩
abbrev cX11_gone : ByteArray := prog_13_method_90_code
def yX11_gone : MethodName := ⟨RX11, "gone", "(III)I"⟩
abbrev cX11_all : ByteArray := prog_13_method_91_code
def yX11_all : MethodName := ⟨RX11, "all", "(II)I"⟩
abbrev cX11_turnsAll : ByteArray := prog_13_method_92_code
def yX11_turnsAll : MethodName := ⟨RX11, "turnsAll", "(II)Z"⟩
abbrev cX11_turns : ByteArray := prog_13_method_93_code
def yX11_turns : MethodName := ⟨RX11, "turns", "(I)I"⟩
abbrev cX11_fund : ByteArray := prog_13_method_94_code
def yX11_fund : MethodName := ⟨RX11, "fund", "(II)I"⟩
abbrev cX11_pact : ByteArray := prog_13_method_95_code
def yX11_pact : MethodName := ⟨RX11, "pact", "(III)I"⟩
abbrev cX11_asked : ByteArray := prog_13_method_96_code
def yX11_asked : MethodName := ⟨RX11, "asked", "()I"⟩
abbrev cX11_upper : ByteArray := prog_13_method_97_code
def yX11_upper : MethodName := ⟨RX11, "upper", "()J"⟩
abbrev cX11_lower : ByteArray := prog_13_method_98_code
def yX11_lower : MethodName := ⟨RX11, "lower", "()J"⟩
abbrev cX11_counts : ByteArray := prog_13_method_99_code
def yX11_counts : MethodName := ⟨RX11, "counts", "(I)I"⟩
abbrev cX11_count : ByteArray := prog_13_method_100_code
def yX11_count : MethodName := ⟨RX11, "count", "(I)I"⟩
abbrev cX11_finding : ByteArray := prog_13_method_101_code
def yX11_finding : MethodName := ⟨RX11, "finding", "()I"⟩
abbrev cX11_findings : ByteArray := prog_13_method_102_code
def yX11_findings : MethodName := ⟨RX11, "findings", "(I)I"⟩
abbrev cX11_mix : ByteArray := prog_13_method_103_code
def yX11_mix : MethodName := ⟨RX11, "mix", "(I)V"⟩
abbrev cX11_mixQuarrel : ByteArray := prog_13_method_104_code
def yX11_mixQuarrel : MethodName := ⟨RX11, "mixQuarrel", "()V"⟩
abbrev cX11_digest : ByteArray := prog_13_method_105_code
def yX11_digest : MethodName := ⟨RX11, "digest", "()J"⟩
def RJ6 : String := "java/lang/Integer"
def TJ6 : u_T := fun k => match k with
  | _ => ("", "", "", false)
def tyJ6 : Nat → FieldType := fun k => match k with
  | _ => .int
theorem nmJ6 : ∀ a, a < 0 → ∀ b, b < 0 → a ≠ b → (TJ6 a).2.1 ≠ (TJ6 b).2.1 := by decide +kernel
theorem tyJ6_ok : ∀ k, k < 0 → parseFieldDescriptor (TJ6 k).2.2.1 = some (tyJ6 k) := by decide +kernel
abbrev cJ6_bitCount_0f7a4 : ByteArray := prog_14_method_49_code
def yJ6_bitCount_0f7a4 : MethodName := ⟨RJ6, "bitCount", "(I)I"⟩
def RJ9 : String := "java/lang/Math"
def TJ9 : u_T := fun k => match k with
  | _ => ("", "", "", false)
def tyJ9 : Nat → FieldType := fun k => match k with
  | _ => .int
theorem nmJ9 : ∀ a, a < 0 → ∀ b, b < 0 → a ≠ b → (TJ9 a).2.1 ≠ (TJ9 b).2.1 := by decide +kernel
theorem tyJ9_ok : ∀ k, k < 0 → parseFieldDescriptor (TJ9 k).2.2.1 = some (tyJ9 k) := by decide +kernel
abbrev cJ9_abs_067f4 : ByteArray := prog_15_method_61_code
def yJ9_abs_067f4 : MethodName := ⟨RJ9, "abs", "(J)J"⟩
abbrev cJ9_max_7cf53 : ByteArray := prog_15_method_65_code
def yJ9_max_7cf53 : MethodName := ⟨RJ9, "max", "(II)I"⟩
abbrev cJ9_max_f86c9 : ByteArray := prog_15_method_66_code
def yJ9_max_f86c9 : MethodName := ⟨RJ9, "max", "(JJ)J"⟩
abbrev cJ9_min_7cf53 : ByteArray := prog_15_method_69_code
def yJ9_min_7cf53 : MethodName := ⟨RJ9, "min", "(II)I"⟩
def RJ10 : String := "java/lang/System"
def TJ10 : u_T := fun k => match k with
  | _ => ("", "", "", false)
def tyJ10 : Nat → FieldType := fun k => match k with
  | _ => .int
theorem nmJ10 : ∀ a, a < 0 → ∀ b, b < 0 → a ≠ b → (TJ10 a).2.1 ≠ (TJ10 b).2.1 := by decide +kernel
theorem tyJ10_ok : ∀ k, k < 0 → parseFieldDescriptor (TJ10 k).2.2.1 = some (tyJ10 k) := by decide +kernel
def RJ7 : String := "java/util/Arrays"
def TJ7 : u_T := fun k => match k with
  | _ => ("", "", "", false)
def tyJ7 : Nat → FieldType := fun k => match k with
  | _ => .int
theorem nmJ7 : ∀ a, a < 0 → ∀ b, b < 0 → a ≠ b → (TJ7 a).2.1 ≠ (TJ7 b).2.1 := by decide +kernel
theorem tyJ7_ok : ∀ k, k < 0 → parseFieldDescriptor (TJ7 k).2.2.1 = some (tyJ7 k) := by decide +kernel
abbrev cJ7_fill_53178 : ByteArray := prog_17_method_103_code
def yJ7_fill_53178 : MethodName := ⟨RJ7, "fill", "([II)V"⟩
def RL : String := "StrikeDaysLaw"
abbrev cL_law : ByteArray := code
def yL_law : MethodName := ⟨RL, "law", "([I)Z"⟩
