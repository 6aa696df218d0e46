section
def lw_okq (q : MethodName × Nat) : Prop := (q.1.cls ≠ "java/lang/invoke/MethodHandle" ∧ q.1.cls ≠ "java/lang/invoke/VarHandle") ∧ Cond.instantiable q.1.cls q.2 ∈ tables_1 ∧ Cond.privateMethod q.1 ∈ tables_1 ∧ Cond.instanceMethod q.1 ∈ tables_1
theorem lw_p0 : lw_okq (⟨"SharesOfSeries", "sheetNumbered", "(I)LSharesOfSeries$Sheet;"⟩, 13) := ⟨⟨by decide +kernel, by decide +kernel⟩, List.mem_of_getElem? (i := 16) (by decide +kernel), List.mem_of_getElem? (i := 248) (by decide +kernel), List.mem_of_getElem? (i := 249) (by decide +kernel)⟩
theorem lw_p1 : lw_okq (⟨"SharesOfSeries", "caused", "(I)I"⟩, 13) := ⟨⟨by decide +kernel, by decide +kernel⟩, List.mem_of_getElem? (i := 16) (by decide +kernel), List.mem_of_getElem? (i := 255) (by decide +kernel), List.mem_of_getElem? (i := 256) (by decide +kernel)⟩
theorem lw_p2 : lw_okq (⟨"SharesOfSeries$Sheet", "castToLane", "(J)J"⟩, 4) := ⟨⟨by decide +kernel, by decide +kernel⟩, List.mem_of_getElem? (i := 150) (by decide +kernel), List.mem_of_getElem? (i := 278) (by decide +kernel), List.mem_of_getElem? (i := 279) (by decide +kernel)⟩
theorem lw_p3 : lw_okq (⟨"SharesOfSeries", "freshSeries", "(I)LSharesOfSeries$Series;"⟩, 13) := ⟨⟨by decide +kernel, by decide +kernel⟩, List.mem_of_getElem? (i := 16) (by decide +kernel), List.mem_of_getElem? (i := 300) (by decide +kernel), List.mem_of_getElem? (i := 301) (by decide +kernel)⟩
theorem lw_p4 : lw_okq (⟨"SharesOfSeries", "readTerms", "(LSharesOfSeries$Sheet;IILSharesOfSeries$Polynomial;)V"⟩, 13) := ⟨⟨by decide +kernel, by decide +kernel⟩, List.mem_of_getElem? (i := 16) (by decide +kernel), List.mem_of_getElem? (i := 305) (by decide +kernel), List.mem_of_getElem? (i := 306) (by decide +kernel)⟩
theorem lw_p5 : lw_okq (⟨"SharesOfSeries", "keepFresh", "()I"⟩, 13) := ⟨⟨by decide +kernel, by decide +kernel⟩, List.mem_of_getElem? (i := 16) (by decide +kernel), List.mem_of_getElem? (i := 321) (by decide +kernel), List.mem_of_getElem? (i := 322) (by decide +kernel)⟩
theorem lw_p6 : lw_okq (⟨"SharesOfSeries", "keepUnfolded", "(LSharesOfSeries$Share;I)I"⟩, 13) := ⟨⟨by decide +kernel, by decide +kernel⟩, List.mem_of_getElem? (i := 16) (by decide +kernel), List.mem_of_getElem? (i := 329) (by decide +kernel), List.mem_of_getElem? (i := 330) (by decide +kernel)⟩
theorem lw_p7 : lw_okq (⟨"SharesOfSeries", "seriesNumbered", "(I)LSharesOfSeries$Series;"⟩, 13) := ⟨⟨by decide +kernel, by decide +kernel⟩, List.mem_of_getElem? (i := 16) (by decide +kernel), List.mem_of_getElem? (i := 361) (by decide +kernel), List.mem_of_getElem? (i := 362) (by decide +kernel)⟩
theorem lw_p8 : lw_okq (⟨"SharesOfSeries", "findEntry", "(LSharesOfSeries$Series;IILSharesOfSeries$Share;)V"⟩, 13) := ⟨⟨by decide +kernel, by decide +kernel⟩, List.mem_of_getElem? (i := 16) (by decide +kernel), List.mem_of_getElem? (i := 405) (by decide +kernel), List.mem_of_getElem? (i := 406) (by decide +kernel)⟩
theorem lw_p9 : lw_okq (⟨"SharesOfSeries$Euclid", "dropCommonFactors", "(LSharesOfSeries$Share;LSharesOfSeries$Residues;)V"⟩, 5) := ⟨⟨by decide +kernel, by decide +kernel⟩, List.mem_of_getElem? (i := 93) (by decide +kernel), List.mem_of_getElem? (i := 442) (by decide +kernel), List.mem_of_getElem? (i := 443) (by decide +kernel)⟩
theorem lw_p10 : lw_okq (⟨"SharesOfSeries", "agreement", "(LSharesOfSeries$Series;LSharesOfSeries$Share;)I"⟩, 13) := ⟨⟨by decide +kernel, by decide +kernel⟩, List.mem_of_getElem? (i := 16) (by decide +kernel), List.mem_of_getElem? (i := 455) (by decide +kernel), List.mem_of_getElem? (i := 456) (by decide +kernel)⟩
theorem lw_p11 : lw_okq (⟨"SharesOfSeries$Determinant", "pivotRow", "(II)I"⟩, 1) := ⟨⟨by decide +kernel, by decide +kernel⟩, List.mem_of_getElem? (i := 119) (by decide +kernel), List.mem_of_getElem? (i := 472) (by decide +kernel), List.mem_of_getElem? (i := 473) (by decide +kernel)⟩
theorem lw_p12 : lw_okq (⟨"SharesOfSeries$Determinant", "swapRows", "(II)V"⟩, 1) := ⟨⟨by decide +kernel, by decide +kernel⟩, List.mem_of_getElem? (i := 119) (by decide +kernel), List.mem_of_getElem? (i := 476) (by decide +kernel), List.mem_of_getElem? (i := 477) (by decide +kernel)⟩
theorem lw_p13 : lw_okq (⟨"SharesOfSeries$Determinant", "clearBelow", "(IILSharesOfSeries$Residues;)V"⟩, 1) := ⟨⟨by decide +kernel, by decide +kernel⟩, List.mem_of_getElem? (i := 119) (by decide +kernel), List.mem_of_getElem? (i := 482) (by decide +kernel), List.mem_of_getElem? (i := 483) (by decide +kernel)⟩
theorem lw_p14 : lw_okq (⟨"SharesOfSeries", "stepDown", "(LSharesOfSeries$Polynomial;I)V"⟩, 13) := ⟨⟨by decide +kernel, by decide +kernel⟩, List.mem_of_getElem? (i := 16) (by decide +kernel), List.mem_of_getElem? (i := 501) (by decide +kernel), List.mem_of_getElem? (i := 502) (by decide +kernel)⟩
theorem lw_p15 : lw_okq (⟨"SharesOfSeries$Recurrence", "faultAt", "(IILSharesOfSeries$Polynomial;LSharesOfSeries$Series;LSharesOfSeries$Residues;)I"⟩, 3) := ⟨⟨by decide +kernel, by decide +kernel⟩, List.mem_of_getElem? (i := 131) (by decide +kernel), List.mem_of_getElem? (i := 514) (by decide +kernel), List.mem_of_getElem? (i := 515) (by decide +kernel)⟩
def lw_privs_1 : List (MethodName × Nat) := [(⟨"SharesOfSeries", "sheetNumbered", "(I)LSharesOfSeries$Sheet;"⟩, 13), (⟨"SharesOfSeries", "caused", "(I)I"⟩, 13), (⟨"SharesOfSeries$Sheet", "castToLane", "(J)J"⟩, 4), (⟨"SharesOfSeries", "freshSeries", "(I)LSharesOfSeries$Series;"⟩, 13), (⟨"SharesOfSeries", "readTerms", "(LSharesOfSeries$Sheet;IILSharesOfSeries$Polynomial;)V"⟩, 13), (⟨"SharesOfSeries", "keepFresh", "()I"⟩, 13), (⟨"SharesOfSeries", "keepUnfolded", "(LSharesOfSeries$Share;I)I"⟩, 13), (⟨"SharesOfSeries", "seriesNumbered", "(I)LSharesOfSeries$Series;"⟩, 13), (⟨"SharesOfSeries", "findEntry", "(LSharesOfSeries$Series;IILSharesOfSeries$Share;)V"⟩, 13), (⟨"SharesOfSeries$Euclid", "dropCommonFactors", "(LSharesOfSeries$Share;LSharesOfSeries$Residues;)V"⟩, 5), (⟨"SharesOfSeries", "agreement", "(LSharesOfSeries$Series;LSharesOfSeries$Share;)I"⟩, 13), (⟨"SharesOfSeries$Determinant", "pivotRow", "(II)I"⟩, 1), (⟨"SharesOfSeries$Determinant", "swapRows", "(II)V"⟩, 1), (⟨"SharesOfSeries$Determinant", "clearBelow", "(IILSharesOfSeries$Residues;)V"⟩, 1), (⟨"SharesOfSeries", "stepDown", "(LSharesOfSeries$Polynomial;I)V"⟩, 13), (⟨"SharesOfSeries$Recurrence", "faultAt", "(IILSharesOfSeries$Polynomial;LSharesOfSeries$Series;LSharesOfSeries$Residues;)I"⟩, 3)]
theorem lw_r1 : ∀ q ∈ lw_privs_1, lw_okq q := List.forall_mem_cons.mpr ⟨lw_p0, List.forall_mem_cons.mpr ⟨lw_p1, List.forall_mem_cons.mpr ⟨lw_p2, List.forall_mem_cons.mpr ⟨lw_p3, List.forall_mem_cons.mpr ⟨lw_p4, List.forall_mem_cons.mpr ⟨lw_p5, List.forall_mem_cons.mpr ⟨lw_p6, List.forall_mem_cons.mpr ⟨lw_p7, List.forall_mem_cons.mpr ⟨lw_p8, List.forall_mem_cons.mpr ⟨lw_p9, List.forall_mem_cons.mpr ⟨lw_p10, List.forall_mem_cons.mpr ⟨lw_p11, List.forall_mem_cons.mpr ⟨lw_p12, List.forall_mem_cons.mpr ⟨lw_p13, List.forall_mem_cons.mpr ⟨lw_p14, List.forall_mem_cons.mpr ⟨lw_p15, fun _ h => absurd h List.not_mem_nil⟩⟩⟩⟩⟩⟩⟩⟩⟩⟩⟩⟩⟩⟩⟩⟩
theorem lw_p16 : lw_okq (⟨"SharesOfSeries", "presentSheets", "()I"⟩, 13) := ⟨⟨by decide +kernel, by decide +kernel⟩, List.mem_of_getElem? (i := 16) (by decide +kernel), List.mem_of_getElem? (i := 605) (by decide +kernel), List.mem_of_getElem? (i := 606) (by decide +kernel)⟩
theorem lw_p17 : lw_okq (⟨"SharesOfSeriesModel", "clearResult", "()V"⟩, 31) := ⟨⟨by decide +kernel, by decide +kernel⟩, List.mem_of_getElem? (i := 634) (by decide +kernel), List.mem_of_getElem? (i := 746) (by decide +kernel), List.mem_of_getElem? (i := 747) (by decide +kernel)⟩
theorem lw_p18 : lw_okq (⟨"SharesOfSeriesModel", "meets", "(I)I"⟩, 31) := ⟨⟨by decide +kernel, by decide +kernel⟩, List.mem_of_getElem? (i := 634) (by decide +kernel), List.mem_of_getElem? (i := 758) (by decide +kernel), List.mem_of_getElem? (i := 759) (by decide +kernel)⟩
theorem lw_p19 : lw_okq (⟨"SharesOfSeriesModel", "rest", "(J)I"⟩, 31) := ⟨⟨by decide +kernel, by decide +kernel⟩, List.mem_of_getElem? (i := 634) (by decide +kernel), List.mem_of_getElem? (i := 779) (by decide +kernel), List.mem_of_getElem? (i := 780) (by decide +kernel)⟩
theorem lw_p20 : lw_okq (⟨"SharesOfSeriesModel", "comes", "(I)I"⟩, 31) := ⟨⟨by decide +kernel, by decide +kernel⟩, List.mem_of_getElem? (i := 634) (by decide +kernel), List.mem_of_getElem? (i := 783) (by decide +kernel), List.mem_of_getElem? (i := 784) (by decide +kernel)⟩
theorem lw_p21 : lw_okq (⟨"SharesOfSeriesModel", "clearWork", "()V"⟩, 31) := ⟨⟨by decide +kernel, by decide +kernel⟩, List.mem_of_getElem? (i := 634) (by decide +kernel), List.mem_of_getElem? (i := 791) (by decide +kernel), List.mem_of_getElem? (i := 792) (by decide +kernel)⟩
theorem lw_p22 : lw_okq (⟨"SharesOfSeriesModel", "unfoldTo", "([II)V"⟩, 31) := ⟨⟨by decide +kernel, by decide +kernel⟩, List.mem_of_getElem? (i := 634) (by decide +kernel), List.mem_of_getElem? (i := 795) (by decide +kernel), List.mem_of_getElem? (i := 796) (by decide +kernel)⟩
theorem lw_p23 : lw_okq (⟨"SharesOfSeriesModel", "inverse", "(I)I"⟩, 31) := ⟨⟨by decide +kernel, by decide +kernel⟩, List.mem_of_getElem? (i := 634) (by decide +kernel), List.mem_of_getElem? (i := 799) (by decide +kernel), List.mem_of_getElem? (i := 800) (by decide +kernel)⟩
theorem lw_p24 : lw_okq (⟨"SharesOfSeriesModel", "product", "(II)I"⟩, 31) := ⟨⟨by decide +kernel, by decide +kernel⟩, List.mem_of_getElem? (i := 634) (by decide +kernel), List.mem_of_getElem? (i := 803) (by decide +kernel), List.mem_of_getElem? (i := 804) (by decide +kernel)⟩
theorem lw_p25 : lw_okq (⟨"SharesOfSeriesModel", "loadResult", "()V"⟩, 31) := ⟨⟨by decide +kernel, by decide +kernel⟩, List.mem_of_getElem? (i := 634) (by decide +kernel), List.mem_of_getElem? (i := 811) (by decide +kernel), List.mem_of_getElem? (i := 812) (by decide +kernel)⟩
theorem lw_p26 : lw_okq (⟨"SharesOfSeriesModel", "isSeries", "(I)Z"⟩, 31) := ⟨⟨by decide +kernel, by decide +kernel⟩, List.mem_of_getElem? (i := 634) (by decide +kernel), List.mem_of_getElem? (i := 819) (by decide +kernel), List.mem_of_getElem? (i := 820) (by decide +kernel)⟩
theorem lw_p27 : lw_okq (⟨"SharesOfSeriesModel", "lesser", "(II)I"⟩, 31) := ⟨⟨by decide +kernel, by decide +kernel⟩, List.mem_of_getElem? (i := 634) (by decide +kernel), List.mem_of_getElem? (i := 823) (by decide +kernel), List.mem_of_getElem? (i := 824) (by decide +kernel)⟩
theorem lw_p28 : lw_okq (⟨"SharesOfSeriesModel", "of", "(II)I"⟩, 31) := ⟨⟨by decide +kernel, by decide +kernel⟩, List.mem_of_getElem? (i := 634) (by decide +kernel), List.mem_of_getElem? (i := 827) (by decide +kernel), List.mem_of_getElem? (i := 828) (by decide +kernel)⟩
theorem lw_p29 : lw_okq (⟨"SharesOfSeriesModel", "power", "(II)I"⟩, 31) := ⟨⟨by decide +kernel, by decide +kernel⟩, List.mem_of_getElem? (i := 634) (by decide +kernel), List.mem_of_getElem? (i := 843) (by decide +kernel), List.mem_of_getElem? (i := 844) (by decide +kernel)⟩
theorem lw_p30 : lw_okq (⟨"SharesOfSeriesModel", "isPair", "(III)Z"⟩, 31) := ⟨⟨by decide +kernel, by decide +kernel⟩, List.mem_of_getElem? (i := 634) (by decide +kernel), List.mem_of_getElem? (i := 863) (by decide +kernel), List.mem_of_getElem? (i := 864) (by decide +kernel)⟩
theorem lw_p31 : lw_okq (⟨"SharesOfSeriesModel", "findEntry", "(III)V"⟩, 31) := ⟨⟨by decide +kernel, by decide +kernel⟩, List.mem_of_getElem? (i := 634) (by decide +kernel), List.mem_of_getElem? (i := 867) (by decide +kernel), List.mem_of_getElem? (i := 868) (by decide +kernel)⟩
def lw_privs_2 : List (MethodName × Nat) := [(⟨"SharesOfSeries", "presentSheets", "()I"⟩, 13), (⟨"SharesOfSeriesModel", "clearResult", "()V"⟩, 31), (⟨"SharesOfSeriesModel", "meets", "(I)I"⟩, 31), (⟨"SharesOfSeriesModel", "rest", "(J)I"⟩, 31), (⟨"SharesOfSeriesModel", "comes", "(I)I"⟩, 31), (⟨"SharesOfSeriesModel", "clearWork", "()V"⟩, 31), (⟨"SharesOfSeriesModel", "unfoldTo", "([II)V"⟩, 31), (⟨"SharesOfSeriesModel", "inverse", "(I)I"⟩, 31), (⟨"SharesOfSeriesModel", "product", "(II)I"⟩, 31), (⟨"SharesOfSeriesModel", "loadResult", "()V"⟩, 31), (⟨"SharesOfSeriesModel", "isSeries", "(I)Z"⟩, 31), (⟨"SharesOfSeriesModel", "lesser", "(II)I"⟩, 31), (⟨"SharesOfSeriesModel", "of", "(II)I"⟩, 31), (⟨"SharesOfSeriesModel", "power", "(II)I"⟩, 31), (⟨"SharesOfSeriesModel", "isPair", "(III)Z"⟩, 31), (⟨"SharesOfSeriesModel", "findEntry", "(III)V"⟩, 31)]
theorem lw_r2 : ∀ q ∈ lw_privs_2, lw_okq q := List.forall_mem_cons.mpr ⟨lw_p16, List.forall_mem_cons.mpr ⟨lw_p17, List.forall_mem_cons.mpr ⟨lw_p18, List.forall_mem_cons.mpr ⟨lw_p19, List.forall_mem_cons.mpr ⟨lw_p20, List.forall_mem_cons.mpr ⟨lw_p21, List.forall_mem_cons.mpr ⟨lw_p22, List.forall_mem_cons.mpr ⟨lw_p23, List.forall_mem_cons.mpr ⟨lw_p24, List.forall_mem_cons.mpr ⟨lw_p25, List.forall_mem_cons.mpr ⟨lw_p26, List.forall_mem_cons.mpr ⟨lw_p27, List.forall_mem_cons.mpr ⟨lw_p28, List.forall_mem_cons.mpr ⟨lw_p29, List.forall_mem_cons.mpr ⟨lw_p30, List.forall_mem_cons.mpr ⟨lw_p31, fun _ h => absurd h List.not_mem_nil⟩⟩⟩⟩⟩⟩⟩⟩⟩⟩⟩⟩⟩⟩⟩⟩
theorem lw_p32 : lw_okq (⟨"SharesOfSeriesModel", "solve", "(I)V"⟩, 31) := ⟨⟨by decide +kernel, by decide +kernel⟩, List.mem_of_getElem? (i := 634) (by decide +kernel), List.mem_of_getElem? (i := 871) (by decide +kernel), List.mem_of_getElem? (i := 872) (by decide +kernel)⟩
theorem lw_p33 : lw_okq (⟨"SharesOfSeriesModel", "lighten", "()V"⟩, 31) := ⟨⟨by decide +kernel, by decide +kernel⟩, List.mem_of_getElem? (i := 634) (by decide +kernel), List.mem_of_getElem? (i := 875) (by decide +kernel), List.mem_of_getElem? (i := 876) (by decide +kernel)⟩
theorem lw_p34 : lw_okq (⟨"SharesOfSeriesModel", "reduce", "([I[II)V"⟩, 31) := ⟨⟨by decide +kernel, by decide +kernel⟩, List.mem_of_getElem? (i := 634) (by decide +kernel), List.mem_of_getElem? (i := 882) (by decide +kernel), List.mem_of_getElem? (i := 883) (by decide +kernel)⟩
theorem lw_p35 : lw_okq (⟨"SharesOfSeriesModel", "divide", "([I[I)V"⟩, 31) := ⟨⟨by decide +kernel, by decide +kernel⟩, List.mem_of_getElem? (i := 634) (by decide +kernel), List.mem_of_getElem? (i := 886) (by decide +kernel), List.mem_of_getElem? (i := 887) (by decide +kernel)⟩
theorem lw_p36 : lw_okq (⟨"SharesOfSeriesModel", "tell", "()V"⟩, 31) := ⟨⟨by decide +kernel, by decide +kernel⟩, List.mem_of_getElem? (i := 634) (by decide +kernel), List.mem_of_getElem? (i := 890) (by decide +kernel), List.mem_of_getElem? (i := 891) (by decide +kernel)⟩
theorem lw_p37 : lw_okq (⟨"SharesOfSeriesModel", "agrees", "(I)I"⟩, 31) := ⟨⟨by decide +kernel, by decide +kernel⟩, List.mem_of_getElem? (i := 634) (by decide +kernel), List.mem_of_getElem? (i := 894) (by decide +kernel), List.mem_of_getElem? (i := 895) (by decide +kernel)⟩
theorem lw_p38 : lw_okq (⟨"SharesOfSeriesModel", "keepResult", "()V"⟩, 31) := ⟨⟨by decide +kernel, by decide +kernel⟩, List.mem_of_getElem? (i := 634) (by decide +kernel), List.mem_of_getElem? (i := 906) (by decide +kernel), List.mem_of_getElem? (i := 907) (by decide +kernel)⟩
theorem lw_p39 : lw_okq (⟨"SharesOfSeriesModel", "resultBack", "()V"⟩, 31) := ⟨⟨by decide +kernel, by decide +kernel⟩, List.mem_of_getElem? (i := 634) (by decide +kernel), List.mem_of_getElem? (i := 910) (by decide +kernel), List.mem_of_getElem? (i := 911) (by decide +kernel)⟩
theorem lw_p40 : lw_okq (⟨"SharesOfSeriesModel", "valueOf", "([II)I"⟩, 31) := ⟨⟨by decide +kernel, by decide +kernel⟩, List.mem_of_getElem? (i := 634) (by decide +kernel), List.mem_of_getElem? (i := 934) (by decide +kernel), List.mem_of_getElem? (i := 935) (by decide +kernel)⟩
def lw_privs_3 : List (MethodName × Nat) := [(⟨"SharesOfSeriesModel", "solve", "(I)V"⟩, 31), (⟨"SharesOfSeriesModel", "lighten", "()V"⟩, 31), (⟨"SharesOfSeriesModel", "reduce", "([I[II)V"⟩, 31), (⟨"SharesOfSeriesModel", "divide", "([I[I)V"⟩, 31), (⟨"SharesOfSeriesModel", "tell", "()V"⟩, 31), (⟨"SharesOfSeriesModel", "agrees", "(I)I"⟩, 31), (⟨"SharesOfSeriesModel", "keepResult", "()V"⟩, 31), (⟨"SharesOfSeriesModel", "resultBack", "()V"⟩, 31), (⟨"SharesOfSeriesModel", "valueOf", "([II)I"⟩, 31)]
theorem lw_r3 : ∀ q ∈ lw_privs_3, lw_okq q := List.forall_mem_cons.mpr ⟨lw_p32, List.forall_mem_cons.mpr ⟨lw_p33, List.forall_mem_cons.mpr ⟨lw_p34, List.forall_mem_cons.mpr ⟨lw_p35, List.forall_mem_cons.mpr ⟨lw_p36, List.forall_mem_cons.mpr ⟨lw_p37, List.forall_mem_cons.mpr ⟨lw_p38, List.forall_mem_cons.mpr ⟨lw_p39, List.forall_mem_cons.mpr ⟨lw_p40, fun _ h => absurd h List.not_mem_nil⟩⟩⟩⟩⟩⟩⟩⟩⟩
def lw_privs : List (MethodName × Nat) := lw_privs_1 ++ (lw_privs_2 ++ (lw_privs_3))
def lw_tbl : List Cond := k2_sels lw_privs ++ tables_1
theorem lw_privs_ok : ∀ q ∈ lw_privs, lw_okq q := by
  show ∀ q ∈ lw_privs_1 ++ (lw_privs_2 ++ (lw_privs_3)), lw_okq q
  exact List.forall_mem_append.mpr ⟨lw_r1, List.forall_mem_append.mpr ⟨lw_r2, lw_r3⟩⟩
end
section
def RX0 : String := "SharesOfSeries$Determinant"
def TX0 : u_T := fun k => match k with
  | _ => ("SharesOfSeries$Determinant", "square", "[[I", true)
def tyX0 : Nat → FieldType := fun k => match k with
  | _ => .array (.array .int)
abbrev wsX00 : List Cond := u_ws RX0 TX0 1
theorem nmX0 : ∀ a, a < 1 → ∀ b, b < 1 → a ≠ b → (TX0 a).2.1 ≠ (TX0 b).2.1 := by decide +kernel
theorem tyX0_ok : ∀ k, k < 1 → parseFieldDescriptor (TX0 k).2.2.1 = some (tyX0 k) := by decide +kernel
abbrev cX0_init : ByteArray := prog_2_method_1_code
def yX0_init : MethodName := ⟨RX0, "<init>", "()V"⟩
abbrev cX0_fill : ByteArray := prog_2_method_2_code
def yX0_fill : MethodName := ⟨RX0, "fill", "(LSharesOfSeries$Series;II)V"⟩
abbrev cX0_compute : ByteArray := prog_2_method_3_code
def yX0_compute : MethodName := ⟨RX0, "compute", "(ILSharesOfSeries$Residues;)I"⟩
abbrev cX0_pivotRow : ByteArray := prog_2_method_4_code
def yX0_pivotRow : MethodName := ⟨RX0, "pivotRow", "(II)I"⟩
abbrev cX0_swapRows : ByteArray := prog_2_method_5_code
def yX0_swapRows : MethodName := ⟨RX0, "swapRows", "(II)V"⟩
abbrev cX0_clearBelow : ByteArray := prog_2_method_6_code
def yX0_clearBelow : MethodName := ⟨RX0, "clearBelow", "(IILSharesOfSeries$Residues;)V"⟩
def RX1 : String := "SharesOfSeries$Euclid"
def TX1 : u_T := fun k => match k with
  | 0 => ("SharesOfSeries$Euclid", "modulus", "LSharesOfSeries$Polynomial;", true)
  | 1 => ("SharesOfSeries$Euclid", "start", "LSharesOfSeries$Polynomial;", true)
  | 2 => ("SharesOfSeries$Euclid", "startFactor", "LSharesOfSeries$Polynomial;", true)
  | 3 => ("SharesOfSeries$Euclid", "modulusFactor", "LSharesOfSeries$Polynomial;", true)
  | _ => ("SharesOfSeries$Euclid", "quotient", "LSharesOfSeries$Polynomial;", true)
def tyX1 : Nat → FieldType := fun k => match k with
  | 0 => .object "SharesOfSeries$Polynomial"
  | 1 => .object "SharesOfSeries$Polynomial"
  | 2 => .object "SharesOfSeries$Polynomial"
  | 3 => .object "SharesOfSeries$Polynomial"
  | _ => .object "SharesOfSeries$Polynomial"
abbrev wsX10 : List Cond := u_ws RX1 TX1 5
theorem nmX1 : ∀ a, a < 5 → ∀ b, b < 5 → a ≠ b → (TX1 a).2.1 ≠ (TX1 b).2.1 := by decide +kernel
theorem tyX1_ok : ∀ k, k < 5 → parseFieldDescriptor (TX1 k).2.2.1 = some (tyX1 k) := by decide +kernel
abbrev cX1_init : ByteArray := prog_3_method_1_code
def yX1_init : MethodName := ⟨RX1, "<init>", "()V"⟩
abbrev cX1_findShare : ByteArray := prog_3_method_2_code
def yX1_findShare : MethodName := ⟨RX1, "findShare", "(ILSharesOfSeries$Share;LSharesOfSeries$Residues;)V"⟩
abbrev cX1_dropCommonFactors : ByteArray := prog_3_method_3_code
def yX1_dropCommonFactors : MethodName := ⟨RX1, "dropCommonFactors", "(LSharesOfSeries$Share;LSharesOfSeries$Residues;)V"⟩
def RX2 : String := "SharesOfSeries$Points"
def TX2 : u_T := fun k => match k with
  | 0 => ("SharesOfSeries$Points", "places", "[I", true)
  | 1 => ("SharesOfSeries$Points", "heights", "[I", true)
  | _ => ("SharesOfSeries$Points", "held", "I", false)
def tyX2 : Nat → FieldType := fun k => match k with
  | 0 => .array .int
  | 1 => .array .int
  | _ => .int
abbrev wsX20 : List Cond := u_ws RX2 TX2 3
theorem nmX2 : ∀ a, a < 3 → ∀ b, b < 3 → a ≠ b → (TX2 a).2.1 ≠ (TX2 b).2.1 := by decide +kernel
theorem tyX2_ok : ∀ k, k < 3 → parseFieldDescriptor (TX2 k).2.2.1 = some (tyX2 k) := by decide +kernel
abbrev cX2_init : ByteArray := prog_4_method_1_code
def yX2_init : MethodName := ⟨RX2, "<init>", "()V"⟩
abbrev cX2_indexOf : ByteArray := prog_4_method_2_code
def yX2_indexOf : MethodName := ⟨RX2, "indexOf", "(I)I"⟩
abbrev cX2_heightAt : ByteArray := prog_4_method_3_code
def yX2_heightAt : MethodName := ⟨RX2, "heightAt", "(I)I"⟩
abbrev cX2_add : ByteArray := prog_4_method_4_code
def yX2_add : MethodName := ⟨RX2, "add", "(II)V"⟩
abbrev cX2_interpolate : ByteArray := prog_4_method_5_code
def yX2_interpolate : MethodName := ⟨RX2, "interpolate", "(LSharesOfSeries$Polynomial;LSharesOfSeries$Polynomial;LSharesOfSeries$Residues;)V"⟩
abbrev cX2_allOn : ByteArray := prog_4_method_6_code
def yX2_allOn : MethodName := ⟨RX2, "allOn", "(LSharesOfSeries$Share;LSharesOfSeries$Residues;)Z"⟩
abbrev cX2_mixedInto : ByteArray := prog_4_method_7_code
def yX2_mixedInto : MethodName := ⟨RX2, "mixedInto", "(J)J"⟩
def RX3 : String := "SharesOfSeries$Polynomial"
def TX3 : u_T := fun k => match k with
  | _ => ("SharesOfSeries$Polynomial", "terms", "[I", true)
def tyX3 : Nat → FieldType := fun k => match k with
  | _ => .array .int
abbrev wsX30 : List Cond := u_ws RX3 TX3 1
theorem nmX3 : ∀ a, a < 1 → ∀ b, b < 1 → a ≠ b → (TX3 a).2.1 ≠ (TX3 b).2.1 := by decide +kernel
theorem tyX3_ok : ∀ k, k < 1 → parseFieldDescriptor (TX3 k).2.2.1 = some (tyX3 k) := by decide +kernel
abbrev cX3_init : ByteArray := prog_5_method_1_code
def yX3_init : MethodName := ⟨RX3, "<init>", "()V"⟩
abbrev cX3_at : ByteArray := prog_5_method_2_code
def yX3_at : MethodName := ⟨RX3, "at", "(I)I"⟩
abbrev cX3_set : ByteArray := prog_5_method_3_code
def yX3_set : MethodName := ⟨RX3, "set", "(II)V"⟩
abbrev cX3_top : ByteArray := prog_5_method_4_code
def yX3_top : MethodName := ⟨RX3, "top", "()I"⟩
abbrev cX3_lowestTerm : ByteArray := prog_5_method_5_code
def yX3_lowestTerm : MethodName := ⟨RX3, "lowestTerm", "()I"⟩
abbrev cX3_becomeNumber : ByteArray := prog_5_method_6_code
def yX3_becomeNumber : MethodName := ⟨RX3, "becomeNumber", "(I)V"⟩
abbrev cX3_become : ByteArray := prog_5_method_7_code
def yX3_become : MethodName := ⟨RX3, "become", "(LSharesOfSeries$Polynomial;)V"⟩
abbrev cX3_dropLowest : ByteArray := prog_5_method_8_code
def yX3_dropLowest : MethodName := ⟨RX3, "dropLowest", "()V"⟩
abbrev cX3_valueAt : ByteArray := prog_5_method_9_code
def yX3_valueAt : MethodName := ⟨RX3, "valueAt", "(ILSharesOfSeries$Residues;)I"⟩
abbrev cX3_scale : ByteArray := prog_5_method_10_code
def yX3_scale : MethodName := ⟨RX3, "scale", "(ILSharesOfSeries$Residues;)V"⟩
abbrev cX3_addMultiple : ByteArray := prog_5_method_11_code
def yX3_addMultiple : MethodName := ⟨RX3, "addMultiple", "(LSharesOfSeries$Polynomial;IILSharesOfSeries$Residues;)V"⟩
abbrev cX3_subtractProduct : ByteArray := prog_5_method_12_code
def yX3_subtractProduct : MethodName := ⟨RX3, "subtractProduct", "(LSharesOfSeries$Polynomial;LSharesOfSeries$Polynomial;LSharesOfSeries$Residues;)V"⟩
abbrev cX3_addRoot : ByteArray := prog_5_method_13_code
def yX3_addRoot : MethodName := ⟨RX3, "addRoot", "(ILSharesOfSeries$Residues;)V"⟩
abbrev cX3_divide : ByteArray := prog_5_method_14_code
def yX3_divide : MethodName := ⟨RX3, "divide", "(LSharesOfSeries$Polynomial;LSharesOfSeries$Polynomial;LSharesOfSeries$Residues;)V"⟩
abbrev cX3_mixedInto : ByteArray := prog_5_method_15_code
def yX3_mixedInto : MethodName := ⟨RX3, "mixedInto", "(JI)J"⟩
def RX4 : String := "SharesOfSeries$Recurrence"
def TX4 : u_T := fun k => match k with
  | 0 => ("SharesOfSeries$Recurrence", "first", "LSharesOfSeries$Polynomial;", true)
  | 1 => ("SharesOfSeries$Recurrence", "second", "LSharesOfSeries$Polynomial;", true)
  | _ => ("SharesOfSeries$Recurrence", "third", "LSharesOfSeries$Polynomial;", true)
def tyX4 : Nat → FieldType := fun k => match k with
  | 0 => .object "SharesOfSeries$Polynomial"
  | 1 => .object "SharesOfSeries$Polynomial"
  | _ => .object "SharesOfSeries$Polynomial"
abbrev wsX40 : List Cond := u_ws RX4 TX4 3
theorem nmX4 : ∀ a, a < 3 → ∀ b, b < 3 → a ≠ b → (TX4 a).2.1 ≠ (TX4 b).2.1 := by decide +kernel
theorem tyX4_ok : ∀ k, k < 3 → parseFieldDescriptor (TX4 k).2.2.1 = some (tyX4 k) := by decide +kernel
abbrev cX4_init : ByteArray := prog_6_method_1_code
def yX4_init : MethodName := ⟨RX4, "<init>", "()V"⟩
abbrev cX4_least : ByteArray := prog_6_method_2_code
def yX4_least : MethodName := ⟨RX4, "least", "(LSharesOfSeries$Series;LSharesOfSeries$Residues;)I"⟩
abbrev cX4_faultAt : ByteArray := prog_6_method_3_code
def yX4_faultAt : MethodName := ⟨RX4, "faultAt", "(IILSharesOfSeries$Polynomial;LSharesOfSeries$Series;LSharesOfSeries$Residues;)I"⟩
def RX5 : String := "SharesOfSeries$Residues"
def TX5 : u_T := fun k => match k with
  | _ => ("SharesOfSeries$Residues", "modulus", "I", false)
def tyX5 : Nat → FieldType := fun k => match k with
  | _ => .int
abbrev wsX50 : List Cond := u_ws RX5 TX5 1
theorem nmX5 : ∀ a, a < 1 → ∀ b, b < 1 → a ≠ b → (TX5 a).2.1 ≠ (TX5 b).2.1 := by decide +kernel
theorem tyX5_ok : ∀ k, k < 1 → parseFieldDescriptor (TX5 k).2.2.1 = some (tyX5 k) := by decide +kernel
abbrev cX5_init : ByteArray := prog_7_method_1_code
def yX5_init : MethodName := ⟨RX5, "<init>", "()V"⟩
abbrev cX5_of : ByteArray := prog_7_method_2_code
def yX5_of : MethodName := ⟨RX5, "of", "(J)I"⟩
abbrev cX5_product : ByteArray := prog_7_method_3_code
def yX5_product : MethodName := ⟨RX5, "product", "(II)I"⟩
abbrev cX5_negative : ByteArray := prog_7_method_4_code
def yX5_negative : MethodName := ⟨RX5, "negative", "(I)I"⟩
abbrev cX5_inverse : ByteArray := prog_7_method_5_code
def yX5_inverse : MethodName := ⟨RX5, "inverse", "(I)I"⟩
def RX6 : String := "SharesOfSeries$Series"
def TX6 : u_T := fun k => match k with
  | 0 => ("SharesOfSeries$Series", "numbers", "LSharesOfSeries$Polynomial;", true)
  | _ => ("SharesOfSeries$Series", "last", "I", false)
def tyX6 : Nat → FieldType := fun k => match k with
  | 0 => .object "SharesOfSeries$Polynomial"
  | _ => .int
abbrev wsX60 : List Cond := u_ws RX6 TX6 2
theorem nmX6 : ∀ a, a < 2 → ∀ b, b < 2 → a ≠ b → (TX6 a).2.1 ≠ (TX6 b).2.1 := by decide +kernel
theorem tyX6_ok : ∀ k, k < 2 → parseFieldDescriptor (TX6 k).2.2.1 = some (tyX6 k) := by decide +kernel
abbrev cX6_init : ByteArray := prog_8_method_1_code
def yX6_init : MethodName := ⟨RX6, "<init>", "()V"⟩
def RX7 : String := "SharesOfSeries$Share"
def TX7 : u_T := fun k => match k with
  | 0 => ("SharesOfSeries$Share", "above", "LSharesOfSeries$Polynomial;", true)
  | _ => ("SharesOfSeries$Share", "below", "LSharesOfSeries$Polynomial;", true)
def tyX7 : Nat → FieldType := fun k => match k with
  | 0 => .object "SharesOfSeries$Polynomial"
  | _ => .object "SharesOfSeries$Polynomial"
abbrev wsX70 : List Cond := u_ws RX7 TX7 2
theorem nmX7 : ∀ a, a < 2 → ∀ b, b < 2 → a ≠ b → (TX7 a).2.1 ≠ (TX7 b).2.1 := by decide +kernel
theorem tyX7_ok : ∀ k, k < 2 → parseFieldDescriptor (TX7 k).2.2.1 = some (tyX7 k) := by decide +kernel
abbrev cX7_init : ByteArray := prog_9_method_1_code
def yX7_init : MethodName := ⟨RX7, "<init>", "()V"⟩
abbrev cX7_becomeZero : ByteArray := prog_9_method_2_code
def yX7_becomeZero : MethodName := ⟨RX7, "becomeZero", "()V"⟩
abbrev cX7_become : ByteArray := prog_9_method_3_code
def yX7_become : MethodName := ⟨RX7, "become", "(LSharesOfSeries$Share;)V"⟩
abbrev cX7_side : ByteArray := prog_9_method_4_code
def yX7_side : MethodName := ⟨RX7, "side", "(I)LSharesOfSeries$Polynomial;"⟩
abbrev cX7_unfoldInto : ByteArray := prog_9_method_5_code
def yX7_unfoldInto : MethodName := ⟨RX7, "unfoldInto", "(LSharesOfSeries$Polynomial;ILSharesOfSeries$Residues;)V"⟩
def RX8 : String := "SharesOfSeries$Sheet"
def TX8 : u_T := fun k => match k with
  | 0 => ("SharesOfSeries$Sheet", "cells", "[J", true)
  | 1 => ("SharesOfSeries$Sheet", "lost", "Z", false)
  | 2 => ("SharesOfSeries$Sheet", "lane", "I", false)
  | _ => ("SharesOfSeries$Sheet", "size", "I", false)
def tyX8 : Nat → FieldType := fun k => match k with
  | 0 => .array .long
  | 1 => .boolean
  | 2 => .int
  | _ => .int
abbrev wsX80 : List Cond := u_ws RX8 TX8 4
theorem nmX8 : ∀ a, a < 4 → ∀ b, b < 4 → a ≠ b → (TX8 a).2.1 ≠ (TX8 b).2.1 := by decide +kernel
theorem tyX8_ok : ∀ k, k < 4 → parseFieldDescriptor (TX8 k).2.2.1 = some (tyX8 k) := by decide +kernel
abbrev cX8_init : ByteArray := prog_10_method_1_code
def yX8_init : MethodName := ⟨RX8, "<init>", "()V"⟩
abbrev cX8_renew : ByteArray := prog_10_method_2_code
def yX8_renew : MethodName := ⟨RX8, "renew", "(II)V"⟩
abbrev cX8_hasPlaces : ByteArray := prog_10_method_3_code
def yX8_hasPlaces : MethodName := ⟨RX8, "hasPlaces", "(II)Z"⟩
abbrev cX8_read : ByteArray := prog_10_method_4_code
def yX8_read : MethodName := ⟨RX8, "read", "(I)J"⟩
abbrev cX8_write : ByteArray := prog_10_method_5_code
def yX8_write : MethodName := ⟨RX8, "write", "(IJ)V"⟩
abbrev cX8_castToLane : ByteArray := prog_10_method_6_code
def yX8_castToLane : MethodName := ⟨RX8, "castToLane", "(J)J"⟩
abbrev cX8_mixedInto : ByteArray := prog_10_method_7_code
def yX8_mixedInto : MethodName := ⟨RX8, "mixedInto", "(J)J"⟩
def RX9 : String := "SharesOfSeries"
def TX9 : u_T := fun k => match k with
  | 0 => ("SharesOfSeries", "residues", "LSharesOfSeries$Residues;", true)
  | 1 => ("SharesOfSeries", "sheets", "[LSharesOfSeries$Sheet;", true)
  | 2 => ("SharesOfSeries", "kept", "[LSharesOfSeries$Series;", true)
  | 3 => ("SharesOfSeries", "keptCount", "I", false)
  | 4 => ("SharesOfSeries", "points", "LSharesOfSeries$Points;", true)
  | 5 => ("SharesOfSeries", "result", "LSharesOfSeries$Share;", true)
  | 6 => ("SharesOfSeries", "trial", "LSharesOfSeries$Share;", true)
  | 7 => ("SharesOfSeries", "euclid", "LSharesOfSeries$Euclid;", true)
  | 8 => ("SharesOfSeries", "determinant", "LSharesOfSeries$Determinant;", true)
  | 9 => ("SharesOfSeries", "recurrence", "LSharesOfSeries$Recurrence;", true)
  | 10 => ("SharesOfSeries", "unfolded", "LSharesOfSeries$Polynomial;", true)
  | 11 => ("SharesOfSeries", "causeCounts", "[I", true)
  | _ => ("SharesOfSeries", "latestCause", "I", false)
def tyX9 : Nat → FieldType := fun k => match k with
  | 0 => .object "SharesOfSeries$Residues"
  | 1 => .array (.object "SharesOfSeries$Sheet")
  | 2 => .array (.object "SharesOfSeries$Series")
  | 3 => .int
  | 4 => .object "SharesOfSeries$Points"
  | 5 => .object "SharesOfSeries$Share"
  | 6 => .object "SharesOfSeries$Share"
  | 7 => .object "SharesOfSeries$Euclid"
  | 8 => .object "SharesOfSeries$Determinant"
  | 9 => .object "SharesOfSeries$Recurrence"
  | 10 => .object "SharesOfSeries$Polynomial"
  | 11 => .array .int
  | _ => .int
abbrev wsX90 : List Cond := u_ws RX9 TX9 13
theorem nmX9 : ∀ a, a < 13 → ∀ b, b < 13 → a ≠ b → (TX9 a).2.1 ≠ (TX9 b).2.1 := by decide +kernel
theorem tyX9_ok : ∀ k, k < 13 → parseFieldDescriptor (TX9 k).2.2.1 = some (tyX9 k) := by decide +kernel
abbrev cX9_init : ByteArray := prog_1_method_1_code
def yX9_init : MethodName := ⟨RX9, "<init>", "()V"⟩
abbrev cX9_prime : ByteArray := prog_1_method_2_code
def yX9_prime : MethodName := ⟨RX9, "prime", "(I)I"⟩
abbrev cX9_sheet : ByteArray := prog_1_method_3_code
def yX9_sheet : MethodName := ⟨RX9, "sheet", "(III)I"⟩
abbrev cX9_put : ByteArray := prog_1_method_4_code
def yX9_put : MethodName := ⟨RX9, "put", "(IIIJ)I"⟩
abbrev cX9_copy : ByteArray := prog_1_method_5_code
def yX9_copy : MethodName := ⟨RX9, "copy", "(IIIII)I"⟩
abbrev cX9_lose : ByteArray := prog_1_method_6_code
def yX9_lose : MethodName := ⟨RX9, "lose", "(I)I"⟩
abbrev cX9_series : ByteArray := prog_1_method_7_code
def yX9_series : MethodName := ⟨RX9, "series", "(III)I"⟩
abbrev cX9_share : ByteArray := prog_1_method_8_code
def yX9_share : MethodName := ⟨RX9, "share", "(IIIII)I"⟩
abbrev cX9_unfold : ByteArray := prog_1_method_9_code
def yX9_unfold : MethodName := ⟨RX9, "unfold", "(I)I"⟩
abbrev cX9_plus : ByteArray := prog_1_method_10_code
def yX9_plus : MethodName := ⟨RX9, "plus", "(III)I"⟩
abbrev cX9_times : ByteArray := prog_1_method_11_code
def yX9_times : MethodName := ⟨RX9, "times", "(II)I"⟩
abbrev cX9_under : ByteArray := prog_1_method_12_code
def yX9_under : MethodName := ⟨RX9, "under", "(I)I"⟩
abbrev cX9_moved : ByteArray := prog_1_method_13_code
def yX9_moved : MethodName := ⟨RX9, "moved", "(III)I"⟩
abbrev cX9_number : ByteArray := prog_1_method_14_code
def yX9_number : MethodName := ⟨RX9, "number", "(II)I"⟩
abbrev cX9_length : ByteArray := prog_1_method_15_code
def yX9_length : MethodName := ⟨RX9, "length", "(I)I"⟩
abbrev cX9_clear : ByteArray := prog_1_method_16_code
def yX9_clear : MethodName := ⟨RX9, "clear", "()I"⟩
abbrev cX9_entry : ByteArray := prog_1_method_17_code
def yX9_entry : MethodName := ⟨RX9, "entry", "(III)I"⟩
abbrev cX9_worth : ByteArray := prog_1_method_18_code
def yX9_worth : MethodName := ⟨RX9, "worth", "(III)I"⟩
abbrev cX9_block : ByteArray := prog_1_method_19_code
def yX9_block : MethodName := ⟨RX9, "block", "(IIII)I"⟩
abbrev cX9_stair : ByteArray := prog_1_method_20_code
def yX9_stair : MethodName := ⟨RX9, "stair", "(II)I"⟩
abbrev cX9_recur : ByteArray := prog_1_method_21_code
def yX9_recur : MethodName := ⟨RX9, "recur", "(I)I"⟩
abbrev cX9_point : ByteArray := prog_1_method_22_code
def yX9_point : MethodName := ⟨RX9, "point", "(II)I"⟩
abbrev cX9_wipe : ByteArray := prog_1_method_23_code
def yX9_wipe : MethodName := ⟨RX9, "wipe", "()I"⟩
abbrev cX9_join : ByteArray := prog_1_method_24_code
def yX9_join : MethodName := ⟨RX9, "join", "(II)I"⟩
abbrev cX9_degree : ByteArray := prog_1_method_25_code
def yX9_degree : MethodName := ⟨RX9, "degree", "(I)I"⟩
abbrev cX9_term : ByteArray := prog_1_method_26_code
def yX9_term : MethodName := ⟨RX9, "term", "(II)I"⟩
abbrev cX9_value : ByteArray := prog_1_method_27_code
def yX9_value : MethodName := ⟨RX9, "value", "(I)I"⟩
abbrev cX9_cause : ByteArray := prog_1_method_28_code
def yX9_cause : MethodName := ⟨RX9, "cause", "()I"⟩
abbrev cX9_causes : ByteArray := prog_1_method_29_code
def yX9_causes : MethodName := ⟨RX9, "causes", "(I)I"⟩
abbrev cX9_count : ByteArray := prog_1_method_30_code
def yX9_count : MethodName := ⟨RX9, "count", "(I)I"⟩
abbrev cX9_digest : ByteArray := prog_1_method_31_code
def yX9_digest : MethodName := ⟨RX9, "digest", "()J"⟩
abbrev cX9_mixed : ByteArray := prog_1_method_32_code
def yX9_mixed : MethodName := ⟨RX9, "mixed", "(JJ)J"⟩
abbrev cX9_isAllowedPrime : ByteArray := prog_1_method_33_code
def yX9_isAllowedPrime : MethodName := ⟨RX9, "isAllowedPrime", "(I)Z"⟩
abbrev cX9_isLane : ByteArray := prog_1_method_34_code
def yX9_isLane : MethodName := ⟨RX9, "isLane", "(I)Z"⟩
abbrev cX9_isLength : ByteArray := prog_1_method_35_code
def yX9_isLength : MethodName := ⟨RX9, "isLength", "(I)Z"⟩
abbrev cX9_isPairOf : ByteArray := prog_1_method_36_code
def yX9_isPairOf : MethodName := ⟨RX9, "isPairOf", "(LSharesOfSeries$Series;II)Z"⟩
abbrev cX9_caused : ByteArray := prog_1_method_37_code
def yX9_caused : MethodName := ⟨RX9, "caused", "(I)I"⟩
abbrev cX9_sheetNumbered : ByteArray := prog_1_method_38_code
def yX9_sheetNumbered : MethodName := ⟨RX9, "sheetNumbered", "(I)LSharesOfSeries$Sheet;"⟩
abbrev cX9_presentSheets : ByteArray := prog_1_method_39_code
def yX9_presentSheets : MethodName := ⟨RX9, "presentSheets", "()I"⟩
abbrev cX9_seriesNumbered : ByteArray := prog_1_method_40_code
def yX9_seriesNumbered : MethodName := ⟨RX9, "seriesNumbered", "(I)LSharesOfSeries$Series;"⟩
abbrev cX9_freshSeries : ByteArray := prog_1_method_41_code
def yX9_freshSeries : MethodName := ⟨RX9, "freshSeries", "(I)LSharesOfSeries$Series;"⟩
abbrev cX9_keepFresh : ByteArray := prog_1_method_42_code
def yX9_keepFresh : MethodName := ⟨RX9, "keepFresh", "()I"⟩
abbrev cX9_keepUnfolded : ByteArray := prog_1_method_43_code
def yX9_keepUnfolded : MethodName := ⟨RX9, "keepUnfolded", "(LSharesOfSeries$Share;I)I"⟩
abbrev cX9_readTerms : ByteArray := prog_1_method_44_code
def yX9_readTerms : MethodName := ⟨RX9, "readTerms", "(LSharesOfSeries$Sheet;IILSharesOfSeries$Polynomial;)V"⟩
abbrev cX9_findEntry : ByteArray := prog_1_method_45_code
def yX9_findEntry : MethodName := ⟨RX9, "findEntry", "(LSharesOfSeries$Series;IILSharesOfSeries$Share;)V"⟩
abbrev cX9_stepDown : ByteArray := prog_1_method_46_code
def yX9_stepDown : MethodName := ⟨RX9, "stepDown", "(LSharesOfSeries$Polynomial;I)V"⟩
abbrev cX9_agreement : ByteArray := prog_1_method_47_code
def yX9_agreement : MethodName := ⟨RX9, "agreement", "(LSharesOfSeries$Series;LSharesOfSeries$Share;)I"⟩
def RX10 : String := "SharesOfSeriesModel"
def TX10 : u_T := fun k => match k with
  | 0 => ("SharesOfSeriesModel", "latest", "I", false)
  | 1 => ("SharesOfSeriesModel", "came", "[I", true)
  | 2 => ("SharesOfSeriesModel", "prime", "I", false)
  | 3 => ("SharesOfSeriesModel", "lane", "[I", true)
  | 4 => ("SharesOfSeriesModel", "size", "[I", true)
  | 5 => ("SharesOfSeriesModel", "sheetRow", "[J", true)
  | 6 => ("SharesOfSeriesModel", "held", "[J", true)
  | 7 => ("SharesOfSeriesModel", "many", "I", false)
  | 8 => ("SharesOfSeriesModel", "lengthOf", "[I", true)
  | 9 => ("SharesOfSeriesModel", "c", "[I", true)
  | 10 => ("SharesOfSeriesModel", "coming", "[I", true)
  | 11 => ("SharesOfSeriesModel", "workP", "[I", true)
  | 12 => ("SharesOfSeriesModel", "workQ", "[I", true)
  | 13 => ("SharesOfSeriesModel", "table", "[I", true)
  | 14 => ("SharesOfSeriesModel", "pivotOf", "[I", true)
  | 15 => ("SharesOfSeriesModel", "found", "[I", true)
  | 16 => ("SharesOfSeriesModel", "resultP", "[I", true)
  | 17 => ("SharesOfSeriesModel", "resultQ", "[I", true)
  | 18 => ("SharesOfSeriesModel", "gcdA", "[I", true)
  | 19 => ("SharesOfSeriesModel", "gcdB", "[I", true)
  | 20 => ("SharesOfSeriesModel", "unfolded", "[I", true)
  | 21 => ("SharesOfSeriesModel", "keptP", "[I", true)
  | 22 => ("SharesOfSeriesModel", "keptQ", "[I", true)
  | 23 => ("SharesOfSeriesModel", "left", "[I", true)
  | 24 => ("SharesOfSeriesModel", "turned", "[I", true)
  | 25 => ("SharesOfSeriesModel", "rule", "[I", true)
  | 26 => ("SharesOfSeriesModel", "before", "[I", true)
  | 27 => ("SharesOfSeriesModel", "kept", "[I", true)
  | 28 => ("SharesOfSeriesModel", "points", "I", false)
  | 29 => ("SharesOfSeriesModel", "pointX", "[I", true)
  | _ => ("SharesOfSeriesModel", "pointY", "[I", true)
def tyX10 : Nat → FieldType := fun k => match k with
  | 0 => .int
  | 1 => .array .int
  | 2 => .int
  | 3 => .array .int
  | 4 => .array .int
  | 5 => .array .long
  | 6 => .array .long
  | 7 => .int
  | 8 => .array .int
  | 9 => .array .int
  | 10 => .array .int
  | 11 => .array .int
  | 12 => .array .int
  | 13 => .array .int
  | 14 => .array .int
  | 15 => .array .int
  | 16 => .array .int
  | 17 => .array .int
  | 18 => .array .int
  | 19 => .array .int
  | 20 => .array .int
  | 21 => .array .int
  | 22 => .array .int
  | 23 => .array .int
  | 24 => .array .int
  | 25 => .array .int
  | 26 => .array .int
  | 27 => .array .int
  | 28 => .int
  | 29 => .array .int
  | _ => .array .int
abbrev wsX100 : List Cond := u_ws RX10 TX10 31
theorem nmX10 : ∀ a, a < 31 → ∀ b, b < 31 → a ≠ b → (TX10 a).2.1 ≠ (TX10 b).2.1 := by decide +kernel
theorem tyX10_ok : ∀ k, k < 31 → parseFieldDescriptor (TX10 k).2.2.1 = some (tyX10 k) := by decide +kernel
abbrev cX10_init : ByteArray := prog_12_method_1_code
def yX10_init : MethodName := ⟨RX10, "<init>", "()V"⟩
abbrev cX10_in : ByteArray := prog_12_method_2_code
def yX10_in : MethodName := ⟨RX10, "in", "(JJJ)Z"⟩
abbrev cX10_meets : ByteArray := prog_12_method_3_code
def yX10_meets : MethodName := ⟨RX10, "meets", "(I)I"⟩
abbrev cX10_rest : ByteArray := prog_12_method_4_code
def yX10_rest : MethodName := ⟨RX10, "rest", "(J)I"⟩
abbrev cX10_product : ByteArray := prog_12_method_5_code
def yX10_product : MethodName := ⟨RX10, "product", "(II)I"⟩
abbrev cX10_power : ByteArray := prog_12_method_6_code
def yX10_power : MethodName := ⟨RX10, "power", "(II)I"⟩
abbrev cX10_inverse : ByteArray := prog_12_method_7_code
def yX10_inverse : MethodName := ⟨RX10, "inverse", "(I)I"⟩
abbrev cX10_isPrime : ByteArray := prog_12_method_8_code
def yX10_isPrime : MethodName := ⟨RX10, "isPrime", "(I)Z"⟩
abbrev cX10_prime : ByteArray := prog_12_method_9_code
def yX10_prime : MethodName := ⟨RX10, "prime", "(I)I"⟩
abbrev cX10_isSheet : ByteArray := prog_12_method_10_code
def yX10_isSheet : MethodName := ⟨RX10, "isSheet", "(I)Z"⟩
abbrev cX10_sheet : ByteArray := prog_12_method_11_code
def yX10_sheet : MethodName := ⟨RX10, "sheet", "(III)I"⟩
abbrev cX10_put : ByteArray := prog_12_method_12_code
def yX10_put : MethodName := ⟨RX10, "put", "(IIIJ)I"⟩
abbrev cX10_copy : ByteArray := prog_12_method_13_code
def yX10_copy : MethodName := ⟨RX10, "copy", "(IIIII)I"⟩
abbrev cX10_lose : ByteArray := prog_12_method_14_code
def yX10_lose : MethodName := ⟨RX10, "lose", "(I)I"⟩
abbrev cX10_isSeries : ByteArray := prog_12_method_15_code
def yX10_isSeries : MethodName := ⟨RX10, "isSeries", "(I)Z"⟩
abbrev cX10_of : ByteArray := prog_12_method_16_code
def yX10_of : MethodName := ⟨RX10, "of", "(II)I"⟩
abbrev cX10_comes : ByteArray := prog_12_method_17_code
def yX10_comes : MethodName := ⟨RX10, "comes", "(I)I"⟩
abbrev cX10_series : ByteArray := prog_12_method_18_code
def yX10_series : MethodName := ⟨RX10, "series", "(III)I"⟩
abbrev cX10_unfoldTo : ByteArray := prog_12_method_19_code
def yX10_unfoldTo : MethodName := ⟨RX10, "unfoldTo", "([II)V"⟩
abbrev cX10_clearWork : ByteArray := prog_12_method_20_code
def yX10_clearWork : MethodName := ⟨RX10, "clearWork", "()V"⟩
abbrev cX10_share : ByteArray := prog_12_method_21_code
def yX10_share : MethodName := ⟨RX10, "share", "(IIIII)I"⟩
abbrev cX10_loadResult : ByteArray := prog_12_method_22_code
def yX10_loadResult : MethodName := ⟨RX10, "loadResult", "()V"⟩
abbrev cX10_unfold : ByteArray := prog_12_method_23_code
def yX10_unfold : MethodName := ⟨RX10, "unfold", "(I)I"⟩
abbrev cX10_lesser : ByteArray := prog_12_method_24_code
def yX10_lesser : MethodName := ⟨RX10, "lesser", "(II)I"⟩
abbrev cX10_plus : ByteArray := prog_12_method_25_code
def yX10_plus : MethodName := ⟨RX10, "plus", "(III)I"⟩
abbrev cX10_times : ByteArray := prog_12_method_26_code
def yX10_times : MethodName := ⟨RX10, "times", "(II)I"⟩
abbrev cX10_under : ByteArray := prog_12_method_27_code
def yX10_under : MethodName := ⟨RX10, "under", "(I)I"⟩
abbrev cX10_moved : ByteArray := prog_12_method_28_code
def yX10_moved : MethodName := ⟨RX10, "moved", "(III)I"⟩
abbrev cX10_number : ByteArray := prog_12_method_29_code
def yX10_number : MethodName := ⟨RX10, "number", "(II)I"⟩
abbrev cX10_length : ByteArray := prog_12_method_30_code
def yX10_length : MethodName := ⟨RX10, "length", "(I)I"⟩
abbrev cX10_clear : ByteArray := prog_12_method_31_code
def yX10_clear : MethodName := ⟨RX10, "clear", "()I"⟩
abbrev cX10_solve : ByteArray := prog_12_method_32_code
def yX10_solve : MethodName := ⟨RX10, "solve", "(I)V"⟩
abbrev cX10_degreeOf : ByteArray := prog_12_method_33_code
def yX10_degreeOf : MethodName := ⟨RX10, "degreeOf", "([II)I"⟩
abbrev cX10_clearResult : ByteArray := prog_12_method_34_code
def yX10_clearResult : MethodName := ⟨RX10, "clearResult", "()V"⟩
abbrev cX10_reduce : ByteArray := prog_12_method_35_code
def yX10_reduce : MethodName := ⟨RX10, "reduce", "([I[II)V"⟩
abbrev cX10_divide : ByteArray := prog_12_method_36_code
def yX10_divide : MethodName := ⟨RX10, "divide", "([I[I)V"⟩
abbrev cX10_lighten : ByteArray := prog_12_method_37_code
def yX10_lighten : MethodName := ⟨RX10, "lighten", "()V"⟩
abbrev cX10_tell : ByteArray := prog_12_method_38_code
def yX10_tell : MethodName := ⟨RX10, "tell", "()V"⟩
abbrev cX10_findEntry : ByteArray := prog_12_method_39_code
def yX10_findEntry : MethodName := ⟨RX10, "findEntry", "(III)V"⟩
abbrev cX10_agrees : ByteArray := prog_12_method_40_code
def yX10_agrees : MethodName := ⟨RX10, "agrees", "(I)I"⟩
abbrev cX10_isPair : ByteArray := prog_12_method_41_code
def yX10_isPair : MethodName := ⟨RX10, "isPair", "(III)Z"⟩
abbrev cX10_entry : ByteArray := prog_12_method_42_code
def yX10_entry : MethodName := ⟨RX10, "entry", "(III)I"⟩
abbrev cX10_worth : ByteArray := prog_12_method_43_code
def yX10_worth : MethodName := ⟨RX10, "worth", "(III)I"⟩
abbrev cX10_keepResult : ByteArray := prog_12_method_44_code
def yX10_keepResult : MethodName := ⟨RX10, "keepResult", "()V"⟩
abbrev cX10_resultBack : ByteArray := prog_12_method_45_code
def yX10_resultBack : MethodName := ⟨RX10, "resultBack", "()V"⟩
abbrev cX10_block : ByteArray := prog_12_method_46_code
def yX10_block : MethodName := ⟨RX10, "block", "(IIII)I"⟩
abbrev cX10_stair : ByteArray := prog_12_method_47_code
def yX10_stair : MethodName := ⟨RX10, "stair", "(II)I"⟩
abbrev cX10_recur : ByteArray := prog_12_method_48_code
def yX10_recur : MethodName := ⟨RX10, "recur", "(I)I"⟩
abbrev cX10_point : ByteArray := prog_12_method_49_code
def yX10_point : MethodName := ⟨RX10, "point", "(II)I"⟩
abbrev cX10_wipe : ByteArray := prog_12_method_50_code
def yX10_wipe : MethodName := ⟨RX10, "wipe", "()I"⟩
abbrev cX10_valueOf : ByteArray := prog_12_method_51_code
def yX10_valueOf : MethodName := ⟨RX10, "valueOf", "([II)I"⟩
abbrev cX10_join : ByteArray := prog_12_method_52_code
def yX10_join : MethodName := ⟨RX10, "join", "(II)I"⟩
abbrev cX10_degree : ByteArray := prog_12_method_53_code
def yX10_degree : MethodName := ⟨RX10, "degree", "(I)I"⟩
abbrev cX10_term : ByteArray := prog_12_method_54_code
def yX10_term : MethodName := ⟨RX10, "term", "(II)I"⟩
abbrev cX10_value : ByteArray := prog_12_method_55_code
def yX10_value : MethodName := ⟨RX10, "value", "(I)I"⟩
abbrev cX10_cause : ByteArray := prog_12_method_56_code
def yX10_cause : MethodName := ⟨RX10, "cause", "()I"⟩
abbrev cX10_causes : ByteArray := prog_12_method_57_code
def yX10_causes : MethodName := ⟨RX10, "causes", "(I)I"⟩
abbrev cX10_count : ByteArray := prog_12_method_58_code
def yX10_count : MethodName := ⟨RX10, "count", "(I)I"⟩
abbrev cX10_digest : ByteArray := prog_12_method_59_code
def yX10_digest : MethodName := ⟨RX10, "digest", "()J"⟩
def RJ9 : String := "java/lang/Math"
def TJ9 : u_T := fun k => match k with
  | _ => ("", "", "", false)
def tyJ9 : Nat → FieldType := fun k => match k with
  | _ => .int
abbrev wsJ90 : List Cond := u_ws RJ9 TJ9 0
theorem nmJ9 : ∀ a, a < 0 → ∀ b, b < 0 → a ≠ b → (TJ9 a).2.1 ≠ (TJ9 b).2.1 := by decide +kernel
theorem tyJ9_ok : ∀ k, k < 0 → parseFieldDescriptor (TJ9 k).2.2.1 = some (tyJ9 k) := by decide +kernel
abbrev cJ9_min_7cf53 : ByteArray := prog_13_method_69_code
def yJ9_min_7cf53 : MethodName := ⟨RJ9, "min", "(II)I"⟩
def RJ10 : String := "java/lang/System"
def TJ10 : u_T := fun k => match k with
  | _ => ("", "", "", false)
def tyJ10 : Nat → FieldType := fun k => match k with
  | _ => .int
abbrev wsJ100 : List Cond := u_ws RJ10 TJ10 0
theorem nmJ10 : ∀ a, a < 0 → ∀ b, b < 0 → a ≠ b → (TJ10 a).2.1 ≠ (TJ10 b).2.1 := by decide +kernel
theorem tyJ10_ok : ∀ k, k < 0 → parseFieldDescriptor (TJ10 k).2.2.1 = some (tyJ10 k) := by decide +kernel
def RJ7 : String := "java/util/Arrays"
def TJ7 : u_T := fun k => match k with
  | _ => ("", "", "", false)
def tyJ7 : Nat → FieldType := fun k => match k with
  | _ => .int
abbrev wsJ70 : List Cond := u_ws RJ7 TJ7 0
theorem nmJ7 : ∀ a, a < 0 → ∀ b, b < 0 → a ≠ b → (TJ7 a).2.1 ≠ (TJ7 b).2.1 := by decide +kernel
theorem tyJ7_ok : ∀ k, k < 0 → parseFieldDescriptor (TJ7 k).2.2.1 = some (tyJ7 k) := by decide +kernel
abbrev cJ7_fill_d0a16 : ByteArray := prog_15_method_101_code
def yJ7_fill_d0a16 : MethodName := ⟨RJ7, "fill", "([JJ)V"⟩
abbrev cJ7_fill_53178 : ByteArray := prog_15_method_103_code
def yJ7_fill_53178 : MethodName := ⟨RJ7, "fill", "([II)V"⟩
def RL : String := "SharesOfSeriesLaw"
abbrev cL_law : ByteArray := code
def yL_law : MethodName := ⟨RL, "law", "([I)Z"⟩
end
section
/-- the good words of the tables, and those of nest mates and array classes -/
def vv_nest : Cond → Bool
  | .fieldLinkNest _ _ _ _ _ _ => true
  | .methodLinkNest _ _ _ _ => true
  | _ => false
def vv_gd : List Cond := lw_tbl.filter goodWord
def vv_nw : List Cond := lw_tbl.filter vv_nest
def vv_isA : Cond → Bool
  | .arrayOver _ => true
  | _ => false
def vv_aw : List Cond := lw_tbl.filter vv_isA
theorem vv_gd_of {w : Cond} (h : w ∈ lw_tbl) (hg : goodWord w = true) : w ∈ vv_gd := List.mem_filter.mpr ⟨h, hg⟩
theorem vv_nw_of {w : Cond} (h : w ∈ lw_tbl) (hg : vv_nest w = true) : w ∈ vv_nw := List.mem_filter.mpr ⟨h, hg⟩
theorem vv_tb {w : Cond} (i : Nat) (h : tables_1[i]? = some w) : w ∈ lw_tbl := List.mem_append_right _ (List.mem_of_getElem? h)
theorem vv_sb {w : Cond} (i : Nat) (h : (k2_sels lw_privs)[i]? = some w) : w ∈ lw_tbl := List.mem_append_left _ (List.mem_of_getElem? h)
theorem vv_gin {y : MethodName} {b : ByteArray} {k : Nat} {r : Option FieldType} (h : Cond.code y b k r ∈ vv_gd) : GoodIn vv_gd (Cond.code y b k r :: vv_gd) := by
  intro w hw
  have hm : w ∈ vv_gd := by
    rcases List.mem_cons.mp hw with e | e
    · rw [e]; exact h
    · exact e
  exact ⟨hm, good_of_word (List.mem_filter.mp hm).2⟩
/-- the classes of the system -/
def vv_cl : List vw_C := [(RX0, TX0, 1), (RX1, TX1, 5), (RX2, TX2, 3), (RX3, TX3, 1), (RX4, TX4, 3), (RX5, TX5, 1), (RX6, TX6, 2), (RX7, TX7, 2), (RX8, TX8, 4), (RX9, TX9, 13), (RX10, TX10, 31)]
def vv_ty (c : Nat → ClassId) : List (ClassId × FieldType) := [(c 0, .int), (c 1, .long), (c 2, .object RX8), (c 3, .object RX6), (c 4, .array .int)]
/-- launch, classes' numbers, array classes' numbers, the first address of the system's cells -/
abbrev vv_G : Type := Launch × va_G × (Nat → ClassId) × Nat
abbrev vv_H : Type := Nat → Option va_E
def vv_HP (D : va_G) (h : vv_H) (H : Heap) : Prop := ∀ (a : Nat) (e : va_E), h a = some e → va_at D vv_cl (a, e) H
def vv_up (h : vv_H) (a : Nat) (e : va_E) : vv_H := fun b => if b = a then some e else h b
def vv_K (G : vv_G) (U : State) : Prop := va_K G.2.1 vv_cl (vv_ty G.2.2.1) U ∧ (∀ w ∈ vv_nw, va_Nw w U) ∧ ∀ w ∈ vv_aw, w.before #[] U = true
theorem vv_aw_moved {ty : FieldType} {u U : State} (hvm : u.vm.Alike U.vm) (h : (Cond.arrayOver ty).before #[] u = true) : (Cond.arrayOver ty).before #[] U = true := by
  have key : ∀ comp : ClassId, (u.vm.classes.findIdx? fun (x : Class) => match x.kind with | .array component _ => component == comp | _ => false) = (U.vm.classes.findIdx? fun (x : Class) => match x.kind with | .array component _ => component == comp | _ => false) := fun comp => by
    have e0 : u.vm.bare = U.vm.bare := by first | exact hvm.bare_eq | exact hvm.bare_eq.symm
    have e1 := va_idx_bare u.vm comp
    rw [e0] at e1
    exact e1.symm.trans (va_idx_bare U.vm comp)
  have kc : ∀ c : Nat, ((u.vm.classes[c]?).map fun (k : Class) => match k.kind with | .array _ t => decide (t = ty) && decide (u.vm.findClass ("[" ++ ty.toString) = some c) | _ => false) = some true → ((U.vm.classes[c]?).map fun (k : Class) => match k.kind with | .array _ t => decide (t = ty) && decide (U.vm.findClass ("[" ++ ty.toString) = some c) | _ => false) = some true := fun c hc => by
    obtain ⟨k, h1, h2⟩ := Option.map_eq_some_iff.mp hc
    obtain ⟨k', hk', he⟩ := hvm.2.2 _ _ h1
    rw [hk', hvm.findClass]
    have hkind : k'.kind = k.kind := by rw [he]
    simp only [Option.map_some, hkind]
    rw [h2]
  unfold Cond.before Cond.holds at h ⊢
  simp only [Cond.value, beq_iff_eq] at h ⊢
  obtain ⟨comp, e1, h⟩ := Option.bind_eq_some_iff.mp h
  obtain ⟨c, e2, h⟩ := Option.bind_eq_some_iff.mp h
  refine Option.bind_eq_some_iff.mpr ⟨comp, ?_, Option.bind_eq_some_iff.mpr ⟨c, ?_, kc c h⟩⟩
  · cases ty <;> first | exact e1 | (simp only [hvm.findClass] at *; exact e1)
  · exact (key comp).symm.trans e2
def vv_A (G : vv_G) : Nat → Prop := fun q => G.2.2.2 ≤ q
/-- own class, how many locals, what it returns, its name, its room, what else holds at its start, what it comes to -/
abbrev vv_M : Type := String × Nat × Option FieldType × String × Room × (State → Prop) × (List Frame → Array Value → State → State → Prop)
def vv_F (G : vv_G) (cc : ByteArray) (M : vv_M) (p : Program) (s : State) (m : MethodId) (args : Array Value) (meth : Method) (c : Code) : Prop :=
  p.tables.exec = Jvm.exec ∧ c.code = cc ∧ c.maxLocals = M.2.1 ∧ s.vm.findClass M.1 = some m.cls ∧ (∀ w ∈ vv_gd, w.before args s = true) ∧ vv_K G s ∧ meth.locks = false ∧ meth.sig.returnType = M.2.2.1 ∧ meth.name = M.2.2.2.1 ∧ M.2.2.2.2.2.1 s ∧ G.2.2.2 ≤ s.heap.size
def vv_X (G : vv_G) (n : Nat) (h : vv_H) (s : State) (H : Heap) (locs : List Loc) : Prop := H.size = n ∧ vv_HP G.2.1 h H ∧ va_S (vv_A G) s.heap H locs ∧ ∀ (a : Nat) (e : va_E), h a = some e → G.2.2.2 ≤ a
def vv_V (G : vv_G) (cc : ByteArray) (M : vv_M) (cells slots pc : Nat) (L : List (Nat × Value)) (st : List Value) (n : Nat) (h : vv_H) : Prop :=
  ∀ (p : Program) (e : Env) (s : State) (m : MethodId) (args : Array Value) (below : List Frame) (meth : Method) (c : Code) (H : Heap) (locs : List Loc) (ls : Array Slot), vv_F G cc M p s m args meth c → vv_X G n h s H locs → lv_has ls M.2.1 L →
    W p G.1 e M.2.2.2.2.1 s m args below meth c H locs cells slots (M.2.2.2.2.2.2 below args s) (F0 m pc ls st)
/-- a contract: from (n, h) with these arguments, the answer r and the heap (n', h') -/
def vv_QQ (G : vv_G) (r : Option Value) (n' : Nat) (h' : vv_H) : Array Value → State → Outcome → State → Prop := fun _ st o t => o = .returned r ∧ t.heap.size = n' ∧ vv_HP G.2.1 h' t.heap ∧ va_F (vv_A G) st t ∧ ∀ (a : Nat) (e : va_E), h' a = some e → G.2.2.2 ≤ a
def vv_PP (G : vv_G) (av : List Value) (n : Nat) (h : vv_H) : Array Value → State → Prop := va_Pc av (fun U => U.heap.size = n ∧ vv_HP G.2.1 h U.heap ∧ vv_K G U ∧ G.2.2.2 ≤ n ∧ ∀ (a : Nat) (e : va_E), h a = some e → G.2.2.2 ≤ a)
def vv_Q (G : vv_G) (r : Option Value) (n' : Nat) (h' : vv_H) (mc ms : Nat) : List Frame → Array Value → State → State → Prop := fun below args s => MQ below (vv_QQ G r n' h') args s mc ms (vv_A G)
def vv_C (G : vv_G) (y : MethodName) (cc : ByteArray) (maxL : Nat) (ret : Option FieldType) (rm : Room) (av : List Value) (n : Nat) (h : vv_H) (r : Option Value) (n' : Nat) (h' : vv_H) : Prop :=
  Met G.1 y (Cond.code y cc maxL ret :: vv_gd) rm (vv_PP G av n h) (vv_QQ G r n' h') rm.cells rm.slots (vv_A G)
theorem vv_nest_on {w : Cond} (h : vv_nest w = true) : w.onTables = true := by
  cases w <;> first | rfl | (simp [vv_nest] at h; done)
theorem vv_nest_warm {w : Cond} (h : vv_nest w = true) {s U : State} (hW : s.WarmedH U.vm) (hZ : va_Nw w s) : va_Nw w U := by
  cases w <;> first | exact va_Nw.warmF hW hZ | exact va_Nw.warmM hW hZ | (simp [vv_nest] at h; done)
theorem vv_isA_moved {w : Cond} (h : vv_isA w = true) {u U : State} (hvm : u.vm.Alike U.vm) (hZ : w.before #[] u = true) : w.before #[] U = true := by
  cases w <;> first | exact vv_aw_moved hvm hZ | (simp [vv_isA] at h; done)
theorem vv_K.warm {G : vv_G} {s U : State} (hW : s.WarmedH U.vm) (h : vv_K G s) : vv_K G U := ⟨va_K.moved hW.alike h.1, fun w hw => vv_nest_warm (List.mem_filter.mp hw).2 hW (h.2.1 w hw), fun w hw => vv_isA_moved (List.mem_filter.mp hw).2 hW.alike (h.2.2 w hw)⟩
theorem vv_K.call {G : vv_G} {U : State} {g : JFrame} {mk : MethodId} {a : Array Value} (h : vv_K G U) : vv_K G (U.calling g mk a) := ⟨va_K.moved (u := U) (U := U.calling g mk a) (Vm.Alike.refl U.vm) h.1, fun w hw => va_Nw.same (vv_nest_on (List.mem_filter.mp hw).2) (u := U) (U := U.calling g mk a) rfl (h.2.1 w hw), fun w hw => vv_isA_moved (List.mem_filter.mp hw).2 (u := U) (U := U.calling g mk a) (Vm.Alike.refl U.vm) (h.2.2 w hw)⟩
theorem vv_blind {G : vv_G} {av : List Value} {n : Nat} {h : vv_H} : FrameBlind (vv_PP G av n h) := fun a U g mk q => ⟨q.1, q.2.1, q.2.2.1, q.2.2.2.1.call, q.2.2.2.2.1, q.2.2.2.2.2⟩
/-- the contract out of a walk from its entry -/
theorem vv_of {G : vv_G} {y : MethodName} {cc : ByteArray} {maxL : Nat} {ret : Option FieldType} {rm : Room} {av : List Value} {n : Nat} {h : vv_H} {r : Option Value} {n' : Nat} {h' : vv_H} (L : List (Nat × Value)) (hy : plainName y.cls = true) (hl : lv_args 0 av = L) (hs : Nat.ble (lg_sl av).length maxL = true)
    (k : vv_V G cc (y.cls, maxL, ret, y.name, rm, fun _ => True, vv_Q G r n' h' rm.cells rm.slots) 0 0 0 L [] n h) : vv_C G y cc maxL ret rm av n h r n' h' := by
  refine Met.ofW (cc := cc) (maxL := maxL) (ret := ret) hy rfl ?_
  intro p e s m args below meth c s₁ B hml hv
  obtain ⟨rfl, hsz, hP, hK, hB, hd⟩ := hv
  have hts := atoms_spec (ws := Cond.code y cc maxL ret :: vv_gd) B.pre
  have hown : s.vm.findClass y.cls = some m.cls := findClass_of_methodNamed B.named
  have hl1 := lv_entry av (n := maxL) (Nat.le_of_ble_eq_true hs)
  rw [hl] at hl1
  rw [lg_entry_eq]
  exact k p e s m _ below meth c s.heap [] _ ⟨B.exec, B.bytes, hml, hown, fun w hw => hts w (List.mem_cons_of_mem _ hw), hK, B.notSynchronized, B.returns, (name_of_methodNamed B.named B.method).1, trivial, by rw [hsz]; exact hB⟩ ⟨hsz, hP, va_S.rf, hd⟩ hl1
section VVR
variable {G : vv_G} {cc : ByteArray} {M : vv_M} {cells slots pc q : Nat} {L : List (Nat × Value)} {st : List Value} {n : Nat} {h : vv_H}
theorem vv_eqh {h2 : vv_H} (e : h = h2) (k : vv_V G cc M cells slots pc L st n h2) : vv_V G cc M cells slots pc L st n h := e ▸ k
theorem vv_eqL {L2 : List (Nat × Value)} {st2 : List Value} (e : L = L2) (e2 : st = st2) (k : vv_V G cc M cells slots pc L2 st2 n h) : vv_V G cc M cells slots pc L st n h := e ▸ e2 ▸ k
theorem vv_sub {L2 : List (Nat × Value)} (hs : ∀ x ∈ L2, x ∈ L) (k : vv_V G cc M cells slots pc L2 st n h) : vv_V G cc M cells slots pc L st n h := fun p e s m args below meth c H locs ls F X hl => k p e s m args below meth c H locs ls F X ⟨hl.1, hl.2.1, fun x hx => hl.2.2 x (hs x hx)⟩
theorem vv_pick {L2 : List (Nat × Value)} (ks : List Nat) (hs : lv_pick L ks = L2) (k : vv_V G cc M cells slots pc L2 st n h) : vv_V G cc M cells slots pc L st n h := fun p e s m args below meth c H locs ls F X hl => k p e s m args below meth c H locs ls F X (lv_sub hl ks hs)
theorem vv_widen {c2 s2 : Nat} (h1 : cells ≤ c2) (h2 : slots ≤ s2) (k : vv_V G cc M c2 s2 pc L st n h) : vv_V G cc M cells slots pc L st n h := fun p e s m args below meth c H locs ls F X hl => W.widen h1 h2 (k p e s m args below meth c H locs ls F X hl)

theorem vv_iconst {i : Int} {v : Int32} (hd : decode cc pc = .ok (.iconst i, 1)) (hq : pc + 1 = q) (hv : Int32.ofInt i = v) (k : vv_V G cc M cells slots q L (.int v :: st) n h) : vv_V G cc M cells slots pc L (st) n h := by
  subst hq
  intro p e s m args below meth c H locs ls F X hl
  exact lv_iconst F.1 F.2.1 hd hv (k p e s m args below meth c H locs ls F X hl)
theorem vv_bipush {i : Int} {v : Int32} (hd : decode cc pc = .ok (.bipush i, 2)) (hq : pc + 2 = q) (hv : (Int8.ofInt i).toInt32 = v) (k : vv_V G cc M cells slots q L (.int v :: st) n h) : vv_V G cc M cells slots pc L (st) n h := by
  subst hq
  intro p e s m args below meth c H locs ls F X hl
  exact lv_bipush F.1 F.2.1 hd hv (k p e s m args below meth c H locs ls F X hl)
theorem vv_sipush {i : Int} {v : Int32} (hd : decode cc pc = .ok (.sipush i, 3)) (hq : pc + 3 = q) (hv : (Int16.ofInt i).toInt32 = v) (k : vv_V G cc M cells slots q L (.int v :: st) n h) : vv_V G cc M cells slots pc L (st) n h := by
  subst hq
  intro p e s m args below meth c H locs ls F X hl
  exact lv_sipush F.1 F.2.1 hd hv (k p e s m args below meth c H locs ls F X hl)
theorem vv_lconst {i : Fin 2} {v : Int64} (hd : decode cc pc = .ok (.lconst i, 1)) (hq : pc + 1 = q) (hv : Int64.ofNat (i : Nat) = v) (k : vv_V G cc M cells slots q L (.long v :: st) n h) : vv_V G cc M cells slots pc L (st) n h := by
  subst hq
  intro p e s m args below meth c H locs ls F X hl
  exact lv_lconst F.1 F.2.1 hd hv (k p e s m args below meth c H locs ls F X hl)
theorem vv_null  (hd : decode cc pc = .ok (.aconst_null, 1)) (hq : pc + 1 = q) (k : vv_V G cc M cells slots q L (.null :: st) n h) : vv_V G cc M cells slots pc L (st) n h := by
  subst hq
  intro p e s m args below meth c H locs ls F X hl
  exact lv_null F.1 F.2.1 hd (k p e s m args below meth c H locs ls F X hl)
theorem vv_iadd {x y : Int32} (hd : decode cc pc = .ok (.iadd, 1)) (hq : pc + 1 = q) (k : vv_V G cc M cells slots q L (.int (x + y) :: st) n h) : vv_V G cc M cells slots pc L (.int y :: .int x :: st) n h := by
  subst hq
  intro p e s m args below meth c H locs ls F X hl
  exact lv_iadd F.1 F.2.1 hd (k p e s m args below meth c H locs ls F X hl)
theorem vv_isub {x y : Int32} (hd : decode cc pc = .ok (.isub, 1)) (hq : pc + 1 = q) (k : vv_V G cc M cells slots q L (.int (x - y) :: st) n h) : vv_V G cc M cells slots pc L (.int y :: .int x :: st) n h := by
  subst hq
  intro p e s m args below meth c H locs ls F X hl
  exact lv_isub F.1 F.2.1 hd (k p e s m args below meth c H locs ls F X hl)
theorem vv_imul {x y : Int32} (hd : decode cc pc = .ok (.imul, 1)) (hq : pc + 1 = q) (k : vv_V G cc M cells slots q L (.int (x * y) :: st) n h) : vv_V G cc M cells slots pc L (.int y :: .int x :: st) n h := by
  subst hq
  intro p e s m args below meth c H locs ls F X hl
  exact lv_imul F.1 F.2.1 hd (k p e s m args below meth c H locs ls F X hl)
theorem vv_iand {x y : Int32} (hd : decode cc pc = .ok (.iand, 1)) (hq : pc + 1 = q) (k : vv_V G cc M cells slots q L (.int (x &&& y) :: st) n h) : vv_V G cc M cells slots pc L (.int y :: .int x :: st) n h := by
  subst hq
  intro p e s m args below meth c H locs ls F X hl
  exact lv_iand F.1 F.2.1 hd (k p e s m args below meth c H locs ls F X hl)
theorem vv_ishr {x y : Int32} (hd : decode cc pc = .ok (.ishr, 1)) (hq : pc + 1 = q) (k : vv_V G cc M cells slots q L (.int (x >>> (y &&& 31)) :: st) n h) : vv_V G cc M cells slots pc L (.int y :: .int x :: st) n h := by
  subst hq
  intro p e s m args below meth c H locs ls F X hl
  exact lv_ishr F.1 F.2.1 hd (k p e s m args below meth c H locs ls F X hl)
theorem vv_irem {x y : Int32} (hd : decode cc pc = .ok (.irem, 1)) (hq : pc + 1 = q) (hne : ¬ y = 0) (k : vv_V G cc M cells slots q L (.int (x - x / y * y) :: st) n h) : vv_V G cc M cells slots pc L (.int y :: .int x :: st) n h := by
  subst hq
  intro p e s m args below meth c H locs ls F X hl
  exact lv_irem F.1 F.2.1 hd hne (k p e s m args below meth c H locs ls F X hl)
theorem vv_ladd {x y : Int64} (hd : decode cc pc = .ok (.ladd, 1)) (hq : pc + 1 = q) (k : vv_V G cc M cells slots q L (.long (x + y) :: st) n h) : vv_V G cc M cells slots pc L (.long y :: .long x :: st) n h := by
  subst hq
  intro p e s m args below meth c H locs ls F X hl
  exact lv_ladd F.1 F.2.1 hd (k p e s m args below meth c H locs ls F X hl)
theorem vv_lsub {x y : Int64} (hd : decode cc pc = .ok (.lsub, 1)) (hq : pc + 1 = q) (k : vv_V G cc M cells slots q L (.long (x - y) :: st) n h) : vv_V G cc M cells slots pc L (.long y :: .long x :: st) n h := by
  subst hq
  intro p e s m args below meth c H locs ls F X hl
  exact lv_lsub F.1 F.2.1 hd (k p e s m args below meth c H locs ls F X hl)
theorem vv_lmul {x y : Int64} (hd : decode cc pc = .ok (.lmul, 1)) (hq : pc + 1 = q) (k : vv_V G cc M cells slots q L (.long (x * y) :: st) n h) : vv_V G cc M cells slots pc L (.long y :: .long x :: st) n h := by
  subst hq
  intro p e s m args below meth c H locs ls F X hl
  exact lv_lmul F.1 F.2.1 hd (k p e s m args below meth c H locs ls F X hl)
theorem vv_land {x y : Int64} (hd : decode cc pc = .ok (.land, 1)) (hq : pc + 1 = q) (k : vv_V G cc M cells slots q L (.long (x &&& y) :: st) n h) : vv_V G cc M cells slots pc L (.long y :: .long x :: st) n h := by
  subst hq
  intro p e s m args below meth c H locs ls F X hl
  exact lv_land F.1 F.2.1 hd (k p e s m args below meth c H locs ls F X hl)
theorem vv_lor {x y : Int64} (hd : decode cc pc = .ok (.lor, 1)) (hq : pc + 1 = q) (k : vv_V G cc M cells slots q L (.long (x ||| y) :: st) n h) : vv_V G cc M cells slots pc L (.long y :: .long x :: st) n h := by
  subst hq
  intro p e s m args below meth c H locs ls F X hl
  exact lv_lor F.1 F.2.1 hd (k p e s m args below meth c H locs ls F X hl)
theorem vv_lrem {x y : Int64} (hd : decode cc pc = .ok (.lrem, 1)) (hq : pc + 1 = q) (hne : ¬ y = 0) (k : vv_V G cc M cells slots q L (.long (x - x / y * y) :: st) n h) : vv_V G cc M cells slots pc L (.long y :: .long x :: st) n h := by
  subst hq
  intro p e s m args below meth c H locs ls F X hl
  exact lv_lrem F.1 F.2.1 hd hne (k p e s m args below meth c H locs ls F X hl)
theorem vv_ineg {x : Int32} (hd : decode cc pc = .ok (.ineg, 1)) (hq : pc + 1 = q) (k : vv_V G cc M cells slots q L (.int (-x) :: st) n h) : vv_V G cc M cells slots pc L (.int x :: st) n h := by
  subst hq
  intro p e s m args below meth c H locs ls F X hl
  exact lv_ineg F.1 F.2.1 hd (k p e s m args below meth c H locs ls F X hl)
theorem vv_lneg {x : Int64} (hd : decode cc pc = .ok (.lneg, 1)) (hq : pc + 1 = q) (k : vv_V G cc M cells slots q L (.long (-x) :: st) n h) : vv_V G cc M cells slots pc L (.long x :: st) n h := by
  subst hq
  intro p e s m args below meth c H locs ls F X hl
  exact lv_lneg F.1 F.2.1 hd (k p e s m args below meth c H locs ls F X hl)
theorem vv_lshl {x : Int64} {y : Int32} (hd : decode cc pc = .ok (.lshl, 1)) (hq : pc + 1 = q) (k : vv_V G cc M cells slots q L (.long (x <<< (y.toInt64 &&& 63)) :: st) n h) : vv_V G cc M cells slots pc L (.int y :: .long x :: st) n h := by
  subst hq
  intro p e s m args below meth c H locs ls F X hl
  exact lv_lshl F.1 F.2.1 hd rfl (k p e s m args below meth c H locs ls F X hl)
theorem vv_i2l {x : Int32} (hd : decode cc pc = .ok (.i2l, 1)) (hq : pc + 1 = q) (k : vv_V G cc M cells slots q L (.long x.toInt64 :: st) n h) : vv_V G cc M cells slots pc L (.int x :: st) n h := by
  subst hq
  intro p e s m args below meth c H locs ls F X hl
  exact lv_i2l F.1 F.2.1 hd rfl (k p e s m args below meth c H locs ls F X hl)
theorem vv_l2i {x : Int64} (hd : decode cc pc = .ok (.l2i, 1)) (hq : pc + 1 = q) (k : vv_V G cc M cells slots q L (.int x.toInt32 :: st) n h) : vv_V G cc M cells slots pc L (.long x :: st) n h := by
  subst hq
  intro p e s m args below meth c H locs ls F X hl
  exact lv_l2i F.1 F.2.1 hd rfl (k p e s m args below meth c H locs ls F X hl)
theorem vv_i2b {x : Int32} (hd : decode cc pc = .ok (.i2b, 1)) (hq : pc + 1 = q) (k : vv_V G cc M cells slots q L (.int x.toInt8.toInt32 :: st) n h) : vv_V G cc M cells slots pc L (.int x :: st) n h := by
  subst hq
  intro p e s m args below meth c H locs ls F X hl
  exact lv_i2b F.1 F.2.1 hd rfl (k p e s m args below meth c H locs ls F X hl)
theorem vv_i2s {x : Int32} (hd : decode cc pc = .ok (.i2s, 1)) (hq : pc + 1 = q) (k : vv_V G cc M cells slots q L (.int x.toInt16.toInt32 :: st) n h) : vv_V G cc M cells slots pc L (.int x :: st) n h := by
  subst hq
  intro p e s m args below meth c H locs ls F X hl
  exact lv_i2s F.1 F.2.1 hd rfl (k p e s m args below meth c H locs ls F X hl)
theorem vv_lcmp {x y : Int64} (hd : decode cc pc = .ok (.lcmp, 1)) (hq : pc + 1 = q) (k : vv_V G cc M cells slots q L (.int (lg_cmp x y) :: st) n h) : vv_V G cc M cells slots pc L (.long y :: .long x :: st) n h := by
  subst hq
  intro p e s m args below meth c H locs ls F X hl
  exact W.lcmp F.1 F.2.1 hd (k p e s m args below meth c H locs ls F X hl)
theorem vv_dup {v : Value} (hd : decode cc pc = .ok (.dup, 1)) (hq : pc + 1 = q) (hc : v.category = 1) (k : vv_V G cc M cells slots q L (v :: v :: st) n h) : vv_V G cc M cells slots pc L (v :: st) n h := by
  subst hq
  intro p e s m args below meth c H locs ls F X hl
  exact lv_dup F.1 F.2.1 hd hc (k p e s m args below meth c H locs ls F X hl)
theorem vv_dup2 {va vb : Value} (hd : decode cc pc = .ok (.dup2, 1)) (hq : pc + 1 = q) (h1 : va.category = 1) (h2 : vb.category = 1) (k : vv_V G cc M cells slots q L (va :: vb :: va :: vb :: st) n h) : vv_V G cc M cells slots pc L (va :: vb :: st) n h := by
  subst hq
  intro p e s m args below meth c H locs ls F X hl
  exact lv_dup2_11 F.1 F.2.1 hd h1 h2 (k p e s m args below meth c H locs ls F X hl)
theorem vv_iload_n {x : Int32} {k : Fin 4} (i : Nat) (hd : decode cc pc = .ok (.iload_n k, 1)) (hq : pc + 1 = q) (hi : (k : Nat) = i) (j : Nat) (hj : L[j]? = some (i, .int x)) (kk : vv_V G cc M cells slots q L (.int x :: st) n h) : vv_V G cc M cells slots pc L st n h := by
  subst hq
  intro p e s m args below meth c H locs ls F X hl
  exact lv_iload_n F.1 F.2.1 hd hi (lv_at hl j hj) (kk p e s m args below meth c H locs ls F X hl)
theorem vv_iload {x : Int32} {i : Nat} (hd : decode cc pc = .ok (.iload i, 2)) (hq : pc + 2 = q) (j : Nat) (hj : L[j]? = some (i, .int x)) (kk : vv_V G cc M cells slots q L (.int x :: st) n h) : vv_V G cc M cells slots pc L st n h := by
  subst hq
  intro p e s m args below meth c H locs ls F X hl
  exact lv_iload F.1 F.2.1 hd (lv_at hl j hj) (kk p e s m args below meth c H locs ls F X hl)
theorem vv_lload_n {x : Int64} {k : Fin 4} (i : Nat) (hd : decode cc pc = .ok (.lload_n k, 1)) (hq : pc + 1 = q) (hi : (k : Nat) = i) (j : Nat) (hj : L[j]? = some (i, .long x)) (kk : vv_V G cc M cells slots q L (.long x :: st) n h) : vv_V G cc M cells slots pc L st n h := by
  subst hq
  intro p e s m args below meth c H locs ls F X hl
  exact lv_lload_n F.1 F.2.1 hd hi (lv_at hl j hj) (kk p e s m args below meth c H locs ls F X hl)
theorem vv_lload {x : Int64} {i : Nat} (hd : decode cc pc = .ok (.lload i, 2)) (hq : pc + 2 = q) (j : Nat) (hj : L[j]? = some (i, .long x)) (kk : vv_V G cc M cells slots q L (.long x :: st) n h) : vv_V G cc M cells slots pc L st n h := by
  subst hq
  intro p e s m args below meth c H locs ls F X hl
  exact lv_lload F.1 F.2.1 hd (lv_at hl j hj) (kk p e s m args below meth c H locs ls F X hl)
theorem vv_aload_n {x : Nat} {k : Fin 4} (i : Nat) (hd : decode cc pc = .ok (.aload_n k, 1)) (hq : pc + 1 = q) (hi : (k : Nat) = i) (j : Nat) (hj : L[j]? = some (i, .ref x)) (kk : vv_V G cc M cells slots q L (.ref x :: st) n h) : vv_V G cc M cells slots pc L st n h := by
  subst hq
  intro p e s m args below meth c H locs ls F X hl
  exact lv_aload_n F.1 F.2.1 hd hi (lv_at hl j hj) (kk p e s m args below meth c H locs ls F X hl)
theorem vv_aload {x : Nat} {i : Nat} (hd : decode cc pc = .ok (.aload i, 2)) (hq : pc + 2 = q) (j : Nat) (hj : L[j]? = some (i, .ref x)) (kk : vv_V G cc M cells slots q L (.ref x :: st) n h) : vv_V G cc M cells slots pc L st n h := by
  subst hq
  intro p e s m args below meth c H locs ls F X hl
  exact lv_aload F.1 F.2.1 hd (lv_at hl j hj) (kk p e s m args below meth c H locs ls F X hl)
theorem vv_aload_nN {k : Fin 4} (i : Nat) (hd : decode cc pc = .ok (.aload_n k, 1)) (hq : pc + 1 = q) (hi : (k : Nat) = i) (j : Nat) (hj : L[j]? = some (i, .null)) (kk : vv_V G cc M cells slots q L (.null :: st) n h) : vv_V G cc M cells slots pc L st n h := by
  subst hq
  intro p e s m args below meth c H locs ls F X hl
  exact lv_aload_nN F.1 F.2.1 hd hi (lv_at hl j hj) (kk p e s m args below meth c H locs ls F X hl)
theorem vv_aloadN {i : Nat} (hd : decode cc pc = .ok (.aload i, 2)) (hq : pc + 2 = q) (j : Nat) (hj : L[j]? = some (i, .null)) (kk : vv_V G cc M cells slots q L (.null :: st) n h) : vv_V G cc M cells slots pc L st n h := by
  subst hq
  intro p e s m args below meth c H locs ls F X hl
  exact lv_aloadN F.1 F.2.1 hd (lv_at hl j hj) (kk p e s m args below meth c H locs ls F X hl)
theorem vv_istore_n {x : Int32} {k : Fin 4} (i : Nat) (L' : List (Nat × Value)) (hd : decode cc pc = .ok (.istore_n k, 1)) (hq : pc + 1 = q) (hi : (k : Nat) = i) (hn : Nat.blt (i) M.2.1 = true) (hl' : (i, ((.int x) : Value)) :: L.filter (fun x9 => !(x9.1 == i) && !(x9.1 + 1 == i && x9.2.category == 2)) = L') (kk : vv_V G cc M cells slots q L' st n h) : vv_V G cc M cells slots pc L (.int x :: st) n h := by
  subst hq
  intro p e s m args below meth c H locs ls F X hl
  exact lv_istore_n F.1 F.2.1 hd hi hl (Nat.le_of_ble_eq_true hn) hl' (fun ls' hl2 => kk p e s m args below meth c H locs ls' F X hl2)
theorem vv_istore {x : Int32} {i : Nat} (L' : List (Nat × Value)) (hd : decode cc pc = .ok (.istore i, 2)) (hq : pc + 2 = q) (hn : Nat.blt (i) M.2.1 = true) (hl' : (i, ((.int x) : Value)) :: L.filter (fun x9 => !(x9.1 == i) && !(x9.1 + 1 == i && x9.2.category == 2)) = L') (kk : vv_V G cc M cells slots q L' st n h) : vv_V G cc M cells slots pc L (.int x :: st) n h := by
  subst hq
  intro p e s m args below meth c H locs ls F X hl
  exact lv_istore F.1 F.2.1 hd hl (Nat.le_of_ble_eq_true hn) hl' (fun ls' hl2 => kk p e s m args below meth c H locs ls' F X hl2)
theorem vv_lstore_n {x : Int64} {k : Fin 4} (i : Nat) (L' : List (Nat × Value)) (hd : decode cc pc = .ok (.lstore_n k, 1)) (hq : pc + 1 = q) (hi : (k : Nat) = i) (hn : Nat.blt (i + 1) M.2.1 = true) (hl' : (i, ((.long x) : Value)) :: L.filter (fun x9 => !(x9.1 == i) && (!(x9.1 == i + 1) && !(x9.1 + 1 == i && x9.2.category == 2))) = L') (kk : vv_V G cc M cells slots q L' st n h) : vv_V G cc M cells slots pc L (.long x :: st) n h := by
  subst hq
  intro p e s m args below meth c H locs ls F X hl
  exact lv_lstore_n F.1 F.2.1 hd hi hl (Nat.le_of_ble_eq_true hn) hl' (fun ls' hl2 => kk p e s m args below meth c H locs ls' F X hl2)
theorem vv_lstore {x : Int64} {i : Nat} (L' : List (Nat × Value)) (hd : decode cc pc = .ok (.lstore i, 2)) (hq : pc + 2 = q) (hn : Nat.blt (i + 1) M.2.1 = true) (hl' : (i, ((.long x) : Value)) :: L.filter (fun x9 => !(x9.1 == i) && (!(x9.1 == i + 1) && !(x9.1 + 1 == i && x9.2.category == 2))) = L') (kk : vv_V G cc M cells slots q L' st n h) : vv_V G cc M cells slots pc L (.long x :: st) n h := by
  subst hq
  intro p e s m args below meth c H locs ls F X hl
  exact lv_lstore F.1 F.2.1 hd hl (Nat.le_of_ble_eq_true hn) hl' (fun ls' hl2 => kk p e s m args below meth c H locs ls' F X hl2)
theorem vv_astore_n {x : Nat} {k : Fin 4} (i : Nat) (L' : List (Nat × Value)) (hd : decode cc pc = .ok (.astore_n k, 1)) (hq : pc + 1 = q) (hi : (k : Nat) = i) (hn : Nat.blt (i) M.2.1 = true) (hl' : (i, ((.ref x) : Value)) :: L.filter (fun x9 => !(x9.1 == i) && !(x9.1 + 1 == i && x9.2.category == 2)) = L') (kk : vv_V G cc M cells slots q L' st n h) : vv_V G cc M cells slots pc L (.ref x :: st) n h := by
  subst hq
  intro p e s m args below meth c H locs ls F X hl
  exact lv_astore_n F.1 F.2.1 hd hi hl (Nat.le_of_ble_eq_true hn) hl' (fun ls' hl2 => kk p e s m args below meth c H locs ls' F X hl2)
theorem vv_astore {x : Nat} {i : Nat} (L' : List (Nat × Value)) (hd : decode cc pc = .ok (.astore i, 2)) (hq : pc + 2 = q) (hn : Nat.blt (i) M.2.1 = true) (hl' : (i, ((.ref x) : Value)) :: L.filter (fun x9 => !(x9.1 == i) && !(x9.1 + 1 == i && x9.2.category == 2)) = L') (kk : vv_V G cc M cells slots q L' st n h) : vv_V G cc M cells slots pc L (.ref x :: st) n h := by
  subst hq
  intro p e s m args below meth c H locs ls F X hl
  exact lv_astore F.1 F.2.1 hd hl (Nat.le_of_ble_eq_true hn) hl' (fun ls' hl2 => kk p e s m args below meth c H locs ls' F X hl2)
theorem vv_astore_nN  {k : Fin 4} (i : Nat) (L' : List (Nat × Value)) (hd : decode cc pc = .ok (.astore_n k, 1)) (hq : pc + 1 = q) (hi : (k : Nat) = i) (hn : Nat.blt (i) M.2.1 = true) (hl' : (i, ((.null) : Value)) :: L.filter (fun x9 => !(x9.1 == i) && !(x9.1 + 1 == i && x9.2.category == 2)) = L') (kk : vv_V G cc M cells slots q L' st n h) : vv_V G cc M cells slots pc L (.null :: st) n h := by
  subst hq
  intro p e s m args below meth c H locs ls F X hl
  exact lv_astore_nN F.1 F.2.1 hd hi hl (Nat.le_of_ble_eq_true hn) hl' (fun ls' hl2 => kk p e s m args below meth c H locs ls' F X hl2)
theorem vv_astoreN  {i : Nat} (L' : List (Nat × Value)) (hd : decode cc pc = .ok (.astore i, 2)) (hq : pc + 2 = q) (hn : Nat.blt (i) M.2.1 = true) (hl' : (i, ((.null) : Value)) :: L.filter (fun x9 => !(x9.1 == i) && !(x9.1 + 1 == i && x9.2.category == 2)) = L') (kk : vv_V G cc M cells slots q L' st n h) : vv_V G cc M cells slots pc L (.null :: st) n h := by
  subst hq
  intro p e s m args below meth c H locs ls F X hl
  exact lv_astoreN F.1 F.2.1 hd hl (Nat.le_of_ble_eq_true hn) hl' (fun ls' hl2 => kk p e s m args below meth c H locs ls' F X hl2)
theorem vv_iinc {x v : Int32} {i : Nat} {d : Int} (L' : List (Nat × Value)) (hd : decode cc pc = .ok (.iinc i d, 3)) (hq : pc + 3 = q) (j : Nat) (hj : L[j]? = some (i, .int x)) (hv : x + Int32.ofInt d = v) (hn : Nat.blt i M.2.1 = true) (hl' : (i, Value.int v) :: L.filter (fun x9 => !(x9.1 == i) && !(x9.1 + 1 == i && x9.2.category == 2)) = L') (kk : vv_V G cc M cells slots q L' st n h) : vv_V G cc M cells slots pc L st n h := by
  subst hq
  intro p e s m args below meth c H locs ls F X hl
  exact lv_iinc F.1 F.2.1 hd hl hj hv (Nat.le_of_ble_eq_true hn) hl' (fun ls' hl2 => kk p e s m args below meth c H locs ls' F X hl2)
theorem vv_if_eq {x : Int32} {off : Int} (t : Nat) (hd : decode cc pc = .ok (.ifCond .eq off, 3)) (ht : (pc : Int) + off = (t : Int)) (hq : pc + 3 = q) (kt : x = 0 → vv_V G cc M cells slots t L st n h) (kf : ¬ x = 0 → vv_V G cc M cells slots q L st n h) : vv_V G cc M cells slots pc L (.int x :: st) n h := by
  subst hq
  intro p e s m args below meth c H locs ls F X hl
  exact lv_if_eq F.1 F.2.1 hd ht (fun z => kt z p e s m args below meth c H locs ls F X hl) (fun z => kf z p e s m args below meth c H locs ls F X hl)
theorem vv_icmp_eq {x y : Int32} {off : Int} (t : Nat) (hd : decode cc pc = .ok (.if_icmp .eq off, 3)) (ht : (pc : Int) + off = (t : Int)) (hq : pc + 3 = q) (kt : x = y → vv_V G cc M cells slots t L st n h) (kf : ¬ x = y → vv_V G cc M cells slots q L st n h) : vv_V G cc M cells slots pc L (.int y :: .int x :: st) n h := by
  subst hq
  intro p e s m args below meth c H locs ls F X hl
  exact lv_icmp_eq F.1 F.2.1 hd ht (fun z => kt z p e s m args below meth c H locs ls F X hl) (fun z => kf z p e s m args below meth c H locs ls F X hl)
theorem vv_if_ne {x : Int32} {off : Int} (t : Nat) (hd : decode cc pc = .ok (.ifCond .ne off, 3)) (ht : (pc : Int) + off = (t : Int)) (hq : pc + 3 = q) (kt : ¬ x = 0 → vv_V G cc M cells slots t L st n h) (kf : x = 0 → vv_V G cc M cells slots q L st n h) : vv_V G cc M cells slots pc L (.int x :: st) n h := by
  subst hq
  intro p e s m args below meth c H locs ls F X hl
  exact lv_if_ne F.1 F.2.1 hd ht (fun z => kt z p e s m args below meth c H locs ls F X hl) (fun z => kf z p e s m args below meth c H locs ls F X hl)
theorem vv_icmp_ne {x y : Int32} {off : Int} (t : Nat) (hd : decode cc pc = .ok (.if_icmp .ne off, 3)) (ht : (pc : Int) + off = (t : Int)) (hq : pc + 3 = q) (kt : ¬ x = y → vv_V G cc M cells slots t L st n h) (kf : x = y → vv_V G cc M cells slots q L st n h) : vv_V G cc M cells slots pc L (.int y :: .int x :: st) n h := by
  subst hq
  intro p e s m args below meth c H locs ls F X hl
  exact lv_icmp_ne F.1 F.2.1 hd ht (fun z => kt z p e s m args below meth c H locs ls F X hl) (fun z => kf z p e s m args below meth c H locs ls F X hl)
theorem vv_if_lt {x : Int32} {off : Int} (t : Nat) (hd : decode cc pc = .ok (.ifCond .lt off, 3)) (ht : (pc : Int) + off = (t : Int)) (hq : pc + 3 = q) (kt : x < 0 → vv_V G cc M cells slots t L st n h) (kf : ¬ x < 0 → vv_V G cc M cells slots q L st n h) : vv_V G cc M cells slots pc L (.int x :: st) n h := by
  subst hq
  intro p e s m args below meth c H locs ls F X hl
  exact lv_if_lt F.1 F.2.1 hd ht (fun z => kt z p e s m args below meth c H locs ls F X hl) (fun z => kf z p e s m args below meth c H locs ls F X hl)
theorem vv_icmp_lt {x y : Int32} {off : Int} (t : Nat) (hd : decode cc pc = .ok (.if_icmp .lt off, 3)) (ht : (pc : Int) + off = (t : Int)) (hq : pc + 3 = q) (kt : x < y → vv_V G cc M cells slots t L st n h) (kf : ¬ x < y → vv_V G cc M cells slots q L st n h) : vv_V G cc M cells slots pc L (.int y :: .int x :: st) n h := by
  subst hq
  intro p e s m args below meth c H locs ls F X hl
  exact lv_icmp_lt F.1 F.2.1 hd ht (fun z => kt z p e s m args below meth c H locs ls F X hl) (fun z => kf z p e s m args below meth c H locs ls F X hl)
theorem vv_if_ge {x : Int32} {off : Int} (t : Nat) (hd : decode cc pc = .ok (.ifCond .ge off, 3)) (ht : (pc : Int) + off = (t : Int)) (hq : pc + 3 = q) (kt : 0 ≤ x → vv_V G cc M cells slots t L st n h) (kf : ¬ 0 ≤ x → vv_V G cc M cells slots q L st n h) : vv_V G cc M cells slots pc L (.int x :: st) n h := by
  subst hq
  intro p e s m args below meth c H locs ls F X hl
  exact lv_if_ge F.1 F.2.1 hd ht (fun z => kt z p e s m args below meth c H locs ls F X hl) (fun z => kf z p e s m args below meth c H locs ls F X hl)
theorem vv_icmp_ge {x y : Int32} {off : Int} (t : Nat) (hd : decode cc pc = .ok (.if_icmp .ge off, 3)) (ht : (pc : Int) + off = (t : Int)) (hq : pc + 3 = q) (kt : y ≤ x → vv_V G cc M cells slots t L st n h) (kf : ¬ y ≤ x → vv_V G cc M cells slots q L st n h) : vv_V G cc M cells slots pc L (.int y :: .int x :: st) n h := by
  subst hq
  intro p e s m args below meth c H locs ls F X hl
  exact lv_icmp_ge F.1 F.2.1 hd ht (fun z => kt z p e s m args below meth c H locs ls F X hl) (fun z => kf z p e s m args below meth c H locs ls F X hl)
theorem vv_if_gt {x : Int32} {off : Int} (t : Nat) (hd : decode cc pc = .ok (.ifCond .gt off, 3)) (ht : (pc : Int) + off = (t : Int)) (hq : pc + 3 = q) (kt : 0 < x → vv_V G cc M cells slots t L st n h) (kf : ¬ 0 < x → vv_V G cc M cells slots q L st n h) : vv_V G cc M cells slots pc L (.int x :: st) n h := by
  subst hq
  intro p e s m args below meth c H locs ls F X hl
  exact lv_if_gt F.1 F.2.1 hd ht (fun z => kt z p e s m args below meth c H locs ls F X hl) (fun z => kf z p e s m args below meth c H locs ls F X hl)
theorem vv_icmp_gt {x y : Int32} {off : Int} (t : Nat) (hd : decode cc pc = .ok (.if_icmp .gt off, 3)) (ht : (pc : Int) + off = (t : Int)) (hq : pc + 3 = q) (kt : y < x → vv_V G cc M cells slots t L st n h) (kf : ¬ y < x → vv_V G cc M cells slots q L st n h) : vv_V G cc M cells slots pc L (.int y :: .int x :: st) n h := by
  subst hq
  intro p e s m args below meth c H locs ls F X hl
  exact lv_icmp_gt F.1 F.2.1 hd ht (fun z => kt z p e s m args below meth c H locs ls F X hl) (fun z => kf z p e s m args below meth c H locs ls F X hl)
theorem vv_if_le {x : Int32} {off : Int} (t : Nat) (hd : decode cc pc = .ok (.ifCond .le off, 3)) (ht : (pc : Int) + off = (t : Int)) (hq : pc + 3 = q) (kt : x ≤ 0 → vv_V G cc M cells slots t L st n h) (kf : ¬ x ≤ 0 → vv_V G cc M cells slots q L st n h) : vv_V G cc M cells slots pc L (.int x :: st) n h := by
  subst hq
  intro p e s m args below meth c H locs ls F X hl
  exact lv_if_le F.1 F.2.1 hd ht (fun z => kt z p e s m args below meth c H locs ls F X hl) (fun z => kf z p e s m args below meth c H locs ls F X hl)
theorem vv_icmp_le {x y : Int32} {off : Int} (t : Nat) (hd : decode cc pc = .ok (.if_icmp .le off, 3)) (ht : (pc : Int) + off = (t : Int)) (hq : pc + 3 = q) (kt : x ≤ y → vv_V G cc M cells slots t L st n h) (kf : ¬ x ≤ y → vv_V G cc M cells slots q L st n h) : vv_V G cc M cells slots pc L (.int y :: .int x :: st) n h := by
  subst hq
  intro p e s m args below meth c H locs ls F X hl
  exact lv_icmp_le F.1 F.2.1 hd ht (fun z => kt z p e s m args below meth c H locs ls F X hl) (fun z => kf z p e s m args below meth c H locs ls F X hl)
theorem vv_goto {off : Int} (t : Nat) (hd : decode cc pc = .ok (.goto off, 3)) (ht : (pc : Int) + off = (t : Int)) (k : vv_V G cc M cells slots t L st n h) : vv_V G cc M cells slots pc L st n h := by
  intro p e s m args below meth c H locs ls F X hl
  exact lv_goto F.1 F.2.1 hd ht (k p e s m args below meth c H locs ls F X hl)
theorem vv_ifnonnull {x : Nat} {off : Int} (t : Nat) (hd : decode cc pc = .ok (.ifnonnull off, 3)) (ht : (pc : Int) + off = (t : Int)) (k : vv_V G cc M cells slots t L st n h) : vv_V G cc M cells slots pc L (.ref x :: st) n h := by
  intro p e s m args below meth c H locs ls F X hl
  exact lv_ifnonnull F.1 F.2.1 hd ht (k p e s m args below meth c H locs ls F X hl)
theorem vv_ifnonnullN {off : Int} (hd : decode cc pc = .ok (.ifnonnull off, 3)) (hq : pc + 3 = q) (k : vv_V G cc M cells slots q L st n h) : vv_V G cc M cells slots pc L (.null :: st) n h := by
  subst hq
  intro p e s m args below meth c H locs ls F X hl
  exact lv_ifnonnullN F.1 F.2.1 hd (k p e s m args below meth c H locs ls F X hl)
theorem vv_ifnull {x : Nat} {off : Int} (hd : decode cc pc = .ok (.ifnull off, 3)) (hq : pc + 3 = q) (k : vv_V G cc M cells slots q L st n h) : vv_V G cc M cells slots pc L (.ref x :: st) n h := by
  subst hq
  intro p e s m args below meth c H locs ls F X hl
  exact lv_ifnull F.1 F.2.1 hd (k p e s m args below meth c H locs ls F X hl)
theorem vv_ifnullN {off : Int} (t : Nat) (hd : decode cc pc = .ok (.ifnull off, 3)) (ht : (pc : Int) + off = (t : Int)) (k : vv_V G cc M cells slots t L st n h) : vv_V G cc M cells slots pc L (.null :: st) n h := by
  intro p e s m args below meth c H locs ls F X hl
  exact lv_ifnullN F.1 F.2.1 hd ht (k p e s m args below meth c H locs ls F X hl)
theorem vv_tabIn {dflt lo hi : Int} {offs : Array Int} {len : Nat} {x : Int32} {off : Int} (t : Nat) (hd : decode cc pc = .ok (.tableswitch dflt lo hi offs, len)) (h1 : ¬ x.toInt < lo) (h2 : ¬ hi < x.toInt) (ho : offs[(x.toInt - lo).toNat]? = some off) (ht : (pc : Int) + off = (t : Int)) (k : vv_V G cc M cells slots t L st n h) : vv_V G cc M cells slots pc L (.int x :: st) n h := by
  intro p e s m args below meth c H locs ls F X hl
  exact lv_tableIn F.1 F.2.1 hd h1 h2 ho ht (k p e s m args below meth c H locs ls F X hl)
theorem vv_tabOut {dflt lo hi : Int} {offs : Array Int} {len : Nat} {x : Int32} (t : Nat) (hd : decode cc pc = .ok (.tableswitch dflt lo hi offs, len)) (h1 : x.toInt < lo ∨ hi < x.toInt) (ht : (pc : Int) + dflt = (t : Int)) (k : vv_V G cc M cells slots t L st n h) : vv_V G cc M cells slots pc L (.int x :: st) n h := by
  intro p e s m args below meth c H locs ls F X hl
  exact lv_tableOut F.1 F.2.1 hd h1 ht (k p e s m args below meth c H locs ls F X hl)
theorem vv_ldc2 {i : Nat} {v : Int64} (hw : Cond.constantLong M.1 i v ∈ vv_gd) (hd : decode cc pc = .ok (.ldc2_w i, 3)) (hq : pc + 3 = q) (k : vv_V G cc M cells slots q L (.long v :: st) n h) : vv_V G cc M cells slots pc L st n h := by
  subst hq
  intro p e s m args below meth c H locs ls F X hl
  exact lv_ldc2 F.1 F.2.1 F.2.2.2.1 (F.2.2.2.2.1 _ hw) hd (k p e s m args below meth c H locs ls F X hl)


/-! fields -/
def vv_LF (own : String) (i ci k : Nat) (ty : FieldType) (fin : Bool) : Prop := ∃ (C : String) (T : u_T) (N : Nat) (t0 : Nat → FieldType), vv_cl[ci]? = some (C, T, N) ∧ k < N ∧ (∀ w ∈ u_ws C T N, w ∈ vv_gd) ∧ (∀ k, k < N → parseFieldDescriptor (T k).2.2.1 = some (t0 k)) ∧ (∀ a, a < N → ∀ b, b < N → a ≠ b → (T a).2.1 ≠ (T b).2.1) ∧ t0 k = ty ∧ (T k).2.2.2 = fin ∧ (T k).1 = C ∧ (Cond.fieldLink own i (T k).1 (T k).2.1 (T k).2.2.1 ∈ vv_gd ∨ ∃ host, Cond.fieldLinkNest own i (T k).1 (T k).2.1 (T k).2.2.1 host ∈ vv_nw)
theorem vv_one {D : va_G} {a : Nat} {e : va_E} {H : Heap} (hP : vv_HP D h H) (he : h a = some e) : va_P D vv_cl [(a, e)] H := fun k x hk => by
  match k, hk with
  | 0, hk => cases hk; exact hP a e he
  | k + 1, hk => simp at hk
theorem vv_HP_up {D : va_G} {a : Nat} {e : va_E} {H H' : Heap} (hP : vv_HP D h H) (he : va_at D vv_cl (a, e) H') (ho : ∀ x : Nat, x ≠ a → H'[x]? = H[x]?) : vv_HP D (vv_up h a e) H' := by
  intro b e' hb
  unfold vv_up at hb
  by_cases hab : b = a
  · subst hab
    rw [if_pos rfl] at hb
    cases hb
    exact he
  · rw [if_neg hab] at hb
    exact (hP b e' hb).kept (ho b hab)
theorem vv_X_up {s : State} {H H' : Heap} {locs : List Loc} {a k : Nat} {e e0 : va_E} (X : vv_X G n h s H locs) (h0 : h a = some e0) (he : va_at G.2.1 vv_cl (a, e) H') (hz : H'.size = H.size) (ho : ∀ x : Nat, x ≠ a → H'[x]? = H[x]?) : vv_X G n (vv_up h a e) s H' (locs ++ [⟨a, k⟩]) := by
  refine ⟨hz.trans X.1, vv_HP_up X.2.1 he ho, X.2.2.1.put hz ho (X.2.2.2 a e0 h0), fun b e' hb => ?_⟩
  unfold vv_up at hb
  by_cases hab : b = a
  · subst hab
    exact X.2.2.2 _ e0 h0
  · rw [if_neg hab] at hb
    exact X.2.2.2 b e' hb
theorem vv_get {a ci k i : Nat} {fs : List Value} {v : Value} {ty : FieldType} {fin : Bool} (hf : vv_LF M.1 i ci k ty fin) (he : h a = some (.inr (ci, fs))) (hv : fs[k]? = some v) (hd : decode cc pc = .ok (.getfield i, 3)) (hq : pc + 3 = q) (kk : vv_V G cc M cells slots q L (v :: st) n h) : vv_V G cc M cells slots pc L (.ref a :: st) n h := by
  subst hq
  intro p e s m args below meth c H locs ls F X hl
  obtain ⟨C, T, N, t0, hc, hk, hin, hty, hnm, -, -, hdc, hlk⟩ := hf
  have hP := vv_one X.2.1 he
  rcases hlk with hlk | ⟨host, hlk⟩
  · exact va_get F.1 F.2.1 F.2.2.2.2.1 hin F.2.2.2.1 F.2.2.2.2.2.1.1 hP 0 rfl hc k hk (F.2.2.2.2.1 _ hlk) (fun _ z => z) hv hd (kk p e s m args below meth c H locs ls F X hl)
  · exact va_getN F.1 F.2.1 F.2.2.2.2.1 hin F.2.2.2.1 F.2.2.2.2.2.1.1 hP 0 rfl hc k hk (va_Nw.use rfl (F.2.2.2.2.2.1.2.1 _ hlk)) (fun _ z => z) hv hd (kk p e s m args below meth c H locs ls F X hl)
theorem vv_put {a ci k i : Nat} {fs : List Value} {v : Value} {ty : FieldType} (hf : vv_LF M.1 i ci k ty false) (he : h a = some (.inr (ci, fs))) (hn : narrow ty v = v) (hfit : fits ty v = true) (hl0 : Nat.blt k fs.length = true) (hd : decode cc pc = .ok (.putfield i, 3)) (hq : pc + 3 = q) (kk : vv_V G cc M cells slots q L st n (vv_up h a (.inr (ci, fs.set k v)))) : vv_V G cc M cells slots pc L (v :: .ref a :: st) n h := by
  subst hq
  intro p e s m args below meth c H locs ls F X hl
  obtain ⟨C, T, N, t0, hc, hk, hin, hty, hnm, hty2, hfin, hdc, hlk⟩ := hf
  have hl0 := Nat.le_of_ble_eq_true hl0
  have hK := F.2.2.2.2.2.1.1
  have hts := F.2.2.2.2.1
  have hap := va_apart (own := M.1) hts hin t0 hty hnm hK hc
  obtain ⟨r, h1, cell, q1, q2, q3, q4⟩ := X.2.1 a _ he
  have hr : r = (C, T, N) := Option.some.inj (h1.symm.trans hc)
  subst hr
  obtain ⟨hS, hfc, kC, hkC, hkind⟩ := hK.1 ci _ hc
  obtain ⟨cf, kf, fi, f, hi, hsl⟩ := hS k hk
  have hlay := hts _ (hin _ (u_in_lay hk))
  unfold u_lay at hlay
  rw [if_neg (by rw [hfin]; decide)] at hlay
  have hst := (u_facts hfc hkC (u_lays hts hin hk) hi).1
  have h6 := u_store hfc hkC hkind hlay hi (hty k hk) (by rw [hty2]; exact hn) (by rw [hty2]; exact hfit)
  have fin : ∀ H' : Heap, H'[a]? = some (cell.setSlot (G.2.1.2 ci k) v) → H'.size = H.size → (∀ x : Nat, x ≠ a → H'[x]? = H[x]?) → W p G.1 e M.2.2.2.2.1 s m args below meth c H' (locs ++ [⟨a, G.2.1.2 ci k⟩]) cells slots (M.2.2.2.2.2.2 below args s) (F0 m (pc + 3) ls st) := fun H' e1 e2 e3 =>
    kk p e s m args below meth c H' _ ls F (vv_X_up X he ⟨_, hc, t_OB.to (V := updV (vp_V fs) k v) ⟨_, e1, q2, q3, t_set q4 hap hk v⟩ (fun j _ => vp_updV_set hl0 v j)⟩ e2 e3) hl
  rcases hlk with hlk | ⟨host, hlk⟩
  · refine W.putK F.1 F.2.1 (f := f) ⟨F.2.2.2.1, hts _ hlk, ⟨_, _, _, hi⟩, hst⟩ (by rw [q2]; exact h6) q1 q3 (by rw [hsl]; exact k2_hasslot (q4 k hk)) rfl rfl hd fun H' e1 e2 e3 => ?_
    rw [hsl] at e1 ⊢
    exact fin H' e1 e2 e3
  · refine va_WputK F.1 F.2.1 (f := f) F.2.2.2.1 (va_Nw.use rfl (F.2.2.2.2.2.1.2.1 _ hlk)) hi hst (by rw [q2]; exact h6) q1 q3 (by rw [hsl]; exact k2_hasslot (q4 k hk)) rfl rfl hd fun H' e1 e2 e3 => ?_
    rw [hsl] at e1 ⊢
    exact fin H' e1 e2 e3
/-! arrays: places by their number -/
theorem vv_in {i : Int32} {k N : Nat} (hi : i = nI k) (hk : k < N) (hN : Nat.blt N 2147483648 = true) : vp_in i N ∧ i.toNatClampNeg = k := by
  have h1 : N < 2 ^ 31 := Nat.le_of_ble_eq_true hN
  subst hi
  exact ⟨vp_in_nI hk h1, nI_clamp (by omega)⟩
theorem vv_iald {a k N : Nat} {f : Nat → Int32} {i : Int32} (ha : h a = some (.inl (G.2.2.1 0, N, .inl f))) (hi : i = nI k) (hk : k < N) (hN : Nat.blt N 2147483648 = true) (hd : decode cc pc = .ok (.iaload, 1)) (hq : pc + 1 = q) (kk : vv_V G cc M cells slots q L (.int (f k) :: st) n h) : vv_V G cc M cells slots pc L (.int i :: .ref a :: st) n h := by
  subst hq
  intro p e s m args below meth c H locs ls F X hl
  obtain ⟨h1, h2⟩ := vv_in hi hk hN
  refine va_iald F.1 F.2.1 F.2.2.2.2.2.1.1 (vv_one X.2.1 ha) 0 0 rfl rfl h1 hd ?_
  rw [h2]
  exact kk p e s m args below meth c H locs ls F X hl
theorem vv_lald {a k N : Nat} {f : Nat → Int64} {i : Int32} (ha : h a = some (.inl (G.2.2.1 1, N, .inr (.inl f)))) (hi : i = nI k) (hk : k < N) (hN : Nat.blt N 2147483648 = true) (hd : decode cc pc = .ok (.laload, 1)) (hq : pc + 1 = q) (kk : vv_V G cc M cells slots q L (.long (f k) :: st) n h) : vv_V G cc M cells slots pc L (.int i :: .ref a :: st) n h := by
  subst hq
  intro p e s m args below meth c H locs ls F X hl
  obtain ⟨h1, h2⟩ := vv_in hi hk hN
  refine va_lald F.1 F.2.1 F.2.2.2.2.2.1.1 (vv_one X.2.1 ha) 0 1 rfl rfl h1 hd ?_
  rw [h2]
  exact kk p e s m args below meth c H locs ls F X hl
theorem vv_aald {a k N t0 : Nat} {f : Nat → Option Nat} {i : Int32} {ty : FieldType} {cA : ClassId} (ht : (vv_ty G.2.2.1)[t0]? = some (cA, ty)) (hrf : ty.isReference = true) (ha : h a = some (.inl (cA, N, .inr (.inr (.inr (.inr f)))))) (hi : i = nI k) (hk : k < N) (hN : Nat.blt N 2147483648 = true) (hd : decode cc pc = .ok (.aaload, 1)) (hq : pc + 1 = q) (kk : vv_V G cc M cells slots q L (va_rf (f k) :: st) n h) : vv_V G cc M cells slots pc L (.int i :: .ref a :: st) n h := by
  subst hq
  intro p e s m args below meth c H locs ls F X hl
  obtain ⟨h1, h2⟩ := vv_in hi hk hN
  have kk2 := kk p e s m args below meth c H locs ls F X hl
  rw [← h2] at kk2
  exact W.aald (v := va_rf (f i.toNatClampNeg)) (ty := ty) F.1 F.2.1 (X.2.1 a _ ha) ((F.2.2.2.2.2.1.1.2 t0 _ ht).1 N (fun j => va_rf (f j))) hrf (fun x => by cases x) (by show ¬ (i < 0 ∨ (arrV _ _ _).slots.size ≤ _); rw [arrV_size]; exact h1) (by show (arrV _ _ _).slots[_]? = _; rw [arrV_read _ _ (by rw [h2]; exact hk)]) rfl rfl hd kk2
theorem vv_iast {a k N : Nat} {f : Nat → Int32} {i x : Int32} (ha : h a = some (.inl (G.2.2.1 0, N, .inl f))) (hi : i = nI k) (hk : k < N) (hN : Nat.blt N 2147483648 = true) (hd : decode cc pc = .ok (.iastore, 1)) (hq : pc + 1 = q) (kk : vv_V G cc M cells slots q L st n (vv_up h a (.inl (G.2.2.1 0, N, .inl (upd f k x))))) : vv_V G cc M cells slots pc L (.int x :: .int i :: .ref a :: st) n h := by
  subst hq
  intro p e s m args below meth c H locs ls F X hl
  obtain ⟨h1, h2⟩ := vv_in hi hk hN
  refine W.iast F.1 F.2.1 (X.2.1 a _ ha) ((F.2.2.2.2.2.1.1.2 0 _ rfl).1 N (fun j => .int (f j))) (fun x => by cases x) (by show ¬ (i < 0 ∨ (arrV _ _ _).slots.size ≤ _); rw [arrV_size]; exact h1) rfl rfl hd fun H1 e1 z oq => ?_
  refine kk p e s m args below meth c H1 _ ls F (vv_X_up X ha ?_ z oq) hl
  show H1[a]? = some (vp_cell _ _)
  rw [e1, h2]
  rw [vp_cell_i, vp_cell_i, arrV_store]
  congr 2
  funext x9
  by_cases hx : x9 = k
  · subst hx
    simp [updV, upd]
  · simp [updV, upd, hx]
theorem vv_last {a k N : Nat} {f : Nat → Int64} {i : Int32} {x : Int64} (ha : h a = some (.inl (G.2.2.1 1, N, .inr (.inl f)))) (hi : i = nI k) (hk : k < N) (hN : Nat.blt N 2147483648 = true) (hd : decode cc pc = .ok (.lastore, 1)) (hq : pc + 1 = q) (kk : vv_V G cc M cells slots q L st n (vv_up h a (.inl (G.2.2.1 1, N, .inr (.inl (vp_updL f k x)))))) : vv_V G cc M cells slots pc L (.long x :: .int i :: .ref a :: st) n h := by
  subst hq
  intro p e s m args below meth c H locs ls F X hl
  obtain ⟨h1, h2⟩ := vv_in hi hk hN
  refine W.last F.1 F.2.1 (X.2.1 a _ ha) ((F.2.2.2.2.2.1.1.2 1 _ rfl).1 N (fun j => .long (f j))) (fun x => by cases x) (by show ¬ (i < 0 ∨ (arrV _ _ _).slots.size ≤ _); rw [arrV_size]; exact h1) rfl rfl hd fun H1 e1 z oq => ?_
  refine kk p e s m args below meth c H1 _ ls F (vv_X_up X ha ?_ z oq) hl
  show H1[a]? = some (vp_cell _ _)
  rw [e1, h2]
  rw [vp_cell_l, vp_cell_l, arrV_store]
  congr 2
  funext x9
  by_cases hx : x9 = k
  · subst hx
    simp [updV, vp_updL]
  · simp [updV, vp_updL, hx]
theorem vv_alen {a N : Nat} {f : Nat → Int32} (ha : h a = some (.inl (G.2.2.1 0, N, .inl f))) (hd : decode cc pc = .ok (.arraylength, 1)) (hq : pc + 1 = q) (kk : vv_V G cc M cells slots q L (.int (nI N) :: st) n h) : vv_V G cc M cells slots pc L (.ref a :: st) n h := by
  subst hq
  intro p e s m args below meth c H locs ls F X hl
  exact W.alen (n := nI N) F.1 F.2.1 (X.2.1 a _ ha) ((F.2.2.2.2.2.1.1.2 0 _ rfl).1 N (fun j => .int (f j))) (by show (arrV _ _ _).slots.size.toInt32 = _; rw [arrV_size]; rfl) rfl rfl hd (kk p e s m args below meth c H locs ls F X hl)
theorem vv_alenL {a N : Nat} {f : Nat → Int64} (ha : h a = some (.inl (G.2.2.1 1, N, .inr (.inl f)))) (hd : decode cc pc = .ok (.arraylength, 1)) (hq : pc + 1 = q) (kk : vv_V G cc M cells slots q L (.int (nI N) :: st) n h) : vv_V G cc M cells slots pc L (.ref a :: st) n h := by
  subst hq
  intro p e s m args below meth c H locs ls F X hl
  exact W.alen (n := nI N) F.1 F.2.1 (X.2.1 a _ ha) ((F.2.2.2.2.2.1.1.2 1 _ rfl).1 N (fun j => .long (f j))) (by show (arrV _ _ _).slots.size.toInt32 = _; rw [arrV_size]; rfl) rfl rfl hd (kk p e s m args below meth c H locs ls F X hl)
/-! ends -/
theorem vv_iret {r : Option Value} {n' : Nat} {h' : vv_H} {rm : Room} {Ex : State → Prop} {own nm : String} {nL : Nat} {v : Int32} (hd : decode cc pc = .ok (.ireturn, 1)) (hr : r = some (.int v)) (hn : n = n') (hh : h = h') : vv_V G cc (own, nL, some .int, nm, rm, Ex, vv_Q G r n' h' cells slots) cells slots pc L [.int v] n h := by
  subst hr hn hh
  intro p e s m args below meth c H locs ls F X hl
  exact W.iret F.1 F.2.1 F.2.2.2.2.2.2.2.1 (fun t ht hW => ⟨rfl, by rw [ht]; exact X.1, by rw [ht]; exact X.2.1, X.2.2.1.F ht, X.2.2.2⟩) X.2.2.1.2.2 hd F.2.2.2.2.2.2.1
theorem vv_zret {r : Option Value} {n' : Nat} {h' : vv_H} {rm : Room} {Ex : State → Prop} {own nm : String} {nL : Nat} {v : Int32} (hd : decode cc pc = .ok (.ireturn, 1)) (hv : v = 0 ∨ v = 1) (hr : r = some (.int v)) (hn : n = n') (hh : h = h') : vv_V G cc (own, nL, some .boolean, nm, rm, Ex, vv_Q G r n' h' cells slots) cells slots pc L [.int v] n h := by
  subst hr hn hh
  intro p e s m args below meth c H locs ls F X hl
  exact W.zret F.1 F.2.1 F.2.2.2.2.2.2.2.1 (by rcases hv with rfl | rfl <;> rfl) (fun t ht hW => ⟨rfl, by rw [ht]; exact X.1, by rw [ht]; exact X.2.1, X.2.2.1.F ht, X.2.2.2⟩) X.2.2.1.2.2 hd F.2.2.2.2.2.2.1
theorem vv_lret {r : Option Value} {n' : Nat} {h' : vv_H} {rm : Room} {Ex : State → Prop} {own nm : String} {nL : Nat} {v : Int64} (hd : decode cc pc = .ok (.lreturn, 1)) (hr : r = some (.long v)) (hn : n = n') (hh : h = h') : vv_V G cc (own, nL, some .long, nm, rm, Ex, vv_Q G r n' h' cells slots) cells slots pc L [.long v] n h := by
  subst hr hn hh
  intro p e s m args below meth c H locs ls F X hl
  exact W.lret F.1 F.2.1 F.2.2.2.2.2.2.2.1 (fun t ht hW => ⟨rfl, by rw [ht]; exact X.1, by rw [ht]; exact X.2.1, X.2.2.1.F ht, X.2.2.2⟩) X.2.2.1.2.2 hd F.2.2.2.2.2.2.1
theorem vv_aret {r : Option Value} {n' : Nat} {h' : vv_H} {rm : Room} {Ex : State → Prop} {own nm C : String} {nL : Nat} {v : Value} (hd : decode cc pc = .ok (.areturn, 1)) (hv : v = .null ∨ ∃ a, v = .ref a) (hr : r = some v) (hn : n = n') (hh : h = h') : vv_V G cc (own, nL, some (.object C), nm, rm, Ex, vv_Q G r n' h' cells slots) cells slots pc L [v] n h := by
  subst hr hn hh
  intro p e s m args below meth c H locs ls F X hl
  exact W.aret F.1 F.2.1 F.2.2.2.2.2.2.2.1 (Or.inl ⟨_, rfl⟩) hv (fun t ht hW => ⟨rfl, by rw [ht]; exact X.1, by rw [ht]; exact X.2.1, X.2.2.1.F ht, X.2.2.2⟩) X.2.2.1.2.2 hd F.2.2.2.2.2.2.1
theorem vv_vret {r : Option Value} {n' : Nat} {h' : vv_H} {rm : Room} {Ex : State → Prop} {own nm : String} {nL : Nat} (hd : decode cc pc = .ok (.return_, 1)) (hr : r = none) (hn : n = n') (hh : h = h') : vv_V G cc (own, nL, none, nm, rm, Ex, vv_Q G r n' h' cells slots) cells slots pc L [] n h := by
  subst hr hn hh
  intro p e s m args below meth c H locs ls F X hl
  exact W.vret F.1 F.2.1 F.2.2.2.2.2.2.2.1 (fun t ht hW => ⟨rfl, by rw [ht]; exact X.1, by rw [ht]; exact X.2.1, X.2.2.1.F ht, X.2.2.2⟩) X.2.2.1.2.2 hd F.2.2.2.2.2.2.1
/-! calls -/
def vv_LB (y : MethodName) (bytes : ByteArray) (maxL : Nat) (ret : Option FieldType) (k : Nat) : Prop := Cond.initialized y.cls ∈ vv_gd ∧ Cond.code y bytes maxL ret ∈ vv_gd ∧ y.cls ≠ "java/lang/invoke/MethodHandle" ∧ y.cls ≠ "java/lang/invoke/VarHandle" ∧ (parseMethodDescriptor y.desc).map (fun d => d.parameters.length) = some k
def vv_LK (own : String) (i : Nat) (y : MethodName) : Prop := Cond.methodLink own i y ∈ vv_gd ∨ ∃ host, Cond.methodLinkNest own i y host ∈ vv_nw
def vv_LV (y : MethodName) (bytes : ByteArray) (maxL : Nat) (ret : Option FieldType) (k : Nat) : Prop := vv_LB y bytes maxL ret k ∧ Cond.instanceMethod y ∈ vv_gd ∧ Cond.selects y.cls y y ∈ vv_gd
def vv_LS (y : MethodName) (bytes : ByteArray) (maxL : Nat) (ret : Option FieldType) (k : Nat) : Prop := vv_LB y bytes maxL ret k ∧ Cond.static y ∈ vv_gd
def vv_LI (y : MethodName) (bytes : ByteArray) (maxL : Nat) (k : Nat) : Prop := vv_LB y bytes maxL none k ∧ Cond.instanceMethod y ∈ vv_gd ∧ y.name = "<init>"
def vv_rm (rm : Room) (maxL : Nat) (R : Room) : Bool := Nat.ble (rm.frames + 1) R.frames && Nat.ble (8 + (maxL + 11) + rm.locals) R.locals
theorem vv_pre {G : vv_G} {s : State} {H : Heap} {locs : List Loc} {av : List Value} (hK : vv_K G s) (hB : G.2.2.2 ≤ s.heap.size) (X : vv_X G n h s H locs) : ∀ U : State, U.heap = H → s.WarmedH U.vm → vv_PP G av n h av.toArray U := fun U hU hW => ⟨rfl, by rw [hU]; exact X.1, by rw [hU]; exact X.2.1, hK.warm hW, by rw [← X.1]; exact Nat.le_trans hB X.2.2.1.1, X.2.2.2⟩
theorem vv_back {p : Program} {e : Env} {s : State} {m : MethodId} {args : Array Value} {below : List Frame} {meth : Method} {c : Code} {H : Heap} {locs : List Loc} {ls : Array Slot} {r : Option Value} {n' : Nat} {h' : vv_H} {mc ms : Nat} {a : Array Value} {st0 : List Value}
    (F : vv_F G cc M p s m args meth c) (X : vv_X G n h s H locs) (hl : lv_has ls M.2.1 L) (hr : va_Run p G.1 e M.2.2.2.2.1 s m args below meth c H locs cells slots mc ms (F0 m pc ls st0) st (vv_QQ G r n' h' a) (vv_A G)) (kk : vv_V G cc M (cells + mc) (slots + ms) (pc + 3) L (r.toList ++ st) n' h') : W p G.1 e M.2.2.2.2.1 s m args below meth c H locs cells slots (M.2.2.2.2.2.2 below args s) (F0 m pc ls st0) := by
  intro T hT XX
  obtain ⟨v, st₀, t, T', L9, h0, X', hL, e1, e2, ⟨hv, hz, hP, hF, hd⟩, stp⟩ := hr T hT XX
  cases hv
  obtain ⟨hF1, hF2⟩ := hF
  rw [h0] at hF1 hF2
  have hS := X.2.2.1
  obtain ⟨t2, a1, b1⟩ := kk p e s m args below meth c T'.heap (locs ++ L9) ls F ⟨by rw [e1]; exact hz, by rw [e1]; exact hP, ⟨Nat.le_trans hS.1 (by rw [e1]; exact hF1), fun x h1 h2 => by rw [e1, hF2 x (Nat.lt_of_lt_of_le h1 hS.1) h2]; exact hS.2.1 x h1 h2, fun x hx => by
      rcases List.mem_append.mp hx with z | z
      · exact hS.2.2 x z
      · exact hL x z⟩, hd⟩ hl T' rfl X'
  exact ⟨t2, stp t2 a1, b1⟩
theorem vv_callV {y : MethodName} {bytes : ByteArray} {maxL : Nat} {ret : Option FieldType} {rm : Room} {As : List Value} {b ci i k : Nat} {fs : List Value} {r : Option Value} {n' : Nat} {h' : vv_H} {T : u_T} {N c2 s2 : Nat} {stk : List Value} (hlk : vv_LK M.1 i y) (hy : vv_LV y bytes maxL ret k) (hc : vv_C G y bytes maxL ret rm (.ref b :: As) n h r n' h') (hcl : vv_cl[ci]? = some (y.cls, T, N)) (he : h b = some (.inr (ci, fs))) (hn : As.length = k) (hst : stk = As.reverse ++ .ref b :: st) (hW : (st.map fun v => v.category).sum ≤ 8) (hR : vv_rm rm maxL M.2.2.2.2.1 = true) (hd : decode cc pc = .ok (.invokevirtual i, 3)) (hq : pc + 3 = q) (hc2 : cells + rm.cells = c2) (hs2 : slots + rm.slots = s2) (hfc : Nat.ble c2 M.2.2.2.2.1.cells = true) (hfs : Nat.ble s2 M.2.2.2.2.1.slots = true) (kk : vv_V G cc M c2 s2 q L (r.toList ++ st) n' h') : vv_V G cc M cells slots pc L stk n h := by
  subst hq hc2 hs2 hst
  intro p e s m args below meth c H locs ls F X hl
  obtain ⟨⟨hini, hcode, hd1, hd2, hd3⟩, hinst, hsel⟩ := hy
  have hts := F.2.2.2.2.1
  have hR1 := Bool.and_eq_true_iff.mp hR
  have hRR : rm.frames + 1 ≤ M.2.2.2.2.1.frames ∧ 8 + (maxL + 11) + rm.locals ≤ M.2.2.2.2.1.locals := ⟨Nat.le_of_ble_eq_true hR1.1, Nat.le_of_ble_eq_true hR1.2⟩
  have hrecv := va_recv F.2.2.2.2.2.1.1 (vv_one X.2.1 he) hcl (q0 := 0) rfl
  refine vv_back F X hl (a := (Value.ref b :: As).toArray) ?_ kk
  rcases hlk with hlk | ⟨host, hlk⟩
  · exact va_runV ⟨F.1, F.2.1, F.2.2.1, F.2.2.2.1, hts⟩ hc ⟨callB_of k hts (vv_gin hcode) rfl rfl rfl (hts _ hini) (hts _ hlk) ⟨hd1, hd2, hd3⟩ hRR, hts _ hinst, hts _ hsel⟩ ⟨vv_blind, hrecv, vv_pre F.2.2.2.2.2.1 F.2.2.2.2.2.2.2.2.2.2 X⟩ rfl hn hl.1 rfl (lv_room hW) hd ⟨Nat.le_of_ble_eq_true hfc, Nat.le_of_ble_eq_true hfs⟩
  · exact va_runVN ⟨F.1, F.2.1, F.2.2.1, F.2.2.2.1, hts⟩ hc ⟨va_cnB k hts (vv_gin hcode) rfl rfl rfl (F.2.2.2.2.2.1.2.1 _ hlk) (hts _ hini) ⟨hd1, hd2, hd3⟩ hRR, hts _ hinst, hts _ hsel⟩ ⟨vv_blind, hrecv, vv_pre F.2.2.2.2.2.1 F.2.2.2.2.2.2.2.2.2.2 X⟩ rfl hn hl.1 rfl (lv_room hW) hd ⟨Nat.le_of_ble_eq_true hfc, Nat.le_of_ble_eq_true hfs⟩
theorem vv_callS {y : MethodName} {bytes : ByteArray} {maxL : Nat} {ret : Option FieldType} {rm : Room} {As : List Value} {i k : Nat} {r : Option Value} {n' : Nat} {h' : vv_H} {c2 s2 : Nat} {stk : List Value} (hlk : vv_LK M.1 i y) (hy : vv_LS y bytes maxL ret k) (hc : vv_C G y bytes maxL ret rm As n h r n' h') (hn : As.length = k) (hst : stk = As.reverse ++ st) (hW : (st.map fun v => v.category).sum ≤ 8) (hR : vv_rm rm maxL M.2.2.2.2.1 = true) (hd : decode cc pc = .ok (.invokestatic i, 3)) (hq : pc + 3 = q) (hc2 : cells + rm.cells = c2) (hs2 : slots + rm.slots = s2) (hfc : Nat.ble c2 M.2.2.2.2.1.cells = true) (hfs : Nat.ble s2 M.2.2.2.2.1.slots = true) (kk : vv_V G cc M c2 s2 q L (r.toList ++ st) n' h') : vv_V G cc M cells slots pc L stk n h := by
  subst hq hc2 hs2 hst
  intro p e s m args below meth c H locs ls F X hl
  obtain ⟨⟨hini, hcode, hd1, hd2, hd3⟩, hstat⟩ := hy
  have hts := F.2.2.2.2.1
  have hR1 := Bool.and_eq_true_iff.mp hR
  have hRR : rm.frames + 1 ≤ M.2.2.2.2.1.frames ∧ 8 + (maxL + 11) + rm.locals ≤ M.2.2.2.2.1.locals := ⟨Nat.le_of_ble_eq_true hR1.1, Nat.le_of_ble_eq_true hR1.2⟩
  refine vv_back F X hl (a := As.toArray) ?_ kk
  rcases hlk with hlk | ⟨host, hlk⟩
  · exact va_runS ⟨F.1, F.2.1, F.2.2.1, F.2.2.2.1, hts⟩ hc ⟨callB_of k hts (vv_gin hcode) rfl rfl rfl (hts _ hini) (hts _ hlk) ⟨hd1, hd2, hd3⟩ hRR, hts _ hstat⟩ ⟨vv_blind, vv_pre F.2.2.2.2.2.1 F.2.2.2.2.2.2.2.2.2.2 X⟩ rfl hn hl.1 rfl (lv_room hW) hd ⟨Nat.le_of_ble_eq_true hfc, Nat.le_of_ble_eq_true hfs⟩
  · exact va_runSN ⟨F.1, F.2.1, F.2.2.1, F.2.2.2.1, hts⟩ hc ⟨va_cnB k hts (vv_gin hcode) rfl rfl rfl (F.2.2.2.2.2.1.2.1 _ hlk) (hts _ hini) ⟨hd1, hd2, hd3⟩ hRR, hts _ hstat, trivial⟩ ⟨vv_blind, vv_pre F.2.2.2.2.2.1 F.2.2.2.2.2.2.2.2.2.2 X⟩ rfl hn hl.1 rfl (lv_room hW) hd ⟨Nat.le_of_ble_eq_true hfc, Nat.le_of_ble_eq_true hfs⟩
theorem vv_callI {y : MethodName} {bytes : ByteArray} {maxL : Nat} {rm : Room} {As : List Value} {b i k : Nat} {r : Option Value} {n' : Nat} {h' : vv_H} {c2 s2 : Nat} {stk : List Value} (hlk : vv_LK M.1 i y) (hy : vv_LI y bytes maxL k) (hc : vv_C G y bytes maxL none rm (.ref b :: As) n h r n' h') (hn : As.length = k) (hst : stk = As.reverse ++ .ref b :: st) (hW : (st.map fun v => v.category).sum ≤ 8) (hR : vv_rm rm maxL M.2.2.2.2.1 = true) (hd : decode cc pc = .ok (.invokespecial i, 3)) (hq : pc + 3 = q) (hc2 : cells + rm.cells = c2) (hs2 : slots + rm.slots = s2) (hfc : Nat.ble c2 M.2.2.2.2.1.cells = true) (hfs : Nat.ble s2 M.2.2.2.2.1.slots = true) (kk : vv_V G cc M c2 s2 q L (r.toList ++ st) n' h') : vv_V G cc M cells slots pc L stk n h := by
  subst hq hc2 hs2 hst
  intro p e s m args below meth c H locs ls F X hl
  obtain ⟨⟨hini, hcode, hd1, hd2, hd3⟩, hinst, hnm⟩ := hy
  have hts := F.2.2.2.2.1
  have hR1 := Bool.and_eq_true_iff.mp hR
  have hRR : rm.frames + 1 ≤ M.2.2.2.2.1.frames ∧ 8 + (maxL + 11) + rm.locals ≤ M.2.2.2.2.1.locals := ⟨Nat.le_of_ble_eq_true hR1.1, Nat.le_of_ble_eq_true hR1.2⟩
  refine vv_back F X hl (a := (Value.ref b :: As).toArray) ?_ kk
  rcases hlk with hlk | ⟨host, hlk⟩
  · exact va_runI ⟨F.1, F.2.1, F.2.2.1, F.2.2.2.1, hts⟩ hc ⟨callB_of k hts (vv_gin hcode) rfl rfl rfl (hts _ hini) (hts _ hlk) ⟨hd1, hd2, hd3⟩ hRR, hnm, hts _ hinst⟩ ⟨vv_blind, vv_pre F.2.2.2.2.2.1 F.2.2.2.2.2.2.2.2.2.2 X⟩ rfl hn hl.1 rfl (lv_room hW) hd ⟨Nat.le_of_ble_eq_true hfc, Nat.le_of_ble_eq_true hfs⟩
  · exact va_runIN ⟨F.1, F.2.1, F.2.2.1, F.2.2.2.1, hts⟩ hc ⟨va_cnB k hts (vv_gin hcode) rfl rfl rfl (F.2.2.2.2.2.1.2.1 _ hlk) (hts _ hini) ⟨hd1, hd2, hd3⟩ hRR, hnm, hts _ hinst⟩ ⟨vv_blind, vv_pre F.2.2.2.2.2.1 F.2.2.2.2.2.2.2.2.2.2 X⟩ rfl hn hl.1 rfl (lv_room hW) hd ⟨Nat.le_of_ble_eq_true hfc, Nat.le_of_ble_eq_true hfs⟩

end VVR
end
section
theorem vv_inI {ws : List Cond} (ps : List Nat) (hp : ws = ps.filterMap (fun i => tables_1[i]?)) (hg : ws.all goodWord = true) : ∀ w ∈ ws, w ∈ vv_gd := fun w hw => by
  have h1 := List.all_eq_true.mp hg w hw
  rw [hp] at hw
  obtain ⟨i, -, hi⟩ := List.mem_filterMap.mp hw
  exact vv_gd_of (vv_tb i hi) h1
theorem vv_g (i : Nat) {w : Cond} (h : tables_1[i]? = some w) (hg : goodWord w = true) : w ∈ vv_gd := vv_gd_of (vv_tb i h) hg
theorem vv_gs (i : Nat) {w : Cond} (h : (k2_sels lw_privs)[i]? = some w) (hg : goodWord w = true) : w ∈ vv_gd := vv_gd_of (vv_sb i h) hg
theorem vv_n (i : Nat) {w : Cond} (h : tables_1[i]? = some w) (hg : vv_nest w = true) : w ∈ vv_nw := vv_nw_of (vv_tb i h) hg
set_option maxRecDepth 20000 in
theorem vw_in0 : ∀ w ∈ u_ws RX0 TX0 1, w ∈ vv_gd := vv_inI [127] (by decide +kernel) (by decide +kernel)
set_option maxRecDepth 20000 in
theorem vw_in1 : ∀ w ∈ u_ws RX1 TX1 5, w ∈ vv_gd := vv_inI [107, 109, 111, 113, 115] (by decide +kernel) (by decide +kernel)
set_option maxRecDepth 20000 in
theorem vw_in2 : ∀ w ∈ u_ws RX2 TX2 3, w ∈ vv_gd := vv_inI [48, 50, 52] (by decide +kernel) (by decide +kernel)
set_option maxRecDepth 20000 in
theorem vw_in3 : ∀ w ∈ u_ws RX3 TX3 1, w ∈ vv_gd := vv_inI [69] (by decide +kernel) (by decide +kernel)
set_option maxRecDepth 20000 in
theorem vw_in4 : ∀ w ∈ u_ws RX4 TX4 3, w ∈ vv_gd := vv_inI [141, 143, 145] (by decide +kernel) (by decide +kernel)
set_option maxRecDepth 20000 in
theorem vw_in5 : ∀ w ∈ u_ws RX5 TX5 1, w ∈ vv_gd := vv_inI [31] (by decide +kernel) (by decide +kernel)
set_option maxRecDepth 20000 in
theorem vw_in6 : ∀ w ∈ u_ws RX6 TX6 2, w ∈ vv_gd := vv_inI [187, 189] (by decide +kernel) (by decide +kernel)
set_option maxRecDepth 20000 in
theorem vw_in7 : ∀ w ∈ u_ws RX7 TX7 2, w ∈ vv_gd := vv_inI [87, 89] (by decide +kernel) (by decide +kernel)
set_option maxRecDepth 20000 in
theorem vw_in8 : ∀ w ∈ u_ws RX8 TX8 4, w ∈ vv_gd := vv_inI [163, 165, 167, 169] (by decide +kernel) (by decide +kernel)
set_option maxRecDepth 20000 in
theorem vw_in9 : ∀ w ∈ u_ws RX9 TX9 13, w ∈ vv_gd := vv_inI [205, 207, 209, 211, 213, 215, 217, 219, 221, 223, 225, 227, 229] (by decide +kernel) (by decide +kernel)
set_option maxRecDepth 20000 in
theorem vw_in10 : ∀ w ∈ u_ws RX10 TX10 31, w ∈ vv_gd := vv_inI [670, 672, 674, 676, 678, 680, 682, 684, 686, 688, 690, 692, 694, 696, 698, 700, 702, 704, 706, 708, 710, 712, 714, 716, 718, 720, 722, 724, 726, 728, 730] (by decide +kernel) (by decide +kernel)
theorem lf_X5_9 : vv_LF RX5 9 5 0 .int false := ⟨RX5, TX5, 1, tyX5, rfl, by decide, vw_in5, tyX5_ok, nmX5, rfl, rfl, rfl, Or.inl (vv_g 29 (by decide +kernel) rfl)⟩
theorem lf_X9_93 : vv_LF RX9 93 5 0 .int false := ⟨RX5, TX5, 1, tyX5, rfl, by decide, vw_in5, tyX5_ok, nmX5, rfl, rfl, rfl, Or.inr ⟨"SharesOfSeries", vv_n 30 (by decide +kernel) rfl⟩⟩
theorem lf_X2_9 : vv_LF RX2 9 2 0 (.array .int) true := ⟨RX2, TX2, 3, tyX2, rfl, by decide, vw_in2, tyX2_ok, nmX2, rfl, rfl, rfl, Or.inl (vv_g 44 (by decide +kernel) rfl)⟩
theorem lf_X2_15 : vv_LF RX2 15 2 1 (.array .int) true := ⟨RX2, TX2, 3, tyX2, rfl, by decide, vw_in2, tyX2_ok, nmX2, rfl, rfl, rfl, Or.inl (vv_g 45 (by decide +kernel) rfl)⟩
theorem lf_X2_18 : vv_LF RX2 18 2 2 .int false := ⟨RX2, TX2, 3, tyX2, rfl, by decide, vw_in2, tyX2_ok, nmX2, rfl, rfl, rfl, Or.inl (vv_g 46 (by decide +kernel) rfl)⟩
theorem lf_X9_90 : vv_LF RX9 90 2 2 .int false := ⟨RX2, TX2, 3, tyX2, rfl, by decide, vw_in2, tyX2_ok, nmX2, rfl, rfl, rfl, Or.inr ⟨"SharesOfSeries", vv_n 47 (by decide +kernel) rfl⟩⟩
theorem lf_X3_9 : vv_LF RX3 9 3 0 (.array .int) true := ⟨RX3, TX3, 1, tyX3, rfl, by decide, vw_in3, tyX3_ok, nmX3, rfl, rfl, rfl, Or.inl (vv_g 68 (by decide +kernel) rfl)⟩
theorem lf_X7_10 : vv_LF RX7 10 7 0 (.object "SharesOfSeries$Polynomial") true := ⟨RX7, TX7, 2, tyX7, rfl, by decide, vw_in7, tyX7_ok, nmX7, rfl, rfl, rfl, Or.inl (vv_g 79 (by decide +kernel) rfl)⟩
theorem lf_X1_45 : vv_LF RX1 45 7 0 (.object "SharesOfSeries$Polynomial") true := ⟨RX7, TX7, 2, tyX7, rfl, by decide, vw_in7, tyX7_ok, nmX7, rfl, rfl, rfl, Or.inr ⟨"SharesOfSeries", vv_n 80 (by decide +kernel) rfl⟩⟩
theorem lf_X2_60 : vv_LF RX2 60 7 0 (.object "SharesOfSeries$Polynomial") true := ⟨RX7, TX7, 2, tyX7, rfl, by decide, vw_in7, tyX7_ok, nmX7, rfl, rfl, rfl, Or.inr ⟨"SharesOfSeries", vv_n 81 (by decide +kernel) rfl⟩⟩
theorem lf_X9_160 : vv_LF RX9 160 7 0 (.object "SharesOfSeries$Polynomial") true := ⟨RX7, TX7, 2, tyX7, rfl, by decide, vw_in7, tyX7_ok, nmX7, rfl, rfl, rfl, Or.inr ⟨"SharesOfSeries", vv_n 82 (by decide +kernel) rfl⟩⟩
theorem lf_X7_16 : vv_LF RX7 16 7 1 (.object "SharesOfSeries$Polynomial") true := ⟨RX7, TX7, 2, tyX7, rfl, by decide, vw_in7, tyX7_ok, nmX7, rfl, rfl, rfl, Or.inl (vv_g 83 (by decide +kernel) rfl)⟩
theorem lf_X1_54 : vv_LF RX1 54 7 1 (.object "SharesOfSeries$Polynomial") true := ⟨RX7, TX7, 2, tyX7, rfl, by decide, vw_in7, tyX7_ok, nmX7, rfl, rfl, rfl, Or.inr ⟨"SharesOfSeries", vv_n 84 (by decide +kernel) rfl⟩⟩
theorem lf_X2_54 : vv_LF RX2 54 7 1 (.object "SharesOfSeries$Polynomial") true := ⟨RX7, TX7, 2, tyX7, rfl, by decide, vw_in7, tyX7_ok, nmX7, rfl, rfl, rfl, Or.inr ⟨"SharesOfSeries", vv_n 85 (by decide +kernel) rfl⟩⟩
theorem lf_X9_163 : vv_LF RX9 163 7 1 (.object "SharesOfSeries$Polynomial") true := ⟨RX7, TX7, 2, tyX7, rfl, by decide, vw_in7, tyX7_ok, nmX7, rfl, rfl, rfl, Or.inr ⟨"SharesOfSeries", vv_n 86 (by decide +kernel) rfl⟩⟩
theorem lf_X1_12 : vv_LF RX1 12 1 0 (.object "SharesOfSeries$Polynomial") true := ⟨RX1, TX1, 5, tyX1, rfl, by decide, vw_in1, tyX1_ok, nmX1, rfl, rfl, rfl, Or.inl (vv_g 100 (by decide +kernel) rfl)⟩
theorem lf_X9_246 : vv_LF RX9 246 1 0 (.object "SharesOfSeries$Polynomial") true := ⟨RX1, TX1, 5, tyX1, rfl, by decide, vw_in1, tyX1_ok, nmX1, rfl, rfl, rfl, Or.inr ⟨"SharesOfSeries", vv_n 101 (by decide +kernel) rfl⟩⟩
theorem lf_X1_18 : vv_LF RX1 18 1 1 (.object "SharesOfSeries$Polynomial") true := ⟨RX1, TX1, 5, tyX1, rfl, by decide, vw_in1, tyX1_ok, nmX1, rfl, rfl, rfl, Or.inl (vv_g 102 (by decide +kernel) rfl)⟩
theorem lf_X9_248 : vv_LF RX9 248 1 1 (.object "SharesOfSeries$Polynomial") true := ⟨RX1, TX1, 5, tyX1, rfl, by decide, vw_in1, tyX1_ok, nmX1, rfl, rfl, rfl, Or.inr ⟨"SharesOfSeries", vv_n 103 (by decide +kernel) rfl⟩⟩
theorem lf_X1_21 : vv_LF RX1 21 1 2 (.object "SharesOfSeries$Polynomial") true := ⟨RX1, TX1, 5, tyX1, rfl, by decide, vw_in1, tyX1_ok, nmX1, rfl, rfl, rfl, Or.inl (vv_g 104 (by decide +kernel) rfl)⟩
theorem lf_X1_24 : vv_LF RX1 24 1 3 (.object "SharesOfSeries$Polynomial") true := ⟨RX1, TX1, 5, tyX1, rfl, by decide, vw_in1, tyX1_ok, nmX1, rfl, rfl, rfl, Or.inl (vv_g 105 (by decide +kernel) rfl)⟩
theorem lf_X1_27 : vv_LF RX1 27 1 4 (.object "SharesOfSeries$Polynomial") true := ⟨RX1, TX1, 5, tyX1, rfl, by decide, vw_in1, tyX1_ok, nmX1, rfl, rfl, rfl, Or.inl (vv_g 106 (by decide +kernel) rfl)⟩
theorem lf_X0_11 : vv_LF RX0 11 0 0 (.array (.array .int)) true := ⟨RX0, TX0, 1, tyX0, rfl, by decide, vw_in0, tyX0_ok, nmX0, rfl, rfl, rfl, Or.inl (vv_g 126 (by decide +kernel) rfl)⟩
theorem lf_X4_10 : vv_LF RX4 10 4 0 (.object "SharesOfSeries$Polynomial") true := ⟨RX4, TX4, 3, tyX4, rfl, by decide, vw_in4, tyX4_ok, nmX4, rfl, rfl, rfl, Or.inl (vv_g 138 (by decide +kernel) rfl)⟩
theorem lf_X4_16 : vv_LF RX4 16 4 1 (.object "SharesOfSeries$Polynomial") true := ⟨RX4, TX4, 3, tyX4, rfl, by decide, vw_in4, tyX4_ok, nmX4, rfl, rfl, rfl, Or.inl (vv_g 139 (by decide +kernel) rfl)⟩
theorem lf_X4_19 : vv_LF RX4 19 4 2 (.object "SharesOfSeries$Polynomial") true := ⟨RX4, TX4, 3, tyX4, rfl, by decide, vw_in4, tyX4_ok, nmX4, rfl, rfl, rfl, Or.inl (vv_g 140 (by decide +kernel) rfl)⟩
theorem lf_X8_9 : vv_LF RX8 9 8 0 (.array .long) true := ⟨RX8, TX8, 4, tyX8, rfl, by decide, vw_in8, tyX8_ok, nmX8, rfl, rfl, rfl, Or.inl (vv_g 155 (by decide +kernel) rfl)⟩
theorem lf_X9_129 : vv_LF RX9 129 8 0 (.array .long) true := ⟨RX8, TX8, 4, tyX8, rfl, by decide, vw_in8, tyX8_ok, nmX8, rfl, rfl, rfl, Or.inr ⟨"SharesOfSeries", vv_n 156 (by decide +kernel) rfl⟩⟩
theorem lf_X8_15 : vv_LF RX8 15 8 1 .boolean false := ⟨RX8, TX8, 4, tyX8, rfl, by decide, vw_in8, tyX8_ok, nmX8, rfl, rfl, rfl, Or.inl (vv_g 157 (by decide +kernel) rfl)⟩
theorem lf_X9_114 : vv_LF RX9 114 8 1 .boolean false := ⟨RX8, TX8, 4, tyX8, rfl, by decide, vw_in8, tyX8_ok, nmX8, rfl, rfl, rfl, Or.inr ⟨"SharesOfSeries", vv_n 158 (by decide +kernel) rfl⟩⟩
theorem lf_X8_19 : vv_LF RX8 19 8 2 .int false := ⟨RX8, TX8, 4, tyX8, rfl, by decide, vw_in8, tyX8_ok, nmX8, rfl, rfl, rfl, Or.inl (vv_g 159 (by decide +kernel) rfl)⟩
theorem lf_X9_118 : vv_LF RX9 118 8 2 .int false := ⟨RX8, TX8, 4, tyX8, rfl, by decide, vw_in8, tyX8_ok, nmX8, rfl, rfl, rfl, Or.inr ⟨"SharesOfSeries", vv_n 160 (by decide +kernel) rfl⟩⟩
theorem lf_X8_23 : vv_LF RX8 23 8 3 .int false := ⟨RX8, TX8, 4, tyX8, rfl, by decide, vw_in8, tyX8_ok, nmX8, rfl, rfl, rfl, Or.inl (vv_g 161 (by decide +kernel) rfl)⟩
theorem lf_X9_139 : vv_LF RX9 139 8 3 .int false := ⟨RX8, TX8, 4, tyX8, rfl, by decide, vw_in8, tyX8_ok, nmX8, rfl, rfl, rfl, Or.inr ⟨"SharesOfSeries", vv_n 162 (by decide +kernel) rfl⟩⟩
theorem lf_X6_10 : vv_LF RX6 10 6 0 (.object "SharesOfSeries$Polynomial") true := ⟨RX6, TX6, 2, tyX6, rfl, by decide, vw_in6, tyX6_ok, nmX6, rfl, rfl, rfl, Or.inl (vv_g 180 (by decide +kernel) rfl)⟩
theorem lf_X0_16 : vv_LF RX0 16 6 0 (.object "SharesOfSeries$Polynomial") true := ⟨RX6, TX6, 2, tyX6, rfl, by decide, vw_in6, tyX6_ok, nmX6, rfl, rfl, rfl, Or.inr ⟨"SharesOfSeries", vv_n 181 (by decide +kernel) rfl⟩⟩
theorem lf_X4_60 : vv_LF RX4 60 6 0 (.object "SharesOfSeries$Polynomial") true := ⟨RX6, TX6, 2, tyX6, rfl, by decide, vw_in6, tyX6_ok, nmX6, rfl, rfl, rfl, Or.inr ⟨"SharesOfSeries", vv_n 182 (by decide +kernel) rfl⟩⟩
theorem lf_X9_149 : vv_LF RX9 149 6 0 (.object "SharesOfSeries$Polynomial") true := ⟨RX6, TX6, 2, tyX6, rfl, by decide, vw_in6, tyX6_ok, nmX6, rfl, rfl, rfl, Or.inr ⟨"SharesOfSeries", vv_n 183 (by decide +kernel) rfl⟩⟩
theorem lf_X6_16 : vv_LF RX6 16 6 1 .int false := ⟨RX6, TX6, 2, tyX6, rfl, by decide, vw_in6, tyX6_ok, nmX6, rfl, rfl, rfl, Or.inl (vv_g 184 (by decide +kernel) rfl)⟩
theorem lf_X4_26 : vv_LF RX4 26 6 1 .int false := ⟨RX6, TX6, 2, tyX6, rfl, by decide, vw_in6, tyX6_ok, nmX6, rfl, rfl, rfl, Or.inr ⟨"SharesOfSeries", vv_n 185 (by decide +kernel) rfl⟩⟩
theorem lf_X9_173 : vv_LF RX9 173 6 1 .int false := ⟨RX6, TX6, 2, tyX6, rfl, by decide, vw_in6, tyX6_ok, nmX6, rfl, rfl, rfl, Or.inr ⟨"SharesOfSeries", vv_n 186 (by decide +kernel) rfl⟩⟩
theorem lf_X9_12 : vv_LF RX9 12 9 0 (.object "SharesOfSeries$Residues") true := ⟨RX9, TX9, 13, tyX9, rfl, by decide, vw_in9, tyX9_ok, nmX9, rfl, rfl, rfl, Or.inl (vv_g 192 (by decide +kernel) rfl)⟩
theorem lf_X9_18 : vv_LF RX9 18 9 1 (.array (.object "SharesOfSeries$Sheet")) true := ⟨RX9, TX9, 13, tyX9, rfl, by decide, vw_in9, tyX9_ok, nmX9, rfl, rfl, rfl, Or.inl (vv_g 193 (by decide +kernel) rfl)⟩
theorem lf_X9_24 : vv_LF RX9 24 9 2 (.array (.object "SharesOfSeries$Series")) true := ⟨RX9, TX9, 13, tyX9, rfl, by decide, vw_in9, tyX9_ok, nmX9, rfl, rfl, rfl, Or.inl (vv_g 194 (by decide +kernel) rfl)⟩
theorem lf_X9_28 : vv_LF RX9 28 9 3 .int false := ⟨RX9, TX9, 13, tyX9, rfl, by decide, vw_in9, tyX9_ok, nmX9, rfl, rfl, rfl, Or.inl (vv_g 195 (by decide +kernel) rfl)⟩
theorem lf_X9_35 : vv_LF RX9 35 9 4 (.object "SharesOfSeries$Points") true := ⟨RX9, TX9, 13, tyX9, rfl, by decide, vw_in9, tyX9_ok, nmX9, rfl, rfl, rfl, Or.inl (vv_g 196 (by decide +kernel) rfl)⟩
theorem lf_X9_42 : vv_LF RX9 42 9 5 (.object "SharesOfSeries$Share") true := ⟨RX9, TX9, 13, tyX9, rfl, by decide, vw_in9, tyX9_ok, nmX9, rfl, rfl, rfl, Or.inl (vv_g 197 (by decide +kernel) rfl)⟩
theorem lf_X9_46 : vv_LF RX9 46 9 6 (.object "SharesOfSeries$Share") true := ⟨RX9, TX9, 13, tyX9, rfl, by decide, vw_in9, tyX9_ok, nmX9, rfl, rfl, rfl, Or.inl (vv_g 198 (by decide +kernel) rfl)⟩
theorem lf_X9_52 : vv_LF RX9 52 9 7 (.object "SharesOfSeries$Euclid") true := ⟨RX9, TX9, 13, tyX9, rfl, by decide, vw_in9, tyX9_ok, nmX9, rfl, rfl, rfl, Or.inl (vv_g 199 (by decide +kernel) rfl)⟩
theorem lf_X9_59 : vv_LF RX9 59 9 8 (.object "SharesOfSeries$Determinant") true := ⟨RX9, TX9, 13, tyX9, rfl, by decide, vw_in9, tyX9_ok, nmX9, rfl, rfl, rfl, Or.inl (vv_g 200 (by decide +kernel) rfl)⟩
theorem lf_X9_66 : vv_LF RX9 66 9 9 (.object "SharesOfSeries$Recurrence") true := ⟨RX9, TX9, 13, tyX9, rfl, by decide, vw_in9, tyX9_ok, nmX9, rfl, rfl, rfl, Or.inl (vv_g 201 (by decide +kernel) rfl)⟩
theorem lf_X9_73 : vv_LF RX9 73 9 10 (.object "SharesOfSeries$Polynomial") true := ⟨RX9, TX9, 13, tyX9, rfl, by decide, vw_in9, tyX9_ok, nmX9, rfl, rfl, rfl, Or.inl (vv_g 202 (by decide +kernel) rfl)⟩
theorem lf_X9_77 : vv_LF RX9 77 9 11 (.array .int) true := ⟨RX9, TX9, 13, tyX9, rfl, by decide, vw_in9, tyX9_ok, nmX9, rfl, rfl, rfl, Or.inl (vv_g 203 (by decide +kernel) rfl)⟩
theorem lf_X9_81 : vv_LF RX9 81 9 12 .int false := ⟨RX9, TX9, 13, tyX9, rfl, by decide, vw_in9, tyX9_ok, nmX9, rfl, rfl, rfl, Or.inl (vv_g 204 (by decide +kernel) rfl)⟩
theorem lf_X10_96 : vv_LF RX10 96 10 0 .int false := ⟨RX10, TX10, 31, tyX10, rfl, by decide, vw_in10, tyX10_ok, nmX10, rfl, rfl, rfl, Or.inl (vv_g 639 (by decide +kernel) rfl)⟩
theorem lf_X10_7 : vv_LF RX10 7 10 1 (.array .int) true := ⟨RX10, TX10, 31, tyX10, rfl, by decide, vw_in10, tyX10_ok, nmX10, rfl, rfl, rfl, Or.inl (vv_g 640 (by decide +kernel) rfl)⟩
theorem lf_X10_92 : vv_LF RX10 92 10 2 .int false := ⟨RX10, TX10, 31, tyX10, rfl, by decide, vw_in10, tyX10_ok, nmX10, rfl, rfl, rfl, Or.inl (vv_g 641 (by decide +kernel) rfl)⟩
theorem lf_X10_13 : vv_LF RX10 13 10 3 (.array .int) true := ⟨RX10, TX10, 31, tyX10, rfl, by decide, vw_in10, tyX10_ok, nmX10, rfl, rfl, rfl, Or.inl (vv_g 642 (by decide +kernel) rfl)⟩
theorem lf_X10_16 : vv_LF RX10 16 10 4 (.array .int) true := ⟨RX10, TX10, 31, tyX10, rfl, by decide, vw_in10, tyX10_ok, nmX10, rfl, rfl, rfl, Or.inl (vv_g 643 (by decide +kernel) rfl)⟩
theorem lf_X10_19 : vv_LF RX10 19 10 5 (.array .long) true := ⟨RX10, TX10, 31, tyX10, rfl, by decide, vw_in10, tyX10_ok, nmX10, rfl, rfl, rfl, Or.inl (vv_g 644 (by decide +kernel) rfl)⟩
theorem lf_X10_23 : vv_LF RX10 23 10 6 (.array .long) true := ⟨RX10, TX10, 31, tyX10, rfl, by decide, vw_in10, tyX10_ok, nmX10, rfl, rfl, rfl, Or.inl (vv_g 645 (by decide +kernel) rfl)⟩
theorem lf_X10_115 : vv_LF RX10 115 10 7 .int false := ⟨RX10, TX10, 31, tyX10, rfl, by decide, vw_in10, tyX10_ok, nmX10, rfl, rfl, rfl, Or.inl (vv_g 646 (by decide +kernel) rfl)⟩
theorem lf_X10_26 : vv_LF RX10 26 10 8 (.array .int) true := ⟨RX10, TX10, 31, tyX10, rfl, by decide, vw_in10, tyX10_ok, nmX10, rfl, rfl, rfl, Or.inl (vv_g 647 (by decide +kernel) rfl)⟩
theorem lf_X10_29 : vv_LF RX10 29 10 9 (.array .int) true := ⟨RX10, TX10, 31, tyX10, rfl, by decide, vw_in10, tyX10_ok, nmX10, rfl, rfl, rfl, Or.inl (vv_g 648 (by decide +kernel) rfl)⟩
theorem lf_X10_32 : vv_LF RX10 32 10 10 (.array .int) true := ⟨RX10, TX10, 31, tyX10, rfl, by decide, vw_in10, tyX10_ok, nmX10, rfl, rfl, rfl, Or.inl (vv_g 649 (by decide +kernel) rfl)⟩
theorem lf_X10_35 : vv_LF RX10 35 10 11 (.array .int) true := ⟨RX10, TX10, 31, tyX10, rfl, by decide, vw_in10, tyX10_ok, nmX10, rfl, rfl, rfl, Or.inl (vv_g 650 (by decide +kernel) rfl)⟩
theorem lf_X10_38 : vv_LF RX10 38 10 12 (.array .int) true := ⟨RX10, TX10, 31, tyX10, rfl, by decide, vw_in10, tyX10_ok, nmX10, rfl, rfl, rfl, Or.inl (vv_g 651 (by decide +kernel) rfl)⟩
theorem lf_X10_41 : vv_LF RX10 41 10 13 (.array .int) true := ⟨RX10, TX10, 31, tyX10, rfl, by decide, vw_in10, tyX10_ok, nmX10, rfl, rfl, rfl, Or.inl (vv_g 652 (by decide +kernel) rfl)⟩
theorem lf_X10_44 : vv_LF RX10 44 10 14 (.array .int) true := ⟨RX10, TX10, 31, tyX10, rfl, by decide, vw_in10, tyX10_ok, nmX10, rfl, rfl, rfl, Or.inl (vv_g 653 (by decide +kernel) rfl)⟩
theorem lf_X10_47 : vv_LF RX10 47 10 15 (.array .int) true := ⟨RX10, TX10, 31, tyX10, rfl, by decide, vw_in10, tyX10_ok, nmX10, rfl, rfl, rfl, Or.inl (vv_g 654 (by decide +kernel) rfl)⟩
theorem lf_X10_50 : vv_LF RX10 50 10 16 (.array .int) true := ⟨RX10, TX10, 31, tyX10, rfl, by decide, vw_in10, tyX10_ok, nmX10, rfl, rfl, rfl, Or.inl (vv_g 655 (by decide +kernel) rfl)⟩
theorem lf_X10_53 : vv_LF RX10 53 10 17 (.array .int) true := ⟨RX10, TX10, 31, tyX10, rfl, by decide, vw_in10, tyX10_ok, nmX10, rfl, rfl, rfl, Or.inl (vv_g 656 (by decide +kernel) rfl)⟩
theorem lf_X10_56 : vv_LF RX10 56 10 18 (.array .int) true := ⟨RX10, TX10, 31, tyX10, rfl, by decide, vw_in10, tyX10_ok, nmX10, rfl, rfl, rfl, Or.inl (vv_g 657 (by decide +kernel) rfl)⟩
theorem lf_X10_59 : vv_LF RX10 59 10 19 (.array .int) true := ⟨RX10, TX10, 31, tyX10, rfl, by decide, vw_in10, tyX10_ok, nmX10, rfl, rfl, rfl, Or.inl (vv_g 658 (by decide +kernel) rfl)⟩
theorem lf_X10_62 : vv_LF RX10 62 10 20 (.array .int) true := ⟨RX10, TX10, 31, tyX10, rfl, by decide, vw_in10, tyX10_ok, nmX10, rfl, rfl, rfl, Or.inl (vv_g 659 (by decide +kernel) rfl)⟩
theorem lf_X10_65 : vv_LF RX10 65 10 21 (.array .int) true := ⟨RX10, TX10, 31, tyX10, rfl, by decide, vw_in10, tyX10_ok, nmX10, rfl, rfl, rfl, Or.inl (vv_g 660 (by decide +kernel) rfl)⟩
theorem lf_X10_68 : vv_LF RX10 68 10 22 (.array .int) true := ⟨RX10, TX10, 31, tyX10, rfl, by decide, vw_in10, tyX10_ok, nmX10, rfl, rfl, rfl, Or.inl (vv_g 661 (by decide +kernel) rfl)⟩
theorem lf_X10_71 : vv_LF RX10 71 10 23 (.array .int) true := ⟨RX10, TX10, 31, tyX10, rfl, by decide, vw_in10, tyX10_ok, nmX10, rfl, rfl, rfl, Or.inl (vv_g 662 (by decide +kernel) rfl)⟩
theorem lf_X10_74 : vv_LF RX10 74 10 24 (.array .int) true := ⟨RX10, TX10, 31, tyX10, rfl, by decide, vw_in10, tyX10_ok, nmX10, rfl, rfl, rfl, Or.inl (vv_g 663 (by decide +kernel) rfl)⟩
theorem lf_X10_77 : vv_LF RX10 77 10 25 (.array .int) true := ⟨RX10, TX10, 31, tyX10, rfl, by decide, vw_in10, tyX10_ok, nmX10, rfl, rfl, rfl, Or.inl (vv_g 664 (by decide +kernel) rfl)⟩
theorem lf_X10_80 : vv_LF RX10 80 10 26 (.array .int) true := ⟨RX10, TX10, 31, tyX10, rfl, by decide, vw_in10, tyX10_ok, nmX10, rfl, rfl, rfl, Or.inl (vv_g 665 (by decide +kernel) rfl)⟩
theorem lf_X10_83 : vv_LF RX10 83 10 27 (.array .int) true := ⟨RX10, TX10, 31, tyX10, rfl, by decide, vw_in10, tyX10_ok, nmX10, rfl, rfl, rfl, Or.inl (vv_g 666 (by decide +kernel) rfl)⟩
theorem lf_X10_118 : vv_LF RX10 118 10 28 .int false := ⟨RX10, TX10, 31, tyX10, rfl, by decide, vw_in10, tyX10_ok, nmX10, rfl, rfl, rfl, Or.inl (vv_g 667 (by decide +kernel) rfl)⟩
theorem lf_X10_86 : vv_LF RX10 86 10 29 (.array .int) true := ⟨RX10, TX10, 31, tyX10, rfl, by decide, vw_in10, tyX10_ok, nmX10, rfl, rfl, rfl, Or.inl (vv_g 668 (by decide +kernel) rfl)⟩
theorem lf_X10_89 : vv_LF RX10 89 10 30 (.array .int) true := ⟨RX10, TX10, 31, tyX10, rfl, by decide, vw_in10, tyX10_ok, nmX10, rfl, rfl, rfl, Or.inl (vv_g 669 (by decide +kernel) rfl)⟩
theorem lk_L_9 : vv_LK RL 9 yX9_init := Or.inl (vv_g 17 (by decide +kernel) rfl)
theorem lk_X9_11 : vv_LK RX9 11 yX5_init := Or.inr ⟨"SharesOfSeries", vv_n 25 (by decide +kernel) rfl⟩
theorem lk_X9_34 : vv_LK RX9 34 yX2_init := Or.inr ⟨"SharesOfSeries", vv_n 40 (by decide +kernel) rfl⟩
theorem lk_X9_41 : vv_LK RX9 41 yX7_init := Or.inl (vv_g 58 (by decide +kernel) rfl)
theorem lk_X7_9 : vv_LK RX7 9 yX3_init := Or.inr ⟨"SharesOfSeries", vv_n 64 (by decide +kernel) rfl⟩
theorem lk_X7_19 : vv_LK RX7 19 yX3_becomeNumber := Or.inl (vv_g 72 (by decide +kernel) rfl)
theorem lk_X3_15 : vv_LK RX3 15 yJ7_fill_53178 := Or.inl (vv_g 76 (by decide +kernel) rfl)
theorem lk_X9_51 : vv_LK RX9 51 yX1_init := Or.inr ⟨"SharesOfSeries", vv_n 94 (by decide +kernel) rfl⟩
theorem lk_X1_11 : vv_LK RX1 11 yX3_init := Or.inr ⟨"SharesOfSeries", vv_n 99 (by decide +kernel) rfl⟩
theorem lk_X9_58 : vv_LK RX9 58 yX0_init := Or.inr ⟨"SharesOfSeries", vv_n 120 (by decide +kernel) rfl⟩
theorem lk_X9_65 : vv_LK RX9 65 yX4_init := Or.inr ⟨"SharesOfSeries", vv_n 132 (by decide +kernel) rfl⟩
theorem lk_X4_9 : vv_LK RX4 9 yX3_init := Or.inr ⟨"SharesOfSeries", vv_n 137 (by decide +kernel) rfl⟩
theorem lk_X9_72 : vv_LK RX9 72 yX3_init := Or.inr ⟨"SharesOfSeries", vv_n 149 (by decide +kernel) rfl⟩
theorem lk_X9_84 : vv_LK RX9 84 yX8_init := Or.inr ⟨"SharesOfSeries", vv_n 151 (by decide +kernel) rfl⟩
theorem lk_X9_85 : vv_LK RX9 85 yX6_init := Or.inr ⟨"SharesOfSeries", vv_n 174 (by decide +kernel) rfl⟩
theorem lk_X6_9 : vv_LK RX6 9 yX3_init := Or.inr ⟨"SharesOfSeries", vv_n 179 (by decide +kernel) rfl⟩
theorem lk_L_13 : vv_LK RL 13 yX9_prime := Or.inl (vv_g 232 (by decide +kernel) rfl)
theorem lk_X9_86 : vv_LK RX9 86 yX9_isAllowedPrime := Or.inl (vv_g 236 (by decide +kernel) rfl)
theorem lk_X9_96 : vv_LK RX9 96 yX7_becomeZero := Or.inl (vv_g 239 (by decide +kernel) rfl)
theorem lk_L_18 : vv_LK RL 18 yX9_sheet := Or.inl (vv_g 243 (by decide +kernel) rfl)
theorem lk_X9_99 : vv_LK RX9 99 yX9_sheetNumbered := Or.inl (vv_g 247 (by decide +kernel) rfl)
theorem lk_X9_103 : vv_LK RX9 103 yX9_isLane := Or.inl (vv_g 251 (by decide +kernel) rfl)
theorem lk_X9_106 : vv_LK RX9 106 yX9_caused := Or.inl (vv_g 254 (by decide +kernel) rfl)
theorem lk_X9_110 : vv_LK RX9 110 yX8_renew := Or.inl (vv_g 258 (by decide +kernel) rfl)
theorem lk_X8_26 : vv_LK RX8 26 yJ7_fill_d0a16 := Or.inl (vv_g 262 (by decide +kernel) rfl)
theorem lk_L_25 : vv_LK RL 25 yX9_put := Or.inl (vv_g 265 (by decide +kernel) rfl)
theorem lk_X9_121 : vv_LK RX9 121 yX8_hasPlaces := Or.inl (vv_g 269 (by decide +kernel) rfl)
theorem lk_X9_125 : vv_LK RX9 125 yX8_write := Or.inl (vv_g 273 (by decide +kernel) rfl)
theorem lk_X8_32 : vv_LK RX8 32 yX8_castToLane := Or.inl (vv_g 277 (by decide +kernel) rfl)
theorem lk_L_30 : vv_LK RL 30 yX9_copy := Or.inl (vv_g 281 (by decide +kernel) rfl)
theorem lk_L_35 : vv_LK RL 35 yX9_lose := Or.inl (vv_g 288 (by decide +kernel) rfl)
theorem lk_L_39 : vv_LK RL 39 yX9_series := Or.inl (vv_g 292 (by decide +kernel) rfl)
theorem lk_X9_142 : vv_LK RX9 142 yX9_isLength := Or.inl (vv_g 296 (by decide +kernel) rfl)
theorem lk_X9_145 : vv_LK RX9 145 yX9_freshSeries := Or.inl (vv_g 299 (by decide +kernel) rfl)
theorem lk_X9_192 : vv_LK RX9 192 yX3_becomeNumber := Or.inl (vv_g 303 (by decide +kernel) rfl)
theorem lk_X9_152 : vv_LK RX9 152 yX9_readTerms := Or.inl (vv_g 304 (by decide +kernel) rfl)
theorem lk_X9_299 : vv_LK RX9 299 yX8_read := Or.inl (vv_g 308 (by decide +kernel) rfl)
theorem lk_X9_182 : vv_LK RX9 182 yX5_of := Or.inl (vv_g 312 (by decide +kernel) rfl)
theorem lk_X9_189 : vv_LK RX9 189 yX3_set := Or.inl (vv_g 316 (by decide +kernel) rfl)
theorem lk_X9_156 : vv_LK RX9 156 yX9_keepFresh := Or.inl (vv_g 320 (by decide +kernel) rfl)
theorem lk_L_43 : vv_LK RL 43 yX9_share := Or.inl (vv_g 324 (by decide +kernel) rfl)
theorem lk_X9_166 : vv_LK RX9 166 yX9_keepUnfolded := Or.inl (vv_g 328 (by decide +kernel) rfl)
theorem lk_X9_186 : vv_LK RX9 186 yX3_at := Or.inl (vv_g 332 (by decide +kernel) rfl)
theorem lk_X9_295 : vv_LK RX9 295 yX7_unfoldInto := Or.inl (vv_g 336 (by decide +kernel) rfl)
theorem lk_X7_27 : vv_LK RX7 27 yX3_at := Or.inl (vv_g 340 (by decide +kernel) rfl)
theorem lk_X7_31 : vv_LK RX7 31 yX5_inverse := Or.inl (vv_g 341 (by decide +kernel) rfl)
theorem lk_X5_15 : vv_LK RX5 15 yX5_of := Or.inl (vv_g 345 (by decide +kernel) rfl)
theorem lk_X7_36 : vv_LK RX7 36 yX5_of := Or.inl (vv_g 346 (by decide +kernel) rfl)
theorem lk_X7_40 : vv_LK RX7 40 yX5_product := Or.inl (vv_g 347 (by decide +kernel) rfl)
theorem lk_X7_44 : vv_LK RX7 44 yX3_set := Or.inl (vv_g 351 (by decide +kernel) rfl)
theorem lk_L_47 : vv_LK RL 47 yX9_unfold := Or.inl (vv_g 352 (by decide +kernel) rfl)
theorem lk_L_51 : vv_LK RL 51 yX9_plus := Or.inl (vv_g 356 (by decide +kernel) rfl)
theorem lk_X9_170 : vv_LK RX9 170 yX9_seriesNumbered := Or.inl (vv_g 360 (by decide +kernel) rfl)
theorem lk_X9_176 : vv_LK RX9 176 yJ9_min_7cf53 := Or.inl (vv_g 364 (by decide +kernel) rfl)
theorem lk_L_55 : vv_LK RL 55 yX9_times := Or.inl (vv_g 367 (by decide +kernel) rfl)
theorem lk_L_60 : vv_LK RL 60 yX9_under := Or.inl (vv_g 371 (by decide +kernel) rfl)
theorem lk_X9_196 : vv_LK RX9 196 yX3_become := Or.inl (vv_g 375 (by decide +kernel) rfl)
theorem lk_L_64 : vv_LK RL 64 yX9_moved := Or.inl (vv_g 380 (by decide +kernel) rfl)
theorem lk_X9_200 : vv_LK RX9 200 yX5_product := Or.inl (vv_g 384 (by decide +kernel) rfl)
theorem lk_L_68 : vv_LK RL 68 yX9_number := Or.inl (vv_g 385 (by decide +kernel) rfl)
theorem lk_L_72 : vv_LK RL 72 yX9_length := Or.inl (vv_g 389 (by decide +kernel) rfl)
theorem lk_L_76 : vv_LK RL 76 yX9_clear := Or.inl (vv_g 393 (by decide +kernel) rfl)
theorem lk_L_81 : vv_LK RL 81 yX9_entry := Or.inl (vv_g 397 (by decide +kernel) rfl)
theorem lk_X9_203 : vv_LK RX9 203 yX9_isPairOf := Or.inl (vv_g 401 (by decide +kernel) rfl)
theorem lk_X9_207 : vv_LK RX9 207 yX9_findEntry := Or.inl (vv_g 404 (by decide +kernel) rfl)
theorem lk_X9_255 : vv_LK RX9 255 yX1_findShare := Or.inl (vv_g 408 (by decide +kernel) rfl)
theorem lk_X1_30 : vv_LK RX1 30 yX3_becomeNumber := Or.inl (vv_g 412 (by decide +kernel) rfl)
theorem lk_X1_34 : vv_LK RX1 34 yX3_top := Or.inl (vv_g 413 (by decide +kernel) rfl)
theorem lk_X1_38 : vv_LK RX1 38 yX3_divide := Or.inl (vv_g 417 (by decide +kernel) rfl)
theorem lk_X3_56 : vv_LK RX3 56 yX3_becomeNumber := Or.inl (vv_g 421 (by decide +kernel) rfl)
theorem lk_X3_45 : vv_LK RX3 45 yX3_top := Or.inl (vv_g 422 (by decide +kernel) rfl)
theorem lk_X3_37 : vv_LK RX3 37 yX3_at := Or.inl (vv_g 423 (by decide +kernel) rfl)
theorem lk_X3_60 : vv_LK RX3 60 yX5_inverse := Or.inl (vv_g 424 (by decide +kernel) rfl)
theorem lk_X3_33 : vv_LK RX3 33 yX5_product := Or.inl (vv_g 425 (by decide +kernel) rfl)
theorem lk_X3_41 : vv_LK RX3 41 yX3_set := Or.inl (vv_g 426 (by decide +kernel) rfl)
theorem lk_X3_49 : vv_LK RX3 49 yX5_negative := Or.inl (vv_g 427 (by decide +kernel) rfl)
theorem lk_X3_52 : vv_LK RX3 52 yX3_addMultiple := Or.inl (vv_g 431 (by decide +kernel) rfl)
theorem lk_X3_27 : vv_LK RX3 27 yX5_of := Or.inl (vv_g 435 (by decide +kernel) rfl)
theorem lk_X1_42 : vv_LK RX1 42 yX3_subtractProduct := Or.inl (vv_g 436 (by decide +kernel) rfl)
theorem lk_X1_50 : vv_LK RX1 50 yX3_become := Or.inl (vv_g 440 (by decide +kernel) rfl)
theorem lk_X1_57 : vv_LK RX1 57 yX1_dropCommonFactors := Or.inl (vv_g 441 (by decide +kernel) rfl)
theorem lk_X1_61 : vv_LK RX1 61 yX3_lowestTerm := Or.inl (vv_g 445 (by decide +kernel) rfl)
theorem lk_X1_64 : vv_LK RX1 64 yX5_inverse := Or.inl (vv_g 449 (by decide +kernel) rfl)
theorem lk_X1_70 : vv_LK RX1 70 yX3_scale := Or.inl (vv_g 450 (by decide +kernel) rfl)
theorem lk_X9_211 : vv_LK RX9 211 yX9_agreement := Or.inl (vv_g 454 (by decide +kernel) rfl)
theorem lk_L_85 : vv_LK RL 85 yX9_worth := Or.inl (vv_g 458 (by decide +kernel) rfl)
theorem lk_X9_215 : vv_LK RX9 215 yX0_fill := Or.inl (vv_g 462 (by decide +kernel) rfl)
theorem lk_X0_22 : vv_LK RX0 22 yX3_at := Or.inl (vv_g 466 (by decide +kernel) rfl)
theorem lk_X9_219 : vv_LK RX9 219 yX0_compute := Or.inl (vv_g 467 (by decide +kernel) rfl)
theorem lk_X0_28 : vv_LK RX0 28 yX0_pivotRow := Or.inl (vv_g 471 (by decide +kernel) rfl)
theorem lk_X0_32 : vv_LK RX0 32 yX0_swapRows := Or.inl (vv_g 475 (by decide +kernel) rfl)
theorem lk_X0_36 : vv_LK RX0 36 yX5_negative := Or.inl (vv_g 479 (by decide +kernel) rfl)
theorem lk_X0_41 : vv_LK RX0 41 yX5_product := Or.inl (vv_g 480 (by decide +kernel) rfl)
theorem lk_X0_44 : vv_LK RX0 44 yX0_clearBelow := Or.inl (vv_g 481 (by decide +kernel) rfl)
theorem lk_X0_48 : vv_LK RX0 48 yX5_inverse := Or.inl (vv_g 485 (by decide +kernel) rfl)
theorem lk_X0_51 : vv_LK RX0 51 yX5_of := Or.inl (vv_g 486 (by decide +kernel) rfl)
theorem lk_L_89 : vv_LK RL 89 yX9_block := Or.inl (vv_g 487 (by decide +kernel) rfl)
theorem lk_X9_223 : vv_LK RX9 223 yX3_top := Or.inl (vv_g 491 (by decide +kernel) rfl)
theorem lk_L_94 : vv_LK RL 94 yX9_stair := Or.inl (vv_g 492 (by decide +kernel) rfl)
theorem lk_X9_226 : vv_LK RX9 226 yX3_dropLowest := Or.inl (vv_g 496 (by decide +kernel) rfl)
theorem lk_X9_229 : vv_LK RX9 229 yX9_stepDown := Or.inl (vv_g 500 (by decide +kernel) rfl)
theorem lk_L_98 : vv_LK RL 98 yX9_recur := Or.inl (vv_g 504 (by decide +kernel) rfl)
theorem lk_X9_233 : vv_LK RX9 233 yX4_least := Or.inl (vv_g 508 (by decide +kernel) rfl)
theorem lk_X4_22 : vv_LK RX4 22 yX3_becomeNumber := Or.inl (vv_g 512 (by decide +kernel) rfl)
theorem lk_X4_32 : vv_LK RX4 32 yX4_faultAt := Or.inl (vv_g 513 (by decide +kernel) rfl)
theorem lk_X4_57 : vv_LK RX4 57 yX3_at := Or.inl (vv_g 517 (by decide +kernel) rfl)
theorem lk_X4_63 : vv_LK RX4 63 yX5_of := Or.inl (vv_g 518 (by decide +kernel) rfl)
theorem lk_X4_36 : vv_LK RX4 36 yX5_inverse := Or.inl (vv_g 519 (by decide +kernel) rfl)
theorem lk_X4_42 : vv_LK RX4 42 yX5_product := Or.inl (vv_g 520 (by decide +kernel) rfl)
theorem lk_X4_46 : vv_LK RX4 46 yX3_become := Or.inl (vv_g 521 (by decide +kernel) rfl)
theorem lk_X4_50 : vv_LK RX4 50 yX5_negative := Or.inl (vv_g 522 (by decide +kernel) rfl)
theorem lk_X4_53 : vv_LK RX4 53 yX3_addMultiple := Or.inl (vv_g 523 (by decide +kernel) rfl)
theorem lk_L_102 : vv_LK RL 102 yX9_point := Or.inl (vv_g 524 (by decide +kernel) rfl)
theorem lk_X9_237 : vv_LK RX9 237 yX2_indexOf := Or.inl (vv_g 528 (by decide +kernel) rfl)
theorem lk_X9_240 : vv_LK RX9 240 yX2_heightAt := Or.inl (vv_g 532 (by decide +kernel) rfl)
theorem lk_X9_243 : vv_LK RX9 243 yX2_add := Or.inl (vv_g 536 (by decide +kernel) rfl)
theorem lk_L_106 : vv_LK RL 106 yX9_wipe := Or.inl (vv_g 540 (by decide +kernel) rfl)
theorem lk_L_110 : vv_LK RL 110 yX9_join := Or.inl (vv_g 544 (by decide +kernel) rfl)
theorem lk_X9_251 : vv_LK RX9 251 yX2_interpolate := Or.inl (vv_g 548 (by decide +kernel) rfl)
theorem lk_X2_22 : vv_LK RX2 22 yX3_becomeNumber := Or.inl (vv_g 552 (by decide +kernel) rfl)
theorem lk_X2_28 : vv_LK RX2 28 yX3_valueAt := Or.inl (vv_g 553 (by decide +kernel) rfl)
theorem lk_X2_32 : vv_LK RX2 32 yX5_of := Or.inl (vv_g 557 (by decide +kernel) rfl)
theorem lk_X2_38 : vv_LK RX2 38 yX5_inverse := Or.inl (vv_g 558 (by decide +kernel) rfl)
theorem lk_X2_42 : vv_LK RX2 42 yX5_product := Or.inl (vv_g 559 (by decide +kernel) rfl)
theorem lk_X2_46 : vv_LK RX2 46 yX3_addMultiple := Or.inl (vv_g 560 (by decide +kernel) rfl)
theorem lk_X2_50 : vv_LK RX2 50 yX3_addRoot := Or.inl (vv_g 561 (by decide +kernel) rfl)
theorem lk_X9_259 : vv_LK RX9 259 yX2_allOn := Or.inl (vv_g 565 (by decide +kernel) rfl)
theorem lk_X9_263 : vv_LK RX9 263 yX7_become := Or.inl (vv_g 569 (by decide +kernel) rfl)
theorem lk_X7_23 : vv_LK RX7 23 yX3_become := Or.inl (vv_g 573 (by decide +kernel) rfl)
theorem lk_L_114 : vv_LK RL 114 yX9_degree := Or.inl (vv_g 574 (by decide +kernel) rfl)
theorem lk_X9_266 : vv_LK RX9 266 yX7_side := Or.inl (vv_g 578 (by decide +kernel) rfl)
theorem lk_L_118 : vv_LK RL 118 yX9_term := Or.inl (vv_g 582 (by decide +kernel) rfl)
theorem lk_L_122 : vv_LK RL 122 yX9_value := Or.inl (vv_g 586 (by decide +kernel) rfl)
theorem lk_X9_270 : vv_LK RX9 270 yX3_valueAt := Or.inl (vv_g 590 (by decide +kernel) rfl)
theorem lk_X9_273 : vv_LK RX9 273 yX5_inverse := Or.inl (vv_g 591 (by decide +kernel) rfl)
theorem lk_L_126 : vv_LK RL 126 yX9_cause := Or.inl (vv_g 592 (by decide +kernel) rfl)
theorem lk_L_130 : vv_LK RL 130 yX9_causes := Or.inl (vv_g 596 (by decide +kernel) rfl)
theorem lk_L_134 : vv_LK RL 134 yX9_count := Or.inl (vv_g 600 (by decide +kernel) rfl)
theorem lk_X9_276 : vv_LK RX9 276 yX9_presentSheets := Or.inl (vv_g 604 (by decide +kernel) rfl)
theorem lk_L_138 : vv_LK RL 138 yX9_digest := Or.inl (vv_g 608 (by decide +kernel) rfl)
theorem lk_X9_281 : vv_LK RX9 281 yX9_mixed := Or.inl (vv_g 613 (by decide +kernel) rfl)
theorem lk_X9_285 : vv_LK RX9 285 yX8_mixedInto := Or.inl (vv_g 617 (by decide +kernel) rfl)
theorem lk_X8_38 : vv_LK RX8 38 yX9_mixed := Or.inr ⟨"SharesOfSeries", vv_n 622 (by decide +kernel) rfl⟩
theorem lk_X9_289 : vv_LK RX9 289 yX3_mixedInto := Or.inl (vv_g 623 (by decide +kernel) rfl)
theorem lk_X3_63 : vv_LK RX3 63 yX9_mixed := Or.inr ⟨"SharesOfSeries", vv_n 627 (by decide +kernel) rfl⟩
theorem lk_X9_292 : vv_LK RX9 292 yX2_mixedInto := Or.inl (vv_g 628 (by decide +kernel) rfl)
theorem lk_X2_63 : vv_LK RX2 63 yX9_mixed := Or.inr ⟨"SharesOfSeries", vv_n 632 (by decide +kernel) rfl⟩
theorem lk_L_12 : vv_LK RL 12 yX10_init := Or.inl (vv_g 635 (by decide +kernel) rfl)
theorem lk_L_17 : vv_LK RL 17 yX10_prime := Or.inl (vv_g 733 (by decide +kernel) rfl)
theorem lk_X10_107 : vv_LK RX10 107 yX10_in := Or.inl (vv_g 739 (by decide +kernel) rfl)
theorem lk_X10_111 : vv_LK RX10 111 yX10_isPrime := Or.inl (vv_g 742 (by decide +kernel) rfl)
theorem lk_X10_121 : vv_LK RX10 121 yX10_clearResult := Or.inl (vv_g 745 (by decide +kernel) rfl)
theorem lk_L_22 : vv_LK RL 22 yX10_sheet := Or.inl (vv_g 749 (by decide +kernel) rfl)
theorem lk_X10_126 : vv_LK RX10 126 yX10_isSheet := Or.inl (vv_g 753 (by decide +kernel) rfl)
theorem lk_X10_129 : vv_LK RX10 129 yX10_meets := Or.inl (vv_g 757 (by decide +kernel) rfl)
theorem lk_L_29 : vv_LK RL 29 yX10_put := Or.inl (vv_g 761 (by decide +kernel) rfl)
theorem lk_L_34 : vv_LK RL 34 yX10_copy := Or.inl (vv_g 765 (by decide +kernel) rfl)
theorem lk_L_38 : vv_LK RL 38 yX10_lose := Or.inl (vv_g 769 (by decide +kernel) rfl)
theorem lk_L_42 : vv_LK RL 42 yX10_series := Or.inl (vv_g 773 (by decide +kernel) rfl)
theorem lk_X10_135 : vv_LK RX10 135 yX10_rest := Or.inl (vv_g 778 (by decide +kernel) rfl)
theorem lk_X10_139 : vv_LK RX10 139 yX10_comes := Or.inl (vv_g 782 (by decide +kernel) rfl)
theorem lk_L_46 : vv_LK RL 46 yX10_share := Or.inl (vv_g 786 (by decide +kernel) rfl)
theorem lk_X10_145 : vv_LK RX10 145 yX10_clearWork := Or.inl (vv_g 790 (by decide +kernel) rfl)
theorem lk_X10_148 : vv_LK RX10 148 yX10_unfoldTo := Or.inl (vv_g 794 (by decide +kernel) rfl)
theorem lk_X10_142 : vv_LK RX10 142 yX10_inverse := Or.inl (vv_g 798 (by decide +kernel) rfl)
theorem lk_X10_99 : vv_LK RX10 99 yX10_product := Or.inl (vv_g 802 (by decide +kernel) rfl)
theorem lk_L_50 : vv_LK RL 50 yX10_unfold := Or.inl (vv_g 806 (by decide +kernel) rfl)
theorem lk_X10_152 : vv_LK RX10 152 yX10_loadResult := Or.inl (vv_g 810 (by decide +kernel) rfl)
theorem lk_L_54 : vv_LK RL 54 yX10_plus := Or.inl (vv_g 814 (by decide +kernel) rfl)
theorem lk_X10_155 : vv_LK RX10 155 yX10_isSeries := Or.inl (vv_g 818 (by decide +kernel) rfl)
theorem lk_X10_158 : vv_LK RX10 158 yX10_lesser := Or.inl (vv_g 822 (by decide +kernel) rfl)
theorem lk_X10_161 : vv_LK RX10 161 yX10_of := Or.inl (vv_g 826 (by decide +kernel) rfl)
theorem lk_L_59 : vv_LK RL 59 yX10_times := Or.inl (vv_g 830 (by decide +kernel) rfl)
theorem lk_L_63 : vv_LK RL 63 yX10_under := Or.inl (vv_g 834 (by decide +kernel) rfl)
theorem lk_L_67 : vv_LK RL 67 yX10_moved := Or.inl (vv_g 838 (by decide +kernel) rfl)
theorem lk_X10_164 : vv_LK RX10 164 yX10_power := Or.inl (vv_g 842 (by decide +kernel) rfl)
theorem lk_L_71 : vv_LK RL 71 yX10_number := Or.inl (vv_g 846 (by decide +kernel) rfl)
theorem lk_L_75 : vv_LK RL 75 yX10_length := Or.inl (vv_g 850 (by decide +kernel) rfl)
theorem lk_L_80 : vv_LK RL 80 yX10_clear := Or.inl (vv_g 854 (by decide +kernel) rfl)
theorem lk_L_84 : vv_LK RL 84 yX10_entry := Or.inl (vv_g 858 (by decide +kernel) rfl)
theorem lk_X10_189 : vv_LK RX10 189 yX10_isPair := Or.inl (vv_g 862 (by decide +kernel) rfl)
theorem lk_X10_193 : vv_LK RX10 193 yX10_findEntry := Or.inl (vv_g 866 (by decide +kernel) rfl)
theorem lk_X10_179 : vv_LK RX10 179 yX10_solve := Or.inl (vv_g 870 (by decide +kernel) rfl)
theorem lk_X10_183 : vv_LK RX10 183 yX10_lighten := Or.inl (vv_g 874 (by decide +kernel) rfl)
theorem lk_X10_167 : vv_LK RX10 167 yX10_degreeOf := Or.inl (vv_g 878 (by decide +kernel) rfl)
theorem lk_X10_171 : vv_LK RX10 171 yX10_reduce := Or.inl (vv_g 881 (by decide +kernel) rfl)
theorem lk_X10_175 : vv_LK RX10 175 yX10_divide := Or.inl (vv_g 885 (by decide +kernel) rfl)
theorem lk_X10_186 : vv_LK RX10 186 yX10_tell := Or.inl (vv_g 889 (by decide +kernel) rfl)
theorem lk_X10_197 : vv_LK RX10 197 yX10_agrees := Or.inl (vv_g 893 (by decide +kernel) rfl)
theorem lk_L_88 : vv_LK RL 88 yX10_worth := Or.inl (vv_g 897 (by decide +kernel) rfl)
theorem lk_L_93 : vv_LK RL 93 yX10_block := Or.inl (vv_g 901 (by decide +kernel) rfl)
theorem lk_X10_200 : vv_LK RX10 200 yX10_keepResult := Or.inl (vv_g 905 (by decide +kernel) rfl)
theorem lk_X10_203 : vv_LK RX10 203 yX10_resultBack := Or.inl (vv_g 909 (by decide +kernel) rfl)
theorem lk_L_97 : vv_LK RL 97 yX10_stair := Or.inl (vv_g 913 (by decide +kernel) rfl)
theorem lk_L_101 : vv_LK RL 101 yX10_recur := Or.inl (vv_g 917 (by decide +kernel) rfl)
theorem lk_L_105 : vv_LK RL 105 yX10_point := Or.inl (vv_g 921 (by decide +kernel) rfl)
theorem lk_L_109 : vv_LK RL 109 yX10_wipe := Or.inl (vv_g 925 (by decide +kernel) rfl)
theorem lk_L_113 : vv_LK RL 113 yX10_join := Or.inl (vv_g 929 (by decide +kernel) rfl)
theorem lk_X10_206 : vv_LK RX10 206 yX10_valueOf := Or.inl (vv_g 933 (by decide +kernel) rfl)
theorem lk_L_117 : vv_LK RL 117 yX10_degree := Or.inl (vv_g 937 (by decide +kernel) rfl)
theorem lk_L_121 : vv_LK RL 121 yX10_term := Or.inl (vv_g 941 (by decide +kernel) rfl)
theorem lk_L_125 : vv_LK RL 125 yX10_value := Or.inl (vv_g 946 (by decide +kernel) rfl)
theorem lk_L_129 : vv_LK RL 129 yX10_cause := Or.inl (vv_g 950 (by decide +kernel) rfl)
theorem lk_L_133 : vv_LK RL 133 yX10_causes := Or.inl (vv_g 954 (by decide +kernel) rfl)
theorem lk_L_137 : vv_LK RL 137 yX10_count := Or.inl (vv_g 959 (by decide +kernel) rfl)
theorem lk_L_142 : vv_LK RL 142 yX10_digest := Or.inl (vv_g 963 (by decide +kernel) rfl)
theorem lm_X9_init : vv_LI yX9_init cX9_init 2 0 := ⟨⟨vv_g 1 (by decide +kernel) rfl, vv_g 19 (by decide +kernel) rfl, by decide +kernel, by decide +kernel, by decide +kernel⟩, vv_g 18 (by decide +kernel) rfl, rfl⟩
theorem lm_X5_init : vv_LI yX5_init cX5_init 1 0 := ⟨⟨vv_g 2 (by decide +kernel) rfl, vv_g 27 (by decide +kernel) rfl, by decide +kernel, by decide +kernel, by decide +kernel⟩, vv_g 26 (by decide +kernel) rfl, rfl⟩
theorem lm_X2_init : vv_LI yX2_init cX2_init 1 0 := ⟨⟨vv_g 3 (by decide +kernel) rfl, vv_g 42 (by decide +kernel) rfl, by decide +kernel, by decide +kernel, by decide +kernel⟩, vv_g 41 (by decide +kernel) rfl, rfl⟩
theorem lm_X7_init : vv_LI yX7_init cX7_init 1 0 := ⟨⟨vv_g 4 (by decide +kernel) rfl, vv_g 60 (by decide +kernel) rfl, by decide +kernel, by decide +kernel, by decide +kernel⟩, vv_g 59 (by decide +kernel) rfl, rfl⟩
theorem lm_X3_init : vv_LI yX3_init cX3_init 1 0 := ⟨⟨vv_g 5 (by decide +kernel) rfl, vv_g 66 (by decide +kernel) rfl, by decide +kernel, by decide +kernel, by decide +kernel⟩, vv_g 65 (by decide +kernel) rfl, rfl⟩
theorem lm_X3_becomeNumber : vv_LV yX3_becomeNumber cX3_becomeNumber 2 none 1 := ⟨⟨vv_g 5 (by decide +kernel) rfl, vv_g 75 (by decide +kernel) rfl, by decide +kernel, by decide +kernel, by decide +kernel⟩, vv_g 73 (by decide +kernel) rfl, vv_g 74 (by decide +kernel) rfl⟩
theorem lm_J7_fill_53178 : vv_LS yJ7_fill_53178 cJ7_fill_53178 4 none 2 := ⟨⟨vv_g 6 (by decide +kernel) rfl, vv_g 78 (by decide +kernel) rfl, by decide +kernel, by decide +kernel, by decide +kernel⟩, vv_g 77 (by decide +kernel) rfl⟩
theorem lm_X1_init : vv_LI yX1_init cX1_init 1 0 := ⟨⟨vv_g 7 (by decide +kernel) rfl, vv_g 96 (by decide +kernel) rfl, by decide +kernel, by decide +kernel, by decide +kernel⟩, vv_g 95 (by decide +kernel) rfl, rfl⟩
theorem lm_X0_init : vv_LI yX0_init cX0_init 1 0 := ⟨⟨vv_g 8 (by decide +kernel) rfl, vv_g 122 (by decide +kernel) rfl, by decide +kernel, by decide +kernel, by decide +kernel⟩, vv_g 121 (by decide +kernel) rfl, rfl⟩
theorem lm_X4_init : vv_LI yX4_init cX4_init 1 0 := ⟨⟨vv_g 9 (by decide +kernel) rfl, vv_g 134 (by decide +kernel) rfl, by decide +kernel, by decide +kernel, by decide +kernel⟩, vv_g 133 (by decide +kernel) rfl, rfl⟩
theorem lm_X8_init : vv_LI yX8_init cX8_init 1 0 := ⟨⟨vv_g 10 (by decide +kernel) rfl, vv_g 153 (by decide +kernel) rfl, by decide +kernel, by decide +kernel, by decide +kernel⟩, vv_g 152 (by decide +kernel) rfl, rfl⟩
theorem lm_X6_init : vv_LI yX6_init cX6_init 1 0 := ⟨⟨vv_g 11 (by decide +kernel) rfl, vv_g 176 (by decide +kernel) rfl, by decide +kernel, by decide +kernel, by decide +kernel⟩, vv_g 175 (by decide +kernel) rfl, rfl⟩
theorem lm_X9_prime : vv_LV yX9_prime cX9_prime 3 (some .int) 1 := ⟨⟨vv_g 1 (by decide +kernel) rfl, vv_g 235 (by decide +kernel) rfl, by decide +kernel, by decide +kernel, by decide +kernel⟩, vv_g 233 (by decide +kernel) rfl, vv_g 234 (by decide +kernel) rfl⟩
theorem lm_X9_isAllowedPrime : vv_LS yX9_isAllowedPrime cX9_isAllowedPrime 2 (some .boolean) 1 := ⟨⟨vv_g 1 (by decide +kernel) rfl, vv_g 238 (by decide +kernel) rfl, by decide +kernel, by decide +kernel, by decide +kernel⟩, vv_g 237 (by decide +kernel) rfl⟩
theorem lm_X7_becomeZero : vv_LV yX7_becomeZero cX7_becomeZero 1 none 0 := ⟨⟨vv_g 4 (by decide +kernel) rfl, vv_g 242 (by decide +kernel) rfl, by decide +kernel, by decide +kernel, by decide +kernel⟩, vv_g 240 (by decide +kernel) rfl, vv_g 241 (by decide +kernel) rfl⟩
theorem lm_X9_sheet : vv_LV yX9_sheet cX9_sheet 5 (some .int) 3 := ⟨⟨vv_g 1 (by decide +kernel) rfl, vv_g 246 (by decide +kernel) rfl, by decide +kernel, by decide +kernel, by decide +kernel⟩, vv_g 244 (by decide +kernel) rfl, vv_g 245 (by decide +kernel) rfl⟩
theorem lm_X9_sheetNumbered : vv_LV yX9_sheetNumbered cX9_sheetNumbered 2 (some (.object "SharesOfSeries$Sheet")) 1 := ⟨⟨vv_g 1 (by decide +kernel) rfl, vv_g 250 (by decide +kernel) rfl, by decide +kernel, by decide +kernel, by decide +kernel⟩, vv_g 249 (by decide +kernel) rfl, vv_gs 0 (by decide +kernel) rfl⟩
theorem lm_X9_isLane : vv_LS yX9_isLane cX9_isLane 1 (some .boolean) 1 := ⟨⟨vv_g 1 (by decide +kernel) rfl, vv_g 253 (by decide +kernel) rfl, by decide +kernel, by decide +kernel, by decide +kernel⟩, vv_g 252 (by decide +kernel) rfl⟩
theorem lm_X9_caused : vv_LV yX9_caused cX9_caused 2 (some .int) 1 := ⟨⟨vv_g 1 (by decide +kernel) rfl, vv_g 257 (by decide +kernel) rfl, by decide +kernel, by decide +kernel, by decide +kernel⟩, vv_g 256 (by decide +kernel) rfl, vv_gs 1 (by decide +kernel) rfl⟩
theorem lm_X8_renew : vv_LV yX8_renew cX8_renew 3 none 2 := ⟨⟨vv_g 10 (by decide +kernel) rfl, vv_g 261 (by decide +kernel) rfl, by decide +kernel, by decide +kernel, by decide +kernel⟩, vv_g 259 (by decide +kernel) rfl, vv_g 260 (by decide +kernel) rfl⟩
theorem lm_J7_fill_d0a16 : vv_LS yJ7_fill_d0a16 cJ7_fill_d0a16 5 none 2 := ⟨⟨vv_g 6 (by decide +kernel) rfl, vv_g 264 (by decide +kernel) rfl, by decide +kernel, by decide +kernel, by decide +kernel⟩, vv_g 263 (by decide +kernel) rfl⟩
theorem lm_X9_put : vv_LV yX9_put cX9_put 7 (some .int) 4 := ⟨⟨vv_g 1 (by decide +kernel) rfl, vv_g 268 (by decide +kernel) rfl, by decide +kernel, by decide +kernel, by decide +kernel⟩, vv_g 266 (by decide +kernel) rfl, vv_g 267 (by decide +kernel) rfl⟩
theorem lm_X8_hasPlaces : vv_LV yX8_hasPlaces cX8_hasPlaces 3 (some .boolean) 2 := ⟨⟨vv_g 10 (by decide +kernel) rfl, vv_g 272 (by decide +kernel) rfl, by decide +kernel, by decide +kernel, by decide +kernel⟩, vv_g 270 (by decide +kernel) rfl, vv_g 271 (by decide +kernel) rfl⟩
theorem lm_X8_write : vv_LV yX8_write cX8_write 4 none 2 := ⟨⟨vv_g 10 (by decide +kernel) rfl, vv_g 276 (by decide +kernel) rfl, by decide +kernel, by decide +kernel, by decide +kernel⟩, vv_g 274 (by decide +kernel) rfl, vv_g 275 (by decide +kernel) rfl⟩
theorem lm_X8_castToLane : vv_LV yX8_castToLane cX8_castToLane 3 (some .long) 1 := ⟨⟨vv_g 10 (by decide +kernel) rfl, vv_g 280 (by decide +kernel) rfl, by decide +kernel, by decide +kernel, by decide +kernel⟩, vv_g 279 (by decide +kernel) rfl, vv_gs 2 (by decide +kernel) rfl⟩
theorem lm_X9_copy : vv_LV yX9_copy cX9_copy 8 (some .int) 5 := ⟨⟨vv_g 1 (by decide +kernel) rfl, vv_g 284 (by decide +kernel) rfl, by decide +kernel, by decide +kernel, by decide +kernel⟩, vv_g 282 (by decide +kernel) rfl, vv_g 283 (by decide +kernel) rfl⟩
theorem lm_X9_lose : vv_LV yX9_lose cX9_lose 3 (some .int) 1 := ⟨⟨vv_g 1 (by decide +kernel) rfl, vv_g 291 (by decide +kernel) rfl, by decide +kernel, by decide +kernel, by decide +kernel⟩, vv_g 289 (by decide +kernel) rfl, vv_g 290 (by decide +kernel) rfl⟩
theorem lm_X9_series : vv_LV yX9_series cX9_series 6 (some .int) 3 := ⟨⟨vv_g 1 (by decide +kernel) rfl, vv_g 295 (by decide +kernel) rfl, by decide +kernel, by decide +kernel, by decide +kernel⟩, vv_g 293 (by decide +kernel) rfl, vv_g 294 (by decide +kernel) rfl⟩
theorem lm_X9_isLength : vv_LS yX9_isLength cX9_isLength 1 (some .boolean) 1 := ⟨⟨vv_g 1 (by decide +kernel) rfl, vv_g 298 (by decide +kernel) rfl, by decide +kernel, by decide +kernel, by decide +kernel⟩, vv_g 297 (by decide +kernel) rfl⟩
theorem lm_X9_freshSeries : vv_LV yX9_freshSeries cX9_freshSeries 3 (some (.object "SharesOfSeries$Series")) 1 := ⟨⟨vv_g 1 (by decide +kernel) rfl, vv_g 302 (by decide +kernel) rfl, by decide +kernel, by decide +kernel, by decide +kernel⟩, vv_g 301 (by decide +kernel) rfl, vv_gs 3 (by decide +kernel) rfl⟩
theorem lm_X9_readTerms : vv_LV yX9_readTerms cX9_readTerms 6 none 4 := ⟨⟨vv_g 1 (by decide +kernel) rfl, vv_g 307 (by decide +kernel) rfl, by decide +kernel, by decide +kernel, by decide +kernel⟩, vv_g 306 (by decide +kernel) rfl, vv_gs 4 (by decide +kernel) rfl⟩
theorem lm_X8_read : vv_LV yX8_read cX8_read 2 (some .long) 1 := ⟨⟨vv_g 10 (by decide +kernel) rfl, vv_g 311 (by decide +kernel) rfl, by decide +kernel, by decide +kernel, by decide +kernel⟩, vv_g 309 (by decide +kernel) rfl, vv_g 310 (by decide +kernel) rfl⟩
theorem lm_X5_of : vv_LV yX5_of cX5_of 5 (some .int) 1 := ⟨⟨vv_g 2 (by decide +kernel) rfl, vv_g 315 (by decide +kernel) rfl, by decide +kernel, by decide +kernel, by decide +kernel⟩, vv_g 313 (by decide +kernel) rfl, vv_g 314 (by decide +kernel) rfl⟩
theorem lm_X3_set : vv_LV yX3_set cX3_set 3 none 2 := ⟨⟨vv_g 5 (by decide +kernel) rfl, vv_g 319 (by decide +kernel) rfl, by decide +kernel, by decide +kernel, by decide +kernel⟩, vv_g 317 (by decide +kernel) rfl, vv_g 318 (by decide +kernel) rfl⟩
theorem lm_X9_keepFresh : vv_LV yX9_keepFresh cX9_keepFresh 1 (some .int) 0 := ⟨⟨vv_g 1 (by decide +kernel) rfl, vv_g 323 (by decide +kernel) rfl, by decide +kernel, by decide +kernel, by decide +kernel⟩, vv_g 322 (by decide +kernel) rfl, vv_gs 5 (by decide +kernel) rfl⟩
theorem lm_X9_share : vv_LV yX9_share cX9_share 7 (some .int) 5 := ⟨⟨vv_g 1 (by decide +kernel) rfl, vv_g 327 (by decide +kernel) rfl, by decide +kernel, by decide +kernel, by decide +kernel⟩, vv_g 325 (by decide +kernel) rfl, vv_g 326 (by decide +kernel) rfl⟩
theorem lm_X9_keepUnfolded : vv_LV yX9_keepUnfolded cX9_keepUnfolded 4 (some .int) 2 := ⟨⟨vv_g 1 (by decide +kernel) rfl, vv_g 331 (by decide +kernel) rfl, by decide +kernel, by decide +kernel, by decide +kernel⟩, vv_g 330 (by decide +kernel) rfl, vv_gs 6 (by decide +kernel) rfl⟩
theorem lm_X3_at : vv_LV yX3_at cX3_at 2 (some .int) 1 := ⟨⟨vv_g 5 (by decide +kernel) rfl, vv_g 335 (by decide +kernel) rfl, by decide +kernel, by decide +kernel, by decide +kernel⟩, vv_g 333 (by decide +kernel) rfl, vv_g 334 (by decide +kernel) rfl⟩
theorem lm_X7_unfoldInto : vv_LV yX7_unfoldInto cX7_unfoldInto 9 none 3 := ⟨⟨vv_g 4 (by decide +kernel) rfl, vv_g 339 (by decide +kernel) rfl, by decide +kernel, by decide +kernel, by decide +kernel⟩, vv_g 337 (by decide +kernel) rfl, vv_g 338 (by decide +kernel) rfl⟩
theorem lm_X5_inverse : vv_LV yX5_inverse cX5_inverse 6 (some .int) 1 := ⟨⟨vv_g 2 (by decide +kernel) rfl, vv_g 344 (by decide +kernel) rfl, by decide +kernel, by decide +kernel, by decide +kernel⟩, vv_g 342 (by decide +kernel) rfl, vv_g 343 (by decide +kernel) rfl⟩
theorem lm_X5_product : vv_LV yX5_product cX5_product 3 (some .int) 2 := ⟨⟨vv_g 2 (by decide +kernel) rfl, vv_g 350 (by decide +kernel) rfl, by decide +kernel, by decide +kernel, by decide +kernel⟩, vv_g 348 (by decide +kernel) rfl, vv_g 349 (by decide +kernel) rfl⟩
theorem lm_X9_unfold : vv_LV yX9_unfold cX9_unfold 2 (some .int) 1 := ⟨⟨vv_g 1 (by decide +kernel) rfl, vv_g 355 (by decide +kernel) rfl, by decide +kernel, by decide +kernel, by decide +kernel⟩, vv_g 353 (by decide +kernel) rfl, vv_g 354 (by decide +kernel) rfl⟩
theorem lm_X9_plus : vv_LV yX9_plus cX9_plus 11 (some .int) 3 := ⟨⟨vv_g 1 (by decide +kernel) rfl, vv_g 359 (by decide +kernel) rfl, by decide +kernel, by decide +kernel, by decide +kernel⟩, vv_g 357 (by decide +kernel) rfl, vv_g 358 (by decide +kernel) rfl⟩
theorem lm_X9_seriesNumbered : vv_LV yX9_seriesNumbered cX9_seriesNumbered 2 (some (.object "SharesOfSeries$Series")) 1 := ⟨⟨vv_g 1 (by decide +kernel) rfl, vv_g 363 (by decide +kernel) rfl, by decide +kernel, by decide +kernel, by decide +kernel⟩, vv_g 362 (by decide +kernel) rfl, vv_gs 7 (by decide +kernel) rfl⟩
theorem lm_J9_min_7cf53 : vv_LS yJ9_min_7cf53 cJ9_min_7cf53 2 (some .int) 2 := ⟨⟨vv_g 14 (by decide +kernel) rfl, vv_g 366 (by decide +kernel) rfl, by decide +kernel, by decide +kernel, by decide +kernel⟩, vv_g 365 (by decide +kernel) rfl⟩
theorem lm_X9_times : vv_LV yX9_times cX9_times 10 (some .int) 2 := ⟨⟨vv_g 1 (by decide +kernel) rfl, vv_g 370 (by decide +kernel) rfl, by decide +kernel, by decide +kernel, by decide +kernel⟩, vv_g 368 (by decide +kernel) rfl, vv_g 369 (by decide +kernel) rfl⟩
theorem lm_X9_under : vv_LV yX9_under cX9_under 3 (some .int) 1 := ⟨⟨vv_g 1 (by decide +kernel) rfl, vv_g 374 (by decide +kernel) rfl, by decide +kernel, by decide +kernel, by decide +kernel⟩, vv_g 372 (by decide +kernel) rfl, vv_g 373 (by decide +kernel) rfl⟩
theorem lm_X3_become : vv_LV yX3_become cX3_become 2 none 1 := ⟨⟨vv_g 5 (by decide +kernel) rfl, vv_g 378 (by decide +kernel) rfl, by decide +kernel, by decide +kernel, by decide +kernel⟩, vv_g 376 (by decide +kernel) rfl, vv_g 377 (by decide +kernel) rfl⟩
theorem lm_X9_moved : vv_LV yX9_moved cX9_moved 9 (some .int) 3 := ⟨⟨vv_g 1 (by decide +kernel) rfl, vv_g 383 (by decide +kernel) rfl, by decide +kernel, by decide +kernel, by decide +kernel⟩, vv_g 381 (by decide +kernel) rfl, vv_g 382 (by decide +kernel) rfl⟩
theorem lm_X9_number : vv_LV yX9_number cX9_number 4 (some .int) 2 := ⟨⟨vv_g 1 (by decide +kernel) rfl, vv_g 388 (by decide +kernel) rfl, by decide +kernel, by decide +kernel, by decide +kernel⟩, vv_g 386 (by decide +kernel) rfl, vv_g 387 (by decide +kernel) rfl⟩
theorem lm_X9_length : vv_LV yX9_length cX9_length 3 (some .int) 1 := ⟨⟨vv_g 1 (by decide +kernel) rfl, vv_g 392 (by decide +kernel) rfl, by decide +kernel, by decide +kernel, by decide +kernel⟩, vv_g 390 (by decide +kernel) rfl, vv_g 391 (by decide +kernel) rfl⟩
theorem lm_X9_clear : vv_LV yX9_clear cX9_clear 2 (some .int) 0 := ⟨⟨vv_g 1 (by decide +kernel) rfl, vv_g 396 (by decide +kernel) rfl, by decide +kernel, by decide +kernel, by decide +kernel⟩, vv_g 394 (by decide +kernel) rfl, vv_g 395 (by decide +kernel) rfl⟩
theorem lm_X9_entry : vv_LV yX9_entry cX9_entry 5 (some .int) 3 := ⟨⟨vv_g 1 (by decide +kernel) rfl, vv_g 400 (by decide +kernel) rfl, by decide +kernel, by decide +kernel, by decide +kernel⟩, vv_g 398 (by decide +kernel) rfl, vv_g 399 (by decide +kernel) rfl⟩
theorem lm_X9_isPairOf : vv_LS yX9_isPairOf cX9_isPairOf 3 (some .boolean) 3 := ⟨⟨vv_g 1 (by decide +kernel) rfl, vv_g 403 (by decide +kernel) rfl, by decide +kernel, by decide +kernel, by decide +kernel⟩, vv_g 402 (by decide +kernel) rfl⟩
theorem lm_X9_findEntry : vv_LV yX9_findEntry cX9_findEntry 6 none 4 := ⟨⟨vv_g 1 (by decide +kernel) rfl, vv_g 407 (by decide +kernel) rfl, by decide +kernel, by decide +kernel, by decide +kernel⟩, vv_g 406 (by decide +kernel) rfl, vv_gs 8 (by decide +kernel) rfl⟩
theorem lm_X1_findShare : vv_LV yX1_findShare cX1_findShare 11 none 3 := ⟨⟨vv_g 7 (by decide +kernel) rfl, vv_g 411 (by decide +kernel) rfl, by decide +kernel, by decide +kernel, by decide +kernel⟩, vv_g 409 (by decide +kernel) rfl, vv_g 410 (by decide +kernel) rfl⟩
theorem lm_X3_top : vv_LV yX3_top cX3_top 2 (some .int) 0 := ⟨⟨vv_g 5 (by decide +kernel) rfl, vv_g 416 (by decide +kernel) rfl, by decide +kernel, by decide +kernel, by decide +kernel⟩, vv_g 414 (by decide +kernel) rfl, vv_g 415 (by decide +kernel) rfl⟩
theorem lm_X3_divide : vv_LV yX3_divide cX3_divide 8 none 3 := ⟨⟨vv_g 5 (by decide +kernel) rfl, vv_g 420 (by decide +kernel) rfl, by decide +kernel, by decide +kernel, by decide +kernel⟩, vv_g 418 (by decide +kernel) rfl, vv_g 419 (by decide +kernel) rfl⟩
theorem lm_X5_negative : vv_LV yX5_negative cX5_negative 2 (some .int) 1 := ⟨⟨vv_g 2 (by decide +kernel) rfl, vv_g 430 (by decide +kernel) rfl, by decide +kernel, by decide +kernel, by decide +kernel⟩, vv_g 428 (by decide +kernel) rfl, vv_g 429 (by decide +kernel) rfl⟩
theorem lm_X3_addMultiple : vv_LV yX3_addMultiple cX3_addMultiple 6 none 4 := ⟨⟨vv_g 5 (by decide +kernel) rfl, vv_g 434 (by decide +kernel) rfl, by decide +kernel, by decide +kernel, by decide +kernel⟩, vv_g 432 (by decide +kernel) rfl, vv_g 433 (by decide +kernel) rfl⟩
theorem lm_X3_subtractProduct : vv_LV yX3_subtractProduct cX3_subtractProduct 6 none 3 := ⟨⟨vv_g 5 (by decide +kernel) rfl, vv_g 439 (by decide +kernel) rfl, by decide +kernel, by decide +kernel, by decide +kernel⟩, vv_g 437 (by decide +kernel) rfl, vv_g 438 (by decide +kernel) rfl⟩
theorem lm_X1_dropCommonFactors : vv_LV yX1_dropCommonFactors cX1_dropCommonFactors 7 none 2 := ⟨⟨vv_g 7 (by decide +kernel) rfl, vv_g 444 (by decide +kernel) rfl, by decide +kernel, by decide +kernel, by decide +kernel⟩, vv_g 443 (by decide +kernel) rfl, vv_gs 9 (by decide +kernel) rfl⟩
theorem lm_X3_lowestTerm : vv_LV yX3_lowestTerm cX3_lowestTerm 2 (some .int) 0 := ⟨⟨vv_g 5 (by decide +kernel) rfl, vv_g 448 (by decide +kernel) rfl, by decide +kernel, by decide +kernel, by decide +kernel⟩, vv_g 446 (by decide +kernel) rfl, vv_g 447 (by decide +kernel) rfl⟩
theorem lm_X3_scale : vv_LV yX3_scale cX3_scale 4 none 2 := ⟨⟨vv_g 5 (by decide +kernel) rfl, vv_g 453 (by decide +kernel) rfl, by decide +kernel, by decide +kernel, by decide +kernel⟩, vv_g 451 (by decide +kernel) rfl, vv_g 452 (by decide +kernel) rfl⟩
theorem lm_X9_agreement : vv_LV yX9_agreement cX9_agreement 4 (some .int) 2 := ⟨⟨vv_g 1 (by decide +kernel) rfl, vv_g 457 (by decide +kernel) rfl, by decide +kernel, by decide +kernel, by decide +kernel⟩, vv_g 456 (by decide +kernel) rfl, vv_gs 10 (by decide +kernel) rfl⟩
theorem lm_X9_worth : vv_LV yX9_worth cX9_worth 5 (some .int) 3 := ⟨⟨vv_g 1 (by decide +kernel) rfl, vv_g 461 (by decide +kernel) rfl, by decide +kernel, by decide +kernel, by decide +kernel⟩, vv_g 459 (by decide +kernel) rfl, vv_g 460 (by decide +kernel) rfl⟩
theorem lm_X0_fill : vv_LV yX0_fill cX0_fill 6 none 3 := ⟨⟨vv_g 8 (by decide +kernel) rfl, vv_g 465 (by decide +kernel) rfl, by decide +kernel, by decide +kernel, by decide +kernel⟩, vv_g 463 (by decide +kernel) rfl, vv_g 464 (by decide +kernel) rfl⟩
theorem lm_X0_compute : vv_LV yX0_compute cX0_compute 6 (some .int) 2 := ⟨⟨vv_g 8 (by decide +kernel) rfl, vv_g 470 (by decide +kernel) rfl, by decide +kernel, by decide +kernel, by decide +kernel⟩, vv_g 468 (by decide +kernel) rfl, vv_g 469 (by decide +kernel) rfl⟩
theorem lm_X0_pivotRow : vv_LV yX0_pivotRow cX0_pivotRow 4 (some .int) 2 := ⟨⟨vv_g 8 (by decide +kernel) rfl, vv_g 474 (by decide +kernel) rfl, by decide +kernel, by decide +kernel, by decide +kernel⟩, vv_g 473 (by decide +kernel) rfl, vv_gs 11 (by decide +kernel) rfl⟩
theorem lm_X0_swapRows : vv_LV yX0_swapRows cX0_swapRows 4 none 2 := ⟨⟨vv_g 8 (by decide +kernel) rfl, vv_g 478 (by decide +kernel) rfl, by decide +kernel, by decide +kernel, by decide +kernel⟩, vv_g 477 (by decide +kernel) rfl, vv_gs 12 (by decide +kernel) rfl⟩
theorem lm_X0_clearBelow : vv_LV yX0_clearBelow cX0_clearBelow 8 none 3 := ⟨⟨vv_g 8 (by decide +kernel) rfl, vv_g 484 (by decide +kernel) rfl, by decide +kernel, by decide +kernel, by decide +kernel⟩, vv_g 483 (by decide +kernel) rfl, vv_gs 13 (by decide +kernel) rfl⟩
theorem lm_X9_block : vv_LV yX9_block cX9_block 9 (some .int) 4 := ⟨⟨vv_g 1 (by decide +kernel) rfl, vv_g 490 (by decide +kernel) rfl, by decide +kernel, by decide +kernel, by decide +kernel⟩, vv_g 488 (by decide +kernel) rfl, vv_g 489 (by decide +kernel) rfl⟩
theorem lm_X9_stair : vv_LV yX9_stair cX9_stair 6 (some .int) 2 := ⟨⟨vv_g 1 (by decide +kernel) rfl, vv_g 495 (by decide +kernel) rfl, by decide +kernel, by decide +kernel, by decide +kernel⟩, vv_g 493 (by decide +kernel) rfl, vv_g 494 (by decide +kernel) rfl⟩
theorem lm_X3_dropLowest : vv_LV yX3_dropLowest cX3_dropLowest 1 none 0 := ⟨⟨vv_g 5 (by decide +kernel) rfl, vv_g 499 (by decide +kernel) rfl, by decide +kernel, by decide +kernel, by decide +kernel⟩, vv_g 497 (by decide +kernel) rfl, vv_g 498 (by decide +kernel) rfl⟩
theorem lm_X9_stepDown : vv_LV yX9_stepDown cX9_stepDown 3 none 2 := ⟨⟨vv_g 1 (by decide +kernel) rfl, vv_g 503 (by decide +kernel) rfl, by decide +kernel, by decide +kernel, by decide +kernel⟩, vv_g 502 (by decide +kernel) rfl, vv_gs 14 (by decide +kernel) rfl⟩
theorem lm_X9_recur : vv_LV yX9_recur cX9_recur 4 (some .int) 1 := ⟨⟨vv_g 1 (by decide +kernel) rfl, vv_g 507 (by decide +kernel) rfl, by decide +kernel, by decide +kernel, by decide +kernel⟩, vv_g 505 (by decide +kernel) rfl, vv_g 506 (by decide +kernel) rfl⟩
theorem lm_X4_least : vv_LV yX4_least cX4_least 13 (some .int) 2 := ⟨⟨vv_g 9 (by decide +kernel) rfl, vv_g 511 (by decide +kernel) rfl, by decide +kernel, by decide +kernel, by decide +kernel⟩, vv_g 509 (by decide +kernel) rfl, vv_g 510 (by decide +kernel) rfl⟩
theorem lm_X4_faultAt : vv_LV yX4_faultAt cX4_faultAt 9 (some .int) 5 := ⟨⟨vv_g 9 (by decide +kernel) rfl, vv_g 516 (by decide +kernel) rfl, by decide +kernel, by decide +kernel, by decide +kernel⟩, vv_g 515 (by decide +kernel) rfl, vv_gs 15 (by decide +kernel) rfl⟩
theorem lm_X9_point : vv_LV yX9_point cX9_point 6 (some .int) 2 := ⟨⟨vv_g 1 (by decide +kernel) rfl, vv_g 527 (by decide +kernel) rfl, by decide +kernel, by decide +kernel, by decide +kernel⟩, vv_g 525 (by decide +kernel) rfl, vv_g 526 (by decide +kernel) rfl⟩
theorem lm_X2_indexOf : vv_LV yX2_indexOf cX2_indexOf 3 (some .int) 1 := ⟨⟨vv_g 3 (by decide +kernel) rfl, vv_g 531 (by decide +kernel) rfl, by decide +kernel, by decide +kernel, by decide +kernel⟩, vv_g 529 (by decide +kernel) rfl, vv_g 530 (by decide +kernel) rfl⟩
theorem lm_X2_heightAt : vv_LV yX2_heightAt cX2_heightAt 2 (some .int) 1 := ⟨⟨vv_g 3 (by decide +kernel) rfl, vv_g 535 (by decide +kernel) rfl, by decide +kernel, by decide +kernel, by decide +kernel⟩, vv_g 533 (by decide +kernel) rfl, vv_g 534 (by decide +kernel) rfl⟩
theorem lm_X2_add : vv_LV yX2_add cX2_add 3 none 2 := ⟨⟨vv_g 3 (by decide +kernel) rfl, vv_g 539 (by decide +kernel) rfl, by decide +kernel, by decide +kernel, by decide +kernel⟩, vv_g 537 (by decide +kernel) rfl, vv_g 538 (by decide +kernel) rfl⟩
theorem lm_X9_wipe : vv_LV yX9_wipe cX9_wipe 2 (some .int) 0 := ⟨⟨vv_g 1 (by decide +kernel) rfl, vv_g 543 (by decide +kernel) rfl, by decide +kernel, by decide +kernel, by decide +kernel⟩, vv_g 541 (by decide +kernel) rfl, vv_g 542 (by decide +kernel) rfl⟩
theorem lm_X9_join : vv_LV yX9_join cX9_join 3 (some .int) 2 := ⟨⟨vv_g 1 (by decide +kernel) rfl, vv_g 547 (by decide +kernel) rfl, by decide +kernel, by decide +kernel, by decide +kernel⟩, vv_g 545 (by decide +kernel) rfl, vv_g 546 (by decide +kernel) rfl⟩
theorem lm_X2_interpolate : vv_LV yX2_interpolate cX2_interpolate 7 none 3 := ⟨⟨vv_g 3 (by decide +kernel) rfl, vv_g 551 (by decide +kernel) rfl, by decide +kernel, by decide +kernel, by decide +kernel⟩, vv_g 549 (by decide +kernel) rfl, vv_g 550 (by decide +kernel) rfl⟩
theorem lm_X3_valueAt : vv_LV yX3_valueAt cX3_valueAt 5 (some .int) 2 := ⟨⟨vv_g 5 (by decide +kernel) rfl, vv_g 556 (by decide +kernel) rfl, by decide +kernel, by decide +kernel, by decide +kernel⟩, vv_g 554 (by decide +kernel) rfl, vv_g 555 (by decide +kernel) rfl⟩
theorem lm_X3_addRoot : vv_LV yX3_addRoot cX3_addRoot 4 none 2 := ⟨⟨vv_g 5 (by decide +kernel) rfl, vv_g 564 (by decide +kernel) rfl, by decide +kernel, by decide +kernel, by decide +kernel⟩, vv_g 562 (by decide +kernel) rfl, vv_g 563 (by decide +kernel) rfl⟩
theorem lm_X2_allOn : vv_LV yX2_allOn cX2_allOn 6 (some .boolean) 2 := ⟨⟨vv_g 3 (by decide +kernel) rfl, vv_g 568 (by decide +kernel) rfl, by decide +kernel, by decide +kernel, by decide +kernel⟩, vv_g 566 (by decide +kernel) rfl, vv_g 567 (by decide +kernel) rfl⟩
theorem lm_X7_become : vv_LV yX7_become cX7_become 2 none 1 := ⟨⟨vv_g 4 (by decide +kernel) rfl, vv_g 572 (by decide +kernel) rfl, by decide +kernel, by decide +kernel, by decide +kernel⟩, vv_g 570 (by decide +kernel) rfl, vv_g 571 (by decide +kernel) rfl⟩
theorem lm_X9_degree : vv_LV yX9_degree cX9_degree 3 (some .int) 1 := ⟨⟨vv_g 1 (by decide +kernel) rfl, vv_g 577 (by decide +kernel) rfl, by decide +kernel, by decide +kernel, by decide +kernel⟩, vv_g 575 (by decide +kernel) rfl, vv_g 576 (by decide +kernel) rfl⟩
theorem lm_X7_side : vv_LV yX7_side cX7_side 2 (some (.object "SharesOfSeries$Polynomial")) 1 := ⟨⟨vv_g 4 (by decide +kernel) rfl, vv_g 581 (by decide +kernel) rfl, by decide +kernel, by decide +kernel, by decide +kernel⟩, vv_g 579 (by decide +kernel) rfl, vv_g 580 (by decide +kernel) rfl⟩
theorem lm_X9_term : vv_LV yX9_term cX9_term 4 (some .int) 2 := ⟨⟨vv_g 1 (by decide +kernel) rfl, vv_g 585 (by decide +kernel) rfl, by decide +kernel, by decide +kernel, by decide +kernel⟩, vv_g 583 (by decide +kernel) rfl, vv_g 584 (by decide +kernel) rfl⟩
theorem lm_X9_value : vv_LV yX9_value cX9_value 4 (some .int) 1 := ⟨⟨vv_g 1 (by decide +kernel) rfl, vv_g 589 (by decide +kernel) rfl, by decide +kernel, by decide +kernel, by decide +kernel⟩, vv_g 587 (by decide +kernel) rfl, vv_g 588 (by decide +kernel) rfl⟩
theorem lm_X9_cause : vv_LV yX9_cause cX9_cause 1 (some .int) 0 := ⟨⟨vv_g 1 (by decide +kernel) rfl, vv_g 595 (by decide +kernel) rfl, by decide +kernel, by decide +kernel, by decide +kernel⟩, vv_g 593 (by decide +kernel) rfl, vv_g 594 (by decide +kernel) rfl⟩
theorem lm_X9_causes : vv_LV yX9_causes cX9_causes 2 (some .int) 1 := ⟨⟨vv_g 1 (by decide +kernel) rfl, vv_g 599 (by decide +kernel) rfl, by decide +kernel, by decide +kernel, by decide +kernel⟩, vv_g 597 (by decide +kernel) rfl, vv_g 598 (by decide +kernel) rfl⟩
theorem lm_X9_count : vv_LV yX9_count cX9_count 2 (some .int) 1 := ⟨⟨vv_g 1 (by decide +kernel) rfl, vv_g 603 (by decide +kernel) rfl, by decide +kernel, by decide +kernel, by decide +kernel⟩, vv_g 601 (by decide +kernel) rfl, vv_g 602 (by decide +kernel) rfl⟩
theorem lm_X9_presentSheets : vv_LV yX9_presentSheets cX9_presentSheets 3 (some .int) 0 := ⟨⟨vv_g 1 (by decide +kernel) rfl, vv_g 607 (by decide +kernel) rfl, by decide +kernel, by decide +kernel, by decide +kernel⟩, vv_g 606 (by decide +kernel) rfl, vv_gs 16 (by decide +kernel) rfl⟩
theorem lm_X9_digest : vv_LV yX9_digest cX9_digest 5 (some .long) 0 := ⟨⟨vv_g 1 (by decide +kernel) rfl, vv_g 611 (by decide +kernel) rfl, by decide +kernel, by decide +kernel, by decide +kernel⟩, vv_g 609 (by decide +kernel) rfl, vv_g 610 (by decide +kernel) rfl⟩
theorem lm_X9_mixed : vv_LS yX9_mixed cX9_mixed 4 (some .long) 2 := ⟨⟨vv_g 1 (by decide +kernel) rfl, vv_g 615 (by decide +kernel) rfl, by decide +kernel, by decide +kernel, by decide +kernel⟩, vv_g 614 (by decide +kernel) rfl⟩
theorem lm_X8_mixedInto : vv_LV yX8_mixedInto cX8_mixedInto 6 (some .long) 1 := ⟨⟨vv_g 10 (by decide +kernel) rfl, vv_g 620 (by decide +kernel) rfl, by decide +kernel, by decide +kernel, by decide +kernel⟩, vv_g 618 (by decide +kernel) rfl, vv_g 619 (by decide +kernel) rfl⟩
theorem lm_X3_mixedInto : vv_LV yX3_mixedInto cX3_mixedInto 7 (some .long) 2 := ⟨⟨vv_g 5 (by decide +kernel) rfl, vv_g 626 (by decide +kernel) rfl, by decide +kernel, by decide +kernel, by decide +kernel⟩, vv_g 624 (by decide +kernel) rfl, vv_g 625 (by decide +kernel) rfl⟩
theorem lm_X2_mixedInto : vv_LV yX2_mixedInto cX2_mixedInto 6 (some .long) 1 := ⟨⟨vv_g 3 (by decide +kernel) rfl, vv_g 631 (by decide +kernel) rfl, by decide +kernel, by decide +kernel, by decide +kernel⟩, vv_g 629 (by decide +kernel) rfl, vv_g 630 (by decide +kernel) rfl⟩
theorem lm_X10_init : vv_LI yX10_init cX10_init 2 0 := ⟨⟨vv_g 12 (by decide +kernel) rfl, vv_g 637 (by decide +kernel) rfl, by decide +kernel, by decide +kernel, by decide +kernel⟩, vv_g 636 (by decide +kernel) rfl, rfl⟩
theorem lm_X10_prime : vv_LV yX10_prime cX10_prime 3 (some .int) 1 := ⟨⟨vv_g 12 (by decide +kernel) rfl, vv_g 736 (by decide +kernel) rfl, by decide +kernel, by decide +kernel, by decide +kernel⟩, vv_g 734 (by decide +kernel) rfl, vv_g 735 (by decide +kernel) rfl⟩
theorem lm_X10_in : vv_LS yX10_in cX10_in 6 (some .boolean) 3 := ⟨⟨vv_g 12 (by decide +kernel) rfl, vv_g 741 (by decide +kernel) rfl, by decide +kernel, by decide +kernel, by decide +kernel⟩, vv_g 740 (by decide +kernel) rfl⟩
theorem lm_X10_isPrime : vv_LS yX10_isPrime cX10_isPrime 3 (some .boolean) 1 := ⟨⟨vv_g 12 (by decide +kernel) rfl, vv_g 744 (by decide +kernel) rfl, by decide +kernel, by decide +kernel, by decide +kernel⟩, vv_g 743 (by decide +kernel) rfl⟩
theorem lm_X10_clearResult : vv_LV yX10_clearResult cX10_clearResult 2 none 0 := ⟨⟨vv_g 12 (by decide +kernel) rfl, vv_g 748 (by decide +kernel) rfl, by decide +kernel, by decide +kernel, by decide +kernel⟩, vv_g 747 (by decide +kernel) rfl, vv_gs 17 (by decide +kernel) rfl⟩
theorem lm_X10_sheet : vv_LV yX10_sheet cX10_sheet 5 (some .int) 3 := ⟨⟨vv_g 12 (by decide +kernel) rfl, vv_g 752 (by decide +kernel) rfl, by decide +kernel, by decide +kernel, by decide +kernel⟩, vv_g 750 (by decide +kernel) rfl, vv_g 751 (by decide +kernel) rfl⟩
theorem lm_X10_isSheet : vv_LS yX10_isSheet cX10_isSheet 1 (some .boolean) 1 := ⟨⟨vv_g 12 (by decide +kernel) rfl, vv_g 755 (by decide +kernel) rfl, by decide +kernel, by decide +kernel, by decide +kernel⟩, vv_g 754 (by decide +kernel) rfl⟩
theorem lm_X10_meets : vv_LV yX10_meets cX10_meets 2 (some .int) 1 := ⟨⟨vv_g 12 (by decide +kernel) rfl, vv_g 760 (by decide +kernel) rfl, by decide +kernel, by decide +kernel, by decide +kernel⟩, vv_g 759 (by decide +kernel) rfl, vv_gs 18 (by decide +kernel) rfl⟩
theorem lm_X10_put : vv_LV yX10_put cX10_put 6 (some .int) 4 := ⟨⟨vv_g 12 (by decide +kernel) rfl, vv_g 764 (by decide +kernel) rfl, by decide +kernel, by decide +kernel, by decide +kernel⟩, vv_g 762 (by decide +kernel) rfl, vv_g 763 (by decide +kernel) rfl⟩
theorem lm_X10_copy : vv_LV yX10_copy cX10_copy 7 (some .int) 5 := ⟨⟨vv_g 12 (by decide +kernel) rfl, vv_g 768 (by decide +kernel) rfl, by decide +kernel, by decide +kernel, by decide +kernel⟩, vv_g 766 (by decide +kernel) rfl, vv_g 767 (by decide +kernel) rfl⟩
theorem lm_X10_lose : vv_LV yX10_lose cX10_lose 2 (some .int) 1 := ⟨⟨vv_g 12 (by decide +kernel) rfl, vv_g 772 (by decide +kernel) rfl, by decide +kernel, by decide +kernel, by decide +kernel⟩, vv_g 770 (by decide +kernel) rfl, vv_g 771 (by decide +kernel) rfl⟩
theorem lm_X10_series : vv_LV yX10_series cX10_series 5 (some .int) 3 := ⟨⟨vv_g 12 (by decide +kernel) rfl, vv_g 776 (by decide +kernel) rfl, by decide +kernel, by decide +kernel, by decide +kernel⟩, vv_g 774 (by decide +kernel) rfl, vv_g 775 (by decide +kernel) rfl⟩
theorem lm_X10_rest : vv_LV yX10_rest cX10_rest 5 (some .int) 1 := ⟨⟨vv_g 12 (by decide +kernel) rfl, vv_g 781 (by decide +kernel) rfl, by decide +kernel, by decide +kernel, by decide +kernel⟩, vv_g 780 (by decide +kernel) rfl, vv_gs 19 (by decide +kernel) rfl⟩
theorem lm_X10_comes : vv_LV yX10_comes cX10_comes 3 (some .int) 1 := ⟨⟨vv_g 12 (by decide +kernel) rfl, vv_g 785 (by decide +kernel) rfl, by decide +kernel, by decide +kernel, by decide +kernel⟩, vv_g 784 (by decide +kernel) rfl, vv_gs 20 (by decide +kernel) rfl⟩
theorem lm_X10_share : vv_LV yX10_share cX10_share 7 (some .int) 5 := ⟨⟨vv_g 12 (by decide +kernel) rfl, vv_g 789 (by decide +kernel) rfl, by decide +kernel, by decide +kernel, by decide +kernel⟩, vv_g 787 (by decide +kernel) rfl, vv_g 788 (by decide +kernel) rfl⟩
theorem lm_X10_clearWork : vv_LV yX10_clearWork cX10_clearWork 2 none 0 := ⟨⟨vv_g 12 (by decide +kernel) rfl, vv_g 793 (by decide +kernel) rfl, by decide +kernel, by decide +kernel, by decide +kernel⟩, vv_g 792 (by decide +kernel) rfl, vv_gs 21 (by decide +kernel) rfl⟩
theorem lm_X10_unfoldTo : vv_LV yX10_unfoldTo cX10_unfoldTo 8 none 2 := ⟨⟨vv_g 12 (by decide +kernel) rfl, vv_g 797 (by decide +kernel) rfl, by decide +kernel, by decide +kernel, by decide +kernel⟩, vv_g 796 (by decide +kernel) rfl, vv_gs 22 (by decide +kernel) rfl⟩
theorem lm_X10_inverse : vv_LV yX10_inverse cX10_inverse 5 (some .int) 1 := ⟨⟨vv_g 12 (by decide +kernel) rfl, vv_g 801 (by decide +kernel) rfl, by decide +kernel, by decide +kernel, by decide +kernel⟩, vv_g 800 (by decide +kernel) rfl, vv_gs 23 (by decide +kernel) rfl⟩
theorem lm_X10_product : vv_LV yX10_product cX10_product 3 (some .int) 2 := ⟨⟨vv_g 12 (by decide +kernel) rfl, vv_g 805 (by decide +kernel) rfl, by decide +kernel, by decide +kernel, by decide +kernel⟩, vv_g 804 (by decide +kernel) rfl, vv_gs 24 (by decide +kernel) rfl⟩
theorem lm_X10_unfold : vv_LV yX10_unfold cX10_unfold 2 (some .int) 1 := ⟨⟨vv_g 12 (by decide +kernel) rfl, vv_g 809 (by decide +kernel) rfl, by decide +kernel, by decide +kernel, by decide +kernel⟩, vv_g 807 (by decide +kernel) rfl, vv_g 808 (by decide +kernel) rfl⟩
theorem lm_X10_loadResult : vv_LV yX10_loadResult cX10_loadResult 2 none 0 := ⟨⟨vv_g 12 (by decide +kernel) rfl, vv_g 813 (by decide +kernel) rfl, by decide +kernel, by decide +kernel, by decide +kernel⟩, vv_g 812 (by decide +kernel) rfl, vv_gs 25 (by decide +kernel) rfl⟩
theorem lm_X10_plus : vv_LV yX10_plus cX10_plus 6 (some .int) 3 := ⟨⟨vv_g 12 (by decide +kernel) rfl, vv_g 817 (by decide +kernel) rfl, by decide +kernel, by decide +kernel, by decide +kernel⟩, vv_g 815 (by decide +kernel) rfl, vv_g 816 (by decide +kernel) rfl⟩
theorem lm_X10_isSeries : vv_LV yX10_isSeries cX10_isSeries 2 (some .boolean) 1 := ⟨⟨vv_g 12 (by decide +kernel) rfl, vv_g 821 (by decide +kernel) rfl, by decide +kernel, by decide +kernel, by decide +kernel⟩, vv_g 820 (by decide +kernel) rfl, vv_gs 26 (by decide +kernel) rfl⟩
theorem lm_X10_lesser : vv_LV yX10_lesser cX10_lesser 3 (some .int) 2 := ⟨⟨vv_g 12 (by decide +kernel) rfl, vv_g 825 (by decide +kernel) rfl, by decide +kernel, by decide +kernel, by decide +kernel⟩, vv_g 824 (by decide +kernel) rfl, vv_gs 27 (by decide +kernel) rfl⟩
theorem lm_X10_of : vv_LV yX10_of cX10_of 3 (some .int) 2 := ⟨⟨vv_g 12 (by decide +kernel) rfl, vv_g 829 (by decide +kernel) rfl, by decide +kernel, by decide +kernel, by decide +kernel⟩, vv_g 828 (by decide +kernel) rfl, vv_gs 28 (by decide +kernel) rfl⟩
theorem lm_X10_times : vv_LV yX10_times cX10_times 8 (some .int) 2 := ⟨⟨vv_g 12 (by decide +kernel) rfl, vv_g 833 (by decide +kernel) rfl, by decide +kernel, by decide +kernel, by decide +kernel⟩, vv_g 831 (by decide +kernel) rfl, vv_g 832 (by decide +kernel) rfl⟩
theorem lm_X10_under : vv_LV yX10_under cX10_under 4 (some .int) 1 := ⟨⟨vv_g 12 (by decide +kernel) rfl, vv_g 837 (by decide +kernel) rfl, by decide +kernel, by decide +kernel, by decide +kernel⟩, vv_g 835 (by decide +kernel) rfl, vv_g 836 (by decide +kernel) rfl⟩
theorem lm_X10_moved : vv_LV yX10_moved cX10_moved 6 (some .int) 3 := ⟨⟨vv_g 12 (by decide +kernel) rfl, vv_g 841 (by decide +kernel) rfl, by decide +kernel, by decide +kernel, by decide +kernel⟩, vv_g 839 (by decide +kernel) rfl, vv_g 840 (by decide +kernel) rfl⟩
theorem lm_X10_power : vv_LV yX10_power cX10_power 5 (some .int) 2 := ⟨⟨vv_g 12 (by decide +kernel) rfl, vv_g 845 (by decide +kernel) rfl, by decide +kernel, by decide +kernel, by decide +kernel⟩, vv_g 844 (by decide +kernel) rfl, vv_gs 29 (by decide +kernel) rfl⟩
theorem lm_X10_number : vv_LV yX10_number cX10_number 3 (some .int) 2 := ⟨⟨vv_g 12 (by decide +kernel) rfl, vv_g 849 (by decide +kernel) rfl, by decide +kernel, by decide +kernel, by decide +kernel⟩, vv_g 847 (by decide +kernel) rfl, vv_g 848 (by decide +kernel) rfl⟩
theorem lm_X10_length : vv_LV yX10_length cX10_length 2 (some .int) 1 := ⟨⟨vv_g 12 (by decide +kernel) rfl, vv_g 853 (by decide +kernel) rfl, by decide +kernel, by decide +kernel, by decide +kernel⟩, vv_g 851 (by decide +kernel) rfl, vv_g 852 (by decide +kernel) rfl⟩
theorem lm_X10_clear : vv_LV yX10_clear cX10_clear 2 (some .int) 0 := ⟨⟨vv_g 12 (by decide +kernel) rfl, vv_g 857 (by decide +kernel) rfl, by decide +kernel, by decide +kernel, by decide +kernel⟩, vv_g 855 (by decide +kernel) rfl, vv_g 856 (by decide +kernel) rfl⟩
theorem lm_X10_entry : vv_LV yX10_entry cX10_entry 4 (some .int) 3 := ⟨⟨vv_g 12 (by decide +kernel) rfl, vv_g 861 (by decide +kernel) rfl, by decide +kernel, by decide +kernel, by decide +kernel⟩, vv_g 859 (by decide +kernel) rfl, vv_g 860 (by decide +kernel) rfl⟩
theorem lm_X10_isPair : vv_LV yX10_isPair cX10_isPair 4 (some .boolean) 3 := ⟨⟨vv_g 12 (by decide +kernel) rfl, vv_g 865 (by decide +kernel) rfl, by decide +kernel, by decide +kernel, by decide +kernel⟩, vv_g 864 (by decide +kernel) rfl, vv_gs 30 (by decide +kernel) rfl⟩
theorem lm_X10_findEntry : vv_LV yX10_findEntry cX10_findEntry 8 none 3 := ⟨⟨vv_g 12 (by decide +kernel) rfl, vv_g 869 (by decide +kernel) rfl, by decide +kernel, by decide +kernel, by decide +kernel⟩, vv_g 868 (by decide +kernel) rfl, vv_gs 31 (by decide +kernel) rfl⟩
theorem lm_X10_solve : vv_LV yX10_solve cX10_solve 11 none 1 := ⟨⟨vv_g 12 (by decide +kernel) rfl, vv_g 873 (by decide +kernel) rfl, by decide +kernel, by decide +kernel, by decide +kernel⟩, vv_g 872 (by decide +kernel) rfl, vv_gs 32 (by decide +kernel) rfl⟩
theorem lm_X10_lighten : vv_LV yX10_lighten cX10_lighten 4 none 0 := ⟨⟨vv_g 12 (by decide +kernel) rfl, vv_g 877 (by decide +kernel) rfl, by decide +kernel, by decide +kernel, by decide +kernel⟩, vv_g 876 (by decide +kernel) rfl, vv_gs 33 (by decide +kernel) rfl⟩
theorem lm_X10_degreeOf : vv_LS yX10_degreeOf cX10_degreeOf 3 (some .int) 2 := ⟨⟨vv_g 12 (by decide +kernel) rfl, vv_g 880 (by decide +kernel) rfl, by decide +kernel, by decide +kernel, by decide +kernel⟩, vv_g 879 (by decide +kernel) rfl⟩
theorem lm_X10_reduce : vv_LV yX10_reduce cX10_reduce 8 none 3 := ⟨⟨vv_g 12 (by decide +kernel) rfl, vv_g 884 (by decide +kernel) rfl, by decide +kernel, by decide +kernel, by decide +kernel⟩, vv_g 883 (by decide +kernel) rfl, vv_gs 34 (by decide +kernel) rfl⟩
theorem lm_X10_divide : vv_LV yX10_divide cX10_divide 9 none 2 := ⟨⟨vv_g 12 (by decide +kernel) rfl, vv_g 888 (by decide +kernel) rfl, by decide +kernel, by decide +kernel, by decide +kernel⟩, vv_g 887 (by decide +kernel) rfl, vv_gs 35 (by decide +kernel) rfl⟩
theorem lm_X10_tell : vv_LV yX10_tell cX10_tell 4 none 0 := ⟨⟨vv_g 12 (by decide +kernel) rfl, vv_g 892 (by decide +kernel) rfl, by decide +kernel, by decide +kernel, by decide +kernel⟩, vv_g 891 (by decide +kernel) rfl, vv_gs 36 (by decide +kernel) rfl⟩
theorem lm_X10_agrees : vv_LV yX10_agrees cX10_agrees 3 (some .int) 1 := ⟨⟨vv_g 12 (by decide +kernel) rfl, vv_g 896 (by decide +kernel) rfl, by decide +kernel, by decide +kernel, by decide +kernel⟩, vv_g 895 (by decide +kernel) rfl, vv_gs 37 (by decide +kernel) rfl⟩
theorem lm_X10_worth : vv_LV yX10_worth cX10_worth 11 (some .int) 3 := ⟨⟨vv_g 12 (by decide +kernel) rfl, vv_g 900 (by decide +kernel) rfl, by decide +kernel, by decide +kernel, by decide +kernel⟩, vv_g 898 (by decide +kernel) rfl, vv_g 899 (by decide +kernel) rfl⟩
theorem lm_X10_block : vv_LV yX10_block cX10_block 8 (some .int) 4 := ⟨⟨vv_g 12 (by decide +kernel) rfl, vv_g 904 (by decide +kernel) rfl, by decide +kernel, by decide +kernel, by decide +kernel⟩, vv_g 902 (by decide +kernel) rfl, vv_g 903 (by decide +kernel) rfl⟩
theorem lm_X10_keepResult : vv_LV yX10_keepResult cX10_keepResult 2 none 0 := ⟨⟨vv_g 12 (by decide +kernel) rfl, vv_g 908 (by decide +kernel) rfl, by decide +kernel, by decide +kernel, by decide +kernel⟩, vv_g 907 (by decide +kernel) rfl, vv_gs 38 (by decide +kernel) rfl⟩
theorem lm_X10_resultBack : vv_LV yX10_resultBack cX10_resultBack 2 none 0 := ⟨⟨vv_g 12 (by decide +kernel) rfl, vv_g 912 (by decide +kernel) rfl, by decide +kernel, by decide +kernel, by decide +kernel⟩, vv_g 911 (by decide +kernel) rfl, vv_gs 39 (by decide +kernel) rfl⟩
theorem lm_X10_stair : vv_LV yX10_stair cX10_stair 7 (some .int) 2 := ⟨⟨vv_g 12 (by decide +kernel) rfl, vv_g 916 (by decide +kernel) rfl, by decide +kernel, by decide +kernel, by decide +kernel⟩, vv_g 914 (by decide +kernel) rfl, vv_g 915 (by decide +kernel) rfl⟩
theorem lm_X10_recur : vv_LV yX10_recur cX10_recur 12 (some .int) 1 := ⟨⟨vv_g 12 (by decide +kernel) rfl, vv_g 920 (by decide +kernel) rfl, by decide +kernel, by decide +kernel, by decide +kernel⟩, vv_g 918 (by decide +kernel) rfl, vv_g 919 (by decide +kernel) rfl⟩
theorem lm_X10_point : vv_LV yX10_point cX10_point 6 (some .int) 2 := ⟨⟨vv_g 12 (by decide +kernel) rfl, vv_g 924 (by decide +kernel) rfl, by decide +kernel, by decide +kernel, by decide +kernel⟩, vv_g 922 (by decide +kernel) rfl, vv_g 923 (by decide +kernel) rfl⟩
theorem lm_X10_wipe : vv_LV yX10_wipe cX10_wipe 2 (some .int) 0 := ⟨⟨vv_g 12 (by decide +kernel) rfl, vv_g 928 (by decide +kernel) rfl, by decide +kernel, by decide +kernel, by decide +kernel⟩, vv_g 926 (by decide +kernel) rfl, vv_g 927 (by decide +kernel) rfl⟩
theorem lm_X10_join : vv_LV yX10_join cX10_join 6 (some .int) 2 := ⟨⟨vv_g 12 (by decide +kernel) rfl, vv_g 932 (by decide +kernel) rfl, by decide +kernel, by decide +kernel, by decide +kernel⟩, vv_g 930 (by decide +kernel) rfl, vv_g 931 (by decide +kernel) rfl⟩
theorem lm_X10_valueOf : vv_LV yX10_valueOf cX10_valueOf 5 (some .int) 2 := ⟨⟨vv_g 12 (by decide +kernel) rfl, vv_g 936 (by decide +kernel) rfl, by decide +kernel, by decide +kernel, by decide +kernel⟩, vv_g 935 (by decide +kernel) rfl, vv_gs 40 (by decide +kernel) rfl⟩
theorem lm_X10_degree : vv_LV yX10_degree cX10_degree 2 (some .int) 1 := ⟨⟨vv_g 12 (by decide +kernel) rfl, vv_g 940 (by decide +kernel) rfl, by decide +kernel, by decide +kernel, by decide +kernel⟩, vv_g 938 (by decide +kernel) rfl, vv_g 939 (by decide +kernel) rfl⟩
theorem lm_X10_term : vv_LV yX10_term cX10_term 3 (some .int) 2 := ⟨⟨vv_g 12 (by decide +kernel) rfl, vv_g 944 (by decide +kernel) rfl, by decide +kernel, by decide +kernel, by decide +kernel⟩, vv_g 942 (by decide +kernel) rfl, vv_g 943 (by decide +kernel) rfl⟩
theorem lm_X10_value : vv_LV yX10_value cX10_value 4 (some .int) 1 := ⟨⟨vv_g 12 (by decide +kernel) rfl, vv_g 949 (by decide +kernel) rfl, by decide +kernel, by decide +kernel, by decide +kernel⟩, vv_g 947 (by decide +kernel) rfl, vv_g 948 (by decide +kernel) rfl⟩
theorem lm_X10_cause : vv_LV yX10_cause cX10_cause 1 (some .int) 0 := ⟨⟨vv_g 12 (by decide +kernel) rfl, vv_g 953 (by decide +kernel) rfl, by decide +kernel, by decide +kernel, by decide +kernel⟩, vv_g 951 (by decide +kernel) rfl, vv_g 952 (by decide +kernel) rfl⟩
theorem lm_X10_causes : vv_LV yX10_causes cX10_causes 2 (some .int) 1 := ⟨⟨vv_g 12 (by decide +kernel) rfl, vv_g 957 (by decide +kernel) rfl, by decide +kernel, by decide +kernel, by decide +kernel⟩, vv_g 955 (by decide +kernel) rfl, vv_g 956 (by decide +kernel) rfl⟩
theorem lm_X10_count : vv_LV yX10_count cX10_count 4 (some .int) 1 := ⟨⟨vv_g 12 (by decide +kernel) rfl, vv_g 962 (by decide +kernel) rfl, by decide +kernel, by decide +kernel, by decide +kernel⟩, vv_g 960 (by decide +kernel) rfl, vv_g 961 (by decide +kernel) rfl⟩
theorem lm_X10_digest : vv_LV yX10_digest cX10_digest 6 (some .long) 0 := ⟨⟨vv_g 12 (by decide +kernel) rfl, vv_g 966 (by decide +kernel) rfl, by decide +kernel, by decide +kernel, by decide +kernel⟩, vv_g 964 (by decide +kernel) rfl, vv_g 965 (by decide +kernel) rfl⟩
theorem lc_X9_279 : Cond.constantLong RX9 279 (89) ∈ vv_gd := vv_g 612 (by decide +kernel) rfl
theorem lc_X9_293 : Cond.constantLong RX9 293 (31) ∈ vv_gd := vv_g 616 (by decide +kernel) rfl
theorem lc_X8_36 : Cond.constantLong RX8 36 (-1) ∈ vv_gd := vv_g 621 (by decide +kernel) rfl
theorem lc_X10_103 : Cond.constantLong RX10 103 (2) ∈ vv_gd := vv_g 737 (by decide +kernel) rfl
theorem lc_X10_105 : Cond.constantLong RX10 105 (30011) ∈ vv_gd := vv_g 738 (by decide +kernel) rfl
theorem lc_X10_124 : Cond.constantLong RX10 124 (3) ∈ vv_gd := vv_g 756 (by decide +kernel) rfl
theorem lc_X10_133 : Cond.constantLong RX10 133 (40) ∈ vv_gd := vv_g 777 (by decide +kernel) rfl
theorem lc_X10_209 : Cond.constantLong RX10 209 (45) ∈ vv_gd := vv_g 945 (by decide +kernel) rfl
theorem lc_X10_211 : Cond.constantLong RX10 211 (5) ∈ vv_gd := vv_g 958 (by decide +kernel) rfl
theorem lc_X10_213 : Cond.constantLong RX10 213 (2759) ∈ vv_gd := vv_g 967 (by decide +kernel) rfl
theorem lc_X10_215 : Cond.constantLong RX10 215 (31) ∈ vv_gd := vv_g 968 (by decide +kernel) rfl
theorem lc_L_23 : Cond.constantLong RL 23 (4294967295) ∈ vv_gd := vv_g 969 (by decide +kernel) rfl
end
section
theorem dX0_init_0 : decode cX0_init 0 = .ok (.aload_n 0, 1) := by decide +kernel
theorem dX0_init_1 : decode cX0_init 1 = .ok (.invokespecial 3, 3) := by decide +kernel
theorem dX0_init_4 : decode cX0_init 4 = .ok (.aload_n 0, 1) := by decide +kernel
theorem dX0_init_5 : decode cX0_init 5 = .ok (.bipush 40, 2) := by decide +kernel
theorem dX0_init_7 : decode cX0_init 7 = .ok (.bipush 40, 2) := by decide +kernel
theorem dX0_init_9 : decode cX0_init 9 = .ok (.multianewarray 9 2, 4) := by decide +kernel
theorem dX0_init_13 : decode cX0_init 13 = .ok (.putfield 11, 3) := by decide +kernel
theorem dX0_init_16 : decode cX0_init 16 = .ok (.return_, 1) := by decide +kernel
theorem dX0_fill_0 : decode cX0_fill 0 = .ok (.iconst 0, 1) := by decide +kernel
theorem dX0_fill_1 : decode cX0_fill 1 = .ok (.istore 4, 2) := by decide +kernel
theorem dX0_fill_3 : decode cX0_fill 3 = .ok (.iload 4, 2) := by decide +kernel
theorem dX0_fill_5 : decode cX0_fill 5 = .ok (.iload_n 3, 1) := by decide +kernel
theorem dX0_fill_6 : decode cX0_fill 6 = .ok (.if_icmp .ge 62, 3) := by decide +kernel
theorem dX0_fill_9 : decode cX0_fill 9 = .ok (.iload 4, 2) := by decide +kernel
theorem dX0_fill_11 : decode cX0_fill 11 = .ok (.bipush 40, 2) := by decide +kernel
theorem dX0_fill_13 : decode cX0_fill 13 = .ok (.if_icmp .ge 55, 3) := by decide +kernel
theorem dX0_fill_16 : decode cX0_fill 16 = .ok (.iconst 0, 1) := by decide +kernel
theorem dX0_fill_17 : decode cX0_fill 17 = .ok (.istore 5, 2) := by decide +kernel
theorem dX0_fill_19 : decode cX0_fill 19 = .ok (.iload 5, 2) := by decide +kernel
theorem dX0_fill_21 : decode cX0_fill 21 = .ok (.iload_n 3, 1) := by decide +kernel
theorem dX0_fill_22 : decode cX0_fill 22 = .ok (.if_icmp .ge 40, 3) := by decide +kernel
theorem dX0_fill_25 : decode cX0_fill 25 = .ok (.iload 5, 2) := by decide +kernel
theorem dX0_fill_27 : decode cX0_fill 27 = .ok (.bipush 40, 2) := by decide +kernel
theorem dX0_fill_29 : decode cX0_fill 29 = .ok (.if_icmp .ge 33, 3) := by decide +kernel
theorem dX0_fill_32 : decode cX0_fill 32 = .ok (.aload_n 0, 1) := by decide +kernel
theorem dX0_fill_33 : decode cX0_fill 33 = .ok (.getfield 11, 3) := by decide +kernel
theorem dX0_fill_36 : decode cX0_fill 36 = .ok (.iload 4, 2) := by decide +kernel
theorem dX0_fill_38 : decode cX0_fill 38 = .ok (.aaload, 1) := by decide +kernel
theorem dX0_fill_39 : decode cX0_fill 39 = .ok (.iload 5, 2) := by decide +kernel
theorem dX0_fill_41 : decode cX0_fill 41 = .ok (.aload_n 1, 1) := by decide +kernel
theorem dX0_fill_42 : decode cX0_fill 42 = .ok (.getfield 16, 3) := by decide +kernel
theorem dX0_fill_45 : decode cX0_fill 45 = .ok (.iload_n 2, 1) := by decide +kernel
theorem dX0_fill_46 : decode cX0_fill 46 = .ok (.iload 4, 2) := by decide +kernel
theorem dX0_fill_48 : decode cX0_fill 48 = .ok (.iadd, 1) := by decide +kernel
theorem dX0_fill_49 : decode cX0_fill 49 = .ok (.iload 5, 2) := by decide +kernel
theorem dX0_fill_51 : decode cX0_fill 51 = .ok (.isub, 1) := by decide +kernel
theorem dX0_fill_52 : decode cX0_fill 52 = .ok (.invokevirtual 22, 3) := by decide +kernel
theorem dX0_fill_55 : decode cX0_fill 55 = .ok (.iastore, 1) := by decide +kernel
theorem dX0_fill_56 : decode cX0_fill 56 = .ok (.iinc 5 1, 3) := by decide +kernel
theorem dX0_fill_59 : decode cX0_fill 59 = .ok (.goto (-40), 3) := by decide +kernel
theorem dX0_fill_62 : decode cX0_fill 62 = .ok (.iinc 4 1, 3) := by decide +kernel
theorem dX0_fill_65 : decode cX0_fill 65 = .ok (.goto (-62), 3) := by decide +kernel
theorem dX0_fill_68 : decode cX0_fill 68 = .ok (.return_, 1) := by decide +kernel
theorem dX0_compute_0 : decode cX0_compute 0 = .ok (.iconst 1, 1) := by decide +kernel
theorem dX0_compute_1 : decode cX0_compute 1 = .ok (.istore_n 3, 1) := by decide +kernel
theorem dX0_compute_2 : decode cX0_compute 2 = .ok (.iconst 0, 1) := by decide +kernel
theorem dX0_compute_3 : decode cX0_compute 3 = .ok (.istore 4, 2) := by decide +kernel
theorem dX0_compute_5 : decode cX0_compute 5 = .ok (.iload 4, 2) := by decide +kernel
theorem dX0_compute_7 : decode cX0_compute 7 = .ok (.iload_n 1, 1) := by decide +kernel
theorem dX0_compute_8 : decode cX0_compute 8 = .ok (.if_icmp .ge 77, 3) := by decide +kernel
theorem dX0_compute_11 : decode cX0_compute 11 = .ok (.iload 4, 2) := by decide +kernel
theorem dX0_compute_13 : decode cX0_compute 13 = .ok (.bipush 40, 2) := by decide +kernel
theorem dX0_compute_15 : decode cX0_compute 15 = .ok (.if_icmp .ge 70, 3) := by decide +kernel
theorem dX0_compute_18 : decode cX0_compute 18 = .ok (.aload_n 0, 1) := by decide +kernel
theorem dX0_compute_19 : decode cX0_compute 19 = .ok (.iload 4, 2) := by decide +kernel
theorem dX0_compute_21 : decode cX0_compute 21 = .ok (.iload_n 1, 1) := by decide +kernel
theorem dX0_compute_22 : decode cX0_compute 22 = .ok (.invokevirtual 28, 3) := by decide +kernel
theorem dX0_compute_25 : decode cX0_compute 25 = .ok (.istore 5, 2) := by decide +kernel
theorem dX0_compute_27 : decode cX0_compute 27 = .ok (.iload 5, 2) := by decide +kernel
theorem dX0_compute_29 : decode cX0_compute 29 = .ok (.ifCond .ge 5, 3) := by decide +kernel
theorem dX0_compute_32 : decode cX0_compute 32 = .ok (.iconst 0, 1) := by decide +kernel
theorem dX0_compute_33 : decode cX0_compute 33 = .ok (.ireturn, 1) := by decide +kernel
theorem dX0_compute_34 : decode cX0_compute 34 = .ok (.iload 5, 2) := by decide +kernel
theorem dX0_compute_36 : decode cX0_compute 36 = .ok (.iload 4, 2) := by decide +kernel
theorem dX0_compute_38 : decode cX0_compute 38 = .ok (.if_icmp .eq 17, 3) := by decide +kernel
theorem dX0_compute_41 : decode cX0_compute 41 = .ok (.aload_n 0, 1) := by decide +kernel
theorem dX0_compute_42 : decode cX0_compute 42 = .ok (.iload 5, 2) := by decide +kernel
theorem dX0_compute_44 : decode cX0_compute 44 = .ok (.iload 4, 2) := by decide +kernel
theorem dX0_compute_46 : decode cX0_compute 46 = .ok (.invokevirtual 32, 3) := by decide +kernel
theorem dX0_compute_49 : decode cX0_compute 49 = .ok (.aload_n 2, 1) := by decide +kernel
theorem dX0_compute_50 : decode cX0_compute 50 = .ok (.iload_n 3, 1) := by decide +kernel
theorem dX0_compute_51 : decode cX0_compute 51 = .ok (.invokevirtual 36, 3) := by decide +kernel
theorem dX0_compute_54 : decode cX0_compute 54 = .ok (.istore_n 3, 1) := by decide +kernel
theorem dX0_compute_55 : decode cX0_compute 55 = .ok (.aload_n 2, 1) := by decide +kernel
theorem dX0_compute_56 : decode cX0_compute 56 = .ok (.iload_n 3, 1) := by decide +kernel
theorem dX0_compute_57 : decode cX0_compute 57 = .ok (.aload_n 0, 1) := by decide +kernel
theorem dX0_compute_58 : decode cX0_compute 58 = .ok (.getfield 11, 3) := by decide +kernel
theorem dX0_compute_61 : decode cX0_compute 61 = .ok (.iload 4, 2) := by decide +kernel
theorem dX0_compute_63 : decode cX0_compute 63 = .ok (.aaload, 1) := by decide +kernel
theorem dX0_compute_64 : decode cX0_compute 64 = .ok (.iload 4, 2) := by decide +kernel
theorem dX0_compute_66 : decode cX0_compute 66 = .ok (.iaload, 1) := by decide +kernel
theorem dX0_compute_67 : decode cX0_compute 67 = .ok (.invokevirtual 41, 3) := by decide +kernel
theorem dX0_compute_70 : decode cX0_compute 70 = .ok (.istore_n 3, 1) := by decide +kernel
theorem dX0_compute_71 : decode cX0_compute 71 = .ok (.aload_n 0, 1) := by decide +kernel
theorem dX0_compute_72 : decode cX0_compute 72 = .ok (.iload 4, 2) := by decide +kernel
theorem dX0_compute_74 : decode cX0_compute 74 = .ok (.iload_n 1, 1) := by decide +kernel
theorem dX0_compute_75 : decode cX0_compute 75 = .ok (.aload_n 2, 1) := by decide +kernel
theorem dX0_compute_76 : decode cX0_compute 76 = .ok (.invokevirtual 44, 3) := by decide +kernel
theorem dX0_compute_79 : decode cX0_compute 79 = .ok (.iinc 4 1, 3) := by decide +kernel
theorem dX0_compute_82 : decode cX0_compute 82 = .ok (.goto (-77), 3) := by decide +kernel
theorem dX0_compute_85 : decode cX0_compute 85 = .ok (.iload_n 3, 1) := by decide +kernel
theorem dX0_compute_86 : decode cX0_compute 86 = .ok (.ireturn, 1) := by decide +kernel
theorem dX0_pivotRow_0 : decode cX0_pivotRow 0 = .ok (.iload_n 1, 1) := by decide +kernel
theorem dX0_pivotRow_1 : decode cX0_pivotRow 1 = .ok (.istore_n 3, 1) := by decide +kernel
theorem dX0_pivotRow_2 : decode cX0_pivotRow 2 = .ok (.iload_n 3, 1) := by decide +kernel
theorem dX0_pivotRow_3 : decode cX0_pivotRow 3 = .ok (.iload_n 2, 1) := by decide +kernel
theorem dX0_pivotRow_4 : decode cX0_pivotRow 4 = .ok (.if_icmp .ge 28, 3) := by decide +kernel
theorem dX0_pivotRow_7 : decode cX0_pivotRow 7 = .ok (.iload_n 3, 1) := by decide +kernel
theorem dX0_pivotRow_8 : decode cX0_pivotRow 8 = .ok (.bipush 40, 2) := by decide +kernel
theorem dX0_pivotRow_10 : decode cX0_pivotRow 10 = .ok (.if_icmp .ge 22, 3) := by decide +kernel
theorem dX0_pivotRow_13 : decode cX0_pivotRow 13 = .ok (.aload_n 0, 1) := by decide +kernel
theorem dX0_pivotRow_14 : decode cX0_pivotRow 14 = .ok (.getfield 11, 3) := by decide +kernel
theorem dX0_pivotRow_17 : decode cX0_pivotRow 17 = .ok (.iload_n 3, 1) := by decide +kernel
theorem dX0_pivotRow_18 : decode cX0_pivotRow 18 = .ok (.aaload, 1) := by decide +kernel
theorem dX0_pivotRow_19 : decode cX0_pivotRow 19 = .ok (.iload_n 1, 1) := by decide +kernel
theorem dX0_pivotRow_20 : decode cX0_pivotRow 20 = .ok (.iaload, 1) := by decide +kernel
theorem dX0_pivotRow_21 : decode cX0_pivotRow 21 = .ok (.ifCond .eq 5, 3) := by decide +kernel
theorem dX0_pivotRow_24 : decode cX0_pivotRow 24 = .ok (.iload_n 3, 1) := by decide +kernel
theorem dX0_pivotRow_25 : decode cX0_pivotRow 25 = .ok (.ireturn, 1) := by decide +kernel
theorem dX0_pivotRow_26 : decode cX0_pivotRow 26 = .ok (.iinc 3 1, 3) := by decide +kernel
theorem dX0_pivotRow_29 : decode cX0_pivotRow 29 = .ok (.goto (-27), 3) := by decide +kernel
theorem dX0_pivotRow_32 : decode cX0_pivotRow 32 = .ok (.iconst (-1), 1) := by decide +kernel
theorem dX0_pivotRow_33 : decode cX0_pivotRow 33 = .ok (.ireturn, 1) := by decide +kernel
theorem dX0_swapRows_0 : decode cX0_swapRows 0 = .ok (.aload_n 0, 1) := by decide +kernel
theorem dX0_swapRows_1 : decode cX0_swapRows 1 = .ok (.getfield 11, 3) := by decide +kernel
theorem dX0_swapRows_4 : decode cX0_swapRows 4 = .ok (.iload_n 1, 1) := by decide +kernel
theorem dX0_swapRows_5 : decode cX0_swapRows 5 = .ok (.aaload, 1) := by decide +kernel
theorem dX0_swapRows_6 : decode cX0_swapRows 6 = .ok (.astore_n 3, 1) := by decide +kernel
theorem dX0_swapRows_7 : decode cX0_swapRows 7 = .ok (.aload_n 0, 1) := by decide +kernel
theorem dX0_swapRows_8 : decode cX0_swapRows 8 = .ok (.getfield 11, 3) := by decide +kernel
theorem dX0_swapRows_11 : decode cX0_swapRows 11 = .ok (.iload_n 1, 1) := by decide +kernel
theorem dX0_swapRows_12 : decode cX0_swapRows 12 = .ok (.aload_n 0, 1) := by decide +kernel
theorem dX0_swapRows_13 : decode cX0_swapRows 13 = .ok (.getfield 11, 3) := by decide +kernel
theorem dX0_swapRows_16 : decode cX0_swapRows 16 = .ok (.iload_n 2, 1) := by decide +kernel
theorem dX0_swapRows_17 : decode cX0_swapRows 17 = .ok (.aaload, 1) := by decide +kernel
theorem dX0_swapRows_18 : decode cX0_swapRows 18 = .ok (.aastore, 1) := by decide +kernel
theorem dX0_swapRows_19 : decode cX0_swapRows 19 = .ok (.aload_n 0, 1) := by decide +kernel
theorem dX0_swapRows_20 : decode cX0_swapRows 20 = .ok (.getfield 11, 3) := by decide +kernel
theorem dX0_swapRows_23 : decode cX0_swapRows 23 = .ok (.iload_n 2, 1) := by decide +kernel
theorem dX0_swapRows_24 : decode cX0_swapRows 24 = .ok (.aload_n 3, 1) := by decide +kernel
theorem dX0_swapRows_25 : decode cX0_swapRows 25 = .ok (.aastore, 1) := by decide +kernel
theorem dX0_swapRows_26 : decode cX0_swapRows 26 = .ok (.return_, 1) := by decide +kernel
theorem dX0_clearBelow_0 : decode cX0_clearBelow 0 = .ok (.aload_n 3, 1) := by decide +kernel
theorem dX0_clearBelow_1 : decode cX0_clearBelow 1 = .ok (.aload_n 0, 1) := by decide +kernel
theorem dX0_clearBelow_2 : decode cX0_clearBelow 2 = .ok (.getfield 11, 3) := by decide +kernel
theorem dX0_clearBelow_5 : decode cX0_clearBelow 5 = .ok (.iload_n 1, 1) := by decide +kernel
theorem dX0_clearBelow_6 : decode cX0_clearBelow 6 = .ok (.aaload, 1) := by decide +kernel
theorem dX0_clearBelow_7 : decode cX0_clearBelow 7 = .ok (.iload_n 1, 1) := by decide +kernel
theorem dX0_clearBelow_8 : decode cX0_clearBelow 8 = .ok (.iaload, 1) := by decide +kernel
theorem dX0_clearBelow_9 : decode cX0_clearBelow 9 = .ok (.invokevirtual 48, 3) := by decide +kernel
theorem dX0_clearBelow_12 : decode cX0_clearBelow 12 = .ok (.istore 4, 2) := by decide +kernel
theorem dX0_clearBelow_14 : decode cX0_clearBelow 14 = .ok (.iload_n 1, 1) := by decide +kernel
theorem dX0_clearBelow_15 : decode cX0_clearBelow 15 = .ok (.iconst 1, 1) := by decide +kernel
theorem dX0_clearBelow_16 : decode cX0_clearBelow 16 = .ok (.iadd, 1) := by decide +kernel
theorem dX0_clearBelow_17 : decode cX0_clearBelow 17 = .ok (.istore 5, 2) := by decide +kernel
theorem dX0_clearBelow_19 : decode cX0_clearBelow 19 = .ok (.iload 5, 2) := by decide +kernel
theorem dX0_clearBelow_21 : decode cX0_clearBelow 21 = .ok (.iload_n 2, 1) := by decide +kernel
theorem dX0_clearBelow_22 : decode cX0_clearBelow 22 = .ok (.if_icmp .ge 95, 3) := by decide +kernel
theorem dX0_clearBelow_25 : decode cX0_clearBelow 25 = .ok (.iload 5, 2) := by decide +kernel
theorem dX0_clearBelow_27 : decode cX0_clearBelow 27 = .ok (.bipush 40, 2) := by decide +kernel
theorem dX0_clearBelow_29 : decode cX0_clearBelow 29 = .ok (.if_icmp .ge 88, 3) := by decide +kernel
theorem dX0_clearBelow_32 : decode cX0_clearBelow 32 = .ok (.aload_n 3, 1) := by decide +kernel
theorem dX0_clearBelow_33 : decode cX0_clearBelow 33 = .ok (.aload_n 0, 1) := by decide +kernel
theorem dX0_clearBelow_34 : decode cX0_clearBelow 34 = .ok (.getfield 11, 3) := by decide +kernel
theorem dX0_clearBelow_37 : decode cX0_clearBelow 37 = .ok (.iload 5, 2) := by decide +kernel
theorem dX0_clearBelow_39 : decode cX0_clearBelow 39 = .ok (.aaload, 1) := by decide +kernel
theorem dX0_clearBelow_40 : decode cX0_clearBelow 40 = .ok (.iload_n 1, 1) := by decide +kernel
theorem dX0_clearBelow_41 : decode cX0_clearBelow 41 = .ok (.iaload, 1) := by decide +kernel
theorem dX0_clearBelow_42 : decode cX0_clearBelow 42 = .ok (.iload 4, 2) := by decide +kernel
theorem dX0_clearBelow_44 : decode cX0_clearBelow 44 = .ok (.invokevirtual 41, 3) := by decide +kernel
theorem dX0_clearBelow_47 : decode cX0_clearBelow 47 = .ok (.istore 6, 2) := by decide +kernel
theorem dX0_clearBelow_49 : decode cX0_clearBelow 49 = .ok (.iload_n 1, 1) := by decide +kernel
theorem dX0_clearBelow_50 : decode cX0_clearBelow 50 = .ok (.istore 7, 2) := by decide +kernel
theorem dX0_clearBelow_52 : decode cX0_clearBelow 52 = .ok (.iload 7, 2) := by decide +kernel
theorem dX0_clearBelow_54 : decode cX0_clearBelow 54 = .ok (.iload_n 2, 1) := by decide +kernel
theorem dX0_clearBelow_55 : decode cX0_clearBelow 55 = .ok (.if_icmp .ge 56, 3) := by decide +kernel
theorem dX0_clearBelow_58 : decode cX0_clearBelow 58 = .ok (.iload 7, 2) := by decide +kernel
theorem dX0_clearBelow_60 : decode cX0_clearBelow 60 = .ok (.bipush 40, 2) := by decide +kernel
theorem dX0_clearBelow_62 : decode cX0_clearBelow 62 = .ok (.if_icmp .ge 49, 3) := by decide +kernel
theorem dX0_clearBelow_65 : decode cX0_clearBelow 65 = .ok (.aload_n 0, 1) := by decide +kernel
theorem dX0_clearBelow_66 : decode cX0_clearBelow 66 = .ok (.getfield 11, 3) := by decide +kernel
theorem dX0_clearBelow_69 : decode cX0_clearBelow 69 = .ok (.iload 5, 2) := by decide +kernel
theorem dX0_clearBelow_71 : decode cX0_clearBelow 71 = .ok (.aaload, 1) := by decide +kernel
theorem dX0_clearBelow_72 : decode cX0_clearBelow 72 = .ok (.iload 7, 2) := by decide +kernel
theorem dX0_clearBelow_74 : decode cX0_clearBelow 74 = .ok (.aload_n 3, 1) := by decide +kernel
theorem dX0_clearBelow_75 : decode cX0_clearBelow 75 = .ok (.aload_n 0, 1) := by decide +kernel
theorem dX0_clearBelow_76 : decode cX0_clearBelow 76 = .ok (.getfield 11, 3) := by decide +kernel
theorem dX0_clearBelow_79 : decode cX0_clearBelow 79 = .ok (.iload 5, 2) := by decide +kernel
theorem dX0_clearBelow_81 : decode cX0_clearBelow 81 = .ok (.aaload, 1) := by decide +kernel
theorem dX0_clearBelow_82 : decode cX0_clearBelow 82 = .ok (.iload 7, 2) := by decide +kernel
theorem dX0_clearBelow_84 : decode cX0_clearBelow 84 = .ok (.iaload, 1) := by decide +kernel
theorem dX0_clearBelow_85 : decode cX0_clearBelow 85 = .ok (.i2l, 1) := by decide +kernel
theorem dX0_clearBelow_86 : decode cX0_clearBelow 86 = .ok (.iload 6, 2) := by decide +kernel
theorem dX0_clearBelow_88 : decode cX0_clearBelow 88 = .ok (.i2l, 1) := by decide +kernel
theorem dX0_clearBelow_89 : decode cX0_clearBelow 89 = .ok (.aload_n 0, 1) := by decide +kernel
theorem dX0_clearBelow_90 : decode cX0_clearBelow 90 = .ok (.getfield 11, 3) := by decide +kernel
theorem dX0_clearBelow_93 : decode cX0_clearBelow 93 = .ok (.iload_n 1, 1) := by decide +kernel
theorem dX0_clearBelow_94 : decode cX0_clearBelow 94 = .ok (.aaload, 1) := by decide +kernel
theorem dX0_clearBelow_95 : decode cX0_clearBelow 95 = .ok (.iload 7, 2) := by decide +kernel
theorem dX0_clearBelow_97 : decode cX0_clearBelow 97 = .ok (.iaload, 1) := by decide +kernel
theorem dX0_clearBelow_98 : decode cX0_clearBelow 98 = .ok (.i2l, 1) := by decide +kernel
theorem dX0_clearBelow_99 : decode cX0_clearBelow 99 = .ok (.lmul, 1) := by decide +kernel
theorem dX0_clearBelow_100 : decode cX0_clearBelow 100 = .ok (.lsub, 1) := by decide +kernel
theorem dX0_clearBelow_101 : decode cX0_clearBelow 101 = .ok (.invokevirtual 51, 3) := by decide +kernel
theorem dX0_clearBelow_104 : decode cX0_clearBelow 104 = .ok (.iastore, 1) := by decide +kernel
theorem dX0_clearBelow_105 : decode cX0_clearBelow 105 = .ok (.iinc 7 1, 3) := by decide +kernel
theorem dX0_clearBelow_108 : decode cX0_clearBelow 108 = .ok (.goto (-56), 3) := by decide +kernel
theorem dX0_clearBelow_111 : decode cX0_clearBelow 111 = .ok (.iinc 5 1, 3) := by decide +kernel
theorem dX0_clearBelow_114 : decode cX0_clearBelow 114 = .ok (.goto (-95), 3) := by decide +kernel
theorem dX0_clearBelow_117 : decode cX0_clearBelow 117 = .ok (.return_, 1) := by decide +kernel
theorem dX1_init_0 : decode cX1_init 0 = .ok (.aload_n 0, 1) := by decide +kernel
theorem dX1_init_1 : decode cX1_init 1 = .ok (.invokespecial 3, 3) := by decide +kernel
theorem dX1_init_4 : decode cX1_init 4 = .ok (.aload_n 0, 1) := by decide +kernel
theorem dX1_init_5 : decode cX1_init 5 = .ok (.new 9, 3) := by decide +kernel
theorem dX1_init_8 : decode cX1_init 8 = .ok (.dup, 1) := by decide +kernel
theorem dX1_init_9 : decode cX1_init 9 = .ok (.invokespecial 11, 3) := by decide +kernel
theorem dX1_init_12 : decode cX1_init 12 = .ok (.putfield 12, 3) := by decide +kernel
theorem dX1_init_15 : decode cX1_init 15 = .ok (.aload_n 0, 1) := by decide +kernel
theorem dX1_init_16 : decode cX1_init 16 = .ok (.new 9, 3) := by decide +kernel
theorem dX1_init_19 : decode cX1_init 19 = .ok (.dup, 1) := by decide +kernel
theorem dX1_init_20 : decode cX1_init 20 = .ok (.invokespecial 11, 3) := by decide +kernel
theorem dX1_init_23 : decode cX1_init 23 = .ok (.putfield 18, 3) := by decide +kernel
theorem dX1_init_26 : decode cX1_init 26 = .ok (.aload_n 0, 1) := by decide +kernel
theorem dX1_init_27 : decode cX1_init 27 = .ok (.new 9, 3) := by decide +kernel
theorem dX1_init_30 : decode cX1_init 30 = .ok (.dup, 1) := by decide +kernel
theorem dX1_init_31 : decode cX1_init 31 = .ok (.invokespecial 11, 3) := by decide +kernel
theorem dX1_init_34 : decode cX1_init 34 = .ok (.putfield 21, 3) := by decide +kernel
theorem dX1_init_37 : decode cX1_init 37 = .ok (.aload_n 0, 1) := by decide +kernel
theorem dX1_init_38 : decode cX1_init 38 = .ok (.new 9, 3) := by decide +kernel
theorem dX1_init_41 : decode cX1_init 41 = .ok (.dup, 1) := by decide +kernel
theorem dX1_init_42 : decode cX1_init 42 = .ok (.invokespecial 11, 3) := by decide +kernel
theorem dX1_init_45 : decode cX1_init 45 = .ok (.putfield 24, 3) := by decide +kernel
theorem dX1_init_48 : decode cX1_init 48 = .ok (.aload_n 0, 1) := by decide +kernel
theorem dX1_init_49 : decode cX1_init 49 = .ok (.new 9, 3) := by decide +kernel
theorem dX1_init_52 : decode cX1_init 52 = .ok (.dup, 1) := by decide +kernel
theorem dX1_init_53 : decode cX1_init 53 = .ok (.invokespecial 11, 3) := by decide +kernel
theorem dX1_init_56 : decode cX1_init 56 = .ok (.putfield 27, 3) := by decide +kernel
theorem dX1_init_59 : decode cX1_init 59 = .ok (.return_, 1) := by decide +kernel
theorem dX1_findShare_0 : decode cX1_findShare 0 = .ok (.aload_n 0, 1) := by decide +kernel
theorem dX1_findShare_1 : decode cX1_findShare 1 = .ok (.getfield 12, 3) := by decide +kernel
theorem dX1_findShare_4 : decode cX1_findShare 4 = .ok (.astore 4, 2) := by decide +kernel
theorem dX1_findShare_6 : decode cX1_findShare 6 = .ok (.aload_n 0, 1) := by decide +kernel
theorem dX1_findShare_7 : decode cX1_findShare 7 = .ok (.getfield 18, 3) := by decide +kernel
theorem dX1_findShare_10 : decode cX1_findShare 10 = .ok (.astore 5, 2) := by decide +kernel
theorem dX1_findShare_12 : decode cX1_findShare 12 = .ok (.aload_n 0, 1) := by decide +kernel
theorem dX1_findShare_13 : decode cX1_findShare 13 = .ok (.getfield 24, 3) := by decide +kernel
theorem dX1_findShare_16 : decode cX1_findShare 16 = .ok (.astore 6, 2) := by decide +kernel
theorem dX1_findShare_18 : decode cX1_findShare 18 = .ok (.aload_n 0, 1) := by decide +kernel
theorem dX1_findShare_19 : decode cX1_findShare 19 = .ok (.getfield 21, 3) := by decide +kernel
theorem dX1_findShare_22 : decode cX1_findShare 22 = .ok (.astore 7, 2) := by decide +kernel
theorem dX1_findShare_24 : decode cX1_findShare 24 = .ok (.aload 6, 2) := by decide +kernel
theorem dX1_findShare_26 : decode cX1_findShare 26 = .ok (.iconst 0, 1) := by decide +kernel
theorem dX1_findShare_27 : decode cX1_findShare 27 = .ok (.invokevirtual 30, 3) := by decide +kernel
theorem dX1_findShare_30 : decode cX1_findShare 30 = .ok (.aload 7, 2) := by decide +kernel
theorem dX1_findShare_32 : decode cX1_findShare 32 = .ok (.iconst 1, 1) := by decide +kernel
theorem dX1_findShare_33 : decode cX1_findShare 33 = .ok (.invokevirtual 30, 3) := by decide +kernel
theorem dX1_findShare_36 : decode cX1_findShare 36 = .ok (.iconst 0, 1) := by decide +kernel
theorem dX1_findShare_37 : decode cX1_findShare 37 = .ok (.istore 8, 2) := by decide +kernel
theorem dX1_findShare_39 : decode cX1_findShare 39 = .ok (.iload 8, 2) := by decide +kernel
theorem dX1_findShare_41 : decode cX1_findShare 41 = .ok (.bipush 42, 2) := by decide +kernel
theorem dX1_findShare_43 : decode cX1_findShare 43 = .ok (.if_icmp .ge 66, 3) := by decide +kernel
theorem dX1_findShare_46 : decode cX1_findShare 46 = .ok (.aload 5, 2) := by decide +kernel
theorem dX1_findShare_48 : decode cX1_findShare 48 = .ok (.invokevirtual 34, 3) := by decide +kernel
theorem dX1_findShare_51 : decode cX1_findShare 51 = .ok (.iload_n 1, 1) := by decide +kernel
theorem dX1_findShare_52 : decode cX1_findShare 52 = .ok (.if_icmp .le 57, 3) := by decide +kernel
theorem dX1_findShare_55 : decode cX1_findShare 55 = .ok (.aload 4, 2) := by decide +kernel
theorem dX1_findShare_57 : decode cX1_findShare 57 = .ok (.aload 5, 2) := by decide +kernel
theorem dX1_findShare_59 : decode cX1_findShare 59 = .ok (.aload_n 0, 1) := by decide +kernel
theorem dX1_findShare_60 : decode cX1_findShare 60 = .ok (.getfield 27, 3) := by decide +kernel
theorem dX1_findShare_63 : decode cX1_findShare 63 = .ok (.aload_n 3, 1) := by decide +kernel
theorem dX1_findShare_64 : decode cX1_findShare 64 = .ok (.invokevirtual 38, 3) := by decide +kernel
theorem dX1_findShare_67 : decode cX1_findShare 67 = .ok (.aload 6, 2) := by decide +kernel
theorem dX1_findShare_69 : decode cX1_findShare 69 = .ok (.aload_n 0, 1) := by decide +kernel
theorem dX1_findShare_70 : decode cX1_findShare 70 = .ok (.getfield 27, 3) := by decide +kernel
theorem dX1_findShare_73 : decode cX1_findShare 73 = .ok (.aload 7, 2) := by decide +kernel
theorem dX1_findShare_75 : decode cX1_findShare 75 = .ok (.aload_n 3, 1) := by decide +kernel
theorem dX1_findShare_76 : decode cX1_findShare 76 = .ok (.invokevirtual 42, 3) := by decide +kernel
theorem dX1_findShare_79 : decode cX1_findShare 79 = .ok (.aload 4, 2) := by decide +kernel
theorem dX1_findShare_81 : decode cX1_findShare 81 = .ok (.astore 9, 2) := by decide +kernel
theorem dX1_findShare_83 : decode cX1_findShare 83 = .ok (.aload 5, 2) := by decide +kernel
theorem dX1_findShare_85 : decode cX1_findShare 85 = .ok (.astore 4, 2) := by decide +kernel
theorem dX1_findShare_87 : decode cX1_findShare 87 = .ok (.aload 9, 2) := by decide +kernel
theorem dX1_findShare_89 : decode cX1_findShare 89 = .ok (.astore 5, 2) := by decide +kernel
theorem dX1_findShare_91 : decode cX1_findShare 91 = .ok (.aload 6, 2) := by decide +kernel
theorem dX1_findShare_93 : decode cX1_findShare 93 = .ok (.astore 10, 2) := by decide +kernel
theorem dX1_findShare_95 : decode cX1_findShare 95 = .ok (.aload 7, 2) := by decide +kernel
theorem dX1_findShare_97 : decode cX1_findShare 97 = .ok (.astore 6, 2) := by decide +kernel
theorem dX1_findShare_99 : decode cX1_findShare 99 = .ok (.aload 10, 2) := by decide +kernel
theorem dX1_findShare_101 : decode cX1_findShare 101 = .ok (.astore 7, 2) := by decide +kernel
theorem dX1_findShare_103 : decode cX1_findShare 103 = .ok (.iinc 8 1, 3) := by decide +kernel
theorem dX1_findShare_106 : decode cX1_findShare 106 = .ok (.goto (-67), 3) := by decide +kernel
theorem dX1_findShare_109 : decode cX1_findShare 109 = .ok (.aload_n 2, 1) := by decide +kernel
theorem dX1_findShare_110 : decode cX1_findShare 110 = .ok (.getfield 45, 3) := by decide +kernel
theorem dX1_findShare_113 : decode cX1_findShare 113 = .ok (.aload 5, 2) := by decide +kernel
theorem dX1_findShare_115 : decode cX1_findShare 115 = .ok (.invokevirtual 50, 3) := by decide +kernel
theorem dX1_findShare_118 : decode cX1_findShare 118 = .ok (.aload_n 2, 1) := by decide +kernel
theorem dX1_findShare_119 : decode cX1_findShare 119 = .ok (.getfield 54, 3) := by decide +kernel
theorem dX1_findShare_122 : decode cX1_findShare 122 = .ok (.aload 7, 2) := by decide +kernel
theorem dX1_findShare_124 : decode cX1_findShare 124 = .ok (.invokevirtual 50, 3) := by decide +kernel
theorem dX1_findShare_127 : decode cX1_findShare 127 = .ok (.aload_n 0, 1) := by decide +kernel
theorem dX1_findShare_128 : decode cX1_findShare 128 = .ok (.aload_n 2, 1) := by decide +kernel
theorem dX1_findShare_129 : decode cX1_findShare 129 = .ok (.aload_n 3, 1) := by decide +kernel
theorem dX1_findShare_130 : decode cX1_findShare 130 = .ok (.invokevirtual 57, 3) := by decide +kernel
theorem dX1_findShare_133 : decode cX1_findShare 133 = .ok (.return_, 1) := by decide +kernel
theorem dX1_dropCommonFactors_0 : decode cX1_dropCommonFactors 0 = .ok (.aload_n 0, 1) := by decide +kernel
theorem dX1_dropCommonFactors_1 : decode cX1_dropCommonFactors 1 = .ok (.getfield 12, 3) := by decide +kernel
theorem dX1_dropCommonFactors_4 : decode cX1_dropCommonFactors 4 = .ok (.astore_n 3, 1) := by decide +kernel
theorem dX1_dropCommonFactors_5 : decode cX1_dropCommonFactors 5 = .ok (.aload_n 0, 1) := by decide +kernel
theorem dX1_dropCommonFactors_6 : decode cX1_dropCommonFactors 6 = .ok (.getfield 18, 3) := by decide +kernel
theorem dX1_dropCommonFactors_9 : decode cX1_dropCommonFactors 9 = .ok (.astore 4, 2) := by decide +kernel
theorem dX1_dropCommonFactors_11 : decode cX1_dropCommonFactors 11 = .ok (.aload_n 3, 1) := by decide +kernel
theorem dX1_dropCommonFactors_12 : decode cX1_dropCommonFactors 12 = .ok (.aload_n 1, 1) := by decide +kernel
theorem dX1_dropCommonFactors_13 : decode cX1_dropCommonFactors 13 = .ok (.getfield 54, 3) := by decide +kernel
theorem dX1_dropCommonFactors_16 : decode cX1_dropCommonFactors 16 = .ok (.invokevirtual 50, 3) := by decide +kernel
theorem dX1_dropCommonFactors_19 : decode cX1_dropCommonFactors 19 = .ok (.aload 4, 2) := by decide +kernel
theorem dX1_dropCommonFactors_21 : decode cX1_dropCommonFactors 21 = .ok (.aload_n 1, 1) := by decide +kernel
theorem dX1_dropCommonFactors_22 : decode cX1_dropCommonFactors 22 = .ok (.getfield 45, 3) := by decide +kernel
theorem dX1_dropCommonFactors_25 : decode cX1_dropCommonFactors 25 = .ok (.invokevirtual 50, 3) := by decide +kernel
theorem dX1_dropCommonFactors_28 : decode cX1_dropCommonFactors 28 = .ok (.iconst 0, 1) := by decide +kernel
theorem dX1_dropCommonFactors_29 : decode cX1_dropCommonFactors 29 = .ok (.istore 5, 2) := by decide +kernel
theorem dX1_dropCommonFactors_31 : decode cX1_dropCommonFactors 31 = .ok (.iload 5, 2) := by decide +kernel
theorem dX1_dropCommonFactors_33 : decode cX1_dropCommonFactors 33 = .ok (.bipush 42, 2) := by decide +kernel
theorem dX1_dropCommonFactors_35 : decode cX1_dropCommonFactors 35 = .ok (.if_icmp .ge 38, 3) := by decide +kernel
theorem dX1_dropCommonFactors_38 : decode cX1_dropCommonFactors 38 = .ok (.aload 4, 2) := by decide +kernel
theorem dX1_dropCommonFactors_40 : decode cX1_dropCommonFactors 40 = .ok (.invokevirtual 34, 3) := by decide +kernel
theorem dX1_dropCommonFactors_43 : decode cX1_dropCommonFactors 43 = .ok (.ifCond .lt 30, 3) := by decide +kernel
theorem dX1_dropCommonFactors_46 : decode cX1_dropCommonFactors 46 = .ok (.aload_n 3, 1) := by decide +kernel
theorem dX1_dropCommonFactors_47 : decode cX1_dropCommonFactors 47 = .ok (.aload 4, 2) := by decide +kernel
theorem dX1_dropCommonFactors_49 : decode cX1_dropCommonFactors 49 = .ok (.aload_n 0, 1) := by decide +kernel
theorem dX1_dropCommonFactors_50 : decode cX1_dropCommonFactors 50 = .ok (.getfield 27, 3) := by decide +kernel
theorem dX1_dropCommonFactors_53 : decode cX1_dropCommonFactors 53 = .ok (.aload_n 2, 1) := by decide +kernel
theorem dX1_dropCommonFactors_54 : decode cX1_dropCommonFactors 54 = .ok (.invokevirtual 38, 3) := by decide +kernel
theorem dX1_dropCommonFactors_57 : decode cX1_dropCommonFactors 57 = .ok (.aload_n 3, 1) := by decide +kernel
theorem dX1_dropCommonFactors_58 : decode cX1_dropCommonFactors 58 = .ok (.astore 6, 2) := by decide +kernel
theorem dX1_dropCommonFactors_60 : decode cX1_dropCommonFactors 60 = .ok (.aload 4, 2) := by decide +kernel
theorem dX1_dropCommonFactors_62 : decode cX1_dropCommonFactors 62 = .ok (.astore_n 3, 1) := by decide +kernel
theorem dX1_dropCommonFactors_63 : decode cX1_dropCommonFactors 63 = .ok (.aload 6, 2) := by decide +kernel
theorem dX1_dropCommonFactors_65 : decode cX1_dropCommonFactors 65 = .ok (.astore 4, 2) := by decide +kernel
theorem dX1_dropCommonFactors_67 : decode cX1_dropCommonFactors 67 = .ok (.iinc 5 1, 3) := by decide +kernel
theorem dX1_dropCommonFactors_70 : decode cX1_dropCommonFactors 70 = .ok (.goto (-39), 3) := by decide +kernel
theorem dX1_dropCommonFactors_73 : decode cX1_dropCommonFactors 73 = .ok (.aload_n 1, 1) := by decide +kernel
theorem dX1_dropCommonFactors_74 : decode cX1_dropCommonFactors 74 = .ok (.getfield 45, 3) := by decide +kernel
theorem dX1_dropCommonFactors_77 : decode cX1_dropCommonFactors 77 = .ok (.aload_n 3, 1) := by decide +kernel
theorem dX1_dropCommonFactors_78 : decode cX1_dropCommonFactors 78 = .ok (.aload_n 0, 1) := by decide +kernel
theorem dX1_dropCommonFactors_79 : decode cX1_dropCommonFactors 79 = .ok (.getfield 27, 3) := by decide +kernel
theorem dX1_dropCommonFactors_82 : decode cX1_dropCommonFactors 82 = .ok (.aload_n 2, 1) := by decide +kernel
theorem dX1_dropCommonFactors_83 : decode cX1_dropCommonFactors 83 = .ok (.invokevirtual 38, 3) := by decide +kernel
theorem dX1_dropCommonFactors_86 : decode cX1_dropCommonFactors 86 = .ok (.aload_n 1, 1) := by decide +kernel
theorem dX1_dropCommonFactors_87 : decode cX1_dropCommonFactors 87 = .ok (.getfield 45, 3) := by decide +kernel
theorem dX1_dropCommonFactors_90 : decode cX1_dropCommonFactors 90 = .ok (.aload_n 0, 1) := by decide +kernel
theorem dX1_dropCommonFactors_91 : decode cX1_dropCommonFactors 91 = .ok (.getfield 27, 3) := by decide +kernel
theorem dX1_dropCommonFactors_94 : decode cX1_dropCommonFactors 94 = .ok (.invokevirtual 50, 3) := by decide +kernel
theorem dX1_dropCommonFactors_97 : decode cX1_dropCommonFactors 97 = .ok (.aload_n 1, 1) := by decide +kernel
theorem dX1_dropCommonFactors_98 : decode cX1_dropCommonFactors 98 = .ok (.getfield 54, 3) := by decide +kernel
theorem dX1_dropCommonFactors_101 : decode cX1_dropCommonFactors 101 = .ok (.aload_n 3, 1) := by decide +kernel
theorem dX1_dropCommonFactors_102 : decode cX1_dropCommonFactors 102 = .ok (.aload_n 0, 1) := by decide +kernel
theorem dX1_dropCommonFactors_103 : decode cX1_dropCommonFactors 103 = .ok (.getfield 27, 3) := by decide +kernel
theorem dX1_dropCommonFactors_106 : decode cX1_dropCommonFactors 106 = .ok (.aload_n 2, 1) := by decide +kernel
theorem dX1_dropCommonFactors_107 : decode cX1_dropCommonFactors 107 = .ok (.invokevirtual 38, 3) := by decide +kernel
theorem dX1_dropCommonFactors_110 : decode cX1_dropCommonFactors 110 = .ok (.aload_n 1, 1) := by decide +kernel
theorem dX1_dropCommonFactors_111 : decode cX1_dropCommonFactors 111 = .ok (.getfield 54, 3) := by decide +kernel
theorem dX1_dropCommonFactors_114 : decode cX1_dropCommonFactors 114 = .ok (.aload_n 0, 1) := by decide +kernel
theorem dX1_dropCommonFactors_115 : decode cX1_dropCommonFactors 115 = .ok (.getfield 27, 3) := by decide +kernel
theorem dX1_dropCommonFactors_118 : decode cX1_dropCommonFactors 118 = .ok (.invokevirtual 50, 3) := by decide +kernel
theorem dX1_dropCommonFactors_121 : decode cX1_dropCommonFactors 121 = .ok (.aload_n 2, 1) := by decide +kernel
theorem dX1_dropCommonFactors_122 : decode cX1_dropCommonFactors 122 = .ok (.aload_n 1, 1) := by decide +kernel
theorem dX1_dropCommonFactors_123 : decode cX1_dropCommonFactors 123 = .ok (.getfield 54, 3) := by decide +kernel
theorem dX1_dropCommonFactors_126 : decode cX1_dropCommonFactors 126 = .ok (.invokevirtual 61, 3) := by decide +kernel
theorem dX1_dropCommonFactors_129 : decode cX1_dropCommonFactors 129 = .ok (.invokevirtual 64, 3) := by decide +kernel
theorem dX1_dropCommonFactors_132 : decode cX1_dropCommonFactors 132 = .ok (.istore 5, 2) := by decide +kernel
theorem dX1_dropCommonFactors_134 : decode cX1_dropCommonFactors 134 = .ok (.aload_n 1, 1) := by decide +kernel
theorem dX1_dropCommonFactors_135 : decode cX1_dropCommonFactors 135 = .ok (.getfield 45, 3) := by decide +kernel
theorem dX1_dropCommonFactors_138 : decode cX1_dropCommonFactors 138 = .ok (.iload 5, 2) := by decide +kernel
theorem dX1_dropCommonFactors_140 : decode cX1_dropCommonFactors 140 = .ok (.aload_n 2, 1) := by decide +kernel
theorem dX1_dropCommonFactors_141 : decode cX1_dropCommonFactors 141 = .ok (.invokevirtual 70, 3) := by decide +kernel
theorem dX1_dropCommonFactors_144 : decode cX1_dropCommonFactors 144 = .ok (.aload_n 1, 1) := by decide +kernel
theorem dX1_dropCommonFactors_145 : decode cX1_dropCommonFactors 145 = .ok (.getfield 54, 3) := by decide +kernel
theorem dX1_dropCommonFactors_148 : decode cX1_dropCommonFactors 148 = .ok (.iload 5, 2) := by decide +kernel
theorem dX1_dropCommonFactors_150 : decode cX1_dropCommonFactors 150 = .ok (.aload_n 2, 1) := by decide +kernel
theorem dX1_dropCommonFactors_151 : decode cX1_dropCommonFactors 151 = .ok (.invokevirtual 70, 3) := by decide +kernel
theorem dX1_dropCommonFactors_154 : decode cX1_dropCommonFactors 154 = .ok (.return_, 1) := by decide +kernel
theorem dX2_init_0 : decode cX2_init 0 = .ok (.aload_n 0, 1) := by decide +kernel
theorem dX2_init_1 : decode cX2_init 1 = .ok (.invokespecial 3, 3) := by decide +kernel
theorem dX2_init_4 : decode cX2_init 4 = .ok (.aload_n 0, 1) := by decide +kernel
theorem dX2_init_5 : decode cX2_init 5 = .ok (.bipush 20, 2) := by decide +kernel
theorem dX2_init_7 : decode cX2_init 7 = .ok (.newarray .int, 2) := by decide +kernel
theorem dX2_init_9 : decode cX2_init 9 = .ok (.putfield 9, 3) := by decide +kernel
theorem dX2_init_12 : decode cX2_init 12 = .ok (.aload_n 0, 1) := by decide +kernel
theorem dX2_init_13 : decode cX2_init 13 = .ok (.bipush 20, 2) := by decide +kernel
theorem dX2_init_15 : decode cX2_init 15 = .ok (.newarray .int, 2) := by decide +kernel
theorem dX2_init_17 : decode cX2_init 17 = .ok (.putfield 15, 3) := by decide +kernel
theorem dX2_init_20 : decode cX2_init 20 = .ok (.aload_n 0, 1) := by decide +kernel
theorem dX2_init_21 : decode cX2_init 21 = .ok (.iconst 0, 1) := by decide +kernel
theorem dX2_init_22 : decode cX2_init 22 = .ok (.putfield 18, 3) := by decide +kernel
theorem dX2_init_25 : decode cX2_init 25 = .ok (.return_, 1) := by decide +kernel
theorem dX2_indexOf_0 : decode cX2_indexOf 0 = .ok (.iconst 0, 1) := by decide +kernel
theorem dX2_indexOf_1 : decode cX2_indexOf 1 = .ok (.istore_n 2, 1) := by decide +kernel
theorem dX2_indexOf_2 : decode cX2_indexOf 2 = .ok (.iload_n 2, 1) := by decide +kernel
theorem dX2_indexOf_3 : decode cX2_indexOf 3 = .ok (.aload_n 0, 1) := by decide +kernel
theorem dX2_indexOf_4 : decode cX2_indexOf 4 = .ok (.getfield 18, 3) := by decide +kernel
theorem dX2_indexOf_7 : decode cX2_indexOf 7 = .ok (.if_icmp .ge 27, 3) := by decide +kernel
theorem dX2_indexOf_10 : decode cX2_indexOf 10 = .ok (.iload_n 2, 1) := by decide +kernel
theorem dX2_indexOf_11 : decode cX2_indexOf 11 = .ok (.bipush 20, 2) := by decide +kernel
theorem dX2_indexOf_13 : decode cX2_indexOf 13 = .ok (.if_icmp .ge 21, 3) := by decide +kernel
theorem dX2_indexOf_16 : decode cX2_indexOf 16 = .ok (.aload_n 0, 1) := by decide +kernel
theorem dX2_indexOf_17 : decode cX2_indexOf 17 = .ok (.getfield 9, 3) := by decide +kernel
theorem dX2_indexOf_20 : decode cX2_indexOf 20 = .ok (.iload_n 2, 1) := by decide +kernel
theorem dX2_indexOf_21 : decode cX2_indexOf 21 = .ok (.iaload, 1) := by decide +kernel
theorem dX2_indexOf_22 : decode cX2_indexOf 22 = .ok (.iload_n 1, 1) := by decide +kernel
theorem dX2_indexOf_23 : decode cX2_indexOf 23 = .ok (.if_icmp .ne 5, 3) := by decide +kernel
theorem dX2_indexOf_26 : decode cX2_indexOf 26 = .ok (.iload_n 2, 1) := by decide +kernel
theorem dX2_indexOf_27 : decode cX2_indexOf 27 = .ok (.ireturn, 1) := by decide +kernel
theorem dX2_indexOf_28 : decode cX2_indexOf 28 = .ok (.iinc 2 1, 3) := by decide +kernel
theorem dX2_indexOf_31 : decode cX2_indexOf 31 = .ok (.goto (-29), 3) := by decide +kernel
theorem dX2_indexOf_34 : decode cX2_indexOf 34 = .ok (.iconst (-1), 1) := by decide +kernel
theorem dX2_indexOf_35 : decode cX2_indexOf 35 = .ok (.ireturn, 1) := by decide +kernel
theorem dX2_heightAt_0 : decode cX2_heightAt 0 = .ok (.iload_n 1, 1) := by decide +kernel
theorem dX2_heightAt_1 : decode cX2_heightAt 1 = .ok (.ifCond .lt 18, 3) := by decide +kernel
theorem dX2_heightAt_4 : decode cX2_heightAt 4 = .ok (.iload_n 1, 1) := by decide +kernel
theorem dX2_heightAt_5 : decode cX2_heightAt 5 = .ok (.bipush 20, 2) := by decide +kernel
theorem dX2_heightAt_7 : decode cX2_heightAt 7 = .ok (.if_icmp .ge 12, 3) := by decide +kernel
theorem dX2_heightAt_10 : decode cX2_heightAt 10 = .ok (.aload_n 0, 1) := by decide +kernel
theorem dX2_heightAt_11 : decode cX2_heightAt 11 = .ok (.getfield 15, 3) := by decide +kernel
theorem dX2_heightAt_14 : decode cX2_heightAt 14 = .ok (.iload_n 1, 1) := by decide +kernel
theorem dX2_heightAt_15 : decode cX2_heightAt 15 = .ok (.iaload, 1) := by decide +kernel
theorem dX2_heightAt_16 : decode cX2_heightAt 16 = .ok (.goto 4, 3) := by decide +kernel
theorem dX2_heightAt_19 : decode cX2_heightAt 19 = .ok (.iconst 0, 1) := by decide +kernel
theorem dX2_heightAt_20 : decode cX2_heightAt 20 = .ok (.ireturn, 1) := by decide +kernel
theorem dX2_add_0 : decode cX2_add 0 = .ok (.aload_n 0, 1) := by decide +kernel
theorem dX2_add_1 : decode cX2_add 1 = .ok (.getfield 18, 3) := by decide +kernel
theorem dX2_add_4 : decode cX2_add 4 = .ok (.bipush 20, 2) := by decide +kernel
theorem dX2_add_6 : decode cX2_add 6 = .ok (.if_icmp .ge 33, 3) := by decide +kernel
theorem dX2_add_9 : decode cX2_add 9 = .ok (.aload_n 0, 1) := by decide +kernel
theorem dX2_add_10 : decode cX2_add 10 = .ok (.getfield 9, 3) := by decide +kernel
theorem dX2_add_13 : decode cX2_add 13 = .ok (.aload_n 0, 1) := by decide +kernel
theorem dX2_add_14 : decode cX2_add 14 = .ok (.getfield 18, 3) := by decide +kernel
theorem dX2_add_17 : decode cX2_add 17 = .ok (.iload_n 1, 1) := by decide +kernel
theorem dX2_add_18 : decode cX2_add 18 = .ok (.iastore, 1) := by decide +kernel
theorem dX2_add_19 : decode cX2_add 19 = .ok (.aload_n 0, 1) := by decide +kernel
theorem dX2_add_20 : decode cX2_add 20 = .ok (.getfield 15, 3) := by decide +kernel
theorem dX2_add_23 : decode cX2_add 23 = .ok (.aload_n 0, 1) := by decide +kernel
theorem dX2_add_24 : decode cX2_add 24 = .ok (.getfield 18, 3) := by decide +kernel
theorem dX2_add_27 : decode cX2_add 27 = .ok (.iload_n 2, 1) := by decide +kernel
theorem dX2_add_28 : decode cX2_add 28 = .ok (.iastore, 1) := by decide +kernel
theorem dX2_add_29 : decode cX2_add 29 = .ok (.aload_n 0, 1) := by decide +kernel
theorem dX2_add_30 : decode cX2_add 30 = .ok (.dup, 1) := by decide +kernel
theorem dX2_add_31 : decode cX2_add 31 = .ok (.getfield 18, 3) := by decide +kernel
theorem dX2_add_34 : decode cX2_add 34 = .ok (.iconst 1, 1) := by decide +kernel
theorem dX2_add_35 : decode cX2_add 35 = .ok (.iadd, 1) := by decide +kernel
theorem dX2_add_36 : decode cX2_add 36 = .ok (.putfield 18, 3) := by decide +kernel
theorem dX2_add_39 : decode cX2_add 39 = .ok (.return_, 1) := by decide +kernel
theorem dX2_interpolate_0 : decode cX2_interpolate 0 = .ok (.aload_n 1, 1) := by decide +kernel
theorem dX2_interpolate_1 : decode cX2_interpolate 1 = .ok (.iconst 1, 1) := by decide +kernel
theorem dX2_interpolate_2 : decode cX2_interpolate 2 = .ok (.invokevirtual 22, 3) := by decide +kernel
theorem dX2_interpolate_5 : decode cX2_interpolate 5 = .ok (.aload_n 2, 1) := by decide +kernel
theorem dX2_interpolate_6 : decode cX2_interpolate 6 = .ok (.iconst 0, 1) := by decide +kernel
theorem dX2_interpolate_7 : decode cX2_interpolate 7 = .ok (.invokevirtual 22, 3) := by decide +kernel
theorem dX2_interpolate_10 : decode cX2_interpolate 10 = .ok (.iconst 0, 1) := by decide +kernel
theorem dX2_interpolate_11 : decode cX2_interpolate 11 = .ok (.istore 4, 2) := by decide +kernel
theorem dX2_interpolate_13 : decode cX2_interpolate 13 = .ok (.iload 4, 2) := by decide +kernel
theorem dX2_interpolate_15 : decode cX2_interpolate 15 = .ok (.aload_n 0, 1) := by decide +kernel
theorem dX2_interpolate_16 : decode cX2_interpolate 16 = .ok (.getfield 18, 3) := by decide +kernel
theorem dX2_interpolate_19 : decode cX2_interpolate 19 = .ok (.if_icmp .ge 89, 3) := by decide +kernel
theorem dX2_interpolate_22 : decode cX2_interpolate 22 = .ok (.iload 4, 2) := by decide +kernel
theorem dX2_interpolate_24 : decode cX2_interpolate 24 = .ok (.bipush 20, 2) := by decide +kernel
theorem dX2_interpolate_26 : decode cX2_interpolate 26 = .ok (.if_icmp .ge 82, 3) := by decide +kernel
theorem dX2_interpolate_29 : decode cX2_interpolate 29 = .ok (.aload_n 3, 1) := by decide +kernel
theorem dX2_interpolate_30 : decode cX2_interpolate 30 = .ok (.aload_n 0, 1) := by decide +kernel
theorem dX2_interpolate_31 : decode cX2_interpolate 31 = .ok (.getfield 15, 3) := by decide +kernel
theorem dX2_interpolate_34 : decode cX2_interpolate 34 = .ok (.iload 4, 2) := by decide +kernel
theorem dX2_interpolate_36 : decode cX2_interpolate 36 = .ok (.iaload, 1) := by decide +kernel
theorem dX2_interpolate_37 : decode cX2_interpolate 37 = .ok (.i2l, 1) := by decide +kernel
theorem dX2_interpolate_38 : decode cX2_interpolate 38 = .ok (.aload_n 2, 1) := by decide +kernel
theorem dX2_interpolate_39 : decode cX2_interpolate 39 = .ok (.aload_n 0, 1) := by decide +kernel
theorem dX2_interpolate_40 : decode cX2_interpolate 40 = .ok (.getfield 9, 3) := by decide +kernel
theorem dX2_interpolate_43 : decode cX2_interpolate 43 = .ok (.iload 4, 2) := by decide +kernel
theorem dX2_interpolate_45 : decode cX2_interpolate 45 = .ok (.iaload, 1) := by decide +kernel
theorem dX2_interpolate_46 : decode cX2_interpolate 46 = .ok (.aload_n 3, 1) := by decide +kernel
theorem dX2_interpolate_47 : decode cX2_interpolate 47 = .ok (.invokevirtual 28, 3) := by decide +kernel
theorem dX2_interpolate_50 : decode cX2_interpolate 50 = .ok (.i2l, 1) := by decide +kernel
theorem dX2_interpolate_51 : decode cX2_interpolate 51 = .ok (.lsub, 1) := by decide +kernel
theorem dX2_interpolate_52 : decode cX2_interpolate 52 = .ok (.invokevirtual 32, 3) := by decide +kernel
theorem dX2_interpolate_55 : decode cX2_interpolate 55 = .ok (.istore 5, 2) := by decide +kernel
theorem dX2_interpolate_57 : decode cX2_interpolate 57 = .ok (.aload_n 3, 1) := by decide +kernel
theorem dX2_interpolate_58 : decode cX2_interpolate 58 = .ok (.aload_n 1, 1) := by decide +kernel
theorem dX2_interpolate_59 : decode cX2_interpolate 59 = .ok (.aload_n 0, 1) := by decide +kernel
theorem dX2_interpolate_60 : decode cX2_interpolate 60 = .ok (.getfield 9, 3) := by decide +kernel
theorem dX2_interpolate_63 : decode cX2_interpolate 63 = .ok (.iload 4, 2) := by decide +kernel
theorem dX2_interpolate_65 : decode cX2_interpolate 65 = .ok (.iaload, 1) := by decide +kernel
theorem dX2_interpolate_66 : decode cX2_interpolate 66 = .ok (.aload_n 3, 1) := by decide +kernel
theorem dX2_interpolate_67 : decode cX2_interpolate 67 = .ok (.invokevirtual 28, 3) := by decide +kernel
theorem dX2_interpolate_70 : decode cX2_interpolate 70 = .ok (.invokevirtual 38, 3) := by decide +kernel
theorem dX2_interpolate_73 : decode cX2_interpolate 73 = .ok (.istore 6, 2) := by decide +kernel
theorem dX2_interpolate_75 : decode cX2_interpolate 75 = .ok (.aload_n 2, 1) := by decide +kernel
theorem dX2_interpolate_76 : decode cX2_interpolate 76 = .ok (.aload_n 1, 1) := by decide +kernel
theorem dX2_interpolate_77 : decode cX2_interpolate 77 = .ok (.aload_n 3, 1) := by decide +kernel
theorem dX2_interpolate_78 : decode cX2_interpolate 78 = .ok (.iload 5, 2) := by decide +kernel
theorem dX2_interpolate_80 : decode cX2_interpolate 80 = .ok (.iload 6, 2) := by decide +kernel
theorem dX2_interpolate_82 : decode cX2_interpolate 82 = .ok (.invokevirtual 42, 3) := by decide +kernel
theorem dX2_interpolate_85 : decode cX2_interpolate 85 = .ok (.iconst 0, 1) := by decide +kernel
theorem dX2_interpolate_86 : decode cX2_interpolate 86 = .ok (.aload_n 3, 1) := by decide +kernel
theorem dX2_interpolate_87 : decode cX2_interpolate 87 = .ok (.invokevirtual 46, 3) := by decide +kernel
theorem dX2_interpolate_90 : decode cX2_interpolate 90 = .ok (.aload_n 1, 1) := by decide +kernel
theorem dX2_interpolate_91 : decode cX2_interpolate 91 = .ok (.aload_n 0, 1) := by decide +kernel
theorem dX2_interpolate_92 : decode cX2_interpolate 92 = .ok (.getfield 9, 3) := by decide +kernel
theorem dX2_interpolate_95 : decode cX2_interpolate 95 = .ok (.iload 4, 2) := by decide +kernel
theorem dX2_interpolate_97 : decode cX2_interpolate 97 = .ok (.iaload, 1) := by decide +kernel
theorem dX2_interpolate_98 : decode cX2_interpolate 98 = .ok (.aload_n 3, 1) := by decide +kernel
theorem dX2_interpolate_99 : decode cX2_interpolate 99 = .ok (.invokevirtual 50, 3) := by decide +kernel
theorem dX2_interpolate_102 : decode cX2_interpolate 102 = .ok (.iinc 4 1, 3) := by decide +kernel
theorem dX2_interpolate_105 : decode cX2_interpolate 105 = .ok (.goto (-92), 3) := by decide +kernel
theorem dX2_interpolate_108 : decode cX2_interpolate 108 = .ok (.return_, 1) := by decide +kernel
theorem dX2_allOn_0 : decode cX2_allOn 0 = .ok (.iconst 0, 1) := by decide +kernel
theorem dX2_allOn_1 : decode cX2_allOn 1 = .ok (.istore_n 3, 1) := by decide +kernel
theorem dX2_allOn_2 : decode cX2_allOn 2 = .ok (.iload_n 3, 1) := by decide +kernel
theorem dX2_allOn_3 : decode cX2_allOn 3 = .ok (.aload_n 0, 1) := by decide +kernel
theorem dX2_allOn_4 : decode cX2_allOn 4 = .ok (.getfield 18, 3) := by decide +kernel
theorem dX2_allOn_7 : decode cX2_allOn 7 = .ok (.if_icmp .ge 71, 3) := by decide +kernel
theorem dX2_allOn_10 : decode cX2_allOn 10 = .ok (.iload_n 3, 1) := by decide +kernel
theorem dX2_allOn_11 : decode cX2_allOn 11 = .ok (.bipush 20, 2) := by decide +kernel
theorem dX2_allOn_13 : decode cX2_allOn 13 = .ok (.if_icmp .ge 65, 3) := by decide +kernel
theorem dX2_allOn_16 : decode cX2_allOn 16 = .ok (.aload_n 1, 1) := by decide +kernel
theorem dX2_allOn_17 : decode cX2_allOn 17 = .ok (.getfield 54, 3) := by decide +kernel
theorem dX2_allOn_20 : decode cX2_allOn 20 = .ok (.aload_n 0, 1) := by decide +kernel
theorem dX2_allOn_21 : decode cX2_allOn 21 = .ok (.getfield 9, 3) := by decide +kernel
theorem dX2_allOn_24 : decode cX2_allOn 24 = .ok (.iload_n 3, 1) := by decide +kernel
theorem dX2_allOn_25 : decode cX2_allOn 25 = .ok (.iaload, 1) := by decide +kernel
theorem dX2_allOn_26 : decode cX2_allOn 26 = .ok (.aload_n 2, 1) := by decide +kernel
theorem dX2_allOn_27 : decode cX2_allOn 27 = .ok (.invokevirtual 28, 3) := by decide +kernel
theorem dX2_allOn_30 : decode cX2_allOn 30 = .ok (.istore 4, 2) := by decide +kernel
theorem dX2_allOn_32 : decode cX2_allOn 32 = .ok (.aload_n 2, 1) := by decide +kernel
theorem dX2_allOn_33 : decode cX2_allOn 33 = .ok (.aload_n 0, 1) := by decide +kernel
theorem dX2_allOn_34 : decode cX2_allOn 34 = .ok (.getfield 15, 3) := by decide +kernel
theorem dX2_allOn_37 : decode cX2_allOn 37 = .ok (.iload_n 3, 1) := by decide +kernel
theorem dX2_allOn_38 : decode cX2_allOn 38 = .ok (.iaload, 1) := by decide +kernel
theorem dX2_allOn_39 : decode cX2_allOn 39 = .ok (.iload 4, 2) := by decide +kernel
theorem dX2_allOn_41 : decode cX2_allOn 41 = .ok (.invokevirtual 42, 3) := by decide +kernel
theorem dX2_allOn_44 : decode cX2_allOn 44 = .ok (.istore 5, 2) := by decide +kernel
theorem dX2_allOn_46 : decode cX2_allOn 46 = .ok (.iload 4, 2) := by decide +kernel
theorem dX2_allOn_48 : decode cX2_allOn 48 = .ok (.ifCond .eq 22, 3) := by decide +kernel
theorem dX2_allOn_51 : decode cX2_allOn 51 = .ok (.aload_n 1, 1) := by decide +kernel
theorem dX2_allOn_52 : decode cX2_allOn 52 = .ok (.getfield 60, 3) := by decide +kernel
theorem dX2_allOn_55 : decode cX2_allOn 55 = .ok (.aload_n 0, 1) := by decide +kernel
theorem dX2_allOn_56 : decode cX2_allOn 56 = .ok (.getfield 9, 3) := by decide +kernel
theorem dX2_allOn_59 : decode cX2_allOn 59 = .ok (.iload_n 3, 1) := by decide +kernel
theorem dX2_allOn_60 : decode cX2_allOn 60 = .ok (.iaload, 1) := by decide +kernel
theorem dX2_allOn_61 : decode cX2_allOn 61 = .ok (.aload_n 2, 1) := by decide +kernel
theorem dX2_allOn_62 : decode cX2_allOn 62 = .ok (.invokevirtual 28, 3) := by decide +kernel
theorem dX2_allOn_65 : decode cX2_allOn 65 = .ok (.iload 5, 2) := by decide +kernel
theorem dX2_allOn_67 : decode cX2_allOn 67 = .ok (.if_icmp .eq 5, 3) := by decide +kernel
theorem dX2_allOn_70 : decode cX2_allOn 70 = .ok (.iconst 0, 1) := by decide +kernel
theorem dX2_allOn_71 : decode cX2_allOn 71 = .ok (.ireturn, 1) := by decide +kernel
theorem dX2_allOn_72 : decode cX2_allOn 72 = .ok (.iinc 3 1, 3) := by decide +kernel
theorem dX2_allOn_75 : decode cX2_allOn 75 = .ok (.goto (-73), 3) := by decide +kernel
theorem dX2_allOn_78 : decode cX2_allOn 78 = .ok (.iconst 1, 1) := by decide +kernel
theorem dX2_allOn_79 : decode cX2_allOn 79 = .ok (.ireturn, 1) := by decide +kernel
theorem dX2_mixedInto_0 : decode cX2_mixedInto 0 = .ok (.lload_n 1, 1) := by decide +kernel
theorem dX2_mixedInto_1 : decode cX2_mixedInto 1 = .ok (.lstore_n 3, 1) := by decide +kernel
theorem dX2_mixedInto_2 : decode cX2_mixedInto 2 = .ok (.iconst 0, 1) := by decide +kernel
theorem dX2_mixedInto_3 : decode cX2_mixedInto 3 = .ok (.istore 5, 2) := by decide +kernel
theorem dX2_mixedInto_5 : decode cX2_mixedInto 5 = .ok (.iload 5, 2) := by decide +kernel
theorem dX2_mixedInto_7 : decode cX2_mixedInto 7 = .ok (.aload_n 0, 1) := by decide +kernel
theorem dX2_mixedInto_8 : decode cX2_mixedInto 8 = .ok (.getfield 18, 3) := by decide +kernel
theorem dX2_mixedInto_11 : decode cX2_mixedInto 11 = .ok (.if_icmp .ge 40, 3) := by decide +kernel
theorem dX2_mixedInto_14 : decode cX2_mixedInto 14 = .ok (.iload 5, 2) := by decide +kernel
theorem dX2_mixedInto_16 : decode cX2_mixedInto 16 = .ok (.bipush 20, 2) := by decide +kernel
theorem dX2_mixedInto_18 : decode cX2_mixedInto 18 = .ok (.if_icmp .ge 33, 3) := by decide +kernel
theorem dX2_mixedInto_21 : decode cX2_mixedInto 21 = .ok (.lload_n 3, 1) := by decide +kernel
theorem dX2_mixedInto_22 : decode cX2_mixedInto 22 = .ok (.aload_n 0, 1) := by decide +kernel
theorem dX2_mixedInto_23 : decode cX2_mixedInto 23 = .ok (.getfield 9, 3) := by decide +kernel
theorem dX2_mixedInto_26 : decode cX2_mixedInto 26 = .ok (.iload 5, 2) := by decide +kernel
theorem dX2_mixedInto_28 : decode cX2_mixedInto 28 = .ok (.iaload, 1) := by decide +kernel
theorem dX2_mixedInto_29 : decode cX2_mixedInto 29 = .ok (.i2l, 1) := by decide +kernel
theorem dX2_mixedInto_30 : decode cX2_mixedInto 30 = .ok (.invokestatic 63, 3) := by decide +kernel
theorem dX2_mixedInto_33 : decode cX2_mixedInto 33 = .ok (.aload_n 0, 1) := by decide +kernel
theorem dX2_mixedInto_34 : decode cX2_mixedInto 34 = .ok (.getfield 15, 3) := by decide +kernel
theorem dX2_mixedInto_37 : decode cX2_mixedInto 37 = .ok (.iload 5, 2) := by decide +kernel
theorem dX2_mixedInto_39 : decode cX2_mixedInto 39 = .ok (.iaload, 1) := by decide +kernel
theorem dX2_mixedInto_40 : decode cX2_mixedInto 40 = .ok (.i2l, 1) := by decide +kernel
theorem dX2_mixedInto_41 : decode cX2_mixedInto 41 = .ok (.invokestatic 63, 3) := by decide +kernel
theorem dX2_mixedInto_44 : decode cX2_mixedInto 44 = .ok (.lstore_n 3, 1) := by decide +kernel
theorem dX2_mixedInto_45 : decode cX2_mixedInto 45 = .ok (.iinc 5 1, 3) := by decide +kernel
theorem dX2_mixedInto_48 : decode cX2_mixedInto 48 = .ok (.goto (-43), 3) := by decide +kernel
theorem dX2_mixedInto_51 : decode cX2_mixedInto 51 = .ok (.lload_n 3, 1) := by decide +kernel
theorem dX2_mixedInto_52 : decode cX2_mixedInto 52 = .ok (.lreturn, 1) := by decide +kernel
theorem dX3_init_0 : decode cX3_init 0 = .ok (.aload_n 0, 1) := by decide +kernel
theorem dX3_init_1 : decode cX3_init 1 = .ok (.invokespecial 3, 3) := by decide +kernel
theorem dX3_init_4 : decode cX3_init 4 = .ok (.aload_n 0, 1) := by decide +kernel
theorem dX3_init_5 : decode cX3_init 5 = .ok (.bipush 42, 2) := by decide +kernel
theorem dX3_init_7 : decode cX3_init 7 = .ok (.newarray .int, 2) := by decide +kernel
theorem dX3_init_9 : decode cX3_init 9 = .ok (.putfield 9, 3) := by decide +kernel
theorem dX3_init_12 : decode cX3_init 12 = .ok (.return_, 1) := by decide +kernel
theorem dX3_at_0 : decode cX3_at 0 = .ok (.iload_n 1, 1) := by decide +kernel
theorem dX3_at_1 : decode cX3_at 1 = .ok (.ifCond .lt 18, 3) := by decide +kernel
theorem dX3_at_4 : decode cX3_at 4 = .ok (.iload_n 1, 1) := by decide +kernel
theorem dX3_at_5 : decode cX3_at 5 = .ok (.bipush 42, 2) := by decide +kernel
theorem dX3_at_7 : decode cX3_at 7 = .ok (.if_icmp .ge 12, 3) := by decide +kernel
theorem dX3_at_10 : decode cX3_at 10 = .ok (.aload_n 0, 1) := by decide +kernel
theorem dX3_at_11 : decode cX3_at 11 = .ok (.getfield 9, 3) := by decide +kernel
theorem dX3_at_14 : decode cX3_at 14 = .ok (.iload_n 1, 1) := by decide +kernel
theorem dX3_at_15 : decode cX3_at 15 = .ok (.iaload, 1) := by decide +kernel
theorem dX3_at_16 : decode cX3_at 16 = .ok (.goto 4, 3) := by decide +kernel
theorem dX3_at_19 : decode cX3_at 19 = .ok (.iconst 0, 1) := by decide +kernel
theorem dX3_at_20 : decode cX3_at 20 = .ok (.ireturn, 1) := by decide +kernel
theorem dX3_set_0 : decode cX3_set 0 = .ok (.iload_n 1, 1) := by decide +kernel
theorem dX3_set_1 : decode cX3_set 1 = .ok (.ifCond .lt 16, 3) := by decide +kernel
theorem dX3_set_4 : decode cX3_set 4 = .ok (.iload_n 1, 1) := by decide +kernel
theorem dX3_set_5 : decode cX3_set 5 = .ok (.bipush 42, 2) := by decide +kernel
theorem dX3_set_7 : decode cX3_set 7 = .ok (.if_icmp .ge 10, 3) := by decide +kernel
theorem dX3_set_10 : decode cX3_set 10 = .ok (.aload_n 0, 1) := by decide +kernel
theorem dX3_set_11 : decode cX3_set 11 = .ok (.getfield 9, 3) := by decide +kernel
theorem dX3_set_14 : decode cX3_set 14 = .ok (.iload_n 1, 1) := by decide +kernel
theorem dX3_set_15 : decode cX3_set 15 = .ok (.iload_n 2, 1) := by decide +kernel
theorem dX3_set_16 : decode cX3_set 16 = .ok (.iastore, 1) := by decide +kernel
theorem dX3_set_17 : decode cX3_set 17 = .ok (.return_, 1) := by decide +kernel
theorem dX3_top_0 : decode cX3_top 0 = .ok (.bipush 41, 2) := by decide +kernel
theorem dX3_top_2 : decode cX3_top 2 = .ok (.istore_n 1, 1) := by decide +kernel
theorem dX3_top_3 : decode cX3_top 3 = .ok (.iload_n 1, 1) := by decide +kernel
theorem dX3_top_4 : decode cX3_top 4 = .ok (.ifCond .lt 18, 3) := by decide +kernel
theorem dX3_top_7 : decode cX3_top 7 = .ok (.aload_n 0, 1) := by decide +kernel
theorem dX3_top_8 : decode cX3_top 8 = .ok (.getfield 9, 3) := by decide +kernel
theorem dX3_top_11 : decode cX3_top 11 = .ok (.iload_n 1, 1) := by decide +kernel
theorem dX3_top_12 : decode cX3_top 12 = .ok (.iaload, 1) := by decide +kernel
theorem dX3_top_13 : decode cX3_top 13 = .ok (.ifCond .ne 9, 3) := by decide +kernel
theorem dX3_top_16 : decode cX3_top 16 = .ok (.iinc 1 (-1), 3) := by decide +kernel
theorem dX3_top_19 : decode cX3_top 19 = .ok (.goto (-16), 3) := by decide +kernel
theorem dX3_top_22 : decode cX3_top 22 = .ok (.iload_n 1, 1) := by decide +kernel
theorem dX3_top_23 : decode cX3_top 23 = .ok (.ireturn, 1) := by decide +kernel
theorem dX3_lowestTerm_0 : decode cX3_lowestTerm 0 = .ok (.iconst 0, 1) := by decide +kernel
theorem dX3_lowestTerm_1 : decode cX3_lowestTerm 1 = .ok (.istore_n 1, 1) := by decide +kernel
theorem dX3_lowestTerm_2 : decode cX3_lowestTerm 2 = .ok (.iload_n 1, 1) := by decide +kernel
theorem dX3_lowestTerm_3 : decode cX3_lowestTerm 3 = .ok (.bipush 42, 2) := by decide +kernel
theorem dX3_lowestTerm_5 : decode cX3_lowestTerm 5 = .ok (.if_icmp .ge 25, 3) := by decide +kernel
theorem dX3_lowestTerm_8 : decode cX3_lowestTerm 8 = .ok (.aload_n 0, 1) := by decide +kernel
theorem dX3_lowestTerm_9 : decode cX3_lowestTerm 9 = .ok (.getfield 9, 3) := by decide +kernel
theorem dX3_lowestTerm_12 : decode cX3_lowestTerm 12 = .ok (.iload_n 1, 1) := by decide +kernel
theorem dX3_lowestTerm_13 : decode cX3_lowestTerm 13 = .ok (.iaload, 1) := by decide +kernel
theorem dX3_lowestTerm_14 : decode cX3_lowestTerm 14 = .ok (.ifCond .eq 10, 3) := by decide +kernel
theorem dX3_lowestTerm_17 : decode cX3_lowestTerm 17 = .ok (.aload_n 0, 1) := by decide +kernel
theorem dX3_lowestTerm_18 : decode cX3_lowestTerm 18 = .ok (.getfield 9, 3) := by decide +kernel
theorem dX3_lowestTerm_21 : decode cX3_lowestTerm 21 = .ok (.iload_n 1, 1) := by decide +kernel
theorem dX3_lowestTerm_22 : decode cX3_lowestTerm 22 = .ok (.iaload, 1) := by decide +kernel
theorem dX3_lowestTerm_23 : decode cX3_lowestTerm 23 = .ok (.ireturn, 1) := by decide +kernel
theorem dX3_lowestTerm_24 : decode cX3_lowestTerm 24 = .ok (.iinc 1 1, 3) := by decide +kernel
theorem dX3_lowestTerm_27 : decode cX3_lowestTerm 27 = .ok (.goto (-25), 3) := by decide +kernel
theorem dX3_lowestTerm_30 : decode cX3_lowestTerm 30 = .ok (.iconst 0, 1) := by decide +kernel
theorem dX3_lowestTerm_31 : decode cX3_lowestTerm 31 = .ok (.ireturn, 1) := by decide +kernel
theorem dX3_becomeNumber_0 : decode cX3_becomeNumber 0 = .ok (.aload_n 0, 1) := by decide +kernel
theorem dX3_becomeNumber_1 : decode cX3_becomeNumber 1 = .ok (.getfield 9, 3) := by decide +kernel
theorem dX3_becomeNumber_4 : decode cX3_becomeNumber 4 = .ok (.iconst 0, 1) := by decide +kernel
theorem dX3_becomeNumber_5 : decode cX3_becomeNumber 5 = .ok (.invokestatic 15, 3) := by decide +kernel
theorem dX3_becomeNumber_8 : decode cX3_becomeNumber 8 = .ok (.aload_n 0, 1) := by decide +kernel
theorem dX3_becomeNumber_9 : decode cX3_becomeNumber 9 = .ok (.getfield 9, 3) := by decide +kernel
theorem dX3_becomeNumber_12 : decode cX3_becomeNumber 12 = .ok (.iconst 0, 1) := by decide +kernel
theorem dX3_becomeNumber_13 : decode cX3_becomeNumber 13 = .ok (.iload_n 1, 1) := by decide +kernel
theorem dX3_becomeNumber_14 : decode cX3_becomeNumber 14 = .ok (.iastore, 1) := by decide +kernel
theorem dX3_becomeNumber_15 : decode cX3_becomeNumber 15 = .ok (.return_, 1) := by decide +kernel
theorem dX3_become_0 : decode cX3_become 0 = .ok (.aload_n 1, 1) := by decide +kernel
theorem dX3_become_1 : decode cX3_become 1 = .ok (.getfield 9, 3) := by decide +kernel
theorem dX3_become_4 : decode cX3_become 4 = .ok (.iconst 0, 1) := by decide +kernel
theorem dX3_become_5 : decode cX3_become 5 = .ok (.aload_n 0, 1) := by decide +kernel
theorem dX3_become_6 : decode cX3_become 6 = .ok (.getfield 9, 3) := by decide +kernel
theorem dX3_become_9 : decode cX3_become 9 = .ok (.iconst 0, 1) := by decide +kernel
theorem dX3_become_10 : decode cX3_become 10 = .ok (.bipush 42, 2) := by decide +kernel
theorem dX3_become_12 : decode cX3_become 12 = .ok (.invokestatic 21, 3) := by decide +kernel
theorem dX3_become_15 : decode cX3_become 15 = .ok (.return_, 1) := by decide +kernel
theorem dX3_dropLowest_0 : decode cX3_dropLowest 0 = .ok (.aload_n 0, 1) := by decide +kernel
theorem dX3_dropLowest_1 : decode cX3_dropLowest 1 = .ok (.getfield 9, 3) := by decide +kernel
theorem dX3_dropLowest_4 : decode cX3_dropLowest 4 = .ok (.iconst 1, 1) := by decide +kernel
theorem dX3_dropLowest_5 : decode cX3_dropLowest 5 = .ok (.aload_n 0, 1) := by decide +kernel
theorem dX3_dropLowest_6 : decode cX3_dropLowest 6 = .ok (.getfield 9, 3) := by decide +kernel
theorem dX3_dropLowest_9 : decode cX3_dropLowest 9 = .ok (.iconst 0, 1) := by decide +kernel
theorem dX3_dropLowest_10 : decode cX3_dropLowest 10 = .ok (.bipush 41, 2) := by decide +kernel
theorem dX3_dropLowest_12 : decode cX3_dropLowest 12 = .ok (.invokestatic 21, 3) := by decide +kernel
theorem dX3_dropLowest_15 : decode cX3_dropLowest 15 = .ok (.aload_n 0, 1) := by decide +kernel
theorem dX3_dropLowest_16 : decode cX3_dropLowest 16 = .ok (.getfield 9, 3) := by decide +kernel
theorem dX3_dropLowest_19 : decode cX3_dropLowest 19 = .ok (.bipush 41, 2) := by decide +kernel
theorem dX3_dropLowest_21 : decode cX3_dropLowest 21 = .ok (.iconst 0, 1) := by decide +kernel
theorem dX3_dropLowest_22 : decode cX3_dropLowest 22 = .ok (.iastore, 1) := by decide +kernel
theorem dX3_dropLowest_23 : decode cX3_dropLowest 23 = .ok (.return_, 1) := by decide +kernel
theorem dX3_valueAt_0 : decode cX3_valueAt 0 = .ok (.iconst 0, 1) := by decide +kernel
theorem dX3_valueAt_1 : decode cX3_valueAt 1 = .ok (.istore_n 3, 1) := by decide +kernel
theorem dX3_valueAt_2 : decode cX3_valueAt 2 = .ok (.bipush 41, 2) := by decide +kernel
theorem dX3_valueAt_4 : decode cX3_valueAt 4 = .ok (.istore 4, 2) := by decide +kernel
theorem dX3_valueAt_6 : decode cX3_valueAt 6 = .ok (.iload 4, 2) := by decide +kernel
theorem dX3_valueAt_8 : decode cX3_valueAt 8 = .ok (.ifCond .lt 28, 3) := by decide +kernel
theorem dX3_valueAt_11 : decode cX3_valueAt 11 = .ok (.aload_n 2, 1) := by decide +kernel
theorem dX3_valueAt_12 : decode cX3_valueAt 12 = .ok (.iload_n 3, 1) := by decide +kernel
theorem dX3_valueAt_13 : decode cX3_valueAt 13 = .ok (.i2l, 1) := by decide +kernel
theorem dX3_valueAt_14 : decode cX3_valueAt 14 = .ok (.iload_n 1, 1) := by decide +kernel
theorem dX3_valueAt_15 : decode cX3_valueAt 15 = .ok (.i2l, 1) := by decide +kernel
theorem dX3_valueAt_16 : decode cX3_valueAt 16 = .ok (.lmul, 1) := by decide +kernel
theorem dX3_valueAt_17 : decode cX3_valueAt 17 = .ok (.aload_n 0, 1) := by decide +kernel
theorem dX3_valueAt_18 : decode cX3_valueAt 18 = .ok (.getfield 9, 3) := by decide +kernel
theorem dX3_valueAt_21 : decode cX3_valueAt 21 = .ok (.iload 4, 2) := by decide +kernel
theorem dX3_valueAt_23 : decode cX3_valueAt 23 = .ok (.iaload, 1) := by decide +kernel
theorem dX3_valueAt_24 : decode cX3_valueAt 24 = .ok (.i2l, 1) := by decide +kernel
theorem dX3_valueAt_25 : decode cX3_valueAt 25 = .ok (.ladd, 1) := by decide +kernel
theorem dX3_valueAt_26 : decode cX3_valueAt 26 = .ok (.invokevirtual 27, 3) := by decide +kernel
theorem dX3_valueAt_29 : decode cX3_valueAt 29 = .ok (.istore_n 3, 1) := by decide +kernel
theorem dX3_valueAt_30 : decode cX3_valueAt 30 = .ok (.iinc 4 (-1), 3) := by decide +kernel
theorem dX3_valueAt_33 : decode cX3_valueAt 33 = .ok (.goto (-27), 3) := by decide +kernel
theorem dX3_valueAt_36 : decode cX3_valueAt 36 = .ok (.iload_n 3, 1) := by decide +kernel
theorem dX3_valueAt_37 : decode cX3_valueAt 37 = .ok (.ireturn, 1) := by decide +kernel
theorem dX3_scale_0 : decode cX3_scale 0 = .ok (.iconst 0, 1) := by decide +kernel
theorem dX3_scale_1 : decode cX3_scale 1 = .ok (.istore_n 3, 1) := by decide +kernel
theorem dX3_scale_2 : decode cX3_scale 2 = .ok (.iload_n 3, 1) := by decide +kernel
theorem dX3_scale_3 : decode cX3_scale 3 = .ok (.bipush 42, 2) := by decide +kernel
theorem dX3_scale_5 : decode cX3_scale 5 = .ok (.if_icmp .ge 26, 3) := by decide +kernel
theorem dX3_scale_8 : decode cX3_scale 8 = .ok (.aload_n 0, 1) := by decide +kernel
theorem dX3_scale_9 : decode cX3_scale 9 = .ok (.getfield 9, 3) := by decide +kernel
theorem dX3_scale_12 : decode cX3_scale 12 = .ok (.iload_n 3, 1) := by decide +kernel
theorem dX3_scale_13 : decode cX3_scale 13 = .ok (.aload_n 2, 1) := by decide +kernel
theorem dX3_scale_14 : decode cX3_scale 14 = .ok (.aload_n 0, 1) := by decide +kernel
theorem dX3_scale_15 : decode cX3_scale 15 = .ok (.getfield 9, 3) := by decide +kernel
theorem dX3_scale_18 : decode cX3_scale 18 = .ok (.iload_n 3, 1) := by decide +kernel
theorem dX3_scale_19 : decode cX3_scale 19 = .ok (.iaload, 1) := by decide +kernel
theorem dX3_scale_20 : decode cX3_scale 20 = .ok (.iload_n 1, 1) := by decide +kernel
theorem dX3_scale_21 : decode cX3_scale 21 = .ok (.invokevirtual 33, 3) := by decide +kernel
theorem dX3_scale_24 : decode cX3_scale 24 = .ok (.iastore, 1) := by decide +kernel
theorem dX3_scale_25 : decode cX3_scale 25 = .ok (.iinc 3 1, 3) := by decide +kernel
theorem dX3_scale_28 : decode cX3_scale 28 = .ok (.goto (-26), 3) := by decide +kernel
theorem dX3_scale_31 : decode cX3_scale 31 = .ok (.return_, 1) := by decide +kernel
theorem dX3_addMultiple_0 : decode cX3_addMultiple 0 = .ok (.iload_n 3, 1) := by decide +kernel
theorem dX3_addMultiple_1 : decode cX3_addMultiple 1 = .ok (.istore 5, 2) := by decide +kernel
theorem dX3_addMultiple_3 : decode cX3_addMultiple 3 = .ok (.iload 5, 2) := by decide +kernel
theorem dX3_addMultiple_5 : decode cX3_addMultiple 5 = .ok (.bipush 42, 2) := by decide +kernel
theorem dX3_addMultiple_7 : decode cX3_addMultiple 7 = .ok (.if_icmp .ge 40, 3) := by decide +kernel
theorem dX3_addMultiple_10 : decode cX3_addMultiple 10 = .ok (.aload_n 0, 1) := by decide +kernel
theorem dX3_addMultiple_11 : decode cX3_addMultiple 11 = .ok (.iload 5, 2) := by decide +kernel
theorem dX3_addMultiple_13 : decode cX3_addMultiple 13 = .ok (.aload 4, 2) := by decide +kernel
theorem dX3_addMultiple_15 : decode cX3_addMultiple 15 = .ok (.aload_n 0, 1) := by decide +kernel
theorem dX3_addMultiple_16 : decode cX3_addMultiple 16 = .ok (.iload 5, 2) := by decide +kernel
theorem dX3_addMultiple_18 : decode cX3_addMultiple 18 = .ok (.invokevirtual 37, 3) := by decide +kernel
theorem dX3_addMultiple_21 : decode cX3_addMultiple 21 = .ok (.i2l, 1) := by decide +kernel
theorem dX3_addMultiple_22 : decode cX3_addMultiple 22 = .ok (.iload_n 2, 1) := by decide +kernel
theorem dX3_addMultiple_23 : decode cX3_addMultiple 23 = .ok (.i2l, 1) := by decide +kernel
theorem dX3_addMultiple_24 : decode cX3_addMultiple 24 = .ok (.aload_n 1, 1) := by decide +kernel
theorem dX3_addMultiple_25 : decode cX3_addMultiple 25 = .ok (.iload 5, 2) := by decide +kernel
theorem dX3_addMultiple_27 : decode cX3_addMultiple 27 = .ok (.iload_n 3, 1) := by decide +kernel
theorem dX3_addMultiple_28 : decode cX3_addMultiple 28 = .ok (.isub, 1) := by decide +kernel
theorem dX3_addMultiple_29 : decode cX3_addMultiple 29 = .ok (.invokevirtual 37, 3) := by decide +kernel
theorem dX3_addMultiple_32 : decode cX3_addMultiple 32 = .ok (.i2l, 1) := by decide +kernel
theorem dX3_addMultiple_33 : decode cX3_addMultiple 33 = .ok (.lmul, 1) := by decide +kernel
theorem dX3_addMultiple_34 : decode cX3_addMultiple 34 = .ok (.ladd, 1) := by decide +kernel
theorem dX3_addMultiple_35 : decode cX3_addMultiple 35 = .ok (.invokevirtual 27, 3) := by decide +kernel
theorem dX3_addMultiple_38 : decode cX3_addMultiple 38 = .ok (.invokevirtual 41, 3) := by decide +kernel
theorem dX3_addMultiple_41 : decode cX3_addMultiple 41 = .ok (.iinc 5 1, 3) := by decide +kernel
theorem dX3_addMultiple_44 : decode cX3_addMultiple 44 = .ok (.goto (-41), 3) := by decide +kernel
theorem dX3_addMultiple_47 : decode cX3_addMultiple 47 = .ok (.return_, 1) := by decide +kernel
theorem dX3_subtractProduct_0 : decode cX3_subtractProduct 0 = .ok (.aload_n 1, 1) := by decide +kernel
theorem dX3_subtractProduct_1 : decode cX3_subtractProduct 1 = .ok (.invokevirtual 45, 3) := by decide +kernel
theorem dX3_subtractProduct_4 : decode cX3_subtractProduct 4 = .ok (.istore 4, 2) := by decide +kernel
theorem dX3_subtractProduct_6 : decode cX3_subtractProduct 6 = .ok (.iconst 0, 1) := by decide +kernel
theorem dX3_subtractProduct_7 : decode cX3_subtractProduct 7 = .ok (.istore 5, 2) := by decide +kernel
theorem dX3_subtractProduct_9 : decode cX3_subtractProduct 9 = .ok (.iload 5, 2) := by decide +kernel
theorem dX3_subtractProduct_11 : decode cX3_subtractProduct 11 = .ok (.iload 4, 2) := by decide +kernel
theorem dX3_subtractProduct_13 : decode cX3_subtractProduct 13 = .ok (.if_icmp .gt 27, 3) := by decide +kernel
theorem dX3_subtractProduct_16 : decode cX3_subtractProduct 16 = .ok (.aload_n 0, 1) := by decide +kernel
theorem dX3_subtractProduct_17 : decode cX3_subtractProduct 17 = .ok (.aload_n 2, 1) := by decide +kernel
theorem dX3_subtractProduct_18 : decode cX3_subtractProduct 18 = .ok (.aload_n 3, 1) := by decide +kernel
theorem dX3_subtractProduct_19 : decode cX3_subtractProduct 19 = .ok (.aload_n 1, 1) := by decide +kernel
theorem dX3_subtractProduct_20 : decode cX3_subtractProduct 20 = .ok (.iload 5, 2) := by decide +kernel
theorem dX3_subtractProduct_22 : decode cX3_subtractProduct 22 = .ok (.invokevirtual 37, 3) := by decide +kernel
theorem dX3_subtractProduct_25 : decode cX3_subtractProduct 25 = .ok (.invokevirtual 49, 3) := by decide +kernel
theorem dX3_subtractProduct_28 : decode cX3_subtractProduct 28 = .ok (.iload 5, 2) := by decide +kernel
theorem dX3_subtractProduct_30 : decode cX3_subtractProduct 30 = .ok (.aload_n 3, 1) := by decide +kernel
theorem dX3_subtractProduct_31 : decode cX3_subtractProduct 31 = .ok (.invokevirtual 52, 3) := by decide +kernel
theorem dX3_subtractProduct_34 : decode cX3_subtractProduct 34 = .ok (.iinc 5 1, 3) := by decide +kernel
theorem dX3_subtractProduct_37 : decode cX3_subtractProduct 37 = .ok (.goto (-28), 3) := by decide +kernel
theorem dX3_subtractProduct_40 : decode cX3_subtractProduct 40 = .ok (.return_, 1) := by decide +kernel
theorem dX3_addRoot_0 : decode cX3_addRoot 0 = .ok (.bipush 41, 2) := by decide +kernel
theorem dX3_addRoot_2 : decode cX3_addRoot 2 = .ok (.istore_n 3, 1) := by decide +kernel
theorem dX3_addRoot_3 : decode cX3_addRoot 3 = .ok (.iload_n 3, 1) := by decide +kernel
theorem dX3_addRoot_4 : decode cX3_addRoot 4 = .ok (.ifCond .lt 38, 3) := by decide +kernel
theorem dX3_addRoot_7 : decode cX3_addRoot 7 = .ok (.aload_n 0, 1) := by decide +kernel
theorem dX3_addRoot_8 : decode cX3_addRoot 8 = .ok (.getfield 9, 3) := by decide +kernel
theorem dX3_addRoot_11 : decode cX3_addRoot 11 = .ok (.iload_n 3, 1) := by decide +kernel
theorem dX3_addRoot_12 : decode cX3_addRoot 12 = .ok (.aload_n 2, 1) := by decide +kernel
theorem dX3_addRoot_13 : decode cX3_addRoot 13 = .ok (.aload_n 0, 1) := by decide +kernel
theorem dX3_addRoot_14 : decode cX3_addRoot 14 = .ok (.iload_n 3, 1) := by decide +kernel
theorem dX3_addRoot_15 : decode cX3_addRoot 15 = .ok (.iconst 1, 1) := by decide +kernel
theorem dX3_addRoot_16 : decode cX3_addRoot 16 = .ok (.isub, 1) := by decide +kernel
theorem dX3_addRoot_17 : decode cX3_addRoot 17 = .ok (.invokevirtual 37, 3) := by decide +kernel
theorem dX3_addRoot_20 : decode cX3_addRoot 20 = .ok (.i2l, 1) := by decide +kernel
theorem dX3_addRoot_21 : decode cX3_addRoot 21 = .ok (.iload_n 1, 1) := by decide +kernel
theorem dX3_addRoot_22 : decode cX3_addRoot 22 = .ok (.i2l, 1) := by decide +kernel
theorem dX3_addRoot_23 : decode cX3_addRoot 23 = .ok (.aload_n 0, 1) := by decide +kernel
theorem dX3_addRoot_24 : decode cX3_addRoot 24 = .ok (.getfield 9, 3) := by decide +kernel
theorem dX3_addRoot_27 : decode cX3_addRoot 27 = .ok (.iload_n 3, 1) := by decide +kernel
theorem dX3_addRoot_28 : decode cX3_addRoot 28 = .ok (.iaload, 1) := by decide +kernel
theorem dX3_addRoot_29 : decode cX3_addRoot 29 = .ok (.i2l, 1) := by decide +kernel
theorem dX3_addRoot_30 : decode cX3_addRoot 30 = .ok (.lmul, 1) := by decide +kernel
theorem dX3_addRoot_31 : decode cX3_addRoot 31 = .ok (.lsub, 1) := by decide +kernel
theorem dX3_addRoot_32 : decode cX3_addRoot 32 = .ok (.invokevirtual 27, 3) := by decide +kernel
theorem dX3_addRoot_35 : decode cX3_addRoot 35 = .ok (.iastore, 1) := by decide +kernel
theorem dX3_addRoot_36 : decode cX3_addRoot 36 = .ok (.iinc 3 (-1), 3) := by decide +kernel
theorem dX3_addRoot_39 : decode cX3_addRoot 39 = .ok (.goto (-36), 3) := by decide +kernel
theorem dX3_addRoot_42 : decode cX3_addRoot 42 = .ok (.return_, 1) := by decide +kernel
theorem dX3_divide_0 : decode cX3_divide 0 = .ok (.aload_n 2, 1) := by decide +kernel
theorem dX3_divide_1 : decode cX3_divide 1 = .ok (.iconst 0, 1) := by decide +kernel
theorem dX3_divide_2 : decode cX3_divide 2 = .ok (.invokevirtual 56, 3) := by decide +kernel
theorem dX3_divide_5 : decode cX3_divide 5 = .ok (.aload_n 1, 1) := by decide +kernel
theorem dX3_divide_6 : decode cX3_divide 6 = .ok (.invokevirtual 45, 3) := by decide +kernel
theorem dX3_divide_9 : decode cX3_divide 9 = .ok (.istore 4, 2) := by decide +kernel
theorem dX3_divide_11 : decode cX3_divide 11 = .ok (.iload 4, 2) := by decide +kernel
theorem dX3_divide_13 : decode cX3_divide 13 = .ok (.ifCond .ge 4, 3) := by decide +kernel
theorem dX3_divide_16 : decode cX3_divide 16 = .ok (.return_, 1) := by decide +kernel
theorem dX3_divide_17 : decode cX3_divide 17 = .ok (.aload_n 3, 1) := by decide +kernel
theorem dX3_divide_18 : decode cX3_divide 18 = .ok (.aload_n 1, 1) := by decide +kernel
theorem dX3_divide_19 : decode cX3_divide 19 = .ok (.iload 4, 2) := by decide +kernel
theorem dX3_divide_21 : decode cX3_divide 21 = .ok (.invokevirtual 37, 3) := by decide +kernel
theorem dX3_divide_24 : decode cX3_divide 24 = .ok (.invokevirtual 60, 3) := by decide +kernel
theorem dX3_divide_27 : decode cX3_divide 27 = .ok (.istore 5, 2) := by decide +kernel
theorem dX3_divide_29 : decode cX3_divide 29 = .ok (.aload_n 0, 1) := by decide +kernel
theorem dX3_divide_30 : decode cX3_divide 30 = .ok (.invokevirtual 45, 3) := by decide +kernel
theorem dX3_divide_33 : decode cX3_divide 33 = .ok (.istore 6, 2) := by decide +kernel
theorem dX3_divide_35 : decode cX3_divide 35 = .ok (.iload 6, 2) := by decide +kernel
theorem dX3_divide_37 : decode cX3_divide 37 = .ok (.iload 4, 2) := by decide +kernel
theorem dX3_divide_39 : decode cX3_divide 39 = .ok (.if_icmp .lt 51, 3) := by decide +kernel
theorem dX3_divide_42 : decode cX3_divide 42 = .ok (.aload_n 3, 1) := by decide +kernel
theorem dX3_divide_43 : decode cX3_divide 43 = .ok (.aload_n 0, 1) := by decide +kernel
theorem dX3_divide_44 : decode cX3_divide 44 = .ok (.iload 6, 2) := by decide +kernel
theorem dX3_divide_46 : decode cX3_divide 46 = .ok (.invokevirtual 37, 3) := by decide +kernel
theorem dX3_divide_49 : decode cX3_divide 49 = .ok (.iload 5, 2) := by decide +kernel
theorem dX3_divide_51 : decode cX3_divide 51 = .ok (.invokevirtual 33, 3) := by decide +kernel
theorem dX3_divide_54 : decode cX3_divide 54 = .ok (.istore 7, 2) := by decide +kernel
theorem dX3_divide_56 : decode cX3_divide 56 = .ok (.aload_n 2, 1) := by decide +kernel
theorem dX3_divide_57 : decode cX3_divide 57 = .ok (.iload 6, 2) := by decide +kernel
theorem dX3_divide_59 : decode cX3_divide 59 = .ok (.iload 4, 2) := by decide +kernel
theorem dX3_divide_61 : decode cX3_divide 61 = .ok (.isub, 1) := by decide +kernel
theorem dX3_divide_62 : decode cX3_divide 62 = .ok (.iload 7, 2) := by decide +kernel
theorem dX3_divide_64 : decode cX3_divide 64 = .ok (.invokevirtual 41, 3) := by decide +kernel
theorem dX3_divide_67 : decode cX3_divide 67 = .ok (.aload_n 0, 1) := by decide +kernel
theorem dX3_divide_68 : decode cX3_divide 68 = .ok (.aload_n 1, 1) := by decide +kernel
theorem dX3_divide_69 : decode cX3_divide 69 = .ok (.aload_n 3, 1) := by decide +kernel
theorem dX3_divide_70 : decode cX3_divide 70 = .ok (.iload 7, 2) := by decide +kernel
theorem dX3_divide_72 : decode cX3_divide 72 = .ok (.invokevirtual 49, 3) := by decide +kernel
theorem dX3_divide_75 : decode cX3_divide 75 = .ok (.iload 6, 2) := by decide +kernel
theorem dX3_divide_77 : decode cX3_divide 77 = .ok (.iload 4, 2) := by decide +kernel
theorem dX3_divide_79 : decode cX3_divide 79 = .ok (.isub, 1) := by decide +kernel
theorem dX3_divide_80 : decode cX3_divide 80 = .ok (.aload_n 3, 1) := by decide +kernel
theorem dX3_divide_81 : decode cX3_divide 81 = .ok (.invokevirtual 52, 3) := by decide +kernel
theorem dX3_divide_84 : decode cX3_divide 84 = .ok (.iinc 6 (-1), 3) := by decide +kernel
theorem dX3_divide_87 : decode cX3_divide 87 = .ok (.goto (-52), 3) := by decide +kernel
theorem dX3_divide_90 : decode cX3_divide 90 = .ok (.return_, 1) := by decide +kernel
theorem dX3_mixedInto_0 : decode cX3_mixedInto 0 = .ok (.lload_n 1, 1) := by decide +kernel
theorem dX3_mixedInto_1 : decode cX3_mixedInto 1 = .ok (.lstore 4, 2) := by decide +kernel
theorem dX3_mixedInto_3 : decode cX3_mixedInto 3 = .ok (.iconst 0, 1) := by decide +kernel
theorem dX3_mixedInto_4 : decode cX3_mixedInto 4 = .ok (.istore 6, 2) := by decide +kernel
theorem dX3_mixedInto_6 : decode cX3_mixedInto 6 = .ok (.iload 6, 2) := by decide +kernel
theorem dX3_mixedInto_8 : decode cX3_mixedInto 8 = .ok (.iload_n 3, 1) := by decide +kernel
theorem dX3_mixedInto_9 : decode cX3_mixedInto 9 = .ok (.if_icmp .gt 23, 3) := by decide +kernel
theorem dX3_mixedInto_12 : decode cX3_mixedInto 12 = .ok (.lload 4, 2) := by decide +kernel
theorem dX3_mixedInto_14 : decode cX3_mixedInto 14 = .ok (.aload_n 0, 1) := by decide +kernel
theorem dX3_mixedInto_15 : decode cX3_mixedInto 15 = .ok (.iload 6, 2) := by decide +kernel
theorem dX3_mixedInto_17 : decode cX3_mixedInto 17 = .ok (.invokevirtual 37, 3) := by decide +kernel
theorem dX3_mixedInto_20 : decode cX3_mixedInto 20 = .ok (.i2l, 1) := by decide +kernel
theorem dX3_mixedInto_21 : decode cX3_mixedInto 21 = .ok (.invokestatic 63, 3) := by decide +kernel
theorem dX3_mixedInto_24 : decode cX3_mixedInto 24 = .ok (.lstore 4, 2) := by decide +kernel
theorem dX3_mixedInto_26 : decode cX3_mixedInto 26 = .ok (.iinc 6 1, 3) := by decide +kernel
theorem dX3_mixedInto_29 : decode cX3_mixedInto 29 = .ok (.goto (-23), 3) := by decide +kernel
theorem dX3_mixedInto_32 : decode cX3_mixedInto 32 = .ok (.lload 4, 2) := by decide +kernel
theorem dX3_mixedInto_34 : decode cX3_mixedInto 34 = .ok (.lreturn, 1) := by decide +kernel
theorem dX4_init_0 : decode cX4_init 0 = .ok (.aload_n 0, 1) := by decide +kernel
theorem dX4_init_1 : decode cX4_init 1 = .ok (.invokespecial 1, 3) := by decide +kernel
theorem dX4_init_4 : decode cX4_init 4 = .ok (.aload_n 0, 1) := by decide +kernel
theorem dX4_init_5 : decode cX4_init 5 = .ok (.new 7, 3) := by decide +kernel
theorem dX4_init_8 : decode cX4_init 8 = .ok (.dup, 1) := by decide +kernel
theorem dX4_init_9 : decode cX4_init 9 = .ok (.invokespecial 9, 3) := by decide +kernel
theorem dX4_init_12 : decode cX4_init 12 = .ok (.putfield 10, 3) := by decide +kernel
theorem dX4_init_15 : decode cX4_init 15 = .ok (.aload_n 0, 1) := by decide +kernel
theorem dX4_init_16 : decode cX4_init 16 = .ok (.new 7, 3) := by decide +kernel
theorem dX4_init_19 : decode cX4_init 19 = .ok (.dup, 1) := by decide +kernel
theorem dX4_init_20 : decode cX4_init 20 = .ok (.invokespecial 9, 3) := by decide +kernel
theorem dX4_init_23 : decode cX4_init 23 = .ok (.putfield 16, 3) := by decide +kernel
theorem dX4_init_26 : decode cX4_init 26 = .ok (.aload_n 0, 1) := by decide +kernel
theorem dX4_init_27 : decode cX4_init 27 = .ok (.new 7, 3) := by decide +kernel
theorem dX4_init_30 : decode cX4_init 30 = .ok (.dup, 1) := by decide +kernel
theorem dX4_init_31 : decode cX4_init 31 = .ok (.invokespecial 9, 3) := by decide +kernel
theorem dX4_init_34 : decode cX4_init 34 = .ok (.putfield 19, 3) := by decide +kernel
theorem dX4_init_37 : decode cX4_init 37 = .ok (.return_, 1) := by decide +kernel
end
section
theorem dX4_least_0 : decode cX4_least 0 = .ok (.aload_n 0, 1) := by decide +kernel
theorem dX4_least_1 : decode cX4_least 1 = .ok (.getfield 10, 3) := by decide +kernel
theorem dX4_least_4 : decode cX4_least 4 = .ok (.astore_n 3, 1) := by decide +kernel
theorem dX4_least_5 : decode cX4_least 5 = .ok (.aload_n 0, 1) := by decide +kernel
theorem dX4_least_6 : decode cX4_least 6 = .ok (.getfield 16, 3) := by decide +kernel
theorem dX4_least_9 : decode cX4_least 9 = .ok (.astore 4, 2) := by decide +kernel
theorem dX4_least_11 : decode cX4_least 11 = .ok (.aload_n 0, 1) := by decide +kernel
theorem dX4_least_12 : decode cX4_least 12 = .ok (.getfield 19, 3) := by decide +kernel
theorem dX4_least_15 : decode cX4_least 15 = .ok (.astore 5, 2) := by decide +kernel
theorem dX4_least_17 : decode cX4_least 17 = .ok (.aload_n 3, 1) := by decide +kernel
theorem dX4_least_18 : decode cX4_least 18 = .ok (.iconst 1, 1) := by decide +kernel
theorem dX4_least_19 : decode cX4_least 19 = .ok (.invokevirtual 22, 3) := by decide +kernel
theorem dX4_least_22 : decode cX4_least 22 = .ok (.aload 4, 2) := by decide +kernel
theorem dX4_least_24 : decode cX4_least 24 = .ok (.iconst 1, 1) := by decide +kernel
theorem dX4_least_25 : decode cX4_least 25 = .ok (.invokevirtual 22, 3) := by decide +kernel
theorem dX4_least_28 : decode cX4_least 28 = .ok (.iconst 0, 1) := by decide +kernel
theorem dX4_least_29 : decode cX4_least 29 = .ok (.istore 6, 2) := by decide +kernel
theorem dX4_least_31 : decode cX4_least 31 = .ok (.iconst 1, 1) := by decide +kernel
theorem dX4_least_32 : decode cX4_least 32 = .ok (.istore 7, 2) := by decide +kernel
theorem dX4_least_34 : decode cX4_least 34 = .ok (.iconst 1, 1) := by decide +kernel
theorem dX4_least_35 : decode cX4_least 35 = .ok (.istore 8, 2) := by decide +kernel
theorem dX4_least_37 : decode cX4_least 37 = .ok (.iconst 0, 1) := by decide +kernel
theorem dX4_least_38 : decode cX4_least 38 = .ok (.istore 9, 2) := by decide +kernel
theorem dX4_least_40 : decode cX4_least 40 = .ok (.iload 9, 2) := by decide +kernel
theorem dX4_least_42 : decode cX4_least 42 = .ok (.aload_n 1, 1) := by decide +kernel
theorem dX4_least_43 : decode cX4_least 43 = .ok (.getfield 26, 3) := by decide +kernel
theorem dX4_least_46 : decode cX4_least 46 = .ok (.if_icmp .gt 102, 3) := by decide +kernel
theorem dX4_least_49 : decode cX4_least 49 = .ok (.aload_n 0, 1) := by decide +kernel
theorem dX4_least_50 : decode cX4_least 50 = .ok (.iload 9, 2) := by decide +kernel
theorem dX4_least_52 : decode cX4_least 52 = .ok (.iload 6, 2) := by decide +kernel
theorem dX4_least_54 : decode cX4_least 54 = .ok (.aload_n 3, 1) := by decide +kernel
theorem dX4_least_55 : decode cX4_least 55 = .ok (.aload_n 1, 1) := by decide +kernel
theorem dX4_least_56 : decode cX4_least 56 = .ok (.aload_n 2, 1) := by decide +kernel
theorem dX4_least_57 : decode cX4_least 57 = .ok (.invokevirtual 32, 3) := by decide +kernel
theorem dX4_least_60 : decode cX4_least 60 = .ok (.istore 10, 2) := by decide +kernel
theorem dX4_least_62 : decode cX4_least 62 = .ok (.iload 10, 2) := by decide +kernel
theorem dX4_least_64 : decode cX4_least 64 = .ok (.ifCond .eq 75, 3) := by decide +kernel
theorem dX4_least_67 : decode cX4_least 67 = .ok (.aload_n 2, 1) := by decide +kernel
theorem dX4_least_68 : decode cX4_least 68 = .ok (.iload 10, 2) := by decide +kernel
theorem dX4_least_70 : decode cX4_least 70 = .ok (.aload_n 2, 1) := by decide +kernel
theorem dX4_least_71 : decode cX4_least 71 = .ok (.iload 8, 2) := by decide +kernel
theorem dX4_least_73 : decode cX4_least 73 = .ok (.invokevirtual 36, 3) := by decide +kernel
theorem dX4_least_76 : decode cX4_least 76 = .ok (.invokevirtual 42, 3) := by decide +kernel
theorem dX4_least_79 : decode cX4_least 79 = .ok (.istore 11, 2) := by decide +kernel
theorem dX4_least_81 : decode cX4_least 81 = .ok (.aload 5, 2) := by decide +kernel
theorem dX4_least_83 : decode cX4_least 83 = .ok (.aload_n 3, 1) := by decide +kernel
theorem dX4_least_84 : decode cX4_least 84 = .ok (.invokevirtual 46, 3) := by decide +kernel
theorem dX4_least_87 : decode cX4_least 87 = .ok (.aload_n 3, 1) := by decide +kernel
theorem dX4_least_88 : decode cX4_least 88 = .ok (.aload 4, 2) := by decide +kernel
theorem dX4_least_90 : decode cX4_least 90 = .ok (.aload_n 2, 1) := by decide +kernel
theorem dX4_least_91 : decode cX4_least 91 = .ok (.iload 11, 2) := by decide +kernel
theorem dX4_least_93 : decode cX4_least 93 = .ok (.invokevirtual 50, 3) := by decide +kernel
theorem dX4_least_96 : decode cX4_least 96 = .ok (.iload 7, 2) := by decide +kernel
theorem dX4_least_98 : decode cX4_least 98 = .ok (.aload_n 2, 1) := by decide +kernel
theorem dX4_least_99 : decode cX4_least 99 = .ok (.invokevirtual 53, 3) := by decide +kernel
theorem dX4_least_102 : decode cX4_least 102 = .ok (.iconst 2, 1) := by decide +kernel
theorem dX4_least_103 : decode cX4_least 103 = .ok (.iload 6, 2) := by decide +kernel
theorem dX4_least_105 : decode cX4_least 105 = .ok (.imul, 1) := by decide +kernel
theorem dX4_least_106 : decode cX4_least 106 = .ok (.iload 9, 2) := by decide +kernel
theorem dX4_least_108 : decode cX4_least 108 = .ok (.if_icmp .gt 31, 3) := by decide +kernel
theorem dX4_least_111 : decode cX4_least 111 = .ok (.iload 9, 2) := by decide +kernel
theorem dX4_least_113 : decode cX4_least 113 = .ok (.iconst 1, 1) := by decide +kernel
theorem dX4_least_114 : decode cX4_least 114 = .ok (.iadd, 1) := by decide +kernel
theorem dX4_least_115 : decode cX4_least 115 = .ok (.iload 6, 2) := by decide +kernel
theorem dX4_least_117 : decode cX4_least 117 = .ok (.isub, 1) := by decide +kernel
theorem dX4_least_118 : decode cX4_least 118 = .ok (.istore 6, 2) := by decide +kernel
theorem dX4_least_120 : decode cX4_least 120 = .ok (.iload 10, 2) := by decide +kernel
theorem dX4_least_122 : decode cX4_least 122 = .ok (.istore 8, 2) := by decide +kernel
theorem dX4_least_124 : decode cX4_least 124 = .ok (.iconst 0, 1) := by decide +kernel
theorem dX4_least_125 : decode cX4_least 125 = .ok (.istore 7, 2) := by decide +kernel
theorem dX4_least_127 : decode cX4_least 127 = .ok (.aload 4, 2) := by decide +kernel
theorem dX4_least_129 : decode cX4_least 129 = .ok (.astore 12, 2) := by decide +kernel
theorem dX4_least_131 : decode cX4_least 131 = .ok (.aload 5, 2) := by decide +kernel
theorem dX4_least_133 : decode cX4_least 133 = .ok (.astore 4, 2) := by decide +kernel
theorem dX4_least_135 : decode cX4_least 135 = .ok (.aload 12, 2) := by decide +kernel
theorem dX4_least_137 : decode cX4_least 137 = .ok (.astore 5, 2) := by decide +kernel
theorem dX4_least_139 : decode cX4_least 139 = .ok (.iinc 7 1, 3) := by decide +kernel
theorem dX4_least_142 : decode cX4_least 142 = .ok (.iinc 9 1, 3) := by decide +kernel
theorem dX4_least_145 : decode cX4_least 145 = .ok (.goto (-105), 3) := by decide +kernel
theorem dX4_least_148 : decode cX4_least 148 = .ok (.iload 6, 2) := by decide +kernel
theorem dX4_least_150 : decode cX4_least 150 = .ok (.ireturn, 1) := by decide +kernel
theorem dX4_faultAt_0 : decode cX4_faultAt 0 = .ok (.lconst 0, 1) := by decide +kernel
theorem dX4_faultAt_1 : decode cX4_faultAt 1 = .ok (.lstore 6, 2) := by decide +kernel
theorem dX4_faultAt_3 : decode cX4_faultAt 3 = .ok (.iconst 0, 1) := by decide +kernel
theorem dX4_faultAt_4 : decode cX4_faultAt 4 = .ok (.istore 8, 2) := by decide +kernel
theorem dX4_faultAt_6 : decode cX4_faultAt 6 = .ok (.iload 8, 2) := by decide +kernel
theorem dX4_faultAt_8 : decode cX4_faultAt 8 = .ok (.iload_n 2, 1) := by decide +kernel
theorem dX4_faultAt_9 : decode cX4_faultAt 9 = .ok (.if_icmp .gt 35, 3) := by decide +kernel
theorem dX4_faultAt_12 : decode cX4_faultAt 12 = .ok (.lload 6, 2) := by decide +kernel
theorem dX4_faultAt_14 : decode cX4_faultAt 14 = .ok (.aload_n 3, 1) := by decide +kernel
theorem dX4_faultAt_15 : decode cX4_faultAt 15 = .ok (.iload 8, 2) := by decide +kernel
theorem dX4_faultAt_17 : decode cX4_faultAt 17 = .ok (.invokevirtual 57, 3) := by decide +kernel
theorem dX4_faultAt_20 : decode cX4_faultAt 20 = .ok (.i2l, 1) := by decide +kernel
theorem dX4_faultAt_21 : decode cX4_faultAt 21 = .ok (.aload 4, 2) := by decide +kernel
theorem dX4_faultAt_23 : decode cX4_faultAt 23 = .ok (.getfield 60, 3) := by decide +kernel
theorem dX4_faultAt_26 : decode cX4_faultAt 26 = .ok (.iload_n 1, 1) := by decide +kernel
theorem dX4_faultAt_27 : decode cX4_faultAt 27 = .ok (.iload 8, 2) := by decide +kernel
theorem dX4_faultAt_29 : decode cX4_faultAt 29 = .ok (.isub, 1) := by decide +kernel
theorem dX4_faultAt_30 : decode cX4_faultAt 30 = .ok (.invokevirtual 57, 3) := by decide +kernel
theorem dX4_faultAt_33 : decode cX4_faultAt 33 = .ok (.i2l, 1) := by decide +kernel
theorem dX4_faultAt_34 : decode cX4_faultAt 34 = .ok (.lmul, 1) := by decide +kernel
theorem dX4_faultAt_35 : decode cX4_faultAt 35 = .ok (.ladd, 1) := by decide +kernel
theorem dX4_faultAt_36 : decode cX4_faultAt 36 = .ok (.lstore 6, 2) := by decide +kernel
theorem dX4_faultAt_38 : decode cX4_faultAt 38 = .ok (.iinc 8 1, 3) := by decide +kernel
theorem dX4_faultAt_41 : decode cX4_faultAt 41 = .ok (.goto (-35), 3) := by decide +kernel
theorem dX4_faultAt_44 : decode cX4_faultAt 44 = .ok (.aload 5, 2) := by decide +kernel
theorem dX4_faultAt_46 : decode cX4_faultAt 46 = .ok (.lload 6, 2) := by decide +kernel
theorem dX4_faultAt_48 : decode cX4_faultAt 48 = .ok (.invokevirtual 63, 3) := by decide +kernel
theorem dX4_faultAt_51 : decode cX4_faultAt 51 = .ok (.ireturn, 1) := by decide +kernel
theorem dX5_init_0 : decode cX5_init 0 = .ok (.aload_n 0, 1) := by decide +kernel
theorem dX5_init_1 : decode cX5_init 1 = .ok (.invokespecial 3, 3) := by decide +kernel
theorem dX5_init_4 : decode cX5_init 4 = .ok (.aload_n 0, 1) := by decide +kernel
theorem dX5_init_5 : decode cX5_init 5 = .ok (.sipush 30011, 3) := by decide +kernel
theorem dX5_init_8 : decode cX5_init 8 = .ok (.putfield 9, 3) := by decide +kernel
theorem dX5_init_11 : decode cX5_init 11 = .ok (.return_, 1) := by decide +kernel
theorem dX5_of_0 : decode cX5_of 0 = .ok (.aload_n 0, 1) := by decide +kernel
theorem dX5_of_1 : decode cX5_of 1 = .ok (.getfield 9, 3) := by decide +kernel
theorem dX5_of_4 : decode cX5_of 4 = .ok (.iconst 2, 1) := by decide +kernel
theorem dX5_of_5 : decode cX5_of 5 = .ok (.if_icmp .ge 5, 3) := by decide +kernel
theorem dX5_of_8 : decode cX5_of 8 = .ok (.iconst 0, 1) := by decide +kernel
theorem dX5_of_9 : decode cX5_of 9 = .ok (.ireturn, 1) := by decide +kernel
theorem dX5_of_10 : decode cX5_of 10 = .ok (.lload_n 1, 1) := by decide +kernel
theorem dX5_of_11 : decode cX5_of 11 = .ok (.aload_n 0, 1) := by decide +kernel
theorem dX5_of_12 : decode cX5_of 12 = .ok (.getfield 9, 3) := by decide +kernel
theorem dX5_of_15 : decode cX5_of 15 = .ok (.i2l, 1) := by decide +kernel
theorem dX5_of_16 : decode cX5_of 16 = .ok (.lrem, 1) := by decide +kernel
theorem dX5_of_17 : decode cX5_of 17 = .ok (.lstore_n 3, 1) := by decide +kernel
theorem dX5_of_18 : decode cX5_of 18 = .ok (.lload_n 3, 1) := by decide +kernel
theorem dX5_of_19 : decode cX5_of 19 = .ok (.lconst 0, 1) := by decide +kernel
theorem dX5_of_20 : decode cX5_of 20 = .ok (.lcmp, 1) := by decide +kernel
theorem dX5_of_21 : decode cX5_of 21 = .ok (.ifCond .ge 13, 3) := by decide +kernel
theorem dX5_of_24 : decode cX5_of 24 = .ok (.lload_n 3, 1) := by decide +kernel
theorem dX5_of_25 : decode cX5_of 25 = .ok (.aload_n 0, 1) := by decide +kernel
theorem dX5_of_26 : decode cX5_of 26 = .ok (.getfield 9, 3) := by decide +kernel
theorem dX5_of_29 : decode cX5_of 29 = .ok (.i2l, 1) := by decide +kernel
theorem dX5_of_30 : decode cX5_of 30 = .ok (.ladd, 1) := by decide +kernel
theorem dX5_of_31 : decode cX5_of 31 = .ok (.goto 4, 3) := by decide +kernel
theorem dX5_of_34 : decode cX5_of 34 = .ok (.lload_n 3, 1) := by decide +kernel
theorem dX5_of_35 : decode cX5_of 35 = .ok (.l2i, 1) := by decide +kernel
theorem dX5_of_36 : decode cX5_of 36 = .ok (.ireturn, 1) := by decide +kernel
theorem dX5_product_0 : decode cX5_product 0 = .ok (.aload_n 0, 1) := by decide +kernel
theorem dX5_product_1 : decode cX5_product 1 = .ok (.iload_n 1, 1) := by decide +kernel
theorem dX5_product_2 : decode cX5_product 2 = .ok (.i2l, 1) := by decide +kernel
theorem dX5_product_3 : decode cX5_product 3 = .ok (.iload_n 2, 1) := by decide +kernel
theorem dX5_product_4 : decode cX5_product 4 = .ok (.i2l, 1) := by decide +kernel
theorem dX5_product_5 : decode cX5_product 5 = .ok (.lmul, 1) := by decide +kernel
theorem dX5_product_6 : decode cX5_product 6 = .ok (.invokevirtual 15, 3) := by decide +kernel
theorem dX5_product_9 : decode cX5_product 9 = .ok (.ireturn, 1) := by decide +kernel
theorem dX5_negative_0 : decode cX5_negative 0 = .ok (.aload_n 0, 1) := by decide +kernel
theorem dX5_negative_1 : decode cX5_negative 1 = .ok (.iload_n 1, 1) := by decide +kernel
theorem dX5_negative_2 : decode cX5_negative 2 = .ok (.i2l, 1) := by decide +kernel
theorem dX5_negative_3 : decode cX5_negative 3 = .ok (.lneg, 1) := by decide +kernel
theorem dX5_negative_4 : decode cX5_negative 4 = .ok (.invokevirtual 15, 3) := by decide +kernel
theorem dX5_negative_7 : decode cX5_negative 7 = .ok (.ireturn, 1) := by decide +kernel
theorem dX5_inverse_0 : decode cX5_inverse 0 = .ok (.aload_n 0, 1) := by decide +kernel
theorem dX5_inverse_1 : decode cX5_inverse 1 = .ok (.getfield 9, 3) := by decide +kernel
theorem dX5_inverse_4 : decode cX5_inverse 4 = .ok (.iconst 2, 1) := by decide +kernel
theorem dX5_inverse_5 : decode cX5_inverse 5 = .ok (.isub, 1) := by decide +kernel
theorem dX5_inverse_6 : decode cX5_inverse 6 = .ok (.istore_n 2, 1) := by decide +kernel
theorem dX5_inverse_7 : decode cX5_inverse 7 = .ok (.iconst 1, 1) := by decide +kernel
theorem dX5_inverse_8 : decode cX5_inverse 8 = .ok (.istore_n 3, 1) := by decide +kernel
theorem dX5_inverse_9 : decode cX5_inverse 9 = .ok (.iload_n 1, 1) := by decide +kernel
theorem dX5_inverse_10 : decode cX5_inverse 10 = .ok (.istore 4, 2) := by decide +kernel
theorem dX5_inverse_12 : decode cX5_inverse 12 = .ok (.iconst 0, 1) := by decide +kernel
theorem dX5_inverse_13 : decode cX5_inverse 13 = .ok (.istore 5, 2) := by decide +kernel
theorem dX5_inverse_15 : decode cX5_inverse 15 = .ok (.iload 5, 2) := by decide +kernel
theorem dX5_inverse_17 : decode cX5_inverse 17 = .ok (.bipush 15, 2) := by decide +kernel
theorem dX5_inverse_19 : decode cX5_inverse 19 = .ok (.if_icmp .ge 43, 3) := by decide +kernel
theorem dX5_inverse_22 : decode cX5_inverse 22 = .ok (.iload_n 2, 1) := by decide +kernel
theorem dX5_inverse_23 : decode cX5_inverse 23 = .ok (.iload 5, 2) := by decide +kernel
theorem dX5_inverse_25 : decode cX5_inverse 25 = .ok (.ishr, 1) := by decide +kernel
theorem dX5_inverse_26 : decode cX5_inverse 26 = .ok (.iconst 1, 1) := by decide +kernel
theorem dX5_inverse_27 : decode cX5_inverse 27 = .ok (.iand, 1) := by decide +kernel
theorem dX5_inverse_28 : decode cX5_inverse 28 = .ok (.iconst 1, 1) := by decide +kernel
theorem dX5_inverse_29 : decode cX5_inverse 29 = .ok (.if_icmp .ne 14, 3) := by decide +kernel
theorem dX5_inverse_32 : decode cX5_inverse 32 = .ok (.aload_n 0, 1) := by decide +kernel
theorem dX5_inverse_33 : decode cX5_inverse 33 = .ok (.iload_n 3, 1) := by decide +kernel
theorem dX5_inverse_34 : decode cX5_inverse 34 = .ok (.i2l, 1) := by decide +kernel
theorem dX5_inverse_35 : decode cX5_inverse 35 = .ok (.iload 4, 2) := by decide +kernel
theorem dX5_inverse_37 : decode cX5_inverse 37 = .ok (.i2l, 1) := by decide +kernel
theorem dX5_inverse_38 : decode cX5_inverse 38 = .ok (.lmul, 1) := by decide +kernel
theorem dX5_inverse_39 : decode cX5_inverse 39 = .ok (.invokevirtual 15, 3) := by decide +kernel
theorem dX5_inverse_42 : decode cX5_inverse 42 = .ok (.istore_n 3, 1) := by decide +kernel
theorem dX5_inverse_43 : decode cX5_inverse 43 = .ok (.aload_n 0, 1) := by decide +kernel
theorem dX5_inverse_44 : decode cX5_inverse 44 = .ok (.iload 4, 2) := by decide +kernel
theorem dX5_inverse_46 : decode cX5_inverse 46 = .ok (.i2l, 1) := by decide +kernel
theorem dX5_inverse_47 : decode cX5_inverse 47 = .ok (.iload 4, 2) := by decide +kernel
theorem dX5_inverse_49 : decode cX5_inverse 49 = .ok (.i2l, 1) := by decide +kernel
theorem dX5_inverse_50 : decode cX5_inverse 50 = .ok (.lmul, 1) := by decide +kernel
theorem dX5_inverse_51 : decode cX5_inverse 51 = .ok (.invokevirtual 15, 3) := by decide +kernel
theorem dX5_inverse_54 : decode cX5_inverse 54 = .ok (.istore 4, 2) := by decide +kernel
theorem dX5_inverse_56 : decode cX5_inverse 56 = .ok (.iinc 5 1, 3) := by decide +kernel
theorem dX5_inverse_59 : decode cX5_inverse 59 = .ok (.goto (-44), 3) := by decide +kernel
theorem dX5_inverse_62 : decode cX5_inverse 62 = .ok (.iload_n 3, 1) := by decide +kernel
theorem dX5_inverse_63 : decode cX5_inverse 63 = .ok (.ireturn, 1) := by decide +kernel
theorem dX6_init_0 : decode cX6_init 0 = .ok (.aload_n 0, 1) := by decide +kernel
theorem dX6_init_1 : decode cX6_init 1 = .ok (.invokespecial 1, 3) := by decide +kernel
theorem dX6_init_4 : decode cX6_init 4 = .ok (.aload_n 0, 1) := by decide +kernel
theorem dX6_init_5 : decode cX6_init 5 = .ok (.new 7, 3) := by decide +kernel
theorem dX6_init_8 : decode cX6_init 8 = .ok (.dup, 1) := by decide +kernel
theorem dX6_init_9 : decode cX6_init 9 = .ok (.invokespecial 9, 3) := by decide +kernel
theorem dX6_init_12 : decode cX6_init 12 = .ok (.putfield 10, 3) := by decide +kernel
theorem dX6_init_15 : decode cX6_init 15 = .ok (.aload_n 0, 1) := by decide +kernel
theorem dX6_init_16 : decode cX6_init 16 = .ok (.iconst 0, 1) := by decide +kernel
theorem dX6_init_17 : decode cX6_init 17 = .ok (.putfield 16, 3) := by decide +kernel
theorem dX6_init_20 : decode cX6_init 20 = .ok (.return_, 1) := by decide +kernel
theorem dX7_init_0 : decode cX7_init 0 = .ok (.aload_n 0, 1) := by decide +kernel
theorem dX7_init_1 : decode cX7_init 1 = .ok (.invokespecial 1, 3) := by decide +kernel
theorem dX7_init_4 : decode cX7_init 4 = .ok (.aload_n 0, 1) := by decide +kernel
theorem dX7_init_5 : decode cX7_init 5 = .ok (.new 7, 3) := by decide +kernel
theorem dX7_init_8 : decode cX7_init 8 = .ok (.dup, 1) := by decide +kernel
theorem dX7_init_9 : decode cX7_init 9 = .ok (.invokespecial 9, 3) := by decide +kernel
theorem dX7_init_12 : decode cX7_init 12 = .ok (.putfield 10, 3) := by decide +kernel
theorem dX7_init_15 : decode cX7_init 15 = .ok (.aload_n 0, 1) := by decide +kernel
theorem dX7_init_16 : decode cX7_init 16 = .ok (.new 7, 3) := by decide +kernel
theorem dX7_init_19 : decode cX7_init 19 = .ok (.dup, 1) := by decide +kernel
theorem dX7_init_20 : decode cX7_init 20 = .ok (.invokespecial 9, 3) := by decide +kernel
theorem dX7_init_23 : decode cX7_init 23 = .ok (.putfield 16, 3) := by decide +kernel
theorem dX7_init_26 : decode cX7_init 26 = .ok (.aload_n 0, 1) := by decide +kernel
theorem dX7_init_27 : decode cX7_init 27 = .ok (.getfield 16, 3) := by decide +kernel
theorem dX7_init_30 : decode cX7_init 30 = .ok (.iconst 1, 1) := by decide +kernel
theorem dX7_init_31 : decode cX7_init 31 = .ok (.invokevirtual 19, 3) := by decide +kernel
theorem dX7_init_34 : decode cX7_init 34 = .ok (.return_, 1) := by decide +kernel
theorem dX7_becomeZero_0 : decode cX7_becomeZero 0 = .ok (.aload_n 0, 1) := by decide +kernel
theorem dX7_becomeZero_1 : decode cX7_becomeZero 1 = .ok (.getfield 10, 3) := by decide +kernel
theorem dX7_becomeZero_4 : decode cX7_becomeZero 4 = .ok (.iconst 0, 1) := by decide +kernel
theorem dX7_becomeZero_5 : decode cX7_becomeZero 5 = .ok (.invokevirtual 19, 3) := by decide +kernel
theorem dX7_becomeZero_8 : decode cX7_becomeZero 8 = .ok (.aload_n 0, 1) := by decide +kernel
theorem dX7_becomeZero_9 : decode cX7_becomeZero 9 = .ok (.getfield 16, 3) := by decide +kernel
theorem dX7_becomeZero_12 : decode cX7_becomeZero 12 = .ok (.iconst 1, 1) := by decide +kernel
theorem dX7_becomeZero_13 : decode cX7_becomeZero 13 = .ok (.invokevirtual 19, 3) := by decide +kernel
theorem dX7_becomeZero_16 : decode cX7_becomeZero 16 = .ok (.return_, 1) := by decide +kernel
theorem dX7_become_0 : decode cX7_become 0 = .ok (.aload_n 0, 1) := by decide +kernel
theorem dX7_become_1 : decode cX7_become 1 = .ok (.getfield 10, 3) := by decide +kernel
theorem dX7_become_4 : decode cX7_become 4 = .ok (.aload_n 1, 1) := by decide +kernel
theorem dX7_become_5 : decode cX7_become 5 = .ok (.getfield 10, 3) := by decide +kernel
theorem dX7_become_8 : decode cX7_become 8 = .ok (.invokevirtual 23, 3) := by decide +kernel
theorem dX7_become_11 : decode cX7_become 11 = .ok (.aload_n 0, 1) := by decide +kernel
theorem dX7_become_12 : decode cX7_become 12 = .ok (.getfield 16, 3) := by decide +kernel
theorem dX7_become_15 : decode cX7_become 15 = .ok (.aload_n 1, 1) := by decide +kernel
theorem dX7_become_16 : decode cX7_become 16 = .ok (.getfield 16, 3) := by decide +kernel
theorem dX7_become_19 : decode cX7_become 19 = .ok (.invokevirtual 23, 3) := by decide +kernel
theorem dX7_become_22 : decode cX7_become 22 = .ok (.return_, 1) := by decide +kernel
theorem dX7_side_0 : decode cX7_side 0 = .ok (.iload_n 1, 1) := by decide +kernel
theorem dX7_side_1 : decode cX7_side 1 = .ok (.ifCond .ne 8, 3) := by decide +kernel
theorem dX7_side_4 : decode cX7_side 4 = .ok (.aload_n 0, 1) := by decide +kernel
theorem dX7_side_5 : decode cX7_side 5 = .ok (.getfield 10, 3) := by decide +kernel
theorem dX7_side_8 : decode cX7_side 8 = .ok (.areturn, 1) := by decide +kernel
theorem dX7_side_9 : decode cX7_side 9 = .ok (.iload_n 1, 1) := by decide +kernel
theorem dX7_side_10 : decode cX7_side 10 = .ok (.iconst 1, 1) := by decide +kernel
theorem dX7_side_11 : decode cX7_side 11 = .ok (.if_icmp .ne 10, 3) := by decide +kernel
theorem dX7_side_14 : decode cX7_side 14 = .ok (.aload_n 0, 1) := by decide +kernel
theorem dX7_side_15 : decode cX7_side 15 = .ok (.getfield 16, 3) := by decide +kernel
theorem dX7_side_18 : decode cX7_side 18 = .ok (.goto 4, 3) := by decide +kernel
theorem dX7_side_21 : decode cX7_side 21 = .ok (.aconst_null, 1) := by decide +kernel
theorem dX7_side_22 : decode cX7_side 22 = .ok (.areturn, 1) := by decide +kernel
theorem dX7_unfoldInto_0 : decode cX7_unfoldInto 0 = .ok (.aload_n 1, 1) := by decide +kernel
theorem dX7_unfoldInto_1 : decode cX7_unfoldInto 1 = .ok (.iconst 0, 1) := by decide +kernel
theorem dX7_unfoldInto_2 : decode cX7_unfoldInto 2 = .ok (.invokevirtual 19, 3) := by decide +kernel
theorem dX7_unfoldInto_5 : decode cX7_unfoldInto 5 = .ok (.aload_n 3, 1) := by decide +kernel
theorem dX7_unfoldInto_6 : decode cX7_unfoldInto 6 = .ok (.aload_n 0, 1) := by decide +kernel
theorem dX7_unfoldInto_7 : decode cX7_unfoldInto 7 = .ok (.getfield 16, 3) := by decide +kernel
theorem dX7_unfoldInto_10 : decode cX7_unfoldInto 10 = .ok (.iconst 0, 1) := by decide +kernel
theorem dX7_unfoldInto_11 : decode cX7_unfoldInto 11 = .ok (.invokevirtual 27, 3) := by decide +kernel
theorem dX7_unfoldInto_14 : decode cX7_unfoldInto 14 = .ok (.invokevirtual 31, 3) := by decide +kernel
theorem dX7_unfoldInto_17 : decode cX7_unfoldInto 17 = .ok (.istore 4, 2) := by decide +kernel
theorem dX7_unfoldInto_19 : decode cX7_unfoldInto 19 = .ok (.iconst 0, 1) := by decide +kernel
theorem dX7_unfoldInto_20 : decode cX7_unfoldInto 20 = .ok (.istore 5, 2) := by decide +kernel
theorem dX7_unfoldInto_22 : decode cX7_unfoldInto 22 = .ok (.iload 5, 2) := by decide +kernel
theorem dX7_unfoldInto_24 : decode cX7_unfoldInto 24 = .ok (.iload_n 2, 1) := by decide +kernel
theorem dX7_unfoldInto_25 : decode cX7_unfoldInto 25 = .ok (.if_icmp .gt 81, 3) := by decide +kernel
theorem dX7_unfoldInto_28 : decode cX7_unfoldInto 28 = .ok (.aload_n 0, 1) := by decide +kernel
theorem dX7_unfoldInto_29 : decode cX7_unfoldInto 29 = .ok (.getfield 10, 3) := by decide +kernel
theorem dX7_unfoldInto_32 : decode cX7_unfoldInto 32 = .ok (.iload 5, 2) := by decide +kernel
theorem dX7_unfoldInto_34 : decode cX7_unfoldInto 34 = .ok (.invokevirtual 27, 3) := by decide +kernel
theorem dX7_unfoldInto_37 : decode cX7_unfoldInto 37 = .ok (.i2l, 1) := by decide +kernel
theorem dX7_unfoldInto_38 : decode cX7_unfoldInto 38 = .ok (.lstore 6, 2) := by decide +kernel
theorem dX7_unfoldInto_40 : decode cX7_unfoldInto 40 = .ok (.iconst 1, 1) := by decide +kernel
theorem dX7_unfoldInto_41 : decode cX7_unfoldInto 41 = .ok (.istore 8, 2) := by decide +kernel
theorem dX7_unfoldInto_43 : decode cX7_unfoldInto 43 = .ok (.iload 8, 2) := by decide +kernel
theorem dX7_unfoldInto_45 : decode cX7_unfoldInto 45 = .ok (.iload 5, 2) := by decide +kernel
theorem dX7_unfoldInto_47 : decode cX7_unfoldInto 47 = .ok (.if_icmp .gt 35, 3) := by decide +kernel
theorem dX7_unfoldInto_50 : decode cX7_unfoldInto 50 = .ok (.lload 6, 2) := by decide +kernel
theorem dX7_unfoldInto_52 : decode cX7_unfoldInto 52 = .ok (.aload_n 0, 1) := by decide +kernel
theorem dX7_unfoldInto_53 : decode cX7_unfoldInto 53 = .ok (.getfield 16, 3) := by decide +kernel
theorem dX7_unfoldInto_56 : decode cX7_unfoldInto 56 = .ok (.iload 8, 2) := by decide +kernel
theorem dX7_unfoldInto_58 : decode cX7_unfoldInto 58 = .ok (.invokevirtual 27, 3) := by decide +kernel
theorem dX7_unfoldInto_61 : decode cX7_unfoldInto 61 = .ok (.i2l, 1) := by decide +kernel
theorem dX7_unfoldInto_62 : decode cX7_unfoldInto 62 = .ok (.aload_n 1, 1) := by decide +kernel
theorem dX7_unfoldInto_63 : decode cX7_unfoldInto 63 = .ok (.iload 5, 2) := by decide +kernel
theorem dX7_unfoldInto_65 : decode cX7_unfoldInto 65 = .ok (.iload 8, 2) := by decide +kernel
theorem dX7_unfoldInto_67 : decode cX7_unfoldInto 67 = .ok (.isub, 1) := by decide +kernel
theorem dX7_unfoldInto_68 : decode cX7_unfoldInto 68 = .ok (.invokevirtual 27, 3) := by decide +kernel
theorem dX7_unfoldInto_71 : decode cX7_unfoldInto 71 = .ok (.i2l, 1) := by decide +kernel
theorem dX7_unfoldInto_72 : decode cX7_unfoldInto 72 = .ok (.lmul, 1) := by decide +kernel
theorem dX7_unfoldInto_73 : decode cX7_unfoldInto 73 = .ok (.lsub, 1) := by decide +kernel
theorem dX7_unfoldInto_74 : decode cX7_unfoldInto 74 = .ok (.lstore 6, 2) := by decide +kernel
theorem dX7_unfoldInto_76 : decode cX7_unfoldInto 76 = .ok (.iinc 8 1, 3) := by decide +kernel
theorem dX7_unfoldInto_79 : decode cX7_unfoldInto 79 = .ok (.goto (-36), 3) := by decide +kernel
theorem dX7_unfoldInto_82 : decode cX7_unfoldInto 82 = .ok (.aload_n 1, 1) := by decide +kernel
theorem dX7_unfoldInto_83 : decode cX7_unfoldInto 83 = .ok (.iload 5, 2) := by decide +kernel
theorem dX7_unfoldInto_85 : decode cX7_unfoldInto 85 = .ok (.aload_n 3, 1) := by decide +kernel
theorem dX7_unfoldInto_86 : decode cX7_unfoldInto 86 = .ok (.aload_n 3, 1) := by decide +kernel
theorem dX7_unfoldInto_87 : decode cX7_unfoldInto 87 = .ok (.lload 6, 2) := by decide +kernel
theorem dX7_unfoldInto_89 : decode cX7_unfoldInto 89 = .ok (.invokevirtual 36, 3) := by decide +kernel
theorem dX7_unfoldInto_92 : decode cX7_unfoldInto 92 = .ok (.iload 4, 2) := by decide +kernel
theorem dX7_unfoldInto_94 : decode cX7_unfoldInto 94 = .ok (.invokevirtual 40, 3) := by decide +kernel
theorem dX7_unfoldInto_97 : decode cX7_unfoldInto 97 = .ok (.invokevirtual 44, 3) := by decide +kernel
theorem dX7_unfoldInto_100 : decode cX7_unfoldInto 100 = .ok (.iinc 5 1, 3) := by decide +kernel
theorem dX7_unfoldInto_103 : decode cX7_unfoldInto 103 = .ok (.goto (-81), 3) := by decide +kernel
theorem dX7_unfoldInto_106 : decode cX7_unfoldInto 106 = .ok (.return_, 1) := by decide +kernel
theorem dX8_init_0 : decode cX8_init 0 = .ok (.aload_n 0, 1) := by decide +kernel
theorem dX8_init_1 : decode cX8_init 1 = .ok (.invokespecial 3, 3) := by decide +kernel
theorem dX8_init_4 : decode cX8_init 4 = .ok (.aload_n 0, 1) := by decide +kernel
theorem dX8_init_5 : decode cX8_init 5 = .ok (.bipush 60, 2) := by decide +kernel
theorem dX8_init_7 : decode cX8_init 7 = .ok (.newarray .long, 2) := by decide +kernel
theorem dX8_init_9 : decode cX8_init 9 = .ok (.putfield 9, 3) := by decide +kernel
theorem dX8_init_12 : decode cX8_init 12 = .ok (.aload_n 0, 1) := by decide +kernel
theorem dX8_init_13 : decode cX8_init 13 = .ok (.iconst 1, 1) := by decide +kernel
theorem dX8_init_14 : decode cX8_init 14 = .ok (.putfield 15, 3) := by decide +kernel
theorem dX8_init_17 : decode cX8_init 17 = .ok (.aload_n 0, 1) := by decide +kernel
theorem dX8_init_18 : decode cX8_init 18 = .ok (.iconst 0, 1) := by decide +kernel
theorem dX8_init_19 : decode cX8_init 19 = .ok (.putfield 19, 3) := by decide +kernel
theorem dX8_init_22 : decode cX8_init 22 = .ok (.aload_n 0, 1) := by decide +kernel
theorem dX8_init_23 : decode cX8_init 23 = .ok (.iconst 0, 1) := by decide +kernel
theorem dX8_init_24 : decode cX8_init 24 = .ok (.putfield 23, 3) := by decide +kernel
theorem dX8_init_27 : decode cX8_init 27 = .ok (.return_, 1) := by decide +kernel
theorem dX8_renew_0 : decode cX8_renew 0 = .ok (.aload_n 0, 1) := by decide +kernel
theorem dX8_renew_1 : decode cX8_renew 1 = .ok (.getfield 9, 3) := by decide +kernel
theorem dX8_renew_4 : decode cX8_renew 4 = .ok (.lconst 0, 1) := by decide +kernel
theorem dX8_renew_5 : decode cX8_renew 5 = .ok (.invokestatic 26, 3) := by decide +kernel
theorem dX8_renew_8 : decode cX8_renew 8 = .ok (.aload_n 0, 1) := by decide +kernel
theorem dX8_renew_9 : decode cX8_renew 9 = .ok (.iconst 0, 1) := by decide +kernel
theorem dX8_renew_10 : decode cX8_renew 10 = .ok (.putfield 15, 3) := by decide +kernel
theorem dX8_renew_13 : decode cX8_renew 13 = .ok (.aload_n 0, 1) := by decide +kernel
theorem dX8_renew_14 : decode cX8_renew 14 = .ok (.iload_n 1, 1) := by decide +kernel
theorem dX8_renew_15 : decode cX8_renew 15 = .ok (.putfield 19, 3) := by decide +kernel
theorem dX8_renew_18 : decode cX8_renew 18 = .ok (.aload_n 0, 1) := by decide +kernel
theorem dX8_renew_19 : decode cX8_renew 19 = .ok (.iload_n 2, 1) := by decide +kernel
theorem dX8_renew_20 : decode cX8_renew 20 = .ok (.putfield 23, 3) := by decide +kernel
theorem dX8_renew_23 : decode cX8_renew 23 = .ok (.return_, 1) := by decide +kernel
theorem dX8_hasPlaces_0 : decode cX8_hasPlaces 0 = .ok (.iload_n 2, 1) := by decide +kernel
theorem dX8_hasPlaces_1 : decode cX8_hasPlaces 1 = .ok (.ifCond .lt 21, 3) := by decide +kernel
theorem dX8_hasPlaces_4 : decode cX8_hasPlaces 4 = .ok (.iload_n 1, 1) := by decide +kernel
theorem dX8_hasPlaces_5 : decode cX8_hasPlaces 5 = .ok (.ifCond .lt 17, 3) := by decide +kernel
theorem dX8_hasPlaces_8 : decode cX8_hasPlaces 8 = .ok (.iload_n 1, 1) := by decide +kernel
theorem dX8_hasPlaces_9 : decode cX8_hasPlaces 9 = .ok (.aload_n 0, 1) := by decide +kernel
theorem dX8_hasPlaces_10 : decode cX8_hasPlaces 10 = .ok (.getfield 23, 3) := by decide +kernel
theorem dX8_hasPlaces_13 : decode cX8_hasPlaces 13 = .ok (.iload_n 2, 1) := by decide +kernel
theorem dX8_hasPlaces_14 : decode cX8_hasPlaces 14 = .ok (.isub, 1) := by decide +kernel
theorem dX8_hasPlaces_15 : decode cX8_hasPlaces 15 = .ok (.if_icmp .gt 7, 3) := by decide +kernel
theorem dX8_hasPlaces_18 : decode cX8_hasPlaces 18 = .ok (.iconst 1, 1) := by decide +kernel
theorem dX8_hasPlaces_19 : decode cX8_hasPlaces 19 = .ok (.goto 4, 3) := by decide +kernel
theorem dX8_hasPlaces_22 : decode cX8_hasPlaces 22 = .ok (.iconst 0, 1) := by decide +kernel
theorem dX8_hasPlaces_23 : decode cX8_hasPlaces 23 = .ok (.ireturn, 1) := by decide +kernel
theorem dX8_read_0 : decode cX8_read 0 = .ok (.iload_n 1, 1) := by decide +kernel
theorem dX8_read_1 : decode cX8_read 1 = .ok (.ifCond .lt 18, 3) := by decide +kernel
theorem dX8_read_4 : decode cX8_read 4 = .ok (.iload_n 1, 1) := by decide +kernel
theorem dX8_read_5 : decode cX8_read 5 = .ok (.bipush 60, 2) := by decide +kernel
theorem dX8_read_7 : decode cX8_read 7 = .ok (.if_icmp .ge 12, 3) := by decide +kernel
theorem dX8_read_10 : decode cX8_read 10 = .ok (.aload_n 0, 1) := by decide +kernel
theorem dX8_read_11 : decode cX8_read 11 = .ok (.getfield 9, 3) := by decide +kernel
theorem dX8_read_14 : decode cX8_read 14 = .ok (.iload_n 1, 1) := by decide +kernel
theorem dX8_read_15 : decode cX8_read 15 = .ok (.laload, 1) := by decide +kernel
theorem dX8_read_16 : decode cX8_read 16 = .ok (.goto 4, 3) := by decide +kernel
theorem dX8_read_19 : decode cX8_read 19 = .ok (.lconst 0, 1) := by decide +kernel
theorem dX8_read_20 : decode cX8_read 20 = .ok (.lreturn, 1) := by decide +kernel
theorem dX8_write_0 : decode cX8_write 0 = .ok (.iload_n 1, 1) := by decide +kernel
theorem dX8_write_1 : decode cX8_write 1 = .ok (.ifCond .lt 20, 3) := by decide +kernel
theorem dX8_write_4 : decode cX8_write 4 = .ok (.iload_n 1, 1) := by decide +kernel
theorem dX8_write_5 : decode cX8_write 5 = .ok (.bipush 60, 2) := by decide +kernel
theorem dX8_write_7 : decode cX8_write 7 = .ok (.if_icmp .ge 14, 3) := by decide +kernel
theorem dX8_write_10 : decode cX8_write 10 = .ok (.aload_n 0, 1) := by decide +kernel
theorem dX8_write_11 : decode cX8_write 11 = .ok (.getfield 9, 3) := by decide +kernel
theorem dX8_write_14 : decode cX8_write 14 = .ok (.iload_n 1, 1) := by decide +kernel
theorem dX8_write_15 : decode cX8_write 15 = .ok (.aload_n 0, 1) := by decide +kernel
theorem dX8_write_16 : decode cX8_write 16 = .ok (.lload_n 2, 1) := by decide +kernel
theorem dX8_write_17 : decode cX8_write 17 = .ok (.invokevirtual 32, 3) := by decide +kernel
theorem dX8_write_20 : decode cX8_write 20 = .ok (.lastore, 1) := by decide +kernel
theorem dX8_write_21 : decode cX8_write 21 = .ok (.return_, 1) := by decide +kernel
theorem dX8_castToLane_0 : decode cX8_castToLane 0 = .ok (.aload_n 0, 1) := by decide +kernel
theorem dX8_castToLane_1 : decode cX8_castToLane 1 = .ok (.getfield 19, 3) := by decide +kernel
theorem dX8_castToLane_4 : decode cX8_castToLane 4 = .ok (.tableswitch 42 0 2 #[28, 33, 38], 28) := by decide +kernel
theorem dX8_castToLane_32 : decode cX8_castToLane 32 = .ok (.lload_n 1, 1) := by decide +kernel
theorem dX8_castToLane_33 : decode cX8_castToLane 33 = .ok (.l2i, 1) := by decide +kernel
theorem dX8_castToLane_34 : decode cX8_castToLane 34 = .ok (.i2b, 1) := by decide +kernel
theorem dX8_castToLane_35 : decode cX8_castToLane 35 = .ok (.i2l, 1) := by decide +kernel
theorem dX8_castToLane_36 : decode cX8_castToLane 36 = .ok (.lreturn, 1) := by decide +kernel
theorem dX8_castToLane_37 : decode cX8_castToLane 37 = .ok (.lload_n 1, 1) := by decide +kernel
theorem dX8_castToLane_38 : decode cX8_castToLane 38 = .ok (.l2i, 1) := by decide +kernel
theorem dX8_castToLane_39 : decode cX8_castToLane 39 = .ok (.i2s, 1) := by decide +kernel
theorem dX8_castToLane_40 : decode cX8_castToLane 40 = .ok (.i2l, 1) := by decide +kernel
theorem dX8_castToLane_41 : decode cX8_castToLane 41 = .ok (.lreturn, 1) := by decide +kernel
theorem dX8_castToLane_42 : decode cX8_castToLane 42 = .ok (.lload_n 1, 1) := by decide +kernel
theorem dX8_castToLane_43 : decode cX8_castToLane 43 = .ok (.l2i, 1) := by decide +kernel
theorem dX8_castToLane_44 : decode cX8_castToLane 44 = .ok (.i2l, 1) := by decide +kernel
theorem dX8_castToLane_45 : decode cX8_castToLane 45 = .ok (.lreturn, 1) := by decide +kernel
theorem dX8_castToLane_46 : decode cX8_castToLane 46 = .ok (.lload_n 1, 1) := by decide +kernel
theorem dX8_castToLane_47 : decode cX8_castToLane 47 = .ok (.lreturn, 1) := by decide +kernel
theorem dX8_mixedInto_0 : decode cX8_mixedInto 0 = .ok (.aload_n 0, 1) := by decide +kernel
theorem dX8_mixedInto_1 : decode cX8_mixedInto 1 = .ok (.getfield 15, 3) := by decide +kernel
theorem dX8_mixedInto_4 : decode cX8_mixedInto 4 = .ok (.ifCond .eq 11, 3) := by decide +kernel
theorem dX8_mixedInto_7 : decode cX8_mixedInto 7 = .ok (.lload_n 1, 1) := by decide +kernel
theorem dX8_mixedInto_8 : decode cX8_mixedInto 8 = .ok (.ldc2_w 36, 3) := by decide +kernel
theorem dX8_mixedInto_11 : decode cX8_mixedInto 11 = .ok (.invokestatic 38, 3) := by decide +kernel
theorem dX8_mixedInto_14 : decode cX8_mixedInto 14 = .ok (.lreturn, 1) := by decide +kernel
theorem dX8_mixedInto_15 : decode cX8_mixedInto 15 = .ok (.lload_n 1, 1) := by decide +kernel
theorem dX8_mixedInto_16 : decode cX8_mixedInto 16 = .ok (.aload_n 0, 1) := by decide +kernel
theorem dX8_mixedInto_17 : decode cX8_mixedInto 17 = .ok (.getfield 23, 3) := by decide +kernel
theorem dX8_mixedInto_20 : decode cX8_mixedInto 20 = .ok (.i2l, 1) := by decide +kernel
theorem dX8_mixedInto_21 : decode cX8_mixedInto 21 = .ok (.invokestatic 38, 3) := by decide +kernel
theorem dX8_mixedInto_24 : decode cX8_mixedInto 24 = .ok (.lstore_n 3, 1) := by decide +kernel
theorem dX8_mixedInto_25 : decode cX8_mixedInto 25 = .ok (.iconst 0, 1) := by decide +kernel
theorem dX8_mixedInto_26 : decode cX8_mixedInto 26 = .ok (.istore 5, 2) := by decide +kernel
theorem dX8_mixedInto_28 : decode cX8_mixedInto 28 = .ok (.iload 5, 2) := by decide +kernel
theorem dX8_mixedInto_30 : decode cX8_mixedInto 30 = .ok (.aload_n 0, 1) := by decide +kernel
theorem dX8_mixedInto_31 : decode cX8_mixedInto 31 = .ok (.getfield 23, 3) := by decide +kernel
theorem dX8_mixedInto_34 : decode cX8_mixedInto 34 = .ok (.if_icmp .ge 28, 3) := by decide +kernel
theorem dX8_mixedInto_37 : decode cX8_mixedInto 37 = .ok (.iload 5, 2) := by decide +kernel
theorem dX8_mixedInto_39 : decode cX8_mixedInto 39 = .ok (.bipush 60, 2) := by decide +kernel
theorem dX8_mixedInto_41 : decode cX8_mixedInto 41 = .ok (.if_icmp .ge 21, 3) := by decide +kernel
theorem dX8_mixedInto_44 : decode cX8_mixedInto 44 = .ok (.lload_n 3, 1) := by decide +kernel
theorem dX8_mixedInto_45 : decode cX8_mixedInto 45 = .ok (.aload_n 0, 1) := by decide +kernel
theorem dX8_mixedInto_46 : decode cX8_mixedInto 46 = .ok (.getfield 9, 3) := by decide +kernel
theorem dX8_mixedInto_49 : decode cX8_mixedInto 49 = .ok (.iload 5, 2) := by decide +kernel
theorem dX8_mixedInto_51 : decode cX8_mixedInto 51 = .ok (.laload, 1) := by decide +kernel
theorem dX8_mixedInto_52 : decode cX8_mixedInto 52 = .ok (.invokestatic 38, 3) := by decide +kernel
theorem dX8_mixedInto_55 : decode cX8_mixedInto 55 = .ok (.lstore_n 3, 1) := by decide +kernel
theorem dX8_mixedInto_56 : decode cX8_mixedInto 56 = .ok (.iinc 5 1, 3) := by decide +kernel
theorem dX8_mixedInto_59 : decode cX8_mixedInto 59 = .ok (.goto (-31), 3) := by decide +kernel
theorem dX8_mixedInto_62 : decode cX8_mixedInto 62 = .ok (.lload_n 3, 1) := by decide +kernel
theorem dX8_mixedInto_63 : decode cX8_mixedInto 63 = .ok (.lreturn, 1) := by decide +kernel
theorem dX9_init_0 : decode cX9_init 0 = .ok (.aload_n 0, 1) := by decide +kernel
theorem dX9_init_1 : decode cX9_init 1 = .ok (.invokespecial 3, 3) := by decide +kernel
theorem dX9_init_4 : decode cX9_init 4 = .ok (.aload_n 0, 1) := by decide +kernel
theorem dX9_init_5 : decode cX9_init 5 = .ok (.new 9, 3) := by decide +kernel
theorem dX9_init_8 : decode cX9_init 8 = .ok (.dup, 1) := by decide +kernel
theorem dX9_init_9 : decode cX9_init 9 = .ok (.invokespecial 11, 3) := by decide +kernel
theorem dX9_init_12 : decode cX9_init 12 = .ok (.putfield 12, 3) := by decide +kernel
theorem dX9_init_15 : decode cX9_init 15 = .ok (.aload_n 0, 1) := by decide +kernel
theorem dX9_init_16 : decode cX9_init 16 = .ok (.iconst 4, 1) := by decide +kernel
theorem dX9_init_17 : decode cX9_init 17 = .ok (.anewarray 16, 3) := by decide +kernel
theorem dX9_init_20 : decode cX9_init 20 = .ok (.putfield 18, 3) := by decide +kernel
theorem dX9_init_23 : decode cX9_init 23 = .ok (.aload_n 0, 1) := by decide +kernel
theorem dX9_init_24 : decode cX9_init 24 = .ok (.bipush 10, 2) := by decide +kernel
theorem dX9_init_26 : decode cX9_init 26 = .ok (.anewarray 22, 3) := by decide +kernel
theorem dX9_init_29 : decode cX9_init 29 = .ok (.putfield 24, 3) := by decide +kernel
theorem dX9_init_32 : decode cX9_init 32 = .ok (.aload_n 0, 1) := by decide +kernel
theorem dX9_init_33 : decode cX9_init 33 = .ok (.iconst 0, 1) := by decide +kernel
theorem dX9_init_34 : decode cX9_init 34 = .ok (.putfield 28, 3) := by decide +kernel
theorem dX9_init_37 : decode cX9_init 37 = .ok (.aload_n 0, 1) := by decide +kernel
theorem dX9_init_38 : decode cX9_init 38 = .ok (.new 32, 3) := by decide +kernel
theorem dX9_init_41 : decode cX9_init 41 = .ok (.dup, 1) := by decide +kernel
theorem dX9_init_42 : decode cX9_init 42 = .ok (.invokespecial 34, 3) := by decide +kernel
theorem dX9_init_45 : decode cX9_init 45 = .ok (.putfield 35, 3) := by decide +kernel
theorem dX9_init_48 : decode cX9_init 48 = .ok (.aload_n 0, 1) := by decide +kernel
theorem dX9_init_49 : decode cX9_init 49 = .ok (.new 39, 3) := by decide +kernel
theorem dX9_init_52 : decode cX9_init 52 = .ok (.dup, 1) := by decide +kernel
theorem dX9_init_53 : decode cX9_init 53 = .ok (.invokespecial 41, 3) := by decide +kernel
theorem dX9_init_56 : decode cX9_init 56 = .ok (.putfield 42, 3) := by decide +kernel
theorem dX9_init_59 : decode cX9_init 59 = .ok (.aload_n 0, 1) := by decide +kernel
theorem dX9_init_60 : decode cX9_init 60 = .ok (.new 39, 3) := by decide +kernel
theorem dX9_init_63 : decode cX9_init 63 = .ok (.dup, 1) := by decide +kernel
theorem dX9_init_64 : decode cX9_init 64 = .ok (.invokespecial 41, 3) := by decide +kernel
theorem dX9_init_67 : decode cX9_init 67 = .ok (.putfield 46, 3) := by decide +kernel
theorem dX9_init_70 : decode cX9_init 70 = .ok (.aload_n 0, 1) := by decide +kernel
theorem dX9_init_71 : decode cX9_init 71 = .ok (.new 49, 3) := by decide +kernel
theorem dX9_init_74 : decode cX9_init 74 = .ok (.dup, 1) := by decide +kernel
theorem dX9_init_75 : decode cX9_init 75 = .ok (.invokespecial 51, 3) := by decide +kernel
theorem dX9_init_78 : decode cX9_init 78 = .ok (.putfield 52, 3) := by decide +kernel
theorem dX9_init_81 : decode cX9_init 81 = .ok (.aload_n 0, 1) := by decide +kernel
theorem dX9_init_82 : decode cX9_init 82 = .ok (.new 56, 3) := by decide +kernel
theorem dX9_init_85 : decode cX9_init 85 = .ok (.dup, 1) := by decide +kernel
theorem dX9_init_86 : decode cX9_init 86 = .ok (.invokespecial 58, 3) := by decide +kernel
theorem dX9_init_89 : decode cX9_init 89 = .ok (.putfield 59, 3) := by decide +kernel
theorem dX9_init_92 : decode cX9_init 92 = .ok (.aload_n 0, 1) := by decide +kernel
theorem dX9_init_93 : decode cX9_init 93 = .ok (.new 63, 3) := by decide +kernel
theorem dX9_init_96 : decode cX9_init 96 = .ok (.dup, 1) := by decide +kernel
theorem dX9_init_97 : decode cX9_init 97 = .ok (.invokespecial 65, 3) := by decide +kernel
theorem dX9_init_100 : decode cX9_init 100 = .ok (.putfield 66, 3) := by decide +kernel
theorem dX9_init_103 : decode cX9_init 103 = .ok (.aload_n 0, 1) := by decide +kernel
theorem dX9_init_104 : decode cX9_init 104 = .ok (.new 70, 3) := by decide +kernel
theorem dX9_init_107 : decode cX9_init 107 = .ok (.dup, 1) := by decide +kernel
theorem dX9_init_108 : decode cX9_init 108 = .ok (.invokespecial 72, 3) := by decide +kernel
theorem dX9_init_111 : decode cX9_init 111 = .ok (.putfield 73, 3) := by decide +kernel
theorem dX9_init_114 : decode cX9_init 114 = .ok (.aload_n 0, 1) := by decide +kernel
theorem dX9_init_115 : decode cX9_init 115 = .ok (.bipush 6, 2) := by decide +kernel
theorem dX9_init_117 : decode cX9_init 117 = .ok (.newarray .int, 2) := by decide +kernel
theorem dX9_init_119 : decode cX9_init 119 = .ok (.putfield 77, 3) := by decide +kernel
theorem dX9_init_122 : decode cX9_init 122 = .ok (.aload_n 0, 1) := by decide +kernel
theorem dX9_init_123 : decode cX9_init 123 = .ok (.iconst 0, 1) := by decide +kernel
theorem dX9_init_124 : decode cX9_init 124 = .ok (.putfield 81, 3) := by decide +kernel
theorem dX9_init_127 : decode cX9_init 127 = .ok (.iconst 0, 1) := by decide +kernel
theorem dX9_init_128 : decode cX9_init 128 = .ok (.istore_n 1, 1) := by decide +kernel
theorem dX9_init_129 : decode cX9_init 129 = .ok (.iload_n 1, 1) := by decide +kernel
theorem dX9_init_130 : decode cX9_init 130 = .ok (.iconst 4, 1) := by decide +kernel
theorem dX9_init_131 : decode cX9_init 131 = .ok (.if_icmp .ge 22, 3) := by decide +kernel
theorem dX9_init_134 : decode cX9_init 134 = .ok (.aload_n 0, 1) := by decide +kernel
theorem dX9_init_135 : decode cX9_init 135 = .ok (.getfield 18, 3) := by decide +kernel
theorem dX9_init_138 : decode cX9_init 138 = .ok (.iload_n 1, 1) := by decide +kernel
theorem dX9_init_139 : decode cX9_init 139 = .ok (.new 16, 3) := by decide +kernel
theorem dX9_init_142 : decode cX9_init 142 = .ok (.dup, 1) := by decide +kernel
theorem dX9_init_143 : decode cX9_init 143 = .ok (.invokespecial 84, 3) := by decide +kernel
theorem dX9_init_146 : decode cX9_init 146 = .ok (.aastore, 1) := by decide +kernel
theorem dX9_init_147 : decode cX9_init 147 = .ok (.iinc 1 1, 3) := by decide +kernel
theorem dX9_init_150 : decode cX9_init 150 = .ok (.goto (-21), 3) := by decide +kernel
theorem dX9_init_153 : decode cX9_init 153 = .ok (.iconst 0, 1) := by decide +kernel
theorem dX9_init_154 : decode cX9_init 154 = .ok (.istore_n 1, 1) := by decide +kernel
theorem dX9_init_155 : decode cX9_init 155 = .ok (.iload_n 1, 1) := by decide +kernel
theorem dX9_init_156 : decode cX9_init 156 = .ok (.bipush 10, 2) := by decide +kernel
theorem dX9_init_158 : decode cX9_init 158 = .ok (.if_icmp .ge 22, 3) := by decide +kernel
theorem dX9_init_161 : decode cX9_init 161 = .ok (.aload_n 0, 1) := by decide +kernel
theorem dX9_init_162 : decode cX9_init 162 = .ok (.getfield 24, 3) := by decide +kernel
theorem dX9_init_165 : decode cX9_init 165 = .ok (.iload_n 1, 1) := by decide +kernel
theorem dX9_init_166 : decode cX9_init 166 = .ok (.new 22, 3) := by decide +kernel
theorem dX9_init_169 : decode cX9_init 169 = .ok (.dup, 1) := by decide +kernel
theorem dX9_init_170 : decode cX9_init 170 = .ok (.invokespecial 85, 3) := by decide +kernel
theorem dX9_init_173 : decode cX9_init 173 = .ok (.aastore, 1) := by decide +kernel
theorem dX9_init_174 : decode cX9_init 174 = .ok (.iinc 1 1, 3) := by decide +kernel
theorem dX9_init_177 : decode cX9_init 177 = .ok (.goto (-22), 3) := by decide +kernel
theorem dX9_init_180 : decode cX9_init 180 = .ok (.return_, 1) := by decide +kernel
theorem dX9_prime_0 : decode cX9_prime 0 = .ok (.iload_n 1, 1) := by decide +kernel
theorem dX9_prime_1 : decode cX9_prime 1 = .ok (.invokestatic 86, 3) := by decide +kernel
theorem dX9_prime_4 : decode cX9_prime 4 = .ok (.ifCond .ne 6, 3) := by decide +kernel
theorem dX9_prime_7 : decode cX9_prime 7 = .ok (.bipush (-102), 2) := by decide +kernel
theorem dX9_prime_9 : decode cX9_prime 9 = .ok (.ireturn, 1) := by decide +kernel
theorem dX9_prime_10 : decode cX9_prime 10 = .ok (.aload_n 0, 1) := by decide +kernel
theorem dX9_prime_11 : decode cX9_prime 11 = .ok (.getfield 28, 3) := by decide +kernel
theorem dX9_prime_14 : decode cX9_prime 14 = .ok (.ifCond .gt 13, 3) := by decide +kernel
theorem dX9_prime_17 : decode cX9_prime 17 = .ok (.aload_n 0, 1) := by decide +kernel
theorem dX9_prime_18 : decode cX9_prime 18 = .ok (.getfield 35, 3) := by decide +kernel
theorem dX9_prime_21 : decode cX9_prime 21 = .ok (.getfield 90, 3) := by decide +kernel
theorem dX9_prime_24 : decode cX9_prime 24 = .ok (.ifCond .le 6, 3) := by decide +kernel
theorem dX9_prime_27 : decode cX9_prime 27 = .ok (.bipush (-103), 2) := by decide +kernel
theorem dX9_prime_29 : decode cX9_prime 29 = .ok (.ireturn, 1) := by decide +kernel
theorem dX9_prime_30 : decode cX9_prime 30 = .ok (.aload_n 0, 1) := by decide +kernel
theorem dX9_prime_31 : decode cX9_prime 31 = .ok (.getfield 12, 3) := by decide +kernel
theorem dX9_prime_34 : decode cX9_prime 34 = .ok (.getfield 93, 3) := by decide +kernel
theorem dX9_prime_37 : decode cX9_prime 37 = .ok (.istore_n 2, 1) := by decide +kernel
theorem dX9_prime_38 : decode cX9_prime 38 = .ok (.aload_n 0, 1) := by decide +kernel
theorem dX9_prime_39 : decode cX9_prime 39 = .ok (.getfield 12, 3) := by decide +kernel
theorem dX9_prime_42 : decode cX9_prime 42 = .ok (.iload_n 1, 1) := by decide +kernel
theorem dX9_prime_43 : decode cX9_prime 43 = .ok (.putfield 93, 3) := by decide +kernel
theorem dX9_prime_46 : decode cX9_prime 46 = .ok (.aload_n 0, 1) := by decide +kernel
theorem dX9_prime_47 : decode cX9_prime 47 = .ok (.getfield 42, 3) := by decide +kernel
theorem dX9_prime_50 : decode cX9_prime 50 = .ok (.invokevirtual 96, 3) := by decide +kernel
theorem dX9_prime_53 : decode cX9_prime 53 = .ok (.iload_n 2, 1) := by decide +kernel
theorem dX9_prime_54 : decode cX9_prime 54 = .ok (.ireturn, 1) := by decide +kernel
theorem dX9_sheet_0 : decode cX9_sheet 0 = .ok (.aload_n 0, 1) := by decide +kernel
theorem dX9_sheet_1 : decode cX9_sheet 1 = .ok (.iload_n 1, 1) := by decide +kernel
theorem dX9_sheet_2 : decode cX9_sheet 2 = .ok (.invokevirtual 99, 3) := by decide +kernel
theorem dX9_sheet_5 : decode cX9_sheet 5 = .ok (.astore 4, 2) := by decide +kernel
theorem dX9_sheet_7 : decode cX9_sheet 7 = .ok (.aload 4, 2) := by decide +kernel
theorem dX9_sheet_9 : decode cX9_sheet 9 = .ok (.ifnonnull 6, 3) := by decide +kernel
theorem dX9_sheet_12 : decode cX9_sheet 12 = .ok (.bipush (-101), 2) := by decide +kernel
theorem dX9_sheet_14 : decode cX9_sheet 14 = .ok (.ireturn, 1) := by decide +kernel
theorem dX9_sheet_15 : decode cX9_sheet 15 = .ok (.iload_n 2, 1) := by decide +kernel
theorem dX9_sheet_16 : decode cX9_sheet 16 = .ok (.invokestatic 103, 3) := by decide +kernel
theorem dX9_sheet_19 : decode cX9_sheet 19 = .ok (.ifCond .eq 9, 3) := by decide +kernel
theorem dX9_sheet_22 : decode cX9_sheet 22 = .ok (.iload_n 3, 1) := by decide +kernel
theorem dX9_sheet_23 : decode cX9_sheet 23 = .ok (.bipush 60, 2) := by decide +kernel
theorem dX9_sheet_25 : decode cX9_sheet 25 = .ok (.if_icmp .le 6, 3) := by decide +kernel
theorem dX9_sheet_28 : decode cX9_sheet 28 = .ok (.bipush (-102), 2) := by decide +kernel
theorem dX9_sheet_30 : decode cX9_sheet 30 = .ok (.ireturn, 1) := by decide +kernel
theorem dX9_sheet_31 : decode cX9_sheet 31 = .ok (.iload_n 3, 1) := by decide +kernel
theorem dX9_sheet_32 : decode cX9_sheet 32 = .ok (.ifCond .ge 9, 3) := by decide +kernel
theorem dX9_sheet_35 : decode cX9_sheet 35 = .ok (.aload_n 0, 1) := by decide +kernel
theorem dX9_sheet_36 : decode cX9_sheet 36 = .ok (.iconst 3, 1) := by decide +kernel
theorem dX9_sheet_37 : decode cX9_sheet 37 = .ok (.invokevirtual 106, 3) := by decide +kernel
theorem dX9_sheet_40 : decode cX9_sheet 40 = .ok (.ireturn, 1) := by decide +kernel
theorem dX9_sheet_41 : decode cX9_sheet 41 = .ok (.aload 4, 2) := by decide +kernel
theorem dX9_sheet_43 : decode cX9_sheet 43 = .ok (.iload_n 2, 1) := by decide +kernel
theorem dX9_sheet_44 : decode cX9_sheet 44 = .ok (.iload_n 3, 1) := by decide +kernel
theorem dX9_sheet_45 : decode cX9_sheet 45 = .ok (.invokevirtual 110, 3) := by decide +kernel
theorem dX9_sheet_48 : decode cX9_sheet 48 = .ok (.iload_n 3, 1) := by decide +kernel
theorem dX9_sheet_49 : decode cX9_sheet 49 = .ok (.ireturn, 1) := by decide +kernel
theorem dX9_put_0 : decode cX9_put 0 = .ok (.aload_n 0, 1) := by decide +kernel
theorem dX9_put_1 : decode cX9_put 1 = .ok (.iload_n 1, 1) := by decide +kernel
theorem dX9_put_2 : decode cX9_put 2 = .ok (.invokevirtual 99, 3) := by decide +kernel
theorem dX9_put_5 : decode cX9_put 5 = .ok (.astore 6, 2) := by decide +kernel
theorem dX9_put_7 : decode cX9_put 7 = .ok (.aload 6, 2) := by decide +kernel
theorem dX9_put_9 : decode cX9_put 9 = .ok (.ifnonnull 6, 3) := by decide +kernel
theorem dX9_put_12 : decode cX9_put 12 = .ok (.bipush (-101), 2) := by decide +kernel
theorem dX9_put_14 : decode cX9_put 14 = .ok (.ireturn, 1) := by decide +kernel
theorem dX9_put_15 : decode cX9_put 15 = .ok (.iload_n 2, 1) := by decide +kernel
theorem dX9_put_16 : decode cX9_put 16 = .ok (.invokestatic 103, 3) := by decide +kernel
theorem dX9_put_19 : decode cX9_put 19 = .ok (.ifCond .ne 6, 3) := by decide +kernel
theorem dX9_put_22 : decode cX9_put 22 = .ok (.bipush (-102), 2) := by decide +kernel
theorem dX9_put_24 : decode cX9_put 24 = .ok (.ireturn, 1) := by decide +kernel
theorem dX9_put_25 : decode cX9_put 25 = .ok (.aload 6, 2) := by decide +kernel
theorem dX9_put_27 : decode cX9_put 27 = .ok (.getfield 114, 3) := by decide +kernel
theorem dX9_put_30 : decode cX9_put 30 = .ok (.ifCond .eq 9, 3) := by decide +kernel
theorem dX9_put_33 : decode cX9_put 33 = .ok (.aload_n 0, 1) := by decide +kernel
theorem dX9_put_34 : decode cX9_put 34 = .ok (.iconst 1, 1) := by decide +kernel
theorem dX9_put_35 : decode cX9_put 35 = .ok (.invokevirtual 106, 3) := by decide +kernel
theorem dX9_put_38 : decode cX9_put 38 = .ok (.ireturn, 1) := by decide +kernel
theorem dX9_put_39 : decode cX9_put 39 = .ok (.aload 6, 2) := by decide +kernel
theorem dX9_put_41 : decode cX9_put 41 = .ok (.getfield 118, 3) := by decide +kernel
theorem dX9_put_44 : decode cX9_put 44 = .ok (.iload_n 2, 1) := by decide +kernel
theorem dX9_put_45 : decode cX9_put 45 = .ok (.if_icmp .eq 9, 3) := by decide +kernel
theorem dX9_put_48 : decode cX9_put 48 = .ok (.aload_n 0, 1) := by decide +kernel
theorem dX9_put_49 : decode cX9_put 49 = .ok (.iconst 4, 1) := by decide +kernel
theorem dX9_put_50 : decode cX9_put 50 = .ok (.invokevirtual 106, 3) := by decide +kernel
theorem dX9_put_53 : decode cX9_put 53 = .ok (.ireturn, 1) := by decide +kernel
theorem dX9_put_54 : decode cX9_put 54 = .ok (.aload 6, 2) := by decide +kernel
theorem dX9_put_56 : decode cX9_put 56 = .ok (.iload_n 3, 1) := by decide +kernel
theorem dX9_put_57 : decode cX9_put 57 = .ok (.iconst 1, 1) := by decide +kernel
theorem dX9_put_58 : decode cX9_put 58 = .ok (.invokevirtual 121, 3) := by decide +kernel
theorem dX9_put_61 : decode cX9_put 61 = .ok (.ifCond .ne 9, 3) := by decide +kernel
theorem dX9_put_64 : decode cX9_put 64 = .ok (.aload_n 0, 1) := by decide +kernel
theorem dX9_put_65 : decode cX9_put 65 = .ok (.iconst 2, 1) := by decide +kernel
theorem dX9_put_66 : decode cX9_put 66 = .ok (.invokevirtual 106, 3) := by decide +kernel
theorem dX9_put_69 : decode cX9_put 69 = .ok (.ireturn, 1) := by decide +kernel
theorem dX9_put_70 : decode cX9_put 70 = .ok (.aload 6, 2) := by decide +kernel
theorem dX9_put_72 : decode cX9_put 72 = .ok (.iload_n 3, 1) := by decide +kernel
theorem dX9_put_73 : decode cX9_put 73 = .ok (.lload 4, 2) := by decide +kernel
theorem dX9_put_75 : decode cX9_put 75 = .ok (.invokevirtual 125, 3) := by decide +kernel
theorem dX9_put_78 : decode cX9_put 78 = .ok (.iconst 1, 1) := by decide +kernel
theorem dX9_put_79 : decode cX9_put 79 = .ok (.ireturn, 1) := by decide +kernel
theorem dX9_copy_0 : decode cX9_copy 0 = .ok (.aload_n 0, 1) := by decide +kernel
theorem dX9_copy_1 : decode cX9_copy 1 = .ok (.iload_n 1, 1) := by decide +kernel
theorem dX9_copy_2 : decode cX9_copy 2 = .ok (.invokevirtual 99, 3) := by decide +kernel
theorem dX9_copy_5 : decode cX9_copy 5 = .ok (.astore 6, 2) := by decide +kernel
theorem dX9_copy_7 : decode cX9_copy 7 = .ok (.aload_n 0, 1) := by decide +kernel
theorem dX9_copy_8 : decode cX9_copy 8 = .ok (.iload_n 3, 1) := by decide +kernel
theorem dX9_copy_9 : decode cX9_copy 9 = .ok (.invokevirtual 99, 3) := by decide +kernel
theorem dX9_copy_12 : decode cX9_copy 12 = .ok (.astore 7, 2) := by decide +kernel
theorem dX9_copy_14 : decode cX9_copy 14 = .ok (.aload 6, 2) := by decide +kernel
theorem dX9_copy_16 : decode cX9_copy 16 = .ok (.ifnull 8, 3) := by decide +kernel
theorem dX9_copy_19 : decode cX9_copy 19 = .ok (.aload 7, 2) := by decide +kernel
theorem dX9_copy_21 : decode cX9_copy 21 = .ok (.ifnonnull 6, 3) := by decide +kernel
theorem dX9_copy_24 : decode cX9_copy 24 = .ok (.bipush (-101), 2) := by decide +kernel
theorem dX9_copy_26 : decode cX9_copy 26 = .ok (.ireturn, 1) := by decide +kernel
theorem dX9_copy_27 : decode cX9_copy 27 = .ok (.aload 6, 2) := by decide +kernel
theorem dX9_copy_29 : decode cX9_copy 29 = .ok (.getfield 114, 3) := by decide +kernel
theorem dX9_copy_32 : decode cX9_copy 32 = .ok (.ifCond .ne 11, 3) := by decide +kernel
theorem dX9_copy_35 : decode cX9_copy 35 = .ok (.aload 7, 2) := by decide +kernel
theorem dX9_copy_37 : decode cX9_copy 37 = .ok (.getfield 114, 3) := by decide +kernel
theorem dX9_copy_40 : decode cX9_copy 40 = .ok (.ifCond .eq 9, 3) := by decide +kernel
theorem dX9_copy_43 : decode cX9_copy 43 = .ok (.aload_n 0, 1) := by decide +kernel
theorem dX9_copy_44 : decode cX9_copy 44 = .ok (.iconst 1, 1) := by decide +kernel
theorem dX9_copy_45 : decode cX9_copy 45 = .ok (.invokevirtual 106, 3) := by decide +kernel
theorem dX9_copy_48 : decode cX9_copy 48 = .ok (.ireturn, 1) := by decide +kernel
theorem dX9_copy_49 : decode cX9_copy 49 = .ok (.aload 6, 2) := by decide +kernel
theorem dX9_copy_51 : decode cX9_copy 51 = .ok (.getfield 118, 3) := by decide +kernel
theorem dX9_copy_54 : decode cX9_copy 54 = .ok (.aload 7, 2) := by decide +kernel
theorem dX9_copy_56 : decode cX9_copy 56 = .ok (.getfield 118, 3) := by decide +kernel
theorem dX9_copy_59 : decode cX9_copy 59 = .ok (.if_icmp .eq 9, 3) := by decide +kernel
theorem dX9_copy_62 : decode cX9_copy 62 = .ok (.aload_n 0, 1) := by decide +kernel
theorem dX9_copy_63 : decode cX9_copy 63 = .ok (.iconst 4, 1) := by decide +kernel
theorem dX9_copy_64 : decode cX9_copy 64 = .ok (.invokevirtual 106, 3) := by decide +kernel
theorem dX9_copy_67 : decode cX9_copy 67 = .ok (.ireturn, 1) := by decide +kernel
theorem dX9_copy_68 : decode cX9_copy 68 = .ok (.aload 6, 2) := by decide +kernel
theorem dX9_copy_70 : decode cX9_copy 70 = .ok (.iload_n 2, 1) := by decide +kernel
theorem dX9_copy_71 : decode cX9_copy 71 = .ok (.iload 5, 2) := by decide +kernel
theorem dX9_copy_73 : decode cX9_copy 73 = .ok (.invokevirtual 121, 3) := by decide +kernel
theorem dX9_copy_76 : decode cX9_copy 76 = .ok (.ifCond .eq 15, 3) := by decide +kernel
theorem dX9_copy_79 : decode cX9_copy 79 = .ok (.aload 7, 2) := by decide +kernel
theorem dX9_copy_81 : decode cX9_copy 81 = .ok (.iload 4, 2) := by decide +kernel
theorem dX9_copy_83 : decode cX9_copy 83 = .ok (.iload 5, 2) := by decide +kernel
theorem dX9_copy_85 : decode cX9_copy 85 = .ok (.invokevirtual 121, 3) := by decide +kernel
theorem dX9_copy_88 : decode cX9_copy 88 = .ok (.ifCond .ne 9, 3) := by decide +kernel
theorem dX9_copy_91 : decode cX9_copy 91 = .ok (.aload_n 0, 1) := by decide +kernel
theorem dX9_copy_92 : decode cX9_copy 92 = .ok (.iconst 2, 1) := by decide +kernel
theorem dX9_copy_93 : decode cX9_copy 93 = .ok (.invokevirtual 106, 3) := by decide +kernel
theorem dX9_copy_96 : decode cX9_copy 96 = .ok (.ireturn, 1) := by decide +kernel
theorem dX9_copy_97 : decode cX9_copy 97 = .ok (.aload 6, 2) := by decide +kernel
theorem dX9_copy_99 : decode cX9_copy 99 = .ok (.getfield 129, 3) := by decide +kernel
theorem dX9_copy_102 : decode cX9_copy 102 = .ok (.iload_n 2, 1) := by decide +kernel
theorem dX9_copy_103 : decode cX9_copy 103 = .ok (.aload 7, 2) := by decide +kernel
theorem dX9_copy_105 : decode cX9_copy 105 = .ok (.getfield 129, 3) := by decide +kernel
theorem dX9_copy_108 : decode cX9_copy 108 = .ok (.iload 4, 2) := by decide +kernel
theorem dX9_copy_110 : decode cX9_copy 110 = .ok (.iload 5, 2) := by decide +kernel
theorem dX9_copy_112 : decode cX9_copy 112 = .ok (.invokestatic 133, 3) := by decide +kernel
theorem dX9_copy_115 : decode cX9_copy 115 = .ok (.iconst 1, 1) := by decide +kernel
theorem dX9_copy_116 : decode cX9_copy 116 = .ok (.ireturn, 1) := by decide +kernel
theorem dX9_lose_0 : decode cX9_lose 0 = .ok (.aload_n 0, 1) := by decide +kernel
theorem dX9_lose_1 : decode cX9_lose 1 = .ok (.iload_n 1, 1) := by decide +kernel
theorem dX9_lose_2 : decode cX9_lose 2 = .ok (.invokevirtual 99, 3) := by decide +kernel
theorem dX9_lose_5 : decode cX9_lose 5 = .ok (.astore_n 2, 1) := by decide +kernel
theorem dX9_lose_6 : decode cX9_lose 6 = .ok (.aload_n 2, 1) := by decide +kernel
theorem dX9_lose_7 : decode cX9_lose 7 = .ok (.ifnonnull 6, 3) := by decide +kernel
theorem dX9_lose_10 : decode cX9_lose 10 = .ok (.bipush (-101), 2) := by decide +kernel
theorem dX9_lose_12 : decode cX9_lose 12 = .ok (.ireturn, 1) := by decide +kernel
theorem dX9_lose_13 : decode cX9_lose 13 = .ok (.aload_n 2, 1) := by decide +kernel
theorem dX9_lose_14 : decode cX9_lose 14 = .ok (.getfield 114, 3) := by decide +kernel
theorem dX9_lose_17 : decode cX9_lose 17 = .ok (.ifCond .eq 9, 3) := by decide +kernel
theorem dX9_lose_20 : decode cX9_lose 20 = .ok (.aload_n 0, 1) := by decide +kernel
theorem dX9_lose_21 : decode cX9_lose 21 = .ok (.iconst 1, 1) := by decide +kernel
theorem dX9_lose_22 : decode cX9_lose 22 = .ok (.invokevirtual 106, 3) := by decide +kernel
theorem dX9_lose_25 : decode cX9_lose 25 = .ok (.ireturn, 1) := by decide +kernel
theorem dX9_lose_26 : decode cX9_lose 26 = .ok (.aload_n 2, 1) := by decide +kernel
theorem dX9_lose_27 : decode cX9_lose 27 = .ok (.iconst 1, 1) := by decide +kernel
theorem dX9_lose_28 : decode cX9_lose 28 = .ok (.putfield 114, 3) := by decide +kernel
theorem dX9_lose_31 : decode cX9_lose 31 = .ok (.aload_n 2, 1) := by decide +kernel
theorem dX9_lose_32 : decode cX9_lose 32 = .ok (.getfield 139, 3) := by decide +kernel
theorem dX9_lose_35 : decode cX9_lose 35 = .ok (.ireturn, 1) := by decide +kernel
theorem dX9_series_0 : decode cX9_series 0 = .ok (.aload_n 0, 1) := by decide +kernel
theorem dX9_series_1 : decode cX9_series 1 = .ok (.iload_n 1, 1) := by decide +kernel
theorem dX9_series_2 : decode cX9_series 2 = .ok (.invokevirtual 99, 3) := by decide +kernel
theorem dX9_series_5 : decode cX9_series 5 = .ok (.astore 4, 2) := by decide +kernel
theorem dX9_series_7 : decode cX9_series 7 = .ok (.aload 4, 2) := by decide +kernel
theorem dX9_series_9 : decode cX9_series 9 = .ok (.ifnonnull 6, 3) := by decide +kernel
theorem dX9_series_12 : decode cX9_series 12 = .ok (.bipush (-101), 2) := by decide +kernel
theorem dX9_series_14 : decode cX9_series 14 = .ok (.ireturn, 1) := by decide +kernel
theorem dX9_series_15 : decode cX9_series 15 = .ok (.iload_n 3, 1) := by decide +kernel
theorem dX9_series_16 : decode cX9_series 16 = .ok (.invokestatic 142, 3) := by decide +kernel
theorem dX9_series_19 : decode cX9_series 19 = .ok (.ifCond .ne 6, 3) := by decide +kernel
theorem dX9_series_22 : decode cX9_series 22 = .ok (.bipush (-102), 2) := by decide +kernel
theorem dX9_series_24 : decode cX9_series 24 = .ok (.ireturn, 1) := by decide +kernel
theorem dX9_series_25 : decode cX9_series 25 = .ok (.aload 4, 2) := by decide +kernel
theorem dX9_series_27 : decode cX9_series 27 = .ok (.getfield 114, 3) := by decide +kernel
theorem dX9_series_30 : decode cX9_series 30 = .ok (.ifCond .eq 9, 3) := by decide +kernel
theorem dX9_series_33 : decode cX9_series 33 = .ok (.aload_n 0, 1) := by decide +kernel
theorem dX9_series_34 : decode cX9_series 34 = .ok (.iconst 1, 1) := by decide +kernel
theorem dX9_series_35 : decode cX9_series 35 = .ok (.invokevirtual 106, 3) := by decide +kernel
theorem dX9_series_38 : decode cX9_series 38 = .ok (.ireturn, 1) := by decide +kernel
theorem dX9_series_39 : decode cX9_series 39 = .ok (.aload 4, 2) := by decide +kernel
theorem dX9_series_41 : decode cX9_series 41 = .ok (.iload_n 2, 1) := by decide +kernel
theorem dX9_series_42 : decode cX9_series 42 = .ok (.iload_n 3, 1) := by decide +kernel
theorem dX9_series_43 : decode cX9_series 43 = .ok (.iconst 1, 1) := by decide +kernel
theorem dX9_series_44 : decode cX9_series 44 = .ok (.iadd, 1) := by decide +kernel
theorem dX9_series_45 : decode cX9_series 45 = .ok (.invokevirtual 121, 3) := by decide +kernel
theorem dX9_series_48 : decode cX9_series 48 = .ok (.ifCond .ne 9, 3) := by decide +kernel
theorem dX9_series_51 : decode cX9_series 51 = .ok (.aload_n 0, 1) := by decide +kernel
theorem dX9_series_52 : decode cX9_series 52 = .ok (.iconst 2, 1) := by decide +kernel
theorem dX9_series_53 : decode cX9_series 53 = .ok (.invokevirtual 106, 3) := by decide +kernel
theorem dX9_series_56 : decode cX9_series 56 = .ok (.ireturn, 1) := by decide +kernel
theorem dX9_series_57 : decode cX9_series 57 = .ok (.aload_n 0, 1) := by decide +kernel
theorem dX9_series_58 : decode cX9_series 58 = .ok (.iload_n 3, 1) := by decide +kernel
theorem dX9_series_59 : decode cX9_series 59 = .ok (.invokevirtual 145, 3) := by decide +kernel
theorem dX9_series_62 : decode cX9_series 62 = .ok (.astore 5, 2) := by decide +kernel
theorem dX9_series_64 : decode cX9_series 64 = .ok (.aload 5, 2) := by decide +kernel
theorem dX9_series_66 : decode cX9_series 66 = .ok (.ifnonnull 6, 3) := by decide +kernel
theorem dX9_series_69 : decode cX9_series 69 = .ok (.bipush (-104), 2) := by decide +kernel
theorem dX9_series_71 : decode cX9_series 71 = .ok (.ireturn, 1) := by decide +kernel
theorem dX9_series_72 : decode cX9_series 72 = .ok (.aload_n 0, 1) := by decide +kernel
theorem dX9_series_73 : decode cX9_series 73 = .ok (.aload 4, 2) := by decide +kernel
theorem dX9_series_75 : decode cX9_series 75 = .ok (.iload_n 2, 1) := by decide +kernel
theorem dX9_series_76 : decode cX9_series 76 = .ok (.iload_n 3, 1) := by decide +kernel
theorem dX9_series_77 : decode cX9_series 77 = .ok (.iconst 1, 1) := by decide +kernel
theorem dX9_series_78 : decode cX9_series 78 = .ok (.iadd, 1) := by decide +kernel
theorem dX9_series_79 : decode cX9_series 79 = .ok (.aload 5, 2) := by decide +kernel
theorem dX9_series_81 : decode cX9_series 81 = .ok (.getfield 149, 3) := by decide +kernel
theorem dX9_series_84 : decode cX9_series 84 = .ok (.invokevirtual 152, 3) := by decide +kernel
theorem dX9_series_87 : decode cX9_series 87 = .ok (.aload_n 0, 1) := by decide +kernel
theorem dX9_series_88 : decode cX9_series 88 = .ok (.invokevirtual 156, 3) := by decide +kernel
theorem dX9_series_91 : decode cX9_series 91 = .ok (.ireturn, 1) := by decide +kernel
theorem dX9_share_0 : decode cX9_share 0 = .ok (.aload_n 0, 1) := by decide +kernel
theorem dX9_share_1 : decode cX9_share 1 = .ok (.iload_n 1, 1) := by decide +kernel
theorem dX9_share_2 : decode cX9_share 2 = .ok (.invokevirtual 99, 3) := by decide +kernel
theorem dX9_share_5 : decode cX9_share 5 = .ok (.astore 6, 2) := by decide +kernel
theorem dX9_share_7 : decode cX9_share 7 = .ok (.aload 6, 2) := by decide +kernel
theorem dX9_share_9 : decode cX9_share 9 = .ok (.ifnonnull 6, 3) := by decide +kernel
theorem dX9_share_12 : decode cX9_share 12 = .ok (.bipush (-101), 2) := by decide +kernel
theorem dX9_share_14 : decode cX9_share 14 = .ok (.ireturn, 1) := by decide +kernel
theorem dX9_share_15 : decode cX9_share 15 = .ok (.iload_n 3, 1) := by decide +kernel
theorem dX9_share_16 : decode cX9_share 16 = .ok (.invokestatic 142, 3) := by decide +kernel
theorem dX9_share_19 : decode cX9_share 19 = .ok (.ifCond .eq 19, 3) := by decide +kernel
theorem dX9_share_22 : decode cX9_share 22 = .ok (.iload 4, 2) := by decide +kernel
theorem dX9_share_24 : decode cX9_share 24 = .ok (.invokestatic 142, 3) := by decide +kernel
theorem dX9_share_27 : decode cX9_share 27 = .ok (.ifCond .eq 11, 3) := by decide +kernel
theorem dX9_share_30 : decode cX9_share 30 = .ok (.iload 5, 2) := by decide +kernel
theorem dX9_share_32 : decode cX9_share 32 = .ok (.invokestatic 142, 3) := by decide +kernel
theorem dX9_share_35 : decode cX9_share 35 = .ok (.ifCond .ne 6, 3) := by decide +kernel
theorem dX9_share_38 : decode cX9_share 38 = .ok (.bipush (-102), 2) := by decide +kernel
theorem dX9_share_40 : decode cX9_share 40 = .ok (.ireturn, 1) := by decide +kernel
theorem dX9_share_41 : decode cX9_share 41 = .ok (.aload 6, 2) := by decide +kernel
theorem dX9_share_43 : decode cX9_share 43 = .ok (.getfield 114, 3) := by decide +kernel
theorem dX9_share_46 : decode cX9_share 46 = .ok (.ifCond .eq 9, 3) := by decide +kernel
theorem dX9_share_49 : decode cX9_share 49 = .ok (.aload_n 0, 1) := by decide +kernel
theorem dX9_share_50 : decode cX9_share 50 = .ok (.iconst 1, 1) := by decide +kernel
theorem dX9_share_51 : decode cX9_share 51 = .ok (.invokevirtual 106, 3) := by decide +kernel
theorem dX9_share_54 : decode cX9_share 54 = .ok (.ireturn, 1) := by decide +kernel
theorem dX9_share_55 : decode cX9_share 55 = .ok (.aload 6, 2) := by decide +kernel
theorem dX9_share_57 : decode cX9_share 57 = .ok (.iload_n 2, 1) := by decide +kernel
theorem dX9_share_58 : decode cX9_share 58 = .ok (.iload_n 3, 1) := by decide +kernel
theorem dX9_share_59 : decode cX9_share 59 = .ok (.iload 4, 2) := by decide +kernel
theorem dX9_share_61 : decode cX9_share 61 = .ok (.iadd, 1) := by decide +kernel
theorem dX9_share_62 : decode cX9_share 62 = .ok (.iconst 2, 1) := by decide +kernel
theorem dX9_share_63 : decode cX9_share 63 = .ok (.iadd, 1) := by decide +kernel
theorem dX9_share_64 : decode cX9_share 64 = .ok (.invokevirtual 121, 3) := by decide +kernel
theorem dX9_share_67 : decode cX9_share 67 = .ok (.ifCond .ne 9, 3) := by decide +kernel
theorem dX9_share_70 : decode cX9_share 70 = .ok (.aload_n 0, 1) := by decide +kernel
theorem dX9_share_71 : decode cX9_share 71 = .ok (.iconst 2, 1) := by decide +kernel
theorem dX9_share_72 : decode cX9_share 72 = .ok (.invokevirtual 106, 3) := by decide +kernel
theorem dX9_share_75 : decode cX9_share 75 = .ok (.ireturn, 1) := by decide +kernel
theorem dX9_share_76 : decode cX9_share 76 = .ok (.aload_n 0, 1) := by decide +kernel
theorem dX9_share_77 : decode cX9_share 77 = .ok (.aload 6, 2) := by decide +kernel
theorem dX9_share_79 : decode cX9_share 79 = .ok (.iload_n 2, 1) := by decide +kernel
theorem dX9_share_80 : decode cX9_share 80 = .ok (.iload_n 3, 1) := by decide +kernel
theorem dX9_share_81 : decode cX9_share 81 = .ok (.iconst 1, 1) := by decide +kernel
theorem dX9_share_82 : decode cX9_share 82 = .ok (.iadd, 1) := by decide +kernel
theorem dX9_share_83 : decode cX9_share 83 = .ok (.aload_n 0, 1) := by decide +kernel
theorem dX9_share_84 : decode cX9_share 84 = .ok (.getfield 46, 3) := by decide +kernel
theorem dX9_share_87 : decode cX9_share 87 = .ok (.getfield 160, 3) := by decide +kernel
theorem dX9_share_90 : decode cX9_share 90 = .ok (.invokevirtual 152, 3) := by decide +kernel
theorem dX9_share_93 : decode cX9_share 93 = .ok (.aload_n 0, 1) := by decide +kernel
theorem dX9_share_94 : decode cX9_share 94 = .ok (.aload 6, 2) := by decide +kernel
theorem dX9_share_96 : decode cX9_share 96 = .ok (.iload_n 2, 1) := by decide +kernel
theorem dX9_share_97 : decode cX9_share 97 = .ok (.iload_n 3, 1) := by decide +kernel
theorem dX9_share_98 : decode cX9_share 98 = .ok (.iadd, 1) := by decide +kernel
theorem dX9_share_99 : decode cX9_share 99 = .ok (.iconst 1, 1) := by decide +kernel
theorem dX9_share_100 : decode cX9_share 100 = .ok (.iadd, 1) := by decide +kernel
theorem dX9_share_101 : decode cX9_share 101 = .ok (.iload 4, 2) := by decide +kernel
theorem dX9_share_103 : decode cX9_share 103 = .ok (.iconst 1, 1) := by decide +kernel
theorem dX9_share_104 : decode cX9_share 104 = .ok (.iadd, 1) := by decide +kernel
theorem dX9_share_105 : decode cX9_share 105 = .ok (.aload_n 0, 1) := by decide +kernel
theorem dX9_share_106 : decode cX9_share 106 = .ok (.getfield 46, 3) := by decide +kernel
theorem dX9_share_109 : decode cX9_share 109 = .ok (.getfield 163, 3) := by decide +kernel
theorem dX9_share_112 : decode cX9_share 112 = .ok (.invokevirtual 152, 3) := by decide +kernel
theorem dX9_share_115 : decode cX9_share 115 = .ok (.aload_n 0, 1) := by decide +kernel
theorem dX9_share_116 : decode cX9_share 116 = .ok (.aload_n 0, 1) := by decide +kernel
theorem dX9_share_117 : decode cX9_share 117 = .ok (.getfield 46, 3) := by decide +kernel
theorem dX9_share_120 : decode cX9_share 120 = .ok (.iload 5, 2) := by decide +kernel
theorem dX9_share_122 : decode cX9_share 122 = .ok (.invokevirtual 166, 3) := by decide +kernel
theorem dX9_share_125 : decode cX9_share 125 = .ok (.ireturn, 1) := by decide +kernel
theorem dX9_unfold_0 : decode cX9_unfold 0 = .ok (.iload_n 1, 1) := by decide +kernel
theorem dX9_unfold_1 : decode cX9_unfold 1 = .ok (.invokestatic 142, 3) := by decide +kernel
theorem dX9_unfold_4 : decode cX9_unfold 4 = .ok (.ifCond .eq 15, 3) := by decide +kernel
theorem dX9_unfold_7 : decode cX9_unfold 7 = .ok (.aload_n 0, 1) := by decide +kernel
theorem dX9_unfold_8 : decode cX9_unfold 8 = .ok (.aload_n 0, 1) := by decide +kernel
theorem dX9_unfold_9 : decode cX9_unfold 9 = .ok (.getfield 42, 3) := by decide +kernel
theorem dX9_unfold_12 : decode cX9_unfold 12 = .ok (.iload_n 1, 1) := by decide +kernel
theorem dX9_unfold_13 : decode cX9_unfold 13 = .ok (.invokevirtual 166, 3) := by decide +kernel
theorem dX9_unfold_16 : decode cX9_unfold 16 = .ok (.goto 5, 3) := by decide +kernel
theorem dX9_unfold_19 : decode cX9_unfold 19 = .ok (.bipush (-102), 2) := by decide +kernel
theorem dX9_unfold_21 : decode cX9_unfold 21 = .ok (.ireturn, 1) := by decide +kernel
theorem dX9_plus_0 : decode cX9_plus 0 = .ok (.aload_n 0, 1) := by decide +kernel
theorem dX9_plus_1 : decode cX9_plus 1 = .ok (.iload_n 1, 1) := by decide +kernel
theorem dX9_plus_2 : decode cX9_plus 2 = .ok (.invokevirtual 170, 3) := by decide +kernel
theorem dX9_plus_5 : decode cX9_plus 5 = .ok (.astore 4, 2) := by decide +kernel
theorem dX9_plus_7 : decode cX9_plus 7 = .ok (.aload_n 0, 1) := by decide +kernel
theorem dX9_plus_8 : decode cX9_plus 8 = .ok (.iload_n 2, 1) := by decide +kernel
theorem dX9_plus_9 : decode cX9_plus 9 = .ok (.invokevirtual 170, 3) := by decide +kernel
theorem dX9_plus_12 : decode cX9_plus 12 = .ok (.astore 5, 2) := by decide +kernel
theorem dX9_plus_14 : decode cX9_plus 14 = .ok (.aload 4, 2) := by decide +kernel
theorem dX9_plus_16 : decode cX9_plus 16 = .ok (.ifnull 8, 3) := by decide +kernel
theorem dX9_plus_19 : decode cX9_plus 19 = .ok (.aload 5, 2) := by decide +kernel
theorem dX9_plus_21 : decode cX9_plus 21 = .ok (.ifnonnull 6, 3) := by decide +kernel
theorem dX9_plus_24 : decode cX9_plus 24 = .ok (.bipush (-101), 2) := by decide +kernel
theorem dX9_plus_26 : decode cX9_plus 26 = .ok (.ireturn, 1) := by decide +kernel
theorem dX9_plus_27 : decode cX9_plus 27 = .ok (.aload_n 0, 1) := by decide +kernel
theorem dX9_plus_28 : decode cX9_plus 28 = .ok (.aload 4, 2) := by decide +kernel
theorem dX9_plus_30 : decode cX9_plus 30 = .ok (.getfield 173, 3) := by decide +kernel
theorem dX9_plus_33 : decode cX9_plus 33 = .ok (.aload 5, 2) := by decide +kernel
theorem dX9_plus_35 : decode cX9_plus 35 = .ok (.getfield 173, 3) := by decide +kernel
theorem dX9_plus_38 : decode cX9_plus 38 = .ok (.invokestatic 176, 3) := by decide +kernel
theorem dX9_plus_41 : decode cX9_plus 41 = .ok (.invokevirtual 145, 3) := by decide +kernel
theorem dX9_plus_44 : decode cX9_plus 44 = .ok (.astore 6, 2) := by decide +kernel
theorem dX9_plus_46 : decode cX9_plus 46 = .ok (.aload 6, 2) := by decide +kernel
theorem dX9_plus_48 : decode cX9_plus 48 = .ok (.ifnonnull 6, 3) := by decide +kernel
theorem dX9_plus_51 : decode cX9_plus 51 = .ok (.bipush (-104), 2) := by decide +kernel
theorem dX9_plus_53 : decode cX9_plus 53 = .ok (.ireturn, 1) := by decide +kernel
theorem dX9_plus_54 : decode cX9_plus 54 = .ok (.aload_n 0, 1) := by decide +kernel
theorem dX9_plus_55 : decode cX9_plus 55 = .ok (.getfield 12, 3) := by decide +kernel
theorem dX9_plus_58 : decode cX9_plus 58 = .ok (.iload_n 3, 1) := by decide +kernel
theorem dX9_plus_59 : decode cX9_plus 59 = .ok (.i2l, 1) := by decide +kernel
theorem dX9_plus_60 : decode cX9_plus 60 = .ok (.invokevirtual 182, 3) := by decide +kernel
theorem dX9_plus_63 : decode cX9_plus 63 = .ok (.istore 7, 2) := by decide +kernel
theorem dX9_plus_65 : decode cX9_plus 65 = .ok (.iconst 0, 1) := by decide +kernel
theorem dX9_plus_66 : decode cX9_plus 66 = .ok (.istore 8, 2) := by decide +kernel
theorem dX9_plus_68 : decode cX9_plus 68 = .ok (.iload 8, 2) := by decide +kernel
theorem dX9_plus_70 : decode cX9_plus 70 = .ok (.aload 6, 2) := by decide +kernel
theorem dX9_plus_72 : decode cX9_plus 72 = .ok (.getfield 173, 3) := by decide +kernel
theorem dX9_plus_75 : decode cX9_plus 75 = .ok (.if_icmp .gt 57, 3) := by decide +kernel
theorem dX9_plus_78 : decode cX9_plus 78 = .ok (.aload 4, 2) := by decide +kernel
theorem dX9_plus_80 : decode cX9_plus 80 = .ok (.getfield 149, 3) := by decide +kernel
theorem dX9_plus_83 : decode cX9_plus 83 = .ok (.iload 8, 2) := by decide +kernel
theorem dX9_plus_85 : decode cX9_plus 85 = .ok (.invokevirtual 186, 3) := by decide +kernel
theorem dX9_plus_88 : decode cX9_plus 88 = .ok (.i2l, 1) := by decide +kernel
theorem dX9_plus_89 : decode cX9_plus 89 = .ok (.iload 7, 2) := by decide +kernel
theorem dX9_plus_91 : decode cX9_plus 91 = .ok (.i2l, 1) := by decide +kernel
theorem dX9_plus_92 : decode cX9_plus 92 = .ok (.aload 5, 2) := by decide +kernel
theorem dX9_plus_94 : decode cX9_plus 94 = .ok (.getfield 149, 3) := by decide +kernel
theorem dX9_plus_97 : decode cX9_plus 97 = .ok (.iload 8, 2) := by decide +kernel
theorem dX9_plus_99 : decode cX9_plus 99 = .ok (.invokevirtual 186, 3) := by decide +kernel
theorem dX9_plus_102 : decode cX9_plus 102 = .ok (.i2l, 1) := by decide +kernel
theorem dX9_plus_103 : decode cX9_plus 103 = .ok (.lmul, 1) := by decide +kernel
theorem dX9_plus_104 : decode cX9_plus 104 = .ok (.ladd, 1) := by decide +kernel
theorem dX9_plus_105 : decode cX9_plus 105 = .ok (.lstore 9, 2) := by decide +kernel
theorem dX9_plus_107 : decode cX9_plus 107 = .ok (.aload 6, 2) := by decide +kernel
theorem dX9_plus_109 : decode cX9_plus 109 = .ok (.getfield 149, 3) := by decide +kernel
theorem dX9_plus_112 : decode cX9_plus 112 = .ok (.iload 8, 2) := by decide +kernel
theorem dX9_plus_114 : decode cX9_plus 114 = .ok (.aload_n 0, 1) := by decide +kernel
theorem dX9_plus_115 : decode cX9_plus 115 = .ok (.getfield 12, 3) := by decide +kernel
theorem dX9_plus_118 : decode cX9_plus 118 = .ok (.lload 9, 2) := by decide +kernel
theorem dX9_plus_120 : decode cX9_plus 120 = .ok (.invokevirtual 182, 3) := by decide +kernel
theorem dX9_plus_123 : decode cX9_plus 123 = .ok (.invokevirtual 189, 3) := by decide +kernel
theorem dX9_plus_126 : decode cX9_plus 126 = .ok (.iinc 8 1, 3) := by decide +kernel
theorem dX9_plus_129 : decode cX9_plus 129 = .ok (.goto (-61), 3) := by decide +kernel
theorem dX9_plus_132 : decode cX9_plus 132 = .ok (.aload_n 0, 1) := by decide +kernel
theorem dX9_plus_133 : decode cX9_plus 133 = .ok (.invokevirtual 156, 3) := by decide +kernel
theorem dX9_plus_136 : decode cX9_plus 136 = .ok (.ireturn, 1) := by decide +kernel
end
section
theorem dX9_times_0 : decode cX9_times 0 = .ok (.aload_n 0, 1) := by decide +kernel
theorem dX9_times_1 : decode cX9_times 1 = .ok (.iload_n 1, 1) := by decide +kernel
theorem dX9_times_2 : decode cX9_times 2 = .ok (.invokevirtual 170, 3) := by decide +kernel
theorem dX9_times_5 : decode cX9_times 5 = .ok (.astore_n 3, 1) := by decide +kernel
theorem dX9_times_6 : decode cX9_times 6 = .ok (.aload_n 0, 1) := by decide +kernel
theorem dX9_times_7 : decode cX9_times 7 = .ok (.iload_n 2, 1) := by decide +kernel
theorem dX9_times_8 : decode cX9_times 8 = .ok (.invokevirtual 170, 3) := by decide +kernel
theorem dX9_times_11 : decode cX9_times 11 = .ok (.astore 4, 2) := by decide +kernel
theorem dX9_times_13 : decode cX9_times 13 = .ok (.aload_n 3, 1) := by decide +kernel
theorem dX9_times_14 : decode cX9_times 14 = .ok (.ifnull 8, 3) := by decide +kernel
theorem dX9_times_17 : decode cX9_times 17 = .ok (.aload 4, 2) := by decide +kernel
theorem dX9_times_19 : decode cX9_times 19 = .ok (.ifnonnull 6, 3) := by decide +kernel
theorem dX9_times_22 : decode cX9_times 22 = .ok (.bipush (-101), 2) := by decide +kernel
theorem dX9_times_24 : decode cX9_times 24 = .ok (.ireturn, 1) := by decide +kernel
theorem dX9_times_25 : decode cX9_times 25 = .ok (.aload_n 0, 1) := by decide +kernel
theorem dX9_times_26 : decode cX9_times 26 = .ok (.aload_n 3, 1) := by decide +kernel
theorem dX9_times_27 : decode cX9_times 27 = .ok (.getfield 173, 3) := by decide +kernel
theorem dX9_times_30 : decode cX9_times 30 = .ok (.aload 4, 2) := by decide +kernel
theorem dX9_times_32 : decode cX9_times 32 = .ok (.getfield 173, 3) := by decide +kernel
theorem dX9_times_35 : decode cX9_times 35 = .ok (.invokestatic 176, 3) := by decide +kernel
theorem dX9_times_38 : decode cX9_times 38 = .ok (.invokevirtual 145, 3) := by decide +kernel
theorem dX9_times_41 : decode cX9_times 41 = .ok (.astore 5, 2) := by decide +kernel
theorem dX9_times_43 : decode cX9_times 43 = .ok (.aload 5, 2) := by decide +kernel
theorem dX9_times_45 : decode cX9_times 45 = .ok (.ifnonnull 6, 3) := by decide +kernel
theorem dX9_times_48 : decode cX9_times 48 = .ok (.bipush (-104), 2) := by decide +kernel
theorem dX9_times_50 : decode cX9_times 50 = .ok (.ireturn, 1) := by decide +kernel
theorem dX9_times_51 : decode cX9_times 51 = .ok (.iconst 0, 1) := by decide +kernel
theorem dX9_times_52 : decode cX9_times 52 = .ok (.istore 6, 2) := by decide +kernel
theorem dX9_times_54 : decode cX9_times 54 = .ok (.iload 6, 2) := by decide +kernel
theorem dX9_times_56 : decode cX9_times 56 = .ok (.aload 5, 2) := by decide +kernel
theorem dX9_times_58 : decode cX9_times 58 = .ok (.getfield 173, 3) := by decide +kernel
theorem dX9_times_61 : decode cX9_times 61 = .ok (.if_icmp .gt 77, 3) := by decide +kernel
theorem dX9_times_64 : decode cX9_times 64 = .ok (.lconst 0, 1) := by decide +kernel
theorem dX9_times_65 : decode cX9_times 65 = .ok (.lstore 7, 2) := by decide +kernel
theorem dX9_times_67 : decode cX9_times 67 = .ok (.iconst 0, 1) := by decide +kernel
theorem dX9_times_68 : decode cX9_times 68 = .ok (.istore 9, 2) := by decide +kernel
theorem dX9_times_70 : decode cX9_times 70 = .ok (.iload 9, 2) := by decide +kernel
theorem dX9_times_72 : decode cX9_times 72 = .ok (.iload 6, 2) := by decide +kernel
theorem dX9_times_74 : decode cX9_times 74 = .ok (.if_icmp .gt 39, 3) := by decide +kernel
theorem dX9_times_77 : decode cX9_times 77 = .ok (.lload 7, 2) := by decide +kernel
theorem dX9_times_79 : decode cX9_times 79 = .ok (.aload_n 3, 1) := by decide +kernel
theorem dX9_times_80 : decode cX9_times 80 = .ok (.getfield 149, 3) := by decide +kernel
theorem dX9_times_83 : decode cX9_times 83 = .ok (.iload 9, 2) := by decide +kernel
theorem dX9_times_85 : decode cX9_times 85 = .ok (.invokevirtual 186, 3) := by decide +kernel
theorem dX9_times_88 : decode cX9_times 88 = .ok (.i2l, 1) := by decide +kernel
theorem dX9_times_89 : decode cX9_times 89 = .ok (.aload 4, 2) := by decide +kernel
theorem dX9_times_91 : decode cX9_times 91 = .ok (.getfield 149, 3) := by decide +kernel
theorem dX9_times_94 : decode cX9_times 94 = .ok (.iload 6, 2) := by decide +kernel
theorem dX9_times_96 : decode cX9_times 96 = .ok (.iload 9, 2) := by decide +kernel
theorem dX9_times_98 : decode cX9_times 98 = .ok (.isub, 1) := by decide +kernel
theorem dX9_times_99 : decode cX9_times 99 = .ok (.invokevirtual 186, 3) := by decide +kernel
theorem dX9_times_102 : decode cX9_times 102 = .ok (.i2l, 1) := by decide +kernel
theorem dX9_times_103 : decode cX9_times 103 = .ok (.lmul, 1) := by decide +kernel
theorem dX9_times_104 : decode cX9_times 104 = .ok (.ladd, 1) := by decide +kernel
theorem dX9_times_105 : decode cX9_times 105 = .ok (.lstore 7, 2) := by decide +kernel
theorem dX9_times_107 : decode cX9_times 107 = .ok (.iinc 9 1, 3) := by decide +kernel
theorem dX9_times_110 : decode cX9_times 110 = .ok (.goto (-40), 3) := by decide +kernel
theorem dX9_times_113 : decode cX9_times 113 = .ok (.aload 5, 2) := by decide +kernel
theorem dX9_times_115 : decode cX9_times 115 = .ok (.getfield 149, 3) := by decide +kernel
theorem dX9_times_118 : decode cX9_times 118 = .ok (.iload 6, 2) := by decide +kernel
theorem dX9_times_120 : decode cX9_times 120 = .ok (.aload_n 0, 1) := by decide +kernel
theorem dX9_times_121 : decode cX9_times 121 = .ok (.getfield 12, 3) := by decide +kernel
theorem dX9_times_124 : decode cX9_times 124 = .ok (.lload 7, 2) := by decide +kernel
theorem dX9_times_126 : decode cX9_times 126 = .ok (.invokevirtual 182, 3) := by decide +kernel
theorem dX9_times_129 : decode cX9_times 129 = .ok (.invokevirtual 189, 3) := by decide +kernel
theorem dX9_times_132 : decode cX9_times 132 = .ok (.iinc 6 1, 3) := by decide +kernel
theorem dX9_times_135 : decode cX9_times 135 = .ok (.goto (-81), 3) := by decide +kernel
theorem dX9_times_138 : decode cX9_times 138 = .ok (.aload_n 0, 1) := by decide +kernel
theorem dX9_times_139 : decode cX9_times 139 = .ok (.invokevirtual 156, 3) := by decide +kernel
theorem dX9_times_142 : decode cX9_times 142 = .ok (.ireturn, 1) := by decide +kernel
theorem dX9_under_0 : decode cX9_under 0 = .ok (.aload_n 0, 1) := by decide +kernel
theorem dX9_under_1 : decode cX9_under 1 = .ok (.iload_n 1, 1) := by decide +kernel
theorem dX9_under_2 : decode cX9_under 2 = .ok (.invokevirtual 170, 3) := by decide +kernel
theorem dX9_under_5 : decode cX9_under 5 = .ok (.astore_n 2, 1) := by decide +kernel
theorem dX9_under_6 : decode cX9_under 6 = .ok (.aload_n 2, 1) := by decide +kernel
theorem dX9_under_7 : decode cX9_under 7 = .ok (.ifnonnull 6, 3) := by decide +kernel
theorem dX9_under_10 : decode cX9_under 10 = .ok (.bipush (-101), 2) := by decide +kernel
theorem dX9_under_12 : decode cX9_under 12 = .ok (.ireturn, 1) := by decide +kernel
theorem dX9_under_13 : decode cX9_under 13 = .ok (.aload_n 0, 1) := by decide +kernel
theorem dX9_under_14 : decode cX9_under 14 = .ok (.getfield 46, 3) := by decide +kernel
theorem dX9_under_17 : decode cX9_under 17 = .ok (.getfield 160, 3) := by decide +kernel
theorem dX9_under_20 : decode cX9_under 20 = .ok (.iconst 1, 1) := by decide +kernel
theorem dX9_under_21 : decode cX9_under 21 = .ok (.invokevirtual 192, 3) := by decide +kernel
theorem dX9_under_24 : decode cX9_under 24 = .ok (.aload_n 0, 1) := by decide +kernel
theorem dX9_under_25 : decode cX9_under 25 = .ok (.getfield 46, 3) := by decide +kernel
theorem dX9_under_28 : decode cX9_under 28 = .ok (.getfield 163, 3) := by decide +kernel
theorem dX9_under_31 : decode cX9_under 31 = .ok (.aload_n 2, 1) := by decide +kernel
theorem dX9_under_32 : decode cX9_under 32 = .ok (.getfield 149, 3) := by decide +kernel
theorem dX9_under_35 : decode cX9_under 35 = .ok (.invokevirtual 196, 3) := by decide +kernel
theorem dX9_under_38 : decode cX9_under 38 = .ok (.aload_n 0, 1) := by decide +kernel
theorem dX9_under_39 : decode cX9_under 39 = .ok (.aload_n 0, 1) := by decide +kernel
theorem dX9_under_40 : decode cX9_under 40 = .ok (.getfield 46, 3) := by decide +kernel
theorem dX9_under_43 : decode cX9_under 43 = .ok (.aload_n 2, 1) := by decide +kernel
theorem dX9_under_44 : decode cX9_under 44 = .ok (.getfield 173, 3) := by decide +kernel
theorem dX9_under_47 : decode cX9_under 47 = .ok (.invokevirtual 166, 3) := by decide +kernel
theorem dX9_under_50 : decode cX9_under 50 = .ok (.ireturn, 1) := by decide +kernel
theorem dX9_moved_0 : decode cX9_moved 0 = .ok (.aload_n 0, 1) := by decide +kernel
theorem dX9_moved_1 : decode cX9_moved 1 = .ok (.iload_n 1, 1) := by decide +kernel
theorem dX9_moved_2 : decode cX9_moved 2 = .ok (.invokevirtual 170, 3) := by decide +kernel
theorem dX9_moved_5 : decode cX9_moved 5 = .ok (.astore 4, 2) := by decide +kernel
theorem dX9_moved_7 : decode cX9_moved 7 = .ok (.aload 4, 2) := by decide +kernel
theorem dX9_moved_9 : decode cX9_moved 9 = .ok (.ifnonnull 6, 3) := by decide +kernel
theorem dX9_moved_12 : decode cX9_moved 12 = .ok (.bipush (-101), 2) := by decide +kernel
theorem dX9_moved_14 : decode cX9_moved 14 = .ok (.ireturn, 1) := by decide +kernel
theorem dX9_moved_15 : decode cX9_moved 15 = .ok (.iload_n 3, 1) := by decide +kernel
theorem dX9_moved_16 : decode cX9_moved 16 = .ok (.invokestatic 142, 3) := by decide +kernel
theorem dX9_moved_19 : decode cX9_moved 19 = .ok (.ifCond .ne 6, 3) := by decide +kernel
theorem dX9_moved_22 : decode cX9_moved 22 = .ok (.bipush (-102), 2) := by decide +kernel
theorem dX9_moved_24 : decode cX9_moved 24 = .ok (.ireturn, 1) := by decide +kernel
theorem dX9_moved_25 : decode cX9_moved 25 = .ok (.aload_n 0, 1) := by decide +kernel
theorem dX9_moved_26 : decode cX9_moved 26 = .ok (.aload 4, 2) := by decide +kernel
theorem dX9_moved_28 : decode cX9_moved 28 = .ok (.getfield 173, 3) := by decide +kernel
theorem dX9_moved_31 : decode cX9_moved 31 = .ok (.invokevirtual 145, 3) := by decide +kernel
theorem dX9_moved_34 : decode cX9_moved 34 = .ok (.astore 5, 2) := by decide +kernel
theorem dX9_moved_36 : decode cX9_moved 36 = .ok (.aload 5, 2) := by decide +kernel
theorem dX9_moved_38 : decode cX9_moved 38 = .ok (.ifnonnull 6, 3) := by decide +kernel
theorem dX9_moved_41 : decode cX9_moved 41 = .ok (.bipush (-104), 2) := by decide +kernel
theorem dX9_moved_43 : decode cX9_moved 43 = .ok (.ireturn, 1) := by decide +kernel
theorem dX9_moved_44 : decode cX9_moved 44 = .ok (.aload_n 0, 1) := by decide +kernel
theorem dX9_moved_45 : decode cX9_moved 45 = .ok (.getfield 12, 3) := by decide +kernel
theorem dX9_moved_48 : decode cX9_moved 48 = .ok (.iload_n 2, 1) := by decide +kernel
theorem dX9_moved_49 : decode cX9_moved 49 = .ok (.i2l, 1) := by decide +kernel
theorem dX9_moved_50 : decode cX9_moved 50 = .ok (.invokevirtual 182, 3) := by decide +kernel
theorem dX9_moved_53 : decode cX9_moved 53 = .ok (.istore 6, 2) := by decide +kernel
theorem dX9_moved_55 : decode cX9_moved 55 = .ok (.iconst 1, 1) := by decide +kernel
theorem dX9_moved_56 : decode cX9_moved 56 = .ok (.istore 7, 2) := by decide +kernel
theorem dX9_moved_58 : decode cX9_moved 58 = .ok (.iconst 0, 1) := by decide +kernel
theorem dX9_moved_59 : decode cX9_moved 59 = .ok (.istore 8, 2) := by decide +kernel
theorem dX9_moved_61 : decode cX9_moved 61 = .ok (.iload 8, 2) := by decide +kernel
theorem dX9_moved_63 : decode cX9_moved 63 = .ok (.iload_n 3, 1) := by decide +kernel
theorem dX9_moved_64 : decode cX9_moved 64 = .ok (.iadd, 1) := by decide +kernel
theorem dX9_moved_65 : decode cX9_moved 65 = .ok (.aload 5, 2) := by decide +kernel
theorem dX9_moved_67 : decode cX9_moved 67 = .ok (.getfield 173, 3) := by decide +kernel
theorem dX9_moved_70 : decode cX9_moved 70 = .ok (.if_icmp .gt 53, 3) := by decide +kernel
theorem dX9_moved_73 : decode cX9_moved 73 = .ok (.aload 5, 2) := by decide +kernel
theorem dX9_moved_75 : decode cX9_moved 75 = .ok (.getfield 149, 3) := by decide +kernel
theorem dX9_moved_78 : decode cX9_moved 78 = .ok (.iload 8, 2) := by decide +kernel
theorem dX9_moved_80 : decode cX9_moved 80 = .ok (.iload_n 3, 1) := by decide +kernel
theorem dX9_moved_81 : decode cX9_moved 81 = .ok (.iadd, 1) := by decide +kernel
theorem dX9_moved_82 : decode cX9_moved 82 = .ok (.aload_n 0, 1) := by decide +kernel
theorem dX9_moved_83 : decode cX9_moved 83 = .ok (.getfield 12, 3) := by decide +kernel
theorem dX9_moved_86 : decode cX9_moved 86 = .ok (.iload 7, 2) := by decide +kernel
theorem dX9_moved_88 : decode cX9_moved 88 = .ok (.aload 4, 2) := by decide +kernel
theorem dX9_moved_90 : decode cX9_moved 90 = .ok (.getfield 149, 3) := by decide +kernel
theorem dX9_moved_93 : decode cX9_moved 93 = .ok (.iload 8, 2) := by decide +kernel
theorem dX9_moved_95 : decode cX9_moved 95 = .ok (.invokevirtual 186, 3) := by decide +kernel
theorem dX9_moved_98 : decode cX9_moved 98 = .ok (.invokevirtual 200, 3) := by decide +kernel
theorem dX9_moved_101 : decode cX9_moved 101 = .ok (.invokevirtual 189, 3) := by decide +kernel
theorem dX9_moved_104 : decode cX9_moved 104 = .ok (.aload_n 0, 1) := by decide +kernel
theorem dX9_moved_105 : decode cX9_moved 105 = .ok (.getfield 12, 3) := by decide +kernel
theorem dX9_moved_108 : decode cX9_moved 108 = .ok (.iload 7, 2) := by decide +kernel
theorem dX9_moved_110 : decode cX9_moved 110 = .ok (.iload 6, 2) := by decide +kernel
theorem dX9_moved_112 : decode cX9_moved 112 = .ok (.invokevirtual 200, 3) := by decide +kernel
theorem dX9_moved_115 : decode cX9_moved 115 = .ok (.istore 7, 2) := by decide +kernel
theorem dX9_moved_117 : decode cX9_moved 117 = .ok (.iinc 8 1, 3) := by decide +kernel
theorem dX9_moved_120 : decode cX9_moved 120 = .ok (.goto (-59), 3) := by decide +kernel
theorem dX9_moved_123 : decode cX9_moved 123 = .ok (.aload_n 0, 1) := by decide +kernel
theorem dX9_moved_124 : decode cX9_moved 124 = .ok (.invokevirtual 156, 3) := by decide +kernel
theorem dX9_moved_127 : decode cX9_moved 127 = .ok (.ireturn, 1) := by decide +kernel
theorem dX9_number_0 : decode cX9_number 0 = .ok (.aload_n 0, 1) := by decide +kernel
theorem dX9_number_1 : decode cX9_number 1 = .ok (.iload_n 1, 1) := by decide +kernel
theorem dX9_number_2 : decode cX9_number 2 = .ok (.invokevirtual 170, 3) := by decide +kernel
theorem dX9_number_5 : decode cX9_number 5 = .ok (.astore_n 3, 1) := by decide +kernel
theorem dX9_number_6 : decode cX9_number 6 = .ok (.aload_n 3, 1) := by decide +kernel
theorem dX9_number_7 : decode cX9_number 7 = .ok (.ifnonnull 6, 3) := by decide +kernel
theorem dX9_number_10 : decode cX9_number 10 = .ok (.bipush (-101), 2) := by decide +kernel
theorem dX9_number_12 : decode cX9_number 12 = .ok (.ireturn, 1) := by decide +kernel
theorem dX9_number_13 : decode cX9_number 13 = .ok (.iload_n 2, 1) := by decide +kernel
theorem dX9_number_14 : decode cX9_number 14 = .ok (.ifCond .lt 22, 3) := by decide +kernel
theorem dX9_number_17 : decode cX9_number 17 = .ok (.iload_n 2, 1) := by decide +kernel
theorem dX9_number_18 : decode cX9_number 18 = .ok (.aload_n 3, 1) := by decide +kernel
theorem dX9_number_19 : decode cX9_number 19 = .ok (.getfield 173, 3) := by decide +kernel
theorem dX9_number_22 : decode cX9_number 22 = .ok (.if_icmp .gt 14, 3) := by decide +kernel
theorem dX9_number_25 : decode cX9_number 25 = .ok (.aload_n 3, 1) := by decide +kernel
theorem dX9_number_26 : decode cX9_number 26 = .ok (.getfield 149, 3) := by decide +kernel
theorem dX9_number_29 : decode cX9_number 29 = .ok (.iload_n 2, 1) := by decide +kernel
theorem dX9_number_30 : decode cX9_number 30 = .ok (.invokevirtual 186, 3) := by decide +kernel
theorem dX9_number_33 : decode cX9_number 33 = .ok (.goto 4, 3) := by decide +kernel
theorem dX9_number_36 : decode cX9_number 36 = .ok (.iconst (-1), 1) := by decide +kernel
theorem dX9_number_37 : decode cX9_number 37 = .ok (.ireturn, 1) := by decide +kernel
theorem dX9_length_0 : decode cX9_length 0 = .ok (.aload_n 0, 1) := by decide +kernel
theorem dX9_length_1 : decode cX9_length 1 = .ok (.iload_n 1, 1) := by decide +kernel
theorem dX9_length_2 : decode cX9_length 2 = .ok (.invokevirtual 170, 3) := by decide +kernel
theorem dX9_length_5 : decode cX9_length 5 = .ok (.astore_n 2, 1) := by decide +kernel
theorem dX9_length_6 : decode cX9_length 6 = .ok (.aload_n 2, 1) := by decide +kernel
theorem dX9_length_7 : decode cX9_length 7 = .ok (.ifnonnull 8, 3) := by decide +kernel
theorem dX9_length_10 : decode cX9_length 10 = .ok (.bipush (-101), 2) := by decide +kernel
theorem dX9_length_12 : decode cX9_length 12 = .ok (.goto 7, 3) := by decide +kernel
theorem dX9_length_15 : decode cX9_length 15 = .ok (.aload_n 2, 1) := by decide +kernel
theorem dX9_length_16 : decode cX9_length 16 = .ok (.getfield 173, 3) := by decide +kernel
theorem dX9_length_19 : decode cX9_length 19 = .ok (.ireturn, 1) := by decide +kernel
theorem dX9_clear_0 : decode cX9_clear 0 = .ok (.aload_n 0, 1) := by decide +kernel
theorem dX9_clear_1 : decode cX9_clear 1 = .ok (.getfield 28, 3) := by decide +kernel
theorem dX9_clear_4 : decode cX9_clear 4 = .ok (.istore_n 1, 1) := by decide +kernel
theorem dX9_clear_5 : decode cX9_clear 5 = .ok (.aload_n 0, 1) := by decide +kernel
theorem dX9_clear_6 : decode cX9_clear 6 = .ok (.iconst 0, 1) := by decide +kernel
theorem dX9_clear_7 : decode cX9_clear 7 = .ok (.putfield 28, 3) := by decide +kernel
theorem dX9_clear_10 : decode cX9_clear 10 = .ok (.iload_n 1, 1) := by decide +kernel
theorem dX9_clear_11 : decode cX9_clear 11 = .ok (.ireturn, 1) := by decide +kernel
theorem dX9_entry_0 : decode cX9_entry 0 = .ok (.aload_n 0, 1) := by decide +kernel
theorem dX9_entry_1 : decode cX9_entry 1 = .ok (.iload_n 1, 1) := by decide +kernel
theorem dX9_entry_2 : decode cX9_entry 2 = .ok (.invokevirtual 170, 3) := by decide +kernel
theorem dX9_entry_5 : decode cX9_entry 5 = .ok (.astore 4, 2) := by decide +kernel
theorem dX9_entry_7 : decode cX9_entry 7 = .ok (.aload 4, 2) := by decide +kernel
theorem dX9_entry_9 : decode cX9_entry 9 = .ok (.ifnonnull 6, 3) := by decide +kernel
theorem dX9_entry_12 : decode cX9_entry 12 = .ok (.bipush (-101), 2) := by decide +kernel
theorem dX9_entry_14 : decode cX9_entry 14 = .ok (.ireturn, 1) := by decide +kernel
theorem dX9_entry_15 : decode cX9_entry 15 = .ok (.aload 4, 2) := by decide +kernel
theorem dX9_entry_17 : decode cX9_entry 17 = .ok (.iload_n 2, 1) := by decide +kernel
theorem dX9_entry_18 : decode cX9_entry 18 = .ok (.iload_n 3, 1) := by decide +kernel
theorem dX9_entry_19 : decode cX9_entry 19 = .ok (.invokestatic 203, 3) := by decide +kernel
theorem dX9_entry_22 : decode cX9_entry 22 = .ok (.ifCond .ne 6, 3) := by decide +kernel
theorem dX9_entry_25 : decode cX9_entry 25 = .ok (.bipush (-102), 2) := by decide +kernel
theorem dX9_entry_27 : decode cX9_entry 27 = .ok (.ireturn, 1) := by decide +kernel
theorem dX9_entry_28 : decode cX9_entry 28 = .ok (.aload_n 0, 1) := by decide +kernel
theorem dX9_entry_29 : decode cX9_entry 29 = .ok (.aload 4, 2) := by decide +kernel
theorem dX9_entry_31 : decode cX9_entry 31 = .ok (.iload_n 2, 1) := by decide +kernel
theorem dX9_entry_32 : decode cX9_entry 32 = .ok (.iload_n 3, 1) := by decide +kernel
theorem dX9_entry_33 : decode cX9_entry 33 = .ok (.aload_n 0, 1) := by decide +kernel
theorem dX9_entry_34 : decode cX9_entry 34 = .ok (.getfield 42, 3) := by decide +kernel
theorem dX9_entry_37 : decode cX9_entry 37 = .ok (.invokevirtual 207, 3) := by decide +kernel
theorem dX9_entry_40 : decode cX9_entry 40 = .ok (.aload_n 0, 1) := by decide +kernel
theorem dX9_entry_41 : decode cX9_entry 41 = .ok (.aload 4, 2) := by decide +kernel
theorem dX9_entry_43 : decode cX9_entry 43 = .ok (.aload_n 0, 1) := by decide +kernel
theorem dX9_entry_44 : decode cX9_entry 44 = .ok (.getfield 42, 3) := by decide +kernel
theorem dX9_entry_47 : decode cX9_entry 47 = .ok (.invokevirtual 211, 3) := by decide +kernel
theorem dX9_entry_50 : decode cX9_entry 50 = .ok (.ireturn, 1) := by decide +kernel
theorem dX9_worth_0 : decode cX9_worth 0 = .ok (.aload_n 0, 1) := by decide +kernel
theorem dX9_worth_1 : decode cX9_worth 1 = .ok (.iload_n 1, 1) := by decide +kernel
theorem dX9_worth_2 : decode cX9_worth 2 = .ok (.invokevirtual 170, 3) := by decide +kernel
theorem dX9_worth_5 : decode cX9_worth 5 = .ok (.astore 4, 2) := by decide +kernel
theorem dX9_worth_7 : decode cX9_worth 7 = .ok (.aload 4, 2) := by decide +kernel
theorem dX9_worth_9 : decode cX9_worth 9 = .ok (.ifnonnull 6, 3) := by decide +kernel
theorem dX9_worth_12 : decode cX9_worth 12 = .ok (.bipush (-101), 2) := by decide +kernel
theorem dX9_worth_14 : decode cX9_worth 14 = .ok (.ireturn, 1) := by decide +kernel
theorem dX9_worth_15 : decode cX9_worth 15 = .ok (.aload 4, 2) := by decide +kernel
theorem dX9_worth_17 : decode cX9_worth 17 = .ok (.iload_n 2, 1) := by decide +kernel
theorem dX9_worth_18 : decode cX9_worth 18 = .ok (.iload_n 3, 1) := by decide +kernel
theorem dX9_worth_19 : decode cX9_worth 19 = .ok (.invokestatic 203, 3) := by decide +kernel
theorem dX9_worth_22 : decode cX9_worth 22 = .ok (.ifCond .ne 6, 3) := by decide +kernel
theorem dX9_worth_25 : decode cX9_worth 25 = .ok (.bipush (-102), 2) := by decide +kernel
theorem dX9_worth_27 : decode cX9_worth 27 = .ok (.ireturn, 1) := by decide +kernel
theorem dX9_worth_28 : decode cX9_worth 28 = .ok (.aload_n 0, 1) := by decide +kernel
theorem dX9_worth_29 : decode cX9_worth 29 = .ok (.getfield 59, 3) := by decide +kernel
theorem dX9_worth_32 : decode cX9_worth 32 = .ok (.aload 4, 2) := by decide +kernel
theorem dX9_worth_34 : decode cX9_worth 34 = .ok (.iload_n 2, 1) := by decide +kernel
theorem dX9_worth_35 : decode cX9_worth 35 = .ok (.iload_n 3, 1) := by decide +kernel
theorem dX9_worth_36 : decode cX9_worth 36 = .ok (.invokevirtual 215, 3) := by decide +kernel
theorem dX9_worth_39 : decode cX9_worth 39 = .ok (.aload_n 0, 1) := by decide +kernel
theorem dX9_worth_40 : decode cX9_worth 40 = .ok (.getfield 59, 3) := by decide +kernel
theorem dX9_worth_43 : decode cX9_worth 43 = .ok (.iload_n 3, 1) := by decide +kernel
theorem dX9_worth_44 : decode cX9_worth 44 = .ok (.aload_n 0, 1) := by decide +kernel
theorem dX9_worth_45 : decode cX9_worth 45 = .ok (.getfield 12, 3) := by decide +kernel
theorem dX9_worth_48 : decode cX9_worth 48 = .ok (.invokevirtual 219, 3) := by decide +kernel
theorem dX9_worth_51 : decode cX9_worth 51 = .ok (.ireturn, 1) := by decide +kernel
theorem dX9_block_0 : decode cX9_block 0 = .ok (.aload_n 0, 1) := by decide +kernel
theorem dX9_block_1 : decode cX9_block 1 = .ok (.iload_n 1, 1) := by decide +kernel
theorem dX9_block_2 : decode cX9_block 2 = .ok (.invokevirtual 170, 3) := by decide +kernel
theorem dX9_block_5 : decode cX9_block 5 = .ok (.astore 5, 2) := by decide +kernel
theorem dX9_block_7 : decode cX9_block 7 = .ok (.aload 5, 2) := by decide +kernel
theorem dX9_block_9 : decode cX9_block 9 = .ok (.ifnonnull 6, 3) := by decide +kernel
theorem dX9_block_12 : decode cX9_block 12 = .ok (.bipush (-101), 2) := by decide +kernel
theorem dX9_block_14 : decode cX9_block 14 = .ok (.ireturn, 1) := by decide +kernel
theorem dX9_block_15 : decode cX9_block 15 = .ok (.aload 5, 2) := by decide +kernel
theorem dX9_block_17 : decode cX9_block 17 = .ok (.iload_n 2, 1) := by decide +kernel
theorem dX9_block_18 : decode cX9_block 18 = .ok (.iload_n 3, 1) := by decide +kernel
theorem dX9_block_19 : decode cX9_block 19 = .ok (.invokestatic 203, 3) := by decide +kernel
theorem dX9_block_22 : decode cX9_block 22 = .ok (.ifCond .eq 14, 3) := by decide +kernel
theorem dX9_block_25 : decode cX9_block 25 = .ok (.iload 4, 2) := by decide +kernel
theorem dX9_block_27 : decode cX9_block 27 = .ok (.ifCond .lt 9, 3) := by decide +kernel
theorem dX9_block_30 : decode cX9_block 30 = .ok (.iload 4, 2) := by decide +kernel
theorem dX9_block_32 : decode cX9_block 32 = .ok (.iconst 2, 1) := by decide +kernel
theorem dX9_block_33 : decode cX9_block 33 = .ok (.if_icmp .le 6, 3) := by decide +kernel
theorem dX9_block_36 : decode cX9_block 36 = .ok (.bipush (-102), 2) := by decide +kernel
theorem dX9_block_38 : decode cX9_block 38 = .ok (.ireturn, 1) := by decide +kernel
theorem dX9_block_39 : decode cX9_block 39 = .ok (.aload_n 0, 1) := by decide +kernel
theorem dX9_block_40 : decode cX9_block 40 = .ok (.aload 5, 2) := by decide +kernel
theorem dX9_block_42 : decode cX9_block 42 = .ok (.iload_n 2, 1) := by decide +kernel
theorem dX9_block_43 : decode cX9_block 43 = .ok (.iload_n 3, 1) := by decide +kernel
theorem dX9_block_44 : decode cX9_block 44 = .ok (.aload_n 0, 1) := by decide +kernel
theorem dX9_block_45 : decode cX9_block 45 = .ok (.getfield 46, 3) := by decide +kernel
theorem dX9_block_48 : decode cX9_block 48 = .ok (.invokevirtual 207, 3) := by decide +kernel
theorem dX9_block_51 : decode cX9_block 51 = .ok (.aload_n 0, 1) := by decide +kernel
theorem dX9_block_52 : decode cX9_block 52 = .ok (.getfield 46, 3) := by decide +kernel
theorem dX9_block_55 : decode cX9_block 55 = .ok (.getfield 160, 3) := by decide +kernel
theorem dX9_block_58 : decode cX9_block 58 = .ok (.invokevirtual 223, 3) := by decide +kernel
theorem dX9_block_61 : decode cX9_block 61 = .ok (.istore 6, 2) := by decide +kernel
theorem dX9_block_63 : decode cX9_block 63 = .ok (.aload_n 0, 1) := by decide +kernel
theorem dX9_block_64 : decode cX9_block 64 = .ok (.getfield 46, 3) := by decide +kernel
theorem dX9_block_67 : decode cX9_block 67 = .ok (.getfield 163, 3) := by decide +kernel
theorem dX9_block_70 : decode cX9_block 70 = .ok (.invokevirtual 223, 3) := by decide +kernel
theorem dX9_block_73 : decode cX9_block 73 = .ok (.istore 7, 2) := by decide +kernel
theorem dX9_block_75 : decode cX9_block 75 = .ok (.iload 6, 2) := by decide +kernel
theorem dX9_block_77 : decode cX9_block 77 = .ok (.ifCond .ge 9, 3) := by decide +kernel
theorem dX9_block_80 : decode cX9_block 80 = .ok (.aload_n 0, 1) := by decide +kernel
theorem dX9_block_81 : decode cX9_block 81 = .ok (.iconst 5, 1) := by decide +kernel
theorem dX9_block_82 : decode cX9_block 82 = .ok (.invokevirtual 106, 3) := by decide +kernel
theorem dX9_block_85 : decode cX9_block 85 = .ok (.ireturn, 1) := by decide +kernel
theorem dX9_block_86 : decode cX9_block 86 = .ok (.iload 4, 2) := by decide +kernel
theorem dX9_block_88 : decode cX9_block 88 = .ok (.iconst 2, 1) := by decide +kernel
theorem dX9_block_89 : decode cX9_block 89 = .ok (.if_icmp .ge 16, 3) := by decide +kernel
theorem dX9_block_92 : decode cX9_block 92 = .ok (.iload 4, 2) := by decide +kernel
theorem dX9_block_94 : decode cX9_block 94 = .ok (.ifCond .ne 8, 3) := by decide +kernel
theorem dX9_block_97 : decode cX9_block 97 = .ok (.iload 6, 2) := by decide +kernel
theorem dX9_block_99 : decode cX9_block 99 = .ok (.goto 5, 3) := by decide +kernel
theorem dX9_block_102 : decode cX9_block 102 = .ok (.iload 7, 2) := by decide +kernel
theorem dX9_block_104 : decode cX9_block 104 = .ok (.ireturn, 1) := by decide +kernel
theorem dX9_block_105 : decode cX9_block 105 = .ok (.aload_n 0, 1) := by decide +kernel
theorem dX9_block_106 : decode cX9_block 106 = .ok (.aload 5, 2) := by decide +kernel
theorem dX9_block_108 : decode cX9_block 108 = .ok (.aload_n 0, 1) := by decide +kernel
theorem dX9_block_109 : decode cX9_block 109 = .ok (.getfield 46, 3) := by decide +kernel
theorem dX9_block_112 : decode cX9_block 112 = .ok (.invokevirtual 211, 3) := by decide +kernel
theorem dX9_block_115 : decode cX9_block 115 = .ok (.istore 8, 2) := by decide +kernel
theorem dX9_block_117 : decode cX9_block 117 = .ok (.iload 8, 2) := by decide +kernel
theorem dX9_block_119 : decode cX9_block 119 = .ok (.aload 5, 2) := by decide +kernel
theorem dX9_block_121 : decode cX9_block 121 = .ok (.getfield 173, 3) := by decide +kernel
theorem dX9_block_124 : decode cX9_block 124 = .ok (.if_icmp .le 7, 3) := by decide +kernel
theorem dX9_block_127 : decode cX9_block 127 = .ok (.iconst (-1), 1) := by decide +kernel
theorem dX9_block_128 : decode cX9_block 128 = .ok (.goto 11, 3) := by decide +kernel
theorem dX9_block_131 : decode cX9_block 131 = .ok (.iload 8, 2) := by decide +kernel
theorem dX9_block_133 : decode cX9_block 133 = .ok (.iload 6, 2) := by decide +kernel
theorem dX9_block_135 : decode cX9_block 135 = .ok (.isub, 1) := by decide +kernel
theorem dX9_block_136 : decode cX9_block 136 = .ok (.iload 7, 2) := by decide +kernel
theorem dX9_block_138 : decode cX9_block 138 = .ok (.isub, 1) := by decide +kernel
theorem dX9_block_139 : decode cX9_block 139 = .ok (.ireturn, 1) := by decide +kernel
theorem dX9_stair_0 : decode cX9_stair 0 = .ok (.aload_n 0, 1) := by decide +kernel
theorem dX9_stair_1 : decode cX9_stair 1 = .ok (.iload_n 1, 1) := by decide +kernel
theorem dX9_stair_2 : decode cX9_stair 2 = .ok (.invokevirtual 170, 3) := by decide +kernel
theorem dX9_stair_5 : decode cX9_stair 5 = .ok (.astore_n 3, 1) := by decide +kernel
theorem dX9_stair_6 : decode cX9_stair 6 = .ok (.aload_n 3, 1) := by decide +kernel
theorem dX9_stair_7 : decode cX9_stair 7 = .ok (.ifnonnull 6, 3) := by decide +kernel
theorem dX9_stair_10 : decode cX9_stair 10 = .ok (.bipush (-101), 2) := by decide +kernel
theorem dX9_stair_12 : decode cX9_stair 12 = .ok (.ireturn, 1) := by decide +kernel
theorem dX9_stair_13 : decode cX9_stair 13 = .ok (.iload_n 2, 1) := by decide +kernel
theorem dX9_stair_14 : decode cX9_stair 14 = .ok (.ifCond .lt 11, 3) := by decide +kernel
theorem dX9_stair_17 : decode cX9_stair 17 = .ok (.iload_n 2, 1) := by decide +kernel
theorem dX9_stair_18 : decode cX9_stair 18 = .ok (.aload_n 3, 1) := by decide +kernel
theorem dX9_stair_19 : decode cX9_stair 19 = .ok (.getfield 173, 3) := by decide +kernel
theorem dX9_stair_22 : decode cX9_stair 22 = .ok (.if_icmp .le 6, 3) := by decide +kernel
theorem dX9_stair_25 : decode cX9_stair 25 = .ok (.bipush (-102), 2) := by decide +kernel
theorem dX9_stair_27 : decode cX9_stair 27 = .ok (.ireturn, 1) := by decide +kernel
theorem dX9_stair_28 : decode cX9_stair 28 = .ok (.iload_n 2, 1) := by decide +kernel
theorem dX9_stair_29 : decode cX9_stair 29 = .ok (.ifCond .ne 12, 3) := by decide +kernel
theorem dX9_stair_32 : decode cX9_stair 32 = .ok (.aload_n 3, 1) := by decide +kernel
theorem dX9_stair_33 : decode cX9_stair 33 = .ok (.getfield 149, 3) := by decide +kernel
theorem dX9_stair_36 : decode cX9_stair 36 = .ok (.iconst 0, 1) := by decide +kernel
theorem dX9_stair_37 : decode cX9_stair 37 = .ok (.invokevirtual 186, 3) := by decide +kernel
theorem dX9_stair_40 : decode cX9_stair 40 = .ok (.ireturn, 1) := by decide +kernel
theorem dX9_stair_41 : decode cX9_stair 41 = .ok (.aload_n 0, 1) := by decide +kernel
theorem dX9_stair_42 : decode cX9_stair 42 = .ok (.getfield 73, 3) := by decide +kernel
theorem dX9_stair_45 : decode cX9_stair 45 = .ok (.astore 4, 2) := by decide +kernel
theorem dX9_stair_47 : decode cX9_stair 47 = .ok (.aload 4, 2) := by decide +kernel
theorem dX9_stair_49 : decode cX9_stair 49 = .ok (.aload_n 3, 1) := by decide +kernel
theorem dX9_stair_50 : decode cX9_stair 50 = .ok (.getfield 149, 3) := by decide +kernel
theorem dX9_stair_53 : decode cX9_stair 53 = .ok (.invokevirtual 196, 3) := by decide +kernel
theorem dX9_stair_56 : decode cX9_stair 56 = .ok (.aload 4, 2) := by decide +kernel
theorem dX9_stair_58 : decode cX9_stair 58 = .ok (.invokevirtual 226, 3) := by decide +kernel
theorem dX9_stair_61 : decode cX9_stair 61 = .ok (.iconst 1, 1) := by decide +kernel
theorem dX9_stair_62 : decode cX9_stair 62 = .ok (.istore 5, 2) := by decide +kernel
theorem dX9_stair_64 : decode cX9_stair 64 = .ok (.iload 5, 2) := by decide +kernel
theorem dX9_stair_66 : decode cX9_stair 66 = .ok (.iload_n 2, 1) := by decide +kernel
theorem dX9_stair_67 : decode cX9_stair 67 = .ok (.if_icmp .ge 37, 3) := by decide +kernel
theorem dX9_stair_70 : decode cX9_stair 70 = .ok (.aload 4, 2) := by decide +kernel
theorem dX9_stair_72 : decode cX9_stair 72 = .ok (.iconst 0, 1) := by decide +kernel
theorem dX9_stair_73 : decode cX9_stair 73 = .ok (.invokevirtual 186, 3) := by decide +kernel
theorem dX9_stair_76 : decode cX9_stair 76 = .ok (.ifCond .ne 9, 3) := by decide +kernel
theorem dX9_stair_79 : decode cX9_stair 79 = .ok (.aload_n 0, 1) := by decide +kernel
theorem dX9_stair_80 : decode cX9_stair 80 = .ok (.iconst 5, 1) := by decide +kernel
theorem dX9_stair_81 : decode cX9_stair 81 = .ok (.invokevirtual 106, 3) := by decide +kernel
theorem dX9_stair_84 : decode cX9_stair 84 = .ok (.ireturn, 1) := by decide +kernel
theorem dX9_stair_85 : decode cX9_stair 85 = .ok (.aload_n 0, 1) := by decide +kernel
theorem dX9_stair_86 : decode cX9_stair 86 = .ok (.aload 4, 2) := by decide +kernel
theorem dX9_stair_88 : decode cX9_stair 88 = .ok (.aload_n 3, 1) := by decide +kernel
theorem dX9_stair_89 : decode cX9_stair 89 = .ok (.getfield 173, 3) := by decide +kernel
theorem dX9_stair_92 : decode cX9_stair 92 = .ok (.iload 5, 2) := by decide +kernel
theorem dX9_stair_94 : decode cX9_stair 94 = .ok (.isub, 1) := by decide +kernel
theorem dX9_stair_95 : decode cX9_stair 95 = .ok (.invokevirtual 229, 3) := by decide +kernel
theorem dX9_stair_98 : decode cX9_stair 98 = .ok (.iinc 5 1, 3) := by decide +kernel
theorem dX9_stair_101 : decode cX9_stair 101 = .ok (.goto (-37), 3) := by decide +kernel
theorem dX9_stair_104 : decode cX9_stair 104 = .ok (.aload 4, 2) := by decide +kernel
theorem dX9_stair_106 : decode cX9_stair 106 = .ok (.iconst 0, 1) := by decide +kernel
theorem dX9_stair_107 : decode cX9_stair 107 = .ok (.invokevirtual 186, 3) := by decide +kernel
theorem dX9_stair_110 : decode cX9_stair 110 = .ok (.ireturn, 1) := by decide +kernel
theorem dX9_recur_0 : decode cX9_recur 0 = .ok (.aload_n 0, 1) := by decide +kernel
theorem dX9_recur_1 : decode cX9_recur 1 = .ok (.iload_n 1, 1) := by decide +kernel
theorem dX9_recur_2 : decode cX9_recur 2 = .ok (.invokevirtual 170, 3) := by decide +kernel
theorem dX9_recur_5 : decode cX9_recur 5 = .ok (.astore_n 2, 1) := by decide +kernel
theorem dX9_recur_6 : decode cX9_recur 6 = .ok (.aload_n 2, 1) := by decide +kernel
theorem dX9_recur_7 : decode cX9_recur 7 = .ok (.ifnonnull 6, 3) := by decide +kernel
theorem dX9_recur_10 : decode cX9_recur 10 = .ok (.bipush (-101), 2) := by decide +kernel
theorem dX9_recur_12 : decode cX9_recur 12 = .ok (.ireturn, 1) := by decide +kernel
theorem dX9_recur_13 : decode cX9_recur 13 = .ok (.aload_n 0, 1) := by decide +kernel
theorem dX9_recur_14 : decode cX9_recur 14 = .ok (.getfield 66, 3) := by decide +kernel
theorem dX9_recur_17 : decode cX9_recur 17 = .ok (.aload_n 2, 1) := by decide +kernel
theorem dX9_recur_18 : decode cX9_recur 18 = .ok (.aload_n 0, 1) := by decide +kernel
theorem dX9_recur_19 : decode cX9_recur 19 = .ok (.getfield 12, 3) := by decide +kernel
theorem dX9_recur_22 : decode cX9_recur 22 = .ok (.invokevirtual 233, 3) := by decide +kernel
theorem dX9_recur_25 : decode cX9_recur 25 = .ok (.istore_n 3, 1) := by decide +kernel
theorem dX9_recur_26 : decode cX9_recur 26 = .ok (.iload_n 3, 1) := by decide +kernel
theorem dX9_recur_27 : decode cX9_recur 27 = .ok (.ifCond .ne 13, 3) := by decide +kernel
theorem dX9_recur_30 : decode cX9_recur 30 = .ok (.aload_n 0, 1) := by decide +kernel
theorem dX9_recur_31 : decode cX9_recur 31 = .ok (.getfield 42, 3) := by decide +kernel
theorem dX9_recur_34 : decode cX9_recur 34 = .ok (.invokevirtual 96, 3) := by decide +kernel
theorem dX9_recur_37 : decode cX9_recur 37 = .ok (.goto 28, 3) := by decide +kernel
theorem dX9_recur_40 : decode cX9_recur 40 = .ok (.iconst 2, 1) := by decide +kernel
theorem dX9_recur_41 : decode cX9_recur 41 = .ok (.iload_n 3, 1) := by decide +kernel
theorem dX9_recur_42 : decode cX9_recur 42 = .ok (.imul, 1) := by decide +kernel
theorem dX9_recur_43 : decode cX9_recur 43 = .ok (.iconst 1, 1) := by decide +kernel
theorem dX9_recur_44 : decode cX9_recur 44 = .ok (.isub, 1) := by decide +kernel
theorem dX9_recur_45 : decode cX9_recur 45 = .ok (.aload_n 2, 1) := by decide +kernel
theorem dX9_recur_46 : decode cX9_recur 46 = .ok (.getfield 173, 3) := by decide +kernel
theorem dX9_recur_49 : decode cX9_recur 49 = .ok (.if_icmp .gt 16, 3) := by decide +kernel
theorem dX9_recur_52 : decode cX9_recur 52 = .ok (.aload_n 0, 1) := by decide +kernel
theorem dX9_recur_53 : decode cX9_recur 53 = .ok (.aload_n 2, 1) := by decide +kernel
theorem dX9_recur_54 : decode cX9_recur 54 = .ok (.iload_n 3, 1) := by decide +kernel
theorem dX9_recur_55 : decode cX9_recur 55 = .ok (.iconst 1, 1) := by decide +kernel
theorem dX9_recur_56 : decode cX9_recur 56 = .ok (.isub, 1) := by decide +kernel
theorem dX9_recur_57 : decode cX9_recur 57 = .ok (.iload_n 3, 1) := by decide +kernel
theorem dX9_recur_58 : decode cX9_recur 58 = .ok (.aload_n 0, 1) := by decide +kernel
theorem dX9_recur_59 : decode cX9_recur 59 = .ok (.getfield 42, 3) := by decide +kernel
theorem dX9_recur_62 : decode cX9_recur 62 = .ok (.invokevirtual 207, 3) := by decide +kernel
theorem dX9_recur_65 : decode cX9_recur 65 = .ok (.iload_n 3, 1) := by decide +kernel
theorem dX9_recur_66 : decode cX9_recur 66 = .ok (.ireturn, 1) := by decide +kernel
theorem dX9_point_0 : decode cX9_point 0 = .ok (.aload_n 0, 1) := by decide +kernel
theorem dX9_point_1 : decode cX9_point 1 = .ok (.getfield 12, 3) := by decide +kernel
theorem dX9_point_4 : decode cX9_point 4 = .ok (.iload_n 1, 1) := by decide +kernel
theorem dX9_point_5 : decode cX9_point 5 = .ok (.i2l, 1) := by decide +kernel
theorem dX9_point_6 : decode cX9_point 6 = .ok (.invokevirtual 182, 3) := by decide +kernel
theorem dX9_point_9 : decode cX9_point 9 = .ok (.istore_n 3, 1) := by decide +kernel
theorem dX9_point_10 : decode cX9_point 10 = .ok (.aload_n 0, 1) := by decide +kernel
theorem dX9_point_11 : decode cX9_point 11 = .ok (.getfield 12, 3) := by decide +kernel
theorem dX9_point_14 : decode cX9_point 14 = .ok (.iload_n 2, 1) := by decide +kernel
theorem dX9_point_15 : decode cX9_point 15 = .ok (.i2l, 1) := by decide +kernel
theorem dX9_point_16 : decode cX9_point 16 = .ok (.invokevirtual 182, 3) := by decide +kernel
theorem dX9_point_19 : decode cX9_point 19 = .ok (.istore 4, 2) := by decide +kernel
theorem dX9_point_21 : decode cX9_point 21 = .ok (.aload_n 0, 1) := by decide +kernel
theorem dX9_point_22 : decode cX9_point 22 = .ok (.getfield 35, 3) := by decide +kernel
theorem dX9_point_25 : decode cX9_point 25 = .ok (.iload_n 3, 1) := by decide +kernel
theorem dX9_point_26 : decode cX9_point 26 = .ok (.invokevirtual 237, 3) := by decide +kernel
theorem dX9_point_29 : decode cX9_point 29 = .ok (.istore 5, 2) := by decide +kernel
theorem dX9_point_31 : decode cX9_point 31 = .ok (.iload 5, 2) := by decide +kernel
theorem dX9_point_33 : decode cX9_point 33 = .ok (.ifCond .lt 30, 3) := by decide +kernel
theorem dX9_point_36 : decode cX9_point 36 = .ok (.aload_n 0, 1) := by decide +kernel
theorem dX9_point_37 : decode cX9_point 37 = .ok (.getfield 35, 3) := by decide +kernel
theorem dX9_point_40 : decode cX9_point 40 = .ok (.iload 5, 2) := by decide +kernel
theorem dX9_point_42 : decode cX9_point 42 = .ok (.invokevirtual 240, 3) := by decide +kernel
theorem dX9_point_45 : decode cX9_point 45 = .ok (.iload 4, 2) := by decide +kernel
theorem dX9_point_47 : decode cX9_point 47 = .ok (.if_icmp .ne 13, 3) := by decide +kernel
theorem dX9_point_50 : decode cX9_point 50 = .ok (.aload_n 0, 1) := by decide +kernel
theorem dX9_point_51 : decode cX9_point 51 = .ok (.getfield 35, 3) := by decide +kernel
theorem dX9_point_54 : decode cX9_point 54 = .ok (.getfield 90, 3) := by decide +kernel
theorem dX9_point_57 : decode cX9_point 57 = .ok (.goto 5, 3) := by decide +kernel
theorem dX9_point_60 : decode cX9_point 60 = .ok (.bipush (-103), 2) := by decide +kernel
theorem dX9_point_62 : decode cX9_point 62 = .ok (.ireturn, 1) := by decide +kernel
theorem dX9_point_63 : decode cX9_point 63 = .ok (.aload_n 0, 1) := by decide +kernel
theorem dX9_point_64 : decode cX9_point 64 = .ok (.getfield 35, 3) := by decide +kernel
theorem dX9_point_67 : decode cX9_point 67 = .ok (.getfield 90, 3) := by decide +kernel
theorem dX9_point_70 : decode cX9_point 70 = .ok (.bipush 20, 2) := by decide +kernel
theorem dX9_point_72 : decode cX9_point 72 = .ok (.if_icmp .lt 6, 3) := by decide +kernel
theorem dX9_point_75 : decode cX9_point 75 = .ok (.bipush (-104), 2) := by decide +kernel
theorem dX9_point_77 : decode cX9_point 77 = .ok (.ireturn, 1) := by decide +kernel
theorem dX9_point_78 : decode cX9_point 78 = .ok (.aload_n 0, 1) := by decide +kernel
theorem dX9_point_79 : decode cX9_point 79 = .ok (.getfield 35, 3) := by decide +kernel
theorem dX9_point_82 : decode cX9_point 82 = .ok (.iload_n 3, 1) := by decide +kernel
theorem dX9_point_83 : decode cX9_point 83 = .ok (.iload 4, 2) := by decide +kernel
theorem dX9_point_85 : decode cX9_point 85 = .ok (.invokevirtual 243, 3) := by decide +kernel
theorem dX9_point_88 : decode cX9_point 88 = .ok (.aload_n 0, 1) := by decide +kernel
theorem dX9_point_89 : decode cX9_point 89 = .ok (.getfield 35, 3) := by decide +kernel
theorem dX9_point_92 : decode cX9_point 92 = .ok (.getfield 90, 3) := by decide +kernel
theorem dX9_point_95 : decode cX9_point 95 = .ok (.ireturn, 1) := by decide +kernel
theorem dX9_wipe_0 : decode cX9_wipe 0 = .ok (.aload_n 0, 1) := by decide +kernel
theorem dX9_wipe_1 : decode cX9_wipe 1 = .ok (.getfield 35, 3) := by decide +kernel
theorem dX9_wipe_4 : decode cX9_wipe 4 = .ok (.getfield 90, 3) := by decide +kernel
theorem dX9_wipe_7 : decode cX9_wipe 7 = .ok (.istore_n 1, 1) := by decide +kernel
theorem dX9_wipe_8 : decode cX9_wipe 8 = .ok (.aload_n 0, 1) := by decide +kernel
theorem dX9_wipe_9 : decode cX9_wipe 9 = .ok (.getfield 35, 3) := by decide +kernel
theorem dX9_wipe_12 : decode cX9_wipe 12 = .ok (.iconst 0, 1) := by decide +kernel
theorem dX9_wipe_13 : decode cX9_wipe 13 = .ok (.putfield 90, 3) := by decide +kernel
theorem dX9_wipe_16 : decode cX9_wipe 16 = .ok (.iload_n 1, 1) := by decide +kernel
theorem dX9_wipe_17 : decode cX9_wipe 17 = .ok (.ireturn, 1) := by decide +kernel
theorem dX9_join_0 : decode cX9_join 0 = .ok (.iload_n 1, 1) := by decide +kernel
theorem dX9_join_1 : decode cX9_join 1 = .ok (.ifCond .lt 7, 3) := by decide +kernel
theorem dX9_join_4 : decode cX9_join 4 = .ok (.iload_n 2, 1) := by decide +kernel
theorem dX9_join_5 : decode cX9_join 5 = .ok (.ifCond .ge 6, 3) := by decide +kernel
theorem dX9_join_8 : decode cX9_join 8 = .ok (.bipush (-102), 2) := by decide +kernel
theorem dX9_join_10 : decode cX9_join 10 = .ok (.ireturn, 1) := by decide +kernel
theorem dX9_join_11 : decode cX9_join 11 = .ok (.iload_n 1, 1) := by decide +kernel
theorem dX9_join_12 : decode cX9_join 12 = .ok (.i2l, 1) := by decide +kernel
theorem dX9_join_13 : decode cX9_join 13 = .ok (.iload_n 2, 1) := by decide +kernel
theorem dX9_join_14 : decode cX9_join 14 = .ok (.i2l, 1) := by decide +kernel
theorem dX9_join_15 : decode cX9_join 15 = .ok (.ladd, 1) := by decide +kernel
theorem dX9_join_16 : decode cX9_join 16 = .ok (.lconst 1, 1) := by decide +kernel
theorem dX9_join_17 : decode cX9_join 17 = .ok (.ladd, 1) := by decide +kernel
theorem dX9_join_18 : decode cX9_join 18 = .ok (.aload_n 0, 1) := by decide +kernel
theorem dX9_join_19 : decode cX9_join 19 = .ok (.getfield 35, 3) := by decide +kernel
theorem dX9_join_22 : decode cX9_join 22 = .ok (.getfield 90, 3) := by decide +kernel
theorem dX9_join_25 : decode cX9_join 25 = .ok (.i2l, 1) := by decide +kernel
theorem dX9_join_26 : decode cX9_join 26 = .ok (.lcmp, 1) := by decide +kernel
theorem dX9_join_27 : decode cX9_join 27 = .ok (.ifCond .eq 6, 3) := by decide +kernel
theorem dX9_join_30 : decode cX9_join 30 = .ok (.bipush (-103), 2) := by decide +kernel
theorem dX9_join_32 : decode cX9_join 32 = .ok (.ireturn, 1) := by decide +kernel
theorem dX9_join_33 : decode cX9_join 33 = .ok (.aload_n 0, 1) := by decide +kernel
theorem dX9_join_34 : decode cX9_join 34 = .ok (.getfield 35, 3) := by decide +kernel
theorem dX9_join_37 : decode cX9_join 37 = .ok (.aload_n 0, 1) := by decide +kernel
theorem dX9_join_38 : decode cX9_join 38 = .ok (.getfield 52, 3) := by decide +kernel
theorem dX9_join_41 : decode cX9_join 41 = .ok (.getfield 246, 3) := by decide +kernel
theorem dX9_join_44 : decode cX9_join 44 = .ok (.aload_n 0, 1) := by decide +kernel
theorem dX9_join_45 : decode cX9_join 45 = .ok (.getfield 52, 3) := by decide +kernel
theorem dX9_join_48 : decode cX9_join 48 = .ok (.getfield 248, 3) := by decide +kernel
theorem dX9_join_51 : decode cX9_join 51 = .ok (.aload_n 0, 1) := by decide +kernel
theorem dX9_join_52 : decode cX9_join 52 = .ok (.getfield 12, 3) := by decide +kernel
theorem dX9_join_55 : decode cX9_join 55 = .ok (.invokevirtual 251, 3) := by decide +kernel
theorem dX9_join_58 : decode cX9_join 58 = .ok (.aload_n 0, 1) := by decide +kernel
theorem dX9_join_59 : decode cX9_join 59 = .ok (.getfield 52, 3) := by decide +kernel
theorem dX9_join_62 : decode cX9_join 62 = .ok (.iload_n 1, 1) := by decide +kernel
theorem dX9_join_63 : decode cX9_join 63 = .ok (.aload_n 0, 1) := by decide +kernel
theorem dX9_join_64 : decode cX9_join 64 = .ok (.getfield 46, 3) := by decide +kernel
theorem dX9_join_67 : decode cX9_join 67 = .ok (.aload_n 0, 1) := by decide +kernel
theorem dX9_join_68 : decode cX9_join 68 = .ok (.getfield 12, 3) := by decide +kernel
theorem dX9_join_71 : decode cX9_join 71 = .ok (.invokevirtual 255, 3) := by decide +kernel
theorem dX9_join_74 : decode cX9_join 74 = .ok (.aload_n 0, 1) := by decide +kernel
theorem dX9_join_75 : decode cX9_join 75 = .ok (.getfield 35, 3) := by decide +kernel
theorem dX9_join_78 : decode cX9_join 78 = .ok (.aload_n 0, 1) := by decide +kernel
theorem dX9_join_79 : decode cX9_join 79 = .ok (.getfield 46, 3) := by decide +kernel
theorem dX9_join_82 : decode cX9_join 82 = .ok (.aload_n 0, 1) := by decide +kernel
theorem dX9_join_83 : decode cX9_join 83 = .ok (.getfield 12, 3) := by decide +kernel
theorem dX9_join_86 : decode cX9_join 86 = .ok (.invokevirtual 259, 3) := by decide +kernel
theorem dX9_join_89 : decode cX9_join 89 = .ok (.ifCond .ne 5, 3) := by decide +kernel
theorem dX9_join_92 : decode cX9_join 92 = .ok (.iconst 0, 1) := by decide +kernel
theorem dX9_join_93 : decode cX9_join 93 = .ok (.ireturn, 1) := by decide +kernel
theorem dX9_join_94 : decode cX9_join 94 = .ok (.aload_n 0, 1) := by decide +kernel
theorem dX9_join_95 : decode cX9_join 95 = .ok (.getfield 42, 3) := by decide +kernel
theorem dX9_join_98 : decode cX9_join 98 = .ok (.aload_n 0, 1) := by decide +kernel
theorem dX9_join_99 : decode cX9_join 99 = .ok (.getfield 46, 3) := by decide +kernel
theorem dX9_join_102 : decode cX9_join 102 = .ok (.invokevirtual 263, 3) := by decide +kernel
theorem dX9_join_105 : decode cX9_join 105 = .ok (.iconst 1, 1) := by decide +kernel
theorem dX9_join_106 : decode cX9_join 106 = .ok (.ireturn, 1) := by decide +kernel
theorem dX9_degree_0 : decode cX9_degree 0 = .ok (.aload_n 0, 1) := by decide +kernel
theorem dX9_degree_1 : decode cX9_degree 1 = .ok (.getfield 42, 3) := by decide +kernel
theorem dX9_degree_4 : decode cX9_degree 4 = .ok (.iload_n 1, 1) := by decide +kernel
theorem dX9_degree_5 : decode cX9_degree 5 = .ok (.invokevirtual 266, 3) := by decide +kernel
theorem dX9_degree_8 : decode cX9_degree 8 = .ok (.astore_n 2, 1) := by decide +kernel
theorem dX9_degree_9 : decode cX9_degree 9 = .ok (.aload_n 2, 1) := by decide +kernel
theorem dX9_degree_10 : decode cX9_degree 10 = .ok (.ifnonnull 8, 3) := by decide +kernel
theorem dX9_degree_13 : decode cX9_degree 13 = .ok (.bipush (-102), 2) := by decide +kernel
theorem dX9_degree_15 : decode cX9_degree 15 = .ok (.goto 7, 3) := by decide +kernel
theorem dX9_degree_18 : decode cX9_degree 18 = .ok (.aload_n 2, 1) := by decide +kernel
theorem dX9_degree_19 : decode cX9_degree 19 = .ok (.invokevirtual 223, 3) := by decide +kernel
theorem dX9_degree_22 : decode cX9_degree 22 = .ok (.ireturn, 1) := by decide +kernel
theorem dX9_term_0 : decode cX9_term 0 = .ok (.aload_n 0, 1) := by decide +kernel
theorem dX9_term_1 : decode cX9_term 1 = .ok (.getfield 42, 3) := by decide +kernel
theorem dX9_term_4 : decode cX9_term 4 = .ok (.iload_n 1, 1) := by decide +kernel
theorem dX9_term_5 : decode cX9_term 5 = .ok (.invokevirtual 266, 3) := by decide +kernel
theorem dX9_term_8 : decode cX9_term 8 = .ok (.astore_n 3, 1) := by decide +kernel
theorem dX9_term_9 : decode cX9_term 9 = .ok (.aload_n 3, 1) := by decide +kernel
theorem dX9_term_10 : decode cX9_term 10 = .ok (.ifnonnull 8, 3) := by decide +kernel
theorem dX9_term_13 : decode cX9_term 13 = .ok (.bipush (-102), 2) := by decide +kernel
theorem dX9_term_15 : decode cX9_term 15 = .ok (.goto 8, 3) := by decide +kernel
theorem dX9_term_18 : decode cX9_term 18 = .ok (.aload_n 3, 1) := by decide +kernel
theorem dX9_term_19 : decode cX9_term 19 = .ok (.iload_n 2, 1) := by decide +kernel
theorem dX9_term_20 : decode cX9_term 20 = .ok (.invokevirtual 186, 3) := by decide +kernel
theorem dX9_term_23 : decode cX9_term 23 = .ok (.ireturn, 1) := by decide +kernel
theorem dX9_value_0 : decode cX9_value 0 = .ok (.aload_n 0, 1) := by decide +kernel
theorem dX9_value_1 : decode cX9_value 1 = .ok (.getfield 12, 3) := by decide +kernel
theorem dX9_value_4 : decode cX9_value 4 = .ok (.iload_n 1, 1) := by decide +kernel
theorem dX9_value_5 : decode cX9_value 5 = .ok (.i2l, 1) := by decide +kernel
theorem dX9_value_6 : decode cX9_value 6 = .ok (.invokevirtual 182, 3) := by decide +kernel
theorem dX9_value_9 : decode cX9_value 9 = .ok (.istore_n 2, 1) := by decide +kernel
theorem dX9_value_10 : decode cX9_value 10 = .ok (.aload_n 0, 1) := by decide +kernel
theorem dX9_value_11 : decode cX9_value 11 = .ok (.getfield 42, 3) := by decide +kernel
theorem dX9_value_14 : decode cX9_value 14 = .ok (.getfield 163, 3) := by decide +kernel
theorem dX9_value_17 : decode cX9_value 17 = .ok (.iload_n 2, 1) := by decide +kernel
theorem dX9_value_18 : decode cX9_value 18 = .ok (.aload_n 0, 1) := by decide +kernel
theorem dX9_value_19 : decode cX9_value 19 = .ok (.getfield 12, 3) := by decide +kernel
theorem dX9_value_22 : decode cX9_value 22 = .ok (.invokevirtual 270, 3) := by decide +kernel
theorem dX9_value_25 : decode cX9_value 25 = .ok (.istore_n 3, 1) := by decide +kernel
theorem dX9_value_26 : decode cX9_value 26 = .ok (.iload_n 3, 1) := by decide +kernel
theorem dX9_value_27 : decode cX9_value 27 = .ok (.ifCond .ne 5, 3) := by decide +kernel
theorem dX9_value_30 : decode cX9_value 30 = .ok (.iconst (-1), 1) := by decide +kernel
theorem dX9_value_31 : decode cX9_value 31 = .ok (.ireturn, 1) := by decide +kernel
theorem dX9_value_32 : decode cX9_value 32 = .ok (.aload_n 0, 1) := by decide +kernel
theorem dX9_value_33 : decode cX9_value 33 = .ok (.getfield 12, 3) := by decide +kernel
theorem dX9_value_36 : decode cX9_value 36 = .ok (.aload_n 0, 1) := by decide +kernel
theorem dX9_value_37 : decode cX9_value 37 = .ok (.getfield 42, 3) := by decide +kernel
theorem dX9_value_40 : decode cX9_value 40 = .ok (.getfield 160, 3) := by decide +kernel
theorem dX9_value_43 : decode cX9_value 43 = .ok (.iload_n 2, 1) := by decide +kernel
theorem dX9_value_44 : decode cX9_value 44 = .ok (.aload_n 0, 1) := by decide +kernel
theorem dX9_value_45 : decode cX9_value 45 = .ok (.getfield 12, 3) := by decide +kernel
theorem dX9_value_48 : decode cX9_value 48 = .ok (.invokevirtual 270, 3) := by decide +kernel
theorem dX9_value_51 : decode cX9_value 51 = .ok (.aload_n 0, 1) := by decide +kernel
theorem dX9_value_52 : decode cX9_value 52 = .ok (.getfield 12, 3) := by decide +kernel
theorem dX9_value_55 : decode cX9_value 55 = .ok (.iload_n 3, 1) := by decide +kernel
theorem dX9_value_56 : decode cX9_value 56 = .ok (.invokevirtual 273, 3) := by decide +kernel
theorem dX9_value_59 : decode cX9_value 59 = .ok (.invokevirtual 200, 3) := by decide +kernel
theorem dX9_value_62 : decode cX9_value 62 = .ok (.ireturn, 1) := by decide +kernel
theorem dX9_cause_0 : decode cX9_cause 0 = .ok (.aload_n 0, 1) := by decide +kernel
theorem dX9_cause_1 : decode cX9_cause 1 = .ok (.getfield 81, 3) := by decide +kernel
theorem dX9_cause_4 : decode cX9_cause 4 = .ok (.ireturn, 1) := by decide +kernel
theorem dX9_causes_0 : decode cX9_causes 0 = .ok (.iload_n 1, 1) := by decide +kernel
theorem dX9_causes_1 : decode cX9_causes 1 = .ok (.iconst 1, 1) := by decide +kernel
theorem dX9_causes_2 : decode cX9_causes 2 = .ok (.if_icmp .lt 17, 3) := by decide +kernel
theorem dX9_causes_5 : decode cX9_causes 5 = .ok (.iload_n 1, 1) := by decide +kernel
theorem dX9_causes_6 : decode cX9_causes 6 = .ok (.iconst 5, 1) := by decide +kernel
theorem dX9_causes_7 : decode cX9_causes 7 = .ok (.if_icmp .gt 12, 3) := by decide +kernel
theorem dX9_causes_10 : decode cX9_causes 10 = .ok (.aload_n 0, 1) := by decide +kernel
theorem dX9_causes_11 : decode cX9_causes 11 = .ok (.getfield 77, 3) := by decide +kernel
theorem dX9_causes_14 : decode cX9_causes 14 = .ok (.iload_n 1, 1) := by decide +kernel
theorem dX9_causes_15 : decode cX9_causes 15 = .ok (.iaload, 1) := by decide +kernel
theorem dX9_causes_16 : decode cX9_causes 16 = .ok (.goto 5, 3) := by decide +kernel
theorem dX9_causes_19 : decode cX9_causes 19 = .ok (.bipush (-102), 2) := by decide +kernel
theorem dX9_causes_21 : decode cX9_causes 21 = .ok (.ireturn, 1) := by decide +kernel
theorem dX9_count_0 : decode cX9_count 0 = .ok (.iload_n 1, 1) := by decide +kernel
theorem dX9_count_1 : decode cX9_count 1 = .ok (.tableswitch 57 0 3 #[31, 39, 44, 52], 31) := by decide +kernel
theorem dX9_count_32 : decode cX9_count 32 = .ok (.aload_n 0, 1) := by decide +kernel
theorem dX9_count_33 : decode cX9_count 33 = .ok (.getfield 12, 3) := by decide +kernel
theorem dX9_count_36 : decode cX9_count 36 = .ok (.getfield 93, 3) := by decide +kernel
theorem dX9_count_39 : decode cX9_count 39 = .ok (.ireturn, 1) := by decide +kernel
theorem dX9_count_40 : decode cX9_count 40 = .ok (.aload_n 0, 1) := by decide +kernel
theorem dX9_count_41 : decode cX9_count 41 = .ok (.getfield 28, 3) := by decide +kernel
theorem dX9_count_44 : decode cX9_count 44 = .ok (.ireturn, 1) := by decide +kernel
theorem dX9_count_45 : decode cX9_count 45 = .ok (.aload_n 0, 1) := by decide +kernel
theorem dX9_count_46 : decode cX9_count 46 = .ok (.getfield 35, 3) := by decide +kernel
theorem dX9_count_49 : decode cX9_count 49 = .ok (.getfield 90, 3) := by decide +kernel
theorem dX9_count_52 : decode cX9_count 52 = .ok (.ireturn, 1) := by decide +kernel
theorem dX9_count_53 : decode cX9_count 53 = .ok (.aload_n 0, 1) := by decide +kernel
theorem dX9_count_54 : decode cX9_count 54 = .ok (.invokevirtual 276, 3) := by decide +kernel
theorem dX9_count_57 : decode cX9_count 57 = .ok (.ireturn, 1) := by decide +kernel
theorem dX9_count_58 : decode cX9_count 58 = .ok (.bipush (-102), 2) := by decide +kernel
theorem dX9_count_60 : decode cX9_count 60 = .ok (.ireturn, 1) := by decide +kernel
theorem dX9_digest_0 : decode cX9_digest 0 = .ok (.ldc2_w 279, 3) := by decide +kernel
theorem dX9_digest_3 : decode cX9_digest 3 = .ok (.aload_n 0, 1) := by decide +kernel
theorem dX9_digest_4 : decode cX9_digest 4 = .ok (.getfield 12, 3) := by decide +kernel
theorem dX9_digest_7 : decode cX9_digest 7 = .ok (.getfield 93, 3) := by decide +kernel
theorem dX9_digest_10 : decode cX9_digest 10 = .ok (.i2l, 1) := by decide +kernel
theorem dX9_digest_11 : decode cX9_digest 11 = .ok (.invokestatic 281, 3) := by decide +kernel
theorem dX9_digest_14 : decode cX9_digest 14 = .ok (.lstore_n 1, 1) := by decide +kernel
theorem dX9_digest_15 : decode cX9_digest 15 = .ok (.iconst 0, 1) := by decide +kernel
theorem dX9_digest_16 : decode cX9_digest 16 = .ok (.istore_n 3, 1) := by decide +kernel
theorem dX9_digest_17 : decode cX9_digest 17 = .ok (.iload_n 3, 1) := by decide +kernel
theorem dX9_digest_18 : decode cX9_digest 18 = .ok (.iconst 4, 1) := by decide +kernel
theorem dX9_digest_19 : decode cX9_digest 19 = .ok (.if_icmp .ge 20, 3) := by decide +kernel
theorem dX9_digest_22 : decode cX9_digest 22 = .ok (.aload_n 0, 1) := by decide +kernel
theorem dX9_digest_23 : decode cX9_digest 23 = .ok (.getfield 18, 3) := by decide +kernel
theorem dX9_digest_26 : decode cX9_digest 26 = .ok (.iload_n 3, 1) := by decide +kernel
theorem dX9_digest_27 : decode cX9_digest 27 = .ok (.aaload, 1) := by decide +kernel
theorem dX9_digest_28 : decode cX9_digest 28 = .ok (.lload_n 1, 1) := by decide +kernel
theorem dX9_digest_29 : decode cX9_digest 29 = .ok (.invokevirtual 285, 3) := by decide +kernel
theorem dX9_digest_32 : decode cX9_digest 32 = .ok (.lstore_n 1, 1) := by decide +kernel
theorem dX9_digest_33 : decode cX9_digest 33 = .ok (.iinc 3 1, 3) := by decide +kernel
theorem dX9_digest_36 : decode cX9_digest 36 = .ok (.goto (-19), 3) := by decide +kernel
theorem dX9_digest_39 : decode cX9_digest 39 = .ok (.iconst 0, 1) := by decide +kernel
theorem dX9_digest_40 : decode cX9_digest 40 = .ok (.istore_n 3, 1) := by decide +kernel
theorem dX9_digest_41 : decode cX9_digest 41 = .ok (.iload_n 3, 1) := by decide +kernel
theorem dX9_digest_42 : decode cX9_digest 42 = .ok (.aload_n 0, 1) := by decide +kernel
theorem dX9_digest_43 : decode cX9_digest 43 = .ok (.getfield 28, 3) := by decide +kernel
theorem dX9_digest_46 : decode cX9_digest 46 = .ok (.if_icmp .ge 53, 3) := by decide +kernel
theorem dX9_digest_49 : decode cX9_digest 49 = .ok (.iload_n 3, 1) := by decide +kernel
theorem dX9_digest_50 : decode cX9_digest 50 = .ok (.bipush 10, 2) := by decide +kernel
theorem dX9_digest_52 : decode cX9_digest 52 = .ok (.if_icmp .ge 47, 3) := by decide +kernel
theorem dX9_digest_55 : decode cX9_digest 55 = .ok (.lload_n 1, 1) := by decide +kernel
theorem dX9_digest_56 : decode cX9_digest 56 = .ok (.aload_n 0, 1) := by decide +kernel
theorem dX9_digest_57 : decode cX9_digest 57 = .ok (.getfield 24, 3) := by decide +kernel
theorem dX9_digest_60 : decode cX9_digest 60 = .ok (.iload_n 3, 1) := by decide +kernel
theorem dX9_digest_61 : decode cX9_digest 61 = .ok (.aaload, 1) := by decide +kernel
theorem dX9_digest_62 : decode cX9_digest 62 = .ok (.getfield 173, 3) := by decide +kernel
theorem dX9_digest_65 : decode cX9_digest 65 = .ok (.i2l, 1) := by decide +kernel
theorem dX9_digest_66 : decode cX9_digest 66 = .ok (.invokestatic 281, 3) := by decide +kernel
theorem dX9_digest_69 : decode cX9_digest 69 = .ok (.lstore_n 1, 1) := by decide +kernel
theorem dX9_digest_70 : decode cX9_digest 70 = .ok (.aload_n 0, 1) := by decide +kernel
theorem dX9_digest_71 : decode cX9_digest 71 = .ok (.getfield 24, 3) := by decide +kernel
theorem dX9_digest_74 : decode cX9_digest 74 = .ok (.iload_n 3, 1) := by decide +kernel
theorem dX9_digest_75 : decode cX9_digest 75 = .ok (.aaload, 1) := by decide +kernel
theorem dX9_digest_76 : decode cX9_digest 76 = .ok (.getfield 149, 3) := by decide +kernel
theorem dX9_digest_79 : decode cX9_digest 79 = .ok (.lload_n 1, 1) := by decide +kernel
theorem dX9_digest_80 : decode cX9_digest 80 = .ok (.aload_n 0, 1) := by decide +kernel
theorem dX9_digest_81 : decode cX9_digest 81 = .ok (.getfield 24, 3) := by decide +kernel
theorem dX9_digest_84 : decode cX9_digest 84 = .ok (.iload_n 3, 1) := by decide +kernel
theorem dX9_digest_85 : decode cX9_digest 85 = .ok (.aaload, 1) := by decide +kernel
theorem dX9_digest_86 : decode cX9_digest 86 = .ok (.getfield 173, 3) := by decide +kernel
theorem dX9_digest_89 : decode cX9_digest 89 = .ok (.invokevirtual 289, 3) := by decide +kernel
theorem dX9_digest_92 : decode cX9_digest 92 = .ok (.lstore_n 1, 1) := by decide +kernel
theorem dX9_digest_93 : decode cX9_digest 93 = .ok (.iinc 3 1, 3) := by decide +kernel
theorem dX9_digest_96 : decode cX9_digest 96 = .ok (.goto (-55), 3) := by decide +kernel
theorem dX9_digest_99 : decode cX9_digest 99 = .ok (.aload_n 0, 1) := by decide +kernel
theorem dX9_digest_100 : decode cX9_digest 100 = .ok (.getfield 35, 3) := by decide +kernel
theorem dX9_digest_103 : decode cX9_digest 103 = .ok (.lload_n 1, 1) := by decide +kernel
theorem dX9_digest_104 : decode cX9_digest 104 = .ok (.invokevirtual 292, 3) := by decide +kernel
theorem dX9_digest_107 : decode cX9_digest 107 = .ok (.lstore_n 1, 1) := by decide +kernel
theorem dX9_digest_108 : decode cX9_digest 108 = .ok (.aload_n 0, 1) := by decide +kernel
theorem dX9_digest_109 : decode cX9_digest 109 = .ok (.getfield 42, 3) := by decide +kernel
theorem dX9_digest_112 : decode cX9_digest 112 = .ok (.getfield 160, 3) := by decide +kernel
theorem dX9_digest_115 : decode cX9_digest 115 = .ok (.invokevirtual 223, 3) := by decide +kernel
theorem dX9_digest_118 : decode cX9_digest 118 = .ok (.istore_n 3, 1) := by decide +kernel
theorem dX9_digest_119 : decode cX9_digest 119 = .ok (.aload_n 0, 1) := by decide +kernel
theorem dX9_digest_120 : decode cX9_digest 120 = .ok (.getfield 42, 3) := by decide +kernel
theorem dX9_digest_123 : decode cX9_digest 123 = .ok (.getfield 163, 3) := by decide +kernel
theorem dX9_digest_126 : decode cX9_digest 126 = .ok (.invokevirtual 223, 3) := by decide +kernel
theorem dX9_digest_129 : decode cX9_digest 129 = .ok (.istore 4, 2) := by decide +kernel
theorem dX9_digest_131 : decode cX9_digest 131 = .ok (.lload_n 1, 1) := by decide +kernel
theorem dX9_digest_132 : decode cX9_digest 132 = .ok (.iload_n 3, 1) := by decide +kernel
theorem dX9_digest_133 : decode cX9_digest 133 = .ok (.i2l, 1) := by decide +kernel
theorem dX9_digest_134 : decode cX9_digest 134 = .ok (.invokestatic 281, 3) := by decide +kernel
theorem dX9_digest_137 : decode cX9_digest 137 = .ok (.iload 4, 2) := by decide +kernel
theorem dX9_digest_139 : decode cX9_digest 139 = .ok (.i2l, 1) := by decide +kernel
theorem dX9_digest_140 : decode cX9_digest 140 = .ok (.invokestatic 281, 3) := by decide +kernel
theorem dX9_digest_143 : decode cX9_digest 143 = .ok (.lstore_n 1, 1) := by decide +kernel
theorem dX9_digest_144 : decode cX9_digest 144 = .ok (.aload_n 0, 1) := by decide +kernel
theorem dX9_digest_145 : decode cX9_digest 145 = .ok (.getfield 42, 3) := by decide +kernel
theorem dX9_digest_148 : decode cX9_digest 148 = .ok (.getfield 160, 3) := by decide +kernel
theorem dX9_digest_151 : decode cX9_digest 151 = .ok (.lload_n 1, 1) := by decide +kernel
theorem dX9_digest_152 : decode cX9_digest 152 = .ok (.iload_n 3, 1) := by decide +kernel
theorem dX9_digest_153 : decode cX9_digest 153 = .ok (.invokevirtual 289, 3) := by decide +kernel
theorem dX9_digest_156 : decode cX9_digest 156 = .ok (.lstore_n 1, 1) := by decide +kernel
theorem dX9_digest_157 : decode cX9_digest 157 = .ok (.aload_n 0, 1) := by decide +kernel
theorem dX9_digest_158 : decode cX9_digest 158 = .ok (.getfield 42, 3) := by decide +kernel
theorem dX9_digest_161 : decode cX9_digest 161 = .ok (.getfield 163, 3) := by decide +kernel
theorem dX9_digest_164 : decode cX9_digest 164 = .ok (.lload_n 1, 1) := by decide +kernel
theorem dX9_digest_165 : decode cX9_digest 165 = .ok (.iload 4, 2) := by decide +kernel
theorem dX9_digest_167 : decode cX9_digest 167 = .ok (.invokevirtual 289, 3) := by decide +kernel
theorem dX9_digest_170 : decode cX9_digest 170 = .ok (.lreturn, 1) := by decide +kernel
theorem dX9_mixed_0 : decode cX9_mixed 0 = .ok (.ldc2_w 293, 3) := by decide +kernel
theorem dX9_mixed_3 : decode cX9_mixed 3 = .ok (.lload_n 0, 1) := by decide +kernel
theorem dX9_mixed_4 : decode cX9_mixed 4 = .ok (.lmul, 1) := by decide +kernel
theorem dX9_mixed_5 : decode cX9_mixed 5 = .ok (.lload_n 2, 1) := by decide +kernel
theorem dX9_mixed_6 : decode cX9_mixed 6 = .ok (.ladd, 1) := by decide +kernel
theorem dX9_mixed_7 : decode cX9_mixed 7 = .ok (.lreturn, 1) := by decide +kernel
theorem dX9_isAllowedPrime_0 : decode cX9_isAllowedPrime 0 = .ok (.iload_n 0, 1) := by decide +kernel
theorem dX9_isAllowedPrime_1 : decode cX9_isAllowedPrime 1 = .ok (.iconst 2, 1) := by decide +kernel
theorem dX9_isAllowedPrime_2 : decode cX9_isAllowedPrime 2 = .ok (.if_icmp .lt 10, 3) := by decide +kernel
theorem dX9_isAllowedPrime_5 : decode cX9_isAllowedPrime 5 = .ok (.iload_n 0, 1) := by decide +kernel
theorem dX9_isAllowedPrime_6 : decode cX9_isAllowedPrime 6 = .ok (.sipush 30011, 3) := by decide +kernel
theorem dX9_isAllowedPrime_9 : decode cX9_isAllowedPrime 9 = .ok (.if_icmp .le 5, 3) := by decide +kernel
theorem dX9_isAllowedPrime_12 : decode cX9_isAllowedPrime 12 = .ok (.iconst 0, 1) := by decide +kernel
theorem dX9_isAllowedPrime_13 : decode cX9_isAllowedPrime 13 = .ok (.ireturn, 1) := by decide +kernel
theorem dX9_isAllowedPrime_14 : decode cX9_isAllowedPrime 14 = .ok (.iconst 2, 1) := by decide +kernel
theorem dX9_isAllowedPrime_15 : decode cX9_isAllowedPrime 15 = .ok (.istore_n 1, 1) := by decide +kernel
theorem dX9_isAllowedPrime_16 : decode cX9_isAllowedPrime 16 = .ok (.iload_n 1, 1) := by decide +kernel
theorem dX9_isAllowedPrime_17 : decode cX9_isAllowedPrime 17 = .ok (.iload_n 1, 1) := by decide +kernel
theorem dX9_isAllowedPrime_18 : decode cX9_isAllowedPrime 18 = .ok (.imul, 1) := by decide +kernel
theorem dX9_isAllowedPrime_19 : decode cX9_isAllowedPrime 19 = .ok (.iload_n 0, 1) := by decide +kernel
theorem dX9_isAllowedPrime_20 : decode cX9_isAllowedPrime 20 = .ok (.if_icmp .gt 17, 3) := by decide +kernel
theorem dX9_isAllowedPrime_23 : decode cX9_isAllowedPrime 23 = .ok (.iload_n 0, 1) := by decide +kernel
theorem dX9_isAllowedPrime_24 : decode cX9_isAllowedPrime 24 = .ok (.iload_n 1, 1) := by decide +kernel
theorem dX9_isAllowedPrime_25 : decode cX9_isAllowedPrime 25 = .ok (.irem, 1) := by decide +kernel
theorem dX9_isAllowedPrime_26 : decode cX9_isAllowedPrime 26 = .ok (.ifCond .ne 5, 3) := by decide +kernel
theorem dX9_isAllowedPrime_29 : decode cX9_isAllowedPrime 29 = .ok (.iconst 0, 1) := by decide +kernel
theorem dX9_isAllowedPrime_30 : decode cX9_isAllowedPrime 30 = .ok (.ireturn, 1) := by decide +kernel
theorem dX9_isAllowedPrime_31 : decode cX9_isAllowedPrime 31 = .ok (.iinc 1 1, 3) := by decide +kernel
theorem dX9_isAllowedPrime_34 : decode cX9_isAllowedPrime 34 = .ok (.goto (-18), 3) := by decide +kernel
theorem dX9_isAllowedPrime_37 : decode cX9_isAllowedPrime 37 = .ok (.iconst 1, 1) := by decide +kernel
theorem dX9_isAllowedPrime_38 : decode cX9_isAllowedPrime 38 = .ok (.ireturn, 1) := by decide +kernel
theorem dX9_isLane_0 : decode cX9_isLane 0 = .ok (.iload_n 0, 1) := by decide +kernel
theorem dX9_isLane_1 : decode cX9_isLane 1 = .ok (.ifCond .lt 12, 3) := by decide +kernel
theorem dX9_isLane_4 : decode cX9_isLane 4 = .ok (.iload_n 0, 1) := by decide +kernel
theorem dX9_isLane_5 : decode cX9_isLane 5 = .ok (.iconst 4, 1) := by decide +kernel
theorem dX9_isLane_6 : decode cX9_isLane 6 = .ok (.if_icmp .ge 7, 3) := by decide +kernel
theorem dX9_isLane_9 : decode cX9_isLane 9 = .ok (.iconst 1, 1) := by decide +kernel
theorem dX9_isLane_10 : decode cX9_isLane 10 = .ok (.goto 4, 3) := by decide +kernel
theorem dX9_isLane_13 : decode cX9_isLane 13 = .ok (.iconst 0, 1) := by decide +kernel
theorem dX9_isLane_14 : decode cX9_isLane 14 = .ok (.ireturn, 1) := by decide +kernel
theorem dX9_isLength_0 : decode cX9_isLength 0 = .ok (.iload_n 0, 1) := by decide +kernel
theorem dX9_isLength_1 : decode cX9_isLength 1 = .ok (.ifCond .lt 13, 3) := by decide +kernel
theorem dX9_isLength_4 : decode cX9_isLength 4 = .ok (.iload_n 0, 1) := by decide +kernel
theorem dX9_isLength_5 : decode cX9_isLength 5 = .ok (.bipush 40, 2) := by decide +kernel
theorem dX9_isLength_7 : decode cX9_isLength 7 = .ok (.if_icmp .gt 7, 3) := by decide +kernel
theorem dX9_isLength_10 : decode cX9_isLength 10 = .ok (.iconst 1, 1) := by decide +kernel
theorem dX9_isLength_11 : decode cX9_isLength 11 = .ok (.goto 4, 3) := by decide +kernel
theorem dX9_isLength_14 : decode cX9_isLength 14 = .ok (.iconst 0, 1) := by decide +kernel
theorem dX9_isLength_15 : decode cX9_isLength 15 = .ok (.ireturn, 1) := by decide +kernel
theorem dX9_isPairOf_0 : decode cX9_isPairOf 0 = .ok (.iload_n 1, 1) := by decide +kernel
theorem dX9_isPairOf_1 : decode cX9_isPairOf 1 = .ok (.ifCond .lt 21, 3) := by decide +kernel
theorem dX9_isPairOf_4 : decode cX9_isPairOf 4 = .ok (.iload_n 2, 1) := by decide +kernel
theorem dX9_isPairOf_5 : decode cX9_isPairOf 5 = .ok (.ifCond .lt 17, 3) := by decide +kernel
theorem dX9_isPairOf_8 : decode cX9_isPairOf 8 = .ok (.iload_n 1, 1) := by decide +kernel
theorem dX9_isPairOf_9 : decode cX9_isPairOf 9 = .ok (.aload_n 0, 1) := by decide +kernel
theorem dX9_isPairOf_10 : decode cX9_isPairOf 10 = .ok (.getfield 173, 3) := by decide +kernel
theorem dX9_isPairOf_13 : decode cX9_isPairOf 13 = .ok (.iload_n 2, 1) := by decide +kernel
theorem dX9_isPairOf_14 : decode cX9_isPairOf 14 = .ok (.isub, 1) := by decide +kernel
theorem dX9_isPairOf_15 : decode cX9_isPairOf 15 = .ok (.if_icmp .gt 7, 3) := by decide +kernel
theorem dX9_isPairOf_18 : decode cX9_isPairOf 18 = .ok (.iconst 1, 1) := by decide +kernel
theorem dX9_isPairOf_19 : decode cX9_isPairOf 19 = .ok (.goto 4, 3) := by decide +kernel
theorem dX9_isPairOf_22 : decode cX9_isPairOf 22 = .ok (.iconst 0, 1) := by decide +kernel
theorem dX9_isPairOf_23 : decode cX9_isPairOf 23 = .ok (.ireturn, 1) := by decide +kernel
theorem dX9_caused_0 : decode cX9_caused 0 = .ok (.iload_n 1, 1) := by decide +kernel
theorem dX9_caused_1 : decode cX9_caused 1 = .ok (.iconst 1, 1) := by decide +kernel
theorem dX9_caused_2 : decode cX9_caused 2 = .ok (.if_icmp .lt 23, 3) := by decide +kernel
theorem dX9_caused_5 : decode cX9_caused 5 = .ok (.iload_n 1, 1) := by decide +kernel
theorem dX9_caused_6 : decode cX9_caused 6 = .ok (.iconst 5, 1) := by decide +kernel
theorem dX9_caused_7 : decode cX9_caused 7 = .ok (.if_icmp .gt 18, 3) := by decide +kernel
theorem dX9_caused_10 : decode cX9_caused 10 = .ok (.aload_n 0, 1) := by decide +kernel
theorem dX9_caused_11 : decode cX9_caused 11 = .ok (.iload_n 1, 1) := by decide +kernel
theorem dX9_caused_12 : decode cX9_caused 12 = .ok (.putfield 81, 3) := by decide +kernel
theorem dX9_caused_15 : decode cX9_caused 15 = .ok (.aload_n 0, 1) := by decide +kernel
theorem dX9_caused_16 : decode cX9_caused 16 = .ok (.getfield 77, 3) := by decide +kernel
theorem dX9_caused_19 : decode cX9_caused 19 = .ok (.iload_n 1, 1) := by decide +kernel
theorem dX9_caused_20 : decode cX9_caused 20 = .ok (.dup2, 1) := by decide +kernel
theorem dX9_caused_21 : decode cX9_caused 21 = .ok (.iaload, 1) := by decide +kernel
theorem dX9_caused_22 : decode cX9_caused 22 = .ok (.iconst 1, 1) := by decide +kernel
theorem dX9_caused_23 : decode cX9_caused 23 = .ok (.iadd, 1) := by decide +kernel
theorem dX9_caused_24 : decode cX9_caused 24 = .ok (.iastore, 1) := by decide +kernel
theorem dX9_caused_25 : decode cX9_caused 25 = .ok (.bipush (-10), 2) := by decide +kernel
theorem dX9_caused_27 : decode cX9_caused 27 = .ok (.iload_n 1, 1) := by decide +kernel
theorem dX9_caused_28 : decode cX9_caused 28 = .ok (.isub, 1) := by decide +kernel
theorem dX9_caused_29 : decode cX9_caused 29 = .ok (.ireturn, 1) := by decide +kernel
theorem dX9_sheetNumbered_0 : decode cX9_sheetNumbered 0 = .ok (.iload_n 1, 1) := by decide +kernel
theorem dX9_sheetNumbered_1 : decode cX9_sheetNumbered 1 = .ok (.ifCond .lt 17, 3) := by decide +kernel
theorem dX9_sheetNumbered_4 : decode cX9_sheetNumbered 4 = .ok (.iload_n 1, 1) := by decide +kernel
theorem dX9_sheetNumbered_5 : decode cX9_sheetNumbered 5 = .ok (.iconst 4, 1) := by decide +kernel
theorem dX9_sheetNumbered_6 : decode cX9_sheetNumbered 6 = .ok (.if_icmp .ge 12, 3) := by decide +kernel
theorem dX9_sheetNumbered_9 : decode cX9_sheetNumbered 9 = .ok (.aload_n 0, 1) := by decide +kernel
theorem dX9_sheetNumbered_10 : decode cX9_sheetNumbered 10 = .ok (.getfield 18, 3) := by decide +kernel
theorem dX9_sheetNumbered_13 : decode cX9_sheetNumbered 13 = .ok (.iload_n 1, 1) := by decide +kernel
theorem dX9_sheetNumbered_14 : decode cX9_sheetNumbered 14 = .ok (.aaload, 1) := by decide +kernel
theorem dX9_sheetNumbered_15 : decode cX9_sheetNumbered 15 = .ok (.goto 4, 3) := by decide +kernel
theorem dX9_sheetNumbered_18 : decode cX9_sheetNumbered 18 = .ok (.aconst_null, 1) := by decide +kernel
theorem dX9_sheetNumbered_19 : decode cX9_sheetNumbered 19 = .ok (.areturn, 1) := by decide +kernel
theorem dX9_presentSheets_0 : decode cX9_presentSheets 0 = .ok (.iconst 0, 1) := by decide +kernel
theorem dX9_presentSheets_1 : decode cX9_presentSheets 1 = .ok (.istore_n 1, 1) := by decide +kernel
theorem dX9_presentSheets_2 : decode cX9_presentSheets 2 = .ok (.iconst 0, 1) := by decide +kernel
theorem dX9_presentSheets_3 : decode cX9_presentSheets 3 = .ok (.istore_n 2, 1) := by decide +kernel
theorem dX9_presentSheets_4 : decode cX9_presentSheets 4 = .ok (.iload_n 2, 1) := by decide +kernel
theorem dX9_presentSheets_5 : decode cX9_presentSheets 5 = .ok (.iconst 4, 1) := by decide +kernel
theorem dX9_presentSheets_6 : decode cX9_presentSheets 6 = .ok (.if_icmp .ge 24, 3) := by decide +kernel
theorem dX9_presentSheets_9 : decode cX9_presentSheets 9 = .ok (.aload_n 0, 1) := by decide +kernel
theorem dX9_presentSheets_10 : decode cX9_presentSheets 10 = .ok (.getfield 18, 3) := by decide +kernel
theorem dX9_presentSheets_13 : decode cX9_presentSheets 13 = .ok (.iload_n 2, 1) := by decide +kernel
theorem dX9_presentSheets_14 : decode cX9_presentSheets 14 = .ok (.aaload, 1) := by decide +kernel
theorem dX9_presentSheets_15 : decode cX9_presentSheets 15 = .ok (.getfield 114, 3) := by decide +kernel
theorem dX9_presentSheets_18 : decode cX9_presentSheets 18 = .ok (.ifCond .ne 6, 3) := by decide +kernel
theorem dX9_presentSheets_21 : decode cX9_presentSheets 21 = .ok (.iinc 1 1, 3) := by decide +kernel
theorem dX9_presentSheets_24 : decode cX9_presentSheets 24 = .ok (.iinc 2 1, 3) := by decide +kernel
theorem dX9_presentSheets_27 : decode cX9_presentSheets 27 = .ok (.goto (-23), 3) := by decide +kernel
theorem dX9_presentSheets_30 : decode cX9_presentSheets 30 = .ok (.iload_n 1, 1) := by decide +kernel
theorem dX9_presentSheets_31 : decode cX9_presentSheets 31 = .ok (.ireturn, 1) := by decide +kernel
theorem dX9_seriesNumbered_0 : decode cX9_seriesNumbered 0 = .ok (.iload_n 1, 1) := by decide +kernel
theorem dX9_seriesNumbered_1 : decode cX9_seriesNumbered 1 = .ok (.ifCond .lt 26, 3) := by decide +kernel
theorem dX9_seriesNumbered_4 : decode cX9_seriesNumbered 4 = .ok (.iload_n 1, 1) := by decide +kernel
theorem dX9_seriesNumbered_5 : decode cX9_seriesNumbered 5 = .ok (.aload_n 0, 1) := by decide +kernel
theorem dX9_seriesNumbered_6 : decode cX9_seriesNumbered 6 = .ok (.getfield 28, 3) := by decide +kernel
theorem dX9_seriesNumbered_9 : decode cX9_seriesNumbered 9 = .ok (.if_icmp .ge 18, 3) := by decide +kernel
theorem dX9_seriesNumbered_12 : decode cX9_seriesNumbered 12 = .ok (.iload_n 1, 1) := by decide +kernel
theorem dX9_seriesNumbered_13 : decode cX9_seriesNumbered 13 = .ok (.bipush 10, 2) := by decide +kernel
theorem dX9_seriesNumbered_15 : decode cX9_seriesNumbered 15 = .ok (.if_icmp .ge 12, 3) := by decide +kernel
theorem dX9_seriesNumbered_18 : decode cX9_seriesNumbered 18 = .ok (.aload_n 0, 1) := by decide +kernel
theorem dX9_seriesNumbered_19 : decode cX9_seriesNumbered 19 = .ok (.getfield 24, 3) := by decide +kernel
theorem dX9_seriesNumbered_22 : decode cX9_seriesNumbered 22 = .ok (.iload_n 1, 1) := by decide +kernel
theorem dX9_seriesNumbered_23 : decode cX9_seriesNumbered 23 = .ok (.aaload, 1) := by decide +kernel
theorem dX9_seriesNumbered_24 : decode cX9_seriesNumbered 24 = .ok (.goto 4, 3) := by decide +kernel
theorem dX9_seriesNumbered_27 : decode cX9_seriesNumbered 27 = .ok (.aconst_null, 1) := by decide +kernel
theorem dX9_seriesNumbered_28 : decode cX9_seriesNumbered 28 = .ok (.areturn, 1) := by decide +kernel
theorem dX9_freshSeries_0 : decode cX9_freshSeries 0 = .ok (.aload_n 0, 1) := by decide +kernel
theorem dX9_freshSeries_1 : decode cX9_freshSeries 1 = .ok (.getfield 28, 3) := by decide +kernel
theorem dX9_freshSeries_4 : decode cX9_freshSeries 4 = .ok (.bipush 10, 2) := by decide +kernel
theorem dX9_freshSeries_6 : decode cX9_freshSeries 6 = .ok (.if_icmp .lt 5, 3) := by decide +kernel
theorem dX9_freshSeries_9 : decode cX9_freshSeries 9 = .ok (.aconst_null, 1) := by decide +kernel
theorem dX9_freshSeries_10 : decode cX9_freshSeries 10 = .ok (.areturn, 1) := by decide +kernel
theorem dX9_freshSeries_11 : decode cX9_freshSeries 11 = .ok (.aload_n 0, 1) := by decide +kernel
theorem dX9_freshSeries_12 : decode cX9_freshSeries 12 = .ok (.getfield 24, 3) := by decide +kernel
theorem dX9_freshSeries_15 : decode cX9_freshSeries 15 = .ok (.aload_n 0, 1) := by decide +kernel
theorem dX9_freshSeries_16 : decode cX9_freshSeries 16 = .ok (.getfield 28, 3) := by decide +kernel
theorem dX9_freshSeries_19 : decode cX9_freshSeries 19 = .ok (.aaload, 1) := by decide +kernel
theorem dX9_freshSeries_20 : decode cX9_freshSeries 20 = .ok (.astore_n 2, 1) := by decide +kernel
theorem dX9_freshSeries_21 : decode cX9_freshSeries 21 = .ok (.aload_n 2, 1) := by decide +kernel
theorem dX9_freshSeries_22 : decode cX9_freshSeries 22 = .ok (.iload_n 1, 1) := by decide +kernel
theorem dX9_freshSeries_23 : decode cX9_freshSeries 23 = .ok (.putfield 173, 3) := by decide +kernel
theorem dX9_freshSeries_26 : decode cX9_freshSeries 26 = .ok (.aload_n 2, 1) := by decide +kernel
theorem dX9_freshSeries_27 : decode cX9_freshSeries 27 = .ok (.getfield 149, 3) := by decide +kernel
theorem dX9_freshSeries_30 : decode cX9_freshSeries 30 = .ok (.iconst 0, 1) := by decide +kernel
theorem dX9_freshSeries_31 : decode cX9_freshSeries 31 = .ok (.invokevirtual 192, 3) := by decide +kernel
theorem dX9_freshSeries_34 : decode cX9_freshSeries 34 = .ok (.aload_n 2, 1) := by decide +kernel
theorem dX9_freshSeries_35 : decode cX9_freshSeries 35 = .ok (.areturn, 1) := by decide +kernel
theorem dX9_keepFresh_0 : decode cX9_keepFresh 0 = .ok (.aload_n 0, 1) := by decide +kernel
theorem dX9_keepFresh_1 : decode cX9_keepFresh 1 = .ok (.dup, 1) := by decide +kernel
theorem dX9_keepFresh_2 : decode cX9_keepFresh 2 = .ok (.getfield 28, 3) := by decide +kernel
theorem dX9_keepFresh_5 : decode cX9_keepFresh 5 = .ok (.iconst 1, 1) := by decide +kernel
theorem dX9_keepFresh_6 : decode cX9_keepFresh 6 = .ok (.iadd, 1) := by decide +kernel
theorem dX9_keepFresh_7 : decode cX9_keepFresh 7 = .ok (.putfield 28, 3) := by decide +kernel
theorem dX9_keepFresh_10 : decode cX9_keepFresh 10 = .ok (.aload_n 0, 1) := by decide +kernel
theorem dX9_keepFresh_11 : decode cX9_keepFresh 11 = .ok (.getfield 28, 3) := by decide +kernel
theorem dX9_keepFresh_14 : decode cX9_keepFresh 14 = .ok (.iconst 1, 1) := by decide +kernel
theorem dX9_keepFresh_15 : decode cX9_keepFresh 15 = .ok (.isub, 1) := by decide +kernel
theorem dX9_keepFresh_16 : decode cX9_keepFresh 16 = .ok (.ireturn, 1) := by decide +kernel
end
section
theorem dX9_keepUnfolded_0 : decode cX9_keepUnfolded 0 = .ok (.aload_n 1, 1) := by decide +kernel
theorem dX9_keepUnfolded_1 : decode cX9_keepUnfolded 1 = .ok (.getfield 163, 3) := by decide +kernel
theorem dX9_keepUnfolded_4 : decode cX9_keepUnfolded 4 = .ok (.iconst 0, 1) := by decide +kernel
theorem dX9_keepUnfolded_5 : decode cX9_keepUnfolded 5 = .ok (.invokevirtual 186, 3) := by decide +kernel
theorem dX9_keepUnfolded_8 : decode cX9_keepUnfolded 8 = .ok (.ifCond .ne 9, 3) := by decide +kernel
theorem dX9_keepUnfolded_11 : decode cX9_keepUnfolded 11 = .ok (.aload_n 0, 1) := by decide +kernel
theorem dX9_keepUnfolded_12 : decode cX9_keepUnfolded 12 = .ok (.iconst 5, 1) := by decide +kernel
theorem dX9_keepUnfolded_13 : decode cX9_keepUnfolded 13 = .ok (.invokevirtual 106, 3) := by decide +kernel
theorem dX9_keepUnfolded_16 : decode cX9_keepUnfolded 16 = .ok (.ireturn, 1) := by decide +kernel
theorem dX9_keepUnfolded_17 : decode cX9_keepUnfolded 17 = .ok (.aload_n 0, 1) := by decide +kernel
theorem dX9_keepUnfolded_18 : decode cX9_keepUnfolded 18 = .ok (.iload_n 2, 1) := by decide +kernel
theorem dX9_keepUnfolded_19 : decode cX9_keepUnfolded 19 = .ok (.invokevirtual 145, 3) := by decide +kernel
theorem dX9_keepUnfolded_22 : decode cX9_keepUnfolded 22 = .ok (.astore_n 3, 1) := by decide +kernel
theorem dX9_keepUnfolded_23 : decode cX9_keepUnfolded 23 = .ok (.aload_n 3, 1) := by decide +kernel
theorem dX9_keepUnfolded_24 : decode cX9_keepUnfolded 24 = .ok (.ifnonnull 6, 3) := by decide +kernel
theorem dX9_keepUnfolded_27 : decode cX9_keepUnfolded 27 = .ok (.bipush (-104), 2) := by decide +kernel
theorem dX9_keepUnfolded_29 : decode cX9_keepUnfolded 29 = .ok (.ireturn, 1) := by decide +kernel
theorem dX9_keepUnfolded_30 : decode cX9_keepUnfolded 30 = .ok (.aload_n 1, 1) := by decide +kernel
theorem dX9_keepUnfolded_31 : decode cX9_keepUnfolded 31 = .ok (.aload_n 3, 1) := by decide +kernel
theorem dX9_keepUnfolded_32 : decode cX9_keepUnfolded 32 = .ok (.getfield 149, 3) := by decide +kernel
theorem dX9_keepUnfolded_35 : decode cX9_keepUnfolded 35 = .ok (.iload_n 2, 1) := by decide +kernel
theorem dX9_keepUnfolded_36 : decode cX9_keepUnfolded 36 = .ok (.aload_n 0, 1) := by decide +kernel
theorem dX9_keepUnfolded_37 : decode cX9_keepUnfolded 37 = .ok (.getfield 12, 3) := by decide +kernel
theorem dX9_keepUnfolded_40 : decode cX9_keepUnfolded 40 = .ok (.invokevirtual 295, 3) := by decide +kernel
theorem dX9_keepUnfolded_43 : decode cX9_keepUnfolded 43 = .ok (.aload_n 0, 1) := by decide +kernel
theorem dX9_keepUnfolded_44 : decode cX9_keepUnfolded 44 = .ok (.invokevirtual 156, 3) := by decide +kernel
theorem dX9_keepUnfolded_47 : decode cX9_keepUnfolded 47 = .ok (.ireturn, 1) := by decide +kernel
theorem dX9_readTerms_0 : decode cX9_readTerms 0 = .ok (.aload 4, 2) := by decide +kernel
theorem dX9_readTerms_2 : decode cX9_readTerms 2 = .ok (.iconst 0, 1) := by decide +kernel
theorem dX9_readTerms_3 : decode cX9_readTerms 3 = .ok (.invokevirtual 192, 3) := by decide +kernel
theorem dX9_readTerms_6 : decode cX9_readTerms 6 = .ok (.iconst 0, 1) := by decide +kernel
theorem dX9_readTerms_7 : decode cX9_readTerms 7 = .ok (.istore 5, 2) := by decide +kernel
theorem dX9_readTerms_9 : decode cX9_readTerms 9 = .ok (.iload 5, 2) := by decide +kernel
theorem dX9_readTerms_11 : decode cX9_readTerms 11 = .ok (.iload_n 3, 1) := by decide +kernel
theorem dX9_readTerms_12 : decode cX9_readTerms 12 = .ok (.if_icmp .ge 31, 3) := by decide +kernel
theorem dX9_readTerms_15 : decode cX9_readTerms 15 = .ok (.aload 4, 2) := by decide +kernel
theorem dX9_readTerms_17 : decode cX9_readTerms 17 = .ok (.iload 5, 2) := by decide +kernel
theorem dX9_readTerms_19 : decode cX9_readTerms 19 = .ok (.aload_n 0, 1) := by decide +kernel
theorem dX9_readTerms_20 : decode cX9_readTerms 20 = .ok (.getfield 12, 3) := by decide +kernel
theorem dX9_readTerms_23 : decode cX9_readTerms 23 = .ok (.aload_n 1, 1) := by decide +kernel
theorem dX9_readTerms_24 : decode cX9_readTerms 24 = .ok (.iload_n 2, 1) := by decide +kernel
theorem dX9_readTerms_25 : decode cX9_readTerms 25 = .ok (.iload 5, 2) := by decide +kernel
theorem dX9_readTerms_27 : decode cX9_readTerms 27 = .ok (.iadd, 1) := by decide +kernel
theorem dX9_readTerms_28 : decode cX9_readTerms 28 = .ok (.invokevirtual 299, 3) := by decide +kernel
theorem dX9_readTerms_31 : decode cX9_readTerms 31 = .ok (.invokevirtual 182, 3) := by decide +kernel
theorem dX9_readTerms_34 : decode cX9_readTerms 34 = .ok (.invokevirtual 189, 3) := by decide +kernel
theorem dX9_readTerms_37 : decode cX9_readTerms 37 = .ok (.iinc 5 1, 3) := by decide +kernel
theorem dX9_readTerms_40 : decode cX9_readTerms 40 = .ok (.goto (-31), 3) := by decide +kernel
theorem dX9_readTerms_43 : decode cX9_readTerms 43 = .ok (.return_, 1) := by decide +kernel
theorem dX9_findEntry_0 : decode cX9_findEntry 0 = .ok (.aload_n 0, 1) := by decide +kernel
theorem dX9_findEntry_1 : decode cX9_findEntry 1 = .ok (.getfield 52, 3) := by decide +kernel
theorem dX9_findEntry_4 : decode cX9_findEntry 4 = .ok (.getfield 246, 3) := by decide +kernel
theorem dX9_findEntry_7 : decode cX9_findEntry 7 = .ok (.iconst 0, 1) := by decide +kernel
theorem dX9_findEntry_8 : decode cX9_findEntry 8 = .ok (.invokevirtual 192, 3) := by decide +kernel
theorem dX9_findEntry_11 : decode cX9_findEntry 11 = .ok (.aload_n 0, 1) := by decide +kernel
theorem dX9_findEntry_12 : decode cX9_findEntry 12 = .ok (.getfield 52, 3) := by decide +kernel
theorem dX9_findEntry_15 : decode cX9_findEntry 15 = .ok (.getfield 246, 3) := by decide +kernel
theorem dX9_findEntry_18 : decode cX9_findEntry 18 = .ok (.iload_n 2, 1) := by decide +kernel
theorem dX9_findEntry_19 : decode cX9_findEntry 19 = .ok (.iload_n 3, 1) := by decide +kernel
theorem dX9_findEntry_20 : decode cX9_findEntry 20 = .ok (.iadd, 1) := by decide +kernel
theorem dX9_findEntry_21 : decode cX9_findEntry 21 = .ok (.iconst 1, 1) := by decide +kernel
theorem dX9_findEntry_22 : decode cX9_findEntry 22 = .ok (.iadd, 1) := by decide +kernel
theorem dX9_findEntry_23 : decode cX9_findEntry 23 = .ok (.iconst 1, 1) := by decide +kernel
theorem dX9_findEntry_24 : decode cX9_findEntry 24 = .ok (.invokevirtual 189, 3) := by decide +kernel
theorem dX9_findEntry_27 : decode cX9_findEntry 27 = .ok (.aload_n 0, 1) := by decide +kernel
theorem dX9_findEntry_28 : decode cX9_findEntry 28 = .ok (.getfield 52, 3) := by decide +kernel
theorem dX9_findEntry_31 : decode cX9_findEntry 31 = .ok (.getfield 248, 3) := by decide +kernel
theorem dX9_findEntry_34 : decode cX9_findEntry 34 = .ok (.iconst 0, 1) := by decide +kernel
theorem dX9_findEntry_35 : decode cX9_findEntry 35 = .ok (.invokevirtual 192, 3) := by decide +kernel
theorem dX9_findEntry_38 : decode cX9_findEntry 38 = .ok (.iconst 0, 1) := by decide +kernel
theorem dX9_findEntry_39 : decode cX9_findEntry 39 = .ok (.istore 5, 2) := by decide +kernel
theorem dX9_findEntry_41 : decode cX9_findEntry 41 = .ok (.iload 5, 2) := by decide +kernel
theorem dX9_findEntry_43 : decode cX9_findEntry 43 = .ok (.iload_n 2, 1) := by decide +kernel
theorem dX9_findEntry_44 : decode cX9_findEntry 44 = .ok (.iload_n 3, 1) := by decide +kernel
theorem dX9_findEntry_45 : decode cX9_findEntry 45 = .ok (.iadd, 1) := by decide +kernel
theorem dX9_findEntry_46 : decode cX9_findEntry 46 = .ok (.if_icmp .gt 30, 3) := by decide +kernel
theorem dX9_findEntry_49 : decode cX9_findEntry 49 = .ok (.aload_n 0, 1) := by decide +kernel
theorem dX9_findEntry_50 : decode cX9_findEntry 50 = .ok (.getfield 52, 3) := by decide +kernel
theorem dX9_findEntry_53 : decode cX9_findEntry 53 = .ok (.getfield 248, 3) := by decide +kernel
theorem dX9_findEntry_56 : decode cX9_findEntry 56 = .ok (.iload 5, 2) := by decide +kernel
theorem dX9_findEntry_58 : decode cX9_findEntry 58 = .ok (.aload_n 1, 1) := by decide +kernel
theorem dX9_findEntry_59 : decode cX9_findEntry 59 = .ok (.getfield 149, 3) := by decide +kernel
theorem dX9_findEntry_62 : decode cX9_findEntry 62 = .ok (.iload 5, 2) := by decide +kernel
theorem dX9_findEntry_64 : decode cX9_findEntry 64 = .ok (.invokevirtual 186, 3) := by decide +kernel
theorem dX9_findEntry_67 : decode cX9_findEntry 67 = .ok (.invokevirtual 189, 3) := by decide +kernel
theorem dX9_findEntry_70 : decode cX9_findEntry 70 = .ok (.iinc 5 1, 3) := by decide +kernel
theorem dX9_findEntry_73 : decode cX9_findEntry 73 = .ok (.goto (-32), 3) := by decide +kernel
theorem dX9_findEntry_76 : decode cX9_findEntry 76 = .ok (.aload_n 0, 1) := by decide +kernel
theorem dX9_findEntry_77 : decode cX9_findEntry 77 = .ok (.getfield 52, 3) := by decide +kernel
theorem dX9_findEntry_80 : decode cX9_findEntry 80 = .ok (.iload_n 2, 1) := by decide +kernel
theorem dX9_findEntry_81 : decode cX9_findEntry 81 = .ok (.aload 4, 2) := by decide +kernel
theorem dX9_findEntry_83 : decode cX9_findEntry 83 = .ok (.aload_n 0, 1) := by decide +kernel
theorem dX9_findEntry_84 : decode cX9_findEntry 84 = .ok (.getfield 12, 3) := by decide +kernel
theorem dX9_findEntry_87 : decode cX9_findEntry 87 = .ok (.invokevirtual 255, 3) := by decide +kernel
theorem dX9_findEntry_90 : decode cX9_findEntry 90 = .ok (.return_, 1) := by decide +kernel
theorem dX9_stepDown_0 : decode cX9_stepDown 0 = .ok (.aload_n 0, 1) := by decide +kernel
theorem dX9_stepDown_1 : decode cX9_stepDown 1 = .ok (.getfield 46, 3) := by decide +kernel
theorem dX9_stepDown_4 : decode cX9_stepDown 4 = .ok (.getfield 160, 3) := by decide +kernel
theorem dX9_stepDown_7 : decode cX9_stepDown 7 = .ok (.aload_n 1, 1) := by decide +kernel
theorem dX9_stepDown_8 : decode cX9_stepDown 8 = .ok (.iconst 0, 1) := by decide +kernel
theorem dX9_stepDown_9 : decode cX9_stepDown 9 = .ok (.invokevirtual 186, 3) := by decide +kernel
theorem dX9_stepDown_12 : decode cX9_stepDown 12 = .ok (.invokevirtual 192, 3) := by decide +kernel
theorem dX9_stepDown_15 : decode cX9_stepDown 15 = .ok (.aload_n 0, 1) := by decide +kernel
theorem dX9_stepDown_16 : decode cX9_stepDown 16 = .ok (.getfield 46, 3) := by decide +kernel
theorem dX9_stepDown_19 : decode cX9_stepDown 19 = .ok (.getfield 163, 3) := by decide +kernel
theorem dX9_stepDown_22 : decode cX9_stepDown 22 = .ok (.aload_n 1, 1) := by decide +kernel
theorem dX9_stepDown_23 : decode cX9_stepDown 23 = .ok (.invokevirtual 196, 3) := by decide +kernel
theorem dX9_stepDown_26 : decode cX9_stepDown 26 = .ok (.aload_n 0, 1) := by decide +kernel
theorem dX9_stepDown_27 : decode cX9_stepDown 27 = .ok (.getfield 46, 3) := by decide +kernel
theorem dX9_stepDown_30 : decode cX9_stepDown 30 = .ok (.aload_n 1, 1) := by decide +kernel
theorem dX9_stepDown_31 : decode cX9_stepDown 31 = .ok (.iload_n 2, 1) := by decide +kernel
theorem dX9_stepDown_32 : decode cX9_stepDown 32 = .ok (.aload_n 0, 1) := by decide +kernel
theorem dX9_stepDown_33 : decode cX9_stepDown 33 = .ok (.getfield 12, 3) := by decide +kernel
theorem dX9_stepDown_36 : decode cX9_stepDown 36 = .ok (.invokevirtual 295, 3) := by decide +kernel
theorem dX9_stepDown_39 : decode cX9_stepDown 39 = .ok (.aload_n 1, 1) := by decide +kernel
theorem dX9_stepDown_40 : decode cX9_stepDown 40 = .ok (.invokevirtual 226, 3) := by decide +kernel
theorem dX9_stepDown_43 : decode cX9_stepDown 43 = .ok (.return_, 1) := by decide +kernel
theorem dX9_agreement_0 : decode cX9_agreement 0 = .ok (.aload_n 2, 1) := by decide +kernel
theorem dX9_agreement_1 : decode cX9_agreement 1 = .ok (.aload_n 0, 1) := by decide +kernel
theorem dX9_agreement_2 : decode cX9_agreement 2 = .ok (.getfield 73, 3) := by decide +kernel
theorem dX9_agreement_5 : decode cX9_agreement 5 = .ok (.aload_n 1, 1) := by decide +kernel
theorem dX9_agreement_6 : decode cX9_agreement 6 = .ok (.getfield 173, 3) := by decide +kernel
theorem dX9_agreement_9 : decode cX9_agreement 9 = .ok (.aload_n 0, 1) := by decide +kernel
theorem dX9_agreement_10 : decode cX9_agreement 10 = .ok (.getfield 12, 3) := by decide +kernel
theorem dX9_agreement_13 : decode cX9_agreement 13 = .ok (.invokevirtual 295, 3) := by decide +kernel
theorem dX9_agreement_16 : decode cX9_agreement 16 = .ok (.iconst 0, 1) := by decide +kernel
theorem dX9_agreement_17 : decode cX9_agreement 17 = .ok (.istore_n 3, 1) := by decide +kernel
theorem dX9_agreement_18 : decode cX9_agreement 18 = .ok (.iload_n 3, 1) := by decide +kernel
theorem dX9_agreement_19 : decode cX9_agreement 19 = .ok (.aload_n 1, 1) := by decide +kernel
theorem dX9_agreement_20 : decode cX9_agreement 20 = .ok (.getfield 173, 3) := by decide +kernel
theorem dX9_agreement_23 : decode cX9_agreement 23 = .ok (.if_icmp .gt 28, 3) := by decide +kernel
theorem dX9_agreement_26 : decode cX9_agreement 26 = .ok (.aload_n 0, 1) := by decide +kernel
theorem dX9_agreement_27 : decode cX9_agreement 27 = .ok (.getfield 73, 3) := by decide +kernel
theorem dX9_agreement_30 : decode cX9_agreement 30 = .ok (.iload_n 3, 1) := by decide +kernel
theorem dX9_agreement_31 : decode cX9_agreement 31 = .ok (.invokevirtual 186, 3) := by decide +kernel
theorem dX9_agreement_34 : decode cX9_agreement 34 = .ok (.aload_n 1, 1) := by decide +kernel
theorem dX9_agreement_35 : decode cX9_agreement 35 = .ok (.getfield 149, 3) := by decide +kernel
theorem dX9_agreement_38 : decode cX9_agreement 38 = .ok (.iload_n 3, 1) := by decide +kernel
theorem dX9_agreement_39 : decode cX9_agreement 39 = .ok (.invokevirtual 186, 3) := by decide +kernel
theorem dX9_agreement_42 : decode cX9_agreement 42 = .ok (.if_icmp .ne 9, 3) := by decide +kernel
theorem dX9_agreement_45 : decode cX9_agreement 45 = .ok (.iinc 3 1, 3) := by decide +kernel
theorem dX9_agreement_48 : decode cX9_agreement 48 = .ok (.goto (-30), 3) := by decide +kernel
theorem dX9_agreement_51 : decode cX9_agreement 51 = .ok (.iload_n 3, 1) := by decide +kernel
theorem dX9_agreement_52 : decode cX9_agreement 52 = .ok (.ireturn, 1) := by decide +kernel
theorem dX10_init_0 : decode cX10_init 0 = .ok (.aload_n 0, 1) := by decide +kernel
theorem dX10_init_1 : decode cX10_init 1 = .ok (.invokespecial 1, 3) := by decide +kernel
theorem dX10_init_4 : decode cX10_init 4 = .ok (.aload_n 0, 1) := by decide +kernel
theorem dX10_init_5 : decode cX10_init 5 = .ok (.bipush 6, 2) := by decide +kernel
theorem dX10_init_7 : decode cX10_init 7 = .ok (.newarray .int, 2) := by decide +kernel
theorem dX10_init_9 : decode cX10_init 9 = .ok (.putfield 7, 3) := by decide +kernel
theorem dX10_init_12 : decode cX10_init 12 = .ok (.aload_n 0, 1) := by decide +kernel
theorem dX10_init_13 : decode cX10_init 13 = .ok (.iconst 4, 1) := by decide +kernel
theorem dX10_init_14 : decode cX10_init 14 = .ok (.newarray .int, 2) := by decide +kernel
theorem dX10_init_16 : decode cX10_init 16 = .ok (.putfield 13, 3) := by decide +kernel
theorem dX10_init_19 : decode cX10_init 19 = .ok (.aload_n 0, 1) := by decide +kernel
theorem dX10_init_20 : decode cX10_init 20 = .ok (.iconst 4, 1) := by decide +kernel
theorem dX10_init_21 : decode cX10_init 21 = .ok (.newarray .int, 2) := by decide +kernel
theorem dX10_init_23 : decode cX10_init 23 = .ok (.putfield 16, 3) := by decide +kernel
theorem dX10_init_26 : decode cX10_init 26 = .ok (.aload_n 0, 1) := by decide +kernel
theorem dX10_init_27 : decode cX10_init 27 = .ok (.sipush 240, 3) := by decide +kernel
theorem dX10_init_30 : decode cX10_init 30 = .ok (.newarray .long, 2) := by decide +kernel
theorem dX10_init_32 : decode cX10_init 32 = .ok (.putfield 19, 3) := by decide +kernel
theorem dX10_init_35 : decode cX10_init 35 = .ok (.aload_n 0, 1) := by decide +kernel
theorem dX10_init_36 : decode cX10_init 36 = .ok (.bipush 60, 2) := by decide +kernel
theorem dX10_init_38 : decode cX10_init 38 = .ok (.newarray .long, 2) := by decide +kernel
theorem dX10_init_40 : decode cX10_init 40 = .ok (.putfield 23, 3) := by decide +kernel
theorem dX10_init_43 : decode cX10_init 43 = .ok (.aload_n 0, 1) := by decide +kernel
theorem dX10_init_44 : decode cX10_init 44 = .ok (.bipush 10, 2) := by decide +kernel
theorem dX10_init_46 : decode cX10_init 46 = .ok (.newarray .int, 2) := by decide +kernel
theorem dX10_init_48 : decode cX10_init 48 = .ok (.putfield 26, 3) := by decide +kernel
theorem dX10_init_51 : decode cX10_init 51 = .ok (.aload_n 0, 1) := by decide +kernel
theorem dX10_init_52 : decode cX10_init 52 = .ok (.sipush 410, 3) := by decide +kernel
theorem dX10_init_55 : decode cX10_init 55 = .ok (.newarray .int, 2) := by decide +kernel
theorem dX10_init_57 : decode cX10_init 57 = .ok (.putfield 29, 3) := by decide +kernel
theorem dX10_init_60 : decode cX10_init 60 = .ok (.aload_n 0, 1) := by decide +kernel
theorem dX10_init_61 : decode cX10_init 61 = .ok (.bipush 41, 2) := by decide +kernel
theorem dX10_init_63 : decode cX10_init 63 = .ok (.newarray .int, 2) := by decide +kernel
theorem dX10_init_65 : decode cX10_init 65 = .ok (.putfield 32, 3) := by decide +kernel
theorem dX10_init_68 : decode cX10_init 68 = .ok (.aload_n 0, 1) := by decide +kernel
theorem dX10_init_69 : decode cX10_init 69 = .ok (.bipush 90, 2) := by decide +kernel
theorem dX10_init_71 : decode cX10_init 71 = .ok (.newarray .int, 2) := by decide +kernel
theorem dX10_init_73 : decode cX10_init 73 = .ok (.putfield 35, 3) := by decide +kernel
theorem dX10_init_76 : decode cX10_init 76 = .ok (.aload_n 0, 1) := by decide +kernel
theorem dX10_init_77 : decode cX10_init 77 = .ok (.bipush 90, 2) := by decide +kernel
theorem dX10_init_79 : decode cX10_init 79 = .ok (.newarray .int, 2) := by decide +kernel
theorem dX10_init_81 : decode cX10_init 81 = .ok (.putfield 38, 3) := by decide +kernel
theorem dX10_init_84 : decode cX10_init 84 = .ok (.aload_n 0, 1) := by decide +kernel
theorem dX10_init_85 : decode cX10_init 85 = .ok (.sipush 1936, 3) := by decide +kernel
theorem dX10_init_88 : decode cX10_init 88 = .ok (.newarray .int, 2) := by decide +kernel
theorem dX10_init_90 : decode cX10_init 90 = .ok (.putfield 41, 3) := by decide +kernel
theorem dX10_init_93 : decode cX10_init 93 = .ok (.aload_n 0, 1) := by decide +kernel
theorem dX10_init_94 : decode cX10_init 94 = .ok (.bipush 44, 2) := by decide +kernel
theorem dX10_init_96 : decode cX10_init 96 = .ok (.newarray .int, 2) := by decide +kernel
theorem dX10_init_98 : decode cX10_init 98 = .ok (.putfield 44, 3) := by decide +kernel
theorem dX10_init_101 : decode cX10_init 101 = .ok (.aload_n 0, 1) := by decide +kernel
theorem dX10_init_102 : decode cX10_init 102 = .ok (.bipush 44, 2) := by decide +kernel
theorem dX10_init_104 : decode cX10_init 104 = .ok (.newarray .int, 2) := by decide +kernel
theorem dX10_init_106 : decode cX10_init 106 = .ok (.putfield 47, 3) := by decide +kernel
theorem dX10_init_109 : decode cX10_init 109 = .ok (.aload_n 0, 1) := by decide +kernel
theorem dX10_init_110 : decode cX10_init 110 = .ok (.bipush 46, 2) := by decide +kernel
theorem dX10_init_112 : decode cX10_init 112 = .ok (.newarray .int, 2) := by decide +kernel
theorem dX10_init_114 : decode cX10_init 114 = .ok (.putfield 50, 3) := by decide +kernel
theorem dX10_init_117 : decode cX10_init 117 = .ok (.aload_n 0, 1) := by decide +kernel
theorem dX10_init_118 : decode cX10_init 118 = .ok (.bipush 46, 2) := by decide +kernel
theorem dX10_init_120 : decode cX10_init 120 = .ok (.newarray .int, 2) := by decide +kernel
theorem dX10_init_122 : decode cX10_init 122 = .ok (.putfield 53, 3) := by decide +kernel
theorem dX10_init_125 : decode cX10_init 125 = .ok (.aload_n 0, 1) := by decide +kernel
theorem dX10_init_126 : decode cX10_init 126 = .ok (.bipush 90, 2) := by decide +kernel
theorem dX10_init_128 : decode cX10_init 128 = .ok (.newarray .int, 2) := by decide +kernel
theorem dX10_init_130 : decode cX10_init 130 = .ok (.putfield 56, 3) := by decide +kernel
theorem dX10_init_133 : decode cX10_init 133 = .ok (.aload_n 0, 1) := by decide +kernel
theorem dX10_init_134 : decode cX10_init 134 = .ok (.bipush 90, 2) := by decide +kernel
theorem dX10_init_136 : decode cX10_init 136 = .ok (.newarray .int, 2) := by decide +kernel
theorem dX10_init_138 : decode cX10_init 138 = .ok (.putfield 59, 3) := by decide +kernel
theorem dX10_init_141 : decode cX10_init 141 = .ok (.aload_n 0, 1) := by decide +kernel
theorem dX10_init_142 : decode cX10_init 142 = .ok (.bipush 41, 2) := by decide +kernel
theorem dX10_init_144 : decode cX10_init 144 = .ok (.newarray .int, 2) := by decide +kernel
theorem dX10_init_146 : decode cX10_init 146 = .ok (.putfield 62, 3) := by decide +kernel
theorem dX10_init_149 : decode cX10_init 149 = .ok (.aload_n 0, 1) := by decide +kernel
theorem dX10_init_150 : decode cX10_init 150 = .ok (.bipush 46, 2) := by decide +kernel
theorem dX10_init_152 : decode cX10_init 152 = .ok (.newarray .int, 2) := by decide +kernel
theorem dX10_init_154 : decode cX10_init 154 = .ok (.putfield 65, 3) := by decide +kernel
theorem dX10_init_157 : decode cX10_init 157 = .ok (.aload_n 0, 1) := by decide +kernel
theorem dX10_init_158 : decode cX10_init 158 = .ok (.bipush 46, 2) := by decide +kernel
theorem dX10_init_160 : decode cX10_init 160 = .ok (.newarray .int, 2) := by decide +kernel
theorem dX10_init_162 : decode cX10_init 162 = .ok (.putfield 68, 3) := by decide +kernel
theorem dX10_init_165 : decode cX10_init 165 = .ok (.aload_n 0, 1) := by decide +kernel
theorem dX10_init_166 : decode cX10_init 166 = .ok (.bipush 41, 2) := by decide +kernel
theorem dX10_init_168 : decode cX10_init 168 = .ok (.newarray .int, 2) := by decide +kernel
theorem dX10_init_170 : decode cX10_init 170 = .ok (.putfield 71, 3) := by decide +kernel
theorem dX10_init_173 : decode cX10_init 173 = .ok (.aload_n 0, 1) := by decide +kernel
theorem dX10_init_174 : decode cX10_init 174 = .ok (.bipush 41, 2) := by decide +kernel
theorem dX10_init_176 : decode cX10_init 176 = .ok (.newarray .int, 2) := by decide +kernel
theorem dX10_init_178 : decode cX10_init 178 = .ok (.putfield 74, 3) := by decide +kernel
theorem dX10_init_181 : decode cX10_init 181 = .ok (.aload_n 0, 1) := by decide +kernel
theorem dX10_init_182 : decode cX10_init 182 = .ok (.bipush 45, 2) := by decide +kernel
theorem dX10_init_184 : decode cX10_init 184 = .ok (.newarray .int, 2) := by decide +kernel
theorem dX10_init_186 : decode cX10_init 186 = .ok (.putfield 77, 3) := by decide +kernel
theorem dX10_init_189 : decode cX10_init 189 = .ok (.aload_n 0, 1) := by decide +kernel
theorem dX10_init_190 : decode cX10_init 190 = .ok (.bipush 45, 2) := by decide +kernel
theorem dX10_init_192 : decode cX10_init 192 = .ok (.newarray .int, 2) := by decide +kernel
theorem dX10_init_194 : decode cX10_init 194 = .ok (.putfield 80, 3) := by decide +kernel
theorem dX10_init_197 : decode cX10_init 197 = .ok (.aload_n 0, 1) := by decide +kernel
theorem dX10_init_198 : decode cX10_init 198 = .ok (.bipush 45, 2) := by decide +kernel
theorem dX10_init_200 : decode cX10_init 200 = .ok (.newarray .int, 2) := by decide +kernel
theorem dX10_init_202 : decode cX10_init 202 = .ok (.putfield 83, 3) := by decide +kernel
theorem dX10_init_205 : decode cX10_init 205 = .ok (.aload_n 0, 1) := by decide +kernel
theorem dX10_init_206 : decode cX10_init 206 = .ok (.bipush 20, 2) := by decide +kernel
theorem dX10_init_208 : decode cX10_init 208 = .ok (.newarray .int, 2) := by decide +kernel
theorem dX10_init_210 : decode cX10_init 210 = .ok (.putfield 86, 3) := by decide +kernel
theorem dX10_init_213 : decode cX10_init 213 = .ok (.aload_n 0, 1) := by decide +kernel
theorem dX10_init_214 : decode cX10_init 214 = .ok (.bipush 20, 2) := by decide +kernel
theorem dX10_init_216 : decode cX10_init 216 = .ok (.newarray .int, 2) := by decide +kernel
theorem dX10_init_218 : decode cX10_init 218 = .ok (.putfield 89, 3) := by decide +kernel
theorem dX10_init_221 : decode cX10_init 221 = .ok (.aload_n 0, 1) := by decide +kernel
theorem dX10_init_222 : decode cX10_init 222 = .ok (.sipush 30011, 3) := by decide +kernel
theorem dX10_init_225 : decode cX10_init 225 = .ok (.putfield 92, 3) := by decide +kernel
theorem dX10_init_228 : decode cX10_init 228 = .ok (.aload_n 0, 1) := by decide +kernel
theorem dX10_init_229 : decode cX10_init 229 = .ok (.getfield 53, 3) := by decide +kernel
theorem dX10_init_232 : decode cX10_init 232 = .ok (.iconst 0, 1) := by decide +kernel
theorem dX10_init_233 : decode cX10_init 233 = .ok (.iconst 1, 1) := by decide +kernel
theorem dX10_init_234 : decode cX10_init 234 = .ok (.iastore, 1) := by decide +kernel
theorem dX10_init_235 : decode cX10_init 235 = .ok (.iconst 0, 1) := by decide +kernel
theorem dX10_init_236 : decode cX10_init 236 = .ok (.istore_n 1, 1) := by decide +kernel
theorem dX10_init_237 : decode cX10_init 237 = .ok (.iload_n 1, 1) := by decide +kernel
theorem dX10_init_238 : decode cX10_init 238 = .ok (.iconst 4, 1) := by decide +kernel
theorem dX10_init_239 : decode cX10_init 239 = .ok (.if_icmp .ge 16, 3) := by decide +kernel
theorem dX10_init_242 : decode cX10_init 242 = .ok (.aload_n 0, 1) := by decide +kernel
theorem dX10_init_243 : decode cX10_init 243 = .ok (.getfield 13, 3) := by decide +kernel
theorem dX10_init_246 : decode cX10_init 246 = .ok (.iload_n 1, 1) := by decide +kernel
theorem dX10_init_247 : decode cX10_init 247 = .ok (.iconst (-1), 1) := by decide +kernel
theorem dX10_init_248 : decode cX10_init 248 = .ok (.iastore, 1) := by decide +kernel
theorem dX10_init_249 : decode cX10_init 249 = .ok (.iinc 1 1, 3) := by decide +kernel
theorem dX10_init_252 : decode cX10_init 252 = .ok (.goto (-15), 3) := by decide +kernel
theorem dX10_init_255 : decode cX10_init 255 = .ok (.return_, 1) := by decide +kernel
theorem dX10_in_0 : decode cX10_in 0 = .ok (.lload_n 0, 1) := by decide +kernel
theorem dX10_in_1 : decode cX10_in 1 = .ok (.lload_n 2, 1) := by decide +kernel
theorem dX10_in_2 : decode cX10_in 2 = .ok (.lcmp, 1) := by decide +kernel
theorem dX10_in_3 : decode cX10_in 3 = .ok (.ifCond .lt 14, 3) := by decide +kernel
theorem dX10_in_6 : decode cX10_in 6 = .ok (.lload_n 0, 1) := by decide +kernel
theorem dX10_in_7 : decode cX10_in 7 = .ok (.lload 4, 2) := by decide +kernel
theorem dX10_in_9 : decode cX10_in 9 = .ok (.lcmp, 1) := by decide +kernel
theorem dX10_in_10 : decode cX10_in 10 = .ok (.ifCond .gt 7, 3) := by decide +kernel
theorem dX10_in_13 : decode cX10_in 13 = .ok (.iconst 1, 1) := by decide +kernel
theorem dX10_in_14 : decode cX10_in 14 = .ok (.goto 4, 3) := by decide +kernel
theorem dX10_in_17 : decode cX10_in 17 = .ok (.iconst 0, 1) := by decide +kernel
theorem dX10_in_18 : decode cX10_in 18 = .ok (.ireturn, 1) := by decide +kernel
theorem dX10_meets_0 : decode cX10_meets 0 = .ok (.aload_n 0, 1) := by decide +kernel
theorem dX10_meets_1 : decode cX10_meets 1 = .ok (.iload_n 1, 1) := by decide +kernel
theorem dX10_meets_2 : decode cX10_meets 2 = .ok (.putfield 96, 3) := by decide +kernel
theorem dX10_meets_5 : decode cX10_meets 5 = .ok (.aload_n 0, 1) := by decide +kernel
theorem dX10_meets_6 : decode cX10_meets 6 = .ok (.getfield 7, 3) := by decide +kernel
theorem dX10_meets_9 : decode cX10_meets 9 = .ok (.iload_n 1, 1) := by decide +kernel
theorem dX10_meets_10 : decode cX10_meets 10 = .ok (.dup2, 1) := by decide +kernel
theorem dX10_meets_11 : decode cX10_meets 11 = .ok (.iaload, 1) := by decide +kernel
theorem dX10_meets_12 : decode cX10_meets 12 = .ok (.iconst 1, 1) := by decide +kernel
theorem dX10_meets_13 : decode cX10_meets 13 = .ok (.iadd, 1) := by decide +kernel
theorem dX10_meets_14 : decode cX10_meets 14 = .ok (.iastore, 1) := by decide +kernel
theorem dX10_meets_15 : decode cX10_meets 15 = .ok (.bipush (-10), 2) := by decide +kernel
theorem dX10_meets_17 : decode cX10_meets 17 = .ok (.iload_n 1, 1) := by decide +kernel
theorem dX10_meets_18 : decode cX10_meets 18 = .ok (.isub, 1) := by decide +kernel
theorem dX10_meets_19 : decode cX10_meets 19 = .ok (.ireturn, 1) := by decide +kernel
theorem dX10_rest_0 : decode cX10_rest 0 = .ok (.lload_n 1, 1) := by decide +kernel
theorem dX10_rest_1 : decode cX10_rest 1 = .ok (.aload_n 0, 1) := by decide +kernel
theorem dX10_rest_2 : decode cX10_rest 2 = .ok (.getfield 92, 3) := by decide +kernel
theorem dX10_rest_5 : decode cX10_rest 5 = .ok (.i2l, 1) := by decide +kernel
theorem dX10_rest_6 : decode cX10_rest 6 = .ok (.lrem, 1) := by decide +kernel
theorem dX10_rest_7 : decode cX10_rest 7 = .ok (.lstore_n 3, 1) := by decide +kernel
theorem dX10_rest_8 : decode cX10_rest 8 = .ok (.lload_n 3, 1) := by decide +kernel
theorem dX10_rest_9 : decode cX10_rest 9 = .ok (.lconst 0, 1) := by decide +kernel
theorem dX10_rest_10 : decode cX10_rest 10 = .ok (.lcmp, 1) := by decide +kernel
theorem dX10_rest_11 : decode cX10_rest 11 = .ok (.ifCond .ge 13, 3) := by decide +kernel
theorem dX10_rest_14 : decode cX10_rest 14 = .ok (.lload_n 3, 1) := by decide +kernel
theorem dX10_rest_15 : decode cX10_rest 15 = .ok (.aload_n 0, 1) := by decide +kernel
theorem dX10_rest_16 : decode cX10_rest 16 = .ok (.getfield 92, 3) := by decide +kernel
theorem dX10_rest_19 : decode cX10_rest 19 = .ok (.i2l, 1) := by decide +kernel
theorem dX10_rest_20 : decode cX10_rest 20 = .ok (.ladd, 1) := by decide +kernel
theorem dX10_rest_21 : decode cX10_rest 21 = .ok (.goto 4, 3) := by decide +kernel
theorem dX10_rest_24 : decode cX10_rest 24 = .ok (.lload_n 3, 1) := by decide +kernel
theorem dX10_rest_25 : decode cX10_rest 25 = .ok (.l2i, 1) := by decide +kernel
theorem dX10_rest_26 : decode cX10_rest 26 = .ok (.ireturn, 1) := by decide +kernel
theorem dX10_product_0 : decode cX10_product 0 = .ok (.iload_n 1, 1) := by decide +kernel
theorem dX10_product_1 : decode cX10_product 1 = .ok (.i2l, 1) := by decide +kernel
theorem dX10_product_2 : decode cX10_product 2 = .ok (.iload_n 2, 1) := by decide +kernel
theorem dX10_product_3 : decode cX10_product 3 = .ok (.i2l, 1) := by decide +kernel
theorem dX10_product_4 : decode cX10_product 4 = .ok (.lmul, 1) := by decide +kernel
theorem dX10_product_5 : decode cX10_product 5 = .ok (.aload_n 0, 1) := by decide +kernel
theorem dX10_product_6 : decode cX10_product 6 = .ok (.getfield 92, 3) := by decide +kernel
theorem dX10_product_9 : decode cX10_product 9 = .ok (.i2l, 1) := by decide +kernel
theorem dX10_product_10 : decode cX10_product 10 = .ok (.lrem, 1) := by decide +kernel
theorem dX10_product_11 : decode cX10_product 11 = .ok (.l2i, 1) := by decide +kernel
theorem dX10_product_12 : decode cX10_product 12 = .ok (.ireturn, 1) := by decide +kernel
theorem dX10_power_0 : decode cX10_power 0 = .ok (.iconst 1, 1) := by decide +kernel
theorem dX10_power_1 : decode cX10_power 1 = .ok (.aload_n 0, 1) := by decide +kernel
theorem dX10_power_2 : decode cX10_power 2 = .ok (.getfield 92, 3) := by decide +kernel
theorem dX10_power_5 : decode cX10_power 5 = .ok (.irem, 1) := by decide +kernel
theorem dX10_power_6 : decode cX10_power 6 = .ok (.istore_n 3, 1) := by decide +kernel
theorem dX10_power_7 : decode cX10_power 7 = .ok (.iconst 0, 1) := by decide +kernel
theorem dX10_power_8 : decode cX10_power 8 = .ok (.istore 4, 2) := by decide +kernel
theorem dX10_power_10 : decode cX10_power 10 = .ok (.iload 4, 2) := by decide +kernel
theorem dX10_power_12 : decode cX10_power 12 = .ok (.iload_n 2, 1) := by decide +kernel
theorem dX10_power_13 : decode cX10_power 13 = .ok (.if_icmp .ge 16, 3) := by decide +kernel
theorem dX10_power_16 : decode cX10_power 16 = .ok (.aload_n 0, 1) := by decide +kernel
theorem dX10_power_17 : decode cX10_power 17 = .ok (.iload_n 3, 1) := by decide +kernel
theorem dX10_power_18 : decode cX10_power 18 = .ok (.iload_n 1, 1) := by decide +kernel
theorem dX10_power_19 : decode cX10_power 19 = .ok (.invokevirtual 99, 3) := by decide +kernel
theorem dX10_power_22 : decode cX10_power 22 = .ok (.istore_n 3, 1) := by decide +kernel
theorem dX10_power_23 : decode cX10_power 23 = .ok (.iinc 4 1, 3) := by decide +kernel
theorem dX10_power_26 : decode cX10_power 26 = .ok (.goto (-16), 3) := by decide +kernel
theorem dX10_power_29 : decode cX10_power 29 = .ok (.iload_n 3, 1) := by decide +kernel
theorem dX10_power_30 : decode cX10_power 30 = .ok (.ireturn, 1) := by decide +kernel
theorem dX10_inverse_0 : decode cX10_inverse 0 = .ok (.iconst 1, 1) := by decide +kernel
theorem dX10_inverse_1 : decode cX10_inverse 1 = .ok (.istore_n 2, 1) := by decide +kernel
theorem dX10_inverse_2 : decode cX10_inverse 2 = .ok (.iload_n 1, 1) := by decide +kernel
theorem dX10_inverse_3 : decode cX10_inverse 3 = .ok (.istore_n 3, 1) := by decide +kernel
theorem dX10_inverse_4 : decode cX10_inverse 4 = .ok (.aload_n 0, 1) := by decide +kernel
theorem dX10_inverse_5 : decode cX10_inverse 5 = .ok (.getfield 92, 3) := by decide +kernel
theorem dX10_inverse_8 : decode cX10_inverse 8 = .ok (.iconst 2, 1) := by decide +kernel
theorem dX10_inverse_9 : decode cX10_inverse 9 = .ok (.isub, 1) := by decide +kernel
theorem dX10_inverse_10 : decode cX10_inverse 10 = .ok (.istore 4, 2) := by decide +kernel
theorem dX10_inverse_12 : decode cX10_inverse 12 = .ok (.iload 4, 2) := by decide +kernel
theorem dX10_inverse_14 : decode cX10_inverse 14 = .ok (.ifCond .le 34, 3) := by decide +kernel
theorem dX10_inverse_17 : decode cX10_inverse 17 = .ok (.iload 4, 2) := by decide +kernel
theorem dX10_inverse_19 : decode cX10_inverse 19 = .ok (.iconst 1, 1) := by decide +kernel
theorem dX10_inverse_20 : decode cX10_inverse 20 = .ok (.iand, 1) := by decide +kernel
theorem dX10_inverse_21 : decode cX10_inverse 21 = .ok (.iconst 1, 1) := by decide +kernel
theorem dX10_inverse_22 : decode cX10_inverse 22 = .ok (.if_icmp .ne 10, 3) := by decide +kernel
theorem dX10_inverse_25 : decode cX10_inverse 25 = .ok (.aload_n 0, 1) := by decide +kernel
theorem dX10_inverse_26 : decode cX10_inverse 26 = .ok (.iload_n 2, 1) := by decide +kernel
theorem dX10_inverse_27 : decode cX10_inverse 27 = .ok (.iload_n 3, 1) := by decide +kernel
theorem dX10_inverse_28 : decode cX10_inverse 28 = .ok (.invokevirtual 99, 3) := by decide +kernel
theorem dX10_inverse_31 : decode cX10_inverse 31 = .ok (.istore_n 2, 1) := by decide +kernel
theorem dX10_inverse_32 : decode cX10_inverse 32 = .ok (.aload_n 0, 1) := by decide +kernel
theorem dX10_inverse_33 : decode cX10_inverse 33 = .ok (.iload_n 3, 1) := by decide +kernel
theorem dX10_inverse_34 : decode cX10_inverse 34 = .ok (.iload_n 3, 1) := by decide +kernel
theorem dX10_inverse_35 : decode cX10_inverse 35 = .ok (.invokevirtual 99, 3) := by decide +kernel
theorem dX10_inverse_38 : decode cX10_inverse 38 = .ok (.istore_n 3, 1) := by decide +kernel
theorem dX10_inverse_39 : decode cX10_inverse 39 = .ok (.iload 4, 2) := by decide +kernel
theorem dX10_inverse_41 : decode cX10_inverse 41 = .ok (.iconst 1, 1) := by decide +kernel
theorem dX10_inverse_42 : decode cX10_inverse 42 = .ok (.ishr, 1) := by decide +kernel
theorem dX10_inverse_43 : decode cX10_inverse 43 = .ok (.istore 4, 2) := by decide +kernel
theorem dX10_inverse_45 : decode cX10_inverse 45 = .ok (.goto (-33), 3) := by decide +kernel
theorem dX10_inverse_48 : decode cX10_inverse 48 = .ok (.iload_n 2, 1) := by decide +kernel
theorem dX10_inverse_49 : decode cX10_inverse 49 = .ok (.ireturn, 1) := by decide +kernel
theorem dX10_isPrime_0 : decode cX10_isPrime 0 = .ok (.iload_n 0, 1) := by decide +kernel
theorem dX10_isPrime_1 : decode cX10_isPrime 1 = .ok (.iconst 1, 1) := by decide +kernel
theorem dX10_isPrime_2 : decode cX10_isPrime 2 = .ok (.if_icmp .le 7, 3) := by decide +kernel
theorem dX10_isPrime_5 : decode cX10_isPrime 5 = .ok (.iconst 1, 1) := by decide +kernel
theorem dX10_isPrime_6 : decode cX10_isPrime 6 = .ok (.goto 4, 3) := by decide +kernel
theorem dX10_isPrime_9 : decode cX10_isPrime 9 = .ok (.iconst 0, 1) := by decide +kernel
theorem dX10_isPrime_10 : decode cX10_isPrime 10 = .ok (.istore_n 1, 1) := by decide +kernel
theorem dX10_isPrime_11 : decode cX10_isPrime 11 = .ok (.iconst 2, 1) := by decide +kernel
theorem dX10_isPrime_12 : decode cX10_isPrime 12 = .ok (.istore_n 2, 1) := by decide +kernel
theorem dX10_isPrime_13 : decode cX10_isPrime 13 = .ok (.iload_n 2, 1) := by decide +kernel
theorem dX10_isPrime_14 : decode cX10_isPrime 14 = .ok (.iload_n 2, 1) := by decide +kernel
theorem dX10_isPrime_15 : decode cX10_isPrime 15 = .ok (.imul, 1) := by decide +kernel
theorem dX10_isPrime_16 : decode cX10_isPrime 16 = .ok (.iload_n 0, 1) := by decide +kernel
theorem dX10_isPrime_17 : decode cX10_isPrime 17 = .ok (.if_icmp .gt 25, 3) := by decide +kernel
theorem dX10_isPrime_20 : decode cX10_isPrime 20 = .ok (.iload_n 1, 1) := by decide +kernel
theorem dX10_isPrime_21 : decode cX10_isPrime 21 = .ok (.ifCond .eq 21, 3) := by decide +kernel
theorem dX10_isPrime_24 : decode cX10_isPrime 24 = .ok (.iload_n 0, 1) := by decide +kernel
theorem dX10_isPrime_25 : decode cX10_isPrime 25 = .ok (.iload_n 2, 1) := by decide +kernel
theorem dX10_isPrime_26 : decode cX10_isPrime 26 = .ok (.irem, 1) := by decide +kernel
theorem dX10_isPrime_27 : decode cX10_isPrime 27 = .ok (.ifCond .eq 7, 3) := by decide +kernel
theorem dX10_isPrime_30 : decode cX10_isPrime 30 = .ok (.iconst 1, 1) := by decide +kernel
theorem dX10_isPrime_31 : decode cX10_isPrime 31 = .ok (.goto 4, 3) := by decide +kernel
theorem dX10_isPrime_34 : decode cX10_isPrime 34 = .ok (.iconst 0, 1) := by decide +kernel
theorem dX10_isPrime_35 : decode cX10_isPrime 35 = .ok (.istore_n 1, 1) := by decide +kernel
theorem dX10_isPrime_36 : decode cX10_isPrime 36 = .ok (.iinc 2 1, 3) := by decide +kernel
theorem dX10_isPrime_39 : decode cX10_isPrime 39 = .ok (.goto (-26), 3) := by decide +kernel
theorem dX10_isPrime_42 : decode cX10_isPrime 42 = .ok (.iload_n 1, 1) := by decide +kernel
theorem dX10_isPrime_43 : decode cX10_isPrime 43 = .ok (.ireturn, 1) := by decide +kernel
theorem dX10_prime_0 : decode cX10_prime 0 = .ok (.iload_n 1, 1) := by decide +kernel
theorem dX10_prime_1 : decode cX10_prime 1 = .ok (.i2l, 1) := by decide +kernel
theorem dX10_prime_2 : decode cX10_prime 2 = .ok (.ldc2_w 103, 3) := by decide +kernel
theorem dX10_prime_5 : decode cX10_prime 5 = .ok (.ldc2_w 105, 3) := by decide +kernel
theorem dX10_prime_8 : decode cX10_prime 8 = .ok (.invokestatic 107, 3) := by decide +kernel
theorem dX10_prime_11 : decode cX10_prime 11 = .ok (.ifCond .eq 10, 3) := by decide +kernel
theorem dX10_prime_14 : decode cX10_prime 14 = .ok (.iload_n 1, 1) := by decide +kernel
theorem dX10_prime_15 : decode cX10_prime 15 = .ok (.invokestatic 111, 3) := by decide +kernel
theorem dX10_prime_18 : decode cX10_prime 18 = .ok (.ifCond .ne 6, 3) := by decide +kernel
theorem dX10_prime_21 : decode cX10_prime 21 = .ok (.bipush (-102), 2) := by decide +kernel
theorem dX10_prime_23 : decode cX10_prime 23 = .ok (.ireturn, 1) := by decide +kernel
theorem dX10_prime_24 : decode cX10_prime 24 = .ok (.aload_n 0, 1) := by decide +kernel
theorem dX10_prime_25 : decode cX10_prime 25 = .ok (.getfield 115, 3) := by decide +kernel
theorem dX10_prime_28 : decode cX10_prime 28 = .ok (.ifCond .gt 10, 3) := by decide +kernel
theorem dX10_prime_31 : decode cX10_prime 31 = .ok (.aload_n 0, 1) := by decide +kernel
theorem dX10_prime_32 : decode cX10_prime 32 = .ok (.getfield 118, 3) := by decide +kernel
theorem dX10_prime_35 : decode cX10_prime 35 = .ok (.ifCond .le 6, 3) := by decide +kernel
theorem dX10_prime_38 : decode cX10_prime 38 = .ok (.bipush (-103), 2) := by decide +kernel
theorem dX10_prime_40 : decode cX10_prime 40 = .ok (.ireturn, 1) := by decide +kernel
theorem dX10_prime_41 : decode cX10_prime 41 = .ok (.aload_n 0, 1) := by decide +kernel
theorem dX10_prime_42 : decode cX10_prime 42 = .ok (.getfield 92, 3) := by decide +kernel
theorem dX10_prime_45 : decode cX10_prime 45 = .ok (.istore_n 2, 1) := by decide +kernel
theorem dX10_prime_46 : decode cX10_prime 46 = .ok (.aload_n 0, 1) := by decide +kernel
theorem dX10_prime_47 : decode cX10_prime 47 = .ok (.iload_n 1, 1) := by decide +kernel
theorem dX10_prime_48 : decode cX10_prime 48 = .ok (.putfield 92, 3) := by decide +kernel
theorem dX10_prime_51 : decode cX10_prime 51 = .ok (.aload_n 0, 1) := by decide +kernel
theorem dX10_prime_52 : decode cX10_prime 52 = .ok (.invokevirtual 121, 3) := by decide +kernel
theorem dX10_prime_55 : decode cX10_prime 55 = .ok (.iload_n 2, 1) := by decide +kernel
theorem dX10_prime_56 : decode cX10_prime 56 = .ok (.ireturn, 1) := by decide +kernel
theorem dX10_isSheet_0 : decode cX10_isSheet 0 = .ok (.iload_n 0, 1) := by decide +kernel
theorem dX10_isSheet_1 : decode cX10_isSheet 1 = .ok (.i2l, 1) := by decide +kernel
theorem dX10_isSheet_2 : decode cX10_isSheet 2 = .ok (.lconst 0, 1) := by decide +kernel
theorem dX10_isSheet_3 : decode cX10_isSheet 3 = .ok (.ldc2_w 124, 3) := by decide +kernel
theorem dX10_isSheet_6 : decode cX10_isSheet 6 = .ok (.invokestatic 107, 3) := by decide +kernel
theorem dX10_isSheet_9 : decode cX10_isSheet 9 = .ok (.ireturn, 1) := by decide +kernel
theorem dX10_sheet_0 : decode cX10_sheet 0 = .ok (.iload_n 1, 1) := by decide +kernel
theorem dX10_sheet_1 : decode cX10_sheet 1 = .ok (.invokestatic 126, 3) := by decide +kernel
theorem dX10_sheet_4 : decode cX10_sheet 4 = .ok (.ifCond .ne 6, 3) := by decide +kernel
theorem dX10_sheet_7 : decode cX10_sheet 7 = .ok (.bipush (-101), 2) := by decide +kernel
theorem dX10_sheet_9 : decode cX10_sheet 9 = .ok (.ireturn, 1) := by decide +kernel
theorem dX10_sheet_10 : decode cX10_sheet 10 = .ok (.iload_n 2, 1) := by decide +kernel
theorem dX10_sheet_11 : decode cX10_sheet 11 = .ok (.i2l, 1) := by decide +kernel
theorem dX10_sheet_12 : decode cX10_sheet 12 = .ok (.lconst 0, 1) := by decide +kernel
theorem dX10_sheet_13 : decode cX10_sheet 13 = .ok (.ldc2_w 124, 3) := by decide +kernel
theorem dX10_sheet_16 : decode cX10_sheet 16 = .ok (.invokestatic 107, 3) := by decide +kernel
theorem dX10_sheet_19 : decode cX10_sheet 19 = .ok (.ifCond .eq 9, 3) := by decide +kernel
theorem dX10_sheet_22 : decode cX10_sheet 22 = .ok (.iload_n 3, 1) := by decide +kernel
theorem dX10_sheet_23 : decode cX10_sheet 23 = .ok (.bipush 60, 2) := by decide +kernel
theorem dX10_sheet_25 : decode cX10_sheet 25 = .ok (.if_icmp .le 6, 3) := by decide +kernel
theorem dX10_sheet_28 : decode cX10_sheet 28 = .ok (.bipush (-102), 2) := by decide +kernel
theorem dX10_sheet_30 : decode cX10_sheet 30 = .ok (.ireturn, 1) := by decide +kernel
theorem dX10_sheet_31 : decode cX10_sheet 31 = .ok (.iload_n 3, 1) := by decide +kernel
theorem dX10_sheet_32 : decode cX10_sheet 32 = .ok (.ifCond .ge 9, 3) := by decide +kernel
theorem dX10_sheet_35 : decode cX10_sheet 35 = .ok (.aload_n 0, 1) := by decide +kernel
theorem dX10_sheet_36 : decode cX10_sheet 36 = .ok (.iconst 3, 1) := by decide +kernel
theorem dX10_sheet_37 : decode cX10_sheet 37 = .ok (.invokevirtual 129, 3) := by decide +kernel
theorem dX10_sheet_40 : decode cX10_sheet 40 = .ok (.ireturn, 1) := by decide +kernel
theorem dX10_sheet_41 : decode cX10_sheet 41 = .ok (.aload_n 0, 1) := by decide +kernel
theorem dX10_sheet_42 : decode cX10_sheet 42 = .ok (.getfield 13, 3) := by decide +kernel
theorem dX10_sheet_45 : decode cX10_sheet 45 = .ok (.iload_n 1, 1) := by decide +kernel
theorem dX10_sheet_46 : decode cX10_sheet 46 = .ok (.iload_n 2, 1) := by decide +kernel
theorem dX10_sheet_47 : decode cX10_sheet 47 = .ok (.iastore, 1) := by decide +kernel
theorem dX10_sheet_48 : decode cX10_sheet 48 = .ok (.aload_n 0, 1) := by decide +kernel
theorem dX10_sheet_49 : decode cX10_sheet 49 = .ok (.getfield 16, 3) := by decide +kernel
theorem dX10_sheet_52 : decode cX10_sheet 52 = .ok (.iload_n 1, 1) := by decide +kernel
theorem dX10_sheet_53 : decode cX10_sheet 53 = .ok (.iload_n 3, 1) := by decide +kernel
theorem dX10_sheet_54 : decode cX10_sheet 54 = .ok (.iastore, 1) := by decide +kernel
theorem dX10_sheet_55 : decode cX10_sheet 55 = .ok (.iconst 0, 1) := by decide +kernel
theorem dX10_sheet_56 : decode cX10_sheet 56 = .ok (.istore 4, 2) := by decide +kernel
theorem dX10_sheet_58 : decode cX10_sheet 58 = .ok (.iload 4, 2) := by decide +kernel
theorem dX10_sheet_60 : decode cX10_sheet 60 = .ok (.bipush 60, 2) := by decide +kernel
theorem dX10_sheet_62 : decode cX10_sheet 62 = .ok (.if_icmp .ge 22, 3) := by decide +kernel
theorem dX10_sheet_65 : decode cX10_sheet 65 = .ok (.aload_n 0, 1) := by decide +kernel
theorem dX10_sheet_66 : decode cX10_sheet 66 = .ok (.getfield 19, 3) := by decide +kernel
theorem dX10_sheet_69 : decode cX10_sheet 69 = .ok (.bipush 60, 2) := by decide +kernel
theorem dX10_sheet_71 : decode cX10_sheet 71 = .ok (.iload_n 1, 1) := by decide +kernel
theorem dX10_sheet_72 : decode cX10_sheet 72 = .ok (.imul, 1) := by decide +kernel
theorem dX10_sheet_73 : decode cX10_sheet 73 = .ok (.iload 4, 2) := by decide +kernel
theorem dX10_sheet_75 : decode cX10_sheet 75 = .ok (.iadd, 1) := by decide +kernel
theorem dX10_sheet_76 : decode cX10_sheet 76 = .ok (.lconst 0, 1) := by decide +kernel
theorem dX10_sheet_77 : decode cX10_sheet 77 = .ok (.lastore, 1) := by decide +kernel
theorem dX10_sheet_78 : decode cX10_sheet 78 = .ok (.iinc 4 1, 3) := by decide +kernel
theorem dX10_sheet_81 : decode cX10_sheet 81 = .ok (.goto (-23), 3) := by decide +kernel
theorem dX10_sheet_84 : decode cX10_sheet 84 = .ok (.iload_n 3, 1) := by decide +kernel
theorem dX10_sheet_85 : decode cX10_sheet 85 = .ok (.ireturn, 1) := by decide +kernel
theorem dX10_put_0 : decode cX10_put 0 = .ok (.iload_n 1, 1) := by decide +kernel
theorem dX10_put_1 : decode cX10_put 1 = .ok (.invokestatic 126, 3) := by decide +kernel
theorem dX10_put_4 : decode cX10_put 4 = .ok (.ifCond .ne 6, 3) := by decide +kernel
theorem dX10_put_7 : decode cX10_put 7 = .ok (.bipush (-101), 2) := by decide +kernel
theorem dX10_put_9 : decode cX10_put 9 = .ok (.ireturn, 1) := by decide +kernel
theorem dX10_put_10 : decode cX10_put 10 = .ok (.iload_n 2, 1) := by decide +kernel
theorem dX10_put_11 : decode cX10_put 11 = .ok (.i2l, 1) := by decide +kernel
theorem dX10_put_12 : decode cX10_put 12 = .ok (.lconst 0, 1) := by decide +kernel
theorem dX10_put_13 : decode cX10_put 13 = .ok (.ldc2_w 124, 3) := by decide +kernel
theorem dX10_put_16 : decode cX10_put 16 = .ok (.invokestatic 107, 3) := by decide +kernel
theorem dX10_put_19 : decode cX10_put 19 = .ok (.ifCond .ne 6, 3) := by decide +kernel
theorem dX10_put_22 : decode cX10_put 22 = .ok (.bipush (-102), 2) := by decide +kernel
theorem dX10_put_24 : decode cX10_put 24 = .ok (.ireturn, 1) := by decide +kernel
theorem dX10_put_25 : decode cX10_put 25 = .ok (.aload_n 0, 1) := by decide +kernel
theorem dX10_put_26 : decode cX10_put 26 = .ok (.getfield 13, 3) := by decide +kernel
theorem dX10_put_29 : decode cX10_put 29 = .ok (.iload_n 1, 1) := by decide +kernel
theorem dX10_put_30 : decode cX10_put 30 = .ok (.iaload, 1) := by decide +kernel
theorem dX10_put_31 : decode cX10_put 31 = .ok (.iconst (-1), 1) := by decide +kernel
theorem dX10_put_32 : decode cX10_put 32 = .ok (.if_icmp .ne 9, 3) := by decide +kernel
theorem dX10_put_35 : decode cX10_put 35 = .ok (.aload_n 0, 1) := by decide +kernel
theorem dX10_put_36 : decode cX10_put 36 = .ok (.iconst 1, 1) := by decide +kernel
theorem dX10_put_37 : decode cX10_put 37 = .ok (.invokevirtual 129, 3) := by decide +kernel
theorem dX10_put_40 : decode cX10_put 40 = .ok (.ireturn, 1) := by decide +kernel
theorem dX10_put_41 : decode cX10_put 41 = .ok (.aload_n 0, 1) := by decide +kernel
theorem dX10_put_42 : decode cX10_put 42 = .ok (.getfield 13, 3) := by decide +kernel
theorem dX10_put_45 : decode cX10_put 45 = .ok (.iload_n 1, 1) := by decide +kernel
theorem dX10_put_46 : decode cX10_put 46 = .ok (.iaload, 1) := by decide +kernel
theorem dX10_put_47 : decode cX10_put 47 = .ok (.iload_n 2, 1) := by decide +kernel
theorem dX10_put_48 : decode cX10_put 48 = .ok (.if_icmp .eq 9, 3) := by decide +kernel
theorem dX10_put_51 : decode cX10_put 51 = .ok (.aload_n 0, 1) := by decide +kernel
theorem dX10_put_52 : decode cX10_put 52 = .ok (.iconst 4, 1) := by decide +kernel
theorem dX10_put_53 : decode cX10_put 53 = .ok (.invokevirtual 129, 3) := by decide +kernel
theorem dX10_put_56 : decode cX10_put 56 = .ok (.ireturn, 1) := by decide +kernel
theorem dX10_put_57 : decode cX10_put 57 = .ok (.iload_n 3, 1) := by decide +kernel
theorem dX10_put_58 : decode cX10_put 58 = .ok (.i2l, 1) := by decide +kernel
theorem dX10_put_59 : decode cX10_put 59 = .ok (.lconst 0, 1) := by decide +kernel
theorem dX10_put_60 : decode cX10_put 60 = .ok (.aload_n 0, 1) := by decide +kernel
theorem dX10_put_61 : decode cX10_put 61 = .ok (.getfield 16, 3) := by decide +kernel
theorem dX10_put_64 : decode cX10_put 64 = .ok (.iload_n 1, 1) := by decide +kernel
theorem dX10_put_65 : decode cX10_put 65 = .ok (.iaload, 1) := by decide +kernel
theorem dX10_put_66 : decode cX10_put 66 = .ok (.iconst 1, 1) := by decide +kernel
theorem dX10_put_67 : decode cX10_put 67 = .ok (.isub, 1) := by decide +kernel
theorem dX10_put_68 : decode cX10_put 68 = .ok (.i2l, 1) := by decide +kernel
theorem dX10_put_69 : decode cX10_put 69 = .ok (.invokestatic 107, 3) := by decide +kernel
theorem dX10_put_72 : decode cX10_put 72 = .ok (.ifCond .ne 9, 3) := by decide +kernel
theorem dX10_put_75 : decode cX10_put 75 = .ok (.aload_n 0, 1) := by decide +kernel
theorem dX10_put_76 : decode cX10_put 76 = .ok (.iconst 2, 1) := by decide +kernel
theorem dX10_put_77 : decode cX10_put 77 = .ok (.invokevirtual 129, 3) := by decide +kernel
theorem dX10_put_80 : decode cX10_put 80 = .ok (.ireturn, 1) := by decide +kernel
theorem dX10_put_81 : decode cX10_put 81 = .ok (.aload_n 0, 1) := by decide +kernel
theorem dX10_put_82 : decode cX10_put 82 = .ok (.getfield 19, 3) := by decide +kernel
theorem dX10_put_85 : decode cX10_put 85 = .ok (.bipush 60, 2) := by decide +kernel
theorem dX10_put_87 : decode cX10_put 87 = .ok (.iload_n 1, 1) := by decide +kernel
theorem dX10_put_88 : decode cX10_put 88 = .ok (.imul, 1) := by decide +kernel
theorem dX10_put_89 : decode cX10_put 89 = .ok (.iload_n 3, 1) := by decide +kernel
theorem dX10_put_90 : decode cX10_put 90 = .ok (.iadd, 1) := by decide +kernel
theorem dX10_put_91 : decode cX10_put 91 = .ok (.iload_n 2, 1) := by decide +kernel
theorem dX10_put_92 : decode cX10_put 92 = .ok (.ifCond .ne 11, 3) := by decide +kernel
theorem dX10_put_95 : decode cX10_put 95 = .ok (.lload 4, 2) := by decide +kernel
theorem dX10_put_97 : decode cX10_put 97 = .ok (.l2i, 1) := by decide +kernel
theorem dX10_put_98 : decode cX10_put 98 = .ok (.i2b, 1) := by decide +kernel
theorem dX10_put_99 : decode cX10_put 99 = .ok (.i2l, 1) := by decide +kernel
theorem dX10_put_100 : decode cX10_put 100 = .ok (.goto 30, 3) := by decide +kernel
theorem dX10_put_103 : decode cX10_put 103 = .ok (.iload_n 2, 1) := by decide +kernel
theorem dX10_put_104 : decode cX10_put 104 = .ok (.iconst 1, 1) := by decide +kernel
theorem dX10_put_105 : decode cX10_put 105 = .ok (.if_icmp .ne 11, 3) := by decide +kernel
theorem dX10_put_108 : decode cX10_put 108 = .ok (.lload 4, 2) := by decide +kernel
theorem dX10_put_110 : decode cX10_put 110 = .ok (.l2i, 1) := by decide +kernel
theorem dX10_put_111 : decode cX10_put 111 = .ok (.i2s, 1) := by decide +kernel
theorem dX10_put_112 : decode cX10_put 112 = .ok (.i2l, 1) := by decide +kernel
theorem dX10_put_113 : decode cX10_put 113 = .ok (.goto 17, 3) := by decide +kernel
theorem dX10_put_116 : decode cX10_put 116 = .ok (.iload_n 2, 1) := by decide +kernel
theorem dX10_put_117 : decode cX10_put 117 = .ok (.iconst 2, 1) := by decide +kernel
theorem dX10_put_118 : decode cX10_put 118 = .ok (.if_icmp .ne 10, 3) := by decide +kernel
theorem dX10_put_121 : decode cX10_put 121 = .ok (.lload 4, 2) := by decide +kernel
theorem dX10_put_123 : decode cX10_put 123 = .ok (.l2i, 1) := by decide +kernel
theorem dX10_put_124 : decode cX10_put 124 = .ok (.i2l, 1) := by decide +kernel
theorem dX10_put_125 : decode cX10_put 125 = .ok (.goto 5, 3) := by decide +kernel
theorem dX10_put_128 : decode cX10_put 128 = .ok (.lload 4, 2) := by decide +kernel
theorem dX10_put_130 : decode cX10_put 130 = .ok (.lastore, 1) := by decide +kernel
theorem dX10_put_131 : decode cX10_put 131 = .ok (.iconst 1, 1) := by decide +kernel
theorem dX10_put_132 : decode cX10_put 132 = .ok (.ireturn, 1) := by decide +kernel
theorem dX10_copy_0 : decode cX10_copy 0 = .ok (.iload_n 1, 1) := by decide +kernel
theorem dX10_copy_1 : decode cX10_copy 1 = .ok (.invokestatic 126, 3) := by decide +kernel
theorem dX10_copy_4 : decode cX10_copy 4 = .ok (.ifCond .eq 10, 3) := by decide +kernel
theorem dX10_copy_7 : decode cX10_copy 7 = .ok (.iload_n 3, 1) := by decide +kernel
theorem dX10_copy_8 : decode cX10_copy 8 = .ok (.invokestatic 126, 3) := by decide +kernel
theorem dX10_copy_11 : decode cX10_copy 11 = .ok (.ifCond .ne 6, 3) := by decide +kernel
theorem dX10_copy_14 : decode cX10_copy 14 = .ok (.bipush (-101), 2) := by decide +kernel
theorem dX10_copy_16 : decode cX10_copy 16 = .ok (.ireturn, 1) := by decide +kernel
theorem dX10_copy_17 : decode cX10_copy 17 = .ok (.aload_n 0, 1) := by decide +kernel
theorem dX10_copy_18 : decode cX10_copy 18 = .ok (.getfield 13, 3) := by decide +kernel
theorem dX10_copy_21 : decode cX10_copy 21 = .ok (.iload_n 1, 1) := by decide +kernel
theorem dX10_copy_22 : decode cX10_copy 22 = .ok (.iaload, 1) := by decide +kernel
theorem dX10_copy_23 : decode cX10_copy 23 = .ok (.iconst (-1), 1) := by decide +kernel
theorem dX10_copy_24 : decode cX10_copy 24 = .ok (.if_icmp .eq 13, 3) := by decide +kernel
theorem dX10_copy_27 : decode cX10_copy 27 = .ok (.aload_n 0, 1) := by decide +kernel
theorem dX10_copy_28 : decode cX10_copy 28 = .ok (.getfield 13, 3) := by decide +kernel
theorem dX10_copy_31 : decode cX10_copy 31 = .ok (.iload_n 3, 1) := by decide +kernel
theorem dX10_copy_32 : decode cX10_copy 32 = .ok (.iaload, 1) := by decide +kernel
theorem dX10_copy_33 : decode cX10_copy 33 = .ok (.iconst (-1), 1) := by decide +kernel
theorem dX10_copy_34 : decode cX10_copy 34 = .ok (.if_icmp .ne 9, 3) := by decide +kernel
theorem dX10_copy_37 : decode cX10_copy 37 = .ok (.aload_n 0, 1) := by decide +kernel
theorem dX10_copy_38 : decode cX10_copy 38 = .ok (.iconst 1, 1) := by decide +kernel
theorem dX10_copy_39 : decode cX10_copy 39 = .ok (.invokevirtual 129, 3) := by decide +kernel
theorem dX10_copy_42 : decode cX10_copy 42 = .ok (.ireturn, 1) := by decide +kernel
theorem dX10_copy_43 : decode cX10_copy 43 = .ok (.aload_n 0, 1) := by decide +kernel
theorem dX10_copy_44 : decode cX10_copy 44 = .ok (.getfield 13, 3) := by decide +kernel
theorem dX10_copy_47 : decode cX10_copy 47 = .ok (.iload_n 1, 1) := by decide +kernel
theorem dX10_copy_48 : decode cX10_copy 48 = .ok (.iaload, 1) := by decide +kernel
theorem dX10_copy_49 : decode cX10_copy 49 = .ok (.aload_n 0, 1) := by decide +kernel
theorem dX10_copy_50 : decode cX10_copy 50 = .ok (.getfield 13, 3) := by decide +kernel
theorem dX10_copy_53 : decode cX10_copy 53 = .ok (.iload_n 3, 1) := by decide +kernel
theorem dX10_copy_54 : decode cX10_copy 54 = .ok (.iaload, 1) := by decide +kernel
theorem dX10_copy_55 : decode cX10_copy 55 = .ok (.if_icmp .eq 9, 3) := by decide +kernel
theorem dX10_copy_58 : decode cX10_copy 58 = .ok (.aload_n 0, 1) := by decide +kernel
theorem dX10_copy_59 : decode cX10_copy 59 = .ok (.iconst 4, 1) := by decide +kernel
theorem dX10_copy_60 : decode cX10_copy 60 = .ok (.invokevirtual 129, 3) := by decide +kernel
theorem dX10_copy_63 : decode cX10_copy 63 = .ok (.ireturn, 1) := by decide +kernel
theorem dX10_copy_64 : decode cX10_copy 64 = .ok (.iload_n 2, 1) := by decide +kernel
theorem dX10_copy_65 : decode cX10_copy 65 = .ok (.ifCond .lt 48, 3) := by decide +kernel
theorem dX10_copy_68 : decode cX10_copy 68 = .ok (.iload 4, 2) := by decide +kernel
theorem dX10_copy_70 : decode cX10_copy 70 = .ok (.ifCond .lt 43, 3) := by decide +kernel
theorem dX10_copy_73 : decode cX10_copy 73 = .ok (.iload 5, 2) := by decide +kernel
theorem dX10_copy_75 : decode cX10_copy 75 = .ok (.ifCond .lt 38, 3) := by decide +kernel
theorem dX10_copy_78 : decode cX10_copy 78 = .ok (.iload_n 2, 1) := by decide +kernel
theorem dX10_copy_79 : decode cX10_copy 79 = .ok (.i2l, 1) := by decide +kernel
theorem dX10_copy_80 : decode cX10_copy 80 = .ok (.iload 5, 2) := by decide +kernel
theorem dX10_copy_82 : decode cX10_copy 82 = .ok (.i2l, 1) := by decide +kernel
theorem dX10_copy_83 : decode cX10_copy 83 = .ok (.ladd, 1) := by decide +kernel
theorem dX10_copy_84 : decode cX10_copy 84 = .ok (.aload_n 0, 1) := by decide +kernel
theorem dX10_copy_85 : decode cX10_copy 85 = .ok (.getfield 16, 3) := by decide +kernel
theorem dX10_copy_88 : decode cX10_copy 88 = .ok (.iload_n 1, 1) := by decide +kernel
theorem dX10_copy_89 : decode cX10_copy 89 = .ok (.iaload, 1) := by decide +kernel
theorem dX10_copy_90 : decode cX10_copy 90 = .ok (.i2l, 1) := by decide +kernel
theorem dX10_copy_91 : decode cX10_copy 91 = .ok (.lcmp, 1) := by decide +kernel
theorem dX10_copy_92 : decode cX10_copy 92 = .ok (.ifCond .gt 21, 3) := by decide +kernel
theorem dX10_copy_95 : decode cX10_copy 95 = .ok (.iload 4, 2) := by decide +kernel
theorem dX10_copy_97 : decode cX10_copy 97 = .ok (.i2l, 1) := by decide +kernel
theorem dX10_copy_98 : decode cX10_copy 98 = .ok (.iload 5, 2) := by decide +kernel
theorem dX10_copy_100 : decode cX10_copy 100 = .ok (.i2l, 1) := by decide +kernel
theorem dX10_copy_101 : decode cX10_copy 101 = .ok (.ladd, 1) := by decide +kernel
theorem dX10_copy_102 : decode cX10_copy 102 = .ok (.aload_n 0, 1) := by decide +kernel
theorem dX10_copy_103 : decode cX10_copy 103 = .ok (.getfield 16, 3) := by decide +kernel
theorem dX10_copy_106 : decode cX10_copy 106 = .ok (.iload_n 3, 1) := by decide +kernel
theorem dX10_copy_107 : decode cX10_copy 107 = .ok (.iaload, 1) := by decide +kernel
theorem dX10_copy_108 : decode cX10_copy 108 = .ok (.i2l, 1) := by decide +kernel
theorem dX10_copy_109 : decode cX10_copy 109 = .ok (.lcmp, 1) := by decide +kernel
theorem dX10_copy_110 : decode cX10_copy 110 = .ok (.ifCond .le 9, 3) := by decide +kernel
theorem dX10_copy_113 : decode cX10_copy 113 = .ok (.aload_n 0, 1) := by decide +kernel
theorem dX10_copy_114 : decode cX10_copy 114 = .ok (.iconst 2, 1) := by decide +kernel
theorem dX10_copy_115 : decode cX10_copy 115 = .ok (.invokevirtual 129, 3) := by decide +kernel
theorem dX10_copy_118 : decode cX10_copy 118 = .ok (.ireturn, 1) := by decide +kernel
theorem dX10_copy_119 : decode cX10_copy 119 = .ok (.iconst 0, 1) := by decide +kernel
theorem dX10_copy_120 : decode cX10_copy 120 = .ok (.istore 6, 2) := by decide +kernel
theorem dX10_copy_122 : decode cX10_copy 122 = .ok (.iload 6, 2) := by decide +kernel
theorem dX10_copy_124 : decode cX10_copy 124 = .ok (.iload 5, 2) := by decide +kernel
theorem dX10_copy_126 : decode cX10_copy 126 = .ok (.if_icmp .ge 30, 3) := by decide +kernel
theorem dX10_copy_129 : decode cX10_copy 129 = .ok (.aload_n 0, 1) := by decide +kernel
theorem dX10_copy_130 : decode cX10_copy 130 = .ok (.getfield 23, 3) := by decide +kernel
theorem dX10_copy_133 : decode cX10_copy 133 = .ok (.iload 6, 2) := by decide +kernel
theorem dX10_copy_135 : decode cX10_copy 135 = .ok (.aload_n 0, 1) := by decide +kernel
theorem dX10_copy_136 : decode cX10_copy 136 = .ok (.getfield 19, 3) := by decide +kernel
theorem dX10_copy_139 : decode cX10_copy 139 = .ok (.bipush 60, 2) := by decide +kernel
theorem dX10_copy_141 : decode cX10_copy 141 = .ok (.iload_n 1, 1) := by decide +kernel
theorem dX10_copy_142 : decode cX10_copy 142 = .ok (.imul, 1) := by decide +kernel
theorem dX10_copy_143 : decode cX10_copy 143 = .ok (.iload_n 2, 1) := by decide +kernel
theorem dX10_copy_144 : decode cX10_copy 144 = .ok (.iadd, 1) := by decide +kernel
theorem dX10_copy_145 : decode cX10_copy 145 = .ok (.iload 6, 2) := by decide +kernel
theorem dX10_copy_147 : decode cX10_copy 147 = .ok (.iadd, 1) := by decide +kernel
theorem dX10_copy_148 : decode cX10_copy 148 = .ok (.laload, 1) := by decide +kernel
theorem dX10_copy_149 : decode cX10_copy 149 = .ok (.lastore, 1) := by decide +kernel
theorem dX10_copy_150 : decode cX10_copy 150 = .ok (.iinc 6 1, 3) := by decide +kernel
theorem dX10_copy_153 : decode cX10_copy 153 = .ok (.goto (-31), 3) := by decide +kernel
theorem dX10_copy_156 : decode cX10_copy 156 = .ok (.iconst 0, 1) := by decide +kernel
theorem dX10_copy_157 : decode cX10_copy 157 = .ok (.istore 6, 2) := by decide +kernel
theorem dX10_copy_159 : decode cX10_copy 159 = .ok (.iload 6, 2) := by decide +kernel
theorem dX10_copy_161 : decode cX10_copy 161 = .ok (.iload 5, 2) := by decide +kernel
theorem dX10_copy_163 : decode cX10_copy 163 = .ok (.if_icmp .ge 31, 3) := by decide +kernel
theorem dX10_copy_166 : decode cX10_copy 166 = .ok (.aload_n 0, 1) := by decide +kernel
theorem dX10_copy_167 : decode cX10_copy 167 = .ok (.getfield 19, 3) := by decide +kernel
theorem dX10_copy_170 : decode cX10_copy 170 = .ok (.bipush 60, 2) := by decide +kernel
theorem dX10_copy_172 : decode cX10_copy 172 = .ok (.iload_n 3, 1) := by decide +kernel
theorem dX10_copy_173 : decode cX10_copy 173 = .ok (.imul, 1) := by decide +kernel
theorem dX10_copy_174 : decode cX10_copy 174 = .ok (.iload 4, 2) := by decide +kernel
theorem dX10_copy_176 : decode cX10_copy 176 = .ok (.iadd, 1) := by decide +kernel
theorem dX10_copy_177 : decode cX10_copy 177 = .ok (.iload 6, 2) := by decide +kernel
theorem dX10_copy_179 : decode cX10_copy 179 = .ok (.iadd, 1) := by decide +kernel
theorem dX10_copy_180 : decode cX10_copy 180 = .ok (.aload_n 0, 1) := by decide +kernel
theorem dX10_copy_181 : decode cX10_copy 181 = .ok (.getfield 23, 3) := by decide +kernel
theorem dX10_copy_184 : decode cX10_copy 184 = .ok (.iload 6, 2) := by decide +kernel
theorem dX10_copy_186 : decode cX10_copy 186 = .ok (.laload, 1) := by decide +kernel
theorem dX10_copy_187 : decode cX10_copy 187 = .ok (.lastore, 1) := by decide +kernel
theorem dX10_copy_188 : decode cX10_copy 188 = .ok (.iinc 6 1, 3) := by decide +kernel
theorem dX10_copy_191 : decode cX10_copy 191 = .ok (.goto (-32), 3) := by decide +kernel
theorem dX10_copy_194 : decode cX10_copy 194 = .ok (.iconst 1, 1) := by decide +kernel
theorem dX10_copy_195 : decode cX10_copy 195 = .ok (.ireturn, 1) := by decide +kernel
theorem dX10_lose_0 : decode cX10_lose 0 = .ok (.iload_n 1, 1) := by decide +kernel
theorem dX10_lose_1 : decode cX10_lose 1 = .ok (.invokestatic 126, 3) := by decide +kernel
theorem dX10_lose_4 : decode cX10_lose 4 = .ok (.ifCond .ne 6, 3) := by decide +kernel
theorem dX10_lose_7 : decode cX10_lose 7 = .ok (.bipush (-101), 2) := by decide +kernel
theorem dX10_lose_9 : decode cX10_lose 9 = .ok (.ireturn, 1) := by decide +kernel
theorem dX10_lose_10 : decode cX10_lose 10 = .ok (.aload_n 0, 1) := by decide +kernel
theorem dX10_lose_11 : decode cX10_lose 11 = .ok (.getfield 13, 3) := by decide +kernel
theorem dX10_lose_14 : decode cX10_lose 14 = .ok (.iload_n 1, 1) := by decide +kernel
theorem dX10_lose_15 : decode cX10_lose 15 = .ok (.iaload, 1) := by decide +kernel
theorem dX10_lose_16 : decode cX10_lose 16 = .ok (.iconst (-1), 1) := by decide +kernel
theorem dX10_lose_17 : decode cX10_lose 17 = .ok (.if_icmp .ne 9, 3) := by decide +kernel
theorem dX10_lose_20 : decode cX10_lose 20 = .ok (.aload_n 0, 1) := by decide +kernel
theorem dX10_lose_21 : decode cX10_lose 21 = .ok (.iconst 1, 1) := by decide +kernel
theorem dX10_lose_22 : decode cX10_lose 22 = .ok (.invokevirtual 129, 3) := by decide +kernel
theorem dX10_lose_25 : decode cX10_lose 25 = .ok (.ireturn, 1) := by decide +kernel
theorem dX10_lose_26 : decode cX10_lose 26 = .ok (.aload_n 0, 1) := by decide +kernel
theorem dX10_lose_27 : decode cX10_lose 27 = .ok (.getfield 13, 3) := by decide +kernel
theorem dX10_lose_30 : decode cX10_lose 30 = .ok (.iload_n 1, 1) := by decide +kernel
theorem dX10_lose_31 : decode cX10_lose 31 = .ok (.iconst (-1), 1) := by decide +kernel
theorem dX10_lose_32 : decode cX10_lose 32 = .ok (.iastore, 1) := by decide +kernel
theorem dX10_lose_33 : decode cX10_lose 33 = .ok (.aload_n 0, 1) := by decide +kernel
theorem dX10_lose_34 : decode cX10_lose 34 = .ok (.getfield 16, 3) := by decide +kernel
theorem dX10_lose_37 : decode cX10_lose 37 = .ok (.iload_n 1, 1) := by decide +kernel
theorem dX10_lose_38 : decode cX10_lose 38 = .ok (.iaload, 1) := by decide +kernel
theorem dX10_lose_39 : decode cX10_lose 39 = .ok (.ireturn, 1) := by decide +kernel
theorem dX10_isSeries_0 : decode cX10_isSeries 0 = .ok (.iload_n 1, 1) := by decide +kernel
theorem dX10_isSeries_1 : decode cX10_isSeries 1 = .ok (.i2l, 1) := by decide +kernel
theorem dX10_isSeries_2 : decode cX10_isSeries 2 = .ok (.lconst 0, 1) := by decide +kernel
theorem dX10_isSeries_3 : decode cX10_isSeries 3 = .ok (.aload_n 0, 1) := by decide +kernel
theorem dX10_isSeries_4 : decode cX10_isSeries 4 = .ok (.getfield 115, 3) := by decide +kernel
theorem dX10_isSeries_7 : decode cX10_isSeries 7 = .ok (.iconst 1, 1) := by decide +kernel
theorem dX10_isSeries_8 : decode cX10_isSeries 8 = .ok (.isub, 1) := by decide +kernel
theorem dX10_isSeries_9 : decode cX10_isSeries 9 = .ok (.i2l, 1) := by decide +kernel
theorem dX10_isSeries_10 : decode cX10_isSeries 10 = .ok (.invokestatic 107, 3) := by decide +kernel
theorem dX10_isSeries_13 : decode cX10_isSeries 13 = .ok (.ireturn, 1) := by decide +kernel
theorem dX10_of_0 : decode cX10_of 0 = .ok (.aload_n 0, 1) := by decide +kernel
theorem dX10_of_1 : decode cX10_of 1 = .ok (.getfield 29, 3) := by decide +kernel
theorem dX10_of_4 : decode cX10_of 4 = .ok (.bipush 41, 2) := by decide +kernel
theorem dX10_of_6 : decode cX10_of 6 = .ok (.iload_n 1, 1) := by decide +kernel
theorem dX10_of_7 : decode cX10_of 7 = .ok (.imul, 1) := by decide +kernel
theorem dX10_of_8 : decode cX10_of 8 = .ok (.iload_n 2, 1) := by decide +kernel
theorem dX10_of_9 : decode cX10_of 9 = .ok (.iadd, 1) := by decide +kernel
theorem dX10_of_10 : decode cX10_of 10 = .ok (.iaload, 1) := by decide +kernel
theorem dX10_of_11 : decode cX10_of 11 = .ok (.ireturn, 1) := by decide +kernel
theorem dX10_comes_0 : decode cX10_comes 0 = .ok (.aload_n 0, 1) := by decide +kernel
theorem dX10_comes_1 : decode cX10_comes 1 = .ok (.getfield 115, 3) := by decide +kernel
theorem dX10_comes_4 : decode cX10_comes 4 = .ok (.bipush 10, 2) := by decide +kernel
theorem dX10_comes_6 : decode cX10_comes 6 = .ok (.if_icmp .ne 6, 3) := by decide +kernel
theorem dX10_comes_9 : decode cX10_comes 9 = .ok (.bipush (-104), 2) := by decide +kernel
theorem dX10_comes_11 : decode cX10_comes 11 = .ok (.ireturn, 1) := by decide +kernel
theorem dX10_comes_12 : decode cX10_comes 12 = .ok (.aload_n 0, 1) := by decide +kernel
theorem dX10_comes_13 : decode cX10_comes 13 = .ok (.getfield 26, 3) := by decide +kernel
theorem dX10_comes_16 : decode cX10_comes 16 = .ok (.aload_n 0, 1) := by decide +kernel
theorem dX10_comes_17 : decode cX10_comes 17 = .ok (.getfield 115, 3) := by decide +kernel
theorem dX10_comes_20 : decode cX10_comes 20 = .ok (.iload_n 1, 1) := by decide +kernel
theorem dX10_comes_21 : decode cX10_comes 21 = .ok (.iastore, 1) := by decide +kernel
theorem dX10_comes_22 : decode cX10_comes 22 = .ok (.iconst 0, 1) := by decide +kernel
theorem dX10_comes_23 : decode cX10_comes 23 = .ok (.istore_n 2, 1) := by decide +kernel
theorem dX10_comes_24 : decode cX10_comes 24 = .ok (.iload_n 2, 1) := by decide +kernel
theorem dX10_comes_25 : decode cX10_comes 25 = .ok (.iload_n 1, 1) := by decide +kernel
theorem dX10_comes_26 : decode cX10_comes 26 = .ok (.if_icmp .gt 29, 3) := by decide +kernel
theorem dX10_comes_29 : decode cX10_comes 29 = .ok (.aload_n 0, 1) := by decide +kernel
theorem dX10_comes_30 : decode cX10_comes 30 = .ok (.getfield 29, 3) := by decide +kernel
theorem dX10_comes_33 : decode cX10_comes 33 = .ok (.bipush 41, 2) := by decide +kernel
theorem dX10_comes_35 : decode cX10_comes 35 = .ok (.aload_n 0, 1) := by decide +kernel
theorem dX10_comes_36 : decode cX10_comes 36 = .ok (.getfield 115, 3) := by decide +kernel
theorem dX10_comes_39 : decode cX10_comes 39 = .ok (.imul, 1) := by decide +kernel
theorem dX10_comes_40 : decode cX10_comes 40 = .ok (.iload_n 2, 1) := by decide +kernel
theorem dX10_comes_41 : decode cX10_comes 41 = .ok (.iadd, 1) := by decide +kernel
theorem dX10_comes_42 : decode cX10_comes 42 = .ok (.aload_n 0, 1) := by decide +kernel
theorem dX10_comes_43 : decode cX10_comes 43 = .ok (.getfield 32, 3) := by decide +kernel
theorem dX10_comes_46 : decode cX10_comes 46 = .ok (.iload_n 2, 1) := by decide +kernel
theorem dX10_comes_47 : decode cX10_comes 47 = .ok (.iaload, 1) := by decide +kernel
theorem dX10_comes_48 : decode cX10_comes 48 = .ok (.iastore, 1) := by decide +kernel
theorem dX10_comes_49 : decode cX10_comes 49 = .ok (.iinc 2 1, 3) := by decide +kernel
theorem dX10_comes_52 : decode cX10_comes 52 = .ok (.goto (-28), 3) := by decide +kernel
theorem dX10_comes_55 : decode cX10_comes 55 = .ok (.aload_n 0, 1) := by decide +kernel
theorem dX10_comes_56 : decode cX10_comes 56 = .ok (.dup, 1) := by decide +kernel
theorem dX10_comes_57 : decode cX10_comes 57 = .ok (.getfield 115, 3) := by decide +kernel
theorem dX10_comes_60 : decode cX10_comes 60 = .ok (.iconst 1, 1) := by decide +kernel
theorem dX10_comes_61 : decode cX10_comes 61 = .ok (.iadd, 1) := by decide +kernel
theorem dX10_comes_62 : decode cX10_comes 62 = .ok (.putfield 115, 3) := by decide +kernel
theorem dX10_comes_65 : decode cX10_comes 65 = .ok (.aload_n 0, 1) := by decide +kernel
theorem dX10_comes_66 : decode cX10_comes 66 = .ok (.getfield 115, 3) := by decide +kernel
theorem dX10_comes_69 : decode cX10_comes 69 = .ok (.iconst 1, 1) := by decide +kernel
theorem dX10_comes_70 : decode cX10_comes 70 = .ok (.isub, 1) := by decide +kernel
theorem dX10_comes_71 : decode cX10_comes 71 = .ok (.ireturn, 1) := by decide +kernel
theorem dX10_series_0 : decode cX10_series 0 = .ok (.iload_n 1, 1) := by decide +kernel
theorem dX10_series_1 : decode cX10_series 1 = .ok (.invokestatic 126, 3) := by decide +kernel
theorem dX10_series_4 : decode cX10_series 4 = .ok (.ifCond .ne 6, 3) := by decide +kernel
theorem dX10_series_7 : decode cX10_series 7 = .ok (.bipush (-101), 2) := by decide +kernel
theorem dX10_series_9 : decode cX10_series 9 = .ok (.ireturn, 1) := by decide +kernel
theorem dX10_series_10 : decode cX10_series 10 = .ok (.iload_n 3, 1) := by decide +kernel
theorem dX10_series_11 : decode cX10_series 11 = .ok (.i2l, 1) := by decide +kernel
theorem dX10_series_12 : decode cX10_series 12 = .ok (.lconst 0, 1) := by decide +kernel
theorem dX10_series_13 : decode cX10_series 13 = .ok (.ldc2_w 133, 3) := by decide +kernel
theorem dX10_series_16 : decode cX10_series 16 = .ok (.invokestatic 107, 3) := by decide +kernel
theorem dX10_series_19 : decode cX10_series 19 = .ok (.ifCond .ne 6, 3) := by decide +kernel
theorem dX10_series_22 : decode cX10_series 22 = .ok (.bipush (-102), 2) := by decide +kernel
theorem dX10_series_24 : decode cX10_series 24 = .ok (.ireturn, 1) := by decide +kernel
theorem dX10_series_25 : decode cX10_series 25 = .ok (.aload_n 0, 1) := by decide +kernel
theorem dX10_series_26 : decode cX10_series 26 = .ok (.getfield 13, 3) := by decide +kernel
theorem dX10_series_29 : decode cX10_series 29 = .ok (.iload_n 1, 1) := by decide +kernel
theorem dX10_series_30 : decode cX10_series 30 = .ok (.iaload, 1) := by decide +kernel
theorem dX10_series_31 : decode cX10_series 31 = .ok (.iconst (-1), 1) := by decide +kernel
theorem dX10_series_32 : decode cX10_series 32 = .ok (.if_icmp .ne 9, 3) := by decide +kernel
theorem dX10_series_35 : decode cX10_series 35 = .ok (.aload_n 0, 1) := by decide +kernel
theorem dX10_series_36 : decode cX10_series 36 = .ok (.iconst 1, 1) := by decide +kernel
theorem dX10_series_37 : decode cX10_series 37 = .ok (.invokevirtual 129, 3) := by decide +kernel
theorem dX10_series_40 : decode cX10_series 40 = .ok (.ireturn, 1) := by decide +kernel
theorem dX10_series_41 : decode cX10_series 41 = .ok (.iload_n 2, 1) := by decide +kernel
theorem dX10_series_42 : decode cX10_series 42 = .ok (.ifCond .lt 21, 3) := by decide +kernel
theorem dX10_series_45 : decode cX10_series 45 = .ok (.iload_n 2, 1) := by decide +kernel
theorem dX10_series_46 : decode cX10_series 46 = .ok (.i2l, 1) := by decide +kernel
theorem dX10_series_47 : decode cX10_series 47 = .ok (.iload_n 3, 1) := by decide +kernel
theorem dX10_series_48 : decode cX10_series 48 = .ok (.i2l, 1) := by decide +kernel
theorem dX10_series_49 : decode cX10_series 49 = .ok (.ladd, 1) := by decide +kernel
theorem dX10_series_50 : decode cX10_series 50 = .ok (.lconst 1, 1) := by decide +kernel
theorem dX10_series_51 : decode cX10_series 51 = .ok (.ladd, 1) := by decide +kernel
theorem dX10_series_52 : decode cX10_series 52 = .ok (.aload_n 0, 1) := by decide +kernel
theorem dX10_series_53 : decode cX10_series 53 = .ok (.getfield 16, 3) := by decide +kernel
theorem dX10_series_56 : decode cX10_series 56 = .ok (.iload_n 1, 1) := by decide +kernel
theorem dX10_series_57 : decode cX10_series 57 = .ok (.iaload, 1) := by decide +kernel
theorem dX10_series_58 : decode cX10_series 58 = .ok (.i2l, 1) := by decide +kernel
theorem dX10_series_59 : decode cX10_series 59 = .ok (.lcmp, 1) := by decide +kernel
theorem dX10_series_60 : decode cX10_series 60 = .ok (.ifCond .le 9, 3) := by decide +kernel
theorem dX10_series_63 : decode cX10_series 63 = .ok (.aload_n 0, 1) := by decide +kernel
theorem dX10_series_64 : decode cX10_series 64 = .ok (.iconst 2, 1) := by decide +kernel
theorem dX10_series_65 : decode cX10_series 65 = .ok (.invokevirtual 129, 3) := by decide +kernel
theorem dX10_series_68 : decode cX10_series 68 = .ok (.ireturn, 1) := by decide +kernel
theorem dX10_series_69 : decode cX10_series 69 = .ok (.iconst 0, 1) := by decide +kernel
theorem dX10_series_70 : decode cX10_series 70 = .ok (.istore 4, 2) := by decide +kernel
theorem dX10_series_72 : decode cX10_series 72 = .ok (.iload 4, 2) := by decide +kernel
theorem dX10_series_74 : decode cX10_series 74 = .ok (.iload_n 3, 1) := by decide +kernel
theorem dX10_series_75 : decode cX10_series 75 = .ok (.if_icmp .gt 34, 3) := by decide +kernel
theorem dX10_series_78 : decode cX10_series 78 = .ok (.aload_n 0, 1) := by decide +kernel
theorem dX10_series_79 : decode cX10_series 79 = .ok (.getfield 32, 3) := by decide +kernel
theorem dX10_series_82 : decode cX10_series 82 = .ok (.iload 4, 2) := by decide +kernel
theorem dX10_series_84 : decode cX10_series 84 = .ok (.aload_n 0, 1) := by decide +kernel
theorem dX10_series_85 : decode cX10_series 85 = .ok (.aload_n 0, 1) := by decide +kernel
theorem dX10_series_86 : decode cX10_series 86 = .ok (.getfield 19, 3) := by decide +kernel
theorem dX10_series_89 : decode cX10_series 89 = .ok (.bipush 60, 2) := by decide +kernel
theorem dX10_series_91 : decode cX10_series 91 = .ok (.iload_n 1, 1) := by decide +kernel
theorem dX10_series_92 : decode cX10_series 92 = .ok (.imul, 1) := by decide +kernel
theorem dX10_series_93 : decode cX10_series 93 = .ok (.iload_n 2, 1) := by decide +kernel
theorem dX10_series_94 : decode cX10_series 94 = .ok (.iadd, 1) := by decide +kernel
theorem dX10_series_95 : decode cX10_series 95 = .ok (.iload 4, 2) := by decide +kernel
theorem dX10_series_97 : decode cX10_series 97 = .ok (.iadd, 1) := by decide +kernel
theorem dX10_series_98 : decode cX10_series 98 = .ok (.laload, 1) := by decide +kernel
theorem dX10_series_99 : decode cX10_series 99 = .ok (.invokevirtual 135, 3) := by decide +kernel
theorem dX10_series_102 : decode cX10_series 102 = .ok (.iastore, 1) := by decide +kernel
theorem dX10_series_103 : decode cX10_series 103 = .ok (.iinc 4 1, 3) := by decide +kernel
theorem dX10_series_106 : decode cX10_series 106 = .ok (.goto (-34), 3) := by decide +kernel
theorem dX10_series_109 : decode cX10_series 109 = .ok (.aload_n 0, 1) := by decide +kernel
theorem dX10_series_110 : decode cX10_series 110 = .ok (.iload_n 3, 1) := by decide +kernel
theorem dX10_series_111 : decode cX10_series 111 = .ok (.invokevirtual 139, 3) := by decide +kernel
theorem dX10_series_114 : decode cX10_series 114 = .ok (.ireturn, 1) := by decide +kernel
end
section
theorem dX10_unfoldTo_0 : decode cX10_unfoldTo 0 = .ok (.aload_n 0, 1) := by decide +kernel
theorem dX10_unfoldTo_1 : decode cX10_unfoldTo 1 = .ok (.aload_n 0, 1) := by decide +kernel
theorem dX10_unfoldTo_2 : decode cX10_unfoldTo 2 = .ok (.getfield 38, 3) := by decide +kernel
theorem dX10_unfoldTo_5 : decode cX10_unfoldTo 5 = .ok (.iconst 0, 1) := by decide +kernel
theorem dX10_unfoldTo_6 : decode cX10_unfoldTo 6 = .ok (.iaload, 1) := by decide +kernel
theorem dX10_unfoldTo_7 : decode cX10_unfoldTo 7 = .ok (.invokevirtual 142, 3) := by decide +kernel
theorem dX10_unfoldTo_10 : decode cX10_unfoldTo 10 = .ok (.istore_n 3, 1) := by decide +kernel
theorem dX10_unfoldTo_11 : decode cX10_unfoldTo 11 = .ok (.iconst 0, 1) := by decide +kernel
theorem dX10_unfoldTo_12 : decode cX10_unfoldTo 12 = .ok (.istore 4, 2) := by decide +kernel
theorem dX10_unfoldTo_14 : decode cX10_unfoldTo 14 = .ok (.iload 4, 2) := by decide +kernel
theorem dX10_unfoldTo_16 : decode cX10_unfoldTo 16 = .ok (.iload_n 2, 1) := by decide +kernel
theorem dX10_unfoldTo_17 : decode cX10_unfoldTo 17 = .ok (.if_icmp .gt 78, 3) := by decide +kernel
theorem dX10_unfoldTo_20 : decode cX10_unfoldTo 20 = .ok (.aload_n 0, 1) := by decide +kernel
theorem dX10_unfoldTo_21 : decode cX10_unfoldTo 21 = .ok (.getfield 35, 3) := by decide +kernel
theorem dX10_unfoldTo_24 : decode cX10_unfoldTo 24 = .ok (.iload 4, 2) := by decide +kernel
theorem dX10_unfoldTo_26 : decode cX10_unfoldTo 26 = .ok (.iaload, 1) := by decide +kernel
theorem dX10_unfoldTo_27 : decode cX10_unfoldTo 27 = .ok (.i2l, 1) := by decide +kernel
theorem dX10_unfoldTo_28 : decode cX10_unfoldTo 28 = .ok (.lstore 5, 2) := by decide +kernel
theorem dX10_unfoldTo_30 : decode cX10_unfoldTo 30 = .ok (.iconst 1, 1) := by decide +kernel
theorem dX10_unfoldTo_31 : decode cX10_unfoldTo 31 = .ok (.istore 7, 2) := by decide +kernel
theorem dX10_unfoldTo_33 : decode cX10_unfoldTo 33 = .ok (.iload 7, 2) := by decide +kernel
theorem dX10_unfoldTo_35 : decode cX10_unfoldTo 35 = .ok (.iload 4, 2) := by decide +kernel
theorem dX10_unfoldTo_37 : decode cX10_unfoldTo 37 = .ok (.if_icmp .gt 37, 3) := by decide +kernel
theorem dX10_unfoldTo_40 : decode cX10_unfoldTo 40 = .ok (.lload 5, 2) := by decide +kernel
theorem dX10_unfoldTo_42 : decode cX10_unfoldTo 42 = .ok (.aload_n 0, 1) := by decide +kernel
theorem dX10_unfoldTo_43 : decode cX10_unfoldTo 43 = .ok (.getfield 38, 3) := by decide +kernel
theorem dX10_unfoldTo_46 : decode cX10_unfoldTo 46 = .ok (.iload 7, 2) := by decide +kernel
theorem dX10_unfoldTo_48 : decode cX10_unfoldTo 48 = .ok (.iaload, 1) := by decide +kernel
theorem dX10_unfoldTo_49 : decode cX10_unfoldTo 49 = .ok (.i2l, 1) := by decide +kernel
theorem dX10_unfoldTo_50 : decode cX10_unfoldTo 50 = .ok (.aload_n 1, 1) := by decide +kernel
theorem dX10_unfoldTo_51 : decode cX10_unfoldTo 51 = .ok (.iload 4, 2) := by decide +kernel
theorem dX10_unfoldTo_53 : decode cX10_unfoldTo 53 = .ok (.iload 7, 2) := by decide +kernel
theorem dX10_unfoldTo_55 : decode cX10_unfoldTo 55 = .ok (.isub, 1) := by decide +kernel
theorem dX10_unfoldTo_56 : decode cX10_unfoldTo 56 = .ok (.iaload, 1) := by decide +kernel
theorem dX10_unfoldTo_57 : decode cX10_unfoldTo 57 = .ok (.i2l, 1) := by decide +kernel
theorem dX10_unfoldTo_58 : decode cX10_unfoldTo 58 = .ok (.lmul, 1) := by decide +kernel
theorem dX10_unfoldTo_59 : decode cX10_unfoldTo 59 = .ok (.aload_n 0, 1) := by decide +kernel
theorem dX10_unfoldTo_60 : decode cX10_unfoldTo 60 = .ok (.getfield 92, 3) := by decide +kernel
theorem dX10_unfoldTo_63 : decode cX10_unfoldTo 63 = .ok (.i2l, 1) := by decide +kernel
theorem dX10_unfoldTo_64 : decode cX10_unfoldTo 64 = .ok (.lrem, 1) := by decide +kernel
theorem dX10_unfoldTo_65 : decode cX10_unfoldTo 65 = .ok (.lsub, 1) := by decide +kernel
theorem dX10_unfoldTo_66 : decode cX10_unfoldTo 66 = .ok (.lstore 5, 2) := by decide +kernel
theorem dX10_unfoldTo_68 : decode cX10_unfoldTo 68 = .ok (.iinc 7 1, 3) := by decide +kernel
theorem dX10_unfoldTo_71 : decode cX10_unfoldTo 71 = .ok (.goto (-38), 3) := by decide +kernel
theorem dX10_unfoldTo_74 : decode cX10_unfoldTo 74 = .ok (.aload_n 1, 1) := by decide +kernel
theorem dX10_unfoldTo_75 : decode cX10_unfoldTo 75 = .ok (.iload 4, 2) := by decide +kernel
theorem dX10_unfoldTo_77 : decode cX10_unfoldTo 77 = .ok (.aload_n 0, 1) := by decide +kernel
theorem dX10_unfoldTo_78 : decode cX10_unfoldTo 78 = .ok (.aload_n 0, 1) := by decide +kernel
theorem dX10_unfoldTo_79 : decode cX10_unfoldTo 79 = .ok (.lload 5, 2) := by decide +kernel
theorem dX10_unfoldTo_81 : decode cX10_unfoldTo 81 = .ok (.invokevirtual 135, 3) := by decide +kernel
theorem dX10_unfoldTo_84 : decode cX10_unfoldTo 84 = .ok (.iload_n 3, 1) := by decide +kernel
theorem dX10_unfoldTo_85 : decode cX10_unfoldTo 85 = .ok (.invokevirtual 99, 3) := by decide +kernel
theorem dX10_unfoldTo_88 : decode cX10_unfoldTo 88 = .ok (.iastore, 1) := by decide +kernel
theorem dX10_unfoldTo_89 : decode cX10_unfoldTo 89 = .ok (.iinc 4 1, 3) := by decide +kernel
theorem dX10_unfoldTo_92 : decode cX10_unfoldTo 92 = .ok (.goto (-78), 3) := by decide +kernel
theorem dX10_unfoldTo_95 : decode cX10_unfoldTo 95 = .ok (.return_, 1) := by decide +kernel
theorem dX10_clearWork_0 : decode cX10_clearWork 0 = .ok (.iconst 0, 1) := by decide +kernel
theorem dX10_clearWork_1 : decode cX10_clearWork 1 = .ok (.istore_n 1, 1) := by decide +kernel
theorem dX10_clearWork_2 : decode cX10_clearWork 2 = .ok (.iload_n 1, 1) := by decide +kernel
theorem dX10_clearWork_3 : decode cX10_clearWork 3 = .ok (.bipush 90, 2) := by decide +kernel
theorem dX10_clearWork_5 : decode cX10_clearWork 5 = .ok (.if_icmp .ge 23, 3) := by decide +kernel
theorem dX10_clearWork_8 : decode cX10_clearWork 8 = .ok (.aload_n 0, 1) := by decide +kernel
theorem dX10_clearWork_9 : decode cX10_clearWork 9 = .ok (.getfield 35, 3) := by decide +kernel
theorem dX10_clearWork_12 : decode cX10_clearWork 12 = .ok (.iload_n 1, 1) := by decide +kernel
theorem dX10_clearWork_13 : decode cX10_clearWork 13 = .ok (.iconst 0, 1) := by decide +kernel
theorem dX10_clearWork_14 : decode cX10_clearWork 14 = .ok (.iastore, 1) := by decide +kernel
theorem dX10_clearWork_15 : decode cX10_clearWork 15 = .ok (.aload_n 0, 1) := by decide +kernel
theorem dX10_clearWork_16 : decode cX10_clearWork 16 = .ok (.getfield 38, 3) := by decide +kernel
theorem dX10_clearWork_19 : decode cX10_clearWork 19 = .ok (.iload_n 1, 1) := by decide +kernel
theorem dX10_clearWork_20 : decode cX10_clearWork 20 = .ok (.iconst 0, 1) := by decide +kernel
theorem dX10_clearWork_21 : decode cX10_clearWork 21 = .ok (.iastore, 1) := by decide +kernel
theorem dX10_clearWork_22 : decode cX10_clearWork 22 = .ok (.iinc 1 1, 3) := by decide +kernel
theorem dX10_clearWork_25 : decode cX10_clearWork 25 = .ok (.goto (-23), 3) := by decide +kernel
theorem dX10_clearWork_28 : decode cX10_clearWork 28 = .ok (.return_, 1) := by decide +kernel
theorem dX10_share_0 : decode cX10_share 0 = .ok (.iload_n 1, 1) := by decide +kernel
theorem dX10_share_1 : decode cX10_share 1 = .ok (.invokestatic 126, 3) := by decide +kernel
theorem dX10_share_4 : decode cX10_share 4 = .ok (.ifCond .ne 6, 3) := by decide +kernel
theorem dX10_share_7 : decode cX10_share 7 = .ok (.bipush (-101), 2) := by decide +kernel
theorem dX10_share_9 : decode cX10_share 9 = .ok (.ireturn, 1) := by decide +kernel
theorem dX10_share_10 : decode cX10_share 10 = .ok (.iload_n 3, 1) := by decide +kernel
theorem dX10_share_11 : decode cX10_share 11 = .ok (.i2l, 1) := by decide +kernel
theorem dX10_share_12 : decode cX10_share 12 = .ok (.lconst 0, 1) := by decide +kernel
theorem dX10_share_13 : decode cX10_share 13 = .ok (.ldc2_w 133, 3) := by decide +kernel
theorem dX10_share_16 : decode cX10_share 16 = .ok (.invokestatic 107, 3) := by decide +kernel
theorem dX10_share_19 : decode cX10_share 19 = .ok (.ifCond .eq 29, 3) := by decide +kernel
theorem dX10_share_22 : decode cX10_share 22 = .ok (.iload 4, 2) := by decide +kernel
theorem dX10_share_24 : decode cX10_share 24 = .ok (.i2l, 1) := by decide +kernel
theorem dX10_share_25 : decode cX10_share 25 = .ok (.lconst 0, 1) := by decide +kernel
theorem dX10_share_26 : decode cX10_share 26 = .ok (.ldc2_w 133, 3) := by decide +kernel
theorem dX10_share_29 : decode cX10_share 29 = .ok (.invokestatic 107, 3) := by decide +kernel
theorem dX10_share_32 : decode cX10_share 32 = .ok (.ifCond .eq 16, 3) := by decide +kernel
theorem dX10_share_35 : decode cX10_share 35 = .ok (.iload 5, 2) := by decide +kernel
theorem dX10_share_37 : decode cX10_share 37 = .ok (.i2l, 1) := by decide +kernel
theorem dX10_share_38 : decode cX10_share 38 = .ok (.lconst 0, 1) := by decide +kernel
theorem dX10_share_39 : decode cX10_share 39 = .ok (.ldc2_w 133, 3) := by decide +kernel
theorem dX10_share_42 : decode cX10_share 42 = .ok (.invokestatic 107, 3) := by decide +kernel
theorem dX10_share_45 : decode cX10_share 45 = .ok (.ifCond .ne 6, 3) := by decide +kernel
theorem dX10_share_48 : decode cX10_share 48 = .ok (.bipush (-102), 2) := by decide +kernel
theorem dX10_share_50 : decode cX10_share 50 = .ok (.ireturn, 1) := by decide +kernel
theorem dX10_share_51 : decode cX10_share 51 = .ok (.aload_n 0, 1) := by decide +kernel
theorem dX10_share_52 : decode cX10_share 52 = .ok (.getfield 13, 3) := by decide +kernel
theorem dX10_share_55 : decode cX10_share 55 = .ok (.iload_n 1, 1) := by decide +kernel
theorem dX10_share_56 : decode cX10_share 56 = .ok (.iaload, 1) := by decide +kernel
theorem dX10_share_57 : decode cX10_share 57 = .ok (.iconst (-1), 1) := by decide +kernel
theorem dX10_share_58 : decode cX10_share 58 = .ok (.if_icmp .ne 9, 3) := by decide +kernel
theorem dX10_share_61 : decode cX10_share 61 = .ok (.aload_n 0, 1) := by decide +kernel
theorem dX10_share_62 : decode cX10_share 62 = .ok (.iconst 1, 1) := by decide +kernel
theorem dX10_share_63 : decode cX10_share 63 = .ok (.invokevirtual 129, 3) := by decide +kernel
theorem dX10_share_66 : decode cX10_share 66 = .ok (.ireturn, 1) := by decide +kernel
theorem dX10_share_67 : decode cX10_share 67 = .ok (.iload_n 2, 1) := by decide +kernel
theorem dX10_share_68 : decode cX10_share 68 = .ok (.ifCond .lt 27, 3) := by decide +kernel
theorem dX10_share_71 : decode cX10_share 71 = .ok (.iload_n 2, 1) := by decide +kernel
theorem dX10_share_72 : decode cX10_share 72 = .ok (.i2l, 1) := by decide +kernel
theorem dX10_share_73 : decode cX10_share 73 = .ok (.iload_n 3, 1) := by decide +kernel
theorem dX10_share_74 : decode cX10_share 74 = .ok (.i2l, 1) := by decide +kernel
theorem dX10_share_75 : decode cX10_share 75 = .ok (.ladd, 1) := by decide +kernel
theorem dX10_share_76 : decode cX10_share 76 = .ok (.iload 4, 2) := by decide +kernel
theorem dX10_share_78 : decode cX10_share 78 = .ok (.i2l, 1) := by decide +kernel
theorem dX10_share_79 : decode cX10_share 79 = .ok (.ladd, 1) := by decide +kernel
theorem dX10_share_80 : decode cX10_share 80 = .ok (.ldc2_w 103, 3) := by decide +kernel
theorem dX10_share_83 : decode cX10_share 83 = .ok (.ladd, 1) := by decide +kernel
theorem dX10_share_84 : decode cX10_share 84 = .ok (.aload_n 0, 1) := by decide +kernel
theorem dX10_share_85 : decode cX10_share 85 = .ok (.getfield 16, 3) := by decide +kernel
theorem dX10_share_88 : decode cX10_share 88 = .ok (.iload_n 1, 1) := by decide +kernel
theorem dX10_share_89 : decode cX10_share 89 = .ok (.iaload, 1) := by decide +kernel
theorem dX10_share_90 : decode cX10_share 90 = .ok (.i2l, 1) := by decide +kernel
theorem dX10_share_91 : decode cX10_share 91 = .ok (.lcmp, 1) := by decide +kernel
theorem dX10_share_92 : decode cX10_share 92 = .ok (.ifCond .le 9, 3) := by decide +kernel
theorem dX10_share_95 : decode cX10_share 95 = .ok (.aload_n 0, 1) := by decide +kernel
theorem dX10_share_96 : decode cX10_share 96 = .ok (.iconst 2, 1) := by decide +kernel
theorem dX10_share_97 : decode cX10_share 97 = .ok (.invokevirtual 129, 3) := by decide +kernel
theorem dX10_share_100 : decode cX10_share 100 = .ok (.ireturn, 1) := by decide +kernel
theorem dX10_share_101 : decode cX10_share 101 = .ok (.aload_n 0, 1) := by decide +kernel
theorem dX10_share_102 : decode cX10_share 102 = .ok (.invokevirtual 145, 3) := by decide +kernel
theorem dX10_share_105 : decode cX10_share 105 = .ok (.iconst 0, 1) := by decide +kernel
theorem dX10_share_106 : decode cX10_share 106 = .ok (.istore 6, 2) := by decide +kernel
theorem dX10_share_108 : decode cX10_share 108 = .ok (.iload 6, 2) := by decide +kernel
theorem dX10_share_110 : decode cX10_share 110 = .ok (.iload_n 3, 1) := by decide +kernel
theorem dX10_share_111 : decode cX10_share 111 = .ok (.if_icmp .gt 34, 3) := by decide +kernel
theorem dX10_share_114 : decode cX10_share 114 = .ok (.aload_n 0, 1) := by decide +kernel
theorem dX10_share_115 : decode cX10_share 115 = .ok (.getfield 35, 3) := by decide +kernel
theorem dX10_share_118 : decode cX10_share 118 = .ok (.iload 6, 2) := by decide +kernel
theorem dX10_share_120 : decode cX10_share 120 = .ok (.aload_n 0, 1) := by decide +kernel
theorem dX10_share_121 : decode cX10_share 121 = .ok (.aload_n 0, 1) := by decide +kernel
theorem dX10_share_122 : decode cX10_share 122 = .ok (.getfield 19, 3) := by decide +kernel
theorem dX10_share_125 : decode cX10_share 125 = .ok (.bipush 60, 2) := by decide +kernel
theorem dX10_share_127 : decode cX10_share 127 = .ok (.iload_n 1, 1) := by decide +kernel
theorem dX10_share_128 : decode cX10_share 128 = .ok (.imul, 1) := by decide +kernel
theorem dX10_share_129 : decode cX10_share 129 = .ok (.iload_n 2, 1) := by decide +kernel
theorem dX10_share_130 : decode cX10_share 130 = .ok (.iadd, 1) := by decide +kernel
theorem dX10_share_131 : decode cX10_share 131 = .ok (.iload 6, 2) := by decide +kernel
theorem dX10_share_133 : decode cX10_share 133 = .ok (.iadd, 1) := by decide +kernel
theorem dX10_share_134 : decode cX10_share 134 = .ok (.laload, 1) := by decide +kernel
theorem dX10_share_135 : decode cX10_share 135 = .ok (.invokevirtual 135, 3) := by decide +kernel
theorem dX10_share_138 : decode cX10_share 138 = .ok (.iastore, 1) := by decide +kernel
theorem dX10_share_139 : decode cX10_share 139 = .ok (.iinc 6 1, 3) := by decide +kernel
theorem dX10_share_142 : decode cX10_share 142 = .ok (.goto (-34), 3) := by decide +kernel
theorem dX10_share_145 : decode cX10_share 145 = .ok (.iconst 0, 1) := by decide +kernel
theorem dX10_share_146 : decode cX10_share 146 = .ok (.istore 6, 2) := by decide +kernel
theorem dX10_share_148 : decode cX10_share 148 = .ok (.iload 6, 2) := by decide +kernel
theorem dX10_share_150 : decode cX10_share 150 = .ok (.iload 4, 2) := by decide +kernel
theorem dX10_share_152 : decode cX10_share 152 = .ok (.if_icmp .gt 38, 3) := by decide +kernel
theorem dX10_share_155 : decode cX10_share 155 = .ok (.aload_n 0, 1) := by decide +kernel
theorem dX10_share_156 : decode cX10_share 156 = .ok (.getfield 38, 3) := by decide +kernel
theorem dX10_share_159 : decode cX10_share 159 = .ok (.iload 6, 2) := by decide +kernel
theorem dX10_share_161 : decode cX10_share 161 = .ok (.aload_n 0, 1) := by decide +kernel
theorem dX10_share_162 : decode cX10_share 162 = .ok (.aload_n 0, 1) := by decide +kernel
theorem dX10_share_163 : decode cX10_share 163 = .ok (.getfield 19, 3) := by decide +kernel
theorem dX10_share_166 : decode cX10_share 166 = .ok (.bipush 60, 2) := by decide +kernel
theorem dX10_share_168 : decode cX10_share 168 = .ok (.iload_n 1, 1) := by decide +kernel
theorem dX10_share_169 : decode cX10_share 169 = .ok (.imul, 1) := by decide +kernel
theorem dX10_share_170 : decode cX10_share 170 = .ok (.iload_n 2, 1) := by decide +kernel
theorem dX10_share_171 : decode cX10_share 171 = .ok (.iadd, 1) := by decide +kernel
theorem dX10_share_172 : decode cX10_share 172 = .ok (.iload_n 3, 1) := by decide +kernel
theorem dX10_share_173 : decode cX10_share 173 = .ok (.iadd, 1) := by decide +kernel
theorem dX10_share_174 : decode cX10_share 174 = .ok (.iconst 1, 1) := by decide +kernel
theorem dX10_share_175 : decode cX10_share 175 = .ok (.iadd, 1) := by decide +kernel
theorem dX10_share_176 : decode cX10_share 176 = .ok (.iload 6, 2) := by decide +kernel
theorem dX10_share_178 : decode cX10_share 178 = .ok (.iadd, 1) := by decide +kernel
theorem dX10_share_179 : decode cX10_share 179 = .ok (.laload, 1) := by decide +kernel
theorem dX10_share_180 : decode cX10_share 180 = .ok (.invokevirtual 135, 3) := by decide +kernel
theorem dX10_share_183 : decode cX10_share 183 = .ok (.iastore, 1) := by decide +kernel
theorem dX10_share_184 : decode cX10_share 184 = .ok (.iinc 6 1, 3) := by decide +kernel
theorem dX10_share_187 : decode cX10_share 187 = .ok (.goto (-39), 3) := by decide +kernel
theorem dX10_share_190 : decode cX10_share 190 = .ok (.aload_n 0, 1) := by decide +kernel
theorem dX10_share_191 : decode cX10_share 191 = .ok (.getfield 38, 3) := by decide +kernel
theorem dX10_share_194 : decode cX10_share 194 = .ok (.iconst 0, 1) := by decide +kernel
theorem dX10_share_195 : decode cX10_share 195 = .ok (.iaload, 1) := by decide +kernel
theorem dX10_share_196 : decode cX10_share 196 = .ok (.ifCond .ne 9, 3) := by decide +kernel
theorem dX10_share_199 : decode cX10_share 199 = .ok (.aload_n 0, 1) := by decide +kernel
theorem dX10_share_200 : decode cX10_share 200 = .ok (.iconst 5, 1) := by decide +kernel
theorem dX10_share_201 : decode cX10_share 201 = .ok (.invokevirtual 129, 3) := by decide +kernel
theorem dX10_share_204 : decode cX10_share 204 = .ok (.ireturn, 1) := by decide +kernel
theorem dX10_share_205 : decode cX10_share 205 = .ok (.aload_n 0, 1) := by decide +kernel
theorem dX10_share_206 : decode cX10_share 206 = .ok (.aload_n 0, 1) := by decide +kernel
theorem dX10_share_207 : decode cX10_share 207 = .ok (.getfield 32, 3) := by decide +kernel
theorem dX10_share_210 : decode cX10_share 210 = .ok (.iload 5, 2) := by decide +kernel
theorem dX10_share_212 : decode cX10_share 212 = .ok (.invokevirtual 148, 3) := by decide +kernel
theorem dX10_share_215 : decode cX10_share 215 = .ok (.aload_n 0, 1) := by decide +kernel
theorem dX10_share_216 : decode cX10_share 216 = .ok (.iload 5, 2) := by decide +kernel
theorem dX10_share_218 : decode cX10_share 218 = .ok (.invokevirtual 139, 3) := by decide +kernel
theorem dX10_share_221 : decode cX10_share 221 = .ok (.ireturn, 1) := by decide +kernel
theorem dX10_loadResult_0 : decode cX10_loadResult 0 = .ok (.aload_n 0, 1) := by decide +kernel
theorem dX10_loadResult_1 : decode cX10_loadResult 1 = .ok (.invokevirtual 145, 3) := by decide +kernel
theorem dX10_loadResult_4 : decode cX10_loadResult 4 = .ok (.iconst 0, 1) := by decide +kernel
theorem dX10_loadResult_5 : decode cX10_loadResult 5 = .ok (.istore_n 1, 1) := by decide +kernel
theorem dX10_loadResult_6 : decode cX10_loadResult 6 = .ok (.iload_n 1, 1) := by decide +kernel
theorem dX10_loadResult_7 : decode cX10_loadResult 7 = .ok (.bipush 45, 2) := by decide +kernel
theorem dX10_loadResult_9 : decode cX10_loadResult 9 = .ok (.if_icmp .gt 33, 3) := by decide +kernel
theorem dX10_loadResult_12 : decode cX10_loadResult 12 = .ok (.aload_n 0, 1) := by decide +kernel
theorem dX10_loadResult_13 : decode cX10_loadResult 13 = .ok (.getfield 35, 3) := by decide +kernel
theorem dX10_loadResult_16 : decode cX10_loadResult 16 = .ok (.iload_n 1, 1) := by decide +kernel
theorem dX10_loadResult_17 : decode cX10_loadResult 17 = .ok (.aload_n 0, 1) := by decide +kernel
theorem dX10_loadResult_18 : decode cX10_loadResult 18 = .ok (.getfield 50, 3) := by decide +kernel
theorem dX10_loadResult_21 : decode cX10_loadResult 21 = .ok (.iload_n 1, 1) := by decide +kernel
theorem dX10_loadResult_22 : decode cX10_loadResult 22 = .ok (.iaload, 1) := by decide +kernel
theorem dX10_loadResult_23 : decode cX10_loadResult 23 = .ok (.iastore, 1) := by decide +kernel
theorem dX10_loadResult_24 : decode cX10_loadResult 24 = .ok (.aload_n 0, 1) := by decide +kernel
theorem dX10_loadResult_25 : decode cX10_loadResult 25 = .ok (.getfield 38, 3) := by decide +kernel
theorem dX10_loadResult_28 : decode cX10_loadResult 28 = .ok (.iload_n 1, 1) := by decide +kernel
theorem dX10_loadResult_29 : decode cX10_loadResult 29 = .ok (.aload_n 0, 1) := by decide +kernel
theorem dX10_loadResult_30 : decode cX10_loadResult 30 = .ok (.getfield 53, 3) := by decide +kernel
theorem dX10_loadResult_33 : decode cX10_loadResult 33 = .ok (.iload_n 1, 1) := by decide +kernel
theorem dX10_loadResult_34 : decode cX10_loadResult 34 = .ok (.iaload, 1) := by decide +kernel
theorem dX10_loadResult_35 : decode cX10_loadResult 35 = .ok (.iastore, 1) := by decide +kernel
theorem dX10_loadResult_36 : decode cX10_loadResult 36 = .ok (.iinc 1 1, 3) := by decide +kernel
theorem dX10_loadResult_39 : decode cX10_loadResult 39 = .ok (.goto (-33), 3) := by decide +kernel
theorem dX10_loadResult_42 : decode cX10_loadResult 42 = .ok (.return_, 1) := by decide +kernel
theorem dX10_unfold_0 : decode cX10_unfold 0 = .ok (.iload_n 1, 1) := by decide +kernel
theorem dX10_unfold_1 : decode cX10_unfold 1 = .ok (.i2l, 1) := by decide +kernel
theorem dX10_unfold_2 : decode cX10_unfold 2 = .ok (.lconst 0, 1) := by decide +kernel
theorem dX10_unfold_3 : decode cX10_unfold 3 = .ok (.ldc2_w 133, 3) := by decide +kernel
theorem dX10_unfold_6 : decode cX10_unfold 6 = .ok (.invokestatic 107, 3) := by decide +kernel
theorem dX10_unfold_9 : decode cX10_unfold 9 = .ok (.ifCond .ne 6, 3) := by decide +kernel
theorem dX10_unfold_12 : decode cX10_unfold 12 = .ok (.bipush (-102), 2) := by decide +kernel
theorem dX10_unfold_14 : decode cX10_unfold 14 = .ok (.ireturn, 1) := by decide +kernel
theorem dX10_unfold_15 : decode cX10_unfold 15 = .ok (.aload_n 0, 1) := by decide +kernel
theorem dX10_unfold_16 : decode cX10_unfold 16 = .ok (.getfield 53, 3) := by decide +kernel
theorem dX10_unfold_19 : decode cX10_unfold 19 = .ok (.iconst 0, 1) := by decide +kernel
theorem dX10_unfold_20 : decode cX10_unfold 20 = .ok (.iaload, 1) := by decide +kernel
theorem dX10_unfold_21 : decode cX10_unfold 21 = .ok (.ifCond .ne 9, 3) := by decide +kernel
theorem dX10_unfold_24 : decode cX10_unfold 24 = .ok (.aload_n 0, 1) := by decide +kernel
theorem dX10_unfold_25 : decode cX10_unfold 25 = .ok (.iconst 5, 1) := by decide +kernel
theorem dX10_unfold_26 : decode cX10_unfold 26 = .ok (.invokevirtual 129, 3) := by decide +kernel
theorem dX10_unfold_29 : decode cX10_unfold 29 = .ok (.ireturn, 1) := by decide +kernel
theorem dX10_unfold_30 : decode cX10_unfold 30 = .ok (.aload_n 0, 1) := by decide +kernel
theorem dX10_unfold_31 : decode cX10_unfold 31 = .ok (.invokevirtual 152, 3) := by decide +kernel
theorem dX10_unfold_34 : decode cX10_unfold 34 = .ok (.aload_n 0, 1) := by decide +kernel
theorem dX10_unfold_35 : decode cX10_unfold 35 = .ok (.aload_n 0, 1) := by decide +kernel
theorem dX10_unfold_36 : decode cX10_unfold 36 = .ok (.getfield 32, 3) := by decide +kernel
theorem dX10_unfold_39 : decode cX10_unfold 39 = .ok (.iload_n 1, 1) := by decide +kernel
theorem dX10_unfold_40 : decode cX10_unfold 40 = .ok (.invokevirtual 148, 3) := by decide +kernel
theorem dX10_unfold_43 : decode cX10_unfold 43 = .ok (.aload_n 0, 1) := by decide +kernel
theorem dX10_unfold_44 : decode cX10_unfold 44 = .ok (.iload_n 1, 1) := by decide +kernel
theorem dX10_unfold_45 : decode cX10_unfold 45 = .ok (.invokevirtual 139, 3) := by decide +kernel
theorem dX10_unfold_48 : decode cX10_unfold 48 = .ok (.ireturn, 1) := by decide +kernel
theorem dX10_lesser_0 : decode cX10_lesser 0 = .ok (.aload_n 0, 1) := by decide +kernel
theorem dX10_lesser_1 : decode cX10_lesser 1 = .ok (.getfield 26, 3) := by decide +kernel
theorem dX10_lesser_4 : decode cX10_lesser 4 = .ok (.iload_n 1, 1) := by decide +kernel
theorem dX10_lesser_5 : decode cX10_lesser 5 = .ok (.iaload, 1) := by decide +kernel
theorem dX10_lesser_6 : decode cX10_lesser 6 = .ok (.aload_n 0, 1) := by decide +kernel
theorem dX10_lesser_7 : decode cX10_lesser 7 = .ok (.getfield 26, 3) := by decide +kernel
theorem dX10_lesser_10 : decode cX10_lesser 10 = .ok (.iload_n 2, 1) := by decide +kernel
theorem dX10_lesser_11 : decode cX10_lesser 11 = .ok (.iaload, 1) := by decide +kernel
theorem dX10_lesser_12 : decode cX10_lesser 12 = .ok (.if_icmp .ge 12, 3) := by decide +kernel
theorem dX10_lesser_15 : decode cX10_lesser 15 = .ok (.aload_n 0, 1) := by decide +kernel
theorem dX10_lesser_16 : decode cX10_lesser 16 = .ok (.getfield 26, 3) := by decide +kernel
theorem dX10_lesser_19 : decode cX10_lesser 19 = .ok (.iload_n 1, 1) := by decide +kernel
theorem dX10_lesser_20 : decode cX10_lesser 20 = .ok (.iaload, 1) := by decide +kernel
theorem dX10_lesser_21 : decode cX10_lesser 21 = .ok (.goto 9, 3) := by decide +kernel
theorem dX10_lesser_24 : decode cX10_lesser 24 = .ok (.aload_n 0, 1) := by decide +kernel
theorem dX10_lesser_25 : decode cX10_lesser 25 = .ok (.getfield 26, 3) := by decide +kernel
theorem dX10_lesser_28 : decode cX10_lesser 28 = .ok (.iload_n 2, 1) := by decide +kernel
theorem dX10_lesser_29 : decode cX10_lesser 29 = .ok (.iaload, 1) := by decide +kernel
theorem dX10_lesser_30 : decode cX10_lesser 30 = .ok (.ireturn, 1) := by decide +kernel
theorem dX10_plus_0 : decode cX10_plus 0 = .ok (.aload_n 0, 1) := by decide +kernel
theorem dX10_plus_1 : decode cX10_plus 1 = .ok (.iload_n 1, 1) := by decide +kernel
theorem dX10_plus_2 : decode cX10_plus 2 = .ok (.invokevirtual 155, 3) := by decide +kernel
theorem dX10_plus_5 : decode cX10_plus 5 = .ok (.ifCond .eq 11, 3) := by decide +kernel
theorem dX10_plus_8 : decode cX10_plus 8 = .ok (.aload_n 0, 1) := by decide +kernel
theorem dX10_plus_9 : decode cX10_plus 9 = .ok (.iload_n 2, 1) := by decide +kernel
theorem dX10_plus_10 : decode cX10_plus 10 = .ok (.invokevirtual 155, 3) := by decide +kernel
theorem dX10_plus_13 : decode cX10_plus 13 = .ok (.ifCond .ne 6, 3) := by decide +kernel
theorem dX10_plus_16 : decode cX10_plus 16 = .ok (.bipush (-101), 2) := by decide +kernel
theorem dX10_plus_18 : decode cX10_plus 18 = .ok (.ireturn, 1) := by decide +kernel
theorem dX10_plus_19 : decode cX10_plus 19 = .ok (.aload_n 0, 1) := by decide +kernel
theorem dX10_plus_20 : decode cX10_plus 20 = .ok (.iload_n 1, 1) := by decide +kernel
theorem dX10_plus_21 : decode cX10_plus 21 = .ok (.iload_n 2, 1) := by decide +kernel
theorem dX10_plus_22 : decode cX10_plus 22 = .ok (.invokevirtual 158, 3) := by decide +kernel
theorem dX10_plus_25 : decode cX10_plus 25 = .ok (.istore 4, 2) := by decide +kernel
theorem dX10_plus_27 : decode cX10_plus 27 = .ok (.iconst 0, 1) := by decide +kernel
theorem dX10_plus_28 : decode cX10_plus 28 = .ok (.istore 5, 2) := by decide +kernel
theorem dX10_plus_30 : decode cX10_plus 30 = .ok (.iload 5, 2) := by decide +kernel
theorem dX10_plus_32 : decode cX10_plus 32 = .ok (.iload 4, 2) := by decide +kernel
theorem dX10_plus_34 : decode cX10_plus 34 = .ok (.if_icmp .gt 45, 3) := by decide +kernel
theorem dX10_plus_37 : decode cX10_plus 37 = .ok (.aload_n 0, 1) := by decide +kernel
theorem dX10_plus_38 : decode cX10_plus 38 = .ok (.getfield 32, 3) := by decide +kernel
theorem dX10_plus_41 : decode cX10_plus 41 = .ok (.iload 5, 2) := by decide +kernel
theorem dX10_plus_43 : decode cX10_plus 43 = .ok (.aload_n 0, 1) := by decide +kernel
theorem dX10_plus_44 : decode cX10_plus 44 = .ok (.aload_n 0, 1) := by decide +kernel
theorem dX10_plus_45 : decode cX10_plus 45 = .ok (.iload_n 1, 1) := by decide +kernel
theorem dX10_plus_46 : decode cX10_plus 46 = .ok (.iload 5, 2) := by decide +kernel
theorem dX10_plus_48 : decode cX10_plus 48 = .ok (.invokevirtual 161, 3) := by decide +kernel
theorem dX10_plus_51 : decode cX10_plus 51 = .ok (.i2l, 1) := by decide +kernel
theorem dX10_plus_52 : decode cX10_plus 52 = .ok (.aload_n 0, 1) := by decide +kernel
theorem dX10_plus_53 : decode cX10_plus 53 = .ok (.iload_n 3, 1) := by decide +kernel
theorem dX10_plus_54 : decode cX10_plus 54 = .ok (.i2l, 1) := by decide +kernel
theorem dX10_plus_55 : decode cX10_plus 55 = .ok (.invokevirtual 135, 3) := by decide +kernel
theorem dX10_plus_58 : decode cX10_plus 58 = .ok (.i2l, 1) := by decide +kernel
theorem dX10_plus_59 : decode cX10_plus 59 = .ok (.aload_n 0, 1) := by decide +kernel
theorem dX10_plus_60 : decode cX10_plus 60 = .ok (.iload_n 2, 1) := by decide +kernel
theorem dX10_plus_61 : decode cX10_plus 61 = .ok (.iload 5, 2) := by decide +kernel
theorem dX10_plus_63 : decode cX10_plus 63 = .ok (.invokevirtual 161, 3) := by decide +kernel
theorem dX10_plus_66 : decode cX10_plus 66 = .ok (.i2l, 1) := by decide +kernel
theorem dX10_plus_67 : decode cX10_plus 67 = .ok (.lmul, 1) := by decide +kernel
theorem dX10_plus_68 : decode cX10_plus 68 = .ok (.ladd, 1) := by decide +kernel
theorem dX10_plus_69 : decode cX10_plus 69 = .ok (.invokevirtual 135, 3) := by decide +kernel
theorem dX10_plus_72 : decode cX10_plus 72 = .ok (.iastore, 1) := by decide +kernel
theorem dX10_plus_73 : decode cX10_plus 73 = .ok (.iinc 5 1, 3) := by decide +kernel
theorem dX10_plus_76 : decode cX10_plus 76 = .ok (.goto (-46), 3) := by decide +kernel
theorem dX10_plus_79 : decode cX10_plus 79 = .ok (.aload_n 0, 1) := by decide +kernel
theorem dX10_plus_80 : decode cX10_plus 80 = .ok (.iload 4, 2) := by decide +kernel
theorem dX10_plus_82 : decode cX10_plus 82 = .ok (.invokevirtual 139, 3) := by decide +kernel
theorem dX10_plus_85 : decode cX10_plus 85 = .ok (.ireturn, 1) := by decide +kernel
theorem dX10_times_0 : decode cX10_times 0 = .ok (.aload_n 0, 1) := by decide +kernel
theorem dX10_times_1 : decode cX10_times 1 = .ok (.iload_n 1, 1) := by decide +kernel
theorem dX10_times_2 : decode cX10_times 2 = .ok (.invokevirtual 155, 3) := by decide +kernel
theorem dX10_times_5 : decode cX10_times 5 = .ok (.ifCond .eq 11, 3) := by decide +kernel
theorem dX10_times_8 : decode cX10_times 8 = .ok (.aload_n 0, 1) := by decide +kernel
theorem dX10_times_9 : decode cX10_times 9 = .ok (.iload_n 2, 1) := by decide +kernel
theorem dX10_times_10 : decode cX10_times 10 = .ok (.invokevirtual 155, 3) := by decide +kernel
theorem dX10_times_13 : decode cX10_times 13 = .ok (.ifCond .ne 6, 3) := by decide +kernel
theorem dX10_times_16 : decode cX10_times 16 = .ok (.bipush (-101), 2) := by decide +kernel
theorem dX10_times_18 : decode cX10_times 18 = .ok (.ireturn, 1) := by decide +kernel
theorem dX10_times_19 : decode cX10_times 19 = .ok (.aload_n 0, 1) := by decide +kernel
theorem dX10_times_20 : decode cX10_times 20 = .ok (.iload_n 1, 1) := by decide +kernel
theorem dX10_times_21 : decode cX10_times 21 = .ok (.iload_n 2, 1) := by decide +kernel
theorem dX10_times_22 : decode cX10_times 22 = .ok (.invokevirtual 158, 3) := by decide +kernel
theorem dX10_times_25 : decode cX10_times 25 = .ok (.istore_n 3, 1) := by decide +kernel
theorem dX10_times_26 : decode cX10_times 26 = .ok (.iconst 0, 1) := by decide +kernel
theorem dX10_times_27 : decode cX10_times 27 = .ok (.istore 4, 2) := by decide +kernel
theorem dX10_times_29 : decode cX10_times 29 = .ok (.iload 4, 2) := by decide +kernel
theorem dX10_times_31 : decode cX10_times 31 = .ok (.iload_n 3, 1) := by decide +kernel
theorem dX10_times_32 : decode cX10_times 32 = .ok (.if_icmp .gt 66, 3) := by decide +kernel
theorem dX10_times_35 : decode cX10_times 35 = .ok (.lconst 0, 1) := by decide +kernel
theorem dX10_times_36 : decode cX10_times 36 = .ok (.lstore 5, 2) := by decide +kernel
theorem dX10_times_38 : decode cX10_times 38 = .ok (.iconst 0, 1) := by decide +kernel
theorem dX10_times_39 : decode cX10_times 39 = .ok (.istore 7, 2) := by decide +kernel
theorem dX10_times_41 : decode cX10_times 41 = .ok (.iload 7, 2) := by decide +kernel
theorem dX10_times_43 : decode cX10_times 43 = .ok (.iload 4, 2) := by decide +kernel
theorem dX10_times_45 : decode cX10_times 45 = .ok (.if_icmp .gt 34, 3) := by decide +kernel
theorem dX10_times_48 : decode cX10_times 48 = .ok (.lload 5, 2) := by decide +kernel
theorem dX10_times_50 : decode cX10_times 50 = .ok (.aload_n 0, 1) := by decide +kernel
theorem dX10_times_51 : decode cX10_times 51 = .ok (.iload_n 1, 1) := by decide +kernel
theorem dX10_times_52 : decode cX10_times 52 = .ok (.iload 7, 2) := by decide +kernel
theorem dX10_times_54 : decode cX10_times 54 = .ok (.invokevirtual 161, 3) := by decide +kernel
theorem dX10_times_57 : decode cX10_times 57 = .ok (.i2l, 1) := by decide +kernel
theorem dX10_times_58 : decode cX10_times 58 = .ok (.aload_n 0, 1) := by decide +kernel
theorem dX10_times_59 : decode cX10_times 59 = .ok (.iload_n 2, 1) := by decide +kernel
theorem dX10_times_60 : decode cX10_times 60 = .ok (.iload 4, 2) := by decide +kernel
theorem dX10_times_62 : decode cX10_times 62 = .ok (.iload 7, 2) := by decide +kernel
theorem dX10_times_64 : decode cX10_times 64 = .ok (.isub, 1) := by decide +kernel
theorem dX10_times_65 : decode cX10_times 65 = .ok (.invokevirtual 161, 3) := by decide +kernel
theorem dX10_times_68 : decode cX10_times 68 = .ok (.i2l, 1) := by decide +kernel
theorem dX10_times_69 : decode cX10_times 69 = .ok (.lmul, 1) := by decide +kernel
theorem dX10_times_70 : decode cX10_times 70 = .ok (.ladd, 1) := by decide +kernel
theorem dX10_times_71 : decode cX10_times 71 = .ok (.lstore 5, 2) := by decide +kernel
theorem dX10_times_73 : decode cX10_times 73 = .ok (.iinc 7 1, 3) := by decide +kernel
theorem dX10_times_76 : decode cX10_times 76 = .ok (.goto (-35), 3) := by decide +kernel
theorem dX10_times_79 : decode cX10_times 79 = .ok (.aload_n 0, 1) := by decide +kernel
theorem dX10_times_80 : decode cX10_times 80 = .ok (.getfield 32, 3) := by decide +kernel
theorem dX10_times_83 : decode cX10_times 83 = .ok (.iload 4, 2) := by decide +kernel
theorem dX10_times_85 : decode cX10_times 85 = .ok (.aload_n 0, 1) := by decide +kernel
theorem dX10_times_86 : decode cX10_times 86 = .ok (.lload 5, 2) := by decide +kernel
theorem dX10_times_88 : decode cX10_times 88 = .ok (.invokevirtual 135, 3) := by decide +kernel
theorem dX10_times_91 : decode cX10_times 91 = .ok (.iastore, 1) := by decide +kernel
theorem dX10_times_92 : decode cX10_times 92 = .ok (.iinc 4 1, 3) := by decide +kernel
theorem dX10_times_95 : decode cX10_times 95 = .ok (.goto (-66), 3) := by decide +kernel
theorem dX10_times_98 : decode cX10_times 98 = .ok (.aload_n 0, 1) := by decide +kernel
theorem dX10_times_99 : decode cX10_times 99 = .ok (.iload_n 3, 1) := by decide +kernel
theorem dX10_times_100 : decode cX10_times 100 = .ok (.invokevirtual 139, 3) := by decide +kernel
theorem dX10_times_103 : decode cX10_times 103 = .ok (.ireturn, 1) := by decide +kernel
theorem dX10_under_0 : decode cX10_under 0 = .ok (.aload_n 0, 1) := by decide +kernel
theorem dX10_under_1 : decode cX10_under 1 = .ok (.iload_n 1, 1) := by decide +kernel
theorem dX10_under_2 : decode cX10_under 2 = .ok (.invokevirtual 155, 3) := by decide +kernel
theorem dX10_under_5 : decode cX10_under 5 = .ok (.ifCond .ne 6, 3) := by decide +kernel
theorem dX10_under_8 : decode cX10_under 8 = .ok (.bipush (-101), 2) := by decide +kernel
theorem dX10_under_10 : decode cX10_under 10 = .ok (.ireturn, 1) := by decide +kernel
theorem dX10_under_11 : decode cX10_under 11 = .ok (.aload_n 0, 1) := by decide +kernel
theorem dX10_under_12 : decode cX10_under 12 = .ok (.iload_n 1, 1) := by decide +kernel
theorem dX10_under_13 : decode cX10_under 13 = .ok (.iconst 0, 1) := by decide +kernel
theorem dX10_under_14 : decode cX10_under 14 = .ok (.invokevirtual 161, 3) := by decide +kernel
theorem dX10_under_17 : decode cX10_under 17 = .ok (.ifCond .ne 9, 3) := by decide +kernel
theorem dX10_under_20 : decode cX10_under 20 = .ok (.aload_n 0, 1) := by decide +kernel
theorem dX10_under_21 : decode cX10_under 21 = .ok (.iconst 5, 1) := by decide +kernel
theorem dX10_under_22 : decode cX10_under 22 = .ok (.invokevirtual 129, 3) := by decide +kernel
theorem dX10_under_25 : decode cX10_under 25 = .ok (.ireturn, 1) := by decide +kernel
theorem dX10_under_26 : decode cX10_under 26 = .ok (.aload_n 0, 1) := by decide +kernel
theorem dX10_under_27 : decode cX10_under 27 = .ok (.getfield 26, 3) := by decide +kernel
theorem dX10_under_30 : decode cX10_under 30 = .ok (.iload_n 1, 1) := by decide +kernel
theorem dX10_under_31 : decode cX10_under 31 = .ok (.iaload, 1) := by decide +kernel
theorem dX10_under_32 : decode cX10_under 32 = .ok (.istore_n 2, 1) := by decide +kernel
theorem dX10_under_33 : decode cX10_under 33 = .ok (.aload_n 0, 1) := by decide +kernel
theorem dX10_under_34 : decode cX10_under 34 = .ok (.invokevirtual 145, 3) := by decide +kernel
theorem dX10_under_37 : decode cX10_under 37 = .ok (.aload_n 0, 1) := by decide +kernel
theorem dX10_under_38 : decode cX10_under 38 = .ok (.getfield 35, 3) := by decide +kernel
theorem dX10_under_41 : decode cX10_under 41 = .ok (.iconst 0, 1) := by decide +kernel
theorem dX10_under_42 : decode cX10_under 42 = .ok (.iconst 1, 1) := by decide +kernel
theorem dX10_under_43 : decode cX10_under 43 = .ok (.iastore, 1) := by decide +kernel
theorem dX10_under_44 : decode cX10_under 44 = .ok (.iconst 0, 1) := by decide +kernel
theorem dX10_under_45 : decode cX10_under 45 = .ok (.istore_n 3, 1) := by decide +kernel
theorem dX10_under_46 : decode cX10_under 46 = .ok (.iload_n 3, 1) := by decide +kernel
theorem dX10_under_47 : decode cX10_under 47 = .ok (.iload_n 2, 1) := by decide +kernel
theorem dX10_under_48 : decode cX10_under 48 = .ok (.if_icmp .gt 21, 3) := by decide +kernel
theorem dX10_under_51 : decode cX10_under 51 = .ok (.aload_n 0, 1) := by decide +kernel
theorem dX10_under_52 : decode cX10_under 52 = .ok (.getfield 38, 3) := by decide +kernel
theorem dX10_under_55 : decode cX10_under 55 = .ok (.iload_n 3, 1) := by decide +kernel
theorem dX10_under_56 : decode cX10_under 56 = .ok (.aload_n 0, 1) := by decide +kernel
theorem dX10_under_57 : decode cX10_under 57 = .ok (.iload_n 1, 1) := by decide +kernel
theorem dX10_under_58 : decode cX10_under 58 = .ok (.iload_n 3, 1) := by decide +kernel
theorem dX10_under_59 : decode cX10_under 59 = .ok (.invokevirtual 161, 3) := by decide +kernel
theorem dX10_under_62 : decode cX10_under 62 = .ok (.iastore, 1) := by decide +kernel
theorem dX10_under_63 : decode cX10_under 63 = .ok (.iinc 3 1, 3) := by decide +kernel
theorem dX10_under_66 : decode cX10_under 66 = .ok (.goto (-20), 3) := by decide +kernel
theorem dX10_under_69 : decode cX10_under 69 = .ok (.aload_n 0, 1) := by decide +kernel
theorem dX10_under_70 : decode cX10_under 70 = .ok (.aload_n 0, 1) := by decide +kernel
theorem dX10_under_71 : decode cX10_under 71 = .ok (.getfield 32, 3) := by decide +kernel
theorem dX10_under_74 : decode cX10_under 74 = .ok (.iload_n 2, 1) := by decide +kernel
theorem dX10_under_75 : decode cX10_under 75 = .ok (.invokevirtual 148, 3) := by decide +kernel
theorem dX10_under_78 : decode cX10_under 78 = .ok (.aload_n 0, 1) := by decide +kernel
theorem dX10_under_79 : decode cX10_under 79 = .ok (.iload_n 2, 1) := by decide +kernel
theorem dX10_under_80 : decode cX10_under 80 = .ok (.invokevirtual 139, 3) := by decide +kernel
theorem dX10_under_83 : decode cX10_under 83 = .ok (.ireturn, 1) := by decide +kernel
theorem dX10_moved_0 : decode cX10_moved 0 = .ok (.aload_n 0, 1) := by decide +kernel
theorem dX10_moved_1 : decode cX10_moved 1 = .ok (.iload_n 1, 1) := by decide +kernel
theorem dX10_moved_2 : decode cX10_moved 2 = .ok (.invokevirtual 155, 3) := by decide +kernel
theorem dX10_moved_5 : decode cX10_moved 5 = .ok (.ifCond .ne 6, 3) := by decide +kernel
theorem dX10_moved_8 : decode cX10_moved 8 = .ok (.bipush (-101), 2) := by decide +kernel
theorem dX10_moved_10 : decode cX10_moved 10 = .ok (.ireturn, 1) := by decide +kernel
theorem dX10_moved_11 : decode cX10_moved 11 = .ok (.iload_n 3, 1) := by decide +kernel
theorem dX10_moved_12 : decode cX10_moved 12 = .ok (.i2l, 1) := by decide +kernel
theorem dX10_moved_13 : decode cX10_moved 13 = .ok (.lconst 0, 1) := by decide +kernel
theorem dX10_moved_14 : decode cX10_moved 14 = .ok (.ldc2_w 133, 3) := by decide +kernel
theorem dX10_moved_17 : decode cX10_moved 17 = .ok (.invokestatic 107, 3) := by decide +kernel
theorem dX10_moved_20 : decode cX10_moved 20 = .ok (.ifCond .ne 6, 3) := by decide +kernel
theorem dX10_moved_23 : decode cX10_moved 23 = .ok (.bipush (-102), 2) := by decide +kernel
theorem dX10_moved_25 : decode cX10_moved 25 = .ok (.ireturn, 1) := by decide +kernel
theorem dX10_moved_26 : decode cX10_moved 26 = .ok (.aload_n 0, 1) := by decide +kernel
theorem dX10_moved_27 : decode cX10_moved 27 = .ok (.getfield 26, 3) := by decide +kernel
theorem dX10_moved_30 : decode cX10_moved 30 = .ok (.iload_n 1, 1) := by decide +kernel
theorem dX10_moved_31 : decode cX10_moved 31 = .ok (.iaload, 1) := by decide +kernel
theorem dX10_moved_32 : decode cX10_moved 32 = .ok (.istore 4, 2) := by decide +kernel
theorem dX10_moved_34 : decode cX10_moved 34 = .ok (.iconst 0, 1) := by decide +kernel
theorem dX10_moved_35 : decode cX10_moved 35 = .ok (.istore 5, 2) := by decide +kernel
theorem dX10_moved_37 : decode cX10_moved 37 = .ok (.iload 5, 2) := by decide +kernel
theorem dX10_moved_39 : decode cX10_moved 39 = .ok (.iload 4, 2) := by decide +kernel
theorem dX10_moved_41 : decode cX10_moved 41 = .ok (.if_icmp .gt 53, 3) := by decide +kernel
theorem dX10_moved_44 : decode cX10_moved 44 = .ok (.aload_n 0, 1) := by decide +kernel
theorem dX10_moved_45 : decode cX10_moved 45 = .ok (.getfield 32, 3) := by decide +kernel
theorem dX10_moved_48 : decode cX10_moved 48 = .ok (.iload 5, 2) := by decide +kernel
theorem dX10_moved_50 : decode cX10_moved 50 = .ok (.iload 5, 2) := by decide +kernel
theorem dX10_moved_52 : decode cX10_moved 52 = .ok (.iload_n 3, 1) := by decide +kernel
theorem dX10_moved_53 : decode cX10_moved 53 = .ok (.if_icmp .ge 7, 3) := by decide +kernel
theorem dX10_moved_56 : decode cX10_moved 56 = .ok (.iconst 0, 1) := by decide +kernel
theorem dX10_moved_57 : decode cX10_moved 57 = .ok (.goto 30, 3) := by decide +kernel
theorem dX10_moved_60 : decode cX10_moved 60 = .ok (.aload_n 0, 1) := by decide +kernel
theorem dX10_moved_61 : decode cX10_moved 61 = .ok (.aload_n 0, 1) := by decide +kernel
theorem dX10_moved_62 : decode cX10_moved 62 = .ok (.iload_n 1, 1) := by decide +kernel
theorem dX10_moved_63 : decode cX10_moved 63 = .ok (.iload 5, 2) := by decide +kernel
theorem dX10_moved_65 : decode cX10_moved 65 = .ok (.iload_n 3, 1) := by decide +kernel
theorem dX10_moved_66 : decode cX10_moved 66 = .ok (.isub, 1) := by decide +kernel
theorem dX10_moved_67 : decode cX10_moved 67 = .ok (.invokevirtual 161, 3) := by decide +kernel
theorem dX10_moved_70 : decode cX10_moved 70 = .ok (.aload_n 0, 1) := by decide +kernel
theorem dX10_moved_71 : decode cX10_moved 71 = .ok (.aload_n 0, 1) := by decide +kernel
theorem dX10_moved_72 : decode cX10_moved 72 = .ok (.iload_n 2, 1) := by decide +kernel
theorem dX10_moved_73 : decode cX10_moved 73 = .ok (.i2l, 1) := by decide +kernel
theorem dX10_moved_74 : decode cX10_moved 74 = .ok (.invokevirtual 135, 3) := by decide +kernel
theorem dX10_moved_77 : decode cX10_moved 77 = .ok (.iload 5, 2) := by decide +kernel
theorem dX10_moved_79 : decode cX10_moved 79 = .ok (.iload_n 3, 1) := by decide +kernel
theorem dX10_moved_80 : decode cX10_moved 80 = .ok (.isub, 1) := by decide +kernel
theorem dX10_moved_81 : decode cX10_moved 81 = .ok (.invokevirtual 164, 3) := by decide +kernel
theorem dX10_moved_84 : decode cX10_moved 84 = .ok (.invokevirtual 99, 3) := by decide +kernel
theorem dX10_moved_87 : decode cX10_moved 87 = .ok (.iastore, 1) := by decide +kernel
theorem dX10_moved_88 : decode cX10_moved 88 = .ok (.iinc 5 1, 3) := by decide +kernel
theorem dX10_moved_91 : decode cX10_moved 91 = .ok (.goto (-54), 3) := by decide +kernel
theorem dX10_moved_94 : decode cX10_moved 94 = .ok (.aload_n 0, 1) := by decide +kernel
theorem dX10_moved_95 : decode cX10_moved 95 = .ok (.iload 4, 2) := by decide +kernel
theorem dX10_moved_97 : decode cX10_moved 97 = .ok (.invokevirtual 139, 3) := by decide +kernel
theorem dX10_moved_100 : decode cX10_moved 100 = .ok (.ireturn, 1) := by decide +kernel
theorem dX10_number_0 : decode cX10_number 0 = .ok (.aload_n 0, 1) := by decide +kernel
theorem dX10_number_1 : decode cX10_number 1 = .ok (.iload_n 1, 1) := by decide +kernel
theorem dX10_number_2 : decode cX10_number 2 = .ok (.invokevirtual 155, 3) := by decide +kernel
theorem dX10_number_5 : decode cX10_number 5 = .ok (.ifCond .ne 8, 3) := by decide +kernel
theorem dX10_number_8 : decode cX10_number 8 = .ok (.bipush (-101), 2) := by decide +kernel
theorem dX10_number_10 : decode cX10_number 10 = .ok (.goto 29, 3) := by decide +kernel
theorem dX10_number_13 : decode cX10_number 13 = .ok (.iload_n 2, 1) := by decide +kernel
theorem dX10_number_14 : decode cX10_number 14 = .ok (.i2l, 1) := by decide +kernel
theorem dX10_number_15 : decode cX10_number 15 = .ok (.lconst 0, 1) := by decide +kernel
theorem dX10_number_16 : decode cX10_number 16 = .ok (.aload_n 0, 1) := by decide +kernel
theorem dX10_number_17 : decode cX10_number 17 = .ok (.getfield 26, 3) := by decide +kernel
theorem dX10_number_20 : decode cX10_number 20 = .ok (.iload_n 1, 1) := by decide +kernel
theorem dX10_number_21 : decode cX10_number 21 = .ok (.iaload, 1) := by decide +kernel
theorem dX10_number_22 : decode cX10_number 22 = .ok (.i2l, 1) := by decide +kernel
theorem dX10_number_23 : decode cX10_number 23 = .ok (.invokestatic 107, 3) := by decide +kernel
theorem dX10_number_26 : decode cX10_number 26 = .ok (.ifCond .eq 12, 3) := by decide +kernel
theorem dX10_number_29 : decode cX10_number 29 = .ok (.aload_n 0, 1) := by decide +kernel
theorem dX10_number_30 : decode cX10_number 30 = .ok (.iload_n 1, 1) := by decide +kernel
theorem dX10_number_31 : decode cX10_number 31 = .ok (.iload_n 2, 1) := by decide +kernel
theorem dX10_number_32 : decode cX10_number 32 = .ok (.invokevirtual 161, 3) := by decide +kernel
theorem dX10_number_35 : decode cX10_number 35 = .ok (.goto 4, 3) := by decide +kernel
theorem dX10_number_38 : decode cX10_number 38 = .ok (.iconst (-1), 1) := by decide +kernel
theorem dX10_number_39 : decode cX10_number 39 = .ok (.ireturn, 1) := by decide +kernel
theorem dX10_length_0 : decode cX10_length 0 = .ok (.aload_n 0, 1) := by decide +kernel
theorem dX10_length_1 : decode cX10_length 1 = .ok (.iload_n 1, 1) := by decide +kernel
theorem dX10_length_2 : decode cX10_length 2 = .ok (.invokevirtual 155, 3) := by decide +kernel
theorem dX10_length_5 : decode cX10_length 5 = .ok (.ifCond .eq 12, 3) := by decide +kernel
theorem dX10_length_8 : decode cX10_length 8 = .ok (.aload_n 0, 1) := by decide +kernel
theorem dX10_length_9 : decode cX10_length 9 = .ok (.getfield 26, 3) := by decide +kernel
theorem dX10_length_12 : decode cX10_length 12 = .ok (.iload_n 1, 1) := by decide +kernel
theorem dX10_length_13 : decode cX10_length 13 = .ok (.iaload, 1) := by decide +kernel
theorem dX10_length_14 : decode cX10_length 14 = .ok (.goto 5, 3) := by decide +kernel
theorem dX10_length_17 : decode cX10_length 17 = .ok (.bipush (-101), 2) := by decide +kernel
theorem dX10_length_19 : decode cX10_length 19 = .ok (.ireturn, 1) := by decide +kernel
theorem dX10_clear_0 : decode cX10_clear 0 = .ok (.aload_n 0, 1) := by decide +kernel
theorem dX10_clear_1 : decode cX10_clear 1 = .ok (.getfield 115, 3) := by decide +kernel
theorem dX10_clear_4 : decode cX10_clear 4 = .ok (.istore_n 1, 1) := by decide +kernel
theorem dX10_clear_5 : decode cX10_clear 5 = .ok (.aload_n 0, 1) := by decide +kernel
theorem dX10_clear_6 : decode cX10_clear 6 = .ok (.iconst 0, 1) := by decide +kernel
theorem dX10_clear_7 : decode cX10_clear 7 = .ok (.putfield 115, 3) := by decide +kernel
theorem dX10_clear_10 : decode cX10_clear 10 = .ok (.iload_n 1, 1) := by decide +kernel
theorem dX10_clear_11 : decode cX10_clear 11 = .ok (.ireturn, 1) := by decide +kernel
theorem dX10_solve_0 : decode cX10_solve 0 = .ok (.iload_n 1, 1) := by decide +kernel
theorem dX10_solve_1 : decode cX10_solve 1 = .ok (.iconst 1, 1) := by decide +kernel
theorem dX10_solve_2 : decode cX10_solve 2 = .ok (.iadd, 1) := by decide +kernel
theorem dX10_solve_3 : decode cX10_solve 3 = .ok (.istore_n 2, 1) := by decide +kernel
theorem dX10_solve_4 : decode cX10_solve 4 = .ok (.iconst 0, 1) := by decide +kernel
theorem dX10_solve_5 : decode cX10_solve 5 = .ok (.istore_n 3, 1) := by decide +kernel
theorem dX10_solve_6 : decode cX10_solve 6 = .ok (.iconst (-1), 1) := by decide +kernel
theorem dX10_solve_7 : decode cX10_solve 7 = .ok (.istore 4, 2) := by decide +kernel
theorem dX10_solve_9 : decode cX10_solve 9 = .ok (.iconst 0, 1) := by decide +kernel
theorem dX10_solve_10 : decode cX10_solve 10 = .ok (.istore 5, 2) := by decide +kernel
theorem dX10_solve_12 : decode cX10_solve 12 = .ok (.iload 5, 2) := by decide +kernel
theorem dX10_solve_14 : decode cX10_solve 14 = .ok (.iload_n 2, 1) := by decide +kernel
theorem dX10_solve_15 : decode cX10_solve 15 = .ok (.if_icmp .ge 309, 3) := by decide +kernel
theorem dX10_solve_18 : decode cX10_solve 18 = .ok (.iload_n 3, 1) := by decide +kernel
theorem dX10_solve_19 : decode cX10_solve 19 = .ok (.istore 6, 2) := by decide +kernel
theorem dX10_solve_21 : decode cX10_solve 21 = .ok (.iload 6, 2) := by decide +kernel
theorem dX10_solve_23 : decode cX10_solve 23 = .ok (.iload_n 1, 1) := by decide +kernel
theorem dX10_solve_24 : decode cX10_solve 24 = .ok (.if_icmp .ge 25, 3) := by decide +kernel
theorem dX10_solve_27 : decode cX10_solve 27 = .ok (.aload_n 0, 1) := by decide +kernel
theorem dX10_solve_28 : decode cX10_solve 28 = .ok (.getfield 41, 3) := by decide +kernel
theorem dX10_solve_31 : decode cX10_solve 31 = .ok (.bipush 44, 2) := by decide +kernel
theorem dX10_solve_33 : decode cX10_solve 33 = .ok (.iload 6, 2) := by decide +kernel
theorem dX10_solve_35 : decode cX10_solve 35 = .ok (.imul, 1) := by decide +kernel
theorem dX10_solve_36 : decode cX10_solve 36 = .ok (.iload 5, 2) := by decide +kernel
theorem dX10_solve_38 : decode cX10_solve 38 = .ok (.iadd, 1) := by decide +kernel
theorem dX10_solve_39 : decode cX10_solve 39 = .ok (.iaload, 1) := by decide +kernel
theorem dX10_solve_40 : decode cX10_solve 40 = .ok (.ifCond .ne 9, 3) := by decide +kernel
theorem dX10_solve_43 : decode cX10_solve 43 = .ok (.iinc 6 1, 3) := by decide +kernel
theorem dX10_solve_46 : decode cX10_solve 46 = .ok (.goto (-25), 3) := by decide +kernel
theorem dX10_solve_49 : decode cX10_solve 49 = .ok (.aload_n 0, 1) := by decide +kernel
theorem dX10_solve_50 : decode cX10_solve 50 = .ok (.getfield 44, 3) := by decide +kernel
theorem dX10_solve_53 : decode cX10_solve 53 = .ok (.iload 5, 2) := by decide +kernel
theorem dX10_solve_55 : decode cX10_solve 55 = .ok (.iconst (-1), 1) := by decide +kernel
theorem dX10_solve_56 : decode cX10_solve 56 = .ok (.iastore, 1) := by decide +kernel
theorem dX10_solve_57 : decode cX10_solve 57 = .ok (.iload 6, 2) := by decide +kernel
theorem dX10_solve_59 : decode cX10_solve 59 = .ok (.iload_n 1, 1) := by decide +kernel
theorem dX10_solve_60 : decode cX10_solve 60 = .ok (.if_icmp .ne 10, 3) := by decide +kernel
theorem dX10_solve_63 : decode cX10_solve 63 = .ok (.iload 5, 2) := by decide +kernel
theorem dX10_solve_65 : decode cX10_solve 65 = .ok (.istore 4, 2) := by decide +kernel
theorem dX10_solve_67 : decode cX10_solve 67 = .ok (.goto 251, 3) := by decide +kernel
theorem dX10_solve_70 : decode cX10_solve 70 = .ok (.iconst 0, 1) := by decide +kernel
theorem dX10_solve_71 : decode cX10_solve 71 = .ok (.istore 7, 2) := by decide +kernel
theorem dX10_solve_73 : decode cX10_solve 73 = .ok (.iload 7, 2) := by decide +kernel
theorem dX10_solve_75 : decode cX10_solve 75 = .ok (.iload_n 2, 1) := by decide +kernel
theorem dX10_solve_76 : decode cX10_solve 76 = .ok (.if_icmp .ge 63, 3) := by decide +kernel
theorem dX10_solve_79 : decode cX10_solve 79 = .ok (.aload_n 0, 1) := by decide +kernel
theorem dX10_solve_80 : decode cX10_solve 80 = .ok (.getfield 41, 3) := by decide +kernel
theorem dX10_solve_83 : decode cX10_solve 83 = .ok (.bipush 44, 2) := by decide +kernel
theorem dX10_solve_85 : decode cX10_solve 85 = .ok (.iload 6, 2) := by decide +kernel
theorem dX10_solve_87 : decode cX10_solve 87 = .ok (.imul, 1) := by decide +kernel
theorem dX10_solve_88 : decode cX10_solve 88 = .ok (.iload 7, 2) := by decide +kernel
theorem dX10_solve_90 : decode cX10_solve 90 = .ok (.iadd, 1) := by decide +kernel
theorem dX10_solve_91 : decode cX10_solve 91 = .ok (.iaload, 1) := by decide +kernel
theorem dX10_solve_92 : decode cX10_solve 92 = .ok (.istore 8, 2) := by decide +kernel
theorem dX10_solve_94 : decode cX10_solve 94 = .ok (.aload_n 0, 1) := by decide +kernel
theorem dX10_solve_95 : decode cX10_solve 95 = .ok (.getfield 41, 3) := by decide +kernel
theorem dX10_solve_98 : decode cX10_solve 98 = .ok (.bipush 44, 2) := by decide +kernel
theorem dX10_solve_100 : decode cX10_solve 100 = .ok (.iload 6, 2) := by decide +kernel
theorem dX10_solve_102 : decode cX10_solve 102 = .ok (.imul, 1) := by decide +kernel
theorem dX10_solve_103 : decode cX10_solve 103 = .ok (.iload 7, 2) := by decide +kernel
theorem dX10_solve_105 : decode cX10_solve 105 = .ok (.iadd, 1) := by decide +kernel
theorem dX10_solve_106 : decode cX10_solve 106 = .ok (.aload_n 0, 1) := by decide +kernel
theorem dX10_solve_107 : decode cX10_solve 107 = .ok (.getfield 41, 3) := by decide +kernel
theorem dX10_solve_110 : decode cX10_solve 110 = .ok (.bipush 44, 2) := by decide +kernel
theorem dX10_solve_112 : decode cX10_solve 112 = .ok (.iload_n 3, 1) := by decide +kernel
theorem dX10_solve_113 : decode cX10_solve 113 = .ok (.imul, 1) := by decide +kernel
theorem dX10_solve_114 : decode cX10_solve 114 = .ok (.iload 7, 2) := by decide +kernel
theorem dX10_solve_116 : decode cX10_solve 116 = .ok (.iadd, 1) := by decide +kernel
theorem dX10_solve_117 : decode cX10_solve 117 = .ok (.iaload, 1) := by decide +kernel
theorem dX10_solve_118 : decode cX10_solve 118 = .ok (.iastore, 1) := by decide +kernel
theorem dX10_solve_119 : decode cX10_solve 119 = .ok (.aload_n 0, 1) := by decide +kernel
theorem dX10_solve_120 : decode cX10_solve 120 = .ok (.getfield 41, 3) := by decide +kernel
theorem dX10_solve_123 : decode cX10_solve 123 = .ok (.bipush 44, 2) := by decide +kernel
theorem dX10_solve_125 : decode cX10_solve 125 = .ok (.iload_n 3, 1) := by decide +kernel
theorem dX10_solve_126 : decode cX10_solve 126 = .ok (.imul, 1) := by decide +kernel
theorem dX10_solve_127 : decode cX10_solve 127 = .ok (.iload 7, 2) := by decide +kernel
theorem dX10_solve_129 : decode cX10_solve 129 = .ok (.iadd, 1) := by decide +kernel
theorem dX10_solve_130 : decode cX10_solve 130 = .ok (.iload 8, 2) := by decide +kernel
theorem dX10_solve_132 : decode cX10_solve 132 = .ok (.iastore, 1) := by decide +kernel
theorem dX10_solve_133 : decode cX10_solve 133 = .ok (.iinc 7 1, 3) := by decide +kernel
theorem dX10_solve_136 : decode cX10_solve 136 = .ok (.goto (-63), 3) := by decide +kernel
theorem dX10_solve_139 : decode cX10_solve 139 = .ok (.aload_n 0, 1) := by decide +kernel
theorem dX10_solve_140 : decode cX10_solve 140 = .ok (.aload_n 0, 1) := by decide +kernel
theorem dX10_solve_141 : decode cX10_solve 141 = .ok (.getfield 41, 3) := by decide +kernel
theorem dX10_solve_144 : decode cX10_solve 144 = .ok (.bipush 44, 2) := by decide +kernel
theorem dX10_solve_146 : decode cX10_solve 146 = .ok (.iload_n 3, 1) := by decide +kernel
theorem dX10_solve_147 : decode cX10_solve 147 = .ok (.imul, 1) := by decide +kernel
theorem dX10_solve_148 : decode cX10_solve 148 = .ok (.iload 5, 2) := by decide +kernel
theorem dX10_solve_150 : decode cX10_solve 150 = .ok (.iadd, 1) := by decide +kernel
theorem dX10_solve_151 : decode cX10_solve 151 = .ok (.iaload, 1) := by decide +kernel
theorem dX10_solve_152 : decode cX10_solve 152 = .ok (.invokevirtual 142, 3) := by decide +kernel
theorem dX10_solve_155 : decode cX10_solve 155 = .ok (.istore 7, 2) := by decide +kernel
theorem dX10_solve_157 : decode cX10_solve 157 = .ok (.iconst 0, 1) := by decide +kernel
theorem dX10_solve_158 : decode cX10_solve 158 = .ok (.istore 8, 2) := by decide +kernel
theorem dX10_solve_160 : decode cX10_solve 160 = .ok (.iload 8, 2) := by decide +kernel
theorem dX10_solve_162 : decode cX10_solve 162 = .ok (.iload_n 2, 1) := by decide +kernel
theorem dX10_solve_163 : decode cX10_solve 163 = .ok (.if_icmp .ge 39, 3) := by decide +kernel
theorem dX10_solve_166 : decode cX10_solve 166 = .ok (.aload_n 0, 1) := by decide +kernel
theorem dX10_solve_167 : decode cX10_solve 167 = .ok (.getfield 41, 3) := by decide +kernel
theorem dX10_solve_170 : decode cX10_solve 170 = .ok (.bipush 44, 2) := by decide +kernel
theorem dX10_solve_172 : decode cX10_solve 172 = .ok (.iload_n 3, 1) := by decide +kernel
theorem dX10_solve_173 : decode cX10_solve 173 = .ok (.imul, 1) := by decide +kernel
theorem dX10_solve_174 : decode cX10_solve 174 = .ok (.iload 8, 2) := by decide +kernel
theorem dX10_solve_176 : decode cX10_solve 176 = .ok (.iadd, 1) := by decide +kernel
theorem dX10_solve_177 : decode cX10_solve 177 = .ok (.aload_n 0, 1) := by decide +kernel
theorem dX10_solve_178 : decode cX10_solve 178 = .ok (.aload_n 0, 1) := by decide +kernel
theorem dX10_solve_179 : decode cX10_solve 179 = .ok (.getfield 41, 3) := by decide +kernel
theorem dX10_solve_182 : decode cX10_solve 182 = .ok (.bipush 44, 2) := by decide +kernel
theorem dX10_solve_184 : decode cX10_solve 184 = .ok (.iload_n 3, 1) := by decide +kernel
theorem dX10_solve_185 : decode cX10_solve 185 = .ok (.imul, 1) := by decide +kernel
theorem dX10_solve_186 : decode cX10_solve 186 = .ok (.iload 8, 2) := by decide +kernel
theorem dX10_solve_188 : decode cX10_solve 188 = .ok (.iadd, 1) := by decide +kernel
theorem dX10_solve_189 : decode cX10_solve 189 = .ok (.iaload, 1) := by decide +kernel
theorem dX10_solve_190 : decode cX10_solve 190 = .ok (.iload 7, 2) := by decide +kernel
theorem dX10_solve_192 : decode cX10_solve 192 = .ok (.invokevirtual 99, 3) := by decide +kernel
theorem dX10_solve_195 : decode cX10_solve 195 = .ok (.iastore, 1) := by decide +kernel
theorem dX10_solve_196 : decode cX10_solve 196 = .ok (.iinc 8 1, 3) := by decide +kernel
theorem dX10_solve_199 : decode cX10_solve 199 = .ok (.goto (-39), 3) := by decide +kernel
theorem dX10_solve_202 : decode cX10_solve 202 = .ok (.iconst 0, 1) := by decide +kernel
theorem dX10_solve_203 : decode cX10_solve 203 = .ok (.istore 8, 2) := by decide +kernel
theorem dX10_solve_205 : decode cX10_solve 205 = .ok (.iload 8, 2) := by decide +kernel
theorem dX10_solve_207 : decode cX10_solve 207 = .ok (.iload_n 1, 1) := by decide +kernel
theorem dX10_solve_208 : decode cX10_solve 208 = .ok (.if_icmp .ge 99, 3) := by decide +kernel
theorem dX10_solve_211 : decode cX10_solve 211 = .ok (.aload_n 0, 1) := by decide +kernel
theorem dX10_solve_212 : decode cX10_solve 212 = .ok (.getfield 41, 3) := by decide +kernel
theorem dX10_solve_215 : decode cX10_solve 215 = .ok (.bipush 44, 2) := by decide +kernel
theorem dX10_solve_217 : decode cX10_solve 217 = .ok (.iload 8, 2) := by decide +kernel
theorem dX10_solve_219 : decode cX10_solve 219 = .ok (.imul, 1) := by decide +kernel
theorem dX10_solve_220 : decode cX10_solve 220 = .ok (.iload 5, 2) := by decide +kernel
theorem dX10_solve_222 : decode cX10_solve 222 = .ok (.iadd, 1) := by decide +kernel
theorem dX10_solve_223 : decode cX10_solve 223 = .ok (.iaload, 1) := by decide +kernel
theorem dX10_solve_224 : decode cX10_solve 224 = .ok (.istore 9, 2) := by decide +kernel
theorem dX10_solve_226 : decode cX10_solve 226 = .ok (.iconst 0, 1) := by decide +kernel
theorem dX10_solve_227 : decode cX10_solve 227 = .ok (.istore 10, 2) := by decide +kernel
theorem dX10_solve_229 : decode cX10_solve 229 = .ok (.iload 10, 2) := by decide +kernel
theorem dX10_solve_231 : decode cX10_solve 231 = .ok (.iload_n 2, 1) := by decide +kernel
theorem dX10_solve_232 : decode cX10_solve 232 = .ok (.if_icmp .ge 69, 3) := by decide +kernel
theorem dX10_solve_235 : decode cX10_solve 235 = .ok (.iload 8, 2) := by decide +kernel
theorem dX10_solve_237 : decode cX10_solve 237 = .ok (.iload_n 3, 1) := by decide +kernel
theorem dX10_solve_238 : decode cX10_solve 238 = .ok (.if_icmp .eq 63, 3) := by decide +kernel
theorem dX10_solve_241 : decode cX10_solve 241 = .ok (.iload 9, 2) := by decide +kernel
theorem dX10_solve_243 : decode cX10_solve 243 = .ok (.ifCond .eq 58, 3) := by decide +kernel
theorem dX10_solve_246 : decode cX10_solve 246 = .ok (.aload_n 0, 1) := by decide +kernel
theorem dX10_solve_247 : decode cX10_solve 247 = .ok (.getfield 41, 3) := by decide +kernel
theorem dX10_solve_250 : decode cX10_solve 250 = .ok (.bipush 44, 2) := by decide +kernel
theorem dX10_solve_252 : decode cX10_solve 252 = .ok (.iload 8, 2) := by decide +kernel
theorem dX10_solve_254 : decode cX10_solve 254 = .ok (.imul, 1) := by decide +kernel
theorem dX10_solve_255 : decode cX10_solve 255 = .ok (.iload 10, 2) := by decide +kernel
theorem dX10_solve_257 : decode cX10_solve 257 = .ok (.iadd, 1) := by decide +kernel
theorem dX10_solve_258 : decode cX10_solve 258 = .ok (.aload_n 0, 1) := by decide +kernel
theorem dX10_solve_259 : decode cX10_solve 259 = .ok (.aload_n 0, 1) := by decide +kernel
theorem dX10_solve_260 : decode cX10_solve 260 = .ok (.getfield 41, 3) := by decide +kernel
theorem dX10_solve_263 : decode cX10_solve 263 = .ok (.bipush 44, 2) := by decide +kernel
theorem dX10_solve_265 : decode cX10_solve 265 = .ok (.iload 8, 2) := by decide +kernel
theorem dX10_solve_267 : decode cX10_solve 267 = .ok (.imul, 1) := by decide +kernel
theorem dX10_solve_268 : decode cX10_solve 268 = .ok (.iload 10, 2) := by decide +kernel
theorem dX10_solve_270 : decode cX10_solve 270 = .ok (.iadd, 1) := by decide +kernel
theorem dX10_solve_271 : decode cX10_solve 271 = .ok (.iaload, 1) := by decide +kernel
theorem dX10_solve_272 : decode cX10_solve 272 = .ok (.i2l, 1) := by decide +kernel
theorem dX10_solve_273 : decode cX10_solve 273 = .ok (.iload 9, 2) := by decide +kernel
theorem dX10_solve_275 : decode cX10_solve 275 = .ok (.i2l, 1) := by decide +kernel
theorem dX10_solve_276 : decode cX10_solve 276 = .ok (.aload_n 0, 1) := by decide +kernel
theorem dX10_solve_277 : decode cX10_solve 277 = .ok (.getfield 41, 3) := by decide +kernel
theorem dX10_solve_280 : decode cX10_solve 280 = .ok (.bipush 44, 2) := by decide +kernel
theorem dX10_solve_282 : decode cX10_solve 282 = .ok (.iload_n 3, 1) := by decide +kernel
theorem dX10_solve_283 : decode cX10_solve 283 = .ok (.imul, 1) := by decide +kernel
theorem dX10_solve_284 : decode cX10_solve 284 = .ok (.iload 10, 2) := by decide +kernel
theorem dX10_solve_286 : decode cX10_solve 286 = .ok (.iadd, 1) := by decide +kernel
theorem dX10_solve_287 : decode cX10_solve 287 = .ok (.iaload, 1) := by decide +kernel
theorem dX10_solve_288 : decode cX10_solve 288 = .ok (.i2l, 1) := by decide +kernel
theorem dX10_solve_289 : decode cX10_solve 289 = .ok (.lmul, 1) := by decide +kernel
theorem dX10_solve_290 : decode cX10_solve 290 = .ok (.lsub, 1) := by decide +kernel
theorem dX10_solve_291 : decode cX10_solve 291 = .ok (.invokevirtual 135, 3) := by decide +kernel
theorem dX10_solve_294 : decode cX10_solve 294 = .ok (.iastore, 1) := by decide +kernel
theorem dX10_solve_295 : decode cX10_solve 295 = .ok (.iinc 10 1, 3) := by decide +kernel
theorem dX10_solve_298 : decode cX10_solve 298 = .ok (.goto (-69), 3) := by decide +kernel
theorem dX10_solve_301 : decode cX10_solve 301 = .ok (.iinc 8 1, 3) := by decide +kernel
theorem dX10_solve_304 : decode cX10_solve 304 = .ok (.goto (-99), 3) := by decide +kernel
theorem dX10_solve_307 : decode cX10_solve 307 = .ok (.aload_n 0, 1) := by decide +kernel
theorem dX10_solve_308 : decode cX10_solve 308 = .ok (.getfield 44, 3) := by decide +kernel
theorem dX10_solve_311 : decode cX10_solve 311 = .ok (.iload 5, 2) := by decide +kernel
theorem dX10_solve_313 : decode cX10_solve 313 = .ok (.iload_n 3, 1) := by decide +kernel
theorem dX10_solve_314 : decode cX10_solve 314 = .ok (.iastore, 1) := by decide +kernel
theorem dX10_solve_315 : decode cX10_solve 315 = .ok (.iinc 3 1, 3) := by decide +kernel
theorem dX10_solve_318 : decode cX10_solve 318 = .ok (.iinc 5 1, 3) := by decide +kernel
theorem dX10_solve_321 : decode cX10_solve 321 = .ok (.goto (-309), 3) := by decide +kernel
theorem dX10_solve_324 : decode cX10_solve 324 = .ok (.iconst 0, 1) := by decide +kernel
theorem dX10_solve_325 : decode cX10_solve 325 = .ok (.istore 5, 2) := by decide +kernel
theorem dX10_solve_327 : decode cX10_solve 327 = .ok (.iload 5, 2) := by decide +kernel
theorem dX10_solve_329 : decode cX10_solve 329 = .ok (.iload_n 2, 1) := by decide +kernel
theorem dX10_solve_330 : decode cX10_solve 330 = .ok (.if_icmp .ge 66, 3) := by decide +kernel
theorem dX10_solve_333 : decode cX10_solve 333 = .ok (.aload_n 0, 1) := by decide +kernel
theorem dX10_solve_334 : decode cX10_solve 334 = .ok (.getfield 47, 3) := by decide +kernel
theorem dX10_solve_337 : decode cX10_solve 337 = .ok (.iload 5, 2) := by decide +kernel
theorem dX10_solve_339 : decode cX10_solve 339 = .ok (.iload 5, 2) := by decide +kernel
theorem dX10_solve_341 : decode cX10_solve 341 = .ok (.iload 4, 2) := by decide +kernel
theorem dX10_solve_343 : decode cX10_solve 343 = .ok (.if_icmp .ne 7, 3) := by decide +kernel
theorem dX10_solve_346 : decode cX10_solve 346 = .ok (.iconst 1, 1) := by decide +kernel
theorem dX10_solve_347 : decode cX10_solve 347 = .ok (.goto 42, 3) := by decide +kernel
theorem dX10_solve_350 : decode cX10_solve 350 = .ok (.aload_n 0, 1) := by decide +kernel
theorem dX10_solve_351 : decode cX10_solve 351 = .ok (.getfield 44, 3) := by decide +kernel
theorem dX10_solve_354 : decode cX10_solve 354 = .ok (.iload 5, 2) := by decide +kernel
theorem dX10_solve_356 : decode cX10_solve 356 = .ok (.iaload, 1) := by decide +kernel
theorem dX10_solve_357 : decode cX10_solve 357 = .ok (.iconst (-1), 1) := by decide +kernel
theorem dX10_solve_358 : decode cX10_solve 358 = .ok (.if_icmp .ne 7, 3) := by decide +kernel
theorem dX10_solve_361 : decode cX10_solve 361 = .ok (.iconst 0, 1) := by decide +kernel
theorem dX10_solve_362 : decode cX10_solve 362 = .ok (.goto 27, 3) := by decide +kernel
theorem dX10_solve_365 : decode cX10_solve 365 = .ok (.aload_n 0, 1) := by decide +kernel
theorem dX10_solve_366 : decode cX10_solve 366 = .ok (.aload_n 0, 1) := by decide +kernel
theorem dX10_solve_367 : decode cX10_solve 367 = .ok (.getfield 41, 3) := by decide +kernel
theorem dX10_solve_370 : decode cX10_solve 370 = .ok (.bipush 44, 2) := by decide +kernel
theorem dX10_solve_372 : decode cX10_solve 372 = .ok (.aload_n 0, 1) := by decide +kernel
theorem dX10_solve_373 : decode cX10_solve 373 = .ok (.getfield 44, 3) := by decide +kernel
theorem dX10_solve_376 : decode cX10_solve 376 = .ok (.iload 5, 2) := by decide +kernel
theorem dX10_solve_378 : decode cX10_solve 378 = .ok (.iaload, 1) := by decide +kernel
theorem dX10_solve_379 : decode cX10_solve 379 = .ok (.imul, 1) := by decide +kernel
theorem dX10_solve_380 : decode cX10_solve 380 = .ok (.iload 4, 2) := by decide +kernel
theorem dX10_solve_382 : decode cX10_solve 382 = .ok (.iadd, 1) := by decide +kernel
theorem dX10_solve_383 : decode cX10_solve 383 = .ok (.iaload, 1) := by decide +kernel
theorem dX10_solve_384 : decode cX10_solve 384 = .ok (.ineg, 1) := by decide +kernel
theorem dX10_solve_385 : decode cX10_solve 385 = .ok (.i2l, 1) := by decide +kernel
theorem dX10_solve_386 : decode cX10_solve 386 = .ok (.invokevirtual 135, 3) := by decide +kernel
theorem dX10_solve_389 : decode cX10_solve 389 = .ok (.iastore, 1) := by decide +kernel
theorem dX10_solve_390 : decode cX10_solve 390 = .ok (.iinc 5 1, 3) := by decide +kernel
theorem dX10_solve_393 : decode cX10_solve 393 = .ok (.goto (-66), 3) := by decide +kernel
theorem dX10_solve_396 : decode cX10_solve 396 = .ok (.return_, 1) := by decide +kernel
theorem dX10_degreeOf_0 : decode cX10_degreeOf 0 = .ok (.iload_n 1, 1) := by decide +kernel
theorem dX10_degreeOf_1 : decode cX10_degreeOf 1 = .ok (.istore_n 2, 1) := by decide +kernel
theorem dX10_degreeOf_2 : decode cX10_degreeOf 2 = .ok (.iload_n 2, 1) := by decide +kernel
theorem dX10_degreeOf_3 : decode cX10_degreeOf 3 = .ok (.ifCond .lt 15, 3) := by decide +kernel
theorem dX10_degreeOf_6 : decode cX10_degreeOf 6 = .ok (.aload_n 0, 1) := by decide +kernel
theorem dX10_degreeOf_7 : decode cX10_degreeOf 7 = .ok (.iload_n 2, 1) := by decide +kernel
theorem dX10_degreeOf_8 : decode cX10_degreeOf 8 = .ok (.iaload, 1) := by decide +kernel
theorem dX10_degreeOf_9 : decode cX10_degreeOf 9 = .ok (.ifCond .ne 9, 3) := by decide +kernel
theorem dX10_degreeOf_12 : decode cX10_degreeOf 12 = .ok (.iinc 2 (-1), 3) := by decide +kernel
theorem dX10_degreeOf_15 : decode cX10_degreeOf 15 = .ok (.goto (-13), 3) := by decide +kernel
theorem dX10_degreeOf_18 : decode cX10_degreeOf 18 = .ok (.iload_n 2, 1) := by decide +kernel
theorem dX10_degreeOf_19 : decode cX10_degreeOf 19 = .ok (.ireturn, 1) := by decide +kernel
theorem dX10_clearResult_0 : decode cX10_clearResult 0 = .ok (.iconst 0, 1) := by decide +kernel
theorem dX10_clearResult_1 : decode cX10_clearResult 1 = .ok (.istore_n 1, 1) := by decide +kernel
theorem dX10_clearResult_2 : decode cX10_clearResult 2 = .ok (.iload_n 1, 1) := by decide +kernel
theorem dX10_clearResult_3 : decode cX10_clearResult 3 = .ok (.bipush 46, 2) := by decide +kernel
theorem dX10_clearResult_5 : decode cX10_clearResult 5 = .ok (.if_icmp .ge 23, 3) := by decide +kernel
theorem dX10_clearResult_8 : decode cX10_clearResult 8 = .ok (.aload_n 0, 1) := by decide +kernel
theorem dX10_clearResult_9 : decode cX10_clearResult 9 = .ok (.getfield 50, 3) := by decide +kernel
theorem dX10_clearResult_12 : decode cX10_clearResult 12 = .ok (.iload_n 1, 1) := by decide +kernel
theorem dX10_clearResult_13 : decode cX10_clearResult 13 = .ok (.iconst 0, 1) := by decide +kernel
theorem dX10_clearResult_14 : decode cX10_clearResult 14 = .ok (.iastore, 1) := by decide +kernel
theorem dX10_clearResult_15 : decode cX10_clearResult 15 = .ok (.aload_n 0, 1) := by decide +kernel
theorem dX10_clearResult_16 : decode cX10_clearResult 16 = .ok (.getfield 53, 3) := by decide +kernel
theorem dX10_clearResult_19 : decode cX10_clearResult 19 = .ok (.iload_n 1, 1) := by decide +kernel
theorem dX10_clearResult_20 : decode cX10_clearResult 20 = .ok (.iconst 0, 1) := by decide +kernel
theorem dX10_clearResult_21 : decode cX10_clearResult 21 = .ok (.iastore, 1) := by decide +kernel
theorem dX10_clearResult_22 : decode cX10_clearResult 22 = .ok (.iinc 1 1, 3) := by decide +kernel
theorem dX10_clearResult_25 : decode cX10_clearResult 25 = .ok (.goto (-23), 3) := by decide +kernel
theorem dX10_clearResult_28 : decode cX10_clearResult 28 = .ok (.aload_n 0, 1) := by decide +kernel
theorem dX10_clearResult_29 : decode cX10_clearResult 29 = .ok (.getfield 53, 3) := by decide +kernel
theorem dX10_clearResult_32 : decode cX10_clearResult 32 = .ok (.iconst 0, 1) := by decide +kernel
theorem dX10_clearResult_33 : decode cX10_clearResult 33 = .ok (.iconst 1, 1) := by decide +kernel
theorem dX10_clearResult_34 : decode cX10_clearResult 34 = .ok (.iastore, 1) := by decide +kernel
theorem dX10_clearResult_35 : decode cX10_clearResult 35 = .ok (.return_, 1) := by decide +kernel
theorem dX10_reduce_0 : decode cX10_reduce 0 = .ok (.aload_n 0, 1) := by decide +kernel
theorem dX10_reduce_1 : decode cX10_reduce 1 = .ok (.aload_n 2, 1) := by decide +kernel
theorem dX10_reduce_2 : decode cX10_reduce 2 = .ok (.iload_n 3, 1) := by decide +kernel
theorem dX10_reduce_3 : decode cX10_reduce 3 = .ok (.iaload, 1) := by decide +kernel
theorem dX10_reduce_4 : decode cX10_reduce 4 = .ok (.invokevirtual 142, 3) := by decide +kernel
theorem dX10_reduce_7 : decode cX10_reduce 7 = .ok (.istore 4, 2) := by decide +kernel
theorem dX10_reduce_9 : decode cX10_reduce 9 = .ok (.aload_n 1, 1) := by decide +kernel
theorem dX10_reduce_10 : decode cX10_reduce 10 = .ok (.bipush 89, 2) := by decide +kernel
theorem dX10_reduce_12 : decode cX10_reduce 12 = .ok (.invokestatic 167, 3) := by decide +kernel
theorem dX10_reduce_15 : decode cX10_reduce 15 = .ok (.istore 5, 2) := by decide +kernel
theorem dX10_reduce_17 : decode cX10_reduce 17 = .ok (.iload 5, 2) := by decide +kernel
theorem dX10_reduce_19 : decode cX10_reduce 19 = .ok (.iload_n 3, 1) := by decide +kernel
theorem dX10_reduce_20 : decode cX10_reduce 20 = .ok (.if_icmp .lt 69, 3) := by decide +kernel
theorem dX10_reduce_23 : decode cX10_reduce 23 = .ok (.aload_n 0, 1) := by decide +kernel
theorem dX10_reduce_24 : decode cX10_reduce 24 = .ok (.aload_n 1, 1) := by decide +kernel
theorem dX10_reduce_25 : decode cX10_reduce 25 = .ok (.iload 5, 2) := by decide +kernel
theorem dX10_reduce_27 : decode cX10_reduce 27 = .ok (.iaload, 1) := by decide +kernel
theorem dX10_reduce_28 : decode cX10_reduce 28 = .ok (.iload 4, 2) := by decide +kernel
theorem dX10_reduce_30 : decode cX10_reduce 30 = .ok (.invokevirtual 99, 3) := by decide +kernel
theorem dX10_reduce_33 : decode cX10_reduce 33 = .ok (.istore 6, 2) := by decide +kernel
theorem dX10_reduce_35 : decode cX10_reduce 35 = .ok (.iconst 0, 1) := by decide +kernel
theorem dX10_reduce_36 : decode cX10_reduce 36 = .ok (.istore 7, 2) := by decide +kernel
theorem dX10_reduce_38 : decode cX10_reduce 38 = .ok (.iload 7, 2) := by decide +kernel
theorem dX10_reduce_40 : decode cX10_reduce 40 = .ok (.iload_n 3, 1) := by decide +kernel
theorem dX10_reduce_41 : decode cX10_reduce 41 = .ok (.if_icmp .gt 42, 3) := by decide +kernel
theorem dX10_reduce_44 : decode cX10_reduce 44 = .ok (.aload_n 1, 1) := by decide +kernel
theorem dX10_reduce_45 : decode cX10_reduce 45 = .ok (.iload 5, 2) := by decide +kernel
theorem dX10_reduce_47 : decode cX10_reduce 47 = .ok (.iload_n 3, 1) := by decide +kernel
theorem dX10_reduce_48 : decode cX10_reduce 48 = .ok (.isub, 1) := by decide +kernel
theorem dX10_reduce_49 : decode cX10_reduce 49 = .ok (.iload 7, 2) := by decide +kernel
theorem dX10_reduce_51 : decode cX10_reduce 51 = .ok (.iadd, 1) := by decide +kernel
theorem dX10_reduce_52 : decode cX10_reduce 52 = .ok (.aload_n 0, 1) := by decide +kernel
theorem dX10_reduce_53 : decode cX10_reduce 53 = .ok (.aload_n 1, 1) := by decide +kernel
theorem dX10_reduce_54 : decode cX10_reduce 54 = .ok (.iload 5, 2) := by decide +kernel
theorem dX10_reduce_56 : decode cX10_reduce 56 = .ok (.iload_n 3, 1) := by decide +kernel
theorem dX10_reduce_57 : decode cX10_reduce 57 = .ok (.isub, 1) := by decide +kernel
theorem dX10_reduce_58 : decode cX10_reduce 58 = .ok (.iload 7, 2) := by decide +kernel
theorem dX10_reduce_60 : decode cX10_reduce 60 = .ok (.iadd, 1) := by decide +kernel
theorem dX10_reduce_61 : decode cX10_reduce 61 = .ok (.iaload, 1) := by decide +kernel
theorem dX10_reduce_62 : decode cX10_reduce 62 = .ok (.i2l, 1) := by decide +kernel
theorem dX10_reduce_63 : decode cX10_reduce 63 = .ok (.iload 6, 2) := by decide +kernel
theorem dX10_reduce_65 : decode cX10_reduce 65 = .ok (.i2l, 1) := by decide +kernel
theorem dX10_reduce_66 : decode cX10_reduce 66 = .ok (.aload_n 2, 1) := by decide +kernel
theorem dX10_reduce_67 : decode cX10_reduce 67 = .ok (.iload 7, 2) := by decide +kernel
theorem dX10_reduce_69 : decode cX10_reduce 69 = .ok (.iaload, 1) := by decide +kernel
theorem dX10_reduce_70 : decode cX10_reduce 70 = .ok (.i2l, 1) := by decide +kernel
theorem dX10_reduce_71 : decode cX10_reduce 71 = .ok (.lmul, 1) := by decide +kernel
theorem dX10_reduce_72 : decode cX10_reduce 72 = .ok (.lsub, 1) := by decide +kernel
theorem dX10_reduce_73 : decode cX10_reduce 73 = .ok (.invokevirtual 135, 3) := by decide +kernel
theorem dX10_reduce_76 : decode cX10_reduce 76 = .ok (.iastore, 1) := by decide +kernel
theorem dX10_reduce_77 : decode cX10_reduce 77 = .ok (.iinc 7 1, 3) := by decide +kernel
theorem dX10_reduce_80 : decode cX10_reduce 80 = .ok (.goto (-42), 3) := by decide +kernel
theorem dX10_reduce_83 : decode cX10_reduce 83 = .ok (.iinc 5 (-1), 3) := by decide +kernel
theorem dX10_reduce_86 : decode cX10_reduce 86 = .ok (.goto (-69), 3) := by decide +kernel
theorem dX10_reduce_89 : decode cX10_reduce 89 = .ok (.return_, 1) := by decide +kernel
end
section
theorem dX10_divide_0 : decode cX10_divide 0 = .ok (.aload_n 2, 1) := by decide +kernel
theorem dX10_divide_1 : decode cX10_divide 1 = .ok (.bipush 89, 2) := by decide +kernel
theorem dX10_divide_3 : decode cX10_divide 3 = .ok (.invokestatic 167, 3) := by decide +kernel
theorem dX10_divide_6 : decode cX10_divide 6 = .ok (.istore_n 3, 1) := by decide +kernel
theorem dX10_divide_7 : decode cX10_divide 7 = .ok (.aload_n 0, 1) := by decide +kernel
theorem dX10_divide_8 : decode cX10_divide 8 = .ok (.aload_n 2, 1) := by decide +kernel
theorem dX10_divide_9 : decode cX10_divide 9 = .ok (.iload_n 3, 1) := by decide +kernel
theorem dX10_divide_10 : decode cX10_divide 10 = .ok (.iaload, 1) := by decide +kernel
theorem dX10_divide_11 : decode cX10_divide 11 = .ok (.invokevirtual 142, 3) := by decide +kernel
theorem dX10_divide_14 : decode cX10_divide 14 = .ok (.istore 4, 2) := by decide +kernel
theorem dX10_divide_16 : decode cX10_divide 16 = .ok (.aload_n 1, 1) := by decide +kernel
theorem dX10_divide_17 : decode cX10_divide 17 = .ok (.bipush 89, 2) := by decide +kernel
theorem dX10_divide_19 : decode cX10_divide 19 = .ok (.invokestatic 167, 3) := by decide +kernel
theorem dX10_divide_22 : decode cX10_divide 22 = .ok (.istore 5, 2) := by decide +kernel
theorem dX10_divide_24 : decode cX10_divide 24 = .ok (.iload 5, 2) := by decide +kernel
theorem dX10_divide_26 : decode cX10_divide 26 = .ok (.istore 6, 2) := by decide +kernel
theorem dX10_divide_28 : decode cX10_divide 28 = .ok (.iload 6, 2) := by decide +kernel
theorem dX10_divide_30 : decode cX10_divide 30 = .ok (.iload_n 3, 1) := by decide +kernel
theorem dX10_divide_31 : decode cX10_divide 31 = .ok (.if_icmp .lt 75, 3) := by decide +kernel
theorem dX10_divide_34 : decode cX10_divide 34 = .ok (.aload_n 0, 1) := by decide +kernel
theorem dX10_divide_35 : decode cX10_divide 35 = .ok (.aload_n 1, 1) := by decide +kernel
theorem dX10_divide_36 : decode cX10_divide 36 = .ok (.iload 6, 2) := by decide +kernel
theorem dX10_divide_38 : decode cX10_divide 38 = .ok (.iaload, 1) := by decide +kernel
theorem dX10_divide_39 : decode cX10_divide 39 = .ok (.iload 4, 2) := by decide +kernel
theorem dX10_divide_41 : decode cX10_divide 41 = .ok (.invokevirtual 99, 3) := by decide +kernel
theorem dX10_divide_44 : decode cX10_divide 44 = .ok (.istore 7, 2) := by decide +kernel
theorem dX10_divide_46 : decode cX10_divide 46 = .ok (.iconst 0, 1) := by decide +kernel
theorem dX10_divide_47 : decode cX10_divide 47 = .ok (.istore 8, 2) := by decide +kernel
theorem dX10_divide_49 : decode cX10_divide 49 = .ok (.iload 8, 2) := by decide +kernel
theorem dX10_divide_51 : decode cX10_divide 51 = .ok (.iload_n 3, 1) := by decide +kernel
theorem dX10_divide_52 : decode cX10_divide 52 = .ok (.if_icmp .ge 42, 3) := by decide +kernel
theorem dX10_divide_55 : decode cX10_divide 55 = .ok (.aload_n 1, 1) := by decide +kernel
theorem dX10_divide_56 : decode cX10_divide 56 = .ok (.iload 6, 2) := by decide +kernel
theorem dX10_divide_58 : decode cX10_divide 58 = .ok (.iload_n 3, 1) := by decide +kernel
theorem dX10_divide_59 : decode cX10_divide 59 = .ok (.isub, 1) := by decide +kernel
theorem dX10_divide_60 : decode cX10_divide 60 = .ok (.iload 8, 2) := by decide +kernel
theorem dX10_divide_62 : decode cX10_divide 62 = .ok (.iadd, 1) := by decide +kernel
theorem dX10_divide_63 : decode cX10_divide 63 = .ok (.aload_n 0, 1) := by decide +kernel
theorem dX10_divide_64 : decode cX10_divide 64 = .ok (.aload_n 1, 1) := by decide +kernel
theorem dX10_divide_65 : decode cX10_divide 65 = .ok (.iload 6, 2) := by decide +kernel
theorem dX10_divide_67 : decode cX10_divide 67 = .ok (.iload_n 3, 1) := by decide +kernel
theorem dX10_divide_68 : decode cX10_divide 68 = .ok (.isub, 1) := by decide +kernel
theorem dX10_divide_69 : decode cX10_divide 69 = .ok (.iload 8, 2) := by decide +kernel
theorem dX10_divide_71 : decode cX10_divide 71 = .ok (.iadd, 1) := by decide +kernel
theorem dX10_divide_72 : decode cX10_divide 72 = .ok (.iaload, 1) := by decide +kernel
theorem dX10_divide_73 : decode cX10_divide 73 = .ok (.i2l, 1) := by decide +kernel
theorem dX10_divide_74 : decode cX10_divide 74 = .ok (.iload 7, 2) := by decide +kernel
theorem dX10_divide_76 : decode cX10_divide 76 = .ok (.i2l, 1) := by decide +kernel
theorem dX10_divide_77 : decode cX10_divide 77 = .ok (.aload_n 2, 1) := by decide +kernel
theorem dX10_divide_78 : decode cX10_divide 78 = .ok (.iload 8, 2) := by decide +kernel
theorem dX10_divide_80 : decode cX10_divide 80 = .ok (.iaload, 1) := by decide +kernel
theorem dX10_divide_81 : decode cX10_divide 81 = .ok (.i2l, 1) := by decide +kernel
theorem dX10_divide_82 : decode cX10_divide 82 = .ok (.lmul, 1) := by decide +kernel
theorem dX10_divide_83 : decode cX10_divide 83 = .ok (.lsub, 1) := by decide +kernel
theorem dX10_divide_84 : decode cX10_divide 84 = .ok (.invokevirtual 135, 3) := by decide +kernel
theorem dX10_divide_87 : decode cX10_divide 87 = .ok (.iastore, 1) := by decide +kernel
theorem dX10_divide_88 : decode cX10_divide 88 = .ok (.iinc 8 1, 3) := by decide +kernel
theorem dX10_divide_91 : decode cX10_divide 91 = .ok (.goto (-42), 3) := by decide +kernel
theorem dX10_divide_94 : decode cX10_divide 94 = .ok (.aload_n 1, 1) := by decide +kernel
theorem dX10_divide_95 : decode cX10_divide 95 = .ok (.iload 6, 2) := by decide +kernel
theorem dX10_divide_97 : decode cX10_divide 97 = .ok (.iload 7, 2) := by decide +kernel
theorem dX10_divide_99 : decode cX10_divide 99 = .ok (.iastore, 1) := by decide +kernel
theorem dX10_divide_100 : decode cX10_divide 100 = .ok (.iinc 6 (-1), 3) := by decide +kernel
theorem dX10_divide_103 : decode cX10_divide 103 = .ok (.goto (-75), 3) := by decide +kernel
theorem dX10_divide_106 : decode cX10_divide 106 = .ok (.iconst 0, 1) := by decide +kernel
theorem dX10_divide_107 : decode cX10_divide 107 = .ok (.istore 6, 2) := by decide +kernel
theorem dX10_divide_109 : decode cX10_divide 109 = .ok (.iload 6, 2) := by decide +kernel
theorem dX10_divide_111 : decode cX10_divide 111 = .ok (.bipush 89, 2) := by decide +kernel
theorem dX10_divide_113 : decode cX10_divide 113 = .ok (.if_icmp .gt 32, 3) := by decide +kernel
theorem dX10_divide_116 : decode cX10_divide 116 = .ok (.aload_n 1, 1) := by decide +kernel
theorem dX10_divide_117 : decode cX10_divide 117 = .ok (.iload 6, 2) := by decide +kernel
theorem dX10_divide_119 : decode cX10_divide 119 = .ok (.iload 6, 2) := by decide +kernel
theorem dX10_divide_121 : decode cX10_divide 121 = .ok (.iload_n 3, 1) := by decide +kernel
theorem dX10_divide_122 : decode cX10_divide 122 = .ok (.iadd, 1) := by decide +kernel
theorem dX10_divide_123 : decode cX10_divide 123 = .ok (.iload 5, 2) := by decide +kernel
theorem dX10_divide_125 : decode cX10_divide 125 = .ok (.if_icmp .gt 12, 3) := by decide +kernel
theorem dX10_divide_128 : decode cX10_divide 128 = .ok (.aload_n 1, 1) := by decide +kernel
theorem dX10_divide_129 : decode cX10_divide 129 = .ok (.iload 6, 2) := by decide +kernel
theorem dX10_divide_131 : decode cX10_divide 131 = .ok (.iload_n 3, 1) := by decide +kernel
theorem dX10_divide_132 : decode cX10_divide 132 = .ok (.iadd, 1) := by decide +kernel
theorem dX10_divide_133 : decode cX10_divide 133 = .ok (.iaload, 1) := by decide +kernel
theorem dX10_divide_134 : decode cX10_divide 134 = .ok (.goto 4, 3) := by decide +kernel
theorem dX10_divide_137 : decode cX10_divide 137 = .ok (.iconst 0, 1) := by decide +kernel
theorem dX10_divide_138 : decode cX10_divide 138 = .ok (.iastore, 1) := by decide +kernel
theorem dX10_divide_139 : decode cX10_divide 139 = .ok (.iinc 6 1, 3) := by decide +kernel
theorem dX10_divide_142 : decode cX10_divide 142 = .ok (.goto (-33), 3) := by decide +kernel
theorem dX10_divide_145 : decode cX10_divide 145 = .ok (.return_, 1) := by decide +kernel
theorem dX10_lighten_0 : decode cX10_lighten 0 = .ok (.iconst 0, 1) := by decide +kernel
theorem dX10_lighten_1 : decode cX10_lighten 1 = .ok (.istore_n 1, 1) := by decide +kernel
theorem dX10_lighten_2 : decode cX10_lighten 2 = .ok (.iload_n 1, 1) := by decide +kernel
theorem dX10_lighten_3 : decode cX10_lighten 3 = .ok (.bipush 90, 2) := by decide +kernel
theorem dX10_lighten_5 : decode cX10_lighten 5 = .ok (.if_icmp .ge 33, 3) := by decide +kernel
theorem dX10_lighten_8 : decode cX10_lighten 8 = .ok (.aload_n 0, 1) := by decide +kernel
theorem dX10_lighten_9 : decode cX10_lighten 9 = .ok (.getfield 56, 3) := by decide +kernel
theorem dX10_lighten_12 : decode cX10_lighten 12 = .ok (.iload_n 1, 1) := by decide +kernel
theorem dX10_lighten_13 : decode cX10_lighten 13 = .ok (.aload_n 0, 1) := by decide +kernel
theorem dX10_lighten_14 : decode cX10_lighten 14 = .ok (.getfield 35, 3) := by decide +kernel
theorem dX10_lighten_17 : decode cX10_lighten 17 = .ok (.iload_n 1, 1) := by decide +kernel
theorem dX10_lighten_18 : decode cX10_lighten 18 = .ok (.iaload, 1) := by decide +kernel
theorem dX10_lighten_19 : decode cX10_lighten 19 = .ok (.iastore, 1) := by decide +kernel
theorem dX10_lighten_20 : decode cX10_lighten 20 = .ok (.aload_n 0, 1) := by decide +kernel
theorem dX10_lighten_21 : decode cX10_lighten 21 = .ok (.getfield 59, 3) := by decide +kernel
theorem dX10_lighten_24 : decode cX10_lighten 24 = .ok (.iload_n 1, 1) := by decide +kernel
theorem dX10_lighten_25 : decode cX10_lighten 25 = .ok (.aload_n 0, 1) := by decide +kernel
theorem dX10_lighten_26 : decode cX10_lighten 26 = .ok (.getfield 38, 3) := by decide +kernel
theorem dX10_lighten_29 : decode cX10_lighten 29 = .ok (.iload_n 1, 1) := by decide +kernel
theorem dX10_lighten_30 : decode cX10_lighten 30 = .ok (.iaload, 1) := by decide +kernel
theorem dX10_lighten_31 : decode cX10_lighten 31 = .ok (.iastore, 1) := by decide +kernel
theorem dX10_lighten_32 : decode cX10_lighten 32 = .ok (.iinc 1 1, 3) := by decide +kernel
theorem dX10_lighten_35 : decode cX10_lighten 35 = .ok (.goto (-33), 3) := by decide +kernel
theorem dX10_lighten_38 : decode cX10_lighten 38 = .ok (.iconst 1, 1) := by decide +kernel
theorem dX10_lighten_39 : decode cX10_lighten 39 = .ok (.istore_n 1, 1) := by decide +kernel
theorem dX10_lighten_40 : decode cX10_lighten 40 = .ok (.iload_n 1, 1) := by decide +kernel
theorem dX10_lighten_41 : decode cX10_lighten 41 = .ok (.ifCond .eq 10, 3) := by decide +kernel
theorem dX10_lighten_44 : decode cX10_lighten 44 = .ok (.aload_n 0, 1) := by decide +kernel
theorem dX10_lighten_45 : decode cX10_lighten 45 = .ok (.getfield 59, 3) := by decide +kernel
theorem dX10_lighten_48 : decode cX10_lighten 48 = .ok (.goto 7, 3) := by decide +kernel
theorem dX10_lighten_51 : decode cX10_lighten 51 = .ok (.aload_n 0, 1) := by decide +kernel
theorem dX10_lighten_52 : decode cX10_lighten 52 = .ok (.getfield 56, 3) := by decide +kernel
theorem dX10_lighten_55 : decode cX10_lighten 55 = .ok (.bipush 89, 2) := by decide +kernel
theorem dX10_lighten_57 : decode cX10_lighten 57 = .ok (.invokestatic 167, 3) := by decide +kernel
theorem dX10_lighten_60 : decode cX10_lighten 60 = .ok (.istore_n 2, 1) := by decide +kernel
theorem dX10_lighten_61 : decode cX10_lighten 61 = .ok (.iload_n 2, 1) := by decide +kernel
theorem dX10_lighten_62 : decode cX10_lighten 62 = .ok (.ifCond .lt 69, 3) := by decide +kernel
theorem dX10_lighten_65 : decode cX10_lighten 65 = .ok (.iload_n 1, 1) := by decide +kernel
theorem dX10_lighten_66 : decode cX10_lighten 66 = .ok (.ifCond .eq 29, 3) := by decide +kernel
theorem dX10_lighten_69 : decode cX10_lighten 69 = .ok (.aload_n 0, 1) := by decide +kernel
theorem dX10_lighten_70 : decode cX10_lighten 70 = .ok (.aload_n 0, 1) := by decide +kernel
theorem dX10_lighten_71 : decode cX10_lighten 71 = .ok (.getfield 56, 3) := by decide +kernel
theorem dX10_lighten_74 : decode cX10_lighten 74 = .ok (.aload_n 0, 1) := by decide +kernel
theorem dX10_lighten_75 : decode cX10_lighten 75 = .ok (.getfield 59, 3) := by decide +kernel
theorem dX10_lighten_78 : decode cX10_lighten 78 = .ok (.iload_n 2, 1) := by decide +kernel
theorem dX10_lighten_79 : decode cX10_lighten 79 = .ok (.invokevirtual 171, 3) := by decide +kernel
theorem dX10_lighten_82 : decode cX10_lighten 82 = .ok (.aload_n 0, 1) := by decide +kernel
theorem dX10_lighten_83 : decode cX10_lighten 83 = .ok (.getfield 56, 3) := by decide +kernel
theorem dX10_lighten_86 : decode cX10_lighten 86 = .ok (.bipush 89, 2) := by decide +kernel
theorem dX10_lighten_88 : decode cX10_lighten 88 = .ok (.invokestatic 167, 3) := by decide +kernel
theorem dX10_lighten_91 : decode cX10_lighten 91 = .ok (.istore_n 2, 1) := by decide +kernel
theorem dX10_lighten_92 : decode cX10_lighten 92 = .ok (.goto 26, 3) := by decide +kernel
theorem dX10_lighten_95 : decode cX10_lighten 95 = .ok (.aload_n 0, 1) := by decide +kernel
theorem dX10_lighten_96 : decode cX10_lighten 96 = .ok (.aload_n 0, 1) := by decide +kernel
theorem dX10_lighten_97 : decode cX10_lighten 97 = .ok (.getfield 59, 3) := by decide +kernel
theorem dX10_lighten_100 : decode cX10_lighten 100 = .ok (.aload_n 0, 1) := by decide +kernel
theorem dX10_lighten_101 : decode cX10_lighten 101 = .ok (.getfield 56, 3) := by decide +kernel
theorem dX10_lighten_104 : decode cX10_lighten 104 = .ok (.iload_n 2, 1) := by decide +kernel
theorem dX10_lighten_105 : decode cX10_lighten 105 = .ok (.invokevirtual 171, 3) := by decide +kernel
theorem dX10_lighten_108 : decode cX10_lighten 108 = .ok (.aload_n 0, 1) := by decide +kernel
theorem dX10_lighten_109 : decode cX10_lighten 109 = .ok (.getfield 59, 3) := by decide +kernel
theorem dX10_lighten_112 : decode cX10_lighten 112 = .ok (.bipush 89, 2) := by decide +kernel
theorem dX10_lighten_114 : decode cX10_lighten 114 = .ok (.invokestatic 167, 3) := by decide +kernel
theorem dX10_lighten_117 : decode cX10_lighten 117 = .ok (.istore_n 2, 1) := by decide +kernel
theorem dX10_lighten_118 : decode cX10_lighten 118 = .ok (.iload_n 1, 1) := by decide +kernel
theorem dX10_lighten_119 : decode cX10_lighten 119 = .ok (.ifCond .ne 7, 3) := by decide +kernel
theorem dX10_lighten_122 : decode cX10_lighten 122 = .ok (.iconst 1, 1) := by decide +kernel
theorem dX10_lighten_123 : decode cX10_lighten 123 = .ok (.goto 4, 3) := by decide +kernel
theorem dX10_lighten_126 : decode cX10_lighten 126 = .ok (.iconst 0, 1) := by decide +kernel
theorem dX10_lighten_127 : decode cX10_lighten 127 = .ok (.istore_n 1, 1) := by decide +kernel
theorem dX10_lighten_128 : decode cX10_lighten 128 = .ok (.goto (-67), 3) := by decide +kernel
theorem dX10_lighten_131 : decode cX10_lighten 131 = .ok (.iload_n 1, 1) := by decide +kernel
theorem dX10_lighten_132 : decode cX10_lighten 132 = .ok (.ifCond .eq 10, 3) := by decide +kernel
theorem dX10_lighten_135 : decode cX10_lighten 135 = .ok (.aload_n 0, 1) := by decide +kernel
theorem dX10_lighten_136 : decode cX10_lighten 136 = .ok (.getfield 56, 3) := by decide +kernel
theorem dX10_lighten_139 : decode cX10_lighten 139 = .ok (.goto 7, 3) := by decide +kernel
theorem dX10_lighten_142 : decode cX10_lighten 142 = .ok (.aload_n 0, 1) := by decide +kernel
theorem dX10_lighten_143 : decode cX10_lighten 143 = .ok (.getfield 59, 3) := by decide +kernel
theorem dX10_lighten_146 : decode cX10_lighten 146 = .ok (.astore_n 3, 1) := by decide +kernel
theorem dX10_lighten_147 : decode cX10_lighten 147 = .ok (.aload_n 3, 1) := by decide +kernel
theorem dX10_lighten_148 : decode cX10_lighten 148 = .ok (.bipush 89, 2) := by decide +kernel
theorem dX10_lighten_150 : decode cX10_lighten 150 = .ok (.invokestatic 167, 3) := by decide +kernel
theorem dX10_lighten_153 : decode cX10_lighten 153 = .ok (.ifCond .le 21, 3) := by decide +kernel
theorem dX10_lighten_156 : decode cX10_lighten 156 = .ok (.aload_n 0, 1) := by decide +kernel
theorem dX10_lighten_157 : decode cX10_lighten 157 = .ok (.aload_n 0, 1) := by decide +kernel
theorem dX10_lighten_158 : decode cX10_lighten 158 = .ok (.getfield 35, 3) := by decide +kernel
theorem dX10_lighten_161 : decode cX10_lighten 161 = .ok (.aload_n 3, 1) := by decide +kernel
theorem dX10_lighten_162 : decode cX10_lighten 162 = .ok (.invokevirtual 175, 3) := by decide +kernel
theorem dX10_lighten_165 : decode cX10_lighten 165 = .ok (.aload_n 0, 1) := by decide +kernel
theorem dX10_lighten_166 : decode cX10_lighten 166 = .ok (.aload_n 0, 1) := by decide +kernel
theorem dX10_lighten_167 : decode cX10_lighten 167 = .ok (.getfield 38, 3) := by decide +kernel
theorem dX10_lighten_170 : decode cX10_lighten 170 = .ok (.aload_n 3, 1) := by decide +kernel
theorem dX10_lighten_171 : decode cX10_lighten 171 = .ok (.invokevirtual 175, 3) := by decide +kernel
theorem dX10_lighten_174 : decode cX10_lighten 174 = .ok (.return_, 1) := by decide +kernel
theorem dX10_tell_0 : decode cX10_tell 0 = .ok (.iconst 0, 1) := by decide +kernel
theorem dX10_tell_1 : decode cX10_tell 1 = .ok (.istore_n 1, 1) := by decide +kernel
theorem dX10_tell_2 : decode cX10_tell 2 = .ok (.aload_n 0, 1) := by decide +kernel
theorem dX10_tell_3 : decode cX10_tell 3 = .ok (.getfield 38, 3) := by decide +kernel
theorem dX10_tell_6 : decode cX10_tell 6 = .ok (.iload_n 1, 1) := by decide +kernel
theorem dX10_tell_7 : decode cX10_tell 7 = .ok (.iaload, 1) := by decide +kernel
theorem dX10_tell_8 : decode cX10_tell 8 = .ok (.ifCond .ne 9, 3) := by decide +kernel
theorem dX10_tell_11 : decode cX10_tell 11 = .ok (.iinc 1 1, 3) := by decide +kernel
theorem dX10_tell_14 : decode cX10_tell 14 = .ok (.goto (-12), 3) := by decide +kernel
theorem dX10_tell_17 : decode cX10_tell 17 = .ok (.aload_n 0, 1) := by decide +kernel
theorem dX10_tell_18 : decode cX10_tell 18 = .ok (.aload_n 0, 1) := by decide +kernel
theorem dX10_tell_19 : decode cX10_tell 19 = .ok (.getfield 38, 3) := by decide +kernel
theorem dX10_tell_22 : decode cX10_tell 22 = .ok (.iload_n 1, 1) := by decide +kernel
theorem dX10_tell_23 : decode cX10_tell 23 = .ok (.iaload, 1) := by decide +kernel
theorem dX10_tell_24 : decode cX10_tell 24 = .ok (.invokevirtual 142, 3) := by decide +kernel
theorem dX10_tell_27 : decode cX10_tell 27 = .ok (.istore_n 2, 1) := by decide +kernel
theorem dX10_tell_28 : decode cX10_tell 28 = .ok (.iconst 0, 1) := by decide +kernel
theorem dX10_tell_29 : decode cX10_tell 29 = .ok (.istore_n 3, 1) := by decide +kernel
theorem dX10_tell_30 : decode cX10_tell 30 = .ok (.iload_n 3, 1) := by decide +kernel
theorem dX10_tell_31 : decode cX10_tell 31 = .ok (.bipush 46, 2) := by decide +kernel
theorem dX10_tell_33 : decode cX10_tell 33 = .ok (.if_icmp .ge 43, 3) := by decide +kernel
theorem dX10_tell_36 : decode cX10_tell 36 = .ok (.aload_n 0, 1) := by decide +kernel
theorem dX10_tell_37 : decode cX10_tell 37 = .ok (.getfield 50, 3) := by decide +kernel
theorem dX10_tell_40 : decode cX10_tell 40 = .ok (.iload_n 3, 1) := by decide +kernel
theorem dX10_tell_41 : decode cX10_tell 41 = .ok (.aload_n 0, 1) := by decide +kernel
theorem dX10_tell_42 : decode cX10_tell 42 = .ok (.aload_n 0, 1) := by decide +kernel
theorem dX10_tell_43 : decode cX10_tell 43 = .ok (.getfield 35, 3) := by decide +kernel
theorem dX10_tell_46 : decode cX10_tell 46 = .ok (.iload_n 3, 1) := by decide +kernel
theorem dX10_tell_47 : decode cX10_tell 47 = .ok (.iaload, 1) := by decide +kernel
theorem dX10_tell_48 : decode cX10_tell 48 = .ok (.iload_n 2, 1) := by decide +kernel
theorem dX10_tell_49 : decode cX10_tell 49 = .ok (.invokevirtual 99, 3) := by decide +kernel
theorem dX10_tell_52 : decode cX10_tell 52 = .ok (.iastore, 1) := by decide +kernel
theorem dX10_tell_53 : decode cX10_tell 53 = .ok (.aload_n 0, 1) := by decide +kernel
theorem dX10_tell_54 : decode cX10_tell 54 = .ok (.getfield 53, 3) := by decide +kernel
theorem dX10_tell_57 : decode cX10_tell 57 = .ok (.iload_n 3, 1) := by decide +kernel
theorem dX10_tell_58 : decode cX10_tell 58 = .ok (.aload_n 0, 1) := by decide +kernel
theorem dX10_tell_59 : decode cX10_tell 59 = .ok (.aload_n 0, 1) := by decide +kernel
theorem dX10_tell_60 : decode cX10_tell 60 = .ok (.getfield 38, 3) := by decide +kernel
theorem dX10_tell_63 : decode cX10_tell 63 = .ok (.iload_n 3, 1) := by decide +kernel
theorem dX10_tell_64 : decode cX10_tell 64 = .ok (.iaload, 1) := by decide +kernel
theorem dX10_tell_65 : decode cX10_tell 65 = .ok (.iload_n 2, 1) := by decide +kernel
theorem dX10_tell_66 : decode cX10_tell 66 = .ok (.invokevirtual 99, 3) := by decide +kernel
theorem dX10_tell_69 : decode cX10_tell 69 = .ok (.iastore, 1) := by decide +kernel
theorem dX10_tell_70 : decode cX10_tell 70 = .ok (.iinc 3 1, 3) := by decide +kernel
theorem dX10_tell_73 : decode cX10_tell 73 = .ok (.goto (-43), 3) := by decide +kernel
theorem dX10_tell_76 : decode cX10_tell 76 = .ok (.return_, 1) := by decide +kernel
theorem dX10_findEntry_0 : decode cX10_findEntry 0 = .ok (.iconst 0, 1) := by decide +kernel
theorem dX10_findEntry_1 : decode cX10_findEntry 1 = .ok (.istore 4, 2) := by decide +kernel
theorem dX10_findEntry_3 : decode cX10_findEntry 3 = .ok (.iload 4, 2) := by decide +kernel
theorem dX10_findEntry_5 : decode cX10_findEntry 5 = .ok (.iload_n 3, 1) := by decide +kernel
theorem dX10_findEntry_6 : decode cX10_findEntry 6 = .ok (.if_icmp .ge 64, 3) := by decide +kernel
theorem dX10_findEntry_9 : decode cX10_findEntry 9 = .ok (.iconst 0, 1) := by decide +kernel
theorem dX10_findEntry_10 : decode cX10_findEntry 10 = .ok (.istore 5, 2) := by decide +kernel
theorem dX10_findEntry_12 : decode cX10_findEntry 12 = .ok (.iload 5, 2) := by decide +kernel
theorem dX10_findEntry_14 : decode cX10_findEntry 14 = .ok (.iload_n 3, 1) := by decide +kernel
theorem dX10_findEntry_15 : decode cX10_findEntry 15 = .ok (.if_icmp .gt 49, 3) := by decide +kernel
theorem dX10_findEntry_18 : decode cX10_findEntry 18 = .ok (.iload_n 2, 1) := by decide +kernel
theorem dX10_findEntry_19 : decode cX10_findEntry 19 = .ok (.iconst 1, 1) := by decide +kernel
theorem dX10_findEntry_20 : decode cX10_findEntry 20 = .ok (.iadd, 1) := by decide +kernel
theorem dX10_findEntry_21 : decode cX10_findEntry 21 = .ok (.iload 4, 2) := by decide +kernel
theorem dX10_findEntry_23 : decode cX10_findEntry 23 = .ok (.iadd, 1) := by decide +kernel
theorem dX10_findEntry_24 : decode cX10_findEntry 24 = .ok (.iload 5, 2) := by decide +kernel
theorem dX10_findEntry_26 : decode cX10_findEntry 26 = .ok (.isub, 1) := by decide +kernel
theorem dX10_findEntry_27 : decode cX10_findEntry 27 = .ok (.istore 6, 2) := by decide +kernel
theorem dX10_findEntry_29 : decode cX10_findEntry 29 = .ok (.aload_n 0, 1) := by decide +kernel
theorem dX10_findEntry_30 : decode cX10_findEntry 30 = .ok (.getfield 41, 3) := by decide +kernel
theorem dX10_findEntry_33 : decode cX10_findEntry 33 = .ok (.bipush 44, 2) := by decide +kernel
theorem dX10_findEntry_35 : decode cX10_findEntry 35 = .ok (.iload 4, 2) := by decide +kernel
theorem dX10_findEntry_37 : decode cX10_findEntry 37 = .ok (.imul, 1) := by decide +kernel
theorem dX10_findEntry_38 : decode cX10_findEntry 38 = .ok (.iload 5, 2) := by decide +kernel
theorem dX10_findEntry_40 : decode cX10_findEntry 40 = .ok (.iadd, 1) := by decide +kernel
theorem dX10_findEntry_41 : decode cX10_findEntry 41 = .ok (.iload 6, 2) := by decide +kernel
theorem dX10_findEntry_43 : decode cX10_findEntry 43 = .ok (.ifCond .ge 7, 3) := by decide +kernel
theorem dX10_findEntry_46 : decode cX10_findEntry 46 = .ok (.iconst 0, 1) := by decide +kernel
theorem dX10_findEntry_47 : decode cX10_findEntry 47 = .ok (.goto 10, 3) := by decide +kernel
theorem dX10_findEntry_50 : decode cX10_findEntry 50 = .ok (.aload_n 0, 1) := by decide +kernel
theorem dX10_findEntry_51 : decode cX10_findEntry 51 = .ok (.iload_n 1, 1) := by decide +kernel
theorem dX10_findEntry_52 : decode cX10_findEntry 52 = .ok (.iload 6, 2) := by decide +kernel
theorem dX10_findEntry_54 : decode cX10_findEntry 54 = .ok (.invokevirtual 161, 3) := by decide +kernel
theorem dX10_findEntry_57 : decode cX10_findEntry 57 = .ok (.iastore, 1) := by decide +kernel
theorem dX10_findEntry_58 : decode cX10_findEntry 58 = .ok (.iinc 5 1, 3) := by decide +kernel
theorem dX10_findEntry_61 : decode cX10_findEntry 61 = .ok (.goto (-49), 3) := by decide +kernel
theorem dX10_findEntry_64 : decode cX10_findEntry 64 = .ok (.iinc 4 1, 3) := by decide +kernel
theorem dX10_findEntry_67 : decode cX10_findEntry 67 = .ok (.goto (-64), 3) := by decide +kernel
theorem dX10_findEntry_70 : decode cX10_findEntry 70 = .ok (.aload_n 0, 1) := by decide +kernel
theorem dX10_findEntry_71 : decode cX10_findEntry 71 = .ok (.iload_n 3, 1) := by decide +kernel
theorem dX10_findEntry_72 : decode cX10_findEntry 72 = .ok (.invokevirtual 179, 3) := by decide +kernel
theorem dX10_findEntry_75 : decode cX10_findEntry 75 = .ok (.aload_n 0, 1) := by decide +kernel
theorem dX10_findEntry_76 : decode cX10_findEntry 76 = .ok (.invokevirtual 145, 3) := by decide +kernel
theorem dX10_findEntry_79 : decode cX10_findEntry 79 = .ok (.iconst 0, 1) := by decide +kernel
theorem dX10_findEntry_80 : decode cX10_findEntry 80 = .ok (.istore 4, 2) := by decide +kernel
theorem dX10_findEntry_82 : decode cX10_findEntry 82 = .ok (.iload 4, 2) := by decide +kernel
theorem dX10_findEntry_84 : decode cX10_findEntry 84 = .ok (.iload_n 3, 1) := by decide +kernel
theorem dX10_findEntry_85 : decode cX10_findEntry 85 = .ok (.if_icmp .gt 23, 3) := by decide +kernel
theorem dX10_findEntry_88 : decode cX10_findEntry 88 = .ok (.aload_n 0, 1) := by decide +kernel
theorem dX10_findEntry_89 : decode cX10_findEntry 89 = .ok (.getfield 38, 3) := by decide +kernel
theorem dX10_findEntry_92 : decode cX10_findEntry 92 = .ok (.iload 4, 2) := by decide +kernel
theorem dX10_findEntry_94 : decode cX10_findEntry 94 = .ok (.aload_n 0, 1) := by decide +kernel
theorem dX10_findEntry_95 : decode cX10_findEntry 95 = .ok (.getfield 47, 3) := by decide +kernel
theorem dX10_findEntry_98 : decode cX10_findEntry 98 = .ok (.iload 4, 2) := by decide +kernel
theorem dX10_findEntry_100 : decode cX10_findEntry 100 = .ok (.iaload, 1) := by decide +kernel
theorem dX10_findEntry_101 : decode cX10_findEntry 101 = .ok (.iastore, 1) := by decide +kernel
theorem dX10_findEntry_102 : decode cX10_findEntry 102 = .ok (.iinc 4 1, 3) := by decide +kernel
theorem dX10_findEntry_105 : decode cX10_findEntry 105 = .ok (.goto (-23), 3) := by decide +kernel
theorem dX10_findEntry_108 : decode cX10_findEntry 108 = .ok (.iconst 0, 1) := by decide +kernel
theorem dX10_findEntry_109 : decode cX10_findEntry 109 = .ok (.istore 4, 2) := by decide +kernel
theorem dX10_findEntry_111 : decode cX10_findEntry 111 = .ok (.iload 4, 2) := by decide +kernel
theorem dX10_findEntry_113 : decode cX10_findEntry 113 = .ok (.iload_n 2, 1) := by decide +kernel
theorem dX10_findEntry_114 : decode cX10_findEntry 114 = .ok (.if_icmp .gt 72, 3) := by decide +kernel
theorem dX10_findEntry_117 : decode cX10_findEntry 117 = .ok (.lconst 0, 1) := by decide +kernel
theorem dX10_findEntry_118 : decode cX10_findEntry 118 = .ok (.lstore 5, 2) := by decide +kernel
theorem dX10_findEntry_120 : decode cX10_findEntry 120 = .ok (.iconst 0, 1) := by decide +kernel
theorem dX10_findEntry_121 : decode cX10_findEntry 121 = .ok (.istore 7, 2) := by decide +kernel
theorem dX10_findEntry_123 : decode cX10_findEntry 123 = .ok (.iload 7, 2) := by decide +kernel
theorem dX10_findEntry_125 : decode cX10_findEntry 125 = .ok (.iload_n 3, 1) := by decide +kernel
theorem dX10_findEntry_126 : decode cX10_findEntry 126 = .ok (.if_icmp .gt 41, 3) := by decide +kernel
theorem dX10_findEntry_129 : decode cX10_findEntry 129 = .ok (.iload 7, 2) := by decide +kernel
theorem dX10_findEntry_131 : decode cX10_findEntry 131 = .ok (.iload 4, 2) := by decide +kernel
theorem dX10_findEntry_133 : decode cX10_findEntry 133 = .ok (.if_icmp .gt 34, 3) := by decide +kernel
theorem dX10_findEntry_136 : decode cX10_findEntry 136 = .ok (.lload 5, 2) := by decide +kernel
theorem dX10_findEntry_138 : decode cX10_findEntry 138 = .ok (.aload_n 0, 1) := by decide +kernel
theorem dX10_findEntry_139 : decode cX10_findEntry 139 = .ok (.getfield 38, 3) := by decide +kernel
theorem dX10_findEntry_142 : decode cX10_findEntry 142 = .ok (.iload 7, 2) := by decide +kernel
theorem dX10_findEntry_144 : decode cX10_findEntry 144 = .ok (.iaload, 1) := by decide +kernel
theorem dX10_findEntry_145 : decode cX10_findEntry 145 = .ok (.i2l, 1) := by decide +kernel
theorem dX10_findEntry_146 : decode cX10_findEntry 146 = .ok (.aload_n 0, 1) := by decide +kernel
theorem dX10_findEntry_147 : decode cX10_findEntry 147 = .ok (.iload_n 1, 1) := by decide +kernel
theorem dX10_findEntry_148 : decode cX10_findEntry 148 = .ok (.iload 4, 2) := by decide +kernel
theorem dX10_findEntry_150 : decode cX10_findEntry 150 = .ok (.iload 7, 2) := by decide +kernel
theorem dX10_findEntry_152 : decode cX10_findEntry 152 = .ok (.isub, 1) := by decide +kernel
theorem dX10_findEntry_153 : decode cX10_findEntry 153 = .ok (.invokevirtual 161, 3) := by decide +kernel
theorem dX10_findEntry_156 : decode cX10_findEntry 156 = .ok (.i2l, 1) := by decide +kernel
theorem dX10_findEntry_157 : decode cX10_findEntry 157 = .ok (.lmul, 1) := by decide +kernel
theorem dX10_findEntry_158 : decode cX10_findEntry 158 = .ok (.ladd, 1) := by decide +kernel
theorem dX10_findEntry_159 : decode cX10_findEntry 159 = .ok (.lstore 5, 2) := by decide +kernel
theorem dX10_findEntry_161 : decode cX10_findEntry 161 = .ok (.iinc 7 1, 3) := by decide +kernel
theorem dX10_findEntry_164 : decode cX10_findEntry 164 = .ok (.goto (-41), 3) := by decide +kernel
theorem dX10_findEntry_167 : decode cX10_findEntry 167 = .ok (.aload_n 0, 1) := by decide +kernel
theorem dX10_findEntry_168 : decode cX10_findEntry 168 = .ok (.getfield 35, 3) := by decide +kernel
theorem dX10_findEntry_171 : decode cX10_findEntry 171 = .ok (.iload 4, 2) := by decide +kernel
theorem dX10_findEntry_173 : decode cX10_findEntry 173 = .ok (.aload_n 0, 1) := by decide +kernel
theorem dX10_findEntry_174 : decode cX10_findEntry 174 = .ok (.lload 5, 2) := by decide +kernel
theorem dX10_findEntry_176 : decode cX10_findEntry 176 = .ok (.invokevirtual 135, 3) := by decide +kernel
theorem dX10_findEntry_179 : decode cX10_findEntry 179 = .ok (.iastore, 1) := by decide +kernel
theorem dX10_findEntry_180 : decode cX10_findEntry 180 = .ok (.iinc 4 1, 3) := by decide +kernel
theorem dX10_findEntry_183 : decode cX10_findEntry 183 = .ok (.goto (-72), 3) := by decide +kernel
theorem dX10_findEntry_186 : decode cX10_findEntry 186 = .ok (.aload_n 0, 1) := by decide +kernel
theorem dX10_findEntry_187 : decode cX10_findEntry 187 = .ok (.invokevirtual 183, 3) := by decide +kernel
theorem dX10_findEntry_190 : decode cX10_findEntry 190 = .ok (.aload_n 0, 1) := by decide +kernel
theorem dX10_findEntry_191 : decode cX10_findEntry 191 = .ok (.invokevirtual 186, 3) := by decide +kernel
theorem dX10_findEntry_194 : decode cX10_findEntry 194 = .ok (.return_, 1) := by decide +kernel
theorem dX10_agrees_0 : decode cX10_agrees 0 = .ok (.aload_n 0, 1) := by decide +kernel
theorem dX10_agrees_1 : decode cX10_agrees 1 = .ok (.invokevirtual 152, 3) := by decide +kernel
theorem dX10_agrees_4 : decode cX10_agrees 4 = .ok (.aload_n 0, 1) := by decide +kernel
theorem dX10_agrees_5 : decode cX10_agrees 5 = .ok (.aload_n 0, 1) := by decide +kernel
theorem dX10_agrees_6 : decode cX10_agrees 6 = .ok (.getfield 62, 3) := by decide +kernel
theorem dX10_agrees_9 : decode cX10_agrees 9 = .ok (.aload_n 0, 1) := by decide +kernel
theorem dX10_agrees_10 : decode cX10_agrees 10 = .ok (.getfield 26, 3) := by decide +kernel
theorem dX10_agrees_13 : decode cX10_agrees 13 = .ok (.iload_n 1, 1) := by decide +kernel
theorem dX10_agrees_14 : decode cX10_agrees 14 = .ok (.iaload, 1) := by decide +kernel
theorem dX10_agrees_15 : decode cX10_agrees 15 = .ok (.invokevirtual 148, 3) := by decide +kernel
theorem dX10_agrees_18 : decode cX10_agrees 18 = .ok (.iconst 0, 1) := by decide +kernel
theorem dX10_agrees_19 : decode cX10_agrees 19 = .ok (.istore_n 2, 1) := by decide +kernel
theorem dX10_agrees_20 : decode cX10_agrees 20 = .ok (.iload_n 2, 1) := by decide +kernel
theorem dX10_agrees_21 : decode cX10_agrees 21 = .ok (.aload_n 0, 1) := by decide +kernel
theorem dX10_agrees_22 : decode cX10_agrees 22 = .ok (.getfield 26, 3) := by decide +kernel
theorem dX10_agrees_25 : decode cX10_agrees 25 = .ok (.iload_n 1, 1) := by decide +kernel
theorem dX10_agrees_26 : decode cX10_agrees 26 = .ok (.iaload, 1) := by decide +kernel
theorem dX10_agrees_27 : decode cX10_agrees 27 = .ok (.if_icmp .gt 24, 3) := by decide +kernel
theorem dX10_agrees_30 : decode cX10_agrees 30 = .ok (.aload_n 0, 1) := by decide +kernel
theorem dX10_agrees_31 : decode cX10_agrees 31 = .ok (.getfield 62, 3) := by decide +kernel
theorem dX10_agrees_34 : decode cX10_agrees 34 = .ok (.iload_n 2, 1) := by decide +kernel
theorem dX10_agrees_35 : decode cX10_agrees 35 = .ok (.iaload, 1) := by decide +kernel
theorem dX10_agrees_36 : decode cX10_agrees 36 = .ok (.aload_n 0, 1) := by decide +kernel
theorem dX10_agrees_37 : decode cX10_agrees 37 = .ok (.iload_n 1, 1) := by decide +kernel
theorem dX10_agrees_38 : decode cX10_agrees 38 = .ok (.iload_n 2, 1) := by decide +kernel
theorem dX10_agrees_39 : decode cX10_agrees 39 = .ok (.invokevirtual 161, 3) := by decide +kernel
theorem dX10_agrees_42 : decode cX10_agrees 42 = .ok (.if_icmp .ne 9, 3) := by decide +kernel
theorem dX10_agrees_45 : decode cX10_agrees 45 = .ok (.iinc 2 1, 3) := by decide +kernel
theorem dX10_agrees_48 : decode cX10_agrees 48 = .ok (.goto (-28), 3) := by decide +kernel
theorem dX10_agrees_51 : decode cX10_agrees 51 = .ok (.iload_n 2, 1) := by decide +kernel
theorem dX10_agrees_52 : decode cX10_agrees 52 = .ok (.ireturn, 1) := by decide +kernel
theorem dX10_isPair_0 : decode cX10_isPair 0 = .ok (.iload_n 2, 1) := by decide +kernel
theorem dX10_isPair_1 : decode cX10_isPair 1 = .ok (.ifCond .lt 27, 3) := by decide +kernel
theorem dX10_isPair_4 : decode cX10_isPair 4 = .ok (.iload_n 3, 1) := by decide +kernel
theorem dX10_isPair_5 : decode cX10_isPair 5 = .ok (.ifCond .lt 23, 3) := by decide +kernel
theorem dX10_isPair_8 : decode cX10_isPair 8 = .ok (.iload_n 2, 1) := by decide +kernel
theorem dX10_isPair_9 : decode cX10_isPair 9 = .ok (.i2l, 1) := by decide +kernel
theorem dX10_isPair_10 : decode cX10_isPair 10 = .ok (.iload_n 3, 1) := by decide +kernel
theorem dX10_isPair_11 : decode cX10_isPair 11 = .ok (.i2l, 1) := by decide +kernel
theorem dX10_isPair_12 : decode cX10_isPair 12 = .ok (.ladd, 1) := by decide +kernel
theorem dX10_isPair_13 : decode cX10_isPair 13 = .ok (.aload_n 0, 1) := by decide +kernel
theorem dX10_isPair_14 : decode cX10_isPair 14 = .ok (.getfield 26, 3) := by decide +kernel
theorem dX10_isPair_17 : decode cX10_isPair 17 = .ok (.iload_n 1, 1) := by decide +kernel
theorem dX10_isPair_18 : decode cX10_isPair 18 = .ok (.iaload, 1) := by decide +kernel
theorem dX10_isPair_19 : decode cX10_isPair 19 = .ok (.i2l, 1) := by decide +kernel
theorem dX10_isPair_20 : decode cX10_isPair 20 = .ok (.lcmp, 1) := by decide +kernel
theorem dX10_isPair_21 : decode cX10_isPair 21 = .ok (.ifCond .gt 7, 3) := by decide +kernel
theorem dX10_isPair_24 : decode cX10_isPair 24 = .ok (.iconst 1, 1) := by decide +kernel
theorem dX10_isPair_25 : decode cX10_isPair 25 = .ok (.goto 4, 3) := by decide +kernel
theorem dX10_isPair_28 : decode cX10_isPair 28 = .ok (.iconst 0, 1) := by decide +kernel
theorem dX10_isPair_29 : decode cX10_isPair 29 = .ok (.ireturn, 1) := by decide +kernel
theorem dX10_entry_0 : decode cX10_entry 0 = .ok (.aload_n 0, 1) := by decide +kernel
theorem dX10_entry_1 : decode cX10_entry 1 = .ok (.iload_n 1, 1) := by decide +kernel
theorem dX10_entry_2 : decode cX10_entry 2 = .ok (.invokevirtual 155, 3) := by decide +kernel
theorem dX10_entry_5 : decode cX10_entry 5 = .ok (.ifCond .ne 6, 3) := by decide +kernel
theorem dX10_entry_8 : decode cX10_entry 8 = .ok (.bipush (-101), 2) := by decide +kernel
theorem dX10_entry_10 : decode cX10_entry 10 = .ok (.ireturn, 1) := by decide +kernel
theorem dX10_entry_11 : decode cX10_entry 11 = .ok (.aload_n 0, 1) := by decide +kernel
theorem dX10_entry_12 : decode cX10_entry 12 = .ok (.iload_n 1, 1) := by decide +kernel
theorem dX10_entry_13 : decode cX10_entry 13 = .ok (.iload_n 2, 1) := by decide +kernel
theorem dX10_entry_14 : decode cX10_entry 14 = .ok (.iload_n 3, 1) := by decide +kernel
theorem dX10_entry_15 : decode cX10_entry 15 = .ok (.invokevirtual 189, 3) := by decide +kernel
theorem dX10_entry_18 : decode cX10_entry 18 = .ok (.ifCond .ne 6, 3) := by decide +kernel
theorem dX10_entry_21 : decode cX10_entry 21 = .ok (.bipush (-102), 2) := by decide +kernel
theorem dX10_entry_23 : decode cX10_entry 23 = .ok (.ireturn, 1) := by decide +kernel
theorem dX10_entry_24 : decode cX10_entry 24 = .ok (.aload_n 0, 1) := by decide +kernel
theorem dX10_entry_25 : decode cX10_entry 25 = .ok (.iload_n 1, 1) := by decide +kernel
theorem dX10_entry_26 : decode cX10_entry 26 = .ok (.iload_n 2, 1) := by decide +kernel
theorem dX10_entry_27 : decode cX10_entry 27 = .ok (.iload_n 3, 1) := by decide +kernel
theorem dX10_entry_28 : decode cX10_entry 28 = .ok (.invokevirtual 193, 3) := by decide +kernel
theorem dX10_entry_31 : decode cX10_entry 31 = .ok (.aload_n 0, 1) := by decide +kernel
theorem dX10_entry_32 : decode cX10_entry 32 = .ok (.iload_n 1, 1) := by decide +kernel
theorem dX10_entry_33 : decode cX10_entry 33 = .ok (.invokevirtual 197, 3) := by decide +kernel
theorem dX10_entry_36 : decode cX10_entry 36 = .ok (.ireturn, 1) := by decide +kernel
theorem dX10_worth_0 : decode cX10_worth 0 = .ok (.aload_n 0, 1) := by decide +kernel
theorem dX10_worth_1 : decode cX10_worth 1 = .ok (.iload_n 1, 1) := by decide +kernel
theorem dX10_worth_2 : decode cX10_worth 2 = .ok (.invokevirtual 155, 3) := by decide +kernel
theorem dX10_worth_5 : decode cX10_worth 5 = .ok (.ifCond .ne 6, 3) := by decide +kernel
theorem dX10_worth_8 : decode cX10_worth 8 = .ok (.bipush (-101), 2) := by decide +kernel
theorem dX10_worth_10 : decode cX10_worth 10 = .ok (.ireturn, 1) := by decide +kernel
theorem dX10_worth_11 : decode cX10_worth 11 = .ok (.aload_n 0, 1) := by decide +kernel
theorem dX10_worth_12 : decode cX10_worth 12 = .ok (.iload_n 1, 1) := by decide +kernel
theorem dX10_worth_13 : decode cX10_worth 13 = .ok (.iload_n 2, 1) := by decide +kernel
theorem dX10_worth_14 : decode cX10_worth 14 = .ok (.iload_n 3, 1) := by decide +kernel
theorem dX10_worth_15 : decode cX10_worth 15 = .ok (.invokevirtual 189, 3) := by decide +kernel
theorem dX10_worth_18 : decode cX10_worth 18 = .ok (.ifCond .ne 6, 3) := by decide +kernel
theorem dX10_worth_21 : decode cX10_worth 21 = .ok (.bipush (-102), 2) := by decide +kernel
theorem dX10_worth_23 : decode cX10_worth 23 = .ok (.ireturn, 1) := by decide +kernel
theorem dX10_worth_24 : decode cX10_worth 24 = .ok (.iconst 0, 1) := by decide +kernel
theorem dX10_worth_25 : decode cX10_worth 25 = .ok (.istore 4, 2) := by decide +kernel
theorem dX10_worth_27 : decode cX10_worth 27 = .ok (.iload 4, 2) := by decide +kernel
theorem dX10_worth_29 : decode cX10_worth 29 = .ok (.iload_n 3, 1) := by decide +kernel
theorem dX10_worth_30 : decode cX10_worth 30 = .ok (.if_icmp .ge 62, 3) := by decide +kernel
theorem dX10_worth_33 : decode cX10_worth 33 = .ok (.iconst 0, 1) := by decide +kernel
theorem dX10_worth_34 : decode cX10_worth 34 = .ok (.istore 5, 2) := by decide +kernel
theorem dX10_worth_36 : decode cX10_worth 36 = .ok (.iload 5, 2) := by decide +kernel
theorem dX10_worth_38 : decode cX10_worth 38 = .ok (.iload_n 3, 1) := by decide +kernel
theorem dX10_worth_39 : decode cX10_worth 39 = .ok (.if_icmp .ge 47, 3) := by decide +kernel
theorem dX10_worth_42 : decode cX10_worth 42 = .ok (.iload_n 2, 1) := by decide +kernel
theorem dX10_worth_43 : decode cX10_worth 43 = .ok (.iload 4, 2) := by decide +kernel
theorem dX10_worth_45 : decode cX10_worth 45 = .ok (.iadd, 1) := by decide +kernel
theorem dX10_worth_46 : decode cX10_worth 46 = .ok (.iload 5, 2) := by decide +kernel
theorem dX10_worth_48 : decode cX10_worth 48 = .ok (.isub, 1) := by decide +kernel
theorem dX10_worth_49 : decode cX10_worth 49 = .ok (.istore 6, 2) := by decide +kernel
theorem dX10_worth_51 : decode cX10_worth 51 = .ok (.aload_n 0, 1) := by decide +kernel
theorem dX10_worth_52 : decode cX10_worth 52 = .ok (.getfield 41, 3) := by decide +kernel
theorem dX10_worth_55 : decode cX10_worth 55 = .ok (.bipush 44, 2) := by decide +kernel
theorem dX10_worth_57 : decode cX10_worth 57 = .ok (.iload 4, 2) := by decide +kernel
theorem dX10_worth_59 : decode cX10_worth 59 = .ok (.imul, 1) := by decide +kernel
theorem dX10_worth_60 : decode cX10_worth 60 = .ok (.iload 5, 2) := by decide +kernel
theorem dX10_worth_62 : decode cX10_worth 62 = .ok (.iadd, 1) := by decide +kernel
theorem dX10_worth_63 : decode cX10_worth 63 = .ok (.iload 6, 2) := by decide +kernel
theorem dX10_worth_65 : decode cX10_worth 65 = .ok (.ifCond .ge 7, 3) := by decide +kernel
theorem dX10_worth_68 : decode cX10_worth 68 = .ok (.iconst 0, 1) := by decide +kernel
theorem dX10_worth_69 : decode cX10_worth 69 = .ok (.goto 10, 3) := by decide +kernel
theorem dX10_worth_72 : decode cX10_worth 72 = .ok (.aload_n 0, 1) := by decide +kernel
theorem dX10_worth_73 : decode cX10_worth 73 = .ok (.iload_n 1, 1) := by decide +kernel
theorem dX10_worth_74 : decode cX10_worth 74 = .ok (.iload 6, 2) := by decide +kernel
theorem dX10_worth_76 : decode cX10_worth 76 = .ok (.invokevirtual 161, 3) := by decide +kernel
theorem dX10_worth_79 : decode cX10_worth 79 = .ok (.iastore, 1) := by decide +kernel
theorem dX10_worth_80 : decode cX10_worth 80 = .ok (.iinc 5 1, 3) := by decide +kernel
theorem dX10_worth_83 : decode cX10_worth 83 = .ok (.goto (-47), 3) := by decide +kernel
theorem dX10_worth_86 : decode cX10_worth 86 = .ok (.iinc 4 1, 3) := by decide +kernel
theorem dX10_worth_89 : decode cX10_worth 89 = .ok (.goto (-62), 3) := by decide +kernel
theorem dX10_worth_92 : decode cX10_worth 92 = .ok (.iconst 1, 1) := by decide +kernel
theorem dX10_worth_93 : decode cX10_worth 93 = .ok (.aload_n 0, 1) := by decide +kernel
theorem dX10_worth_94 : decode cX10_worth 94 = .ok (.getfield 92, 3) := by decide +kernel
theorem dX10_worth_97 : decode cX10_worth 97 = .ok (.irem, 1) := by decide +kernel
theorem dX10_worth_98 : decode cX10_worth 98 = .ok (.istore 4, 2) := by decide +kernel
theorem dX10_worth_100 : decode cX10_worth 100 = .ok (.iconst 0, 1) := by decide +kernel
theorem dX10_worth_101 : decode cX10_worth 101 = .ok (.istore 5, 2) := by decide +kernel
theorem dX10_worth_103 : decode cX10_worth 103 = .ok (.iload 5, 2) := by decide +kernel
theorem dX10_worth_105 : decode cX10_worth 105 = .ok (.iload_n 3, 1) := by decide +kernel
theorem dX10_worth_106 : decode cX10_worth 106 = .ok (.if_icmp .ge 282, 3) := by decide +kernel
theorem dX10_worth_109 : decode cX10_worth 109 = .ok (.iload 5, 2) := by decide +kernel
theorem dX10_worth_111 : decode cX10_worth 111 = .ok (.istore 6, 2) := by decide +kernel
theorem dX10_worth_113 : decode cX10_worth 113 = .ok (.iload 6, 2) := by decide +kernel
theorem dX10_worth_115 : decode cX10_worth 115 = .ok (.iload_n 3, 1) := by decide +kernel
theorem dX10_worth_116 : decode cX10_worth 116 = .ok (.if_icmp .ge 25, 3) := by decide +kernel
theorem dX10_worth_119 : decode cX10_worth 119 = .ok (.aload_n 0, 1) := by decide +kernel
theorem dX10_worth_120 : decode cX10_worth 120 = .ok (.getfield 41, 3) := by decide +kernel
theorem dX10_worth_123 : decode cX10_worth 123 = .ok (.bipush 44, 2) := by decide +kernel
theorem dX10_worth_125 : decode cX10_worth 125 = .ok (.iload 6, 2) := by decide +kernel
theorem dX10_worth_127 : decode cX10_worth 127 = .ok (.imul, 1) := by decide +kernel
theorem dX10_worth_128 : decode cX10_worth 128 = .ok (.iload 5, 2) := by decide +kernel
theorem dX10_worth_130 : decode cX10_worth 130 = .ok (.iadd, 1) := by decide +kernel
theorem dX10_worth_131 : decode cX10_worth 131 = .ok (.iaload, 1) := by decide +kernel
theorem dX10_worth_132 : decode cX10_worth 132 = .ok (.ifCond .ne 9, 3) := by decide +kernel
theorem dX10_worth_135 : decode cX10_worth 135 = .ok (.iinc 6 1, 3) := by decide +kernel
theorem dX10_worth_138 : decode cX10_worth 138 = .ok (.goto (-25), 3) := by decide +kernel
theorem dX10_worth_141 : decode cX10_worth 141 = .ok (.iload 6, 2) := by decide +kernel
theorem dX10_worth_143 : decode cX10_worth 143 = .ok (.iload_n 3, 1) := by decide +kernel
theorem dX10_worth_144 : decode cX10_worth 144 = .ok (.if_icmp .ne 5, 3) := by decide +kernel
theorem dX10_worth_147 : decode cX10_worth 147 = .ok (.iconst 0, 1) := by decide +kernel
theorem dX10_worth_148 : decode cX10_worth 148 = .ok (.ireturn, 1) := by decide +kernel
theorem dX10_worth_149 : decode cX10_worth 149 = .ok (.iload 6, 2) := by decide +kernel
theorem dX10_worth_151 : decode cX10_worth 151 = .ok (.iload 5, 2) := by decide +kernel
theorem dX10_worth_153 : decode cX10_worth 153 = .ok (.if_icmp .eq 84, 3) := by decide +kernel
theorem dX10_worth_156 : decode cX10_worth 156 = .ok (.iconst 0, 1) := by decide +kernel
theorem dX10_worth_157 : decode cX10_worth 157 = .ok (.istore 7, 2) := by decide +kernel
theorem dX10_worth_159 : decode cX10_worth 159 = .ok (.iload 7, 2) := by decide +kernel
theorem dX10_worth_161 : decode cX10_worth 161 = .ok (.iload_n 3, 1) := by decide +kernel
theorem dX10_worth_162 : decode cX10_worth 162 = .ok (.if_icmp .ge 65, 3) := by decide +kernel
theorem dX10_worth_165 : decode cX10_worth 165 = .ok (.aload_n 0, 1) := by decide +kernel
theorem dX10_worth_166 : decode cX10_worth 166 = .ok (.getfield 41, 3) := by decide +kernel
theorem dX10_worth_169 : decode cX10_worth 169 = .ok (.bipush 44, 2) := by decide +kernel
theorem dX10_worth_171 : decode cX10_worth 171 = .ok (.iload 6, 2) := by decide +kernel
theorem dX10_worth_173 : decode cX10_worth 173 = .ok (.imul, 1) := by decide +kernel
theorem dX10_worth_174 : decode cX10_worth 174 = .ok (.iload 7, 2) := by decide +kernel
theorem dX10_worth_176 : decode cX10_worth 176 = .ok (.iadd, 1) := by decide +kernel
theorem dX10_worth_177 : decode cX10_worth 177 = .ok (.iaload, 1) := by decide +kernel
theorem dX10_worth_178 : decode cX10_worth 178 = .ok (.istore 8, 2) := by decide +kernel
theorem dX10_worth_180 : decode cX10_worth 180 = .ok (.aload_n 0, 1) := by decide +kernel
theorem dX10_worth_181 : decode cX10_worth 181 = .ok (.getfield 41, 3) := by decide +kernel
theorem dX10_worth_184 : decode cX10_worth 184 = .ok (.bipush 44, 2) := by decide +kernel
theorem dX10_worth_186 : decode cX10_worth 186 = .ok (.iload 6, 2) := by decide +kernel
theorem dX10_worth_188 : decode cX10_worth 188 = .ok (.imul, 1) := by decide +kernel
theorem dX10_worth_189 : decode cX10_worth 189 = .ok (.iload 7, 2) := by decide +kernel
theorem dX10_worth_191 : decode cX10_worth 191 = .ok (.iadd, 1) := by decide +kernel
theorem dX10_worth_192 : decode cX10_worth 192 = .ok (.aload_n 0, 1) := by decide +kernel
theorem dX10_worth_193 : decode cX10_worth 193 = .ok (.getfield 41, 3) := by decide +kernel
theorem dX10_worth_196 : decode cX10_worth 196 = .ok (.bipush 44, 2) := by decide +kernel
theorem dX10_worth_198 : decode cX10_worth 198 = .ok (.iload 5, 2) := by decide +kernel
theorem dX10_worth_200 : decode cX10_worth 200 = .ok (.imul, 1) := by decide +kernel
theorem dX10_worth_201 : decode cX10_worth 201 = .ok (.iload 7, 2) := by decide +kernel
theorem dX10_worth_203 : decode cX10_worth 203 = .ok (.iadd, 1) := by decide +kernel
theorem dX10_worth_204 : decode cX10_worth 204 = .ok (.iaload, 1) := by decide +kernel
theorem dX10_worth_205 : decode cX10_worth 205 = .ok (.iastore, 1) := by decide +kernel
theorem dX10_worth_206 : decode cX10_worth 206 = .ok (.aload_n 0, 1) := by decide +kernel
theorem dX10_worth_207 : decode cX10_worth 207 = .ok (.getfield 41, 3) := by decide +kernel
theorem dX10_worth_210 : decode cX10_worth 210 = .ok (.bipush 44, 2) := by decide +kernel
theorem dX10_worth_212 : decode cX10_worth 212 = .ok (.iload 5, 2) := by decide +kernel
theorem dX10_worth_214 : decode cX10_worth 214 = .ok (.imul, 1) := by decide +kernel
theorem dX10_worth_215 : decode cX10_worth 215 = .ok (.iload 7, 2) := by decide +kernel
theorem dX10_worth_217 : decode cX10_worth 217 = .ok (.iadd, 1) := by decide +kernel
theorem dX10_worth_218 : decode cX10_worth 218 = .ok (.iload 8, 2) := by decide +kernel
theorem dX10_worth_220 : decode cX10_worth 220 = .ok (.iastore, 1) := by decide +kernel
theorem dX10_worth_221 : decode cX10_worth 221 = .ok (.iinc 7 1, 3) := by decide +kernel
theorem dX10_worth_224 : decode cX10_worth 224 = .ok (.goto (-65), 3) := by decide +kernel
theorem dX10_worth_227 : decode cX10_worth 227 = .ok (.aload_n 0, 1) := by decide +kernel
theorem dX10_worth_228 : decode cX10_worth 228 = .ok (.iload 4, 2) := by decide +kernel
theorem dX10_worth_230 : decode cX10_worth 230 = .ok (.ineg, 1) := by decide +kernel
theorem dX10_worth_231 : decode cX10_worth 231 = .ok (.i2l, 1) := by decide +kernel
theorem dX10_worth_232 : decode cX10_worth 232 = .ok (.invokevirtual 135, 3) := by decide +kernel
theorem dX10_worth_235 : decode cX10_worth 235 = .ok (.istore 4, 2) := by decide +kernel
theorem dX10_worth_237 : decode cX10_worth 237 = .ok (.aload_n 0, 1) := by decide +kernel
theorem dX10_worth_238 : decode cX10_worth 238 = .ok (.aload_n 0, 1) := by decide +kernel
theorem dX10_worth_239 : decode cX10_worth 239 = .ok (.getfield 41, 3) := by decide +kernel
theorem dX10_worth_242 : decode cX10_worth 242 = .ok (.bipush 44, 2) := by decide +kernel
theorem dX10_worth_244 : decode cX10_worth 244 = .ok (.iload 5, 2) := by decide +kernel
theorem dX10_worth_246 : decode cX10_worth 246 = .ok (.imul, 1) := by decide +kernel
theorem dX10_worth_247 : decode cX10_worth 247 = .ok (.iload 5, 2) := by decide +kernel
theorem dX10_worth_249 : decode cX10_worth 249 = .ok (.iadd, 1) := by decide +kernel
theorem dX10_worth_250 : decode cX10_worth 250 = .ok (.iaload, 1) := by decide +kernel
theorem dX10_worth_251 : decode cX10_worth 251 = .ok (.invokevirtual 142, 3) := by decide +kernel
theorem dX10_worth_254 : decode cX10_worth 254 = .ok (.istore 7, 2) := by decide +kernel
theorem dX10_worth_256 : decode cX10_worth 256 = .ok (.aload_n 0, 1) := by decide +kernel
theorem dX10_worth_257 : decode cX10_worth 257 = .ok (.iload 4, 2) := by decide +kernel
theorem dX10_worth_259 : decode cX10_worth 259 = .ok (.aload_n 0, 1) := by decide +kernel
theorem dX10_worth_260 : decode cX10_worth 260 = .ok (.getfield 41, 3) := by decide +kernel
theorem dX10_worth_263 : decode cX10_worth 263 = .ok (.bipush 44, 2) := by decide +kernel
theorem dX10_worth_265 : decode cX10_worth 265 = .ok (.iload 5, 2) := by decide +kernel
theorem dX10_worth_267 : decode cX10_worth 267 = .ok (.imul, 1) := by decide +kernel
theorem dX10_worth_268 : decode cX10_worth 268 = .ok (.iload 5, 2) := by decide +kernel
theorem dX10_worth_270 : decode cX10_worth 270 = .ok (.iadd, 1) := by decide +kernel
theorem dX10_worth_271 : decode cX10_worth 271 = .ok (.iaload, 1) := by decide +kernel
theorem dX10_worth_272 : decode cX10_worth 272 = .ok (.invokevirtual 99, 3) := by decide +kernel
theorem dX10_worth_275 : decode cX10_worth 275 = .ok (.istore 4, 2) := by decide +kernel
theorem dX10_worth_277 : decode cX10_worth 277 = .ok (.iload 5, 2) := by decide +kernel
theorem dX10_worth_279 : decode cX10_worth 279 = .ok (.iconst 1, 1) := by decide +kernel
theorem dX10_worth_280 : decode cX10_worth 280 = .ok (.iadd, 1) := by decide +kernel
theorem dX10_worth_281 : decode cX10_worth 281 = .ok (.istore 8, 2) := by decide +kernel
theorem dX10_worth_283 : decode cX10_worth 283 = .ok (.iload 8, 2) := by decide +kernel
theorem dX10_worth_285 : decode cX10_worth 285 = .ok (.iload_n 3, 1) := by decide +kernel
theorem dX10_worth_286 : decode cX10_worth 286 = .ok (.if_icmp .ge 96, 3) := by decide +kernel
theorem dX10_worth_289 : decode cX10_worth 289 = .ok (.aload_n 0, 1) := by decide +kernel
theorem dX10_worth_290 : decode cX10_worth 290 = .ok (.aload_n 0, 1) := by decide +kernel
theorem dX10_worth_291 : decode cX10_worth 291 = .ok (.getfield 41, 3) := by decide +kernel
theorem dX10_worth_294 : decode cX10_worth 294 = .ok (.bipush 44, 2) := by decide +kernel
theorem dX10_worth_296 : decode cX10_worth 296 = .ok (.iload 8, 2) := by decide +kernel
theorem dX10_worth_298 : decode cX10_worth 298 = .ok (.imul, 1) := by decide +kernel
theorem dX10_worth_299 : decode cX10_worth 299 = .ok (.iload 5, 2) := by decide +kernel
theorem dX10_worth_301 : decode cX10_worth 301 = .ok (.iadd, 1) := by decide +kernel
theorem dX10_worth_302 : decode cX10_worth 302 = .ok (.iaload, 1) := by decide +kernel
theorem dX10_worth_303 : decode cX10_worth 303 = .ok (.iload 7, 2) := by decide +kernel
theorem dX10_worth_305 : decode cX10_worth 305 = .ok (.invokevirtual 99, 3) := by decide +kernel
theorem dX10_worth_308 : decode cX10_worth 308 = .ok (.istore 9, 2) := by decide +kernel
theorem dX10_worth_310 : decode cX10_worth 310 = .ok (.iload 5, 2) := by decide +kernel
theorem dX10_worth_312 : decode cX10_worth 312 = .ok (.istore 10, 2) := by decide +kernel
theorem dX10_worth_314 : decode cX10_worth 314 = .ok (.iload 10, 2) := by decide +kernel
theorem dX10_worth_316 : decode cX10_worth 316 = .ok (.iload_n 3, 1) := by decide +kernel
theorem dX10_worth_317 : decode cX10_worth 317 = .ok (.if_icmp .ge 59, 3) := by decide +kernel
theorem dX10_worth_320 : decode cX10_worth 320 = .ok (.aload_n 0, 1) := by decide +kernel
theorem dX10_worth_321 : decode cX10_worth 321 = .ok (.getfield 41, 3) := by decide +kernel
theorem dX10_worth_324 : decode cX10_worth 324 = .ok (.bipush 44, 2) := by decide +kernel
theorem dX10_worth_326 : decode cX10_worth 326 = .ok (.iload 8, 2) := by decide +kernel
theorem dX10_worth_328 : decode cX10_worth 328 = .ok (.imul, 1) := by decide +kernel
theorem dX10_worth_329 : decode cX10_worth 329 = .ok (.iload 10, 2) := by decide +kernel
theorem dX10_worth_331 : decode cX10_worth 331 = .ok (.iadd, 1) := by decide +kernel
theorem dX10_worth_332 : decode cX10_worth 332 = .ok (.aload_n 0, 1) := by decide +kernel
theorem dX10_worth_333 : decode cX10_worth 333 = .ok (.aload_n 0, 1) := by decide +kernel
theorem dX10_worth_334 : decode cX10_worth 334 = .ok (.getfield 41, 3) := by decide +kernel
theorem dX10_worth_337 : decode cX10_worth 337 = .ok (.bipush 44, 2) := by decide +kernel
theorem dX10_worth_339 : decode cX10_worth 339 = .ok (.iload 8, 2) := by decide +kernel
theorem dX10_worth_341 : decode cX10_worth 341 = .ok (.imul, 1) := by decide +kernel
theorem dX10_worth_342 : decode cX10_worth 342 = .ok (.iload 10, 2) := by decide +kernel
theorem dX10_worth_344 : decode cX10_worth 344 = .ok (.iadd, 1) := by decide +kernel
theorem dX10_worth_345 : decode cX10_worth 345 = .ok (.iaload, 1) := by decide +kernel
theorem dX10_worth_346 : decode cX10_worth 346 = .ok (.i2l, 1) := by decide +kernel
theorem dX10_worth_347 : decode cX10_worth 347 = .ok (.iload 9, 2) := by decide +kernel
theorem dX10_worth_349 : decode cX10_worth 349 = .ok (.i2l, 1) := by decide +kernel
theorem dX10_worth_350 : decode cX10_worth 350 = .ok (.aload_n 0, 1) := by decide +kernel
theorem dX10_worth_351 : decode cX10_worth 351 = .ok (.getfield 41, 3) := by decide +kernel
theorem dX10_worth_354 : decode cX10_worth 354 = .ok (.bipush 44, 2) := by decide +kernel
theorem dX10_worth_356 : decode cX10_worth 356 = .ok (.iload 5, 2) := by decide +kernel
theorem dX10_worth_358 : decode cX10_worth 358 = .ok (.imul, 1) := by decide +kernel
theorem dX10_worth_359 : decode cX10_worth 359 = .ok (.iload 10, 2) := by decide +kernel
theorem dX10_worth_361 : decode cX10_worth 361 = .ok (.iadd, 1) := by decide +kernel
theorem dX10_worth_362 : decode cX10_worth 362 = .ok (.iaload, 1) := by decide +kernel
theorem dX10_worth_363 : decode cX10_worth 363 = .ok (.i2l, 1) := by decide +kernel
theorem dX10_worth_364 : decode cX10_worth 364 = .ok (.lmul, 1) := by decide +kernel
theorem dX10_worth_365 : decode cX10_worth 365 = .ok (.lsub, 1) := by decide +kernel
theorem dX10_worth_366 : decode cX10_worth 366 = .ok (.invokevirtual 135, 3) := by decide +kernel
theorem dX10_worth_369 : decode cX10_worth 369 = .ok (.iastore, 1) := by decide +kernel
theorem dX10_worth_370 : decode cX10_worth 370 = .ok (.iinc 10 1, 3) := by decide +kernel
theorem dX10_worth_373 : decode cX10_worth 373 = .ok (.goto (-59), 3) := by decide +kernel
theorem dX10_worth_376 : decode cX10_worth 376 = .ok (.iinc 8 1, 3) := by decide +kernel
theorem dX10_worth_379 : decode cX10_worth 379 = .ok (.goto (-96), 3) := by decide +kernel
theorem dX10_worth_382 : decode cX10_worth 382 = .ok (.iinc 5 1, 3) := by decide +kernel
theorem dX10_worth_385 : decode cX10_worth 385 = .ok (.goto (-282), 3) := by decide +kernel
theorem dX10_worth_388 : decode cX10_worth 388 = .ok (.iload 4, 2) := by decide +kernel
theorem dX10_worth_390 : decode cX10_worth 390 = .ok (.ireturn, 1) := by decide +kernel
theorem dX10_keepResult_0 : decode cX10_keepResult 0 = .ok (.iconst 0, 1) := by decide +kernel
theorem dX10_keepResult_1 : decode cX10_keepResult 1 = .ok (.istore_n 1, 1) := by decide +kernel
theorem dX10_keepResult_2 : decode cX10_keepResult 2 = .ok (.iload_n 1, 1) := by decide +kernel
theorem dX10_keepResult_3 : decode cX10_keepResult 3 = .ok (.bipush 46, 2) := by decide +kernel
theorem dX10_keepResult_5 : decode cX10_keepResult 5 = .ok (.if_icmp .ge 33, 3) := by decide +kernel
theorem dX10_keepResult_8 : decode cX10_keepResult 8 = .ok (.aload_n 0, 1) := by decide +kernel
theorem dX10_keepResult_9 : decode cX10_keepResult 9 = .ok (.getfield 65, 3) := by decide +kernel
theorem dX10_keepResult_12 : decode cX10_keepResult 12 = .ok (.iload_n 1, 1) := by decide +kernel
theorem dX10_keepResult_13 : decode cX10_keepResult 13 = .ok (.aload_n 0, 1) := by decide +kernel
theorem dX10_keepResult_14 : decode cX10_keepResult 14 = .ok (.getfield 50, 3) := by decide +kernel
theorem dX10_keepResult_17 : decode cX10_keepResult 17 = .ok (.iload_n 1, 1) := by decide +kernel
theorem dX10_keepResult_18 : decode cX10_keepResult 18 = .ok (.iaload, 1) := by decide +kernel
theorem dX10_keepResult_19 : decode cX10_keepResult 19 = .ok (.iastore, 1) := by decide +kernel
theorem dX10_keepResult_20 : decode cX10_keepResult 20 = .ok (.aload_n 0, 1) := by decide +kernel
theorem dX10_keepResult_21 : decode cX10_keepResult 21 = .ok (.getfield 68, 3) := by decide +kernel
theorem dX10_keepResult_24 : decode cX10_keepResult 24 = .ok (.iload_n 1, 1) := by decide +kernel
theorem dX10_keepResult_25 : decode cX10_keepResult 25 = .ok (.aload_n 0, 1) := by decide +kernel
theorem dX10_keepResult_26 : decode cX10_keepResult 26 = .ok (.getfield 53, 3) := by decide +kernel
theorem dX10_keepResult_29 : decode cX10_keepResult 29 = .ok (.iload_n 1, 1) := by decide +kernel
theorem dX10_keepResult_30 : decode cX10_keepResult 30 = .ok (.iaload, 1) := by decide +kernel
theorem dX10_keepResult_31 : decode cX10_keepResult 31 = .ok (.iastore, 1) := by decide +kernel
theorem dX10_keepResult_32 : decode cX10_keepResult 32 = .ok (.iinc 1 1, 3) := by decide +kernel
theorem dX10_keepResult_35 : decode cX10_keepResult 35 = .ok (.goto (-33), 3) := by decide +kernel
theorem dX10_keepResult_38 : decode cX10_keepResult 38 = .ok (.return_, 1) := by decide +kernel
theorem dX10_resultBack_0 : decode cX10_resultBack 0 = .ok (.iconst 0, 1) := by decide +kernel
theorem dX10_resultBack_1 : decode cX10_resultBack 1 = .ok (.istore_n 1, 1) := by decide +kernel
theorem dX10_resultBack_2 : decode cX10_resultBack 2 = .ok (.iload_n 1, 1) := by decide +kernel
theorem dX10_resultBack_3 : decode cX10_resultBack 3 = .ok (.bipush 46, 2) := by decide +kernel
theorem dX10_resultBack_5 : decode cX10_resultBack 5 = .ok (.if_icmp .ge 33, 3) := by decide +kernel
theorem dX10_resultBack_8 : decode cX10_resultBack 8 = .ok (.aload_n 0, 1) := by decide +kernel
theorem dX10_resultBack_9 : decode cX10_resultBack 9 = .ok (.getfield 50, 3) := by decide +kernel
theorem dX10_resultBack_12 : decode cX10_resultBack 12 = .ok (.iload_n 1, 1) := by decide +kernel
theorem dX10_resultBack_13 : decode cX10_resultBack 13 = .ok (.aload_n 0, 1) := by decide +kernel
theorem dX10_resultBack_14 : decode cX10_resultBack 14 = .ok (.getfield 65, 3) := by decide +kernel
theorem dX10_resultBack_17 : decode cX10_resultBack 17 = .ok (.iload_n 1, 1) := by decide +kernel
theorem dX10_resultBack_18 : decode cX10_resultBack 18 = .ok (.iaload, 1) := by decide +kernel
theorem dX10_resultBack_19 : decode cX10_resultBack 19 = .ok (.iastore, 1) := by decide +kernel
theorem dX10_resultBack_20 : decode cX10_resultBack 20 = .ok (.aload_n 0, 1) := by decide +kernel
theorem dX10_resultBack_21 : decode cX10_resultBack 21 = .ok (.getfield 53, 3) := by decide +kernel
theorem dX10_resultBack_24 : decode cX10_resultBack 24 = .ok (.iload_n 1, 1) := by decide +kernel
theorem dX10_resultBack_25 : decode cX10_resultBack 25 = .ok (.aload_n 0, 1) := by decide +kernel
theorem dX10_resultBack_26 : decode cX10_resultBack 26 = .ok (.getfield 68, 3) := by decide +kernel
theorem dX10_resultBack_29 : decode cX10_resultBack 29 = .ok (.iload_n 1, 1) := by decide +kernel
theorem dX10_resultBack_30 : decode cX10_resultBack 30 = .ok (.iaload, 1) := by decide +kernel
theorem dX10_resultBack_31 : decode cX10_resultBack 31 = .ok (.iastore, 1) := by decide +kernel
theorem dX10_resultBack_32 : decode cX10_resultBack 32 = .ok (.iinc 1 1, 3) := by decide +kernel
theorem dX10_resultBack_35 : decode cX10_resultBack 35 = .ok (.goto (-33), 3) := by decide +kernel
theorem dX10_resultBack_38 : decode cX10_resultBack 38 = .ok (.return_, 1) := by decide +kernel
theorem dX10_block_0 : decode cX10_block 0 = .ok (.aload_n 0, 1) := by decide +kernel
theorem dX10_block_1 : decode cX10_block 1 = .ok (.iload_n 1, 1) := by decide +kernel
theorem dX10_block_2 : decode cX10_block 2 = .ok (.invokevirtual 155, 3) := by decide +kernel
theorem dX10_block_5 : decode cX10_block 5 = .ok (.ifCond .ne 6, 3) := by decide +kernel
theorem dX10_block_8 : decode cX10_block 8 = .ok (.bipush (-101), 2) := by decide +kernel
theorem dX10_block_10 : decode cX10_block 10 = .ok (.ireturn, 1) := by decide +kernel
theorem dX10_block_11 : decode cX10_block 11 = .ok (.aload_n 0, 1) := by decide +kernel
theorem dX10_block_12 : decode cX10_block 12 = .ok (.iload_n 1, 1) := by decide +kernel
theorem dX10_block_13 : decode cX10_block 13 = .ok (.iload_n 2, 1) := by decide +kernel
theorem dX10_block_14 : decode cX10_block 14 = .ok (.iload_n 3, 1) := by decide +kernel
theorem dX10_block_15 : decode cX10_block 15 = .ok (.invokevirtual 189, 3) := by decide +kernel
theorem dX10_block_18 : decode cX10_block 18 = .ok (.ifCond .eq 16, 3) := by decide +kernel
theorem dX10_block_21 : decode cX10_block 21 = .ok (.iload 4, 2) := by decide +kernel
theorem dX10_block_23 : decode cX10_block 23 = .ok (.i2l, 1) := by decide +kernel
theorem dX10_block_24 : decode cX10_block 24 = .ok (.lconst 0, 1) := by decide +kernel
theorem dX10_block_25 : decode cX10_block 25 = .ok (.ldc2_w 103, 3) := by decide +kernel
theorem dX10_block_28 : decode cX10_block 28 = .ok (.invokestatic 107, 3) := by decide +kernel
theorem dX10_block_31 : decode cX10_block 31 = .ok (.ifCond .ne 6, 3) := by decide +kernel
theorem dX10_block_34 : decode cX10_block 34 = .ok (.bipush (-102), 2) := by decide +kernel
theorem dX10_block_36 : decode cX10_block 36 = .ok (.ireturn, 1) := by decide +kernel
theorem dX10_block_37 : decode cX10_block 37 = .ok (.aload_n 0, 1) := by decide +kernel
theorem dX10_block_38 : decode cX10_block 38 = .ok (.invokevirtual 200, 3) := by decide +kernel
theorem dX10_block_41 : decode cX10_block 41 = .ok (.aload_n 0, 1) := by decide +kernel
theorem dX10_block_42 : decode cX10_block 42 = .ok (.iload_n 1, 1) := by decide +kernel
theorem dX10_block_43 : decode cX10_block 43 = .ok (.iload_n 2, 1) := by decide +kernel
theorem dX10_block_44 : decode cX10_block 44 = .ok (.iload_n 3, 1) := by decide +kernel
theorem dX10_block_45 : decode cX10_block 45 = .ok (.invokevirtual 193, 3) := by decide +kernel
theorem dX10_block_48 : decode cX10_block 48 = .ok (.aload_n 0, 1) := by decide +kernel
theorem dX10_block_49 : decode cX10_block 49 = .ok (.getfield 50, 3) := by decide +kernel
theorem dX10_block_52 : decode cX10_block 52 = .ok (.bipush 45, 2) := by decide +kernel
theorem dX10_block_54 : decode cX10_block 54 = .ok (.invokestatic 167, 3) := by decide +kernel
theorem dX10_block_57 : decode cX10_block 57 = .ok (.istore 5, 2) := by decide +kernel
theorem dX10_block_59 : decode cX10_block 59 = .ok (.aload_n 0, 1) := by decide +kernel
theorem dX10_block_60 : decode cX10_block 60 = .ok (.getfield 53, 3) := by decide +kernel
theorem dX10_block_63 : decode cX10_block 63 = .ok (.bipush 45, 2) := by decide +kernel
theorem dX10_block_65 : decode cX10_block 65 = .ok (.invokestatic 167, 3) := by decide +kernel
theorem dX10_block_68 : decode cX10_block 68 = .ok (.istore 6, 2) := by decide +kernel
theorem dX10_block_70 : decode cX10_block 70 = .ok (.aload_n 0, 1) := by decide +kernel
theorem dX10_block_71 : decode cX10_block 71 = .ok (.iload_n 1, 1) := by decide +kernel
theorem dX10_block_72 : decode cX10_block 72 = .ok (.invokevirtual 197, 3) := by decide +kernel
theorem dX10_block_75 : decode cX10_block 75 = .ok (.istore 7, 2) := by decide +kernel
theorem dX10_block_77 : decode cX10_block 77 = .ok (.aload_n 0, 1) := by decide +kernel
theorem dX10_block_78 : decode cX10_block 78 = .ok (.invokevirtual 203, 3) := by decide +kernel
theorem dX10_block_81 : decode cX10_block 81 = .ok (.iload 5, 2) := by decide +kernel
theorem dX10_block_83 : decode cX10_block 83 = .ok (.ifCond .ge 9, 3) := by decide +kernel
theorem dX10_block_86 : decode cX10_block 86 = .ok (.aload_n 0, 1) := by decide +kernel
theorem dX10_block_87 : decode cX10_block 87 = .ok (.iconst 5, 1) := by decide +kernel
theorem dX10_block_88 : decode cX10_block 88 = .ok (.invokevirtual 129, 3) := by decide +kernel
theorem dX10_block_91 : decode cX10_block 91 = .ok (.ireturn, 1) := by decide +kernel
theorem dX10_block_92 : decode cX10_block 92 = .ok (.iload 4, 2) := by decide +kernel
theorem dX10_block_94 : decode cX10_block 94 = .ok (.ifCond .ne 8, 3) := by decide +kernel
theorem dX10_block_97 : decode cX10_block 97 = .ok (.iload 5, 2) := by decide +kernel
theorem dX10_block_99 : decode cX10_block 99 = .ok (.goto 39, 3) := by decide +kernel
theorem dX10_block_102 : decode cX10_block 102 = .ok (.iload 4, 2) := by decide +kernel
theorem dX10_block_104 : decode cX10_block 104 = .ok (.iconst 1, 1) := by decide +kernel
theorem dX10_block_105 : decode cX10_block 105 = .ok (.if_icmp .ne 8, 3) := by decide +kernel
theorem dX10_block_108 : decode cX10_block 108 = .ok (.iload 6, 2) := by decide +kernel
theorem dX10_block_110 : decode cX10_block 110 = .ok (.goto 28, 3) := by decide +kernel
theorem dX10_block_113 : decode cX10_block 113 = .ok (.iload 7, 2) := by decide +kernel
theorem dX10_block_115 : decode cX10_block 115 = .ok (.aload_n 0, 1) := by decide +kernel
theorem dX10_block_116 : decode cX10_block 116 = .ok (.getfield 26, 3) := by decide +kernel
theorem dX10_block_119 : decode cX10_block 119 = .ok (.iload_n 1, 1) := by decide +kernel
theorem dX10_block_120 : decode cX10_block 120 = .ok (.iaload, 1) := by decide +kernel
theorem dX10_block_121 : decode cX10_block 121 = .ok (.iconst 1, 1) := by decide +kernel
theorem dX10_block_122 : decode cX10_block 122 = .ok (.iadd, 1) := by decide +kernel
theorem dX10_block_123 : decode cX10_block 123 = .ok (.if_icmp .ne 7, 3) := by decide +kernel
theorem dX10_block_126 : decode cX10_block 126 = .ok (.iconst (-1), 1) := by decide +kernel
theorem dX10_block_127 : decode cX10_block 127 = .ok (.goto 11, 3) := by decide +kernel
theorem dX10_block_130 : decode cX10_block 130 = .ok (.iload 7, 2) := by decide +kernel
theorem dX10_block_132 : decode cX10_block 132 = .ok (.iload 5, 2) := by decide +kernel
theorem dX10_block_134 : decode cX10_block 134 = .ok (.isub, 1) := by decide +kernel
theorem dX10_block_135 : decode cX10_block 135 = .ok (.iload 6, 2) := by decide +kernel
theorem dX10_block_137 : decode cX10_block 137 = .ok (.isub, 1) := by decide +kernel
theorem dX10_block_138 : decode cX10_block 138 = .ok (.ireturn, 1) := by decide +kernel
theorem dX10_stair_0 : decode cX10_stair 0 = .ok (.aload_n 0, 1) := by decide +kernel
theorem dX10_stair_1 : decode cX10_stair 1 = .ok (.iload_n 1, 1) := by decide +kernel
theorem dX10_stair_2 : decode cX10_stair 2 = .ok (.invokevirtual 155, 3) := by decide +kernel
theorem dX10_stair_5 : decode cX10_stair 5 = .ok (.ifCond .ne 6, 3) := by decide +kernel
theorem dX10_stair_8 : decode cX10_stair 8 = .ok (.bipush (-101), 2) := by decide +kernel
theorem dX10_stair_10 : decode cX10_stair 10 = .ok (.ireturn, 1) := by decide +kernel
theorem dX10_stair_11 : decode cX10_stair 11 = .ok (.aload_n 0, 1) := by decide +kernel
theorem dX10_stair_12 : decode cX10_stair 12 = .ok (.getfield 26, 3) := by decide +kernel
theorem dX10_stair_15 : decode cX10_stair 15 = .ok (.iload_n 1, 1) := by decide +kernel
theorem dX10_stair_16 : decode cX10_stair 16 = .ok (.iaload, 1) := by decide +kernel
theorem dX10_stair_17 : decode cX10_stair 17 = .ok (.istore_n 3, 1) := by decide +kernel
theorem dX10_stair_18 : decode cX10_stair 18 = .ok (.iload_n 2, 1) := by decide +kernel
theorem dX10_stair_19 : decode cX10_stair 19 = .ok (.i2l, 1) := by decide +kernel
theorem dX10_stair_20 : decode cX10_stair 20 = .ok (.lconst 0, 1) := by decide +kernel
theorem dX10_stair_21 : decode cX10_stair 21 = .ok (.iload_n 3, 1) := by decide +kernel
theorem dX10_stair_22 : decode cX10_stair 22 = .ok (.i2l, 1) := by decide +kernel
theorem dX10_stair_23 : decode cX10_stair 23 = .ok (.invokestatic 107, 3) := by decide +kernel
theorem dX10_stair_26 : decode cX10_stair 26 = .ok (.ifCond .ne 6, 3) := by decide +kernel
theorem dX10_stair_29 : decode cX10_stair 29 = .ok (.bipush (-102), 2) := by decide +kernel
theorem dX10_stair_31 : decode cX10_stair 31 = .ok (.ireturn, 1) := by decide +kernel
theorem dX10_stair_32 : decode cX10_stair 32 = .ok (.iload_n 2, 1) := by decide +kernel
theorem dX10_stair_33 : decode cX10_stair 33 = .ok (.ifCond .ne 10, 3) := by decide +kernel
theorem dX10_stair_36 : decode cX10_stair 36 = .ok (.aload_n 0, 1) := by decide +kernel
theorem dX10_stair_37 : decode cX10_stair 37 = .ok (.iload_n 1, 1) := by decide +kernel
theorem dX10_stair_38 : decode cX10_stair 38 = .ok (.iconst 0, 1) := by decide +kernel
theorem dX10_stair_39 : decode cX10_stair 39 = .ok (.invokevirtual 161, 3) := by decide +kernel
theorem dX10_stair_42 : decode cX10_stair 42 = .ok (.ireturn, 1) := by decide +kernel
theorem dX10_stair_43 : decode cX10_stair 43 = .ok (.iconst 0, 1) := by decide +kernel
theorem dX10_stair_44 : decode cX10_stair 44 = .ok (.istore 4, 2) := by decide +kernel
theorem dX10_stair_46 : decode cX10_stair 46 = .ok (.iload 4, 2) := by decide +kernel
theorem dX10_stair_48 : decode cX10_stair 48 = .ok (.iload_n 3, 1) := by decide +kernel
theorem dX10_stair_49 : decode cX10_stair 49 = .ok (.if_icmp .ge 25, 3) := by decide +kernel
theorem dX10_stair_52 : decode cX10_stair 52 = .ok (.aload_n 0, 1) := by decide +kernel
theorem dX10_stair_53 : decode cX10_stair 53 = .ok (.getfield 71, 3) := by decide +kernel
theorem dX10_stair_56 : decode cX10_stair 56 = .ok (.iload 4, 2) := by decide +kernel
theorem dX10_stair_58 : decode cX10_stair 58 = .ok (.aload_n 0, 1) := by decide +kernel
theorem dX10_stair_59 : decode cX10_stair 59 = .ok (.iload_n 1, 1) := by decide +kernel
theorem dX10_stair_60 : decode cX10_stair 60 = .ok (.iload 4, 2) := by decide +kernel
theorem dX10_stair_62 : decode cX10_stair 62 = .ok (.iconst 1, 1) := by decide +kernel
theorem dX10_stair_63 : decode cX10_stair 63 = .ok (.iadd, 1) := by decide +kernel
theorem dX10_stair_64 : decode cX10_stair 64 = .ok (.invokevirtual 161, 3) := by decide +kernel
theorem dX10_stair_67 : decode cX10_stair 67 = .ok (.iastore, 1) := by decide +kernel
theorem dX10_stair_68 : decode cX10_stair 68 = .ok (.iinc 4 1, 3) := by decide +kernel
theorem dX10_stair_71 : decode cX10_stair 71 = .ok (.goto (-25), 3) := by decide +kernel
theorem dX10_stair_74 : decode cX10_stair 74 = .ok (.iconst 1, 1) := by decide +kernel
theorem dX10_stair_75 : decode cX10_stair 75 = .ok (.istore 4, 2) := by decide +kernel
theorem dX10_stair_77 : decode cX10_stair 77 = .ok (.iload 4, 2) := by decide +kernel
theorem dX10_stair_79 : decode cX10_stair 79 = .ok (.iload_n 2, 1) := by decide +kernel
theorem dX10_stair_80 : decode cX10_stair 80 = .ok (.if_icmp .ge 124, 3) := by decide +kernel
theorem dX10_stair_83 : decode cX10_stair 83 = .ok (.iload_n 3, 1) := by decide +kernel
theorem dX10_stair_84 : decode cX10_stair 84 = .ok (.iload 4, 2) := by decide +kernel
theorem dX10_stair_86 : decode cX10_stair 86 = .ok (.isub, 1) := by decide +kernel
theorem dX10_stair_87 : decode cX10_stair 87 = .ok (.iconst 1, 1) := by decide +kernel
theorem dX10_stair_88 : decode cX10_stair 88 = .ok (.iadd, 1) := by decide +kernel
theorem dX10_stair_89 : decode cX10_stair 89 = .ok (.istore 5, 2) := by decide +kernel
theorem dX10_stair_91 : decode cX10_stair 91 = .ok (.aload_n 0, 1) := by decide +kernel
theorem dX10_stair_92 : decode cX10_stair 92 = .ok (.getfield 71, 3) := by decide +kernel
theorem dX10_stair_95 : decode cX10_stair 95 = .ok (.iconst 0, 1) := by decide +kernel
theorem dX10_stair_96 : decode cX10_stair 96 = .ok (.iaload, 1) := by decide +kernel
theorem dX10_stair_97 : decode cX10_stair 97 = .ok (.ifCond .ne 9, 3) := by decide +kernel
theorem dX10_stair_100 : decode cX10_stair 100 = .ok (.aload_n 0, 1) := by decide +kernel
theorem dX10_stair_101 : decode cX10_stair 101 = .ok (.iconst 5, 1) := by decide +kernel
theorem dX10_stair_102 : decode cX10_stair 102 = .ok (.invokevirtual 129, 3) := by decide +kernel
theorem dX10_stair_105 : decode cX10_stair 105 = .ok (.ireturn, 1) := by decide +kernel
theorem dX10_stair_106 : decode cX10_stair 106 = .ok (.aload_n 0, 1) := by decide +kernel
theorem dX10_stair_107 : decode cX10_stair 107 = .ok (.invokevirtual 145, 3) := by decide +kernel
theorem dX10_stair_110 : decode cX10_stair 110 = .ok (.aload_n 0, 1) := by decide +kernel
theorem dX10_stair_111 : decode cX10_stair 111 = .ok (.getfield 35, 3) := by decide +kernel
theorem dX10_stair_114 : decode cX10_stair 114 = .ok (.iconst 0, 1) := by decide +kernel
theorem dX10_stair_115 : decode cX10_stair 115 = .ok (.aload_n 0, 1) := by decide +kernel
theorem dX10_stair_116 : decode cX10_stair 116 = .ok (.getfield 71, 3) := by decide +kernel
theorem dX10_stair_119 : decode cX10_stair 119 = .ok (.iconst 0, 1) := by decide +kernel
theorem dX10_stair_120 : decode cX10_stair 120 = .ok (.iaload, 1) := by decide +kernel
theorem dX10_stair_121 : decode cX10_stair 121 = .ok (.iastore, 1) := by decide +kernel
theorem dX10_stair_122 : decode cX10_stair 122 = .ok (.iconst 0, 1) := by decide +kernel
theorem dX10_stair_123 : decode cX10_stair 123 = .ok (.istore 6, 2) := by decide +kernel
theorem dX10_stair_125 : decode cX10_stair 125 = .ok (.iload 6, 2) := by decide +kernel
theorem dX10_stair_127 : decode cX10_stair 127 = .ok (.iload 5, 2) := by decide +kernel
theorem dX10_stair_129 : decode cX10_stair 129 = .ok (.if_icmp .ge 23, 3) := by decide +kernel
theorem dX10_stair_132 : decode cX10_stair 132 = .ok (.aload_n 0, 1) := by decide +kernel
theorem dX10_stair_133 : decode cX10_stair 133 = .ok (.getfield 38, 3) := by decide +kernel
theorem dX10_stair_136 : decode cX10_stair 136 = .ok (.iload 6, 2) := by decide +kernel
theorem dX10_stair_138 : decode cX10_stair 138 = .ok (.aload_n 0, 1) := by decide +kernel
theorem dX10_stair_139 : decode cX10_stair 139 = .ok (.getfield 71, 3) := by decide +kernel
theorem dX10_stair_142 : decode cX10_stair 142 = .ok (.iload 6, 2) := by decide +kernel
theorem dX10_stair_144 : decode cX10_stair 144 = .ok (.iaload, 1) := by decide +kernel
theorem dX10_stair_145 : decode cX10_stair 145 = .ok (.iastore, 1) := by decide +kernel
theorem dX10_stair_146 : decode cX10_stair 146 = .ok (.iinc 6 1, 3) := by decide +kernel
theorem dX10_stair_149 : decode cX10_stair 149 = .ok (.goto (-24), 3) := by decide +kernel
theorem dX10_stair_152 : decode cX10_stair 152 = .ok (.aload_n 0, 1) := by decide +kernel
theorem dX10_stair_153 : decode cX10_stair 153 = .ok (.aload_n 0, 1) := by decide +kernel
theorem dX10_stair_154 : decode cX10_stair 154 = .ok (.getfield 74, 3) := by decide +kernel
theorem dX10_stair_157 : decode cX10_stair 157 = .ok (.iload 5, 2) := by decide +kernel
theorem dX10_stair_159 : decode cX10_stair 159 = .ok (.iconst 1, 1) := by decide +kernel
theorem dX10_stair_160 : decode cX10_stair 160 = .ok (.isub, 1) := by decide +kernel
theorem dX10_stair_161 : decode cX10_stair 161 = .ok (.invokevirtual 148, 3) := by decide +kernel
theorem dX10_stair_164 : decode cX10_stair 164 = .ok (.iconst 0, 1) := by decide +kernel
theorem dX10_stair_165 : decode cX10_stair 165 = .ok (.istore 6, 2) := by decide +kernel
theorem dX10_stair_167 : decode cX10_stair 167 = .ok (.iload 6, 2) := by decide +kernel
theorem dX10_stair_169 : decode cX10_stair 169 = .ok (.iconst 1, 1) := by decide +kernel
theorem dX10_stair_170 : decode cX10_stair 170 = .ok (.iadd, 1) := by decide +kernel
theorem dX10_stair_171 : decode cX10_stair 171 = .ok (.iload 5, 2) := by decide +kernel
theorem dX10_stair_173 : decode cX10_stair 173 = .ok (.if_icmp .ge 25, 3) := by decide +kernel
theorem dX10_stair_176 : decode cX10_stair 176 = .ok (.aload_n 0, 1) := by decide +kernel
theorem dX10_stair_177 : decode cX10_stair 177 = .ok (.getfield 71, 3) := by decide +kernel
theorem dX10_stair_180 : decode cX10_stair 180 = .ok (.iload 6, 2) := by decide +kernel
theorem dX10_stair_182 : decode cX10_stair 182 = .ok (.aload_n 0, 1) := by decide +kernel
theorem dX10_stair_183 : decode cX10_stair 183 = .ok (.getfield 74, 3) := by decide +kernel
theorem dX10_stair_186 : decode cX10_stair 186 = .ok (.iload 6, 2) := by decide +kernel
theorem dX10_stair_188 : decode cX10_stair 188 = .ok (.iconst 1, 1) := by decide +kernel
theorem dX10_stair_189 : decode cX10_stair 189 = .ok (.iadd, 1) := by decide +kernel
theorem dX10_stair_190 : decode cX10_stair 190 = .ok (.iaload, 1) := by decide +kernel
theorem dX10_stair_191 : decode cX10_stair 191 = .ok (.iastore, 1) := by decide +kernel
theorem dX10_stair_192 : decode cX10_stair 192 = .ok (.iinc 6 1, 3) := by decide +kernel
theorem dX10_stair_195 : decode cX10_stair 195 = .ok (.goto (-28), 3) := by decide +kernel
theorem dX10_stair_198 : decode cX10_stair 198 = .ok (.iinc 4 1, 3) := by decide +kernel
theorem dX10_stair_201 : decode cX10_stair 201 = .ok (.goto (-124), 3) := by decide +kernel
theorem dX10_stair_204 : decode cX10_stair 204 = .ok (.aload_n 0, 1) := by decide +kernel
theorem dX10_stair_205 : decode cX10_stair 205 = .ok (.getfield 71, 3) := by decide +kernel
theorem dX10_stair_208 : decode cX10_stair 208 = .ok (.iconst 0, 1) := by decide +kernel
theorem dX10_stair_209 : decode cX10_stair 209 = .ok (.iaload, 1) := by decide +kernel
theorem dX10_stair_210 : decode cX10_stair 210 = .ok (.ireturn, 1) := by decide +kernel
end
section
theorem dX10_recur_0 : decode cX10_recur 0 = .ok (.aload_n 0, 1) := by decide +kernel
theorem dX10_recur_1 : decode cX10_recur 1 = .ok (.iload_n 1, 1) := by decide +kernel
theorem dX10_recur_2 : decode cX10_recur 2 = .ok (.invokevirtual 155, 3) := by decide +kernel
theorem dX10_recur_5 : decode cX10_recur 5 = .ok (.ifCond .ne 6, 3) := by decide +kernel
theorem dX10_recur_8 : decode cX10_recur 8 = .ok (.bipush (-101), 2) := by decide +kernel
theorem dX10_recur_10 : decode cX10_recur 10 = .ok (.ireturn, 1) := by decide +kernel
theorem dX10_recur_11 : decode cX10_recur 11 = .ok (.aload_n 0, 1) := by decide +kernel
theorem dX10_recur_12 : decode cX10_recur 12 = .ok (.getfield 26, 3) := by decide +kernel
theorem dX10_recur_15 : decode cX10_recur 15 = .ok (.iload_n 1, 1) := by decide +kernel
theorem dX10_recur_16 : decode cX10_recur 16 = .ok (.iaload, 1) := by decide +kernel
theorem dX10_recur_17 : decode cX10_recur 17 = .ok (.istore_n 2, 1) := by decide +kernel
theorem dX10_recur_18 : decode cX10_recur 18 = .ok (.iconst 0, 1) := by decide +kernel
theorem dX10_recur_19 : decode cX10_recur 19 = .ok (.istore_n 3, 1) := by decide +kernel
theorem dX10_recur_20 : decode cX10_recur 20 = .ok (.iload_n 3, 1) := by decide +kernel
theorem dX10_recur_21 : decode cX10_recur 21 = .ok (.bipush 45, 2) := by decide +kernel
theorem dX10_recur_23 : decode cX10_recur 23 = .ok (.if_icmp .ge 39, 3) := by decide +kernel
theorem dX10_recur_26 : decode cX10_recur 26 = .ok (.aload_n 0, 1) := by decide +kernel
theorem dX10_recur_27 : decode cX10_recur 27 = .ok (.getfield 77, 3) := by decide +kernel
theorem dX10_recur_30 : decode cX10_recur 30 = .ok (.iload_n 3, 1) := by decide +kernel
theorem dX10_recur_31 : decode cX10_recur 31 = .ok (.iload_n 3, 1) := by decide +kernel
theorem dX10_recur_32 : decode cX10_recur 32 = .ok (.ifCond .ne 7, 3) := by decide +kernel
theorem dX10_recur_35 : decode cX10_recur 35 = .ok (.iconst 1, 1) := by decide +kernel
theorem dX10_recur_36 : decode cX10_recur 36 = .ok (.goto 4, 3) := by decide +kernel
theorem dX10_recur_39 : decode cX10_recur 39 = .ok (.iconst 0, 1) := by decide +kernel
theorem dX10_recur_40 : decode cX10_recur 40 = .ok (.iastore, 1) := by decide +kernel
theorem dX10_recur_41 : decode cX10_recur 41 = .ok (.aload_n 0, 1) := by decide +kernel
theorem dX10_recur_42 : decode cX10_recur 42 = .ok (.getfield 80, 3) := by decide +kernel
theorem dX10_recur_45 : decode cX10_recur 45 = .ok (.iload_n 3, 1) := by decide +kernel
theorem dX10_recur_46 : decode cX10_recur 46 = .ok (.iload_n 3, 1) := by decide +kernel
theorem dX10_recur_47 : decode cX10_recur 47 = .ok (.ifCond .ne 7, 3) := by decide +kernel
theorem dX10_recur_50 : decode cX10_recur 50 = .ok (.iconst 1, 1) := by decide +kernel
theorem dX10_recur_51 : decode cX10_recur 51 = .ok (.goto 4, 3) := by decide +kernel
theorem dX10_recur_54 : decode cX10_recur 54 = .ok (.iconst 0, 1) := by decide +kernel
theorem dX10_recur_55 : decode cX10_recur 55 = .ok (.iastore, 1) := by decide +kernel
theorem dX10_recur_56 : decode cX10_recur 56 = .ok (.iinc 3 1, 3) := by decide +kernel
theorem dX10_recur_59 : decode cX10_recur 59 = .ok (.goto (-39), 3) := by decide +kernel
theorem dX10_recur_62 : decode cX10_recur 62 = .ok (.iconst 0, 1) := by decide +kernel
theorem dX10_recur_63 : decode cX10_recur 63 = .ok (.istore_n 3, 1) := by decide +kernel
theorem dX10_recur_64 : decode cX10_recur 64 = .ok (.iconst 1, 1) := by decide +kernel
theorem dX10_recur_65 : decode cX10_recur 65 = .ok (.istore 4, 2) := by decide +kernel
theorem dX10_recur_67 : decode cX10_recur 67 = .ok (.iconst 1, 1) := by decide +kernel
theorem dX10_recur_68 : decode cX10_recur 68 = .ok (.istore 5, 2) := by decide +kernel
theorem dX10_recur_70 : decode cX10_recur 70 = .ok (.iconst 0, 1) := by decide +kernel
theorem dX10_recur_71 : decode cX10_recur 71 = .ok (.istore 6, 2) := by decide +kernel
theorem dX10_recur_73 : decode cX10_recur 73 = .ok (.iload 6, 2) := by decide +kernel
theorem dX10_recur_75 : decode cX10_recur 75 = .ok (.iload_n 2, 1) := by decide +kernel
theorem dX10_recur_76 : decode cX10_recur 76 = .ok (.if_icmp .gt 237, 3) := by decide +kernel
theorem dX10_recur_79 : decode cX10_recur 79 = .ok (.lconst 0, 1) := by decide +kernel
theorem dX10_recur_80 : decode cX10_recur 80 = .ok (.lstore 7, 2) := by decide +kernel
theorem dX10_recur_82 : decode cX10_recur 82 = .ok (.iconst 0, 1) := by decide +kernel
theorem dX10_recur_83 : decode cX10_recur 83 = .ok (.istore 9, 2) := by decide +kernel
theorem dX10_recur_85 : decode cX10_recur 85 = .ok (.iload 9, 2) := by decide +kernel
theorem dX10_recur_87 : decode cX10_recur 87 = .ok (.iload_n 3, 1) := by decide +kernel
theorem dX10_recur_88 : decode cX10_recur 88 = .ok (.if_icmp .gt 41, 3) := by decide +kernel
theorem dX10_recur_91 : decode cX10_recur 91 = .ok (.iload 9, 2) := by decide +kernel
theorem dX10_recur_93 : decode cX10_recur 93 = .ok (.iload 6, 2) := by decide +kernel
theorem dX10_recur_95 : decode cX10_recur 95 = .ok (.if_icmp .gt 34, 3) := by decide +kernel
theorem dX10_recur_98 : decode cX10_recur 98 = .ok (.lload 7, 2) := by decide +kernel
theorem dX10_recur_100 : decode cX10_recur 100 = .ok (.aload_n 0, 1) := by decide +kernel
theorem dX10_recur_101 : decode cX10_recur 101 = .ok (.getfield 77, 3) := by decide +kernel
theorem dX10_recur_104 : decode cX10_recur 104 = .ok (.iload 9, 2) := by decide +kernel
theorem dX10_recur_106 : decode cX10_recur 106 = .ok (.iaload, 1) := by decide +kernel
theorem dX10_recur_107 : decode cX10_recur 107 = .ok (.i2l, 1) := by decide +kernel
theorem dX10_recur_108 : decode cX10_recur 108 = .ok (.aload_n 0, 1) := by decide +kernel
theorem dX10_recur_109 : decode cX10_recur 109 = .ok (.iload_n 1, 1) := by decide +kernel
theorem dX10_recur_110 : decode cX10_recur 110 = .ok (.iload 6, 2) := by decide +kernel
theorem dX10_recur_112 : decode cX10_recur 112 = .ok (.iload 9, 2) := by decide +kernel
theorem dX10_recur_114 : decode cX10_recur 114 = .ok (.isub, 1) := by decide +kernel
theorem dX10_recur_115 : decode cX10_recur 115 = .ok (.invokevirtual 161, 3) := by decide +kernel
theorem dX10_recur_118 : decode cX10_recur 118 = .ok (.i2l, 1) := by decide +kernel
theorem dX10_recur_119 : decode cX10_recur 119 = .ok (.lmul, 1) := by decide +kernel
theorem dX10_recur_120 : decode cX10_recur 120 = .ok (.ladd, 1) := by decide +kernel
theorem dX10_recur_121 : decode cX10_recur 121 = .ok (.lstore 7, 2) := by decide +kernel
theorem dX10_recur_123 : decode cX10_recur 123 = .ok (.iinc 9 1, 3) := by decide +kernel
theorem dX10_recur_126 : decode cX10_recur 126 = .ok (.goto (-41), 3) := by decide +kernel
theorem dX10_recur_129 : decode cX10_recur 129 = .ok (.aload_n 0, 1) := by decide +kernel
theorem dX10_recur_130 : decode cX10_recur 130 = .ok (.lload 7, 2) := by decide +kernel
theorem dX10_recur_132 : decode cX10_recur 132 = .ok (.invokevirtual 135, 3) := by decide +kernel
theorem dX10_recur_135 : decode cX10_recur 135 = .ok (.istore 9, 2) := by decide +kernel
theorem dX10_recur_137 : decode cX10_recur 137 = .ok (.iload 9, 2) := by decide +kernel
theorem dX10_recur_139 : decode cX10_recur 139 = .ok (.ifCond .ne 9, 3) := by decide +kernel
theorem dX10_recur_142 : decode cX10_recur 142 = .ok (.iinc 4 1, 3) := by decide +kernel
theorem dX10_recur_145 : decode cX10_recur 145 = .ok (.goto 162, 3) := by decide +kernel
theorem dX10_recur_148 : decode cX10_recur 148 = .ok (.aload_n 0, 1) := by decide +kernel
theorem dX10_recur_149 : decode cX10_recur 149 = .ok (.iload 9, 2) := by decide +kernel
theorem dX10_recur_151 : decode cX10_recur 151 = .ok (.aload_n 0, 1) := by decide +kernel
theorem dX10_recur_152 : decode cX10_recur 152 = .ok (.iload 5, 2) := by decide +kernel
theorem dX10_recur_154 : decode cX10_recur 154 = .ok (.invokevirtual 142, 3) := by decide +kernel
theorem dX10_recur_157 : decode cX10_recur 157 = .ok (.invokevirtual 99, 3) := by decide +kernel
theorem dX10_recur_160 : decode cX10_recur 160 = .ok (.istore 10, 2) := by decide +kernel
theorem dX10_recur_162 : decode cX10_recur 162 = .ok (.iconst 0, 1) := by decide +kernel
theorem dX10_recur_163 : decode cX10_recur 163 = .ok (.istore 11, 2) := by decide +kernel
theorem dX10_recur_165 : decode cX10_recur 165 = .ok (.iload 11, 2) := by decide +kernel
theorem dX10_recur_167 : decode cX10_recur 167 = .ok (.bipush 45, 2) := by decide +kernel
theorem dX10_recur_169 : decode cX10_recur 169 = .ok (.if_icmp .ge 23, 3) := by decide +kernel
theorem dX10_recur_172 : decode cX10_recur 172 = .ok (.aload_n 0, 1) := by decide +kernel
theorem dX10_recur_173 : decode cX10_recur 173 = .ok (.getfield 83, 3) := by decide +kernel
theorem dX10_recur_176 : decode cX10_recur 176 = .ok (.iload 11, 2) := by decide +kernel
theorem dX10_recur_178 : decode cX10_recur 178 = .ok (.aload_n 0, 1) := by decide +kernel
theorem dX10_recur_179 : decode cX10_recur 179 = .ok (.getfield 77, 3) := by decide +kernel
theorem dX10_recur_182 : decode cX10_recur 182 = .ok (.iload 11, 2) := by decide +kernel
theorem dX10_recur_184 : decode cX10_recur 184 = .ok (.iaload, 1) := by decide +kernel
theorem dX10_recur_185 : decode cX10_recur 185 = .ok (.iastore, 1) := by decide +kernel
theorem dX10_recur_186 : decode cX10_recur 186 = .ok (.iinc 11 1, 3) := by decide +kernel
theorem dX10_recur_189 : decode cX10_recur 189 = .ok (.goto (-24), 3) := by decide +kernel
theorem dX10_recur_192 : decode cX10_recur 192 = .ok (.iconst 0, 1) := by decide +kernel
theorem dX10_recur_193 : decode cX10_recur 193 = .ok (.istore 11, 2) := by decide +kernel
theorem dX10_recur_195 : decode cX10_recur 195 = .ok (.iload 11, 2) := by decide +kernel
theorem dX10_recur_197 : decode cX10_recur 197 = .ok (.iload 4, 2) := by decide +kernel
theorem dX10_recur_199 : decode cX10_recur 199 = .ok (.iadd, 1) := by decide +kernel
theorem dX10_recur_200 : decode cX10_recur 200 = .ok (.bipush 45, 2) := by decide +kernel
theorem dX10_recur_202 : decode cX10_recur 202 = .ok (.if_icmp .ge 47, 3) := by decide +kernel
theorem dX10_recur_205 : decode cX10_recur 205 = .ok (.aload_n 0, 1) := by decide +kernel
theorem dX10_recur_206 : decode cX10_recur 206 = .ok (.getfield 77, 3) := by decide +kernel
theorem dX10_recur_209 : decode cX10_recur 209 = .ok (.iload 11, 2) := by decide +kernel
theorem dX10_recur_211 : decode cX10_recur 211 = .ok (.iload 4, 2) := by decide +kernel
theorem dX10_recur_213 : decode cX10_recur 213 = .ok (.iadd, 1) := by decide +kernel
theorem dX10_recur_214 : decode cX10_recur 214 = .ok (.aload_n 0, 1) := by decide +kernel
theorem dX10_recur_215 : decode cX10_recur 215 = .ok (.aload_n 0, 1) := by decide +kernel
theorem dX10_recur_216 : decode cX10_recur 216 = .ok (.getfield 77, 3) := by decide +kernel
theorem dX10_recur_219 : decode cX10_recur 219 = .ok (.iload 11, 2) := by decide +kernel
theorem dX10_recur_221 : decode cX10_recur 221 = .ok (.iload 4, 2) := by decide +kernel
theorem dX10_recur_223 : decode cX10_recur 223 = .ok (.iadd, 1) := by decide +kernel
theorem dX10_recur_224 : decode cX10_recur 224 = .ok (.iaload, 1) := by decide +kernel
theorem dX10_recur_225 : decode cX10_recur 225 = .ok (.i2l, 1) := by decide +kernel
theorem dX10_recur_226 : decode cX10_recur 226 = .ok (.iload 10, 2) := by decide +kernel
theorem dX10_recur_228 : decode cX10_recur 228 = .ok (.i2l, 1) := by decide +kernel
theorem dX10_recur_229 : decode cX10_recur 229 = .ok (.aload_n 0, 1) := by decide +kernel
theorem dX10_recur_230 : decode cX10_recur 230 = .ok (.getfield 80, 3) := by decide +kernel
theorem dX10_recur_233 : decode cX10_recur 233 = .ok (.iload 11, 2) := by decide +kernel
theorem dX10_recur_235 : decode cX10_recur 235 = .ok (.iaload, 1) := by decide +kernel
theorem dX10_recur_236 : decode cX10_recur 236 = .ok (.i2l, 1) := by decide +kernel
theorem dX10_recur_237 : decode cX10_recur 237 = .ok (.lmul, 1) := by decide +kernel
theorem dX10_recur_238 : decode cX10_recur 238 = .ok (.lsub, 1) := by decide +kernel
theorem dX10_recur_239 : decode cX10_recur 239 = .ok (.invokevirtual 135, 3) := by decide +kernel
theorem dX10_recur_242 : decode cX10_recur 242 = .ok (.iastore, 1) := by decide +kernel
theorem dX10_recur_243 : decode cX10_recur 243 = .ok (.iinc 11 1, 3) := by decide +kernel
theorem dX10_recur_246 : decode cX10_recur 246 = .ok (.goto (-51), 3) := by decide +kernel
theorem dX10_recur_249 : decode cX10_recur 249 = .ok (.iconst 2, 1) := by decide +kernel
theorem dX10_recur_250 : decode cX10_recur 250 = .ok (.iload_n 3, 1) := by decide +kernel
theorem dX10_recur_251 : decode cX10_recur 251 = .ok (.imul, 1) := by decide +kernel
theorem dX10_recur_252 : decode cX10_recur 252 = .ok (.iload 6, 2) := by decide +kernel
theorem dX10_recur_254 : decode cX10_recur 254 = .ok (.if_icmp .gt 50, 3) := by decide +kernel
theorem dX10_recur_257 : decode cX10_recur 257 = .ok (.iload 6, 2) := by decide +kernel
theorem dX10_recur_259 : decode cX10_recur 259 = .ok (.iconst 1, 1) := by decide +kernel
theorem dX10_recur_260 : decode cX10_recur 260 = .ok (.iadd, 1) := by decide +kernel
theorem dX10_recur_261 : decode cX10_recur 261 = .ok (.iload_n 3, 1) := by decide +kernel
theorem dX10_recur_262 : decode cX10_recur 262 = .ok (.isub, 1) := by decide +kernel
theorem dX10_recur_263 : decode cX10_recur 263 = .ok (.istore_n 3, 1) := by decide +kernel
theorem dX10_recur_264 : decode cX10_recur 264 = .ok (.iconst 0, 1) := by decide +kernel
theorem dX10_recur_265 : decode cX10_recur 265 = .ok (.istore 11, 2) := by decide +kernel
theorem dX10_recur_267 : decode cX10_recur 267 = .ok (.iload 11, 2) := by decide +kernel
theorem dX10_recur_269 : decode cX10_recur 269 = .ok (.bipush 45, 2) := by decide +kernel
theorem dX10_recur_271 : decode cX10_recur 271 = .ok (.if_icmp .ge 23, 3) := by decide +kernel
theorem dX10_recur_274 : decode cX10_recur 274 = .ok (.aload_n 0, 1) := by decide +kernel
theorem dX10_recur_275 : decode cX10_recur 275 = .ok (.getfield 80, 3) := by decide +kernel
theorem dX10_recur_278 : decode cX10_recur 278 = .ok (.iload 11, 2) := by decide +kernel
theorem dX10_recur_280 : decode cX10_recur 280 = .ok (.aload_n 0, 1) := by decide +kernel
theorem dX10_recur_281 : decode cX10_recur 281 = .ok (.getfield 83, 3) := by decide +kernel
theorem dX10_recur_284 : decode cX10_recur 284 = .ok (.iload 11, 2) := by decide +kernel
theorem dX10_recur_286 : decode cX10_recur 286 = .ok (.iaload, 1) := by decide +kernel
theorem dX10_recur_287 : decode cX10_recur 287 = .ok (.iastore, 1) := by decide +kernel
theorem dX10_recur_288 : decode cX10_recur 288 = .ok (.iinc 11 1, 3) := by decide +kernel
theorem dX10_recur_291 : decode cX10_recur 291 = .ok (.goto (-24), 3) := by decide +kernel
theorem dX10_recur_294 : decode cX10_recur 294 = .ok (.iload 9, 2) := by decide +kernel
theorem dX10_recur_296 : decode cX10_recur 296 = .ok (.istore 5, 2) := by decide +kernel
theorem dX10_recur_298 : decode cX10_recur 298 = .ok (.iconst 1, 1) := by decide +kernel
theorem dX10_recur_299 : decode cX10_recur 299 = .ok (.istore 4, 2) := by decide +kernel
theorem dX10_recur_301 : decode cX10_recur 301 = .ok (.goto 6, 3) := by decide +kernel
theorem dX10_recur_304 : decode cX10_recur 304 = .ok (.iinc 4 1, 3) := by decide +kernel
theorem dX10_recur_307 : decode cX10_recur 307 = .ok (.iinc 6 1, 3) := by decide +kernel
theorem dX10_recur_310 : decode cX10_recur 310 = .ok (.goto (-237), 3) := by decide +kernel
theorem dX10_recur_313 : decode cX10_recur 313 = .ok (.iload_n 3, 1) := by decide +kernel
theorem dX10_recur_314 : decode cX10_recur 314 = .ok (.ifCond .ne 10, 3) := by decide +kernel
theorem dX10_recur_317 : decode cX10_recur 317 = .ok (.aload_n 0, 1) := by decide +kernel
theorem dX10_recur_318 : decode cX10_recur 318 = .ok (.invokevirtual 121, 3) := by decide +kernel
theorem dX10_recur_321 : decode cX10_recur 321 = .ok (.goto 21, 3) := by decide +kernel
theorem dX10_recur_324 : decode cX10_recur 324 = .ok (.iconst 2, 1) := by decide +kernel
theorem dX10_recur_325 : decode cX10_recur 325 = .ok (.iload_n 3, 1) := by decide +kernel
theorem dX10_recur_326 : decode cX10_recur 326 = .ok (.imul, 1) := by decide +kernel
theorem dX10_recur_327 : decode cX10_recur 327 = .ok (.iconst 1, 1) := by decide +kernel
theorem dX10_recur_328 : decode cX10_recur 328 = .ok (.isub, 1) := by decide +kernel
theorem dX10_recur_329 : decode cX10_recur 329 = .ok (.iload_n 2, 1) := by decide +kernel
theorem dX10_recur_330 : decode cX10_recur 330 = .ok (.if_icmp .gt 12, 3) := by decide +kernel
theorem dX10_recur_333 : decode cX10_recur 333 = .ok (.aload_n 0, 1) := by decide +kernel
theorem dX10_recur_334 : decode cX10_recur 334 = .ok (.iload_n 1, 1) := by decide +kernel
theorem dX10_recur_335 : decode cX10_recur 335 = .ok (.iload_n 3, 1) := by decide +kernel
theorem dX10_recur_336 : decode cX10_recur 336 = .ok (.iconst 1, 1) := by decide +kernel
theorem dX10_recur_337 : decode cX10_recur 337 = .ok (.isub, 1) := by decide +kernel
theorem dX10_recur_338 : decode cX10_recur 338 = .ok (.iload_n 3, 1) := by decide +kernel
theorem dX10_recur_339 : decode cX10_recur 339 = .ok (.invokevirtual 193, 3) := by decide +kernel
theorem dX10_recur_342 : decode cX10_recur 342 = .ok (.iload_n 3, 1) := by decide +kernel
theorem dX10_recur_343 : decode cX10_recur 343 = .ok (.ireturn, 1) := by decide +kernel
theorem dX10_point_0 : decode cX10_point 0 = .ok (.aload_n 0, 1) := by decide +kernel
theorem dX10_point_1 : decode cX10_point 1 = .ok (.iload_n 1, 1) := by decide +kernel
theorem dX10_point_2 : decode cX10_point 2 = .ok (.i2l, 1) := by decide +kernel
theorem dX10_point_3 : decode cX10_point 3 = .ok (.invokevirtual 135, 3) := by decide +kernel
theorem dX10_point_6 : decode cX10_point 6 = .ok (.istore_n 3, 1) := by decide +kernel
theorem dX10_point_7 : decode cX10_point 7 = .ok (.aload_n 0, 1) := by decide +kernel
theorem dX10_point_8 : decode cX10_point 8 = .ok (.iload_n 2, 1) := by decide +kernel
theorem dX10_point_9 : decode cX10_point 9 = .ok (.i2l, 1) := by decide +kernel
theorem dX10_point_10 : decode cX10_point 10 = .ok (.invokevirtual 135, 3) := by decide +kernel
theorem dX10_point_13 : decode cX10_point 13 = .ok (.istore 4, 2) := by decide +kernel
theorem dX10_point_15 : decode cX10_point 15 = .ok (.iconst 0, 1) := by decide +kernel
theorem dX10_point_16 : decode cX10_point 16 = .ok (.istore 5, 2) := by decide +kernel
theorem dX10_point_18 : decode cX10_point 18 = .ok (.iload 5, 2) := by decide +kernel
theorem dX10_point_20 : decode cX10_point 20 = .ok (.aload_n 0, 1) := by decide +kernel
theorem dX10_point_21 : decode cX10_point 21 = .ok (.getfield 118, 3) := by decide +kernel
theorem dX10_point_24 : decode cX10_point 24 = .ok (.if_icmp .ge 42, 3) := by decide +kernel
theorem dX10_point_27 : decode cX10_point 27 = .ok (.aload_n 0, 1) := by decide +kernel
theorem dX10_point_28 : decode cX10_point 28 = .ok (.getfield 86, 3) := by decide +kernel
theorem dX10_point_31 : decode cX10_point 31 = .ok (.iload 5, 2) := by decide +kernel
theorem dX10_point_33 : decode cX10_point 33 = .ok (.iaload, 1) := by decide +kernel
theorem dX10_point_34 : decode cX10_point 34 = .ok (.iload_n 3, 1) := by decide +kernel
theorem dX10_point_35 : decode cX10_point 35 = .ok (.if_icmp .ne 25, 3) := by decide +kernel
theorem dX10_point_38 : decode cX10_point 38 = .ok (.aload_n 0, 1) := by decide +kernel
theorem dX10_point_39 : decode cX10_point 39 = .ok (.getfield 89, 3) := by decide +kernel
theorem dX10_point_42 : decode cX10_point 42 = .ok (.iload 5, 2) := by decide +kernel
theorem dX10_point_44 : decode cX10_point 44 = .ok (.iaload, 1) := by decide +kernel
theorem dX10_point_45 : decode cX10_point 45 = .ok (.iload 4, 2) := by decide +kernel
theorem dX10_point_47 : decode cX10_point 47 = .ok (.if_icmp .ne 10, 3) := by decide +kernel
theorem dX10_point_50 : decode cX10_point 50 = .ok (.aload_n 0, 1) := by decide +kernel
theorem dX10_point_51 : decode cX10_point 51 = .ok (.getfield 118, 3) := by decide +kernel
theorem dX10_point_54 : decode cX10_point 54 = .ok (.goto 5, 3) := by decide +kernel
theorem dX10_point_57 : decode cX10_point 57 = .ok (.bipush (-103), 2) := by decide +kernel
theorem dX10_point_59 : decode cX10_point 59 = .ok (.ireturn, 1) := by decide +kernel
theorem dX10_point_60 : decode cX10_point 60 = .ok (.iinc 5 1, 3) := by decide +kernel
theorem dX10_point_63 : decode cX10_point 63 = .ok (.goto (-45), 3) := by decide +kernel
theorem dX10_point_66 : decode cX10_point 66 = .ok (.aload_n 0, 1) := by decide +kernel
theorem dX10_point_67 : decode cX10_point 67 = .ok (.getfield 118, 3) := by decide +kernel
theorem dX10_point_70 : decode cX10_point 70 = .ok (.bipush 20, 2) := by decide +kernel
theorem dX10_point_72 : decode cX10_point 72 = .ok (.if_icmp .ne 6, 3) := by decide +kernel
theorem dX10_point_75 : decode cX10_point 75 = .ok (.bipush (-104), 2) := by decide +kernel
theorem dX10_point_77 : decode cX10_point 77 = .ok (.ireturn, 1) := by decide +kernel
theorem dX10_point_78 : decode cX10_point 78 = .ok (.aload_n 0, 1) := by decide +kernel
theorem dX10_point_79 : decode cX10_point 79 = .ok (.getfield 86, 3) := by decide +kernel
theorem dX10_point_82 : decode cX10_point 82 = .ok (.aload_n 0, 1) := by decide +kernel
theorem dX10_point_83 : decode cX10_point 83 = .ok (.getfield 118, 3) := by decide +kernel
theorem dX10_point_86 : decode cX10_point 86 = .ok (.iload_n 3, 1) := by decide +kernel
theorem dX10_point_87 : decode cX10_point 87 = .ok (.iastore, 1) := by decide +kernel
theorem dX10_point_88 : decode cX10_point 88 = .ok (.aload_n 0, 1) := by decide +kernel
theorem dX10_point_89 : decode cX10_point 89 = .ok (.getfield 89, 3) := by decide +kernel
theorem dX10_point_92 : decode cX10_point 92 = .ok (.aload_n 0, 1) := by decide +kernel
theorem dX10_point_93 : decode cX10_point 93 = .ok (.getfield 118, 3) := by decide +kernel
theorem dX10_point_96 : decode cX10_point 96 = .ok (.iload 4, 2) := by decide +kernel
theorem dX10_point_98 : decode cX10_point 98 = .ok (.iastore, 1) := by decide +kernel
theorem dX10_point_99 : decode cX10_point 99 = .ok (.aload_n 0, 1) := by decide +kernel
theorem dX10_point_100 : decode cX10_point 100 = .ok (.dup, 1) := by decide +kernel
theorem dX10_point_101 : decode cX10_point 101 = .ok (.getfield 118, 3) := by decide +kernel
theorem dX10_point_104 : decode cX10_point 104 = .ok (.iconst 1, 1) := by decide +kernel
theorem dX10_point_105 : decode cX10_point 105 = .ok (.iadd, 1) := by decide +kernel
theorem dX10_point_106 : decode cX10_point 106 = .ok (.putfield 118, 3) := by decide +kernel
theorem dX10_point_109 : decode cX10_point 109 = .ok (.aload_n 0, 1) := by decide +kernel
theorem dX10_point_110 : decode cX10_point 110 = .ok (.getfield 118, 3) := by decide +kernel
theorem dX10_point_113 : decode cX10_point 113 = .ok (.ireturn, 1) := by decide +kernel
theorem dX10_wipe_0 : decode cX10_wipe 0 = .ok (.aload_n 0, 1) := by decide +kernel
theorem dX10_wipe_1 : decode cX10_wipe 1 = .ok (.getfield 118, 3) := by decide +kernel
theorem dX10_wipe_4 : decode cX10_wipe 4 = .ok (.istore_n 1, 1) := by decide +kernel
theorem dX10_wipe_5 : decode cX10_wipe 5 = .ok (.aload_n 0, 1) := by decide +kernel
theorem dX10_wipe_6 : decode cX10_wipe 6 = .ok (.iconst 0, 1) := by decide +kernel
theorem dX10_wipe_7 : decode cX10_wipe 7 = .ok (.putfield 118, 3) := by decide +kernel
theorem dX10_wipe_10 : decode cX10_wipe 10 = .ok (.iload_n 1, 1) := by decide +kernel
theorem dX10_wipe_11 : decode cX10_wipe 11 = .ok (.ireturn, 1) := by decide +kernel
theorem dX10_valueOf_0 : decode cX10_valueOf 0 = .ok (.iconst 0, 1) := by decide +kernel
theorem dX10_valueOf_1 : decode cX10_valueOf 1 = .ok (.istore_n 3, 1) := by decide +kernel
theorem dX10_valueOf_2 : decode cX10_valueOf 2 = .ok (.bipush 45, 2) := by decide +kernel
theorem dX10_valueOf_4 : decode cX10_valueOf 4 = .ok (.istore 4, 2) := by decide +kernel
theorem dX10_valueOf_6 : decode cX10_valueOf 6 = .ok (.iload 4, 2) := by decide +kernel
theorem dX10_valueOf_8 : decode cX10_valueOf 8 = .ok (.ifCond .lt 25, 3) := by decide +kernel
theorem dX10_valueOf_11 : decode cX10_valueOf 11 = .ok (.aload_n 0, 1) := by decide +kernel
theorem dX10_valueOf_12 : decode cX10_valueOf 12 = .ok (.iload_n 3, 1) := by decide +kernel
theorem dX10_valueOf_13 : decode cX10_valueOf 13 = .ok (.i2l, 1) := by decide +kernel
theorem dX10_valueOf_14 : decode cX10_valueOf 14 = .ok (.iload_n 2, 1) := by decide +kernel
theorem dX10_valueOf_15 : decode cX10_valueOf 15 = .ok (.i2l, 1) := by decide +kernel
theorem dX10_valueOf_16 : decode cX10_valueOf 16 = .ok (.lmul, 1) := by decide +kernel
theorem dX10_valueOf_17 : decode cX10_valueOf 17 = .ok (.aload_n 1, 1) := by decide +kernel
theorem dX10_valueOf_18 : decode cX10_valueOf 18 = .ok (.iload 4, 2) := by decide +kernel
theorem dX10_valueOf_20 : decode cX10_valueOf 20 = .ok (.iaload, 1) := by decide +kernel
theorem dX10_valueOf_21 : decode cX10_valueOf 21 = .ok (.i2l, 1) := by decide +kernel
theorem dX10_valueOf_22 : decode cX10_valueOf 22 = .ok (.ladd, 1) := by decide +kernel
theorem dX10_valueOf_23 : decode cX10_valueOf 23 = .ok (.invokevirtual 135, 3) := by decide +kernel
theorem dX10_valueOf_26 : decode cX10_valueOf 26 = .ok (.istore_n 3, 1) := by decide +kernel
theorem dX10_valueOf_27 : decode cX10_valueOf 27 = .ok (.iinc 4 (-1), 3) := by decide +kernel
theorem dX10_valueOf_30 : decode cX10_valueOf 30 = .ok (.goto (-24), 3) := by decide +kernel
theorem dX10_valueOf_33 : decode cX10_valueOf 33 = .ok (.iload_n 3, 1) := by decide +kernel
theorem dX10_valueOf_34 : decode cX10_valueOf 34 = .ok (.ireturn, 1) := by decide +kernel
theorem dX10_join_0 : decode cX10_join 0 = .ok (.iload_n 1, 1) := by decide +kernel
theorem dX10_join_1 : decode cX10_join 1 = .ok (.ifCond .lt 7, 3) := by decide +kernel
theorem dX10_join_4 : decode cX10_join 4 = .ok (.iload_n 2, 1) := by decide +kernel
theorem dX10_join_5 : decode cX10_join 5 = .ok (.ifCond .ge 6, 3) := by decide +kernel
theorem dX10_join_8 : decode cX10_join 8 = .ok (.bipush (-102), 2) := by decide +kernel
theorem dX10_join_10 : decode cX10_join 10 = .ok (.ireturn, 1) := by decide +kernel
theorem dX10_join_11 : decode cX10_join 11 = .ok (.iload_n 1, 1) := by decide +kernel
theorem dX10_join_12 : decode cX10_join 12 = .ok (.i2l, 1) := by decide +kernel
theorem dX10_join_13 : decode cX10_join 13 = .ok (.iload_n 2, 1) := by decide +kernel
theorem dX10_join_14 : decode cX10_join 14 = .ok (.i2l, 1) := by decide +kernel
theorem dX10_join_15 : decode cX10_join 15 = .ok (.ladd, 1) := by decide +kernel
theorem dX10_join_16 : decode cX10_join 16 = .ok (.lconst 1, 1) := by decide +kernel
theorem dX10_join_17 : decode cX10_join 17 = .ok (.ladd, 1) := by decide +kernel
theorem dX10_join_18 : decode cX10_join 18 = .ok (.aload_n 0, 1) := by decide +kernel
theorem dX10_join_19 : decode cX10_join 19 = .ok (.getfield 118, 3) := by decide +kernel
theorem dX10_join_22 : decode cX10_join 22 = .ok (.i2l, 1) := by decide +kernel
theorem dX10_join_23 : decode cX10_join 23 = .ok (.lcmp, 1) := by decide +kernel
theorem dX10_join_24 : decode cX10_join 24 = .ok (.ifCond .eq 6, 3) := by decide +kernel
theorem dX10_join_27 : decode cX10_join 27 = .ok (.bipush (-103), 2) := by decide +kernel
theorem dX10_join_29 : decode cX10_join 29 = .ok (.ireturn, 1) := by decide +kernel
theorem dX10_join_30 : decode cX10_join 30 = .ok (.iconst 0, 1) := by decide +kernel
theorem dX10_join_31 : decode cX10_join 31 = .ok (.istore_n 3, 1) := by decide +kernel
theorem dX10_join_32 : decode cX10_join 32 = .ok (.iload_n 3, 1) := by decide +kernel
theorem dX10_join_33 : decode cX10_join 33 = .ok (.aload_n 0, 1) := by decide +kernel
theorem dX10_join_34 : decode cX10_join 34 = .ok (.getfield 118, 3) := by decide +kernel
theorem dX10_join_37 : decode cX10_join 37 = .ok (.if_icmp .ge 110, 3) := by decide +kernel
theorem dX10_join_40 : decode cX10_join 40 = .ok (.iconst 1, 1) := by decide +kernel
theorem dX10_join_41 : decode cX10_join 41 = .ok (.aload_n 0, 1) := by decide +kernel
theorem dX10_join_42 : decode cX10_join 42 = .ok (.getfield 92, 3) := by decide +kernel
theorem dX10_join_45 : decode cX10_join 45 = .ok (.irem, 1) := by decide +kernel
theorem dX10_join_46 : decode cX10_join 46 = .ok (.istore 4, 2) := by decide +kernel
theorem dX10_join_48 : decode cX10_join 48 = .ok (.iconst 0, 1) := by decide +kernel
theorem dX10_join_49 : decode cX10_join 49 = .ok (.istore 5, 2) := by decide +kernel
theorem dX10_join_51 : decode cX10_join 51 = .ok (.iload 5, 2) := by decide +kernel
theorem dX10_join_53 : decode cX10_join 53 = .ok (.iload_n 1, 1) := by decide +kernel
theorem dX10_join_54 : decode cX10_join 54 = .ok (.if_icmp .le 9, 3) := by decide +kernel
theorem dX10_join_57 : decode cX10_join 57 = .ok (.iload 5, 2) := by decide +kernel
theorem dX10_join_59 : decode cX10_join 59 = .ok (.iload_n 2, 1) := by decide +kernel
theorem dX10_join_60 : decode cX10_join 60 = .ok (.if_icmp .gt 81, 3) := by decide +kernel
theorem dX10_join_63 : decode cX10_join 63 = .ok (.iload 5, 2) := by decide +kernel
theorem dX10_join_65 : decode cX10_join 65 = .ok (.iload_n 1, 1) := by decide +kernel
theorem dX10_join_66 : decode cX10_join 66 = .ok (.if_icmp .gt 17, 3) := by decide +kernel
theorem dX10_join_69 : decode cX10_join 69 = .ok (.aload_n 0, 1) := by decide +kernel
theorem dX10_join_70 : decode cX10_join 70 = .ok (.getfield 41, 3) := by decide +kernel
theorem dX10_join_73 : decode cX10_join 73 = .ok (.bipush 44, 2) := by decide +kernel
theorem dX10_join_75 : decode cX10_join 75 = .ok (.iload_n 3, 1) := by decide +kernel
theorem dX10_join_76 : decode cX10_join 76 = .ok (.imul, 1) := by decide +kernel
theorem dX10_join_77 : decode cX10_join 77 = .ok (.iload 5, 2) := by decide +kernel
theorem dX10_join_79 : decode cX10_join 79 = .ok (.iadd, 1) := by decide +kernel
theorem dX10_join_80 : decode cX10_join 80 = .ok (.iload 4, 2) := by decide +kernel
theorem dX10_join_82 : decode cX10_join 82 = .ok (.iastore, 1) := by decide +kernel
theorem dX10_join_83 : decode cX10_join 83 = .ok (.iload 5, 2) := by decide +kernel
theorem dX10_join_85 : decode cX10_join 85 = .ok (.iload_n 2, 1) := by decide +kernel
theorem dX10_join_86 : decode cX10_join 86 = .ok (.if_icmp .gt 35, 3) := by decide +kernel
theorem dX10_join_89 : decode cX10_join 89 = .ok (.aload_n 0, 1) := by decide +kernel
theorem dX10_join_90 : decode cX10_join 90 = .ok (.getfield 41, 3) := by decide +kernel
theorem dX10_join_93 : decode cX10_join 93 = .ok (.bipush 44, 2) := by decide +kernel
theorem dX10_join_95 : decode cX10_join 95 = .ok (.iload_n 3, 1) := by decide +kernel
theorem dX10_join_96 : decode cX10_join 96 = .ok (.imul, 1) := by decide +kernel
theorem dX10_join_97 : decode cX10_join 97 = .ok (.iload_n 1, 1) := by decide +kernel
theorem dX10_join_98 : decode cX10_join 98 = .ok (.iadd, 1) := by decide +kernel
theorem dX10_join_99 : decode cX10_join 99 = .ok (.iconst 1, 1) := by decide +kernel
theorem dX10_join_100 : decode cX10_join 100 = .ok (.iadd, 1) := by decide +kernel
theorem dX10_join_101 : decode cX10_join 101 = .ok (.iload 5, 2) := by decide +kernel
theorem dX10_join_103 : decode cX10_join 103 = .ok (.iadd, 1) := by decide +kernel
theorem dX10_join_104 : decode cX10_join 104 = .ok (.aload_n 0, 1) := by decide +kernel
theorem dX10_join_105 : decode cX10_join 105 = .ok (.iload 4, 2) := by decide +kernel
theorem dX10_join_107 : decode cX10_join 107 = .ok (.i2l, 1) := by decide +kernel
theorem dX10_join_108 : decode cX10_join 108 = .ok (.lneg, 1) := by decide +kernel
theorem dX10_join_109 : decode cX10_join 109 = .ok (.aload_n 0, 1) := by decide +kernel
theorem dX10_join_110 : decode cX10_join 110 = .ok (.getfield 89, 3) := by decide +kernel
theorem dX10_join_113 : decode cX10_join 113 = .ok (.iload_n 3, 1) := by decide +kernel
theorem dX10_join_114 : decode cX10_join 114 = .ok (.iaload, 1) := by decide +kernel
theorem dX10_join_115 : decode cX10_join 115 = .ok (.i2l, 1) := by decide +kernel
theorem dX10_join_116 : decode cX10_join 116 = .ok (.lmul, 1) := by decide +kernel
theorem dX10_join_117 : decode cX10_join 117 = .ok (.invokevirtual 135, 3) := by decide +kernel
theorem dX10_join_120 : decode cX10_join 120 = .ok (.iastore, 1) := by decide +kernel
theorem dX10_join_121 : decode cX10_join 121 = .ok (.aload_n 0, 1) := by decide +kernel
theorem dX10_join_122 : decode cX10_join 122 = .ok (.iload 4, 2) := by decide +kernel
theorem dX10_join_124 : decode cX10_join 124 = .ok (.aload_n 0, 1) := by decide +kernel
theorem dX10_join_125 : decode cX10_join 125 = .ok (.getfield 86, 3) := by decide +kernel
theorem dX10_join_128 : decode cX10_join 128 = .ok (.iload_n 3, 1) := by decide +kernel
theorem dX10_join_129 : decode cX10_join 129 = .ok (.iaload, 1) := by decide +kernel
theorem dX10_join_130 : decode cX10_join 130 = .ok (.invokevirtual 99, 3) := by decide +kernel
theorem dX10_join_133 : decode cX10_join 133 = .ok (.istore 4, 2) := by decide +kernel
theorem dX10_join_135 : decode cX10_join 135 = .ok (.iinc 5 1, 3) := by decide +kernel
theorem dX10_join_138 : decode cX10_join 138 = .ok (.goto (-87), 3) := by decide +kernel
theorem dX10_join_141 : decode cX10_join 141 = .ok (.iinc 3 1, 3) := by decide +kernel
theorem dX10_join_144 : decode cX10_join 144 = .ok (.goto (-112), 3) := by decide +kernel
theorem dX10_join_147 : decode cX10_join 147 = .ok (.aload_n 0, 1) := by decide +kernel
theorem dX10_join_148 : decode cX10_join 148 = .ok (.aload_n 0, 1) := by decide +kernel
theorem dX10_join_149 : decode cX10_join 149 = .ok (.getfield 118, 3) := by decide +kernel
theorem dX10_join_152 : decode cX10_join 152 = .ok (.invokevirtual 179, 3) := by decide +kernel
theorem dX10_join_155 : decode cX10_join 155 = .ok (.aload_n 0, 1) := by decide +kernel
theorem dX10_join_156 : decode cX10_join 156 = .ok (.invokevirtual 145, 3) := by decide +kernel
theorem dX10_join_159 : decode cX10_join 159 = .ok (.iconst 0, 1) := by decide +kernel
theorem dX10_join_160 : decode cX10_join 160 = .ok (.istore_n 3, 1) := by decide +kernel
theorem dX10_join_161 : decode cX10_join 161 = .ok (.iload_n 3, 1) := by decide +kernel
theorem dX10_join_162 : decode cX10_join 162 = .ok (.iload_n 1, 1) := by decide +kernel
theorem dX10_join_163 : decode cX10_join 163 = .ok (.if_icmp .gt 21, 3) := by decide +kernel
theorem dX10_join_166 : decode cX10_join 166 = .ok (.aload_n 0, 1) := by decide +kernel
theorem dX10_join_167 : decode cX10_join 167 = .ok (.getfield 35, 3) := by decide +kernel
theorem dX10_join_170 : decode cX10_join 170 = .ok (.iload_n 3, 1) := by decide +kernel
theorem dX10_join_171 : decode cX10_join 171 = .ok (.aload_n 0, 1) := by decide +kernel
theorem dX10_join_172 : decode cX10_join 172 = .ok (.getfield 47, 3) := by decide +kernel
theorem dX10_join_175 : decode cX10_join 175 = .ok (.iload_n 3, 1) := by decide +kernel
theorem dX10_join_176 : decode cX10_join 176 = .ok (.iaload, 1) := by decide +kernel
theorem dX10_join_177 : decode cX10_join 177 = .ok (.iastore, 1) := by decide +kernel
theorem dX10_join_178 : decode cX10_join 178 = .ok (.iinc 3 1, 3) := by decide +kernel
theorem dX10_join_181 : decode cX10_join 181 = .ok (.goto (-20), 3) := by decide +kernel
theorem dX10_join_184 : decode cX10_join 184 = .ok (.iconst 0, 1) := by decide +kernel
theorem dX10_join_185 : decode cX10_join 185 = .ok (.istore_n 3, 1) := by decide +kernel
theorem dX10_join_186 : decode cX10_join 186 = .ok (.iload_n 3, 1) := by decide +kernel
theorem dX10_join_187 : decode cX10_join 187 = .ok (.iload_n 2, 1) := by decide +kernel
theorem dX10_join_188 : decode cX10_join 188 = .ok (.if_icmp .gt 25, 3) := by decide +kernel
theorem dX10_join_191 : decode cX10_join 191 = .ok (.aload_n 0, 1) := by decide +kernel
theorem dX10_join_192 : decode cX10_join 192 = .ok (.getfield 38, 3) := by decide +kernel
theorem dX10_join_195 : decode cX10_join 195 = .ok (.iload_n 3, 1) := by decide +kernel
theorem dX10_join_196 : decode cX10_join 196 = .ok (.aload_n 0, 1) := by decide +kernel
theorem dX10_join_197 : decode cX10_join 197 = .ok (.getfield 47, 3) := by decide +kernel
theorem dX10_join_200 : decode cX10_join 200 = .ok (.iload_n 1, 1) := by decide +kernel
theorem dX10_join_201 : decode cX10_join 201 = .ok (.iconst 1, 1) := by decide +kernel
theorem dX10_join_202 : decode cX10_join 202 = .ok (.iadd, 1) := by decide +kernel
theorem dX10_join_203 : decode cX10_join 203 = .ok (.iload_n 3, 1) := by decide +kernel
theorem dX10_join_204 : decode cX10_join 204 = .ok (.iadd, 1) := by decide +kernel
theorem dX10_join_205 : decode cX10_join 205 = .ok (.iaload, 1) := by decide +kernel
theorem dX10_join_206 : decode cX10_join 206 = .ok (.iastore, 1) := by decide +kernel
theorem dX10_join_207 : decode cX10_join 207 = .ok (.iinc 3 1, 3) := by decide +kernel
theorem dX10_join_210 : decode cX10_join 210 = .ok (.goto (-24), 3) := by decide +kernel
theorem dX10_join_213 : decode cX10_join 213 = .ok (.aload_n 0, 1) := by decide +kernel
theorem dX10_join_214 : decode cX10_join 214 = .ok (.invokevirtual 183, 3) := by decide +kernel
theorem dX10_join_217 : decode cX10_join 217 = .ok (.aload_n 0, 1) := by decide +kernel
theorem dX10_join_218 : decode cX10_join 218 = .ok (.invokevirtual 200, 3) := by decide +kernel
theorem dX10_join_221 : decode cX10_join 221 = .ok (.aload_n 0, 1) := by decide +kernel
theorem dX10_join_222 : decode cX10_join 222 = .ok (.invokevirtual 186, 3) := by decide +kernel
theorem dX10_join_225 : decode cX10_join 225 = .ok (.iconst 1, 1) := by decide +kernel
theorem dX10_join_226 : decode cX10_join 226 = .ok (.istore_n 3, 1) := by decide +kernel
theorem dX10_join_227 : decode cX10_join 227 = .ok (.iconst 0, 1) := by decide +kernel
theorem dX10_join_228 : decode cX10_join 228 = .ok (.istore 4, 2) := by decide +kernel
theorem dX10_join_230 : decode cX10_join 230 = .ok (.iload 4, 2) := by decide +kernel
theorem dX10_join_232 : decode cX10_join 232 = .ok (.aload_n 0, 1) := by decide +kernel
theorem dX10_join_233 : decode cX10_join 233 = .ok (.getfield 118, 3) := by decide +kernel
theorem dX10_join_236 : decode cX10_join 236 = .ok (.if_icmp .ge 72, 3) := by decide +kernel
theorem dX10_join_239 : decode cX10_join 239 = .ok (.aload_n 0, 1) := by decide +kernel
theorem dX10_join_240 : decode cX10_join 240 = .ok (.aload_n 0, 1) := by decide +kernel
theorem dX10_join_241 : decode cX10_join 241 = .ok (.getfield 53, 3) := by decide +kernel
theorem dX10_join_244 : decode cX10_join 244 = .ok (.aload_n 0, 1) := by decide +kernel
theorem dX10_join_245 : decode cX10_join 245 = .ok (.getfield 86, 3) := by decide +kernel
theorem dX10_join_248 : decode cX10_join 248 = .ok (.iload 4, 2) := by decide +kernel
theorem dX10_join_250 : decode cX10_join 250 = .ok (.iaload, 1) := by decide +kernel
theorem dX10_join_251 : decode cX10_join 251 = .ok (.invokevirtual 206, 3) := by decide +kernel
theorem dX10_join_254 : decode cX10_join 254 = .ok (.istore 5, 2) := by decide +kernel
theorem dX10_join_256 : decode cX10_join 256 = .ok (.iload_n 3, 1) := by decide +kernel
theorem dX10_join_257 : decode cX10_join 257 = .ok (.ifCond .eq 43, 3) := by decide +kernel
theorem dX10_join_260 : decode cX10_join 260 = .ok (.iload 5, 2) := by decide +kernel
theorem dX10_join_262 : decode cX10_join 262 = .ok (.ifCond .eq 38, 3) := by decide +kernel
theorem dX10_join_265 : decode cX10_join 265 = .ok (.aload_n 0, 1) := by decide +kernel
theorem dX10_join_266 : decode cX10_join 266 = .ok (.aload_n 0, 1) := by decide +kernel
theorem dX10_join_267 : decode cX10_join 267 = .ok (.getfield 50, 3) := by decide +kernel
theorem dX10_join_270 : decode cX10_join 270 = .ok (.aload_n 0, 1) := by decide +kernel
theorem dX10_join_271 : decode cX10_join 271 = .ok (.getfield 86, 3) := by decide +kernel
theorem dX10_join_274 : decode cX10_join 274 = .ok (.iload 4, 2) := by decide +kernel
theorem dX10_join_276 : decode cX10_join 276 = .ok (.iaload, 1) := by decide +kernel
theorem dX10_join_277 : decode cX10_join 277 = .ok (.invokevirtual 206, 3) := by decide +kernel
theorem dX10_join_280 : decode cX10_join 280 = .ok (.aload_n 0, 1) := by decide +kernel
theorem dX10_join_281 : decode cX10_join 281 = .ok (.iload 5, 2) := by decide +kernel
theorem dX10_join_283 : decode cX10_join 283 = .ok (.aload_n 0, 1) := by decide +kernel
theorem dX10_join_284 : decode cX10_join 284 = .ok (.getfield 89, 3) := by decide +kernel
theorem dX10_join_287 : decode cX10_join 287 = .ok (.iload 4, 2) := by decide +kernel
theorem dX10_join_289 : decode cX10_join 289 = .ok (.iaload, 1) := by decide +kernel
theorem dX10_join_290 : decode cX10_join 290 = .ok (.invokevirtual 99, 3) := by decide +kernel
theorem dX10_join_293 : decode cX10_join 293 = .ok (.if_icmp .ne 7, 3) := by decide +kernel
theorem dX10_join_296 : decode cX10_join 296 = .ok (.iconst 1, 1) := by decide +kernel
theorem dX10_join_297 : decode cX10_join 297 = .ok (.goto 4, 3) := by decide +kernel
theorem dX10_join_300 : decode cX10_join 300 = .ok (.iconst 0, 1) := by decide +kernel
theorem dX10_join_301 : decode cX10_join 301 = .ok (.istore_n 3, 1) := by decide +kernel
theorem dX10_join_302 : decode cX10_join 302 = .ok (.iinc 4 1, 3) := by decide +kernel
theorem dX10_join_305 : decode cX10_join 305 = .ok (.goto (-75), 3) := by decide +kernel
theorem dX10_join_308 : decode cX10_join 308 = .ok (.iload_n 3, 1) := by decide +kernel
theorem dX10_join_309 : decode cX10_join 309 = .ok (.ifCond .ne 7, 3) := by decide +kernel
theorem dX10_join_312 : decode cX10_join 312 = .ok (.aload_n 0, 1) := by decide +kernel
theorem dX10_join_313 : decode cX10_join 313 = .ok (.invokevirtual 203, 3) := by decide +kernel
theorem dX10_join_316 : decode cX10_join 316 = .ok (.iload_n 3, 1) := by decide +kernel
theorem dX10_join_317 : decode cX10_join 317 = .ok (.ifCond .eq 7, 3) := by decide +kernel
theorem dX10_join_320 : decode cX10_join 320 = .ok (.iconst 1, 1) := by decide +kernel
theorem dX10_join_321 : decode cX10_join 321 = .ok (.goto 4, 3) := by decide +kernel
theorem dX10_join_324 : decode cX10_join 324 = .ok (.iconst 0, 1) := by decide +kernel
theorem dX10_join_325 : decode cX10_join 325 = .ok (.ireturn, 1) := by decide +kernel
theorem dX10_degree_0 : decode cX10_degree 0 = .ok (.iload_n 1, 1) := by decide +kernel
theorem dX10_degree_1 : decode cX10_degree 1 = .ok (.i2l, 1) := by decide +kernel
theorem dX10_degree_2 : decode cX10_degree 2 = .ok (.lconst 0, 1) := by decide +kernel
theorem dX10_degree_3 : decode cX10_degree 3 = .ok (.lconst 1, 1) := by decide +kernel
theorem dX10_degree_4 : decode cX10_degree 4 = .ok (.invokestatic 107, 3) := by decide +kernel
theorem dX10_degree_7 : decode cX10_degree 7 = .ok (.ifCond .ne 8, 3) := by decide +kernel
theorem dX10_degree_10 : decode cX10_degree 10 = .ok (.bipush (-102), 2) := by decide +kernel
theorem dX10_degree_12 : decode cX10_degree 12 = .ok (.goto 28, 3) := by decide +kernel
theorem dX10_degree_15 : decode cX10_degree 15 = .ok (.iload_n 1, 1) := by decide +kernel
theorem dX10_degree_16 : decode cX10_degree 16 = .ok (.ifCond .ne 15, 3) := by decide +kernel
theorem dX10_degree_19 : decode cX10_degree 19 = .ok (.aload_n 0, 1) := by decide +kernel
theorem dX10_degree_20 : decode cX10_degree 20 = .ok (.getfield 50, 3) := by decide +kernel
theorem dX10_degree_23 : decode cX10_degree 23 = .ok (.bipush 45, 2) := by decide +kernel
theorem dX10_degree_25 : decode cX10_degree 25 = .ok (.invokestatic 167, 3) := by decide +kernel
theorem dX10_degree_28 : decode cX10_degree 28 = .ok (.goto 12, 3) := by decide +kernel
theorem dX10_degree_31 : decode cX10_degree 31 = .ok (.aload_n 0, 1) := by decide +kernel
theorem dX10_degree_32 : decode cX10_degree 32 = .ok (.getfield 53, 3) := by decide +kernel
theorem dX10_degree_35 : decode cX10_degree 35 = .ok (.bipush 45, 2) := by decide +kernel
theorem dX10_degree_37 : decode cX10_degree 37 = .ok (.invokestatic 167, 3) := by decide +kernel
theorem dX10_degree_40 : decode cX10_degree 40 = .ok (.ireturn, 1) := by decide +kernel
theorem dX10_term_0 : decode cX10_term 0 = .ok (.iload_n 1, 1) := by decide +kernel
theorem dX10_term_1 : decode cX10_term 1 = .ok (.i2l, 1) := by decide +kernel
theorem dX10_term_2 : decode cX10_term 2 = .ok (.lconst 0, 1) := by decide +kernel
theorem dX10_term_3 : decode cX10_term 3 = .ok (.lconst 1, 1) := by decide +kernel
theorem dX10_term_4 : decode cX10_term 4 = .ok (.invokestatic 107, 3) := by decide +kernel
theorem dX10_term_7 : decode cX10_term 7 = .ok (.ifCond .ne 6, 3) := by decide +kernel
theorem dX10_term_10 : decode cX10_term 10 = .ok (.bipush (-102), 2) := by decide +kernel
theorem dX10_term_12 : decode cX10_term 12 = .ok (.ireturn, 1) := by decide +kernel
theorem dX10_term_13 : decode cX10_term 13 = .ok (.iload_n 2, 1) := by decide +kernel
theorem dX10_term_14 : decode cX10_term 14 = .ok (.i2l, 1) := by decide +kernel
theorem dX10_term_15 : decode cX10_term 15 = .ok (.lconst 0, 1) := by decide +kernel
theorem dX10_term_16 : decode cX10_term 16 = .ok (.ldc2_w 209, 3) := by decide +kernel
theorem dX10_term_19 : decode cX10_term 19 = .ok (.invokestatic 107, 3) := by decide +kernel
theorem dX10_term_22 : decode cX10_term 22 = .ok (.ifCond .ne 7, 3) := by decide +kernel
theorem dX10_term_25 : decode cX10_term 25 = .ok (.iconst 0, 1) := by decide +kernel
theorem dX10_term_26 : decode cX10_term 26 = .ok (.goto 22, 3) := by decide +kernel
theorem dX10_term_29 : decode cX10_term 29 = .ok (.iload_n 1, 1) := by decide +kernel
theorem dX10_term_30 : decode cX10_term 30 = .ok (.ifCond .ne 12, 3) := by decide +kernel
theorem dX10_term_33 : decode cX10_term 33 = .ok (.aload_n 0, 1) := by decide +kernel
theorem dX10_term_34 : decode cX10_term 34 = .ok (.getfield 50, 3) := by decide +kernel
theorem dX10_term_37 : decode cX10_term 37 = .ok (.iload_n 2, 1) := by decide +kernel
theorem dX10_term_38 : decode cX10_term 38 = .ok (.iaload, 1) := by decide +kernel
theorem dX10_term_39 : decode cX10_term 39 = .ok (.goto 9, 3) := by decide +kernel
theorem dX10_term_42 : decode cX10_term 42 = .ok (.aload_n 0, 1) := by decide +kernel
theorem dX10_term_43 : decode cX10_term 43 = .ok (.getfield 53, 3) := by decide +kernel
theorem dX10_term_46 : decode cX10_term 46 = .ok (.iload_n 2, 1) := by decide +kernel
theorem dX10_term_47 : decode cX10_term 47 = .ok (.iaload, 1) := by decide +kernel
theorem dX10_term_48 : decode cX10_term 48 = .ok (.ireturn, 1) := by decide +kernel
theorem dX10_value_0 : decode cX10_value 0 = .ok (.aload_n 0, 1) := by decide +kernel
theorem dX10_value_1 : decode cX10_value 1 = .ok (.iload_n 1, 1) := by decide +kernel
theorem dX10_value_2 : decode cX10_value 2 = .ok (.i2l, 1) := by decide +kernel
theorem dX10_value_3 : decode cX10_value 3 = .ok (.invokevirtual 135, 3) := by decide +kernel
theorem dX10_value_6 : decode cX10_value 6 = .ok (.istore_n 2, 1) := by decide +kernel
theorem dX10_value_7 : decode cX10_value 7 = .ok (.aload_n 0, 1) := by decide +kernel
theorem dX10_value_8 : decode cX10_value 8 = .ok (.aload_n 0, 1) := by decide +kernel
theorem dX10_value_9 : decode cX10_value 9 = .ok (.getfield 53, 3) := by decide +kernel
theorem dX10_value_12 : decode cX10_value 12 = .ok (.iload_n 2, 1) := by decide +kernel
theorem dX10_value_13 : decode cX10_value 13 = .ok (.invokevirtual 206, 3) := by decide +kernel
theorem dX10_value_16 : decode cX10_value 16 = .ok (.istore_n 3, 1) := by decide +kernel
theorem dX10_value_17 : decode cX10_value 17 = .ok (.iload_n 3, 1) := by decide +kernel
theorem dX10_value_18 : decode cX10_value 18 = .ok (.ifCond .ne 7, 3) := by decide +kernel
theorem dX10_value_21 : decode cX10_value 21 = .ok (.iconst (-1), 1) := by decide +kernel
theorem dX10_value_22 : decode cX10_value 22 = .ok (.goto 21, 3) := by decide +kernel
theorem dX10_value_25 : decode cX10_value 25 = .ok (.aload_n 0, 1) := by decide +kernel
theorem dX10_value_26 : decode cX10_value 26 = .ok (.aload_n 0, 1) := by decide +kernel
theorem dX10_value_27 : decode cX10_value 27 = .ok (.aload_n 0, 1) := by decide +kernel
theorem dX10_value_28 : decode cX10_value 28 = .ok (.getfield 50, 3) := by decide +kernel
theorem dX10_value_31 : decode cX10_value 31 = .ok (.iload_n 2, 1) := by decide +kernel
theorem dX10_value_32 : decode cX10_value 32 = .ok (.invokevirtual 206, 3) := by decide +kernel
theorem dX10_value_35 : decode cX10_value 35 = .ok (.aload_n 0, 1) := by decide +kernel
theorem dX10_value_36 : decode cX10_value 36 = .ok (.iload_n 3, 1) := by decide +kernel
theorem dX10_value_37 : decode cX10_value 37 = .ok (.invokevirtual 142, 3) := by decide +kernel
theorem dX10_value_40 : decode cX10_value 40 = .ok (.invokevirtual 99, 3) := by decide +kernel
theorem dX10_value_43 : decode cX10_value 43 = .ok (.ireturn, 1) := by decide +kernel
theorem dX10_cause_0 : decode cX10_cause 0 = .ok (.aload_n 0, 1) := by decide +kernel
theorem dX10_cause_1 : decode cX10_cause 1 = .ok (.getfield 96, 3) := by decide +kernel
theorem dX10_cause_4 : decode cX10_cause 4 = .ok (.ireturn, 1) := by decide +kernel
theorem dX10_causes_0 : decode cX10_causes 0 = .ok (.iload_n 1, 1) := by decide +kernel
theorem dX10_causes_1 : decode cX10_causes 1 = .ok (.i2l, 1) := by decide +kernel
theorem dX10_causes_2 : decode cX10_causes 2 = .ok (.lconst 1, 1) := by decide +kernel
theorem dX10_causes_3 : decode cX10_causes 3 = .ok (.ldc2_w 211, 3) := by decide +kernel
theorem dX10_causes_6 : decode cX10_causes 6 = .ok (.invokestatic 107, 3) := by decide +kernel
theorem dX10_causes_9 : decode cX10_causes 9 = .ok (.ifCond .eq 12, 3) := by decide +kernel
theorem dX10_causes_12 : decode cX10_causes 12 = .ok (.aload_n 0, 1) := by decide +kernel
theorem dX10_causes_13 : decode cX10_causes 13 = .ok (.getfield 7, 3) := by decide +kernel
theorem dX10_causes_16 : decode cX10_causes 16 = .ok (.iload_n 1, 1) := by decide +kernel
theorem dX10_causes_17 : decode cX10_causes 17 = .ok (.iaload, 1) := by decide +kernel
theorem dX10_causes_18 : decode cX10_causes 18 = .ok (.goto 5, 3) := by decide +kernel
theorem dX10_causes_21 : decode cX10_causes 21 = .ok (.bipush (-102), 2) := by decide +kernel
theorem dX10_causes_23 : decode cX10_causes 23 = .ok (.ireturn, 1) := by decide +kernel
theorem dX10_count_0 : decode cX10_count 0 = .ok (.iconst 0, 1) := by decide +kernel
theorem dX10_count_1 : decode cX10_count 1 = .ok (.istore_n 2, 1) := by decide +kernel
theorem dX10_count_2 : decode cX10_count 2 = .ok (.iconst 0, 1) := by decide +kernel
theorem dX10_count_3 : decode cX10_count 3 = .ok (.istore_n 3, 1) := by decide +kernel
theorem dX10_count_4 : decode cX10_count 4 = .ok (.iload_n 3, 1) := by decide +kernel
theorem dX10_count_5 : decode cX10_count 5 = .ok (.iconst 4, 1) := by decide +kernel
theorem dX10_count_6 : decode cX10_count 6 = .ok (.if_icmp .ge 27, 3) := by decide +kernel
theorem dX10_count_9 : decode cX10_count 9 = .ok (.iload_n 2, 1) := by decide +kernel
theorem dX10_count_10 : decode cX10_count 10 = .ok (.aload_n 0, 1) := by decide +kernel
theorem dX10_count_11 : decode cX10_count 11 = .ok (.getfield 13, 3) := by decide +kernel
theorem dX10_count_14 : decode cX10_count 14 = .ok (.iload_n 3, 1) := by decide +kernel
theorem dX10_count_15 : decode cX10_count 15 = .ok (.iaload, 1) := by decide +kernel
theorem dX10_count_16 : decode cX10_count 16 = .ok (.iconst (-1), 1) := by decide +kernel
theorem dX10_count_17 : decode cX10_count 17 = .ok (.if_icmp .ne 7, 3) := by decide +kernel
theorem dX10_count_20 : decode cX10_count 20 = .ok (.iconst 0, 1) := by decide +kernel
theorem dX10_count_21 : decode cX10_count 21 = .ok (.goto 4, 3) := by decide +kernel
theorem dX10_count_24 : decode cX10_count 24 = .ok (.iconst 1, 1) := by decide +kernel
theorem dX10_count_25 : decode cX10_count 25 = .ok (.iadd, 1) := by decide +kernel
theorem dX10_count_26 : decode cX10_count 26 = .ok (.istore_n 2, 1) := by decide +kernel
theorem dX10_count_27 : decode cX10_count 27 = .ok (.iinc 3 1, 3) := by decide +kernel
theorem dX10_count_30 : decode cX10_count 30 = .ok (.goto (-26), 3) := by decide +kernel
theorem dX10_count_33 : decode cX10_count 33 = .ok (.iload_n 1, 1) := by decide +kernel
theorem dX10_count_34 : decode cX10_count 34 = .ok (.ifCond .ne 10, 3) := by decide +kernel
theorem dX10_count_37 : decode cX10_count 37 = .ok (.aload_n 0, 1) := by decide +kernel
theorem dX10_count_38 : decode cX10_count 38 = .ok (.getfield 92, 3) := by decide +kernel
theorem dX10_count_41 : decode cX10_count 41 = .ok (.goto 38, 3) := by decide +kernel
theorem dX10_count_44 : decode cX10_count 44 = .ok (.iload_n 1, 1) := by decide +kernel
theorem dX10_count_45 : decode cX10_count 45 = .ok (.iconst 1, 1) := by decide +kernel
theorem dX10_count_46 : decode cX10_count 46 = .ok (.if_icmp .ne 10, 3) := by decide +kernel
theorem dX10_count_49 : decode cX10_count 49 = .ok (.aload_n 0, 1) := by decide +kernel
theorem dX10_count_50 : decode cX10_count 50 = .ok (.getfield 115, 3) := by decide +kernel
theorem dX10_count_53 : decode cX10_count 53 = .ok (.goto 26, 3) := by decide +kernel
theorem dX10_count_56 : decode cX10_count 56 = .ok (.iload_n 1, 1) := by decide +kernel
theorem dX10_count_57 : decode cX10_count 57 = .ok (.iconst 2, 1) := by decide +kernel
theorem dX10_count_58 : decode cX10_count 58 = .ok (.if_icmp .ne 10, 3) := by decide +kernel
theorem dX10_count_61 : decode cX10_count 61 = .ok (.aload_n 0, 1) := by decide +kernel
theorem dX10_count_62 : decode cX10_count 62 = .ok (.getfield 118, 3) := by decide +kernel
theorem dX10_count_65 : decode cX10_count 65 = .ok (.goto 14, 3) := by decide +kernel
theorem dX10_count_68 : decode cX10_count 68 = .ok (.iload_n 1, 1) := by decide +kernel
theorem dX10_count_69 : decode cX10_count 69 = .ok (.iconst 3, 1) := by decide +kernel
theorem dX10_count_70 : decode cX10_count 70 = .ok (.if_icmp .ne 7, 3) := by decide +kernel
theorem dX10_count_73 : decode cX10_count 73 = .ok (.iload_n 2, 1) := by decide +kernel
theorem dX10_count_74 : decode cX10_count 74 = .ok (.goto 5, 3) := by decide +kernel
theorem dX10_count_77 : decode cX10_count 77 = .ok (.bipush (-102), 2) := by decide +kernel
theorem dX10_count_79 : decode cX10_count 79 = .ok (.ireturn, 1) := by decide +kernel
theorem dX10_digest_0 : decode cX10_digest 0 = .ok (.ldc2_w 213, 3) := by decide +kernel
theorem dX10_digest_3 : decode cX10_digest 3 = .ok (.aload_n 0, 1) := by decide +kernel
theorem dX10_digest_4 : decode cX10_digest 4 = .ok (.getfield 92, 3) := by decide +kernel
theorem dX10_digest_7 : decode cX10_digest 7 = .ok (.i2l, 1) := by decide +kernel
theorem dX10_digest_8 : decode cX10_digest 8 = .ok (.ladd, 1) := by decide +kernel
theorem dX10_digest_9 : decode cX10_digest 9 = .ok (.lstore_n 1, 1) := by decide +kernel
theorem dX10_digest_10 : decode cX10_digest 10 = .ok (.iconst 0, 1) := by decide +kernel
theorem dX10_digest_11 : decode cX10_digest 11 = .ok (.istore_n 3, 1) := by decide +kernel
theorem dX10_digest_12 : decode cX10_digest 12 = .ok (.iload_n 3, 1) := by decide +kernel
theorem dX10_digest_13 : decode cX10_digest 13 = .ok (.iconst 4, 1) := by decide +kernel
theorem dX10_digest_14 : decode cX10_digest 14 = .ok (.if_icmp .ge 76, 3) := by decide +kernel
theorem dX10_digest_17 : decode cX10_digest 17 = .ok (.aload_n 0, 1) := by decide +kernel
theorem dX10_digest_18 : decode cX10_digest 18 = .ok (.getfield 13, 3) := by decide +kernel
theorem dX10_digest_21 : decode cX10_digest 21 = .ok (.iload_n 3, 1) := by decide +kernel
theorem dX10_digest_22 : decode cX10_digest 22 = .ok (.iaload, 1) := by decide +kernel
theorem dX10_digest_23 : decode cX10_digest 23 = .ok (.iconst (-1), 1) := by decide +kernel
theorem dX10_digest_24 : decode cX10_digest 24 = .ok (.if_icmp .ne 7, 3) := by decide +kernel
theorem dX10_digest_27 : decode cX10_digest 27 = .ok (.iconst (-1), 1) := by decide +kernel
theorem dX10_digest_28 : decode cX10_digest 28 = .ok (.goto 9, 3) := by decide +kernel
theorem dX10_digest_31 : decode cX10_digest 31 = .ok (.aload_n 0, 1) := by decide +kernel
theorem dX10_digest_32 : decode cX10_digest 32 = .ok (.getfield 16, 3) := by decide +kernel
theorem dX10_digest_35 : decode cX10_digest 35 = .ok (.iload_n 3, 1) := by decide +kernel
theorem dX10_digest_36 : decode cX10_digest 36 = .ok (.iaload, 1) := by decide +kernel
theorem dX10_digest_37 : decode cX10_digest 37 = .ok (.istore 4, 2) := by decide +kernel
theorem dX10_digest_39 : decode cX10_digest 39 = .ok (.ldc2_w 215, 3) := by decide +kernel
theorem dX10_digest_42 : decode cX10_digest 42 = .ok (.lload_n 1, 1) := by decide +kernel
theorem dX10_digest_43 : decode cX10_digest 43 = .ok (.lmul, 1) := by decide +kernel
theorem dX10_digest_44 : decode cX10_digest 44 = .ok (.iload 4, 2) := by decide +kernel
theorem dX10_digest_46 : decode cX10_digest 46 = .ok (.i2l, 1) := by decide +kernel
theorem dX10_digest_47 : decode cX10_digest 47 = .ok (.ladd, 1) := by decide +kernel
theorem dX10_digest_48 : decode cX10_digest 48 = .ok (.lstore_n 1, 1) := by decide +kernel
theorem dX10_digest_49 : decode cX10_digest 49 = .ok (.iconst 0, 1) := by decide +kernel
theorem dX10_digest_50 : decode cX10_digest 50 = .ok (.istore 5, 2) := by decide +kernel
theorem dX10_digest_52 : decode cX10_digest 52 = .ok (.iload 5, 2) := by decide +kernel
theorem dX10_digest_54 : decode cX10_digest 54 = .ok (.iload 4, 2) := by decide +kernel
theorem dX10_digest_56 : decode cX10_digest 56 = .ok (.if_icmp .ge 28, 3) := by decide +kernel
theorem dX10_digest_59 : decode cX10_digest 59 = .ok (.ldc2_w 215, 3) := by decide +kernel
theorem dX10_digest_62 : decode cX10_digest 62 = .ok (.lload_n 1, 1) := by decide +kernel
theorem dX10_digest_63 : decode cX10_digest 63 = .ok (.lmul, 1) := by decide +kernel
theorem dX10_digest_64 : decode cX10_digest 64 = .ok (.aload_n 0, 1) := by decide +kernel
theorem dX10_digest_65 : decode cX10_digest 65 = .ok (.getfield 19, 3) := by decide +kernel
theorem dX10_digest_68 : decode cX10_digest 68 = .ok (.bipush 60, 2) := by decide +kernel
theorem dX10_digest_70 : decode cX10_digest 70 = .ok (.iload_n 3, 1) := by decide +kernel
theorem dX10_digest_71 : decode cX10_digest 71 = .ok (.imul, 1) := by decide +kernel
theorem dX10_digest_72 : decode cX10_digest 72 = .ok (.iload 5, 2) := by decide +kernel
theorem dX10_digest_74 : decode cX10_digest 74 = .ok (.iadd, 1) := by decide +kernel
theorem dX10_digest_75 : decode cX10_digest 75 = .ok (.laload, 1) := by decide +kernel
theorem dX10_digest_76 : decode cX10_digest 76 = .ok (.ladd, 1) := by decide +kernel
theorem dX10_digest_77 : decode cX10_digest 77 = .ok (.lstore_n 1, 1) := by decide +kernel
theorem dX10_digest_78 : decode cX10_digest 78 = .ok (.iinc 5 1, 3) := by decide +kernel
theorem dX10_digest_81 : decode cX10_digest 81 = .ok (.goto (-29), 3) := by decide +kernel
theorem dX10_digest_84 : decode cX10_digest 84 = .ok (.iinc 3 1, 3) := by decide +kernel
theorem dX10_digest_87 : decode cX10_digest 87 = .ok (.goto (-75), 3) := by decide +kernel
theorem dX10_digest_90 : decode cX10_digest 90 = .ok (.iconst 0, 1) := by decide +kernel
theorem dX10_digest_91 : decode cX10_digest 91 = .ok (.istore_n 3, 1) := by decide +kernel
theorem dX10_digest_92 : decode cX10_digest 92 = .ok (.iload_n 3, 1) := by decide +kernel
theorem dX10_digest_93 : decode cX10_digest 93 = .ok (.aload_n 0, 1) := by decide +kernel
theorem dX10_digest_94 : decode cX10_digest 94 = .ok (.getfield 115, 3) := by decide +kernel
theorem dX10_digest_97 : decode cX10_digest 97 = .ok (.if_icmp .ge 58, 3) := by decide +kernel
theorem dX10_digest_100 : decode cX10_digest 100 = .ok (.ldc2_w 215, 3) := by decide +kernel
theorem dX10_digest_103 : decode cX10_digest 103 = .ok (.lload_n 1, 1) := by decide +kernel
theorem dX10_digest_104 : decode cX10_digest 104 = .ok (.lmul, 1) := by decide +kernel
theorem dX10_digest_105 : decode cX10_digest 105 = .ok (.aload_n 0, 1) := by decide +kernel
theorem dX10_digest_106 : decode cX10_digest 106 = .ok (.getfield 26, 3) := by decide +kernel
theorem dX10_digest_109 : decode cX10_digest 109 = .ok (.iload_n 3, 1) := by decide +kernel
theorem dX10_digest_110 : decode cX10_digest 110 = .ok (.iaload, 1) := by decide +kernel
theorem dX10_digest_111 : decode cX10_digest 111 = .ok (.i2l, 1) := by decide +kernel
theorem dX10_digest_112 : decode cX10_digest 112 = .ok (.ladd, 1) := by decide +kernel
theorem dX10_digest_113 : decode cX10_digest 113 = .ok (.lstore_n 1, 1) := by decide +kernel
theorem dX10_digest_114 : decode cX10_digest 114 = .ok (.iconst 0, 1) := by decide +kernel
theorem dX10_digest_115 : decode cX10_digest 115 = .ok (.istore 4, 2) := by decide +kernel
theorem dX10_digest_117 : decode cX10_digest 117 = .ok (.iload 4, 2) := by decide +kernel
theorem dX10_digest_119 : decode cX10_digest 119 = .ok (.aload_n 0, 1) := by decide +kernel
theorem dX10_digest_120 : decode cX10_digest 120 = .ok (.getfield 26, 3) := by decide +kernel
theorem dX10_digest_123 : decode cX10_digest 123 = .ok (.iload_n 3, 1) := by decide +kernel
theorem dX10_digest_124 : decode cX10_digest 124 = .ok (.iaload, 1) := by decide +kernel
theorem dX10_digest_125 : decode cX10_digest 125 = .ok (.if_icmp .gt 24, 3) := by decide +kernel
theorem dX10_digest_128 : decode cX10_digest 128 = .ok (.ldc2_w 215, 3) := by decide +kernel
theorem dX10_digest_131 : decode cX10_digest 131 = .ok (.lload_n 1, 1) := by decide +kernel
theorem dX10_digest_132 : decode cX10_digest 132 = .ok (.lmul, 1) := by decide +kernel
theorem dX10_digest_133 : decode cX10_digest 133 = .ok (.aload_n 0, 1) := by decide +kernel
theorem dX10_digest_134 : decode cX10_digest 134 = .ok (.iload_n 3, 1) := by decide +kernel
theorem dX10_digest_135 : decode cX10_digest 135 = .ok (.iload 4, 2) := by decide +kernel
theorem dX10_digest_137 : decode cX10_digest 137 = .ok (.invokevirtual 161, 3) := by decide +kernel
theorem dX10_digest_140 : decode cX10_digest 140 = .ok (.i2l, 1) := by decide +kernel
theorem dX10_digest_141 : decode cX10_digest 141 = .ok (.ladd, 1) := by decide +kernel
theorem dX10_digest_142 : decode cX10_digest 142 = .ok (.lstore_n 1, 1) := by decide +kernel
theorem dX10_digest_143 : decode cX10_digest 143 = .ok (.iinc 4 1, 3) := by decide +kernel
theorem dX10_digest_146 : decode cX10_digest 146 = .ok (.goto (-29), 3) := by decide +kernel
theorem dX10_digest_149 : decode cX10_digest 149 = .ok (.iinc 3 1, 3) := by decide +kernel
theorem dX10_digest_152 : decode cX10_digest 152 = .ok (.goto (-60), 3) := by decide +kernel
theorem dX10_digest_155 : decode cX10_digest 155 = .ok (.iconst 0, 1) := by decide +kernel
theorem dX10_digest_156 : decode cX10_digest 156 = .ok (.istore_n 3, 1) := by decide +kernel
theorem dX10_digest_157 : decode cX10_digest 157 = .ok (.iload_n 3, 1) := by decide +kernel
theorem dX10_digest_158 : decode cX10_digest 158 = .ok (.aload_n 0, 1) := by decide +kernel
theorem dX10_digest_159 : decode cX10_digest 159 = .ok (.getfield 118, 3) := by decide +kernel
theorem dX10_digest_162 : decode cX10_digest 162 = .ok (.if_icmp .ge 37, 3) := by decide +kernel
theorem dX10_digest_165 : decode cX10_digest 165 = .ok (.ldc2_w 215, 3) := by decide +kernel
theorem dX10_digest_168 : decode cX10_digest 168 = .ok (.lload_n 1, 1) := by decide +kernel
theorem dX10_digest_169 : decode cX10_digest 169 = .ok (.lmul, 1) := by decide +kernel
theorem dX10_digest_170 : decode cX10_digest 170 = .ok (.aload_n 0, 1) := by decide +kernel
theorem dX10_digest_171 : decode cX10_digest 171 = .ok (.getfield 86, 3) := by decide +kernel
theorem dX10_digest_174 : decode cX10_digest 174 = .ok (.iload_n 3, 1) := by decide +kernel
theorem dX10_digest_175 : decode cX10_digest 175 = .ok (.iaload, 1) := by decide +kernel
theorem dX10_digest_176 : decode cX10_digest 176 = .ok (.i2l, 1) := by decide +kernel
theorem dX10_digest_177 : decode cX10_digest 177 = .ok (.ladd, 1) := by decide +kernel
theorem dX10_digest_178 : decode cX10_digest 178 = .ok (.lstore_n 1, 1) := by decide +kernel
theorem dX10_digest_179 : decode cX10_digest 179 = .ok (.ldc2_w 215, 3) := by decide +kernel
theorem dX10_digest_182 : decode cX10_digest 182 = .ok (.lload_n 1, 1) := by decide +kernel
theorem dX10_digest_183 : decode cX10_digest 183 = .ok (.lmul, 1) := by decide +kernel
theorem dX10_digest_184 : decode cX10_digest 184 = .ok (.aload_n 0, 1) := by decide +kernel
theorem dX10_digest_185 : decode cX10_digest 185 = .ok (.getfield 89, 3) := by decide +kernel
theorem dX10_digest_188 : decode cX10_digest 188 = .ok (.iload_n 3, 1) := by decide +kernel
theorem dX10_digest_189 : decode cX10_digest 189 = .ok (.iaload, 1) := by decide +kernel
theorem dX10_digest_190 : decode cX10_digest 190 = .ok (.i2l, 1) := by decide +kernel
theorem dX10_digest_191 : decode cX10_digest 191 = .ok (.ladd, 1) := by decide +kernel
theorem dX10_digest_192 : decode cX10_digest 192 = .ok (.lstore_n 1, 1) := by decide +kernel
theorem dX10_digest_193 : decode cX10_digest 193 = .ok (.iinc 3 1, 3) := by decide +kernel
theorem dX10_digest_196 : decode cX10_digest 196 = .ok (.goto (-39), 3) := by decide +kernel
theorem dX10_digest_199 : decode cX10_digest 199 = .ok (.aload_n 0, 1) := by decide +kernel
theorem dX10_digest_200 : decode cX10_digest 200 = .ok (.getfield 50, 3) := by decide +kernel
theorem dX10_digest_203 : decode cX10_digest 203 = .ok (.bipush 45, 2) := by decide +kernel
theorem dX10_digest_205 : decode cX10_digest 205 = .ok (.invokestatic 167, 3) := by decide +kernel
theorem dX10_digest_208 : decode cX10_digest 208 = .ok (.istore_n 3, 1) := by decide +kernel
theorem dX10_digest_209 : decode cX10_digest 209 = .ok (.aload_n 0, 1) := by decide +kernel
theorem dX10_digest_210 : decode cX10_digest 210 = .ok (.getfield 53, 3) := by decide +kernel
theorem dX10_digest_213 : decode cX10_digest 213 = .ok (.bipush 45, 2) := by decide +kernel
theorem dX10_digest_215 : decode cX10_digest 215 = .ok (.invokestatic 167, 3) := by decide +kernel
theorem dX10_digest_218 : decode cX10_digest 218 = .ok (.istore 4, 2) := by decide +kernel
theorem dX10_digest_220 : decode cX10_digest 220 = .ok (.ldc2_w 215, 3) := by decide +kernel
theorem dX10_digest_223 : decode cX10_digest 223 = .ok (.lload_n 1, 1) := by decide +kernel
theorem dX10_digest_224 : decode cX10_digest 224 = .ok (.lmul, 1) := by decide +kernel
theorem dX10_digest_225 : decode cX10_digest 225 = .ok (.iload_n 3, 1) := by decide +kernel
theorem dX10_digest_226 : decode cX10_digest 226 = .ok (.i2l, 1) := by decide +kernel
theorem dX10_digest_227 : decode cX10_digest 227 = .ok (.ladd, 1) := by decide +kernel
theorem dX10_digest_228 : decode cX10_digest 228 = .ok (.lstore_n 1, 1) := by decide +kernel
theorem dX10_digest_229 : decode cX10_digest 229 = .ok (.ldc2_w 215, 3) := by decide +kernel
theorem dX10_digest_232 : decode cX10_digest 232 = .ok (.lload_n 1, 1) := by decide +kernel
theorem dX10_digest_233 : decode cX10_digest 233 = .ok (.lmul, 1) := by decide +kernel
theorem dX10_digest_234 : decode cX10_digest 234 = .ok (.iload 4, 2) := by decide +kernel
theorem dX10_digest_236 : decode cX10_digest 236 = .ok (.i2l, 1) := by decide +kernel
theorem dX10_digest_237 : decode cX10_digest 237 = .ok (.ladd, 1) := by decide +kernel
theorem dX10_digest_238 : decode cX10_digest 238 = .ok (.lstore_n 1, 1) := by decide +kernel
theorem dX10_digest_239 : decode cX10_digest 239 = .ok (.iconst 0, 1) := by decide +kernel
theorem dX10_digest_240 : decode cX10_digest 240 = .ok (.istore 5, 2) := by decide +kernel
theorem dX10_digest_242 : decode cX10_digest 242 = .ok (.iload 5, 2) := by decide +kernel
theorem dX10_digest_244 : decode cX10_digest 244 = .ok (.iload_n 3, 1) := by decide +kernel
theorem dX10_digest_245 : decode cX10_digest 245 = .ok (.if_icmp .gt 24, 3) := by decide +kernel
theorem dX10_digest_248 : decode cX10_digest 248 = .ok (.ldc2_w 215, 3) := by decide +kernel
theorem dX10_digest_251 : decode cX10_digest 251 = .ok (.lload_n 1, 1) := by decide +kernel
theorem dX10_digest_252 : decode cX10_digest 252 = .ok (.lmul, 1) := by decide +kernel
theorem dX10_digest_253 : decode cX10_digest 253 = .ok (.aload_n 0, 1) := by decide +kernel
theorem dX10_digest_254 : decode cX10_digest 254 = .ok (.getfield 50, 3) := by decide +kernel
theorem dX10_digest_257 : decode cX10_digest 257 = .ok (.iload 5, 2) := by decide +kernel
theorem dX10_digest_259 : decode cX10_digest 259 = .ok (.iaload, 1) := by decide +kernel
theorem dX10_digest_260 : decode cX10_digest 260 = .ok (.i2l, 1) := by decide +kernel
theorem dX10_digest_261 : decode cX10_digest 261 = .ok (.ladd, 1) := by decide +kernel
theorem dX10_digest_262 : decode cX10_digest 262 = .ok (.lstore_n 1, 1) := by decide +kernel
theorem dX10_digest_263 : decode cX10_digest 263 = .ok (.iinc 5 1, 3) := by decide +kernel
theorem dX10_digest_266 : decode cX10_digest 266 = .ok (.goto (-24), 3) := by decide +kernel
theorem dX10_digest_269 : decode cX10_digest 269 = .ok (.iconst 0, 1) := by decide +kernel
theorem dX10_digest_270 : decode cX10_digest 270 = .ok (.istore 5, 2) := by decide +kernel
theorem dX10_digest_272 : decode cX10_digest 272 = .ok (.iload 5, 2) := by decide +kernel
theorem dX10_digest_274 : decode cX10_digest 274 = .ok (.iload 4, 2) := by decide +kernel
theorem dX10_digest_276 : decode cX10_digest 276 = .ok (.if_icmp .gt 24, 3) := by decide +kernel
theorem dX10_digest_279 : decode cX10_digest 279 = .ok (.ldc2_w 215, 3) := by decide +kernel
theorem dX10_digest_282 : decode cX10_digest 282 = .ok (.lload_n 1, 1) := by decide +kernel
theorem dX10_digest_283 : decode cX10_digest 283 = .ok (.lmul, 1) := by decide +kernel
theorem dX10_digest_284 : decode cX10_digest 284 = .ok (.aload_n 0, 1) := by decide +kernel
theorem dX10_digest_285 : decode cX10_digest 285 = .ok (.getfield 53, 3) := by decide +kernel
theorem dX10_digest_288 : decode cX10_digest 288 = .ok (.iload 5, 2) := by decide +kernel
theorem dX10_digest_290 : decode cX10_digest 290 = .ok (.iaload, 1) := by decide +kernel
theorem dX10_digest_291 : decode cX10_digest 291 = .ok (.i2l, 1) := by decide +kernel
theorem dX10_digest_292 : decode cX10_digest 292 = .ok (.ladd, 1) := by decide +kernel
theorem dX10_digest_293 : decode cX10_digest 293 = .ok (.lstore_n 1, 1) := by decide +kernel
theorem dX10_digest_294 : decode cX10_digest 294 = .ok (.iinc 5 1, 3) := by decide +kernel
theorem dX10_digest_297 : decode cX10_digest 297 = .ok (.goto (-25), 3) := by decide +kernel
theorem dX10_digest_300 : decode cX10_digest 300 = .ok (.lload_n 1, 1) := by decide +kernel
theorem dX10_digest_301 : decode cX10_digest 301 = .ok (.lreturn, 1) := by decide +kernel
theorem dJ9_min_7cf53_0 : decode cJ9_min_7cf53 0 = .ok (.iload_n 0, 1) := by decide +kernel
theorem dJ9_min_7cf53_1 : decode cJ9_min_7cf53 1 = .ok (.iload_n 1, 1) := by decide +kernel
theorem dJ9_min_7cf53_2 : decode cJ9_min_7cf53 2 = .ok (.if_icmp .gt 7, 3) := by decide +kernel
theorem dJ9_min_7cf53_5 : decode cJ9_min_7cf53 5 = .ok (.iload_n 0, 1) := by decide +kernel
theorem dJ9_min_7cf53_6 : decode cJ9_min_7cf53 6 = .ok (.goto 4, 3) := by decide +kernel
theorem dJ9_min_7cf53_9 : decode cJ9_min_7cf53 9 = .ok (.iload_n 1, 1) := by decide +kernel
theorem dJ9_min_7cf53_10 : decode cJ9_min_7cf53 10 = .ok (.ireturn, 1) := by decide +kernel
theorem dJ7_fill_d0a16_0 : decode cJ7_fill_d0a16 0 = .ok (.iconst 0, 1) := by decide +kernel
theorem dJ7_fill_d0a16_1 : decode cJ7_fill_d0a16 1 = .ok (.istore_n 3, 1) := by decide +kernel
theorem dJ7_fill_d0a16_2 : decode cJ7_fill_d0a16 2 = .ok (.aload_n 0, 1) := by decide +kernel
theorem dJ7_fill_d0a16_3 : decode cJ7_fill_d0a16 3 = .ok (.arraylength, 1) := by decide +kernel
theorem dJ7_fill_d0a16_4 : decode cJ7_fill_d0a16 4 = .ok (.istore 4, 2) := by decide +kernel
theorem dJ7_fill_d0a16_6 : decode cJ7_fill_d0a16 6 = .ok (.iload_n 3, 1) := by decide +kernel
theorem dJ7_fill_d0a16_7 : decode cJ7_fill_d0a16 7 = .ok (.iload 4, 2) := by decide +kernel
theorem dJ7_fill_d0a16_9 : decode cJ7_fill_d0a16 9 = .ok (.if_icmp .ge 13, 3) := by decide +kernel
theorem dJ7_fill_d0a16_12 : decode cJ7_fill_d0a16 12 = .ok (.aload_n 0, 1) := by decide +kernel
theorem dJ7_fill_d0a16_13 : decode cJ7_fill_d0a16 13 = .ok (.iload_n 3, 1) := by decide +kernel
theorem dJ7_fill_d0a16_14 : decode cJ7_fill_d0a16 14 = .ok (.lload_n 1, 1) := by decide +kernel
theorem dJ7_fill_d0a16_15 : decode cJ7_fill_d0a16 15 = .ok (.lastore, 1) := by decide +kernel
theorem dJ7_fill_d0a16_16 : decode cJ7_fill_d0a16 16 = .ok (.iinc 3 1, 3) := by decide +kernel
theorem dJ7_fill_d0a16_19 : decode cJ7_fill_d0a16 19 = .ok (.goto (-13), 3) := by decide +kernel
theorem dJ7_fill_d0a16_22 : decode cJ7_fill_d0a16 22 = .ok (.return_, 1) := by decide +kernel
theorem dJ7_fill_53178_0 : decode cJ7_fill_53178 0 = .ok (.iconst 0, 1) := by decide +kernel
theorem dJ7_fill_53178_1 : decode cJ7_fill_53178 1 = .ok (.istore_n 2, 1) := by decide +kernel
theorem dJ7_fill_53178_2 : decode cJ7_fill_53178 2 = .ok (.aload_n 0, 1) := by decide +kernel
theorem dJ7_fill_53178_3 : decode cJ7_fill_53178 3 = .ok (.arraylength, 1) := by decide +kernel
theorem dJ7_fill_53178_4 : decode cJ7_fill_53178 4 = .ok (.istore_n 3, 1) := by decide +kernel
theorem dJ7_fill_53178_5 : decode cJ7_fill_53178 5 = .ok (.iload_n 2, 1) := by decide +kernel
theorem dJ7_fill_53178_6 : decode cJ7_fill_53178 6 = .ok (.iload_n 3, 1) := by decide +kernel
theorem dJ7_fill_53178_7 : decode cJ7_fill_53178 7 = .ok (.if_icmp .ge 13, 3) := by decide +kernel
theorem dJ7_fill_53178_10 : decode cJ7_fill_53178 10 = .ok (.aload_n 0, 1) := by decide +kernel
theorem dJ7_fill_53178_11 : decode cJ7_fill_53178 11 = .ok (.iload_n 2, 1) := by decide +kernel
theorem dJ7_fill_53178_12 : decode cJ7_fill_53178 12 = .ok (.iload_n 1, 1) := by decide +kernel
theorem dJ7_fill_53178_13 : decode cJ7_fill_53178 13 = .ok (.iastore, 1) := by decide +kernel
theorem dJ7_fill_53178_14 : decode cJ7_fill_53178 14 = .ok (.iinc 2 1, 3) := by decide +kernel
theorem dJ7_fill_53178_17 : decode cJ7_fill_53178 17 = .ok (.goto (-12), 3) := by decide +kernel
theorem dJ7_fill_53178_20 : decode cJ7_fill_53178 20 = .ok (.return_, 1) := by decide +kernel
end
section
theorem dL_law_0 : decode cL_law 0 = .ok (.new 7, 3) := by decide +kernel
theorem dL_law_3 : decode cL_law 3 = .ok (.dup, 1) := by decide +kernel
theorem dL_law_4 : decode cL_law 4 = .ok (.invokespecial 9, 3) := by decide +kernel
theorem dL_law_7 : decode cL_law 7 = .ok (.astore_n 1, 1) := by decide +kernel
theorem dL_law_8 : decode cL_law 8 = .ok (.new 10, 3) := by decide +kernel
theorem dL_law_11 : decode cL_law 11 = .ok (.dup, 1) := by decide +kernel
theorem dL_law_12 : decode cL_law 12 = .ok (.invokespecial 12, 3) := by decide +kernel
theorem dL_law_15 : decode cL_law 15 = .ok (.astore_n 2, 1) := by decide +kernel
theorem dL_law_16 : decode cL_law 16 = .ok (.iconst 0, 1) := by decide +kernel
theorem dL_law_17 : decode cL_law 17 = .ok (.istore_n 3, 1) := by decide +kernel
theorem dL_law_18 : decode cL_law 18 = .ok (.iload_n 3, 1) := by decide +kernel
theorem dL_law_19 : decode cL_law 19 = .ok (.aload_n 0, 1) := by decide +kernel
theorem dL_law_20 : decode cL_law 20 = .ok (.arraylength, 1) := by decide +kernel
theorem dL_law_21 : decode cL_law 21 = .ok (.bipush 6, 2) := by decide +kernel
theorem dL_law_23 : decode cL_law 23 = .ok (.isub, 1) := by decide +kernel
theorem dL_law_24 : decode cL_law 24 = .ok (.if_icmp .gt 1151, 3) := by decide +kernel
theorem dL_law_27 : decode cL_law 27 = .ok (.aload_n 0, 1) := by decide +kernel
theorem dL_law_28 : decode cL_law 28 = .ok (.iload_n 3, 1) := by decide +kernel
theorem dL_law_29 : decode cL_law 29 = .ok (.iaload, 1) := by decide +kernel
theorem dL_law_30 : decode cL_law 30 = .ok (.bipush 31, 2) := by decide +kernel
theorem dL_law_32 : decode cL_law 32 = .ok (.iand, 1) := by decide +kernel
theorem dL_law_33 : decode cL_law 33 = .ok (.tableswitch 1136 0 29 #[135, 158, 201, 284, 347, 370, 413, 476, 499, 542, 575, 598, 641, 674, 697, 710, 753, 796, 849, 882, 905, 938, 951, 984, 1007, 1040, 1063, 1076, 1099, 1122], 135) := by decide +kernel
theorem dL_law_168 : decode cL_law 168 = .ok (.aload_n 1, 1) := by decide +kernel
theorem dL_law_169 : decode cL_law 169 = .ok (.aload_n 0, 1) := by decide +kernel
theorem dL_law_170 : decode cL_law 170 = .ok (.iload_n 3, 1) := by decide +kernel
theorem dL_law_171 : decode cL_law 171 = .ok (.iconst 1, 1) := by decide +kernel
theorem dL_law_172 : decode cL_law 172 = .ok (.iadd, 1) := by decide +kernel
theorem dL_law_173 : decode cL_law 173 = .ok (.iaload, 1) := by decide +kernel
theorem dL_law_174 : decode cL_law 174 = .ok (.invokevirtual 13, 3) := by decide +kernel
theorem dL_law_177 : decode cL_law 177 = .ok (.aload_n 2, 1) := by decide +kernel
theorem dL_law_178 : decode cL_law 178 = .ok (.aload_n 0, 1) := by decide +kernel
theorem dL_law_179 : decode cL_law 179 = .ok (.iload_n 3, 1) := by decide +kernel
theorem dL_law_180 : decode cL_law 180 = .ok (.iconst 1, 1) := by decide +kernel
theorem dL_law_181 : decode cL_law 181 = .ok (.iadd, 1) := by decide +kernel
theorem dL_law_182 : decode cL_law 182 = .ok (.iaload, 1) := by decide +kernel
theorem dL_law_183 : decode cL_law 183 = .ok (.invokevirtual 17, 3) := by decide +kernel
theorem dL_law_186 : decode cL_law 186 = .ok (.if_icmp .eq 983, 3) := by decide +kernel
theorem dL_law_189 : decode cL_law 189 = .ok (.iconst 0, 1) := by decide +kernel
theorem dL_law_190 : decode cL_law 190 = .ok (.ireturn, 1) := by decide +kernel
theorem dL_law_191 : decode cL_law 191 = .ok (.aload_n 1, 1) := by decide +kernel
theorem dL_law_192 : decode cL_law 192 = .ok (.aload_n 0, 1) := by decide +kernel
theorem dL_law_193 : decode cL_law 193 = .ok (.iload_n 3, 1) := by decide +kernel
theorem dL_law_194 : decode cL_law 194 = .ok (.iconst 1, 1) := by decide +kernel
theorem dL_law_195 : decode cL_law 195 = .ok (.iadd, 1) := by decide +kernel
theorem dL_law_196 : decode cL_law 196 = .ok (.iaload, 1) := by decide +kernel
theorem dL_law_197 : decode cL_law 197 = .ok (.aload_n 0, 1) := by decide +kernel
theorem dL_law_198 : decode cL_law 198 = .ok (.iload_n 3, 1) := by decide +kernel
theorem dL_law_199 : decode cL_law 199 = .ok (.iconst 2, 1) := by decide +kernel
theorem dL_law_200 : decode cL_law 200 = .ok (.iadd, 1) := by decide +kernel
theorem dL_law_201 : decode cL_law 201 = .ok (.iaload, 1) := by decide +kernel
theorem dL_law_202 : decode cL_law 202 = .ok (.aload_n 0, 1) := by decide +kernel
theorem dL_law_203 : decode cL_law 203 = .ok (.iload_n 3, 1) := by decide +kernel
theorem dL_law_204 : decode cL_law 204 = .ok (.iconst 3, 1) := by decide +kernel
theorem dL_law_205 : decode cL_law 205 = .ok (.iadd, 1) := by decide +kernel
theorem dL_law_206 : decode cL_law 206 = .ok (.iaload, 1) := by decide +kernel
theorem dL_law_207 : decode cL_law 207 = .ok (.invokevirtual 18, 3) := by decide +kernel
theorem dL_law_210 : decode cL_law 210 = .ok (.aload_n 2, 1) := by decide +kernel
theorem dL_law_211 : decode cL_law 211 = .ok (.aload_n 0, 1) := by decide +kernel
theorem dL_law_212 : decode cL_law 212 = .ok (.iload_n 3, 1) := by decide +kernel
theorem dL_law_213 : decode cL_law 213 = .ok (.iconst 1, 1) := by decide +kernel
theorem dL_law_214 : decode cL_law 214 = .ok (.iadd, 1) := by decide +kernel
theorem dL_law_215 : decode cL_law 215 = .ok (.iaload, 1) := by decide +kernel
theorem dL_law_216 : decode cL_law 216 = .ok (.aload_n 0, 1) := by decide +kernel
theorem dL_law_217 : decode cL_law 217 = .ok (.iload_n 3, 1) := by decide +kernel
theorem dL_law_218 : decode cL_law 218 = .ok (.iconst 2, 1) := by decide +kernel
theorem dL_law_219 : decode cL_law 219 = .ok (.iadd, 1) := by decide +kernel
theorem dL_law_220 : decode cL_law 220 = .ok (.iaload, 1) := by decide +kernel
theorem dL_law_221 : decode cL_law 221 = .ok (.aload_n 0, 1) := by decide +kernel
theorem dL_law_222 : decode cL_law 222 = .ok (.iload_n 3, 1) := by decide +kernel
theorem dL_law_223 : decode cL_law 223 = .ok (.iconst 3, 1) := by decide +kernel
theorem dL_law_224 : decode cL_law 224 = .ok (.iadd, 1) := by decide +kernel
theorem dL_law_225 : decode cL_law 225 = .ok (.iaload, 1) := by decide +kernel
theorem dL_law_226 : decode cL_law 226 = .ok (.invokevirtual 22, 3) := by decide +kernel
theorem dL_law_229 : decode cL_law 229 = .ok (.if_icmp .eq 940, 3) := by decide +kernel
theorem dL_law_232 : decode cL_law 232 = .ok (.iconst 0, 1) := by decide +kernel
theorem dL_law_233 : decode cL_law 233 = .ok (.ireturn, 1) := by decide +kernel
theorem dL_law_234 : decode cL_law 234 = .ok (.aload_n 1, 1) := by decide +kernel
theorem dL_law_235 : decode cL_law 235 = .ok (.aload_n 0, 1) := by decide +kernel
theorem dL_law_236 : decode cL_law 236 = .ok (.iload_n 3, 1) := by decide +kernel
theorem dL_law_237 : decode cL_law 237 = .ok (.iconst 1, 1) := by decide +kernel
theorem dL_law_238 : decode cL_law 238 = .ok (.iadd, 1) := by decide +kernel
theorem dL_law_239 : decode cL_law 239 = .ok (.iaload, 1) := by decide +kernel
theorem dL_law_240 : decode cL_law 240 = .ok (.aload_n 0, 1) := by decide +kernel
theorem dL_law_241 : decode cL_law 241 = .ok (.iload_n 3, 1) := by decide +kernel
theorem dL_law_242 : decode cL_law 242 = .ok (.iconst 2, 1) := by decide +kernel
theorem dL_law_243 : decode cL_law 243 = .ok (.iadd, 1) := by decide +kernel
theorem dL_law_244 : decode cL_law 244 = .ok (.iaload, 1) := by decide +kernel
theorem dL_law_245 : decode cL_law 245 = .ok (.aload_n 0, 1) := by decide +kernel
theorem dL_law_246 : decode cL_law 246 = .ok (.iload_n 3, 1) := by decide +kernel
theorem dL_law_247 : decode cL_law 247 = .ok (.iconst 3, 1) := by decide +kernel
theorem dL_law_248 : decode cL_law 248 = .ok (.iadd, 1) := by decide +kernel
theorem dL_law_249 : decode cL_law 249 = .ok (.iaload, 1) := by decide +kernel
theorem dL_law_250 : decode cL_law 250 = .ok (.aload_n 0, 1) := by decide +kernel
theorem dL_law_251 : decode cL_law 251 = .ok (.iload_n 3, 1) := by decide +kernel
theorem dL_law_252 : decode cL_law 252 = .ok (.iconst 4, 1) := by decide +kernel
theorem dL_law_253 : decode cL_law 253 = .ok (.iadd, 1) := by decide +kernel
theorem dL_law_254 : decode cL_law 254 = .ok (.iaload, 1) := by decide +kernel
theorem dL_law_255 : decode cL_law 255 = .ok (.i2l, 1) := by decide +kernel
theorem dL_law_256 : decode cL_law 256 = .ok (.bipush 32, 2) := by decide +kernel
theorem dL_law_258 : decode cL_law 258 = .ok (.lshl, 1) := by decide +kernel
theorem dL_law_259 : decode cL_law 259 = .ok (.aload_n 0, 1) := by decide +kernel
theorem dL_law_260 : decode cL_law 260 = .ok (.iload_n 3, 1) := by decide +kernel
theorem dL_law_261 : decode cL_law 261 = .ok (.iconst 5, 1) := by decide +kernel
theorem dL_law_262 : decode cL_law 262 = .ok (.iadd, 1) := by decide +kernel
theorem dL_law_263 : decode cL_law 263 = .ok (.iaload, 1) := by decide +kernel
theorem dL_law_264 : decode cL_law 264 = .ok (.i2l, 1) := by decide +kernel
theorem dL_law_265 : decode cL_law 265 = .ok (.ldc2_w 23, 3) := by decide +kernel
theorem dL_law_268 : decode cL_law 268 = .ok (.land, 1) := by decide +kernel
theorem dL_law_269 : decode cL_law 269 = .ok (.lor, 1) := by decide +kernel
theorem dL_law_270 : decode cL_law 270 = .ok (.invokevirtual 25, 3) := by decide +kernel
theorem dL_law_273 : decode cL_law 273 = .ok (.aload_n 2, 1) := by decide +kernel
theorem dL_law_274 : decode cL_law 274 = .ok (.aload_n 0, 1) := by decide +kernel
theorem dL_law_275 : decode cL_law 275 = .ok (.iload_n 3, 1) := by decide +kernel
theorem dL_law_276 : decode cL_law 276 = .ok (.iconst 1, 1) := by decide +kernel
theorem dL_law_277 : decode cL_law 277 = .ok (.iadd, 1) := by decide +kernel
theorem dL_law_278 : decode cL_law 278 = .ok (.iaload, 1) := by decide +kernel
theorem dL_law_279 : decode cL_law 279 = .ok (.aload_n 0, 1) := by decide +kernel
theorem dL_law_280 : decode cL_law 280 = .ok (.iload_n 3, 1) := by decide +kernel
theorem dL_law_281 : decode cL_law 281 = .ok (.iconst 2, 1) := by decide +kernel
theorem dL_law_282 : decode cL_law 282 = .ok (.iadd, 1) := by decide +kernel
theorem dL_law_283 : decode cL_law 283 = .ok (.iaload, 1) := by decide +kernel
theorem dL_law_284 : decode cL_law 284 = .ok (.aload_n 0, 1) := by decide +kernel
theorem dL_law_285 : decode cL_law 285 = .ok (.iload_n 3, 1) := by decide +kernel
theorem dL_law_286 : decode cL_law 286 = .ok (.iconst 3, 1) := by decide +kernel
theorem dL_law_287 : decode cL_law 287 = .ok (.iadd, 1) := by decide +kernel
theorem dL_law_288 : decode cL_law 288 = .ok (.iaload, 1) := by decide +kernel
theorem dL_law_289 : decode cL_law 289 = .ok (.aload_n 0, 1) := by decide +kernel
theorem dL_law_290 : decode cL_law 290 = .ok (.iload_n 3, 1) := by decide +kernel
theorem dL_law_291 : decode cL_law 291 = .ok (.iconst 4, 1) := by decide +kernel
theorem dL_law_292 : decode cL_law 292 = .ok (.iadd, 1) := by decide +kernel
theorem dL_law_293 : decode cL_law 293 = .ok (.iaload, 1) := by decide +kernel
theorem dL_law_294 : decode cL_law 294 = .ok (.i2l, 1) := by decide +kernel
theorem dL_law_295 : decode cL_law 295 = .ok (.bipush 32, 2) := by decide +kernel
theorem dL_law_297 : decode cL_law 297 = .ok (.lshl, 1) := by decide +kernel
theorem dL_law_298 : decode cL_law 298 = .ok (.aload_n 0, 1) := by decide +kernel
theorem dL_law_299 : decode cL_law 299 = .ok (.iload_n 3, 1) := by decide +kernel
theorem dL_law_300 : decode cL_law 300 = .ok (.iconst 5, 1) := by decide +kernel
theorem dL_law_301 : decode cL_law 301 = .ok (.iadd, 1) := by decide +kernel
theorem dL_law_302 : decode cL_law 302 = .ok (.iaload, 1) := by decide +kernel
theorem dL_law_303 : decode cL_law 303 = .ok (.i2l, 1) := by decide +kernel
theorem dL_law_304 : decode cL_law 304 = .ok (.ldc2_w 23, 3) := by decide +kernel
theorem dL_law_307 : decode cL_law 307 = .ok (.land, 1) := by decide +kernel
theorem dL_law_308 : decode cL_law 308 = .ok (.lor, 1) := by decide +kernel
theorem dL_law_309 : decode cL_law 309 = .ok (.invokevirtual 29, 3) := by decide +kernel
theorem dL_law_312 : decode cL_law 312 = .ok (.if_icmp .eq 857, 3) := by decide +kernel
theorem dL_law_315 : decode cL_law 315 = .ok (.iconst 0, 1) := by decide +kernel
theorem dL_law_316 : decode cL_law 316 = .ok (.ireturn, 1) := by decide +kernel
theorem dL_law_317 : decode cL_law 317 = .ok (.aload_n 1, 1) := by decide +kernel
theorem dL_law_318 : decode cL_law 318 = .ok (.aload_n 0, 1) := by decide +kernel
theorem dL_law_319 : decode cL_law 319 = .ok (.iload_n 3, 1) := by decide +kernel
theorem dL_law_320 : decode cL_law 320 = .ok (.iconst 1, 1) := by decide +kernel
theorem dL_law_321 : decode cL_law 321 = .ok (.iadd, 1) := by decide +kernel
theorem dL_law_322 : decode cL_law 322 = .ok (.iaload, 1) := by decide +kernel
theorem dL_law_323 : decode cL_law 323 = .ok (.aload_n 0, 1) := by decide +kernel
theorem dL_law_324 : decode cL_law 324 = .ok (.iload_n 3, 1) := by decide +kernel
theorem dL_law_325 : decode cL_law 325 = .ok (.iconst 2, 1) := by decide +kernel
theorem dL_law_326 : decode cL_law 326 = .ok (.iadd, 1) := by decide +kernel
theorem dL_law_327 : decode cL_law 327 = .ok (.iaload, 1) := by decide +kernel
theorem dL_law_328 : decode cL_law 328 = .ok (.aload_n 0, 1) := by decide +kernel
theorem dL_law_329 : decode cL_law 329 = .ok (.iload_n 3, 1) := by decide +kernel
theorem dL_law_330 : decode cL_law 330 = .ok (.iconst 3, 1) := by decide +kernel
theorem dL_law_331 : decode cL_law 331 = .ok (.iadd, 1) := by decide +kernel
theorem dL_law_332 : decode cL_law 332 = .ok (.iaload, 1) := by decide +kernel
theorem dL_law_333 : decode cL_law 333 = .ok (.aload_n 0, 1) := by decide +kernel
theorem dL_law_334 : decode cL_law 334 = .ok (.iload_n 3, 1) := by decide +kernel
theorem dL_law_335 : decode cL_law 335 = .ok (.iconst 4, 1) := by decide +kernel
theorem dL_law_336 : decode cL_law 336 = .ok (.iadd, 1) := by decide +kernel
theorem dL_law_337 : decode cL_law 337 = .ok (.iaload, 1) := by decide +kernel
theorem dL_law_338 : decode cL_law 338 = .ok (.aload_n 0, 1) := by decide +kernel
theorem dL_law_339 : decode cL_law 339 = .ok (.iload_n 3, 1) := by decide +kernel
theorem dL_law_340 : decode cL_law 340 = .ok (.iconst 5, 1) := by decide +kernel
theorem dL_law_341 : decode cL_law 341 = .ok (.iadd, 1) := by decide +kernel
theorem dL_law_342 : decode cL_law 342 = .ok (.iaload, 1) := by decide +kernel
theorem dL_law_343 : decode cL_law 343 = .ok (.invokevirtual 30, 3) := by decide +kernel
theorem dL_law_346 : decode cL_law 346 = .ok (.aload_n 2, 1) := by decide +kernel
theorem dL_law_347 : decode cL_law 347 = .ok (.aload_n 0, 1) := by decide +kernel
theorem dL_law_348 : decode cL_law 348 = .ok (.iload_n 3, 1) := by decide +kernel
theorem dL_law_349 : decode cL_law 349 = .ok (.iconst 1, 1) := by decide +kernel
theorem dL_law_350 : decode cL_law 350 = .ok (.iadd, 1) := by decide +kernel
theorem dL_law_351 : decode cL_law 351 = .ok (.iaload, 1) := by decide +kernel
theorem dL_law_352 : decode cL_law 352 = .ok (.aload_n 0, 1) := by decide +kernel
theorem dL_law_353 : decode cL_law 353 = .ok (.iload_n 3, 1) := by decide +kernel
theorem dL_law_354 : decode cL_law 354 = .ok (.iconst 2, 1) := by decide +kernel
theorem dL_law_355 : decode cL_law 355 = .ok (.iadd, 1) := by decide +kernel
theorem dL_law_356 : decode cL_law 356 = .ok (.iaload, 1) := by decide +kernel
theorem dL_law_357 : decode cL_law 357 = .ok (.aload_n 0, 1) := by decide +kernel
theorem dL_law_358 : decode cL_law 358 = .ok (.iload_n 3, 1) := by decide +kernel
theorem dL_law_359 : decode cL_law 359 = .ok (.iconst 3, 1) := by decide +kernel
theorem dL_law_360 : decode cL_law 360 = .ok (.iadd, 1) := by decide +kernel
theorem dL_law_361 : decode cL_law 361 = .ok (.iaload, 1) := by decide +kernel
theorem dL_law_362 : decode cL_law 362 = .ok (.aload_n 0, 1) := by decide +kernel
theorem dL_law_363 : decode cL_law 363 = .ok (.iload_n 3, 1) := by decide +kernel
theorem dL_law_364 : decode cL_law 364 = .ok (.iconst 4, 1) := by decide +kernel
theorem dL_law_365 : decode cL_law 365 = .ok (.iadd, 1) := by decide +kernel
theorem dL_law_366 : decode cL_law 366 = .ok (.iaload, 1) := by decide +kernel
theorem dL_law_367 : decode cL_law 367 = .ok (.aload_n 0, 1) := by decide +kernel
theorem dL_law_368 : decode cL_law 368 = .ok (.iload_n 3, 1) := by decide +kernel
theorem dL_law_369 : decode cL_law 369 = .ok (.iconst 5, 1) := by decide +kernel
theorem dL_law_370 : decode cL_law 370 = .ok (.iadd, 1) := by decide +kernel
theorem dL_law_371 : decode cL_law 371 = .ok (.iaload, 1) := by decide +kernel
theorem dL_law_372 : decode cL_law 372 = .ok (.invokevirtual 34, 3) := by decide +kernel
theorem dL_law_375 : decode cL_law 375 = .ok (.if_icmp .eq 794, 3) := by decide +kernel
theorem dL_law_378 : decode cL_law 378 = .ok (.iconst 0, 1) := by decide +kernel
theorem dL_law_379 : decode cL_law 379 = .ok (.ireturn, 1) := by decide +kernel
theorem dL_law_380 : decode cL_law 380 = .ok (.aload_n 1, 1) := by decide +kernel
theorem dL_law_381 : decode cL_law 381 = .ok (.aload_n 0, 1) := by decide +kernel
theorem dL_law_382 : decode cL_law 382 = .ok (.iload_n 3, 1) := by decide +kernel
theorem dL_law_383 : decode cL_law 383 = .ok (.iconst 1, 1) := by decide +kernel
theorem dL_law_384 : decode cL_law 384 = .ok (.iadd, 1) := by decide +kernel
theorem dL_law_385 : decode cL_law 385 = .ok (.iaload, 1) := by decide +kernel
theorem dL_law_386 : decode cL_law 386 = .ok (.invokevirtual 35, 3) := by decide +kernel
theorem dL_law_389 : decode cL_law 389 = .ok (.aload_n 2, 1) := by decide +kernel
theorem dL_law_390 : decode cL_law 390 = .ok (.aload_n 0, 1) := by decide +kernel
theorem dL_law_391 : decode cL_law 391 = .ok (.iload_n 3, 1) := by decide +kernel
theorem dL_law_392 : decode cL_law 392 = .ok (.iconst 1, 1) := by decide +kernel
theorem dL_law_393 : decode cL_law 393 = .ok (.iadd, 1) := by decide +kernel
theorem dL_law_394 : decode cL_law 394 = .ok (.iaload, 1) := by decide +kernel
theorem dL_law_395 : decode cL_law 395 = .ok (.invokevirtual 38, 3) := by decide +kernel
theorem dL_law_398 : decode cL_law 398 = .ok (.if_icmp .eq 771, 3) := by decide +kernel
theorem dL_law_401 : decode cL_law 401 = .ok (.iconst 0, 1) := by decide +kernel
theorem dL_law_402 : decode cL_law 402 = .ok (.ireturn, 1) := by decide +kernel
theorem dL_law_403 : decode cL_law 403 = .ok (.aload_n 1, 1) := by decide +kernel
theorem dL_law_404 : decode cL_law 404 = .ok (.aload_n 0, 1) := by decide +kernel
theorem dL_law_405 : decode cL_law 405 = .ok (.iload_n 3, 1) := by decide +kernel
theorem dL_law_406 : decode cL_law 406 = .ok (.iconst 1, 1) := by decide +kernel
theorem dL_law_407 : decode cL_law 407 = .ok (.iadd, 1) := by decide +kernel
theorem dL_law_408 : decode cL_law 408 = .ok (.iaload, 1) := by decide +kernel
theorem dL_law_409 : decode cL_law 409 = .ok (.aload_n 0, 1) := by decide +kernel
theorem dL_law_410 : decode cL_law 410 = .ok (.iload_n 3, 1) := by decide +kernel
theorem dL_law_411 : decode cL_law 411 = .ok (.iconst 2, 1) := by decide +kernel
theorem dL_law_412 : decode cL_law 412 = .ok (.iadd, 1) := by decide +kernel
theorem dL_law_413 : decode cL_law 413 = .ok (.iaload, 1) := by decide +kernel
theorem dL_law_414 : decode cL_law 414 = .ok (.aload_n 0, 1) := by decide +kernel
theorem dL_law_415 : decode cL_law 415 = .ok (.iload_n 3, 1) := by decide +kernel
theorem dL_law_416 : decode cL_law 416 = .ok (.iconst 3, 1) := by decide +kernel
theorem dL_law_417 : decode cL_law 417 = .ok (.iadd, 1) := by decide +kernel
theorem dL_law_418 : decode cL_law 418 = .ok (.iaload, 1) := by decide +kernel
theorem dL_law_419 : decode cL_law 419 = .ok (.invokevirtual 39, 3) := by decide +kernel
theorem dL_law_422 : decode cL_law 422 = .ok (.aload_n 2, 1) := by decide +kernel
theorem dL_law_423 : decode cL_law 423 = .ok (.aload_n 0, 1) := by decide +kernel
theorem dL_law_424 : decode cL_law 424 = .ok (.iload_n 3, 1) := by decide +kernel
theorem dL_law_425 : decode cL_law 425 = .ok (.iconst 1, 1) := by decide +kernel
theorem dL_law_426 : decode cL_law 426 = .ok (.iadd, 1) := by decide +kernel
theorem dL_law_427 : decode cL_law 427 = .ok (.iaload, 1) := by decide +kernel
theorem dL_law_428 : decode cL_law 428 = .ok (.aload_n 0, 1) := by decide +kernel
theorem dL_law_429 : decode cL_law 429 = .ok (.iload_n 3, 1) := by decide +kernel
theorem dL_law_430 : decode cL_law 430 = .ok (.iconst 2, 1) := by decide +kernel
theorem dL_law_431 : decode cL_law 431 = .ok (.iadd, 1) := by decide +kernel
theorem dL_law_432 : decode cL_law 432 = .ok (.iaload, 1) := by decide +kernel
theorem dL_law_433 : decode cL_law 433 = .ok (.aload_n 0, 1) := by decide +kernel
theorem dL_law_434 : decode cL_law 434 = .ok (.iload_n 3, 1) := by decide +kernel
theorem dL_law_435 : decode cL_law 435 = .ok (.iconst 3, 1) := by decide +kernel
theorem dL_law_436 : decode cL_law 436 = .ok (.iadd, 1) := by decide +kernel
theorem dL_law_437 : decode cL_law 437 = .ok (.iaload, 1) := by decide +kernel
theorem dL_law_438 : decode cL_law 438 = .ok (.invokevirtual 42, 3) := by decide +kernel
theorem dL_law_441 : decode cL_law 441 = .ok (.if_icmp .eq 728, 3) := by decide +kernel
theorem dL_law_444 : decode cL_law 444 = .ok (.iconst 0, 1) := by decide +kernel
theorem dL_law_445 : decode cL_law 445 = .ok (.ireturn, 1) := by decide +kernel
theorem dL_law_446 : decode cL_law 446 = .ok (.aload_n 1, 1) := by decide +kernel
theorem dL_law_447 : decode cL_law 447 = .ok (.aload_n 0, 1) := by decide +kernel
theorem dL_law_448 : decode cL_law 448 = .ok (.iload_n 3, 1) := by decide +kernel
theorem dL_law_449 : decode cL_law 449 = .ok (.iconst 1, 1) := by decide +kernel
theorem dL_law_450 : decode cL_law 450 = .ok (.iadd, 1) := by decide +kernel
theorem dL_law_451 : decode cL_law 451 = .ok (.iaload, 1) := by decide +kernel
theorem dL_law_452 : decode cL_law 452 = .ok (.aload_n 0, 1) := by decide +kernel
theorem dL_law_453 : decode cL_law 453 = .ok (.iload_n 3, 1) := by decide +kernel
theorem dL_law_454 : decode cL_law 454 = .ok (.iconst 2, 1) := by decide +kernel
theorem dL_law_455 : decode cL_law 455 = .ok (.iadd, 1) := by decide +kernel
theorem dL_law_456 : decode cL_law 456 = .ok (.iaload, 1) := by decide +kernel
theorem dL_law_457 : decode cL_law 457 = .ok (.aload_n 0, 1) := by decide +kernel
theorem dL_law_458 : decode cL_law 458 = .ok (.iload_n 3, 1) := by decide +kernel
theorem dL_law_459 : decode cL_law 459 = .ok (.iconst 3, 1) := by decide +kernel
theorem dL_law_460 : decode cL_law 460 = .ok (.iadd, 1) := by decide +kernel
theorem dL_law_461 : decode cL_law 461 = .ok (.iaload, 1) := by decide +kernel
theorem dL_law_462 : decode cL_law 462 = .ok (.aload_n 0, 1) := by decide +kernel
theorem dL_law_463 : decode cL_law 463 = .ok (.iload_n 3, 1) := by decide +kernel
theorem dL_law_464 : decode cL_law 464 = .ok (.iconst 4, 1) := by decide +kernel
theorem dL_law_465 : decode cL_law 465 = .ok (.iadd, 1) := by decide +kernel
theorem dL_law_466 : decode cL_law 466 = .ok (.iaload, 1) := by decide +kernel
theorem dL_law_467 : decode cL_law 467 = .ok (.aload_n 0, 1) := by decide +kernel
theorem dL_law_468 : decode cL_law 468 = .ok (.iload_n 3, 1) := by decide +kernel
theorem dL_law_469 : decode cL_law 469 = .ok (.iconst 5, 1) := by decide +kernel
theorem dL_law_470 : decode cL_law 470 = .ok (.iadd, 1) := by decide +kernel
theorem dL_law_471 : decode cL_law 471 = .ok (.iaload, 1) := by decide +kernel
theorem dL_law_472 : decode cL_law 472 = .ok (.invokevirtual 43, 3) := by decide +kernel
theorem dL_law_475 : decode cL_law 475 = .ok (.aload_n 2, 1) := by decide +kernel
theorem dL_law_476 : decode cL_law 476 = .ok (.aload_n 0, 1) := by decide +kernel
theorem dL_law_477 : decode cL_law 477 = .ok (.iload_n 3, 1) := by decide +kernel
theorem dL_law_478 : decode cL_law 478 = .ok (.iconst 1, 1) := by decide +kernel
theorem dL_law_479 : decode cL_law 479 = .ok (.iadd, 1) := by decide +kernel
theorem dL_law_480 : decode cL_law 480 = .ok (.iaload, 1) := by decide +kernel
theorem dL_law_481 : decode cL_law 481 = .ok (.aload_n 0, 1) := by decide +kernel
theorem dL_law_482 : decode cL_law 482 = .ok (.iload_n 3, 1) := by decide +kernel
theorem dL_law_483 : decode cL_law 483 = .ok (.iconst 2, 1) := by decide +kernel
theorem dL_law_484 : decode cL_law 484 = .ok (.iadd, 1) := by decide +kernel
theorem dL_law_485 : decode cL_law 485 = .ok (.iaload, 1) := by decide +kernel
theorem dL_law_486 : decode cL_law 486 = .ok (.aload_n 0, 1) := by decide +kernel
theorem dL_law_487 : decode cL_law 487 = .ok (.iload_n 3, 1) := by decide +kernel
theorem dL_law_488 : decode cL_law 488 = .ok (.iconst 3, 1) := by decide +kernel
theorem dL_law_489 : decode cL_law 489 = .ok (.iadd, 1) := by decide +kernel
theorem dL_law_490 : decode cL_law 490 = .ok (.iaload, 1) := by decide +kernel
theorem dL_law_491 : decode cL_law 491 = .ok (.aload_n 0, 1) := by decide +kernel
theorem dL_law_492 : decode cL_law 492 = .ok (.iload_n 3, 1) := by decide +kernel
theorem dL_law_493 : decode cL_law 493 = .ok (.iconst 4, 1) := by decide +kernel
theorem dL_law_494 : decode cL_law 494 = .ok (.iadd, 1) := by decide +kernel
theorem dL_law_495 : decode cL_law 495 = .ok (.iaload, 1) := by decide +kernel
theorem dL_law_496 : decode cL_law 496 = .ok (.aload_n 0, 1) := by decide +kernel
theorem dL_law_497 : decode cL_law 497 = .ok (.iload_n 3, 1) := by decide +kernel
theorem dL_law_498 : decode cL_law 498 = .ok (.iconst 5, 1) := by decide +kernel
theorem dL_law_499 : decode cL_law 499 = .ok (.iadd, 1) := by decide +kernel
theorem dL_law_500 : decode cL_law 500 = .ok (.iaload, 1) := by decide +kernel
theorem dL_law_501 : decode cL_law 501 = .ok (.invokevirtual 46, 3) := by decide +kernel
theorem dL_law_504 : decode cL_law 504 = .ok (.if_icmp .eq 665, 3) := by decide +kernel
theorem dL_law_507 : decode cL_law 507 = .ok (.iconst 0, 1) := by decide +kernel
theorem dL_law_508 : decode cL_law 508 = .ok (.ireturn, 1) := by decide +kernel
theorem dL_law_509 : decode cL_law 509 = .ok (.aload_n 1, 1) := by decide +kernel
theorem dL_law_510 : decode cL_law 510 = .ok (.aload_n 0, 1) := by decide +kernel
theorem dL_law_511 : decode cL_law 511 = .ok (.iload_n 3, 1) := by decide +kernel
theorem dL_law_512 : decode cL_law 512 = .ok (.iconst 1, 1) := by decide +kernel
theorem dL_law_513 : decode cL_law 513 = .ok (.iadd, 1) := by decide +kernel
theorem dL_law_514 : decode cL_law 514 = .ok (.iaload, 1) := by decide +kernel
theorem dL_law_515 : decode cL_law 515 = .ok (.invokevirtual 47, 3) := by decide +kernel
theorem dL_law_518 : decode cL_law 518 = .ok (.aload_n 2, 1) := by decide +kernel
theorem dL_law_519 : decode cL_law 519 = .ok (.aload_n 0, 1) := by decide +kernel
theorem dL_law_520 : decode cL_law 520 = .ok (.iload_n 3, 1) := by decide +kernel
theorem dL_law_521 : decode cL_law 521 = .ok (.iconst 1, 1) := by decide +kernel
theorem dL_law_522 : decode cL_law 522 = .ok (.iadd, 1) := by decide +kernel
theorem dL_law_523 : decode cL_law 523 = .ok (.iaload, 1) := by decide +kernel
theorem dL_law_524 : decode cL_law 524 = .ok (.invokevirtual 50, 3) := by decide +kernel
theorem dL_law_527 : decode cL_law 527 = .ok (.if_icmp .eq 642, 3) := by decide +kernel
theorem dL_law_530 : decode cL_law 530 = .ok (.iconst 0, 1) := by decide +kernel
theorem dL_law_531 : decode cL_law 531 = .ok (.ireturn, 1) := by decide +kernel
theorem dL_law_532 : decode cL_law 532 = .ok (.aload_n 1, 1) := by decide +kernel
theorem dL_law_533 : decode cL_law 533 = .ok (.aload_n 0, 1) := by decide +kernel
theorem dL_law_534 : decode cL_law 534 = .ok (.iload_n 3, 1) := by decide +kernel
theorem dL_law_535 : decode cL_law 535 = .ok (.iconst 1, 1) := by decide +kernel
theorem dL_law_536 : decode cL_law 536 = .ok (.iadd, 1) := by decide +kernel
theorem dL_law_537 : decode cL_law 537 = .ok (.iaload, 1) := by decide +kernel
theorem dL_law_538 : decode cL_law 538 = .ok (.aload_n 0, 1) := by decide +kernel
theorem dL_law_539 : decode cL_law 539 = .ok (.iload_n 3, 1) := by decide +kernel
theorem dL_law_540 : decode cL_law 540 = .ok (.iconst 2, 1) := by decide +kernel
theorem dL_law_541 : decode cL_law 541 = .ok (.iadd, 1) := by decide +kernel
theorem dL_law_542 : decode cL_law 542 = .ok (.iaload, 1) := by decide +kernel
theorem dL_law_543 : decode cL_law 543 = .ok (.aload_n 0, 1) := by decide +kernel
theorem dL_law_544 : decode cL_law 544 = .ok (.iload_n 3, 1) := by decide +kernel
theorem dL_law_545 : decode cL_law 545 = .ok (.iconst 3, 1) := by decide +kernel
theorem dL_law_546 : decode cL_law 546 = .ok (.iadd, 1) := by decide +kernel
theorem dL_law_547 : decode cL_law 547 = .ok (.iaload, 1) := by decide +kernel
theorem dL_law_548 : decode cL_law 548 = .ok (.invokevirtual 51, 3) := by decide +kernel
theorem dL_law_551 : decode cL_law 551 = .ok (.aload_n 2, 1) := by decide +kernel
theorem dL_law_552 : decode cL_law 552 = .ok (.aload_n 0, 1) := by decide +kernel
theorem dL_law_553 : decode cL_law 553 = .ok (.iload_n 3, 1) := by decide +kernel
theorem dL_law_554 : decode cL_law 554 = .ok (.iconst 1, 1) := by decide +kernel
theorem dL_law_555 : decode cL_law 555 = .ok (.iadd, 1) := by decide +kernel
theorem dL_law_556 : decode cL_law 556 = .ok (.iaload, 1) := by decide +kernel
theorem dL_law_557 : decode cL_law 557 = .ok (.aload_n 0, 1) := by decide +kernel
theorem dL_law_558 : decode cL_law 558 = .ok (.iload_n 3, 1) := by decide +kernel
theorem dL_law_559 : decode cL_law 559 = .ok (.iconst 2, 1) := by decide +kernel
theorem dL_law_560 : decode cL_law 560 = .ok (.iadd, 1) := by decide +kernel
theorem dL_law_561 : decode cL_law 561 = .ok (.iaload, 1) := by decide +kernel
theorem dL_law_562 : decode cL_law 562 = .ok (.aload_n 0, 1) := by decide +kernel
theorem dL_law_563 : decode cL_law 563 = .ok (.iload_n 3, 1) := by decide +kernel
theorem dL_law_564 : decode cL_law 564 = .ok (.iconst 3, 1) := by decide +kernel
theorem dL_law_565 : decode cL_law 565 = .ok (.iadd, 1) := by decide +kernel
theorem dL_law_566 : decode cL_law 566 = .ok (.iaload, 1) := by decide +kernel
theorem dL_law_567 : decode cL_law 567 = .ok (.invokevirtual 54, 3) := by decide +kernel
theorem dL_law_570 : decode cL_law 570 = .ok (.if_icmp .eq 599, 3) := by decide +kernel
theorem dL_law_573 : decode cL_law 573 = .ok (.iconst 0, 1) := by decide +kernel
theorem dL_law_574 : decode cL_law 574 = .ok (.ireturn, 1) := by decide +kernel
theorem dL_law_575 : decode cL_law 575 = .ok (.aload_n 1, 1) := by decide +kernel
theorem dL_law_576 : decode cL_law 576 = .ok (.aload_n 0, 1) := by decide +kernel
theorem dL_law_577 : decode cL_law 577 = .ok (.iload_n 3, 1) := by decide +kernel
theorem dL_law_578 : decode cL_law 578 = .ok (.iconst 1, 1) := by decide +kernel
theorem dL_law_579 : decode cL_law 579 = .ok (.iadd, 1) := by decide +kernel
theorem dL_law_580 : decode cL_law 580 = .ok (.iaload, 1) := by decide +kernel
theorem dL_law_581 : decode cL_law 581 = .ok (.aload_n 0, 1) := by decide +kernel
theorem dL_law_582 : decode cL_law 582 = .ok (.iload_n 3, 1) := by decide +kernel
theorem dL_law_583 : decode cL_law 583 = .ok (.iconst 2, 1) := by decide +kernel
theorem dL_law_584 : decode cL_law 584 = .ok (.iadd, 1) := by decide +kernel
theorem dL_law_585 : decode cL_law 585 = .ok (.iaload, 1) := by decide +kernel
theorem dL_law_586 : decode cL_law 586 = .ok (.invokevirtual 55, 3) := by decide +kernel
theorem dL_law_589 : decode cL_law 589 = .ok (.aload_n 2, 1) := by decide +kernel
theorem dL_law_590 : decode cL_law 590 = .ok (.aload_n 0, 1) := by decide +kernel
theorem dL_law_591 : decode cL_law 591 = .ok (.iload_n 3, 1) := by decide +kernel
theorem dL_law_592 : decode cL_law 592 = .ok (.iconst 1, 1) := by decide +kernel
theorem dL_law_593 : decode cL_law 593 = .ok (.iadd, 1) := by decide +kernel
theorem dL_law_594 : decode cL_law 594 = .ok (.iaload, 1) := by decide +kernel
theorem dL_law_595 : decode cL_law 595 = .ok (.aload_n 0, 1) := by decide +kernel
theorem dL_law_596 : decode cL_law 596 = .ok (.iload_n 3, 1) := by decide +kernel
theorem dL_law_597 : decode cL_law 597 = .ok (.iconst 2, 1) := by decide +kernel
theorem dL_law_598 : decode cL_law 598 = .ok (.iadd, 1) := by decide +kernel
theorem dL_law_599 : decode cL_law 599 = .ok (.iaload, 1) := by decide +kernel
theorem dL_law_600 : decode cL_law 600 = .ok (.invokevirtual 59, 3) := by decide +kernel
theorem dL_law_603 : decode cL_law 603 = .ok (.if_icmp .eq 566, 3) := by decide +kernel
theorem dL_law_606 : decode cL_law 606 = .ok (.iconst 0, 1) := by decide +kernel
theorem dL_law_607 : decode cL_law 607 = .ok (.ireturn, 1) := by decide +kernel
theorem dL_law_608 : decode cL_law 608 = .ok (.aload_n 1, 1) := by decide +kernel
theorem dL_law_609 : decode cL_law 609 = .ok (.aload_n 0, 1) := by decide +kernel
theorem dL_law_610 : decode cL_law 610 = .ok (.iload_n 3, 1) := by decide +kernel
theorem dL_law_611 : decode cL_law 611 = .ok (.iconst 1, 1) := by decide +kernel
theorem dL_law_612 : decode cL_law 612 = .ok (.iadd, 1) := by decide +kernel
theorem dL_law_613 : decode cL_law 613 = .ok (.iaload, 1) := by decide +kernel
theorem dL_law_614 : decode cL_law 614 = .ok (.invokevirtual 60, 3) := by decide +kernel
theorem dL_law_617 : decode cL_law 617 = .ok (.aload_n 2, 1) := by decide +kernel
theorem dL_law_618 : decode cL_law 618 = .ok (.aload_n 0, 1) := by decide +kernel
theorem dL_law_619 : decode cL_law 619 = .ok (.iload_n 3, 1) := by decide +kernel
theorem dL_law_620 : decode cL_law 620 = .ok (.iconst 1, 1) := by decide +kernel
theorem dL_law_621 : decode cL_law 621 = .ok (.iadd, 1) := by decide +kernel
theorem dL_law_622 : decode cL_law 622 = .ok (.iaload, 1) := by decide +kernel
theorem dL_law_623 : decode cL_law 623 = .ok (.invokevirtual 63, 3) := by decide +kernel
theorem dL_law_626 : decode cL_law 626 = .ok (.if_icmp .eq 543, 3) := by decide +kernel
theorem dL_law_629 : decode cL_law 629 = .ok (.iconst 0, 1) := by decide +kernel
theorem dL_law_630 : decode cL_law 630 = .ok (.ireturn, 1) := by decide +kernel
theorem dL_law_631 : decode cL_law 631 = .ok (.aload_n 1, 1) := by decide +kernel
theorem dL_law_632 : decode cL_law 632 = .ok (.aload_n 0, 1) := by decide +kernel
theorem dL_law_633 : decode cL_law 633 = .ok (.iload_n 3, 1) := by decide +kernel
theorem dL_law_634 : decode cL_law 634 = .ok (.iconst 1, 1) := by decide +kernel
theorem dL_law_635 : decode cL_law 635 = .ok (.iadd, 1) := by decide +kernel
theorem dL_law_636 : decode cL_law 636 = .ok (.iaload, 1) := by decide +kernel
theorem dL_law_637 : decode cL_law 637 = .ok (.aload_n 0, 1) := by decide +kernel
theorem dL_law_638 : decode cL_law 638 = .ok (.iload_n 3, 1) := by decide +kernel
theorem dL_law_639 : decode cL_law 639 = .ok (.iconst 2, 1) := by decide +kernel
theorem dL_law_640 : decode cL_law 640 = .ok (.iadd, 1) := by decide +kernel
theorem dL_law_641 : decode cL_law 641 = .ok (.iaload, 1) := by decide +kernel
theorem dL_law_642 : decode cL_law 642 = .ok (.aload_n 0, 1) := by decide +kernel
theorem dL_law_643 : decode cL_law 643 = .ok (.iload_n 3, 1) := by decide +kernel
theorem dL_law_644 : decode cL_law 644 = .ok (.iconst 3, 1) := by decide +kernel
theorem dL_law_645 : decode cL_law 645 = .ok (.iadd, 1) := by decide +kernel
theorem dL_law_646 : decode cL_law 646 = .ok (.iaload, 1) := by decide +kernel
theorem dL_law_647 : decode cL_law 647 = .ok (.invokevirtual 64, 3) := by decide +kernel
theorem dL_law_650 : decode cL_law 650 = .ok (.aload_n 2, 1) := by decide +kernel
theorem dL_law_651 : decode cL_law 651 = .ok (.aload_n 0, 1) := by decide +kernel
theorem dL_law_652 : decode cL_law 652 = .ok (.iload_n 3, 1) := by decide +kernel
theorem dL_law_653 : decode cL_law 653 = .ok (.iconst 1, 1) := by decide +kernel
theorem dL_law_654 : decode cL_law 654 = .ok (.iadd, 1) := by decide +kernel
theorem dL_law_655 : decode cL_law 655 = .ok (.iaload, 1) := by decide +kernel
theorem dL_law_656 : decode cL_law 656 = .ok (.aload_n 0, 1) := by decide +kernel
theorem dL_law_657 : decode cL_law 657 = .ok (.iload_n 3, 1) := by decide +kernel
theorem dL_law_658 : decode cL_law 658 = .ok (.iconst 2, 1) := by decide +kernel
theorem dL_law_659 : decode cL_law 659 = .ok (.iadd, 1) := by decide +kernel
theorem dL_law_660 : decode cL_law 660 = .ok (.iaload, 1) := by decide +kernel
theorem dL_law_661 : decode cL_law 661 = .ok (.aload_n 0, 1) := by decide +kernel
theorem dL_law_662 : decode cL_law 662 = .ok (.iload_n 3, 1) := by decide +kernel
theorem dL_law_663 : decode cL_law 663 = .ok (.iconst 3, 1) := by decide +kernel
theorem dL_law_664 : decode cL_law 664 = .ok (.iadd, 1) := by decide +kernel
theorem dL_law_665 : decode cL_law 665 = .ok (.iaload, 1) := by decide +kernel
theorem dL_law_666 : decode cL_law 666 = .ok (.invokevirtual 67, 3) := by decide +kernel
theorem dL_law_669 : decode cL_law 669 = .ok (.if_icmp .eq 500, 3) := by decide +kernel
theorem dL_law_672 : decode cL_law 672 = .ok (.iconst 0, 1) := by decide +kernel
theorem dL_law_673 : decode cL_law 673 = .ok (.ireturn, 1) := by decide +kernel
theorem dL_law_674 : decode cL_law 674 = .ok (.aload_n 1, 1) := by decide +kernel
theorem dL_law_675 : decode cL_law 675 = .ok (.aload_n 0, 1) := by decide +kernel
theorem dL_law_676 : decode cL_law 676 = .ok (.iload_n 3, 1) := by decide +kernel
theorem dL_law_677 : decode cL_law 677 = .ok (.iconst 1, 1) := by decide +kernel
theorem dL_law_678 : decode cL_law 678 = .ok (.iadd, 1) := by decide +kernel
theorem dL_law_679 : decode cL_law 679 = .ok (.iaload, 1) := by decide +kernel
theorem dL_law_680 : decode cL_law 680 = .ok (.aload_n 0, 1) := by decide +kernel
theorem dL_law_681 : decode cL_law 681 = .ok (.iload_n 3, 1) := by decide +kernel
theorem dL_law_682 : decode cL_law 682 = .ok (.iconst 2, 1) := by decide +kernel
theorem dL_law_683 : decode cL_law 683 = .ok (.iadd, 1) := by decide +kernel
theorem dL_law_684 : decode cL_law 684 = .ok (.iaload, 1) := by decide +kernel
theorem dL_law_685 : decode cL_law 685 = .ok (.invokevirtual 68, 3) := by decide +kernel
theorem dL_law_688 : decode cL_law 688 = .ok (.aload_n 2, 1) := by decide +kernel
theorem dL_law_689 : decode cL_law 689 = .ok (.aload_n 0, 1) := by decide +kernel
theorem dL_law_690 : decode cL_law 690 = .ok (.iload_n 3, 1) := by decide +kernel
theorem dL_law_691 : decode cL_law 691 = .ok (.iconst 1, 1) := by decide +kernel
theorem dL_law_692 : decode cL_law 692 = .ok (.iadd, 1) := by decide +kernel
theorem dL_law_693 : decode cL_law 693 = .ok (.iaload, 1) := by decide +kernel
theorem dL_law_694 : decode cL_law 694 = .ok (.aload_n 0, 1) := by decide +kernel
theorem dL_law_695 : decode cL_law 695 = .ok (.iload_n 3, 1) := by decide +kernel
theorem dL_law_696 : decode cL_law 696 = .ok (.iconst 2, 1) := by decide +kernel
theorem dL_law_697 : decode cL_law 697 = .ok (.iadd, 1) := by decide +kernel
theorem dL_law_698 : decode cL_law 698 = .ok (.iaload, 1) := by decide +kernel
theorem dL_law_699 : decode cL_law 699 = .ok (.invokevirtual 71, 3) := by decide +kernel
theorem dL_law_702 : decode cL_law 702 = .ok (.if_icmp .eq 467, 3) := by decide +kernel
theorem dL_law_705 : decode cL_law 705 = .ok (.iconst 0, 1) := by decide +kernel
theorem dL_law_706 : decode cL_law 706 = .ok (.ireturn, 1) := by decide +kernel
theorem dL_law_707 : decode cL_law 707 = .ok (.aload_n 1, 1) := by decide +kernel
theorem dL_law_708 : decode cL_law 708 = .ok (.aload_n 0, 1) := by decide +kernel
theorem dL_law_709 : decode cL_law 709 = .ok (.iload_n 3, 1) := by decide +kernel
theorem dL_law_710 : decode cL_law 710 = .ok (.iconst 1, 1) := by decide +kernel
theorem dL_law_711 : decode cL_law 711 = .ok (.iadd, 1) := by decide +kernel
theorem dL_law_712 : decode cL_law 712 = .ok (.iaload, 1) := by decide +kernel
theorem dL_law_713 : decode cL_law 713 = .ok (.invokevirtual 72, 3) := by decide +kernel
theorem dL_law_716 : decode cL_law 716 = .ok (.aload_n 2, 1) := by decide +kernel
theorem dL_law_717 : decode cL_law 717 = .ok (.aload_n 0, 1) := by decide +kernel
theorem dL_law_718 : decode cL_law 718 = .ok (.iload_n 3, 1) := by decide +kernel
theorem dL_law_719 : decode cL_law 719 = .ok (.iconst 1, 1) := by decide +kernel
theorem dL_law_720 : decode cL_law 720 = .ok (.iadd, 1) := by decide +kernel
theorem dL_law_721 : decode cL_law 721 = .ok (.iaload, 1) := by decide +kernel
theorem dL_law_722 : decode cL_law 722 = .ok (.invokevirtual 75, 3) := by decide +kernel
theorem dL_law_725 : decode cL_law 725 = .ok (.if_icmp .eq 444, 3) := by decide +kernel
theorem dL_law_728 : decode cL_law 728 = .ok (.iconst 0, 1) := by decide +kernel
theorem dL_law_729 : decode cL_law 729 = .ok (.ireturn, 1) := by decide +kernel
theorem dL_law_730 : decode cL_law 730 = .ok (.aload_n 1, 1) := by decide +kernel
theorem dL_law_731 : decode cL_law 731 = .ok (.invokevirtual 76, 3) := by decide +kernel
theorem dL_law_734 : decode cL_law 734 = .ok (.aload_n 2, 1) := by decide +kernel
theorem dL_law_735 : decode cL_law 735 = .ok (.invokevirtual 80, 3) := by decide +kernel
theorem dL_law_738 : decode cL_law 738 = .ok (.if_icmp .eq 431, 3) := by decide +kernel
theorem dL_law_741 : decode cL_law 741 = .ok (.iconst 0, 1) := by decide +kernel
theorem dL_law_742 : decode cL_law 742 = .ok (.ireturn, 1) := by decide +kernel
theorem dL_law_743 : decode cL_law 743 = .ok (.aload_n 1, 1) := by decide +kernel
theorem dL_law_744 : decode cL_law 744 = .ok (.aload_n 0, 1) := by decide +kernel
theorem dL_law_745 : decode cL_law 745 = .ok (.iload_n 3, 1) := by decide +kernel
theorem dL_law_746 : decode cL_law 746 = .ok (.iconst 1, 1) := by decide +kernel
theorem dL_law_747 : decode cL_law 747 = .ok (.iadd, 1) := by decide +kernel
theorem dL_law_748 : decode cL_law 748 = .ok (.iaload, 1) := by decide +kernel
theorem dL_law_749 : decode cL_law 749 = .ok (.aload_n 0, 1) := by decide +kernel
theorem dL_law_750 : decode cL_law 750 = .ok (.iload_n 3, 1) := by decide +kernel
theorem dL_law_751 : decode cL_law 751 = .ok (.iconst 2, 1) := by decide +kernel
theorem dL_law_752 : decode cL_law 752 = .ok (.iadd, 1) := by decide +kernel
theorem dL_law_753 : decode cL_law 753 = .ok (.iaload, 1) := by decide +kernel
theorem dL_law_754 : decode cL_law 754 = .ok (.aload_n 0, 1) := by decide +kernel
theorem dL_law_755 : decode cL_law 755 = .ok (.iload_n 3, 1) := by decide +kernel
theorem dL_law_756 : decode cL_law 756 = .ok (.iconst 3, 1) := by decide +kernel
theorem dL_law_757 : decode cL_law 757 = .ok (.iadd, 1) := by decide +kernel
theorem dL_law_758 : decode cL_law 758 = .ok (.iaload, 1) := by decide +kernel
theorem dL_law_759 : decode cL_law 759 = .ok (.invokevirtual 81, 3) := by decide +kernel
theorem dL_law_762 : decode cL_law 762 = .ok (.aload_n 2, 1) := by decide +kernel
theorem dL_law_763 : decode cL_law 763 = .ok (.aload_n 0, 1) := by decide +kernel
theorem dL_law_764 : decode cL_law 764 = .ok (.iload_n 3, 1) := by decide +kernel
theorem dL_law_765 : decode cL_law 765 = .ok (.iconst 1, 1) := by decide +kernel
theorem dL_law_766 : decode cL_law 766 = .ok (.iadd, 1) := by decide +kernel
theorem dL_law_767 : decode cL_law 767 = .ok (.iaload, 1) := by decide +kernel
theorem dL_law_768 : decode cL_law 768 = .ok (.aload_n 0, 1) := by decide +kernel
theorem dL_law_769 : decode cL_law 769 = .ok (.iload_n 3, 1) := by decide +kernel
theorem dL_law_770 : decode cL_law 770 = .ok (.iconst 2, 1) := by decide +kernel
theorem dL_law_771 : decode cL_law 771 = .ok (.iadd, 1) := by decide +kernel
theorem dL_law_772 : decode cL_law 772 = .ok (.iaload, 1) := by decide +kernel
theorem dL_law_773 : decode cL_law 773 = .ok (.aload_n 0, 1) := by decide +kernel
theorem dL_law_774 : decode cL_law 774 = .ok (.iload_n 3, 1) := by decide +kernel
theorem dL_law_775 : decode cL_law 775 = .ok (.iconst 3, 1) := by decide +kernel
theorem dL_law_776 : decode cL_law 776 = .ok (.iadd, 1) := by decide +kernel
theorem dL_law_777 : decode cL_law 777 = .ok (.iaload, 1) := by decide +kernel
theorem dL_law_778 : decode cL_law 778 = .ok (.invokevirtual 84, 3) := by decide +kernel
theorem dL_law_781 : decode cL_law 781 = .ok (.if_icmp .eq 388, 3) := by decide +kernel
theorem dL_law_784 : decode cL_law 784 = .ok (.iconst 0, 1) := by decide +kernel
theorem dL_law_785 : decode cL_law 785 = .ok (.ireturn, 1) := by decide +kernel
theorem dL_law_786 : decode cL_law 786 = .ok (.aload_n 1, 1) := by decide +kernel
theorem dL_law_787 : decode cL_law 787 = .ok (.aload_n 0, 1) := by decide +kernel
theorem dL_law_788 : decode cL_law 788 = .ok (.iload_n 3, 1) := by decide +kernel
theorem dL_law_789 : decode cL_law 789 = .ok (.iconst 1, 1) := by decide +kernel
theorem dL_law_790 : decode cL_law 790 = .ok (.iadd, 1) := by decide +kernel
theorem dL_law_791 : decode cL_law 791 = .ok (.iaload, 1) := by decide +kernel
theorem dL_law_792 : decode cL_law 792 = .ok (.aload_n 0, 1) := by decide +kernel
theorem dL_law_793 : decode cL_law 793 = .ok (.iload_n 3, 1) := by decide +kernel
theorem dL_law_794 : decode cL_law 794 = .ok (.iconst 2, 1) := by decide +kernel
theorem dL_law_795 : decode cL_law 795 = .ok (.iadd, 1) := by decide +kernel
theorem dL_law_796 : decode cL_law 796 = .ok (.iaload, 1) := by decide +kernel
theorem dL_law_797 : decode cL_law 797 = .ok (.aload_n 0, 1) := by decide +kernel
theorem dL_law_798 : decode cL_law 798 = .ok (.iload_n 3, 1) := by decide +kernel
theorem dL_law_799 : decode cL_law 799 = .ok (.iconst 3, 1) := by decide +kernel
theorem dL_law_800 : decode cL_law 800 = .ok (.iadd, 1) := by decide +kernel
theorem dL_law_801 : decode cL_law 801 = .ok (.iaload, 1) := by decide +kernel
theorem dL_law_802 : decode cL_law 802 = .ok (.invokevirtual 85, 3) := by decide +kernel
theorem dL_law_805 : decode cL_law 805 = .ok (.aload_n 2, 1) := by decide +kernel
theorem dL_law_806 : decode cL_law 806 = .ok (.aload_n 0, 1) := by decide +kernel
theorem dL_law_807 : decode cL_law 807 = .ok (.iload_n 3, 1) := by decide +kernel
theorem dL_law_808 : decode cL_law 808 = .ok (.iconst 1, 1) := by decide +kernel
theorem dL_law_809 : decode cL_law 809 = .ok (.iadd, 1) := by decide +kernel
theorem dL_law_810 : decode cL_law 810 = .ok (.iaload, 1) := by decide +kernel
theorem dL_law_811 : decode cL_law 811 = .ok (.aload_n 0, 1) := by decide +kernel
theorem dL_law_812 : decode cL_law 812 = .ok (.iload_n 3, 1) := by decide +kernel
theorem dL_law_813 : decode cL_law 813 = .ok (.iconst 2, 1) := by decide +kernel
theorem dL_law_814 : decode cL_law 814 = .ok (.iadd, 1) := by decide +kernel
theorem dL_law_815 : decode cL_law 815 = .ok (.iaload, 1) := by decide +kernel
theorem dL_law_816 : decode cL_law 816 = .ok (.aload_n 0, 1) := by decide +kernel
theorem dL_law_817 : decode cL_law 817 = .ok (.iload_n 3, 1) := by decide +kernel
theorem dL_law_818 : decode cL_law 818 = .ok (.iconst 3, 1) := by decide +kernel
theorem dL_law_819 : decode cL_law 819 = .ok (.iadd, 1) := by decide +kernel
theorem dL_law_820 : decode cL_law 820 = .ok (.iaload, 1) := by decide +kernel
theorem dL_law_821 : decode cL_law 821 = .ok (.invokevirtual 88, 3) := by decide +kernel
theorem dL_law_824 : decode cL_law 824 = .ok (.if_icmp .eq 345, 3) := by decide +kernel
theorem dL_law_827 : decode cL_law 827 = .ok (.iconst 0, 1) := by decide +kernel
theorem dL_law_828 : decode cL_law 828 = .ok (.ireturn, 1) := by decide +kernel
theorem dL_law_829 : decode cL_law 829 = .ok (.aload_n 1, 1) := by decide +kernel
theorem dL_law_830 : decode cL_law 830 = .ok (.aload_n 0, 1) := by decide +kernel
theorem dL_law_831 : decode cL_law 831 = .ok (.iload_n 3, 1) := by decide +kernel
theorem dL_law_832 : decode cL_law 832 = .ok (.iconst 1, 1) := by decide +kernel
theorem dL_law_833 : decode cL_law 833 = .ok (.iadd, 1) := by decide +kernel
theorem dL_law_834 : decode cL_law 834 = .ok (.iaload, 1) := by decide +kernel
theorem dL_law_835 : decode cL_law 835 = .ok (.aload_n 0, 1) := by decide +kernel
theorem dL_law_836 : decode cL_law 836 = .ok (.iload_n 3, 1) := by decide +kernel
theorem dL_law_837 : decode cL_law 837 = .ok (.iconst 2, 1) := by decide +kernel
theorem dL_law_838 : decode cL_law 838 = .ok (.iadd, 1) := by decide +kernel
theorem dL_law_839 : decode cL_law 839 = .ok (.iaload, 1) := by decide +kernel
theorem dL_law_840 : decode cL_law 840 = .ok (.aload_n 0, 1) := by decide +kernel
theorem dL_law_841 : decode cL_law 841 = .ok (.iload_n 3, 1) := by decide +kernel
theorem dL_law_842 : decode cL_law 842 = .ok (.iconst 3, 1) := by decide +kernel
theorem dL_law_843 : decode cL_law 843 = .ok (.iadd, 1) := by decide +kernel
theorem dL_law_844 : decode cL_law 844 = .ok (.iaload, 1) := by decide +kernel
theorem dL_law_845 : decode cL_law 845 = .ok (.aload_n 0, 1) := by decide +kernel
theorem dL_law_846 : decode cL_law 846 = .ok (.iload_n 3, 1) := by decide +kernel
theorem dL_law_847 : decode cL_law 847 = .ok (.iconst 4, 1) := by decide +kernel
theorem dL_law_848 : decode cL_law 848 = .ok (.iadd, 1) := by decide +kernel
theorem dL_law_849 : decode cL_law 849 = .ok (.iaload, 1) := by decide +kernel
theorem dL_law_850 : decode cL_law 850 = .ok (.invokevirtual 89, 3) := by decide +kernel
theorem dL_law_853 : decode cL_law 853 = .ok (.aload_n 2, 1) := by decide +kernel
theorem dL_law_854 : decode cL_law 854 = .ok (.aload_n 0, 1) := by decide +kernel
theorem dL_law_855 : decode cL_law 855 = .ok (.iload_n 3, 1) := by decide +kernel
theorem dL_law_856 : decode cL_law 856 = .ok (.iconst 1, 1) := by decide +kernel
theorem dL_law_857 : decode cL_law 857 = .ok (.iadd, 1) := by decide +kernel
theorem dL_law_858 : decode cL_law 858 = .ok (.iaload, 1) := by decide +kernel
theorem dL_law_859 : decode cL_law 859 = .ok (.aload_n 0, 1) := by decide +kernel
theorem dL_law_860 : decode cL_law 860 = .ok (.iload_n 3, 1) := by decide +kernel
theorem dL_law_861 : decode cL_law 861 = .ok (.iconst 2, 1) := by decide +kernel
theorem dL_law_862 : decode cL_law 862 = .ok (.iadd, 1) := by decide +kernel
theorem dL_law_863 : decode cL_law 863 = .ok (.iaload, 1) := by decide +kernel
theorem dL_law_864 : decode cL_law 864 = .ok (.aload_n 0, 1) := by decide +kernel
theorem dL_law_865 : decode cL_law 865 = .ok (.iload_n 3, 1) := by decide +kernel
theorem dL_law_866 : decode cL_law 866 = .ok (.iconst 3, 1) := by decide +kernel
theorem dL_law_867 : decode cL_law 867 = .ok (.iadd, 1) := by decide +kernel
theorem dL_law_868 : decode cL_law 868 = .ok (.iaload, 1) := by decide +kernel
theorem dL_law_869 : decode cL_law 869 = .ok (.aload_n 0, 1) := by decide +kernel
theorem dL_law_870 : decode cL_law 870 = .ok (.iload_n 3, 1) := by decide +kernel
theorem dL_law_871 : decode cL_law 871 = .ok (.iconst 4, 1) := by decide +kernel
theorem dL_law_872 : decode cL_law 872 = .ok (.iadd, 1) := by decide +kernel
theorem dL_law_873 : decode cL_law 873 = .ok (.iaload, 1) := by decide +kernel
theorem dL_law_874 : decode cL_law 874 = .ok (.invokevirtual 93, 3) := by decide +kernel
theorem dL_law_877 : decode cL_law 877 = .ok (.if_icmp .eq 292, 3) := by decide +kernel
theorem dL_law_880 : decode cL_law 880 = .ok (.iconst 0, 1) := by decide +kernel
theorem dL_law_881 : decode cL_law 881 = .ok (.ireturn, 1) := by decide +kernel
theorem dL_law_882 : decode cL_law 882 = .ok (.aload_n 1, 1) := by decide +kernel
theorem dL_law_883 : decode cL_law 883 = .ok (.aload_n 0, 1) := by decide +kernel
theorem dL_law_884 : decode cL_law 884 = .ok (.iload_n 3, 1) := by decide +kernel
theorem dL_law_885 : decode cL_law 885 = .ok (.iconst 1, 1) := by decide +kernel
theorem dL_law_886 : decode cL_law 886 = .ok (.iadd, 1) := by decide +kernel
theorem dL_law_887 : decode cL_law 887 = .ok (.iaload, 1) := by decide +kernel
theorem dL_law_888 : decode cL_law 888 = .ok (.aload_n 0, 1) := by decide +kernel
theorem dL_law_889 : decode cL_law 889 = .ok (.iload_n 3, 1) := by decide +kernel
theorem dL_law_890 : decode cL_law 890 = .ok (.iconst 2, 1) := by decide +kernel
theorem dL_law_891 : decode cL_law 891 = .ok (.iadd, 1) := by decide +kernel
theorem dL_law_892 : decode cL_law 892 = .ok (.iaload, 1) := by decide +kernel
theorem dL_law_893 : decode cL_law 893 = .ok (.invokevirtual 94, 3) := by decide +kernel
theorem dL_law_896 : decode cL_law 896 = .ok (.aload_n 2, 1) := by decide +kernel
theorem dL_law_897 : decode cL_law 897 = .ok (.aload_n 0, 1) := by decide +kernel
theorem dL_law_898 : decode cL_law 898 = .ok (.iload_n 3, 1) := by decide +kernel
theorem dL_law_899 : decode cL_law 899 = .ok (.iconst 1, 1) := by decide +kernel
theorem dL_law_900 : decode cL_law 900 = .ok (.iadd, 1) := by decide +kernel
theorem dL_law_901 : decode cL_law 901 = .ok (.iaload, 1) := by decide +kernel
theorem dL_law_902 : decode cL_law 902 = .ok (.aload_n 0, 1) := by decide +kernel
theorem dL_law_903 : decode cL_law 903 = .ok (.iload_n 3, 1) := by decide +kernel
theorem dL_law_904 : decode cL_law 904 = .ok (.iconst 2, 1) := by decide +kernel
theorem dL_law_905 : decode cL_law 905 = .ok (.iadd, 1) := by decide +kernel
theorem dL_law_906 : decode cL_law 906 = .ok (.iaload, 1) := by decide +kernel
theorem dL_law_907 : decode cL_law 907 = .ok (.invokevirtual 97, 3) := by decide +kernel
theorem dL_law_910 : decode cL_law 910 = .ok (.if_icmp .eq 259, 3) := by decide +kernel
theorem dL_law_913 : decode cL_law 913 = .ok (.iconst 0, 1) := by decide +kernel
theorem dL_law_914 : decode cL_law 914 = .ok (.ireturn, 1) := by decide +kernel
theorem dL_law_915 : decode cL_law 915 = .ok (.aload_n 1, 1) := by decide +kernel
theorem dL_law_916 : decode cL_law 916 = .ok (.aload_n 0, 1) := by decide +kernel
theorem dL_law_917 : decode cL_law 917 = .ok (.iload_n 3, 1) := by decide +kernel
theorem dL_law_918 : decode cL_law 918 = .ok (.iconst 1, 1) := by decide +kernel
theorem dL_law_919 : decode cL_law 919 = .ok (.iadd, 1) := by decide +kernel
theorem dL_law_920 : decode cL_law 920 = .ok (.iaload, 1) := by decide +kernel
theorem dL_law_921 : decode cL_law 921 = .ok (.invokevirtual 98, 3) := by decide +kernel
theorem dL_law_924 : decode cL_law 924 = .ok (.aload_n 2, 1) := by decide +kernel
theorem dL_law_925 : decode cL_law 925 = .ok (.aload_n 0, 1) := by decide +kernel
theorem dL_law_926 : decode cL_law 926 = .ok (.iload_n 3, 1) := by decide +kernel
theorem dL_law_927 : decode cL_law 927 = .ok (.iconst 1, 1) := by decide +kernel
theorem dL_law_928 : decode cL_law 928 = .ok (.iadd, 1) := by decide +kernel
theorem dL_law_929 : decode cL_law 929 = .ok (.iaload, 1) := by decide +kernel
theorem dL_law_930 : decode cL_law 930 = .ok (.invokevirtual 101, 3) := by decide +kernel
theorem dL_law_933 : decode cL_law 933 = .ok (.if_icmp .eq 236, 3) := by decide +kernel
theorem dL_law_936 : decode cL_law 936 = .ok (.iconst 0, 1) := by decide +kernel
theorem dL_law_937 : decode cL_law 937 = .ok (.ireturn, 1) := by decide +kernel
theorem dL_law_938 : decode cL_law 938 = .ok (.aload_n 1, 1) := by decide +kernel
theorem dL_law_939 : decode cL_law 939 = .ok (.aload_n 0, 1) := by decide +kernel
theorem dL_law_940 : decode cL_law 940 = .ok (.iload_n 3, 1) := by decide +kernel
theorem dL_law_941 : decode cL_law 941 = .ok (.iconst 1, 1) := by decide +kernel
theorem dL_law_942 : decode cL_law 942 = .ok (.iadd, 1) := by decide +kernel
theorem dL_law_943 : decode cL_law 943 = .ok (.iaload, 1) := by decide +kernel
theorem dL_law_944 : decode cL_law 944 = .ok (.aload_n 0, 1) := by decide +kernel
theorem dL_law_945 : decode cL_law 945 = .ok (.iload_n 3, 1) := by decide +kernel
theorem dL_law_946 : decode cL_law 946 = .ok (.iconst 2, 1) := by decide +kernel
theorem dL_law_947 : decode cL_law 947 = .ok (.iadd, 1) := by decide +kernel
theorem dL_law_948 : decode cL_law 948 = .ok (.iaload, 1) := by decide +kernel
theorem dL_law_949 : decode cL_law 949 = .ok (.invokevirtual 102, 3) := by decide +kernel
theorem dL_law_952 : decode cL_law 952 = .ok (.aload_n 2, 1) := by decide +kernel
theorem dL_law_953 : decode cL_law 953 = .ok (.aload_n 0, 1) := by decide +kernel
theorem dL_law_954 : decode cL_law 954 = .ok (.iload_n 3, 1) := by decide +kernel
theorem dL_law_955 : decode cL_law 955 = .ok (.iconst 1, 1) := by decide +kernel
theorem dL_law_956 : decode cL_law 956 = .ok (.iadd, 1) := by decide +kernel
theorem dL_law_957 : decode cL_law 957 = .ok (.iaload, 1) := by decide +kernel
theorem dL_law_958 : decode cL_law 958 = .ok (.aload_n 0, 1) := by decide +kernel
theorem dL_law_959 : decode cL_law 959 = .ok (.iload_n 3, 1) := by decide +kernel
theorem dL_law_960 : decode cL_law 960 = .ok (.iconst 2, 1) := by decide +kernel
theorem dL_law_961 : decode cL_law 961 = .ok (.iadd, 1) := by decide +kernel
theorem dL_law_962 : decode cL_law 962 = .ok (.iaload, 1) := by decide +kernel
theorem dL_law_963 : decode cL_law 963 = .ok (.invokevirtual 105, 3) := by decide +kernel
theorem dL_law_966 : decode cL_law 966 = .ok (.if_icmp .eq 203, 3) := by decide +kernel
theorem dL_law_969 : decode cL_law 969 = .ok (.iconst 0, 1) := by decide +kernel
theorem dL_law_970 : decode cL_law 970 = .ok (.ireturn, 1) := by decide +kernel
theorem dL_law_971 : decode cL_law 971 = .ok (.aload_n 1, 1) := by decide +kernel
theorem dL_law_972 : decode cL_law 972 = .ok (.invokevirtual 106, 3) := by decide +kernel
theorem dL_law_975 : decode cL_law 975 = .ok (.aload_n 2, 1) := by decide +kernel
theorem dL_law_976 : decode cL_law 976 = .ok (.invokevirtual 109, 3) := by decide +kernel
theorem dL_law_979 : decode cL_law 979 = .ok (.if_icmp .eq 190, 3) := by decide +kernel
theorem dL_law_982 : decode cL_law 982 = .ok (.iconst 0, 1) := by decide +kernel
theorem dL_law_983 : decode cL_law 983 = .ok (.ireturn, 1) := by decide +kernel
theorem dL_law_984 : decode cL_law 984 = .ok (.aload_n 1, 1) := by decide +kernel
theorem dL_law_985 : decode cL_law 985 = .ok (.aload_n 0, 1) := by decide +kernel
theorem dL_law_986 : decode cL_law 986 = .ok (.iload_n 3, 1) := by decide +kernel
theorem dL_law_987 : decode cL_law 987 = .ok (.iconst 1, 1) := by decide +kernel
theorem dL_law_988 : decode cL_law 988 = .ok (.iadd, 1) := by decide +kernel
theorem dL_law_989 : decode cL_law 989 = .ok (.iaload, 1) := by decide +kernel
theorem dL_law_990 : decode cL_law 990 = .ok (.aload_n 0, 1) := by decide +kernel
theorem dL_law_991 : decode cL_law 991 = .ok (.iload_n 3, 1) := by decide +kernel
theorem dL_law_992 : decode cL_law 992 = .ok (.iconst 2, 1) := by decide +kernel
theorem dL_law_993 : decode cL_law 993 = .ok (.iadd, 1) := by decide +kernel
theorem dL_law_994 : decode cL_law 994 = .ok (.iaload, 1) := by decide +kernel
theorem dL_law_995 : decode cL_law 995 = .ok (.invokevirtual 110, 3) := by decide +kernel
theorem dL_law_998 : decode cL_law 998 = .ok (.aload_n 2, 1) := by decide +kernel
theorem dL_law_999 : decode cL_law 999 = .ok (.aload_n 0, 1) := by decide +kernel
theorem dL_law_1000 : decode cL_law 1000 = .ok (.iload_n 3, 1) := by decide +kernel
theorem dL_law_1001 : decode cL_law 1001 = .ok (.iconst 1, 1) := by decide +kernel
theorem dL_law_1002 : decode cL_law 1002 = .ok (.iadd, 1) := by decide +kernel
theorem dL_law_1003 : decode cL_law 1003 = .ok (.iaload, 1) := by decide +kernel
theorem dL_law_1004 : decode cL_law 1004 = .ok (.aload_n 0, 1) := by decide +kernel
theorem dL_law_1005 : decode cL_law 1005 = .ok (.iload_n 3, 1) := by decide +kernel
theorem dL_law_1006 : decode cL_law 1006 = .ok (.iconst 2, 1) := by decide +kernel
theorem dL_law_1007 : decode cL_law 1007 = .ok (.iadd, 1) := by decide +kernel
theorem dL_law_1008 : decode cL_law 1008 = .ok (.iaload, 1) := by decide +kernel
theorem dL_law_1009 : decode cL_law 1009 = .ok (.invokevirtual 113, 3) := by decide +kernel
theorem dL_law_1012 : decode cL_law 1012 = .ok (.if_icmp .eq 157, 3) := by decide +kernel
theorem dL_law_1015 : decode cL_law 1015 = .ok (.iconst 0, 1) := by decide +kernel
theorem dL_law_1016 : decode cL_law 1016 = .ok (.ireturn, 1) := by decide +kernel
theorem dL_law_1017 : decode cL_law 1017 = .ok (.aload_n 1, 1) := by decide +kernel
theorem dL_law_1018 : decode cL_law 1018 = .ok (.aload_n 0, 1) := by decide +kernel
theorem dL_law_1019 : decode cL_law 1019 = .ok (.iload_n 3, 1) := by decide +kernel
theorem dL_law_1020 : decode cL_law 1020 = .ok (.iconst 1, 1) := by decide +kernel
theorem dL_law_1021 : decode cL_law 1021 = .ok (.iadd, 1) := by decide +kernel
theorem dL_law_1022 : decode cL_law 1022 = .ok (.iaload, 1) := by decide +kernel
theorem dL_law_1023 : decode cL_law 1023 = .ok (.invokevirtual 114, 3) := by decide +kernel
theorem dL_law_1026 : decode cL_law 1026 = .ok (.aload_n 2, 1) := by decide +kernel
theorem dL_law_1027 : decode cL_law 1027 = .ok (.aload_n 0, 1) := by decide +kernel
theorem dL_law_1028 : decode cL_law 1028 = .ok (.iload_n 3, 1) := by decide +kernel
theorem dL_law_1029 : decode cL_law 1029 = .ok (.iconst 1, 1) := by decide +kernel
theorem dL_law_1030 : decode cL_law 1030 = .ok (.iadd, 1) := by decide +kernel
theorem dL_law_1031 : decode cL_law 1031 = .ok (.iaload, 1) := by decide +kernel
theorem dL_law_1032 : decode cL_law 1032 = .ok (.invokevirtual 117, 3) := by decide +kernel
theorem dL_law_1035 : decode cL_law 1035 = .ok (.if_icmp .eq 134, 3) := by decide +kernel
theorem dL_law_1038 : decode cL_law 1038 = .ok (.iconst 0, 1) := by decide +kernel
theorem dL_law_1039 : decode cL_law 1039 = .ok (.ireturn, 1) := by decide +kernel
theorem dL_law_1040 : decode cL_law 1040 = .ok (.aload_n 1, 1) := by decide +kernel
theorem dL_law_1041 : decode cL_law 1041 = .ok (.aload_n 0, 1) := by decide +kernel
theorem dL_law_1042 : decode cL_law 1042 = .ok (.iload_n 3, 1) := by decide +kernel
theorem dL_law_1043 : decode cL_law 1043 = .ok (.iconst 1, 1) := by decide +kernel
theorem dL_law_1044 : decode cL_law 1044 = .ok (.iadd, 1) := by decide +kernel
theorem dL_law_1045 : decode cL_law 1045 = .ok (.iaload, 1) := by decide +kernel
theorem dL_law_1046 : decode cL_law 1046 = .ok (.aload_n 0, 1) := by decide +kernel
theorem dL_law_1047 : decode cL_law 1047 = .ok (.iload_n 3, 1) := by decide +kernel
theorem dL_law_1048 : decode cL_law 1048 = .ok (.iconst 2, 1) := by decide +kernel
theorem dL_law_1049 : decode cL_law 1049 = .ok (.iadd, 1) := by decide +kernel
theorem dL_law_1050 : decode cL_law 1050 = .ok (.iaload, 1) := by decide +kernel
theorem dL_law_1051 : decode cL_law 1051 = .ok (.invokevirtual 118, 3) := by decide +kernel
theorem dL_law_1054 : decode cL_law 1054 = .ok (.aload_n 2, 1) := by decide +kernel
theorem dL_law_1055 : decode cL_law 1055 = .ok (.aload_n 0, 1) := by decide +kernel
theorem dL_law_1056 : decode cL_law 1056 = .ok (.iload_n 3, 1) := by decide +kernel
theorem dL_law_1057 : decode cL_law 1057 = .ok (.iconst 1, 1) := by decide +kernel
theorem dL_law_1058 : decode cL_law 1058 = .ok (.iadd, 1) := by decide +kernel
theorem dL_law_1059 : decode cL_law 1059 = .ok (.iaload, 1) := by decide +kernel
theorem dL_law_1060 : decode cL_law 1060 = .ok (.aload_n 0, 1) := by decide +kernel
theorem dL_law_1061 : decode cL_law 1061 = .ok (.iload_n 3, 1) := by decide +kernel
theorem dL_law_1062 : decode cL_law 1062 = .ok (.iconst 2, 1) := by decide +kernel
theorem dL_law_1063 : decode cL_law 1063 = .ok (.iadd, 1) := by decide +kernel
theorem dL_law_1064 : decode cL_law 1064 = .ok (.iaload, 1) := by decide +kernel
theorem dL_law_1065 : decode cL_law 1065 = .ok (.invokevirtual 121, 3) := by decide +kernel
theorem dL_law_1068 : decode cL_law 1068 = .ok (.if_icmp .eq 101, 3) := by decide +kernel
theorem dL_law_1071 : decode cL_law 1071 = .ok (.iconst 0, 1) := by decide +kernel
theorem dL_law_1072 : decode cL_law 1072 = .ok (.ireturn, 1) := by decide +kernel
theorem dL_law_1073 : decode cL_law 1073 = .ok (.aload_n 1, 1) := by decide +kernel
theorem dL_law_1074 : decode cL_law 1074 = .ok (.aload_n 0, 1) := by decide +kernel
theorem dL_law_1075 : decode cL_law 1075 = .ok (.iload_n 3, 1) := by decide +kernel
theorem dL_law_1076 : decode cL_law 1076 = .ok (.iconst 1, 1) := by decide +kernel
theorem dL_law_1077 : decode cL_law 1077 = .ok (.iadd, 1) := by decide +kernel
theorem dL_law_1078 : decode cL_law 1078 = .ok (.iaload, 1) := by decide +kernel
theorem dL_law_1079 : decode cL_law 1079 = .ok (.invokevirtual 122, 3) := by decide +kernel
theorem dL_law_1082 : decode cL_law 1082 = .ok (.aload_n 2, 1) := by decide +kernel
theorem dL_law_1083 : decode cL_law 1083 = .ok (.aload_n 0, 1) := by decide +kernel
theorem dL_law_1084 : decode cL_law 1084 = .ok (.iload_n 3, 1) := by decide +kernel
theorem dL_law_1085 : decode cL_law 1085 = .ok (.iconst 1, 1) := by decide +kernel
theorem dL_law_1086 : decode cL_law 1086 = .ok (.iadd, 1) := by decide +kernel
theorem dL_law_1087 : decode cL_law 1087 = .ok (.iaload, 1) := by decide +kernel
theorem dL_law_1088 : decode cL_law 1088 = .ok (.invokevirtual 125, 3) := by decide +kernel
theorem dL_law_1091 : decode cL_law 1091 = .ok (.if_icmp .eq 78, 3) := by decide +kernel
theorem dL_law_1094 : decode cL_law 1094 = .ok (.iconst 0, 1) := by decide +kernel
theorem dL_law_1095 : decode cL_law 1095 = .ok (.ireturn, 1) := by decide +kernel
theorem dL_law_1096 : decode cL_law 1096 = .ok (.aload_n 1, 1) := by decide +kernel
theorem dL_law_1097 : decode cL_law 1097 = .ok (.invokevirtual 126, 3) := by decide +kernel
theorem dL_law_1100 : decode cL_law 1100 = .ok (.aload_n 2, 1) := by decide +kernel
theorem dL_law_1101 : decode cL_law 1101 = .ok (.invokevirtual 129, 3) := by decide +kernel
theorem dL_law_1104 : decode cL_law 1104 = .ok (.if_icmp .eq 65, 3) := by decide +kernel
theorem dL_law_1107 : decode cL_law 1107 = .ok (.iconst 0, 1) := by decide +kernel
theorem dL_law_1108 : decode cL_law 1108 = .ok (.ireturn, 1) := by decide +kernel
theorem dL_law_1109 : decode cL_law 1109 = .ok (.aload_n 1, 1) := by decide +kernel
theorem dL_law_1110 : decode cL_law 1110 = .ok (.aload_n 0, 1) := by decide +kernel
theorem dL_law_1111 : decode cL_law 1111 = .ok (.iload_n 3, 1) := by decide +kernel
theorem dL_law_1112 : decode cL_law 1112 = .ok (.iconst 1, 1) := by decide +kernel
theorem dL_law_1113 : decode cL_law 1113 = .ok (.iadd, 1) := by decide +kernel
theorem dL_law_1114 : decode cL_law 1114 = .ok (.iaload, 1) := by decide +kernel
theorem dL_law_1115 : decode cL_law 1115 = .ok (.invokevirtual 130, 3) := by decide +kernel
theorem dL_law_1118 : decode cL_law 1118 = .ok (.aload_n 2, 1) := by decide +kernel
theorem dL_law_1119 : decode cL_law 1119 = .ok (.aload_n 0, 1) := by decide +kernel
theorem dL_law_1120 : decode cL_law 1120 = .ok (.iload_n 3, 1) := by decide +kernel
theorem dL_law_1121 : decode cL_law 1121 = .ok (.iconst 1, 1) := by decide +kernel
theorem dL_law_1122 : decode cL_law 1122 = .ok (.iadd, 1) := by decide +kernel
theorem dL_law_1123 : decode cL_law 1123 = .ok (.iaload, 1) := by decide +kernel
theorem dL_law_1124 : decode cL_law 1124 = .ok (.invokevirtual 133, 3) := by decide +kernel
theorem dL_law_1127 : decode cL_law 1127 = .ok (.if_icmp .eq 42, 3) := by decide +kernel
theorem dL_law_1130 : decode cL_law 1130 = .ok (.iconst 0, 1) := by decide +kernel
theorem dL_law_1131 : decode cL_law 1131 = .ok (.ireturn, 1) := by decide +kernel
theorem dL_law_1132 : decode cL_law 1132 = .ok (.aload_n 1, 1) := by decide +kernel
theorem dL_law_1133 : decode cL_law 1133 = .ok (.aload_n 0, 1) := by decide +kernel
theorem dL_law_1134 : decode cL_law 1134 = .ok (.iload_n 3, 1) := by decide +kernel
theorem dL_law_1135 : decode cL_law 1135 = .ok (.iconst 1, 1) := by decide +kernel
theorem dL_law_1136 : decode cL_law 1136 = .ok (.iadd, 1) := by decide +kernel
theorem dL_law_1137 : decode cL_law 1137 = .ok (.iaload, 1) := by decide +kernel
theorem dL_law_1138 : decode cL_law 1138 = .ok (.invokevirtual 134, 3) := by decide +kernel
theorem dL_law_1141 : decode cL_law 1141 = .ok (.aload_n 2, 1) := by decide +kernel
theorem dL_law_1142 : decode cL_law 1142 = .ok (.aload_n 0, 1) := by decide +kernel
theorem dL_law_1143 : decode cL_law 1143 = .ok (.iload_n 3, 1) := by decide +kernel
theorem dL_law_1144 : decode cL_law 1144 = .ok (.iconst 1, 1) := by decide +kernel
theorem dL_law_1145 : decode cL_law 1145 = .ok (.iadd, 1) := by decide +kernel
theorem dL_law_1146 : decode cL_law 1146 = .ok (.iaload, 1) := by decide +kernel
theorem dL_law_1147 : decode cL_law 1147 = .ok (.invokevirtual 137, 3) := by decide +kernel
theorem dL_law_1150 : decode cL_law 1150 = .ok (.if_icmp .eq 19, 3) := by decide +kernel
theorem dL_law_1153 : decode cL_law 1153 = .ok (.iconst 0, 1) := by decide +kernel
theorem dL_law_1154 : decode cL_law 1154 = .ok (.ireturn, 1) := by decide +kernel
theorem dL_law_1155 : decode cL_law 1155 = .ok (.aload_n 1, 1) := by decide +kernel
theorem dL_law_1156 : decode cL_law 1156 = .ok (.invokevirtual 138, 3) := by decide +kernel
theorem dL_law_1159 : decode cL_law 1159 = .ok (.aload_n 2, 1) := by decide +kernel
theorem dL_law_1160 : decode cL_law 1160 = .ok (.invokevirtual 142, 3) := by decide +kernel
theorem dL_law_1163 : decode cL_law 1163 = .ok (.lcmp, 1) := by decide +kernel
theorem dL_law_1164 : decode cL_law 1164 = .ok (.ifCond .eq 5, 3) := by decide +kernel
theorem dL_law_1167 : decode cL_law 1167 = .ok (.iconst 0, 1) := by decide +kernel
theorem dL_law_1168 : decode cL_law 1168 = .ok (.ireturn, 1) := by decide +kernel
theorem dL_law_1169 : decode cL_law 1169 = .ok (.iinc 3 6, 3) := by decide +kernel
theorem dL_law_1172 : decode cL_law 1172 = .ok (.goto (-1154), 3) := by decide +kernel
theorem dL_law_1175 : decode cL_law 1175 = .ok (.iconst 1, 1) := by decide +kernel
theorem dL_law_1176 : decode cL_law 1176 = .ok (.ireturn, 1) := by decide +kernel
end
section
/-- scalars (cell, field), int arrays (cell, place), long arrays, arrays of references (cell, place: the cell's number) -/
abbrev vs_S : Type := (Nat → Nat → Int32) × (Nat → Nat → Int32) × (Nat → Nat → Int64) × (Nat → Nat → Option Nat)
/-- a cell: an array (its kind, its length), or an object (its class, its fields: a scalar, or the cell that it holds) -/
abbrev vs_D : Type := (Nat × Nat) ⊕ (Nat × List (Option Nat))
def vs_T : List vs_D := [.inr (9, [some 1, some 2, some 3, none, some 4, some 7, some 12, some 17, some 28, some 70, some 77, some 79, none]), .inr (5, [none]), .inl (2, 4), .inl (3, 10), .inr (2, [some 5, some 6, none]), .inl (0, 20), .inl (0, 20), .inr (7, [some 8, some 10]), .inr (3, [some 9]), .inl (0, 42), .inr (3, [some 11]), .inl (0, 42), .inr (7, [some 13, some 15]), .inr (3, [some 14]), .inl (0, 42), .inr (3, [some 16]), .inl (0, 42), .inr (1, [some 18, some 20, some 22, some 24, some 26]), .inr (3, [some 19]), .inl (0, 42), .inr (3, [some 21]), .inl (0, 42), .inr (3, [some 23]), .inl (0, 42), .inr (3, [some 25]), .inl (0, 42), .inr (3, [some 27]), .inl (0, 42), .inr (0, [some 29]), .inl (4, 40), .inl (0, 40), .inl (0, 40), .inl (0, 40), .inl (0, 40), .inl (0, 40), .inl (0, 40), .inl (0, 40), .inl (0, 40), .inl (0, 40), .inl (0, 40), .inl (0, 40), .inl (0, 40), .inl (0, 40), .inl (0, 40), .inl (0, 40), .inl (0, 40), .inl (0, 40), .inl (0, 40), .inl (0, 40), .inl (0, 40), .inl (0, 40), .inl (0, 40), .inl (0, 40), .inl (0, 40), .inl (0, 40), .inl (0, 40), .inl (0, 40), .inl (0, 40), .inl (0, 40), .inl (0, 40), .inl (0, 40), .inl (0, 40), .inl (0, 40), .inl (0, 40), .inl (0, 40), .inl (0, 40), .inl (0, 40), .inl (0, 40), .inl (0, 40), .inl (0, 40), .inr (4, [some 71, some 73, some 75]), .inr (3, [some 72]), .inl (0, 42), .inr (3, [some 74]), .inl (0, 42), .inr (3, [some 76]), .inl (0, 42), .inr (3, [some 78]), .inl (0, 42), .inl (0, 6), .inr (8, [some 81, none, none, none]), .inl (1, 60), .inr (8, [some 83, none, none, none]), .inl (1, 60), .inr (8, [some 85, none, none, none]), .inl (1, 60), .inr (8, [some 87, none, none, none]), .inl (1, 60), .inr (6, [some 89, none]), .inr (3, [some 90]), .inl (0, 42), .inr (6, [some 92, none]), .inr (3, [some 93]), .inl (0, 42), .inr (6, [some 95, none]), .inr (3, [some 96]), .inl (0, 42), .inr (6, [some 98, none]), .inr (3, [some 99]), .inl (0, 42), .inr (6, [some 101, none]), .inr (3, [some 102]), .inl (0, 42), .inr (6, [some 104, none]), .inr (3, [some 105]), .inl (0, 42), .inr (6, [some 107, none]), .inr (3, [some 108]), .inl (0, 42), .inr (6, [some 110, none]), .inr (3, [some 111]), .inl (0, 42), .inr (6, [some 113, none]), .inr (3, [some 114]), .inl (0, 42), .inr (6, [some 116, none]), .inr (3, [some 117]), .inl (0, 42), .inr (10, [none, some 119, none, some 120, some 121, some 122, some 123, none, some 124, some 125, some 126, some 127, some 128, some 129, some 130, some 131, some 132, some 133, some 134, some 135, some 136, some 137, some 138, some 139, some 140, some 141, some 142, some 143, none, some 144, some 145]), .inl (0, 6), .inl (0, 4), .inl (0, 4), .inl (1, 240), .inl (1, 60), .inl (0, 10), .inl (0, 410), .inl (0, 41), .inl (0, 90), .inl (0, 90), .inl (0, 1936), .inl (0, 44), .inl (0, 44), .inl (0, 46), .inl (0, 46), .inl (0, 90), .inl (0, 90), .inl (0, 41), .inl (0, 46), .inl (0, 46), .inl (0, 41), .inl (0, 41), .inl (0, 45), .inl (0, 45), .inl (0, 45), .inl (0, 20), .inl (0, 20)]
def vs_fs (B : Nat) (f : Nat → Int32) : Nat → List (Option Nat) → List Value
  | _, [] => []
  | i, none :: r => .int (f i) :: vs_fs B f (i + 1) r
  | i, some o :: r => .ref (B + o) :: vs_fs B f (i + 1) r
def vs_rf (B : Nat) (f : Nat → Option Nat) : Nat → Option Nat := fun i => (f i).map (fun x => B + x)
def vs_den (c : Nat → ClassId) (B : Nat) (S : vs_S) (k : Nat) : vs_D → va_E
  | .inl (0, N) => .inl (c 0, N, .inl (S.2.1 k))
  | .inl (1, N) => .inl (c 1, N, .inr (.inl (S.2.2.1 k)))
  | .inl (t, N) => .inl (c t, N, .inr (.inr (.inr (.inr (vs_rf B (S.2.2.2 k))))))
  | .inr (ci, fds) => .inr (ci, vs_fs B (S.1 k) 0 fds)
def vs_lay (G : vv_G) (S : vs_S) : vv_H := fun a => if a < G.2.2.2 then none else (vs_T[a - G.2.2.2]?).map (vs_den G.2.2.1 G.2.2.2 S (a - G.2.2.2))
def vs_u2 {α : Type} (f : Nat → Nat → α) (a : Nat) (g : Nat → α) : Nat → Nat → α := fun b => if b = a then g else f b
def vs_sc (S : vs_S) (o k : Nat) (v : Int32) : vs_S := (vs_u2 S.1 o (upd (S.1 o) k v), S.2)
def vs_ia (S : vs_S) (o : Nat) (f : Nat → Int32) : vs_S := (S.1, vs_u2 S.2.1 o f, S.2.2)
def vs_la (S : vs_S) (o : Nat) (f : Nat → Int64) : vs_S := (S.1, S.2.1, vs_u2 S.2.2.1 o f, S.2.2.2)
def vs_ra (S : vs_S) (o : Nat) (f : Nat → Option Nat) : vs_S := (S.1, S.2.1, S.2.2.1, vs_u2 S.2.2.2 o f)
theorem vs_u2_s {α : Type} {f : Nat → Nat → α} {a : Nat} {g : Nat → α} : vs_u2 f a g a = g := if_pos rfl
theorem vs_u2_n {α : Type} {f : Nat → Nat → α} {a b : Nat} {g : Nat → α} (h : b ≠ a) : vs_u2 f a g b = f b := if_neg h
theorem vs_u2_u {α : Type} {f : Nat → Nat → α} {a : Nat} {g g' : Nat → α} : vs_u2 (vs_u2 f a g) a g' = vs_u2 f a g' := by
  funext b
  unfold vs_u2
  by_cases h : b = a <;> simp [h]
theorem vs_u2_self {α : Type} {f : Nat → Nat → α} {a : Nat} : vs_u2 f a (f a) = f := by
  funext b
  unfold vs_u2
  by_cases h : b = a
  · rw [if_pos h, h]
  · rw [if_neg h]
theorem vs_u2_c {α : Type} {f : Nat → Nat → α} {a b : Nat} {g g' : Nat → α} (h : a ≠ b) : vs_u2 (vs_u2 f a g) b g' = vs_u2 (vs_u2 f b g') a g := by
  funext x
  unfold vs_u2
  by_cases h1 : x = a <;> by_cases h2 : x = b <;> simp [h1, h2]
  · subst h1; exact absurd h2 h
  · intro e; exact absurd e h
  · intro e; exact absurd e.symm h
theorem vs_lay_at {G : vv_G} {S : vs_S} {o : Nat} {d : vs_D} (hT : vs_T[o]? = some d) : vs_lay G S (G.2.2.2 + o) = some (vs_den G.2.2.1 G.2.2.2 S o d) := by
  unfold vs_lay
  rw [if_neg (by omega), Nat.add_sub_cancel_left, hT]
  rfl
/-- two states that agree but at one cell -/
theorem vs_lay_up {G : vv_G} {S S' : vs_S} {o : Nat} {d : vs_D} {e : va_E} (hT : vs_T[o]? = some d) (he : vs_den G.2.2.1 G.2.2.2 S' o d = e) (hk : ∀ (k : Nat) (d' : vs_D), k ≠ o → vs_den G.2.2.1 G.2.2.2 S' k d' = vs_den G.2.2.1 G.2.2.2 S k d') : vv_up (vs_lay G S) (G.2.2.2 + o) e = vs_lay G S' := by
  funext a
  unfold vv_up
  by_cases h1 : a = G.2.2.2 + o
  · subst h1
    rw [if_pos rfl, vs_lay_at hT, he]
  · rw [if_neg h1]
    unfold vs_lay
    by_cases h2 : a < G.2.2.2
    · rw [if_pos h2, if_pos h2]
    · rw [if_neg h2, if_neg h2]
      cases hd : vs_T[a - G.2.2.2]? with
      | none => rfl
      | some d' =>
        simp only [Option.map_some]
        rw [hk (a - G.2.2.2) d' (by omega)]
theorem vs_den_k {c : Nat → ClassId} {B : Nat} {S S' : vs_S} {k : Nat} (h1 : S'.1 k = S.1 k) (h2 : S'.2.1 k = S.2.1 k) (h3 : S'.2.2.1 k = S.2.2.1 k) (h4 : S'.2.2.2 k = S.2.2.2 k) (d : vs_D) : vs_den c B S' k d = vs_den c B S k d := by
  unfold vs_den
  split <;> simp only [h1, h2, h3, h4]
theorem vs_fs_set {B : Nat} {f : Nat → Int32} {v : Int32} : ∀ (fds : List (Option Nat)) (i k : Nat), fds[k]? = some none → (vs_fs B f i fds).set k (.int v) = vs_fs B (upd f (i + k) v) i fds
  | [], i, k, h => by simp at h
  | none :: r, i, 0, h => by
    have e : ∀ (r : List (Option Nat)) (j : Nat), i < j → vs_fs B (upd f (i + 0) v) j r = vs_fs B f j r := by
      intro r
      induction r with
      | nil => intro j _; rfl
      | cons x r ih =>
        intro j hj
        cases x with
        | none =>
          show Value.int (upd f (i + 0) v j) :: vs_fs B (upd f (i + 0) v) (j + 1) r = _
          rw [ih (j + 1) (by omega)]
          simp [upd, show ¬ j = i by omega, vs_fs]
        | some o =>
          show Value.ref (B + o) :: vs_fs B (upd f (i + 0) v) (j + 1) r = _
          rw [ih (j + 1) (by omega)]
          rfl
    show Value.int v :: vs_fs B f (i + 1) r = Value.int (upd f (i + 0) v i) :: vs_fs B (upd f (i + 0) v) (i + 1) r
    rw [e r (i + 1) (by omega)]
    simp [upd]
  | none :: r, i, k + 1, h => by
    show Value.int (f i) :: (vs_fs B f (i + 1) r).set k (.int v) = Value.int (upd f (i + (k + 1)) v i) :: vs_fs B (upd f (i + (k + 1)) v) (i + 1) r
    rw [vs_fs_set r (i + 1) k (by simpa using h), show i + 1 + k = i + (k + 1) by omega]
    simp [upd]
  | some o :: r, i, 0, h => by simp at h
  | some o :: r, i, k + 1, h => by
    show Value.ref (B + o) :: (vs_fs B f (i + 1) r).set k (.int v) = Value.ref (B + o) :: vs_fs B (upd f (i + (k + 1)) v) (i + 1) r
    rw [vs_fs_set r (i + 1) k (by simpa using h), show i + 1 + k = i + (k + 1) by omega]
theorem vs_fs_len {B : Nat} {f : Nat → Int32} : ∀ (fds : List (Option Nat)) (i : Nat), (vs_fs B f i fds).length = fds.length
  | [], _ => rfl
  | none :: r, i => by show (vs_fs B f (i + 1) r).length + 1 = _; rw [vs_fs_len r]; rfl
  | some _ :: r, i => by show (vs_fs B f (i + 1) r).length + 1 = _; rw [vs_fs_len r]; rfl
theorem vs_lay_sc {G : vv_G} {S : vs_S} {o k ci : Nat} {fds : List (Option Nat)} {v : Int32} (hT : vs_T[o]? = some (.inr (ci, fds))) (hk : fds[k]? = some none) : vv_up (vs_lay G S) (G.2.2.2 + o) (.inr (ci, (vs_fs G.2.2.2 (S.1 o) 0 fds).set k (.int v))) = vs_lay G (vs_sc S o k v) := by
  refine vs_lay_up hT ?_ (fun j d' hj => vs_den_k (S := S) (S' := vs_sc S o k v) (vs_u2_n hj) rfl rfl rfl d')
  show Sum.inr (ci, vs_fs _ (vs_u2 S.1 o (upd (S.1 o) k v) o) 0 fds) = _
  rw [vs_u2_s, vs_fs_set fds 0 k hk, Nat.zero_add]
theorem vs_lay_ia {G : vv_G} {S : vs_S} {o N : Nat} {f : Nat → Int32} (hT : vs_T[o]? = some (.inl (0, N))) : vv_up (vs_lay G S) (G.2.2.2 + o) (.inl (G.2.2.1 0, N, .inl f)) = vs_lay G (vs_ia S o f) := by
  refine vs_lay_up hT ?_ (fun j d' hj => vs_den_k (S := S) (S' := vs_ia S o f) rfl (vs_u2_n hj) rfl rfl d')
  show Sum.inl (_, N, Sum.inl (vs_u2 S.2.1 o f o)) = _
  rw [vs_u2_s]
theorem vs_lay_la {G : vv_G} {S : vs_S} {o N : Nat} {f : Nat → Int64} (hT : vs_T[o]? = some (.inl (1, N))) : vv_up (vs_lay G S) (G.2.2.2 + o) (.inl (G.2.2.1 1, N, .inr (.inl f))) = vs_lay G (vs_la S o f) := by
  refine vs_lay_up hT ?_ (fun j d' hj => vs_den_k (S := S) (S' := vs_la S o f) rfl rfl (vs_u2_n hj) rfl d')
  show Sum.inl (_, N, Sum.inr (Sum.inl (vs_u2 S.2.2.1 o f o))) = _
  rw [vs_u2_s]
/-- a contract over the system's state -/
def vs_C (G : vv_G) (y : MethodName) (cc : ByteArray) (maxL : Nat) (ret : Option FieldType) (rm : Room) (av : List Value) (S : vs_S) (r : Option Value) (S' : vs_S) : Prop := vv_C G y cc maxL ret rm av (G.2.2.2 + 146) (vs_lay G S) r (G.2.2.2 + 146) (vs_lay G S')
def vs_V (G : vv_G) (cc : ByteArray) (M : vv_M) (pc : Nat) (L : List (Nat × Value)) (st : List Value) (S : vs_S) : Prop := vv_V G cc M 0 0 pc L st (G.2.2.2 + 146) (vs_lay G S)
section VSR
variable {G : vv_G} {cc : ByteArray} {M : vv_M} {pc q : Nat} {L : List (Nat × Value)} {st : List Value} {S : vs_S}
theorem vs_eq {S2 : vs_S} (e : S = S2) (k : vs_V G cc M pc L st S2) : vs_V G cc M pc L st S := e ▸ k
theorem vs_pick {L2 : List (Nat × Value)} (ks : List Nat) (hs : lv_pick L ks = L2) (k : vs_V G cc M pc L2 st S) : vs_V G cc M pc L st S := vv_pick ks hs k
theorem vs_topi {x : Int32} (k : ∀ y : Int32, y = x → vs_V G cc M pc L (.int y :: st) S) : vs_V G cc M pc L (.int x :: st) S := k x rfl
theorem vs_topl {x : Int64} (k : ∀ y : Int64, y = x → vs_V G cc M pc L (.long y :: st) S) : vs_V G cc M pc L (.long x :: st) S := k x rfl
theorem vs_get {o ci k i : Nat} {fds : List (Option Nat)} {v : Value} {ty : FieldType} {fin : Bool} (hf : vv_LF M.1 i ci k ty fin) (hT : vs_T[o]? = some (.inr (ci, fds))) (hv : (vs_fs G.2.2.2 (S.1 o) 0 fds)[k]? = some v) (hd : decode cc pc = .ok (.getfield i, 3)) (hq : pc + 3 = q) (kk : vs_V G cc M q L (v :: st) S) : vs_V G cc M pc L (.ref (G.2.2.2 + o) :: st) S := vv_get hf (vs_lay_at hT) hv hd hq kk
theorem vs_put {o ci k i : Nat} {fds : List (Option Nat)} {v : Int32} {ty : FieldType} (hf : vv_LF M.1 i ci k ty false) (hT : vs_T[o]? = some (.inr (ci, fds))) (hk : fds[k]? = some none) (hn : narrow ty (.int v) = .int v) (hfit : fits ty (.int v) = true) (hd : decode cc pc = .ok (.putfield i, 3)) (hq : pc + 3 = q) (kk : vs_V G cc M q L st (vs_sc S o k v)) : vs_V G cc M pc L (.int v :: .ref (G.2.2.2 + o) :: st) S := by
  refine vv_put (fs := vs_fs G.2.2.2 (S.1 o) 0 fds) hf (vs_lay_at hT) hn hfit ?_ hd hq ?_
  · rw [vs_fs_len]
    exact Nat.ble_eq_true_of_le (List.getElem?_eq_some_iff.mp hk).1
  · rw [vs_lay_sc hT hk]
    exact kk
theorem vs_iald {o k N : Nat} {i : Int32} (hT : vs_T[o]? = some (.inl (0, N))) (hi : i = nI k) (hk : k < N) (hN : Nat.blt N 2147483648 = true) (hd : decode cc pc = .ok (.iaload, 1)) (hq : pc + 1 = q) (kk : vs_V G cc M q L (.int (S.2.1 o k) :: st) S) : vs_V G cc M pc L (.int i :: .ref (G.2.2.2 + o) :: st) S := vv_iald (vs_lay_at hT) hi hk hN hd hq kk
theorem vs_lald {o k N : Nat} {i : Int32} (hT : vs_T[o]? = some (.inl (1, N))) (hi : i = nI k) (hk : k < N) (hN : Nat.blt N 2147483648 = true) (hd : decode cc pc = .ok (.laload, 1)) (hq : pc + 1 = q) (kk : vs_V G cc M q L (.long (S.2.2.1 o k) :: st) S) : vs_V G cc M pc L (.int i :: .ref (G.2.2.2 + o) :: st) S := vv_lald (vs_lay_at hT) hi hk hN hd hq kk
theorem vs_iast {o k N : Nat} {i x : Int32} (hT : vs_T[o]? = some (.inl (0, N))) (hi : i = nI k) (hk : k < N) (hN : Nat.blt N 2147483648 = true) (hd : decode cc pc = .ok (.iastore, 1)) (hq : pc + 1 = q) (kk : vs_V G cc M q L st (vs_ia S o (upd (S.2.1 o) k x))) : vs_V G cc M pc L (.int x :: .int i :: .ref (G.2.2.2 + o) :: st) S := by
  refine vv_iast (vs_lay_at hT) hi hk hN hd hq ?_
  rw [vs_lay_ia hT]
  exact kk
theorem vs_last {o k N : Nat} {i : Int32} {x : Int64} (hT : vs_T[o]? = some (.inl (1, N))) (hi : i = nI k) (hk : k < N) (hN : Nat.blt N 2147483648 = true) (hd : decode cc pc = .ok (.lastore, 1)) (hq : pc + 1 = q) (kk : vs_V G cc M q L st (vs_la S o (vp_updL (S.2.2.1 o) k x))) : vs_V G cc M pc L (.long x :: .int i :: .ref (G.2.2.2 + o) :: st) S := by
  refine vv_last (vs_lay_at hT) hi hk hN hd hq ?_
  rw [vs_lay_la hT]
  exact kk
theorem vs_aald {o k N t : Nat} {i : Int32} {ty : FieldType} {a : Nat} (hT : vs_T[o]? = some (.inl (t + 2, N))) (ht : (vv_ty G.2.2.1)[t + 2]? = some (G.2.2.1 (t + 2), ty)) (hrf : ty.isReference = true) (hi : i = nI k) (hk : k < N) (hN : Nat.blt N 2147483648 = true) (ha : S.2.2.2 o k = some a) (hd : decode cc pc = .ok (.aaload, 1)) (hq : pc + 1 = q) (kk : vs_V G cc M q L (.ref (G.2.2.2 + a) :: st) S) : vs_V G cc M pc L (.int i :: .ref (G.2.2.2 + o) :: st) S := by
  refine vv_aald ht hrf (vs_lay_at hT) hi hk hN hd hq ?_
  show vv_V G cc M 0 0 q L (va_rf ((S.2.2.2 o k).map _) :: st) _ _
  rw [ha]
  exact kk
theorem vs_alen {o N : Nat} (hT : vs_T[o]? = some (.inl (0, N))) (hd : decode cc pc = .ok (.arraylength, 1)) (hq : pc + 1 = q) (kk : vs_V G cc M q L (.int (nI N) :: st) S) : vs_V G cc M pc L (.ref (G.2.2.2 + o) :: st) S := vv_alen (vs_lay_at hT) hd hq kk
theorem vs_alenL {o N : Nat} (hT : vs_T[o]? = some (.inl (1, N))) (hd : decode cc pc = .ok (.arraylength, 1)) (hq : pc + 1 = q) (kk : vs_V G cc M q L (.int (nI N) :: st) S) : vs_V G cc M pc L (.ref (G.2.2.2 + o) :: st) S := vv_alenL (vs_lay_at hT) hd hq kk
theorem vs_callV {y : MethodName} {bytes : ByteArray} {maxL : Nat} {ret : Option FieldType} {rm : Room} {As : List Value} {o ci i k : Nat} {fds : List (Option Nat)} {r : Option Value} {S' : vs_S} {T : u_T} {N : Nat} {stk : List Value} (hc : vs_C G y bytes maxL ret rm (.ref (G.2.2.2 + o) :: As) S r S') (hlk : vv_LK M.1 i y) (hy : vv_LV y bytes maxL ret k) (hcl : vv_cl[ci]? = some (y.cls, T, N)) (hT : vs_T[o]? = some (.inr (ci, fds))) (hn : As.length = k) (hst : stk = As.reverse ++ .ref (G.2.2.2 + o) :: st) (hW : (st.map fun v => v.category).sum ≤ 8) (hR : vv_rm rm maxL M.2.2.2.2.1 = true) (h0 : rm.cells = 0 ∧ rm.slots = 0) (hd : decode cc pc = .ok (.invokevirtual i, 3)) (hq : pc + 3 = q) (kk : vs_V G cc M q L (r.toList ++ st) S') : vs_V G cc M pc L stk S :=
  vv_callV (c2 := 0) (s2 := 0) hlk hy hc hcl (vs_lay_at hT) hn hst hW hR hd hq (by rw [h0.1]) (by rw [h0.2]) (Nat.ble_eq_true_of_le (Nat.zero_le _)) (Nat.ble_eq_true_of_le (Nat.zero_le _)) kk
theorem vs_callS {y : MethodName} {bytes : ByteArray} {maxL : Nat} {ret : Option FieldType} {rm : Room} {As : List Value} {i k : Nat} {r : Option Value} {S' : vs_S} {stk : List Value} (hc : vs_C G y bytes maxL ret rm As S r S') (hlk : vv_LK M.1 i y) (hy : vv_LS y bytes maxL ret k) (hn : As.length = k) (hst : stk = As.reverse ++ st) (hW : (st.map fun v => v.category).sum ≤ 8) (hR : vv_rm rm maxL M.2.2.2.2.1 = true) (h0 : rm.cells = 0 ∧ rm.slots = 0) (hd : decode cc pc = .ok (.invokestatic i, 3)) (hq : pc + 3 = q) (kk : vs_V G cc M q L (r.toList ++ st) S') : vs_V G cc M pc L stk S :=
  vv_callS (c2 := 0) (s2 := 0) hlk hy hc hn hst hW hR hd hq (by rw [h0.1]) (by rw [h0.2]) (Nat.ble_eq_true_of_le (Nat.zero_le _)) (Nat.ble_eq_true_of_le (Nat.zero_le _)) kk
end VSR
def vs_M (y : MethodName) (maxL : Nat) (ret : Option FieldType) (rm : Room) (G : vv_G) (r : Option Value) (S' : vs_S) : vv_M := (y.cls, maxL, ret, y.name, rm, fun _ => True, vv_Q G r (G.2.2.2 + 146) (vs_lay G S') 0 0)
theorem vs_of {G : vv_G} {y : MethodName} {cc : ByteArray} {maxL : Nat} {ret : Option FieldType} {fr lo : Nat} {av : List Value} {S : vs_S} {r : Option Value} {S' : vs_S} (L : List (Nat × Value)) (hy : plainName y.cls = true) (hl : lv_args 0 av = L) (hs : Nat.ble (lg_sl av).length maxL = true)
    (k : vs_V G cc (vs_M y maxL ret { frames := fr, locals := lo } G r S') 0 L [] S) : vs_C G y cc maxL ret { frames := fr, locals := lo } av S r S' := vv_of L hy hl hs k
section VSE
variable {G : vv_G} {cc : ByteArray} {pc q : Nat} {L : List (Nat × Value)} {S S' : vs_S} {y : MethodName} {maxL : Nat} {rm : Room} {r : Option Value}
theorem vs_iret {v : Int32} (hd : decode cc pc = .ok (.ireturn, 1)) (hr : r = some (.int v)) (hh : S = S') : vs_V G cc (vs_M y maxL (some .int) rm G r S') pc L [.int v] S := vv_iret hd hr rfl (by rw [hh])
theorem vs_zret {v : Int32} (hd : decode cc pc = .ok (.ireturn, 1)) (hv : v = 0 ∨ v = 1) (hr : r = some (.int v)) (hh : S = S') : vs_V G cc (vs_M y maxL (some .boolean) rm G r S') pc L [.int v] S := vv_zret hd hv hr rfl (by rw [hh])
theorem vs_lret {v : Int64} (hd : decode cc pc = .ok (.lreturn, 1)) (hr : r = some (.long v)) (hh : S = S') : vs_V G cc (vs_M y maxL (some .long) rm G r S') pc L [.long v] S := vv_lret hd hr rfl (by rw [hh])
theorem vs_aret {C : String} {v : Value} (hd : decode cc pc = .ok (.areturn, 1)) (hv : v = .null ∨ ∃ a, v = .ref a) (hr : r = some v) (hh : S = S') : vs_V G cc (vs_M y maxL (some (.object C)) rm G r S') pc L [v] S := vv_aret hd hv hr rfl (by rw [hh])
theorem vs_vret (hd : decode cc pc = .ok (.return_, 1)) (hr : r = none) (hh : S = S') : vs_V G cc (vs_M y maxL none rm G r S') pc L [] S := vv_vret hd hr rfl (by rw [hh])
end VSE
section VST
variable {G : vv_G} {cc : ByteArray} {M : vv_M} {pc q : Nat} {L : List (Nat × Value)} {st : List Value} {S : vs_S}
theorem vs_iconst {i : Int} {v : Int32} (hd : decode cc pc = .ok (.iconst i, 1)) (hq : pc + 1 = q) (hv : Int32.ofInt i = v) (k : vs_V G cc M q L (.int v :: st) S) : vs_V G cc M pc L (st) S := vv_iconst hd hq hv k
theorem vs_bipush {i : Int} {v : Int32} (hd : decode cc pc = .ok (.bipush i, 2)) (hq : pc + 2 = q) (hv : (Int8.ofInt i).toInt32 = v) (k : vs_V G cc M q L (.int v :: st) S) : vs_V G cc M pc L (st) S := vv_bipush hd hq hv k
theorem vs_sipush {i : Int} {v : Int32} (hd : decode cc pc = .ok (.sipush i, 3)) (hq : pc + 3 = q) (hv : (Int16.ofInt i).toInt32 = v) (k : vs_V G cc M q L (.int v :: st) S) : vs_V G cc M pc L (st) S := vv_sipush hd hq hv k
theorem vs_lconst {i : Fin 2} {v : Int64} (hd : decode cc pc = .ok (.lconst i, 1)) (hq : pc + 1 = q) (hv : Int64.ofNat (i : Nat) = v) (k : vs_V G cc M q L (.long v :: st) S) : vs_V G cc M pc L (st) S := vv_lconst hd hq hv k
theorem vs_null  (hd : decode cc pc = .ok (.aconst_null, 1)) (hq : pc + 1 = q) (k : vs_V G cc M q L (.null :: st) S) : vs_V G cc M pc L (st) S := vv_null hd hq k
theorem vs_iadd {x y : Int32} (hd : decode cc pc = .ok (.iadd, 1)) (hq : pc + 1 = q) (k : vs_V G cc M q L (.int (x + y) :: st) S) : vs_V G cc M pc L (.int y :: .int x :: st) S := vv_iadd hd hq k
theorem vs_isub {x y : Int32} (hd : decode cc pc = .ok (.isub, 1)) (hq : pc + 1 = q) (k : vs_V G cc M q L (.int (x - y) :: st) S) : vs_V G cc M pc L (.int y :: .int x :: st) S := vv_isub hd hq k
theorem vs_imul {x y : Int32} (hd : decode cc pc = .ok (.imul, 1)) (hq : pc + 1 = q) (k : vs_V G cc M q L (.int (x * y) :: st) S) : vs_V G cc M pc L (.int y :: .int x :: st) S := vv_imul hd hq k
theorem vs_iand {x y : Int32} (hd : decode cc pc = .ok (.iand, 1)) (hq : pc + 1 = q) (k : vs_V G cc M q L (.int (x &&& y) :: st) S) : vs_V G cc M pc L (.int y :: .int x :: st) S := vv_iand hd hq k
theorem vs_ishr {x y : Int32} (hd : decode cc pc = .ok (.ishr, 1)) (hq : pc + 1 = q) (k : vs_V G cc M q L (.int (x >>> (y &&& 31)) :: st) S) : vs_V G cc M pc L (.int y :: .int x :: st) S := vv_ishr hd hq k
theorem vs_irem {x y : Int32} (hd : decode cc pc = .ok (.irem, 1)) (hq : pc + 1 = q) (hne : ¬ y = 0) (k : vs_V G cc M q L (.int (x - x / y * y) :: st) S) : vs_V G cc M pc L (.int y :: .int x :: st) S := vv_irem hd hq hne k
theorem vs_ladd {x y : Int64} (hd : decode cc pc = .ok (.ladd, 1)) (hq : pc + 1 = q) (k : vs_V G cc M q L (.long (x + y) :: st) S) : vs_V G cc M pc L (.long y :: .long x :: st) S := vv_ladd hd hq k
theorem vs_lsub {x y : Int64} (hd : decode cc pc = .ok (.lsub, 1)) (hq : pc + 1 = q) (k : vs_V G cc M q L (.long (x - y) :: st) S) : vs_V G cc M pc L (.long y :: .long x :: st) S := vv_lsub hd hq k
theorem vs_lmul {x y : Int64} (hd : decode cc pc = .ok (.lmul, 1)) (hq : pc + 1 = q) (k : vs_V G cc M q L (.long (x * y) :: st) S) : vs_V G cc M pc L (.long y :: .long x :: st) S := vv_lmul hd hq k
theorem vs_land {x y : Int64} (hd : decode cc pc = .ok (.land, 1)) (hq : pc + 1 = q) (k : vs_V G cc M q L (.long (x &&& y) :: st) S) : vs_V G cc M pc L (.long y :: .long x :: st) S := vv_land hd hq k
theorem vs_lor {x y : Int64} (hd : decode cc pc = .ok (.lor, 1)) (hq : pc + 1 = q) (k : vs_V G cc M q L (.long (x ||| y) :: st) S) : vs_V G cc M pc L (.long y :: .long x :: st) S := vv_lor hd hq k
theorem vs_lrem {x y : Int64} (hd : decode cc pc = .ok (.lrem, 1)) (hq : pc + 1 = q) (hne : ¬ y = 0) (k : vs_V G cc M q L (.long (x - x / y * y) :: st) S) : vs_V G cc M pc L (.long y :: .long x :: st) S := vv_lrem hd hq hne k
theorem vs_ineg {x : Int32} (hd : decode cc pc = .ok (.ineg, 1)) (hq : pc + 1 = q) (k : vs_V G cc M q L (.int (-x) :: st) S) : vs_V G cc M pc L (.int x :: st) S := vv_ineg hd hq k
theorem vs_lneg {x : Int64} (hd : decode cc pc = .ok (.lneg, 1)) (hq : pc + 1 = q) (k : vs_V G cc M q L (.long (-x) :: st) S) : vs_V G cc M pc L (.long x :: st) S := vv_lneg hd hq k
theorem vs_lshl {x : Int64} {y : Int32} (hd : decode cc pc = .ok (.lshl, 1)) (hq : pc + 1 = q) (k : vs_V G cc M q L (.long (x <<< (y.toInt64 &&& 63)) :: st) S) : vs_V G cc M pc L (.int y :: .long x :: st) S := vv_lshl hd hq k
theorem vs_i2l {x : Int32} (hd : decode cc pc = .ok (.i2l, 1)) (hq : pc + 1 = q) (k : vs_V G cc M q L (.long x.toInt64 :: st) S) : vs_V G cc M pc L (.int x :: st) S := vv_i2l hd hq k
theorem vs_l2i {x : Int64} (hd : decode cc pc = .ok (.l2i, 1)) (hq : pc + 1 = q) (k : vs_V G cc M q L (.int x.toInt32 :: st) S) : vs_V G cc M pc L (.long x :: st) S := vv_l2i hd hq k
theorem vs_i2b {x : Int32} (hd : decode cc pc = .ok (.i2b, 1)) (hq : pc + 1 = q) (k : vs_V G cc M q L (.int x.toInt8.toInt32 :: st) S) : vs_V G cc M pc L (.int x :: st) S := vv_i2b hd hq k
theorem vs_i2s {x : Int32} (hd : decode cc pc = .ok (.i2s, 1)) (hq : pc + 1 = q) (k : vs_V G cc M q L (.int x.toInt16.toInt32 :: st) S) : vs_V G cc M pc L (.int x :: st) S := vv_i2s hd hq k
theorem vs_lcmp {x y : Int64} (hd : decode cc pc = .ok (.lcmp, 1)) (hq : pc + 1 = q) (k : vs_V G cc M q L (.int (lg_cmp x y) :: st) S) : vs_V G cc M pc L (.long y :: .long x :: st) S := vv_lcmp hd hq k
theorem vs_dup {v : Value} (hd : decode cc pc = .ok (.dup, 1)) (hq : pc + 1 = q) (hc : v.category = 1) (k : vs_V G cc M q L (v :: v :: st) S) : vs_V G cc M pc L (v :: st) S := vv_dup hd hq hc k
theorem vs_dup2 {va vb : Value} (hd : decode cc pc = .ok (.dup2, 1)) (hq : pc + 1 = q) (h1 : va.category = 1) (h2 : vb.category = 1) (k : vs_V G cc M q L (va :: vb :: va :: vb :: st) S) : vs_V G cc M pc L (va :: vb :: st) S := vv_dup2 hd hq h1 h2 k
theorem vs_iload_n {x : Int32} {k : Fin 4} (i : Nat) (hd : decode cc pc = .ok (.iload_n k, 1)) (hq : pc + 1 = q) (hi : (k : Nat) = i) (j : Nat) (hj : L[j]? = some (i, .int x)) (kk : vs_V G cc M q L (.int x :: st) S) : vs_V G cc M pc L st S := vv_iload_n i hd hq hi j hj kk
theorem vs_iload {x : Int32} {i : Nat} (hd : decode cc pc = .ok (.iload i, 2)) (hq : pc + 2 = q) (j : Nat) (hj : L[j]? = some (i, .int x)) (kk : vs_V G cc M q L (.int x :: st) S) : vs_V G cc M pc L st S := vv_iload hd hq j hj kk
theorem vs_lload_n {x : Int64} {k : Fin 4} (i : Nat) (hd : decode cc pc = .ok (.lload_n k, 1)) (hq : pc + 1 = q) (hi : (k : Nat) = i) (j : Nat) (hj : L[j]? = some (i, .long x)) (kk : vs_V G cc M q L (.long x :: st) S) : vs_V G cc M pc L st S := vv_lload_n i hd hq hi j hj kk
theorem vs_lload {x : Int64} {i : Nat} (hd : decode cc pc = .ok (.lload i, 2)) (hq : pc + 2 = q) (j : Nat) (hj : L[j]? = some (i, .long x)) (kk : vs_V G cc M q L (.long x :: st) S) : vs_V G cc M pc L st S := vv_lload hd hq j hj kk
theorem vs_aload_n {x : Nat} {k : Fin 4} (i : Nat) (hd : decode cc pc = .ok (.aload_n k, 1)) (hq : pc + 1 = q) (hi : (k : Nat) = i) (j : Nat) (hj : L[j]? = some (i, .ref x)) (kk : vs_V G cc M q L (.ref x :: st) S) : vs_V G cc M pc L st S := vv_aload_n i hd hq hi j hj kk
theorem vs_aload {x : Nat} {i : Nat} (hd : decode cc pc = .ok (.aload i, 2)) (hq : pc + 2 = q) (j : Nat) (hj : L[j]? = some (i, .ref x)) (kk : vs_V G cc M q L (.ref x :: st) S) : vs_V G cc M pc L st S := vv_aload hd hq j hj kk
theorem vs_aload_nN {k : Fin 4} (i : Nat) (hd : decode cc pc = .ok (.aload_n k, 1)) (hq : pc + 1 = q) (hi : (k : Nat) = i) (j : Nat) (hj : L[j]? = some (i, .null)) (kk : vs_V G cc M q L (.null :: st) S) : vs_V G cc M pc L st S := vv_aload_nN i hd hq hi j hj kk
theorem vs_aloadN {i : Nat} (hd : decode cc pc = .ok (.aload i, 2)) (hq : pc + 2 = q) (j : Nat) (hj : L[j]? = some (i, .null)) (kk : vs_V G cc M q L (.null :: st) S) : vs_V G cc M pc L st S := vv_aloadN hd hq j hj kk
theorem vs_istore_n {x : Int32} {k : Fin 4} (i : Nat) (L' : List (Nat × Value)) (hd : decode cc pc = .ok (.istore_n k, 1)) (hq : pc + 1 = q) (hi : (k : Nat) = i) (hn : Nat.blt (i) M.2.1 = true) (hl' : (i, ((.int x) : Value)) :: L.filter (fun x9 => !(x9.1 == i) && !(x9.1 + 1 == i && x9.2.category == 2)) = L') (kk : vs_V G cc M q L' st S) : vs_V G cc M pc L (.int x :: st) S := vv_istore_n i L' hd hq hi hn hl' kk
theorem vs_istore {x : Int32} {i : Nat} (L' : List (Nat × Value)) (hd : decode cc pc = .ok (.istore i, 2)) (hq : pc + 2 = q) (hn : Nat.blt (i) M.2.1 = true) (hl' : (i, ((.int x) : Value)) :: L.filter (fun x9 => !(x9.1 == i) && !(x9.1 + 1 == i && x9.2.category == 2)) = L') (kk : vs_V G cc M q L' st S) : vs_V G cc M pc L (.int x :: st) S := vv_istore L' hd hq hn hl' kk
theorem vs_lstore_n {x : Int64} {k : Fin 4} (i : Nat) (L' : List (Nat × Value)) (hd : decode cc pc = .ok (.lstore_n k, 1)) (hq : pc + 1 = q) (hi : (k : Nat) = i) (hn : Nat.blt (i + 1) M.2.1 = true) (hl' : (i, ((.long x) : Value)) :: L.filter (fun x9 => !(x9.1 == i) && (!(x9.1 == i + 1) && !(x9.1 + 1 == i && x9.2.category == 2))) = L') (kk : vs_V G cc M q L' st S) : vs_V G cc M pc L (.long x :: st) S := vv_lstore_n i L' hd hq hi hn hl' kk
theorem vs_lstore {x : Int64} {i : Nat} (L' : List (Nat × Value)) (hd : decode cc pc = .ok (.lstore i, 2)) (hq : pc + 2 = q) (hn : Nat.blt (i + 1) M.2.1 = true) (hl' : (i, ((.long x) : Value)) :: L.filter (fun x9 => !(x9.1 == i) && (!(x9.1 == i + 1) && !(x9.1 + 1 == i && x9.2.category == 2))) = L') (kk : vs_V G cc M q L' st S) : vs_V G cc M pc L (.long x :: st) S := vv_lstore L' hd hq hn hl' kk
theorem vs_astore_n {x : Nat} {k : Fin 4} (i : Nat) (L' : List (Nat × Value)) (hd : decode cc pc = .ok (.astore_n k, 1)) (hq : pc + 1 = q) (hi : (k : Nat) = i) (hn : Nat.blt (i) M.2.1 = true) (hl' : (i, ((.ref x) : Value)) :: L.filter (fun x9 => !(x9.1 == i) && !(x9.1 + 1 == i && x9.2.category == 2)) = L') (kk : vs_V G cc M q L' st S) : vs_V G cc M pc L (.ref x :: st) S := vv_astore_n i L' hd hq hi hn hl' kk
theorem vs_astore {x : Nat} {i : Nat} (L' : List (Nat × Value)) (hd : decode cc pc = .ok (.astore i, 2)) (hq : pc + 2 = q) (hn : Nat.blt (i) M.2.1 = true) (hl' : (i, ((.ref x) : Value)) :: L.filter (fun x9 => !(x9.1 == i) && !(x9.1 + 1 == i && x9.2.category == 2)) = L') (kk : vs_V G cc M q L' st S) : vs_V G cc M pc L (.ref x :: st) S := vv_astore L' hd hq hn hl' kk
theorem vs_astore_nN  {k : Fin 4} (i : Nat) (L' : List (Nat × Value)) (hd : decode cc pc = .ok (.astore_n k, 1)) (hq : pc + 1 = q) (hi : (k : Nat) = i) (hn : Nat.blt (i) M.2.1 = true) (hl' : (i, ((.null) : Value)) :: L.filter (fun x9 => !(x9.1 == i) && !(x9.1 + 1 == i && x9.2.category == 2)) = L') (kk : vs_V G cc M q L' st S) : vs_V G cc M pc L (.null :: st) S := vv_astore_nN i L' hd hq hi hn hl' kk
theorem vs_astoreN  {i : Nat} (L' : List (Nat × Value)) (hd : decode cc pc = .ok (.astore i, 2)) (hq : pc + 2 = q) (hn : Nat.blt (i) M.2.1 = true) (hl' : (i, ((.null) : Value)) :: L.filter (fun x9 => !(x9.1 == i) && !(x9.1 + 1 == i && x9.2.category == 2)) = L') (kk : vs_V G cc M q L' st S) : vs_V G cc M pc L (.null :: st) S := vv_astoreN L' hd hq hn hl' kk
theorem vs_iinc {x v : Int32} {i : Nat} {d : Int} (L' : List (Nat × Value)) (hd : decode cc pc = .ok (.iinc i d, 3)) (hq : pc + 3 = q) (j : Nat) (hj : L[j]? = some (i, .int x)) (hv : x + Int32.ofInt d = v) (hn : Nat.blt i M.2.1 = true) (hl' : (i, Value.int v) :: L.filter (fun x9 => !(x9.1 == i) && !(x9.1 + 1 == i && x9.2.category == 2)) = L') (kk : vs_V G cc M q L' st S) : vs_V G cc M pc L st S := vv_iinc L' hd hq j hj hv hn hl' kk
theorem vs_if_eq {x : Int32} {off : Int} (t : Nat) (hd : decode cc pc = .ok (.ifCond .eq off, 3)) (ht : (pc : Int) + off = (t : Int)) (hq : pc + 3 = q) (kt : x = 0 → vs_V G cc M t L st S) (kf : ¬ x = 0 → vs_V G cc M q L st S) : vs_V G cc M pc L (.int x :: st) S := vv_if_eq t hd ht hq kt kf
theorem vs_icmp_eq {x y : Int32} {off : Int} (t : Nat) (hd : decode cc pc = .ok (.if_icmp .eq off, 3)) (ht : (pc : Int) + off = (t : Int)) (hq : pc + 3 = q) (kt : x = y → vs_V G cc M t L st S) (kf : ¬ x = y → vs_V G cc M q L st S) : vs_V G cc M pc L (.int y :: .int x :: st) S := vv_icmp_eq t hd ht hq kt kf
theorem vs_if_ne {x : Int32} {off : Int} (t : Nat) (hd : decode cc pc = .ok (.ifCond .ne off, 3)) (ht : (pc : Int) + off = (t : Int)) (hq : pc + 3 = q) (kt : ¬ x = 0 → vs_V G cc M t L st S) (kf : x = 0 → vs_V G cc M q L st S) : vs_V G cc M pc L (.int x :: st) S := vv_if_ne t hd ht hq kt kf
theorem vs_icmp_ne {x y : Int32} {off : Int} (t : Nat) (hd : decode cc pc = .ok (.if_icmp .ne off, 3)) (ht : (pc : Int) + off = (t : Int)) (hq : pc + 3 = q) (kt : ¬ x = y → vs_V G cc M t L st S) (kf : x = y → vs_V G cc M q L st S) : vs_V G cc M pc L (.int y :: .int x :: st) S := vv_icmp_ne t hd ht hq kt kf
theorem vs_if_lt {x : Int32} {off : Int} (t : Nat) (hd : decode cc pc = .ok (.ifCond .lt off, 3)) (ht : (pc : Int) + off = (t : Int)) (hq : pc + 3 = q) (kt : x < 0 → vs_V G cc M t L st S) (kf : ¬ x < 0 → vs_V G cc M q L st S) : vs_V G cc M pc L (.int x :: st) S := vv_if_lt t hd ht hq kt kf
theorem vs_icmp_lt {x y : Int32} {off : Int} (t : Nat) (hd : decode cc pc = .ok (.if_icmp .lt off, 3)) (ht : (pc : Int) + off = (t : Int)) (hq : pc + 3 = q) (kt : x < y → vs_V G cc M t L st S) (kf : ¬ x < y → vs_V G cc M q L st S) : vs_V G cc M pc L (.int y :: .int x :: st) S := vv_icmp_lt t hd ht hq kt kf
theorem vs_if_ge {x : Int32} {off : Int} (t : Nat) (hd : decode cc pc = .ok (.ifCond .ge off, 3)) (ht : (pc : Int) + off = (t : Int)) (hq : pc + 3 = q) (kt : 0 ≤ x → vs_V G cc M t L st S) (kf : ¬ 0 ≤ x → vs_V G cc M q L st S) : vs_V G cc M pc L (.int x :: st) S := vv_if_ge t hd ht hq kt kf
theorem vs_icmp_ge {x y : Int32} {off : Int} (t : Nat) (hd : decode cc pc = .ok (.if_icmp .ge off, 3)) (ht : (pc : Int) + off = (t : Int)) (hq : pc + 3 = q) (kt : y ≤ x → vs_V G cc M t L st S) (kf : ¬ y ≤ x → vs_V G cc M q L st S) : vs_V G cc M pc L (.int y :: .int x :: st) S := vv_icmp_ge t hd ht hq kt kf
theorem vs_if_gt {x : Int32} {off : Int} (t : Nat) (hd : decode cc pc = .ok (.ifCond .gt off, 3)) (ht : (pc : Int) + off = (t : Int)) (hq : pc + 3 = q) (kt : 0 < x → vs_V G cc M t L st S) (kf : ¬ 0 < x → vs_V G cc M q L st S) : vs_V G cc M pc L (.int x :: st) S := vv_if_gt t hd ht hq kt kf
theorem vs_icmp_gt {x y : Int32} {off : Int} (t : Nat) (hd : decode cc pc = .ok (.if_icmp .gt off, 3)) (ht : (pc : Int) + off = (t : Int)) (hq : pc + 3 = q) (kt : y < x → vs_V G cc M t L st S) (kf : ¬ y < x → vs_V G cc M q L st S) : vs_V G cc M pc L (.int y :: .int x :: st) S := vv_icmp_gt t hd ht hq kt kf
theorem vs_if_le {x : Int32} {off : Int} (t : Nat) (hd : decode cc pc = .ok (.ifCond .le off, 3)) (ht : (pc : Int) + off = (t : Int)) (hq : pc + 3 = q) (kt : x ≤ 0 → vs_V G cc M t L st S) (kf : ¬ x ≤ 0 → vs_V G cc M q L st S) : vs_V G cc M pc L (.int x :: st) S := vv_if_le t hd ht hq kt kf
theorem vs_icmp_le {x y : Int32} {off : Int} (t : Nat) (hd : decode cc pc = .ok (.if_icmp .le off, 3)) (ht : (pc : Int) + off = (t : Int)) (hq : pc + 3 = q) (kt : x ≤ y → vs_V G cc M t L st S) (kf : ¬ x ≤ y → vs_V G cc M q L st S) : vs_V G cc M pc L (.int y :: .int x :: st) S := vv_icmp_le t hd ht hq kt kf
theorem vs_goto {off : Int} (t : Nat) (hd : decode cc pc = .ok (.goto off, 3)) (ht : (pc : Int) + off = (t : Int)) (k : vs_V G cc M t L st S) : vs_V G cc M pc L st S := vv_goto t hd ht k
theorem vs_ifnonnull {x : Nat} {off : Int} (t : Nat) (hd : decode cc pc = .ok (.ifnonnull off, 3)) (ht : (pc : Int) + off = (t : Int)) (k : vs_V G cc M t L st S) : vs_V G cc M pc L (.ref x :: st) S := vv_ifnonnull t hd ht k
theorem vs_ifnonnullN {off : Int} (hd : decode cc pc = .ok (.ifnonnull off, 3)) (hq : pc + 3 = q) (k : vs_V G cc M q L st S) : vs_V G cc M pc L (.null :: st) S := vv_ifnonnullN hd hq k
theorem vs_ifnull {x : Nat} {off : Int} (hd : decode cc pc = .ok (.ifnull off, 3)) (hq : pc + 3 = q) (k : vs_V G cc M q L st S) : vs_V G cc M pc L (.ref x :: st) S := vv_ifnull hd hq k
theorem vs_ifnullN {off : Int} (t : Nat) (hd : decode cc pc = .ok (.ifnull off, 3)) (ht : (pc : Int) + off = (t : Int)) (k : vs_V G cc M t L st S) : vs_V G cc M pc L (.null :: st) S := vv_ifnullN t hd ht k
theorem vs_tabIn {dflt lo hi : Int} {offs : Array Int} {len : Nat} {x : Int32} {off : Int} (t : Nat) (hd : decode cc pc = .ok (.tableswitch dflt lo hi offs, len)) (h1 : ¬ x.toInt < lo) (h2 : ¬ hi < x.toInt) (ho : offs[(x.toInt - lo).toNat]? = some off) (ht : (pc : Int) + off = (t : Int)) (k : vs_V G cc M t L st S) : vs_V G cc M pc L (.int x :: st) S := vv_tabIn t hd h1 h2 ho ht k
theorem vs_tabOut {dflt lo hi : Int} {offs : Array Int} {len : Nat} {x : Int32} (t : Nat) (hd : decode cc pc = .ok (.tableswitch dflt lo hi offs, len)) (h1 : x.toInt < lo ∨ hi < x.toInt) (ht : (pc : Int) + dflt = (t : Int)) (k : vs_V G cc M t L st S) : vs_V G cc M pc L (.int x :: st) S := vv_tabOut t hd h1 ht k
theorem vs_ldc2 {i : Nat} {v : Int64} (hw : Cond.constantLong M.1 i v ∈ vv_gd) (hd : decode cc pc = .ok (.ldc2_w i, 3)) (hq : pc + 3 = q) (k : vs_V G cc M q L (.long v :: st) S) : vs_V G cc M pc L st S := vv_ldc2 hw hd hq k
end VST
end
section
theorem fa_lit (n : Nat) : (OfNat.ofNat n : Int32) = nI n := rfl
theorem fa_litL (n : Nat) : (OfNat.ofNat n : Int64) = lN n := rfl
theorem fa_lt (a b : Int32) : a < b ↔ a.toInt < b.toInt := Int32.lt_iff_toInt_lt
theorem fa_le (a b : Int32) : a ≤ b ↔ a.toInt ≤ b.toInt := Int32.le_iff_toInt_le
theorem fb_lt (a b : Int64) : a < b ↔ a.toInt < b.toInt := Int64.lt_iff_toInt_lt
theorem fb_le (a b : Int64) : a ≤ b ↔ a.toInt ≤ b.toInt := Int64.le_iff_toInt_le
/-- the residue of a number -/
def nn_m (v : Int) (P : Nat) : Nat := (v % (P : Int)).toNat
theorem nn_m_lt {v : Int} {P : Nat} (h0 : 0 < P) : nn_m v P < P := by
  have h1 := Int.emod_lt_of_pos v (show (0 : Int) < P by omega)
  have h2 := Int.emod_nonneg v (show (P : Int) ≠ 0 by omega)
  unfold nn_m
  omega
theorem nn_m_int {v : Int} {P : Nat} (h0 : 0 < P) : ((nn_m v P : Nat) : Int) = v % (P : Int) := by
  have h2 := Int.emod_nonneg v (show (P : Int) ≠ 0 by omega)
  unfold nn_m
  omega
theorem nn_m_nat (a P : Nat) : nn_m (a : Int) P = a % P := by
  unfold nn_m
  rw [← Int.natCast_emod]
  rfl
theorem nn_bmod {x : Int} (h1 : -9223372036854775808 ≤ x) (h2 : x < 9223372036854775808) : x.bmod (2 ^ 64) = x := by
  refine Int.bmod_eq_of_le ?_ ?_ <;> omega
theorem nn_bmod32 {x : Int} (h1 : -2147483648 ≤ x) (h2 : x < 2147483648) : x.bmod (2 ^ 32) = x := by
  refine Int.bmod_eq_of_le ?_ ?_ <;> omega
theorem nn_rem (v : Int64) {P : Nat} (h0 : 0 < P) (hP : P < 2 ^ 31) : (v - v / lN P * lN P).toInt = v.toInt.tmod P := by
  have hne : lN P ≠ -1 := fun e => by
    have := congrArg Int64.toInt e
    rw [lN_toInt hP] at this
    have h3 : (-1 : Int64).toInt = -1 := rfl
    omega
  have e : (v / lN P).toInt = v.toInt.tdiv P := by rw [Int64.toInt_div_of_ne_right _ _ hne, lN_toInt hP]
  have h1 : v.toInt - v.toInt.tdiv P * P = v.toInt.tmod P := by rw [Int.tmod_def, Int.mul_comm]
  have h2 := Int.tmod_lt_of_pos v.toInt (show (0 : Int) < P by omega)
  have h3 := Int.lt_tmod_of_pos v.toInt (show (0 : Int) < P by omega)
  rw [Int64.toInt_sub, Int64.toInt_mul, e, lN_toInt hP, Int.sub_bmod_bmod, h1]
  exact nn_bmod (by omega) (by omega)
theorem nn_ne0 {P : Nat} (h0 : 0 < P) (hP : P < 2 ^ 31) : ¬ (nI P).toInt64 = 0 := fun e => by
  rw [nI_l hP] at e
  have := congrArg Int64.toInt e
  rw [lN_toInt hP] at this
  have h3 : (0 : Int64).toInt = 0 := rfl
  omega
theorem nn_tmod_neg {v : Int} {P : Nat} (h0 : 0 < P) (h : v.tmod P < 0) : v.tmod P + P = v % P := by
  have h3 := Int.lt_tmod_of_pos v (show (0 : Int) < P by omega)
  have h1 : (v.tmod P + P) % P = v % P := by
    rw [Int.add_emod_right]
    have e := Int.tmod_def v P
    rw [e, Int.sub_mul_emod_self_left]
  rw [← h1]
  exact (Int.emod_eq_of_lt (by omega) (by omega)).symm
theorem nn_tmod_pos {v : Int} {P : Nat} (h0 : 0 < P) (h : 0 ≤ v.tmod P) : v.tmod P = v % P := by
  have h2 := Int.tmod_lt_of_pos v (show (0 : Int) < P by omega)
  have h1 : (v.tmod P) % P = v % P := by
    have e := Int.tmod_def v P
    rw [e, Int.sub_mul_emod_self_left]
  rw [← h1]
  exact (Int.emod_eq_of_lt h h2).symm
/-- what both sides do to a long: the residue -/
theorem nn_restN {v r : Int64} {P : Nat} (h0 : 0 < P) (hP : P < 2 ^ 31) (hr : r = v - v / (nI P).toInt64 * (nI P).toInt64) (h : r < 0) : (r + (nI P).toInt64).toInt32 = nI (nn_m v.toInt P) := by
  rw [nI_l hP] at hr ⊢
  have e : r.toInt = v.toInt.tmod P := by rw [hr]; exact nn_rem v h0 hP
  have h' : v.toInt.tmod P < 0 := by rw [← e]; exact (fb_lt _ _).mp h
  have h1 := nn_tmod_neg h0 h'
  have h4 := nn_m_lt (v := v.toInt) h0
  have h5 := nn_m_int (v := v.toInt) h0
  apply Int32.toInt_inj.mp
  rw [Int64.toInt_toInt32, Int64.toInt_add, e, lN_toInt hP, h1, nI_toInt (by omega), h5, nn_bmod (by omega) (by omega), nn_bmod32 (by omega) (by omega)]
theorem nn_restP {v r : Int64} {P : Nat} (h0 : 0 < P) (hP : P < 2 ^ 31) (hr : r = v - v / (nI P).toInt64 * (nI P).toInt64) (h : 0 ≤ r) : r.toInt32 = nI (nn_m v.toInt P) := by
  rw [nI_l hP] at hr
  have e : r.toInt = v.toInt.tmod P := by rw [hr]; exact nn_rem v h0 hP
  have h' : 0 ≤ v.toInt.tmod P := by rw [← e]; exact (fb_le _ _).mp h
  have h1 := nn_tmod_pos h0 h'
  have h4 := nn_m_lt (v := v.toInt) h0
  have h5 := nn_m_int (v := v.toInt) h0
  apply Int32.toInt_inj.mp
  rw [Int64.toInt_toInt32, e, h1, nI_toInt (by omega), h5, nn_bmod32 (by omega) (by omega)]
theorem nn_mul {x y : Nat} (hx : x < 2 ^ 31) (hy : y < 2 ^ 31) : (nI x).toInt64 * (nI y).toInt64 = lN (x * y) := by rw [nI_l hx, nI_l hy, lN_mul]
theorem nn_mulI {x y : Nat} (hx : x < 2 ^ 31) (hy : y < 2 ^ 31) : ((nI x).toInt64 * (nI y).toInt64).toInt = (x : Int) * y := by
  rw [nn_mul hx hy, pk_lT]
  · exact Int.natCast_mul x y
  · exact Nat.lt_of_lt_of_le (Nat.mul_lt_mul'' hx hy) (by decide)
/-- the reference's product -/
theorem nn_prod {x y P : Nat} (hx : x < 2 ^ 31) (hy : y < 2 ^ 31) (h0 : 0 < P) (hP : P < 2 ^ 31) : ((nI x).toInt64 * (nI y).toInt64 - (nI x).toInt64 * (nI y).toInt64 / (nI P).toInt64 * (nI P).toInt64).toInt32 = nI (x * y % P) := by
  rw [nn_mul hx hy, nI_l hP, pk_lRem (Nat.lt_of_lt_of_le (Nat.mul_lt_mul'' hx hy) (by decide)) h0 (by omega), lN_i]
theorem nn_i2l (x : Int32) : x.toInt64.toInt = x.toInt := Int32.toInt_toInt64 x
theorem nn_01 (p : Prop) [Decidable p] : (if p then (1 : Int32) else 0) = 0 ∨ (if p then (1 : Int32) else 0) = 1 := by
  by_cases h : p <;> simp [h]
theorem nn_is0 {p : Prop} [Decidable p] : (if p then (1 : Int32) else 0) = 0 ↔ ¬ p := by
  by_cases h : p <;> simp [h]
theorem vs_ia_ia {S : vs_S} {o : Nat} {f g : Nat → Int32} : vs_ia (vs_ia S o f) o g = vs_ia S o g := by unfold vs_ia; simp only [vs_u2_u]
theorem vs_la_la {S : vs_S} {o : Nat} {f g : Nat → Int64} : vs_la (vs_la S o f) o g = vs_la S o g := by unfold vs_la; simp only [vs_u2_u]
theorem vs_ia_self {S : vs_S} {o : Nat} : vs_ia S o (S.2.1 o) = S := by unfold vs_ia; rw [vs_u2_self]
theorem vs_la_self {S : vs_S} {o : Nat} : vs_la S o (S.2.2.1 o) = S := by unfold vs_la; rw [vs_u2_self]
theorem vs_ia_at {S : vs_S} {o : Nat} {f : Nat → Int32} : (vs_ia S o f).2.1 o = f := vs_u2_s
theorem vs_ia_ne {S : vs_S} {o o' : Nat} {f : Nat → Int32} (h : o' ≠ o) : (vs_ia S o f).2.1 o' = S.2.1 o' := vs_u2_n h
theorem vs_la_at {S : vs_S} {o : Nat} {f : Nat → Int64} : (vs_la S o f).2.2.1 o = f := vs_u2_s
theorem vs_ia_c {S : vs_S} {o o' : Nat} {f g : Nat → Int32} (h : o ≠ o') : vs_ia (vs_ia S o f) o' g = vs_ia (vs_ia S o' g) o f := by unfold vs_ia; simp only [vs_u2_c h]
end
section
theorem vc_nat : Cond.native arraycopyName ∈ vv_gd := vv_g 287 (by decide +kernel) rfl
theorem vc_sta : Cond.static arraycopyName ∈ vv_gd := vv_g 286 (by decide +kernel) rfl
theorem vc_ini : Cond.initialized "java/lang/System" ∈ vv_gd := vv_g 13 (by decide +kernel) rfl
theorem vc_lk_X9_133 : Cond.methodLink RX9 133 arraycopyName ∈ vv_gd := vv_g 285 (by decide +kernel) rfl
theorem vc_lk_X3_21 : Cond.methodLink RX3 21 arraycopyName ∈ vv_gd := vv_g 379 (by decide +kernel) rfl
set_option maxHeartbeats 4000000 in
theorem vv_copyi {G : vv_G} {cc : ByteArray} {M : vv_M} {cells slots pc q : Nat} {L : List (Nat × Value)} {st : List Value} {n : Nat} {h : vv_H} {i a0 a n0 n1 sp dp k : Nat} {f g : Nat → Int32} {xs xd xk : Int32} (hlk : Cond.methodLink M.1 i arraycopyName ∈ vv_gd) (h0 : h a0 = some (.inl (G.2.2.1 0, n0, .inl f))) (h1 : h a = some (.inl (G.2.2.1 0, n1, .inl g))) (hs : xs = nI sp) (hd : xd = nI dp) (hk : xk = nI k) (hn0 : n0 < 2 ^ 30) (hn1 : n1 < 2 ^ 30) (h4 : sp + k ≤ n0) (h5 : dp + k ≤ n1) (hfr : Nat.ble 1 M.2.2.2.2.1.frames = true) (hlo : Nat.ble ((st.map fun v => v.category).sum + (nativeFrameWords "java/lang/System" "arraycopy" 5 + 11)) M.2.2.2.2.1.locals = true) (hdg : decode cc pc = .ok (.invokestatic i, 3)) (hq : pc + 3 = q) (kk : vv_V G cc M cells slots q L st n (vv_up h a (.inl (G.2.2.1 0, n1, .inl (va_cpy f g sp dp k))))) : vv_V G cc M cells slots pc L (.int xk :: .int xd :: .ref a :: .int xs :: .ref a0 :: st) n h := by
  subst hq
  intro p e s m args below meth c H locs ls F X hl
  subst hs hd hk
  have c1 : (nI sp).toNatClampNeg = sp := nI_clamp (by omega)
  have c2 : (nI dp).toNatClampNeg = dp := nI_clamp (by omega)
  have c3 : (nI k).toNatClampNeg = k := nI_clamp (by omega)
  have hts := F.2.2.2.2.1
  have hK := F.2.2.2.2.2.1.1
  have hc0 : H[a0]? = some (vp_cell (G.2.2.1 0) (n0, .inl f)) := X.2.1 a0 _ h0
  have hc1 : H[a]? = some (vp_cell (G.2.2.1 0) (n1, .inl g)) := X.2.1 a _ h1
  obtain ⟨-, k0, hk0, cm0, hkk0⟩ := (hK.2 0 _ rfl).1 n0 (fun j => .int (f j))
  obtain ⟨-, k1, hk1, cm1, hkk1⟩ := (hK.2 0 _ rfl).1 n1 (fun j => .int (g j))
  intro T hT XX
  obtain ⟨vm', X', step⟩ := XX.arraycopy F.1 F.2.2.2.1 (hts _ hlk) (hts _ vc_nat) (hts _ vc_sta) (hts _ vc_ini) (src := a0) (dst := a) (cs := vp_cell (G.2.2.1 0) (n0, .inl f)) (cd := vp_cell (G.2.2.1 0) (n1, .inl g)) (srcPos := nI sp) (destPos := nI dp) (n := nI k) (by rw [hT]; exact hc0) (by rw [hT]; exact hc1)
    (fun _ h => by cases h) (fun _ h => by cases h) (fun h => by cases h) (fun h => by cases h) hk0 hk1 hkk0 hkk1 (by simp [refKind]) (nI_pos (by omega)) (nI_pos (by omega)) (nI_pos (by omega))
    (by rw [nI_toInt (by omega), nI_toInt (by omega)]; show ¬ _ > ((arrV (G.2.2.1 0) n0 (fun j => .int (f j))).slots.size : Int); rw [arrV_size]; omega)
    (by rw [nI_toInt (by omega), nI_toInt (by omega)]; show ¬ _ > ((arrV (G.2.2.1 0) n1 (fun j => .int (g j))).slots.size : Int); rw [arrV_size]; omega)
    (fun vm₁ _ i hi => by
      rw [c3] at hi
      have e : (vp_cell (G.2.2.1 0) (n0, .inl f)).slots.getD ((nI sp).toNatClampNeg + i) .null = .int (f (sp + i)) := by
        show (arrV (G.2.2.1 0) n0 (fun j => .int (f j))).slots.getD _ _ = _
        rw [c1, Array.getD_eq_getD_getElem?, arrV_read _ _ (by omega)]
        rfl
      refine ⟨?_, ?_⟩
      · rw [e]
        rfl
      · rw [e]
        exact trivial)
    (g := F0 m pc ls (.int (nI k) :: .int (nI dp) :: .ref a :: .int (nI sp) :: .ref a0 :: st)) rfl (by rw [F.2.2.1]; exact hl.1) (rest := st) rfl (by rw [F.2.1]; exact hdg) (Nat.le_of_ble_eq_true hfr) (by show 2 * 0 + _ + _ ≤ _; have := Nat.le_of_ble_eq_true hlo; omega)
  have e1 : copied (vp_cell (G.2.2.1 0) (n0, .inl f)) (vp_cell (G.2.2.1 0) (n1, .inl g)) (nI sp) (nI dp) (nI k) = vp_cell (G.2.2.1 0) (n1, .inl (va_cpy f g sp dp k)) := by
    have := va_copied (fun z => .int z) (G.2.2.1 0) (G.2.2.1 0) (n0 := n0) (n1 := n1) (sp := (nI sp).toNatClampNeg) (dp := (nI dp).toNatClampNeg) (n := (nI k).toNatClampNeg) f g (by rw [c1, c3]; exact h4)
    rw [c1, c2, c3] at this
    rw [← c1, ← c2, ← c3] at this ⊢
    simp only [c1, c2, c3] at this ⊢
    first | exact this | (unfold copied; simp only [c1, c2, c3]; exact this)
  rw [e1] at X' step
  have hlt : a < H.size := (Array.getElem?_eq_some_iff.mp hc1).1
  have hheap : ((T.setVm vm').setCell a (vp_cell (G.2.2.1 0) (n1, .inl (va_cpy f g sp dp k)))).heap = H.setIfInBounds a (vp_cell (G.2.2.1 0) (n1, .inl (va_cpy f g sp dp k))) := by rw [← hT]; rfl
  have oq : ∀ x : Nat, x ≠ a → (H.setIfInBounds a (vp_cell (G.2.2.1 0) (n1, .inl (va_cpy f g sp dp k))))[x]? = H[x]? := fun x hx => by simp [Array.getElem?_setIfInBounds, Ne.symm hx]
  have XN := vv_X_up (k := 0) (H' := H.setIfInBounds a (vp_cell (G.2.2.1 0) (n1, .inl (va_cpy f g sp dp k)))) (e := .inl (G.2.2.1 0, n1, .inl (va_cpy f g sp dp k))) X h1 (show (H.setIfInBounds a _)[a]? = some _ by simp [Array.getElem?_setIfInBounds, hlt]) (by simp) oq
  obtain ⟨t, a1, b1⟩ := kk p e s m args below meth c _ _ ls F ⟨XN.1, XN.2.1, ⟨XN.2.2.1.1, XN.2.2.1.2.1, fun x hx => by
      rcases List.mem_append.mp hx with z | z
      · exact X.2.2.1.2.2 x z
      · obtain ⟨z9, -, hz⟩ := List.mem_map.mp z
        rw [← hz]
        exact X.2.2.2 a _ h1⟩, XN.2.2.2⟩ hl _ hheap X'
  exact ⟨t, step t a1, b1⟩
theorem vs_copyi {G : vv_G} {cc : ByteArray} {M : vv_M} {pc q : Nat} {L : List (Nat × Value)} {st : List Value} {S : vs_S} {i o0 o n0 n1 sp dp k : Nat} {xs xd xk : Int32} (hlk : Cond.methodLink M.1 i arraycopyName ∈ vv_gd) (h0 : vs_T[o0]? = some (.inl (0, n0))) (h1 : vs_T[o]? = some (.inl (0, n1))) (hs : xs = nI sp) (hd : xd = nI dp) (hk : xk = nI k) (hn0 : n0 < 2 ^ 30) (hn1 : n1 < 2 ^ 30) (h4 : sp + k ≤ n0) (h5 : dp + k ≤ n1) (hfr : Nat.ble 1 M.2.2.2.2.1.frames = true) (hlo : Nat.ble ((st.map fun v => v.category).sum + (nativeFrameWords "java/lang/System" "arraycopy" 5 + 11)) M.2.2.2.2.1.locals = true) (hdg : decode cc pc = .ok (.invokestatic i, 3)) (hq : pc + 3 = q) (kk : vs_V G cc M q L st (vs_ia S o (va_cpy (S.2.1 o0) (S.2.1 o) sp dp k))) : vs_V G cc M pc L (.int xk :: .int xd :: .ref (G.2.2.2 + o) :: .int xs :: .ref (G.2.2.2 + o0) :: st) S := by
  refine vv_copyi hlk (vs_lay_at h0) (vs_lay_at h1) hs hd hk hn0 hn1 h4 h5 hfr hlo hdg hq ?_
  rw [vs_lay_ia h1]
  exact kk
set_option maxHeartbeats 4000000 in
theorem vv_copyl {G : vv_G} {cc : ByteArray} {M : vv_M} {cells slots pc q : Nat} {L : List (Nat × Value)} {st : List Value} {n : Nat} {h : vv_H} {i a0 a n0 n1 sp dp k : Nat} {f g : Nat → Int64} {xs xd xk : Int32} (hlk : Cond.methodLink M.1 i arraycopyName ∈ vv_gd) (h0 : h a0 = some (.inl (G.2.2.1 1, n0, .inr (.inl f)))) (h1 : h a = some (.inl (G.2.2.1 1, n1, .inr (.inl g)))) (hs : xs = nI sp) (hd : xd = nI dp) (hk : xk = nI k) (hn0 : n0 < 2 ^ 30) (hn1 : n1 < 2 ^ 30) (h4 : sp + k ≤ n0) (h5 : dp + k ≤ n1) (hfr : Nat.ble 1 M.2.2.2.2.1.frames = true) (hlo : Nat.ble ((st.map fun v => v.category).sum + (nativeFrameWords "java/lang/System" "arraycopy" 5 + 11)) M.2.2.2.2.1.locals = true) (hdg : decode cc pc = .ok (.invokestatic i, 3)) (hq : pc + 3 = q) (kk : vv_V G cc M cells slots q L st n (vv_up h a (.inl (G.2.2.1 1, n1, .inr (.inl (va_cpy f g sp dp k)))))) : vv_V G cc M cells slots pc L (.int xk :: .int xd :: .ref a :: .int xs :: .ref a0 :: st) n h := by
  subst hq
  intro p e s m args below meth c H locs ls F X hl
  subst hs hd hk
  have c1 : (nI sp).toNatClampNeg = sp := nI_clamp (by omega)
  have c2 : (nI dp).toNatClampNeg = dp := nI_clamp (by omega)
  have c3 : (nI k).toNatClampNeg = k := nI_clamp (by omega)
  have hts := F.2.2.2.2.1
  have hK := F.2.2.2.2.2.1.1
  have hc0 : H[a0]? = some (vp_cell (G.2.2.1 1) (n0, .inr (.inl f))) := X.2.1 a0 _ h0
  have hc1 : H[a]? = some (vp_cell (G.2.2.1 1) (n1, .inr (.inl g))) := X.2.1 a _ h1
  obtain ⟨-, k0, hk0, cm0, hkk0⟩ := (hK.2 1 _ rfl).1 n0 (fun j => .long (f j))
  obtain ⟨-, k1, hk1, cm1, hkk1⟩ := (hK.2 1 _ rfl).1 n1 (fun j => .long (g j))
  intro T hT XX
  obtain ⟨vm', X', step⟩ := XX.arraycopy F.1 F.2.2.2.1 (hts _ hlk) (hts _ vc_nat) (hts _ vc_sta) (hts _ vc_ini) (src := a0) (dst := a) (cs := vp_cell (G.2.2.1 1) (n0, .inr (.inl f))) (cd := vp_cell (G.2.2.1 1) (n1, .inr (.inl g))) (srcPos := nI sp) (destPos := nI dp) (n := nI k) (by rw [hT]; exact hc0) (by rw [hT]; exact hc1)
    (fun _ h => by cases h) (fun _ h => by cases h) (fun h => by cases h) (fun h => by cases h) hk0 hk1 hkk0 hkk1 (by simp [refKind]) (nI_pos (by omega)) (nI_pos (by omega)) (nI_pos (by omega))
    (by rw [nI_toInt (by omega), nI_toInt (by omega)]; show ¬ _ > ((arrV (G.2.2.1 1) n0 (fun j => .long (f j))).slots.size : Int); rw [arrV_size]; omega)
    (by rw [nI_toInt (by omega), nI_toInt (by omega)]; show ¬ _ > ((arrV (G.2.2.1 1) n1 (fun j => .long (g j))).slots.size : Int); rw [arrV_size]; omega)
    (fun vm₁ _ i hi => by
      rw [c3] at hi
      have e : (vp_cell (G.2.2.1 1) (n0, .inr (.inl f))).slots.getD ((nI sp).toNatClampNeg + i) .null = .long (f (sp + i)) := by
        show (arrV (G.2.2.1 1) n0 (fun j => .long (f j))).slots.getD _ _ = _
        rw [c1, Array.getD_eq_getD_getElem?, arrV_read _ _ (by omega)]
        rfl
      refine ⟨?_, ?_⟩
      · rw [e]
        rfl
      · rw [e]
        exact trivial)
    (g := F0 m pc ls (.int (nI k) :: .int (nI dp) :: .ref a :: .int (nI sp) :: .ref a0 :: st)) rfl (by rw [F.2.2.1]; exact hl.1) (rest := st) rfl (by rw [F.2.1]; exact hdg) (Nat.le_of_ble_eq_true hfr) (by show 2 * 0 + _ + _ ≤ _; have := Nat.le_of_ble_eq_true hlo; omega)
  have e1 : copied (vp_cell (G.2.2.1 1) (n0, .inr (.inl f))) (vp_cell (G.2.2.1 1) (n1, .inr (.inl g))) (nI sp) (nI dp) (nI k) = vp_cell (G.2.2.1 1) (n1, .inr (.inl (va_cpy f g sp dp k))) := by
    have := va_copied (fun z => .long z) (G.2.2.1 1) (G.2.2.1 1) (n0 := n0) (n1 := n1) (sp := (nI sp).toNatClampNeg) (dp := (nI dp).toNatClampNeg) (n := (nI k).toNatClampNeg) f g (by rw [c1, c3]; exact h4)
    rw [c1, c2, c3] at this
    rw [← c1, ← c2, ← c3] at this ⊢
    simp only [c1, c2, c3] at this ⊢
    first | exact this | (unfold copied; simp only [c1, c2, c3]; exact this)
  rw [e1] at X' step
  have hlt : a < H.size := (Array.getElem?_eq_some_iff.mp hc1).1
  have hheap : ((T.setVm vm').setCell a (vp_cell (G.2.2.1 1) (n1, .inr (.inl (va_cpy f g sp dp k))))).heap = H.setIfInBounds a (vp_cell (G.2.2.1 1) (n1, .inr (.inl (va_cpy f g sp dp k)))) := by rw [← hT]; rfl
  have oq : ∀ x : Nat, x ≠ a → (H.setIfInBounds a (vp_cell (G.2.2.1 1) (n1, .inr (.inl (va_cpy f g sp dp k)))))[x]? = H[x]? := fun x hx => by simp [Array.getElem?_setIfInBounds, Ne.symm hx]
  have XN := vv_X_up (k := 0) (H' := H.setIfInBounds a (vp_cell (G.2.2.1 1) (n1, .inr (.inl (va_cpy f g sp dp k))))) (e := .inl (G.2.2.1 1, n1, .inr (.inl (va_cpy f g sp dp k)))) X h1 (show (H.setIfInBounds a _)[a]? = some _ by simp [Array.getElem?_setIfInBounds, hlt]) (by simp) oq
  obtain ⟨t, a1, b1⟩ := kk p e s m args below meth c _ _ ls F ⟨XN.1, XN.2.1, ⟨XN.2.2.1.1, XN.2.2.1.2.1, fun x hx => by
      rcases List.mem_append.mp hx with z | z
      · exact X.2.2.1.2.2 x z
      · obtain ⟨z9, -, hz⟩ := List.mem_map.mp z
        rw [← hz]
        exact X.2.2.2 a _ h1⟩, XN.2.2.2⟩ hl _ hheap X'
  exact ⟨t, step t a1, b1⟩
theorem vs_copyl {G : vv_G} {cc : ByteArray} {M : vv_M} {pc q : Nat} {L : List (Nat × Value)} {st : List Value} {S : vs_S} {i o0 o n0 n1 sp dp k : Nat} {xs xd xk : Int32} (hlk : Cond.methodLink M.1 i arraycopyName ∈ vv_gd) (h0 : vs_T[o0]? = some (.inl (1, n0))) (h1 : vs_T[o]? = some (.inl (1, n1))) (hs : xs = nI sp) (hd : xd = nI dp) (hk : xk = nI k) (hn0 : n0 < 2 ^ 30) (hn1 : n1 < 2 ^ 30) (h4 : sp + k ≤ n0) (h5 : dp + k ≤ n1) (hfr : Nat.ble 1 M.2.2.2.2.1.frames = true) (hlo : Nat.ble ((st.map fun v => v.category).sum + (nativeFrameWords "java/lang/System" "arraycopy" 5 + 11)) M.2.2.2.2.1.locals = true) (hdg : decode cc pc = .ok (.invokestatic i, 3)) (hq : pc + 3 = q) (kk : vs_V G cc M q L st (vs_la S o (va_cpy (S.2.2.1 o0) (S.2.2.1 o) sp dp k))) : vs_V G cc M pc L (.int xk :: .int xd :: .ref (G.2.2.2 + o) :: .int xs :: .ref (G.2.2.2 + o0) :: st) S := by
  refine vv_copyl hlk (vs_lay_at h0) (vs_lay_at h1) hs hd hk hn0 hn1 h4 h5 hfr hlo hdg hq ?_
  rw [vs_lay_la h1]
  exact kk
theorem vc_mk_X9_176 : Cond.methodLink RX9 176 Lib.Math.min.name ∈ vv_gd := vv_g 364 (by decide +kernel) rfl
theorem vc_ms : Cond.static Lib.Math.min.name ∈ vv_gd := vv_g 365 (by decide +kernel) rfl
theorem vc_mi : Cond.initialized "java/lang/Math" ∈ vv_gd := vv_g 14 (by decide +kernel) rfl
theorem vc_mc : Cond.code Lib.Math.min.name Lib.Math.min.code 2 (some .int) ∈ vv_gd := vv_g 366 (by decide +kernel) rfl
theorem vs_min {G : vv_G} {cc : ByteArray} {M : vv_M} {pc q : Nat} {L : List (Nat × Value)} {st : List Value} {S : vs_S} {i : Nat} {x y : Int32} (hlk : Cond.methodLink M.1 i Lib.Math.min.name ∈ vv_gd) (hfr : Nat.ble 1 M.2.2.2.2.1.frames = true) (hlo : Nat.ble ((st.map fun v => v.category).sum + 13) M.2.2.2.2.1.locals = true) (hdg : decode cc pc = .ok (.invokestatic i, 3)) (hq : pc + 3 = q) (kk : vs_V G cc M q L (.int (if y < x then y else x) :: st) S) : vs_V G cc M pc L (.int y :: .int x :: st) S := by
  subst hq
  intro p e s m args below meth c H locs ls F X hl
  have hts := F.2.2.2.2.1
  exact va_mmin F.1 F.2.1 (F.2.2.1.trans hl.1.symm) F.2.2.2.1 (hts _ hlk) (hts _ vc_ms) (hts _ vc_mi) (hts _ vc_mc) (Nat.le_of_ble_eq_true hfr) (Nat.le_of_ble_eq_true hlo) (Nat.zero_le _) (Nat.zero_le _) hdg (kk p e s m args below meth c H locs ls F X hl)
end
section
/-- ints by their value -/
def nZ (z : Int) : Int32 := Int32.ofInt z
theorem nZ_n (n : Nat) : nZ (n : Int) = nI n := Int32.toInt_inj.mp (by unfold nZ nI; rw [Int32.toInt_ofInt, Int32.toInt_ofNat'])
theorem nZ_of (x : Int32) : nZ x.toInt = x := Int32.ofInt_toInt x
theorem nZ_i {z : Int} (h1 : -2147483648 ≤ z) (h2 : z < 2147483648) : (nZ z).toInt = z := Int32.toInt_ofInt_of_le h1 h2
theorem nZ_add (a b : Int) : nZ a + nZ b = nZ (a + b) := (Int32.ofInt_add a b).symm
theorem nZ_sub (a b : Int) : nZ a - nZ b = nZ (a - b) := (Int32.ofInt_sub a b).symm
theorem nZ_mul (a b : Int) : nZ a * nZ b = nZ (a * b) := (Int32.ofInt_mul a b).symm
theorem nZ_neg (a : Int) : -nZ a = nZ (-a) := (Int32.ofInt_neg a).symm
theorem nI_Z (n : Nat) : nI n = nZ n := (nZ_n n).symm
theorem nZ_le {a b : Int} (h1 : -2147483648 ≤ a) (h2 : a < 2147483648) (h3 : -2147483648 ≤ b) (h4 : b < 2147483648) : nZ a ≤ nZ b ↔ a ≤ b := by rw [fa_le, nZ_i h1 h2, nZ_i h3 h4]
theorem nZ_lt {a b : Int} (h1 : -2147483648 ≤ a) (h2 : a < 2147483648) (h3 : -2147483648 ≤ b) (h4 : b < 2147483648) : nZ a < nZ b ↔ a < b := by rw [fa_lt, nZ_i h1 h2, nZ_i h3 h4]
theorem nZ_eq {a b : Int} (h1 : -2147483648 ≤ a) (h2 : a < 2147483648) (h3 : -2147483648 ≤ b) (h4 : b < 2147483648) : nZ a = nZ b ↔ a = b := by rw [← Int32.toInt_inj, nZ_i h1 h2, nZ_i h3 h4]
theorem nZ_lit (n : Nat) : (OfNat.ofNat n : Int32) = nZ (n : Int) := (nZ_n n).symm
theorem nI_i {n : Nat} (h : n < 2147483648) : (nI n).toInt = (n : Int) := nI_toInt h
theorem nI_n0 {n : Nat} (h : n < 2147483648) : nI n = 0 ↔ n = 0 := nI_eq (a := n) (b := 0) h (by decide)
/-- int arrays by their contents as numbers -/
def nA (g : Nat → Nat) : Nat → Int32 := fun k => nI (g k)
def nu (g : Nat → Nat) (k x : Nat) : Nat → Nat := fun j => if j = k then x else g j
theorem nu_s {g : Nat → Nat} {k x : Nat} : nu g k x k = x := if_pos rfl
theorem nu_n {g : Nat → Nat} {k x j : Nat} (h : j ≠ k) : nu g k x j = g j := if_neg h
theorem nA_upd {g : Nat → Nat} {k x : Nat} : upd (nA g) k (nI x) = nA (nu g k x) := by
  funext j
  unfold upd nA nu
  by_cases h : j = k <;> simp [h]
section VSN
variable {G : vv_G} {cc : ByteArray} {M : vv_M} {pc q : Nat} {L : List (Nat × Value)} {st : List Value} {S : vs_S}
theorem vs_ialdN {o k N : Nat} {i : Int32} {g : Nat → Nat} (hg : S.2.1 o = nA g) (hT : vs_T[o]? = some (.inl (0, N))) (hi : i = nI k) (hk : k < N) (hN : Nat.blt N 2147483648 = true) (hd : decode cc pc = .ok (.iaload, 1)) (hq : pc + 1 = q) (kk : vs_V G cc M q L (.int (nI (g k)) :: st) S) : vs_V G cc M pc L (.int i :: .ref (G.2.2.2 + o) :: st) S := by
  refine vs_iald hT hi hk hN hd hq ?_
  rw [hg]
  exact kk
theorem vs_iastN {o k N x : Nat} {i : Int32} {g : Nat → Nat} (hg : S.2.1 o = nA g) (hT : vs_T[o]? = some (.inl (0, N))) (hi : i = nI k) (hk : k < N) (hN : Nat.blt N 2147483648 = true) (hd : decode cc pc = .ok (.iastore, 1)) (hq : pc + 1 = q) (kk : vs_V G cc M q L st (vs_ia S o (nA (nu g k x)))) : vs_V G cc M pc L (.int (nI x) :: .int i :: .ref (G.2.2.2 + o) :: st) S := by
  refine vs_iast hT hi hk hN hd hq ?_
  rw [hg, nA_upd]
  exact kk
theorem vs_iastU {o k N x : Nat} {i : Int32} {g : Nat → Nat} (hT : vs_T[o]? = some (.inl (0, N))) (hi : i = nI k) (hk : k < N) (hN : Nat.blt N 2147483648 = true) (hd : decode cc pc = .ok (.iastore, 1)) (hq : pc + 1 = q) (kk : vs_V G cc M q L st (vs_ia S o (nA (nu g k x)))) : vs_V G cc M pc L (.int (nI x) :: .int i :: .ref (G.2.2.2 + o) :: st) (vs_ia S o (nA g)) := by
  refine vs_iastN vs_ia_at hT hi hk hN hd hq ?_
  rw [vs_ia_ia]
  exact kk
theorem vs_cal {y : MethodName} {bytes : ByteArray} {maxL : Nat} {ret : Option FieldType} {rm : Room} {av : List Value} {r r2 : Option Value} {S1 S2 : vs_S} (h : vs_C G y bytes maxL ret rm av S r S1) (hr : r = r2) (hs : S1 = S2) : vs_C G y bytes maxL ret rm av S r2 S2 := by
  subst hr hs
  exact h
end VSN
/-- f once for each of 0 .. n - 1, in this order -/
def ff {α : Type} (f : Nat → α → α) : Nat → α → α
  | 0, x => x
  | n + 1, x => f n (ff f n x)
/-- polynomials of the class: the object's cell o, its terms behind it -/
def vs_P (o : Nat) : Prop := vs_T[o]? = some (.inr (3, [some (o + 1)])) ∧ vs_T[o + 1]? = some (.inl (0, 42))
def pR (S : vs_S) (o : Nat) (g : Nat → Nat) : Prop := S.2.1 (o + 1) = nA g ∧ ∀ k, 42 ≤ k → g k = 0
/-- the term of x^z -/
def pz (g : Nat → Nat) (z : Int) : Nat := if z < 0 then 0 else g z.toNat
/-- one more than the degree, below n -/
def tp (g : Nat → Nat) : Nat → Nat
  | 0 => 0
  | n + 1 => if g n = 0 then tp g n else n + 1
theorem tp_le (g : Nat → Nat) : ∀ n, tp g n ≤ n
  | 0 => Nat.le_refl 0
  | n + 1 => by
    unfold tp
    by_cases h : g n = 0
    · rw [if_pos h]; exact Nat.le_succ_of_le (tp_le g n)
    · rw [if_neg h]; exact Nat.le_refl _
theorem pz_n {g : Nat → Nat} {k : Nat} : pz g (k : Int) = g k := by
  unfold pz
  rw [if_neg (by omega)]
  rfl
theorem pz_neg {g : Nat → Nat} {z : Int} (h : z < 0) : pz g z = 0 := if_pos h
theorem pz_lt {g : Nat → Nat} {z : Int} {P : Nat} (hP : 0 < P) (h : ∀ k, g k < P) : pz g z < P := by
  unfold pz
  by_cases h1 : z < 0
  · rw [if_pos h1]; exact hP
  · rw [if_neg h1]; exact h _
end
section
theorem c_in {G : vv_G} {S : vs_S} {v lo hi : Int64} : vs_C G yX10_in cX10_in 6 (some .boolean) { frames := 0, locals := 0 } [.long (v), .long (lo), .long (hi)] S (some (.int (if lo ≤ v ∧ v ≤ hi then 1 else 0))) S := by
  refine vs_of [(0, .long (v)), (2, .long (lo)), (4, .long (hi))] (by decide) rfl rfl ?_
  refine vs_lload_n 0 dX10_in_0 rfl rfl 0 rfl ?_
  refine vs_lload_n 2 dX10_in_1 rfl rfl 1 rfl ?_
  refine vs_lcmp dX10_in_2 rfl ?_
  refine vs_if_lt 17 dX10_in_3 rfl rfl (fun c_3 => ?_) (fun c_3 => ?_)
  · have d_3 := (lg_cmp_lt _ _).mp c_3
    refine vs_iconst (v := 0) dX10_in_17 rfl rfl ?_
    exact vs_zret dX10_in_18 (by first | exact Or.inl rfl | exact Or.inr rfl) (by rw [fb_lt] at d_3; (first | rw [fb_lt] at d_10 | skip); simp only [fb_le]; first | (rw [if_pos (by omega)]) | (rw [if_neg (by omega)])) rfl
  · have d_3 := (not_congr (lg_cmp_lt _ _)).mp c_3
    refine vs_lload_n 0 dX10_in_6 rfl rfl 0 rfl ?_
    refine vs_lload dX10_in_7 rfl 2 rfl ?_
    refine vs_lcmp dX10_in_9 rfl ?_
    refine vs_if_gt 17 dX10_in_10 rfl rfl (fun c_10 => ?_) (fun c_10 => ?_)
    · have d_10 := (lg_cmp_gt _ _).mp c_10
      refine vs_iconst (v := 0) dX10_in_17 rfl rfl ?_
      exact vs_zret dX10_in_18 (by first | exact Or.inl rfl | exact Or.inr rfl) (by rw [fb_lt] at d_3; (first | rw [fb_lt] at d_10 | skip); simp only [fb_le]; first | (rw [if_pos (by omega)]) | (rw [if_neg (by omega)])) rfl
    · have d_10 := (not_congr (lg_cmp_gt _ _)).mp c_10
      refine vs_iconst (v := 1) dX10_in_13 rfl rfl ?_
      refine vs_goto 18 dX10_in_14 rfl ?_
      exact vs_zret dX10_in_18 (by first | exact Or.inl rfl | exact Or.inr rfl) (by rw [fb_lt] at d_3; (first | rw [fb_lt] at d_10 | skip); simp only [fb_le]; first | (rw [if_pos (by omega)]) | (rw [if_neg (by omega)])) rfl

theorem c_rest {G : vv_G} {S : vs_S} {v : Int64} {P : Nat} (hP : S.1 118 2 = nI P) (hP1 : 0 < P) (hP2 : P < 2 ^ 31) : vs_C G yX10_rest cX10_rest 5 (some .int) { frames := 0, locals := 0 } [.ref (G.2.2.2 + 118), .long (v)] S (some (.int (nI (nn_m v.toInt P)))) S := by
  refine vs_of [(0, .ref (G.2.2.2 + 118)), (1, .long (v))] (by decide) rfl rfl ?_
  refine vs_lload_n 1 dX10_rest_0 rfl rfl 1 rfl ?_
  refine vs_aload_n 0 dX10_rest_1 rfl rfl 0 rfl ?_
  refine vs_get (v := .int (nI P)) lf_X10_92 rfl (congrArg (fun z => some (Value.int z)) hP) dX10_rest_2 rfl ?_
  refine vs_i2l dX10_rest_5 rfl ?_
  refine vs_lrem dX10_rest_6 rfl (nn_ne0 hP1 hP2) ?_
  refine vs_topl (fun r e_r => ?_)
  refine vs_lstore_n 3 [(3, .long (r)), (0, .ref (G.2.2.2 + 118)), (1, .long (v))] dX10_rest_7 rfl rfl rfl rfl ?_
  refine vs_lload_n 3 dX10_rest_8 rfl rfl 0 rfl ?_
  refine vs_lconst (v := 0) dX10_rest_9 rfl rfl ?_
  refine vs_lcmp dX10_rest_10 rfl ?_
  refine vs_if_ge 24 dX10_rest_11 rfl rfl (fun c_11 => ?_) (fun c_11 => ?_)
  · have d_11 := (lg_cmp_ge _ _).mp c_11
    refine vs_lload_n 3 dX10_rest_24 rfl rfl 0 rfl ?_
    refine vs_l2i dX10_rest_25 rfl ?_
    exact vs_iret dX10_rest_26 (by first | (rw [nn_restP hP1 hP2 e_r d_11]) | (rw [nn_restN hP1 hP2 e_r (by rw [fb_le] at d_11; rw [fb_lt]; omega)])) rfl
  · have d_11 := (not_congr (lg_cmp_ge _ _)).mp c_11
    refine vs_lload_n 3 dX10_rest_14 rfl rfl 0 rfl ?_
    refine vs_aload_n 0 dX10_rest_15 rfl rfl 1 rfl ?_
    refine vs_get (v := .int (nI P)) lf_X10_92 rfl (congrArg (fun z => some (Value.int z)) hP) dX10_rest_16 rfl ?_
    refine vs_i2l dX10_rest_19 rfl ?_
    refine vs_ladd dX10_rest_20 rfl ?_
    refine vs_goto 25 dX10_rest_21 rfl ?_
    refine vs_l2i dX10_rest_25 rfl ?_
    exact vs_iret dX10_rest_26 (by first | (rw [nn_restP hP1 hP2 e_r d_11]) | (rw [nn_restN hP1 hP2 e_r (by rw [fb_le] at d_11; rw [fb_lt]; omega)])) rfl

theorem c_product {G : vv_G} {S : vs_S} {x y : Nat} {P : Nat} (hP : S.1 118 2 = nI P) (hP1 : 0 < P) (hP2 : P < 2 ^ 31) (hx : x < 2 ^ 31) (hy : y < 2 ^ 31) : vs_C G yX10_product cX10_product 3 (some .int) { frames := 0, locals := 0 } [.ref (G.2.2.2 + 118), .int (nI x), .int (nI y)] S (some (.int (nI (x * y % P)))) S := by
  refine vs_of [(0, .ref (G.2.2.2 + 118)), (1, .int (nI x)), (2, .int (nI y))] (by decide) rfl rfl ?_
  refine vs_iload_n 1 dX10_product_0 rfl rfl 1 rfl ?_
  refine vs_i2l dX10_product_1 rfl ?_
  refine vs_iload_n 2 dX10_product_2 rfl rfl 2 rfl ?_
  refine vs_i2l dX10_product_3 rfl ?_
  refine vs_lmul dX10_product_4 rfl ?_
  refine vs_aload_n 0 dX10_product_5 rfl rfl 0 rfl ?_
  refine vs_get (v := .int (nI P)) lf_X10_92 rfl (congrArg (fun z => some (Value.int z)) hP) dX10_product_6 rfl ?_
  refine vs_i2l dX10_product_9 rfl ?_
  refine vs_lrem dX10_product_10 rfl (nn_ne0 hP1 hP2) ?_
  refine vs_l2i dX10_product_11 rfl ?_
  exact vs_iret dX10_product_12 (by rw [nn_prod hx hy hP1 hP2]) rfl

theorem c_of {G : vv_G} {S : vs_S} {v : Int64} {P : Nat} (hP : S.1 1 0 = nI P) (hP1 : 2 ≤ P) (hP2 : P < 2 ^ 31) : vs_C G yX5_of cX5_of 5 (some .int) { frames := 0, locals := 0 } [.ref (G.2.2.2 + 1), .long (v)] S (some (.int (nI (nn_m v.toInt P)))) S := by
  refine vs_of [(0, .ref (G.2.2.2 + 1)), (1, .long (v))] (by decide) rfl rfl ?_
  refine vs_aload_n 0 dX5_of_0 rfl rfl 0 rfl ?_
  refine vs_get (v := .int (nI P)) lf_X5_9 rfl (congrArg (fun z => some (Value.int z)) hP) dX5_of_1 rfl ?_
  refine vs_iconst (v := 2) dX5_of_4 rfl rfl ?_
  refine vs_icmp_ge 10 dX5_of_5 rfl rfl (fun c_5 => ?_) (fun c_5 => ?_)
  · refine vs_lload_n 1 dX5_of_10 rfl rfl 1 rfl ?_
    refine vs_aload_n 0 dX5_of_11 rfl rfl 0 rfl ?_
    refine vs_get (v := .int (nI P)) lf_X5_9 rfl (congrArg (fun z => some (Value.int z)) hP) dX5_of_12 rfl ?_
    refine vs_i2l dX5_of_15 rfl ?_
    refine vs_lrem dX5_of_16 rfl (nn_ne0 (by omega) hP2) ?_
    refine vs_topl (fun r e_r => ?_)
    refine vs_lstore_n 3 [(3, .long (r)), (0, .ref (G.2.2.2 + 1)), (1, .long (v))] dX5_of_17 rfl rfl rfl rfl ?_
    refine vs_lload_n 3 dX5_of_18 rfl rfl 0 rfl ?_
    refine vs_lconst (v := 0) dX5_of_19 rfl rfl ?_
    refine vs_lcmp dX5_of_20 rfl ?_
    refine vs_if_ge 34 dX5_of_21 rfl rfl (fun c_21 => ?_) (fun c_21 => ?_)
    · have d_11 := (lg_cmp_ge _ _).mp c_21
      refine vs_lload_n 3 dX5_of_34 rfl rfl 0 rfl ?_
      refine vs_l2i dX5_of_35 rfl ?_
      exact vs_iret dX5_of_36 (by first | (rw [nn_restP (by omega) hP2 e_r d_11]) | (rw [nn_restN (by omega) hP2 e_r (by rw [fb_le] at d_11; rw [fb_lt]; omega)])) rfl
    · have d_11 := (not_congr (lg_cmp_ge _ _)).mp c_21
      refine vs_lload_n 3 dX5_of_24 rfl rfl 0 rfl ?_
      refine vs_aload_n 0 dX5_of_25 rfl rfl 1 rfl ?_
      refine vs_get (v := .int (nI P)) lf_X5_9 rfl (congrArg (fun z => some (Value.int z)) hP) dX5_of_26 rfl ?_
      refine vs_i2l dX5_of_29 rfl ?_
      refine vs_ladd dX5_of_30 rfl ?_
      refine vs_goto 35 dX5_of_31 rfl ?_
      refine vs_l2i dX5_of_35 rfl ?_
      exact vs_iret dX5_of_36 (by first | (rw [nn_restP (by omega) hP2 e_r d_11]) | (rw [nn_restN (by omega) hP2 e_r (by rw [fb_le] at d_11; rw [fb_lt]; omega)])) rfl
  · exact absurd (nI_le hP1 hP2) c_5

theorem c_rproduct {G : vv_G} {S : vs_S} {x y : Nat} {P : Nat} (hP : S.1 1 0 = nI P) (hP1 : 2 ≤ P) (hP2 : P < 2 ^ 31) (hx : x < 2 ^ 31) (hy : y < 2 ^ 31) : vs_C G yX5_product cX5_product 3 (some .int) { frames := 1, locals := 24 } [.ref (G.2.2.2 + 1), .int (nI x), .int (nI y)] S (some (.int (nI (x * y % P)))) S := by
  refine vs_of [(0, .ref (G.2.2.2 + 1)), (1, .int (nI x)), (2, .int (nI y))] (by decide) rfl rfl ?_
  refine vs_aload_n 0 dX5_product_0 rfl rfl 0 rfl ?_
  refine vs_iload_n 1 dX5_product_1 rfl rfl 1 rfl ?_
  refine vs_i2l dX5_product_2 rfl ?_
  refine vs_iload_n 2 dX5_product_3 rfl rfl 2 rfl ?_
  refine vs_i2l dX5_product_4 rfl ?_
  refine vs_lmul dX5_product_5 rfl ?_
  refine vs_callV (st := []) (c_of (v := (nI x).toInt64 * (nI y).toInt64) hP hP1 hP2) lk_X5_15 lm_X5_of rfl rfl rfl rfl (by decide) rfl ⟨rfl, rfl⟩ dX5_product_6 rfl ?_
  exact vs_iret dX5_product_9 (by rw [nn_mulI hx hy, ← Int.natCast_mul, nn_m_nat]) rfl

theorem c_negative {G : vv_G} {S : vs_S} {x : Nat} {P : Nat} (hP : S.1 1 0 = nI P) (hP1 : 2 ≤ P) (hP2 : P < 2 ^ 31) (hx : x < 2 ^ 31) : vs_C G yX5_negative cX5_negative 2 (some .int) { frames := 1, locals := 24 } [.ref (G.2.2.2 + 1), .int (nI x)] S (some (.int (nI (nn_m (-(x : Int)) P)))) S := by
  refine vs_of [(0, .ref (G.2.2.2 + 1)), (1, .int (nI x))] (by decide) rfl rfl ?_
  refine vs_aload_n 0 dX5_negative_0 rfl rfl 0 rfl ?_
  refine vs_iload_n 1 dX5_negative_1 rfl rfl 1 rfl ?_
  refine vs_i2l dX5_negative_2 rfl ?_
  refine vs_lneg dX5_negative_3 rfl ?_
  refine vs_callV (st := []) (c_of (v := -(nI x).toInt64) hP hP1 hP2) lk_X5_15 lm_X5_of rfl rfl rfl rfl (by decide) rfl ⟨rfl, rfl⟩ dX5_negative_4 rfl ?_
  exact vs_iret dX5_negative_7 (by rw [Int64.toInt_neg, nn_i2l, nI_toInt hx, nn_bmod (by omega) (by omega)]) rfl
end
section
def nfill {α : Type} (f : Nat → α) (v : α) (i : Nat) : Nat → α := fun k => if k < i then v else f k

theorem nfill_0 {α : Type} {f : Nat → α} {v : α} : nfill f v 0 = f := by
  funext k
  exact if_neg (by omega)
theorem nfill_s {f : Nat → Int32} {v : Int32} {i : Nat} : upd (nfill f v i) i v = nfill f v (i + 1) := by
  funext k
  unfold upd nfill
  by_cases h : k = i
  · rw [if_pos h, if_pos (by omega)]
  · rw [if_neg h]
    by_cases h2 : k < i
    · rw [if_pos h2, if_pos (by omega)]
    · rw [if_neg h2, if_neg (by omega)]
theorem nfill_sL {f : Nat → Int64} {v : Int64} {i : Nat} : vp_updL (nfill f v i) i v = nfill f v (i + 1) := by
  funext k
  unfold vp_updL nfill
  by_cases h : k = i
  · rw [if_pos h, if_pos (by omega)]
  · rw [if_neg h]
    by_cases h2 : k < i
    · rw [if_pos h2, if_pos (by omega)]
    · rw [if_neg h2, if_neg (by omega)]

theorem l_fillI {G : vv_G} {S : vs_S} {o N : Nat} {v : Int32} (hT : vs_T[o]? = some (.inl (0, N))) (hN : N < 1073741824) {r : Option Value} {Sf : vs_S} (hr : r = none) (hS : vs_ia S o (nfill (S.2.1 o) v N) = Sf) : ∀ d i, i + d = N → vs_V G cJ7_fill_53178 (vs_M yJ7_fill_53178 4 none { frames := 0, locals := 0 } G r Sf) 5 [(3, .int (nI N)), (2, .int (nI i)), (0, .ref (G.2.2.2 + o)), (1, .int (v))] [] (vs_ia S o (nfill (S.2.1 o) v i)) := by
  intro d
  induction d with
  | zero =>
    intro i hi
    obtain rfl : i = N := by omega
    refine vs_iload_n 2 dJ7_fill_53178_5 rfl rfl 1 rfl ?_
    refine vs_iload_n 3 dJ7_fill_53178_6 rfl rfl 0 rfl ?_
    refine vs_icmp_ge 20 dJ7_fill_53178_7 rfl rfl (fun c_7 => ?_) (fun c_7 => ?_)
    · exact vs_vret dJ7_fill_53178_20 hr hS
    · exact absurd (nI_le (Nat.le_refl _) (by omega)) c_7
  | succ d ih =>
    intro i hi
    refine vs_iload_n 2 dJ7_fill_53178_5 rfl rfl 1 rfl ?_
    refine vs_iload_n 3 dJ7_fill_53178_6 rfl rfl 0 rfl ?_
    refine vs_icmp_ge 20 dJ7_fill_53178_7 rfl rfl (fun c_7 => ?_) (fun c_7 => ?_)
    · exact absurd c_7 (nI_ge (by omega) (by omega))
    · refine vs_aload_n 0 dJ7_fill_53178_10 rfl rfl 2 rfl ?_
      refine vs_iload_n 2 dJ7_fill_53178_11 rfl rfl 1 rfl ?_
      refine vs_iload_n 1 dJ7_fill_53178_12 rfl rfl 3 rfl ?_
      refine vs_iast (k := i) hT rfl (by omega) (Nat.ble_eq_true_of_le (by omega)) dJ7_fill_53178_13 rfl ?_
      refine vs_eq (S2 := vs_ia S o (nfill (S.2.1 o) v (i + 1))) (by rw [vs_ia_at, nfill_s, vs_ia_ia]) ?_
      refine vs_iinc (v := nI (i + 1)) [(2, .int (nI (i + 1))), (3, .int (nI N)), (0, .ref (G.2.2.2 + o)), (1, .int (v))] dJ7_fill_53178_14 rfl 1 rfl (by first | exact nI_1 _ | (simp only [fa_lit, nI_add, pk_mul, nI_1]; rfl)) rfl rfl ?_
      refine vs_goto 5 dJ7_fill_53178_17 rfl ?_
      refine vs_pick [1, 0, 2, 3] rfl ?_
      exact ih (i + 1) (by omega)

theorem c_fillI {G : vv_G} {S : vs_S} {o N : Nat} {v : Int32} (hT : vs_T[o]? = some (.inl (0, N))) (hN : N < 1073741824) : vs_C G yJ7_fill_53178 cJ7_fill_53178 4 none { frames := 0, locals := 0 } [.ref (G.2.2.2 + o), .int (v)] S none (vs_ia S o (nfill (S.2.1 o) v N)) := by
  refine vs_of [(0, .ref (G.2.2.2 + o)), (1, .int (v))] (by decide) rfl rfl ?_
  refine vs_iconst (v := 0) dJ7_fill_53178_0 rfl rfl ?_
  refine vs_istore_n 2 [(2, .int (0)), (0, .ref (G.2.2.2 + o)), (1, .int (v))] dJ7_fill_53178_1 rfl rfl rfl rfl ?_
  refine vs_aload_n 0 dJ7_fill_53178_2 rfl rfl 1 rfl ?_
  refine vs_alen hT dJ7_fill_53178_3 rfl ?_
  refine vs_topi (fun z1 e_z1 => ?_)
  have f_z1 : z1 = nI N := e_z1
  subst f_z1
  clear e_z1
  refine vs_istore_n 3 [(3, .int (nI N)), (2, .int (0)), (0, .ref (G.2.2.2 + o)), (1, .int (v))] dJ7_fill_53178_4 rfl rfl rfl rfl ?_
  refine vs_pick [0, 1, 2, 3] rfl ?_
  refine vs_eq (S2 := vs_ia S o (nfill (S.2.1 o) v 0)) (by rw [nfill_0, vs_ia_self]) ?_
  exact l_fillI hT hN rfl rfl N 0 (by omega)

def pset (g : Nat → Nat) (z : Int) (x : Nat) : Nat → Nat := fun j => if (j : Int) = z ∧ j < 42 then x else g j
theorem pset_n {g : Nat → Nat} {k x : Nat} (h : k < 42) : pset g (k : Int) x = nu g k x := by
  funext j
  unfold pset nu
  by_cases e : j = k
  · subst e
    rw [if_pos ⟨rfl, h⟩, if_pos rfl]
  · rw [if_neg (by omega), if_neg e]
theorem vs_ia_same {S : vs_S} {o : Nat} {f : Nat → Int32} (h : S.2.1 o = f) : S = vs_ia S o f := by rw [← h, vs_ia_self]
theorem nat_of_in {k : Int32} {N : Nat} (h1 : ¬ k < 0) (h2 : ¬ nI N ≤ k) (hN : N < 2147483648) : k = nI k.toInt.toNat ∧ k.toInt.toNat < N ∧ 0 ≤ k.toInt := by
  rw [fa_lt] at h1
  rw [fa_le, nI_i hN] at h2
  have h3 : (0 : Int32).toInt = 0 := rfl
  refine ⟨?_, by omega, by omega⟩
  rw [nI_Z, ← nZ_of k]
  congr 1
  rw [nZ_of]
  omega
theorem c_at {G : vv_G} {S : vs_S} {o : Nat} {g : Nat → Nat} (hp : vs_P o) (hg : pR S o g) {k : Int32} : vs_C G yX3_at cX3_at 2 (some .int) { frames := 0, locals := 0 } [.ref (G.2.2.2 + o), .int (k)] S (some (.int (nI (pz g k.toInt)))) S := by
  refine vs_of [(0, .ref (G.2.2.2 + o)), (1, .int (k))] (by decide) rfl rfl ?_
  refine vs_iload_n 1 dX3_at_0 rfl rfl 1 rfl ?_
  refine vs_if_lt 19 dX3_at_1 rfl rfl (fun c_1 => ?_) (fun c_1 => ?_)
  · refine vs_iconst (v := 0) dX3_at_19 rfl rfl ?_
    exact vs_iret dX3_at_20 (by
    have h3 : (0 : Int32).toInt = 0 := rfl
    have h4 : (42 : Int32).toInt = 42 := rfl
    first
    | (rw [fa_lt] at c_1; rw [pz_neg (by omega)]; rfl; done)
    | (rw [fa_le] at c_7; unfold pz; rw [hg.2 _ (by omega)]; simp only [ite_self]; rfl; done)
    | (unfold pz; rw [if_neg (by omega)]; done)) rfl
  · refine vs_iload_n 1 dX3_at_4 rfl rfl 1 rfl ?_
    refine vs_bipush (v := 42) dX3_at_5 rfl rfl ?_
    refine vs_icmp_ge 19 dX3_at_7 rfl rfl (fun c_7 => ?_) (fun c_7 => ?_)
    · refine vs_iconst (v := 0) dX3_at_19 rfl rfl ?_
      exact vs_iret dX3_at_20 (by
    have h3 : (0 : Int32).toInt = 0 := rfl
    have h4 : (42 : Int32).toInt = 42 := rfl
    first
    | (rw [fa_lt] at c_1; rw [pz_neg (by omega)]; rfl; done)
    | (rw [fa_le] at c_7; unfold pz; rw [hg.2 _ (by omega)]; simp only [ite_self]; rfl; done)
    | (unfold pz; rw [if_neg (by omega)]; done)) rfl
    · have hk := nat_of_in (N := 42) c_1 c_7 (by decide)
      refine vs_aload_n 0 dX3_at_10 rfl rfl 0 rfl ?_
      refine vs_get (v := .ref (G.2.2.2 + (o + 1))) lf_X3_9 hp.1 rfl dX3_at_11 rfl ?_
      refine vs_iload_n 1 dX3_at_14 rfl rfl 1 rfl ?_
      refine vs_ialdN (g := g) (k := k.toInt.toNat) hg.1 hp.2 hk.1 hk.2.1 rfl dX3_at_15 rfl ?_
      refine vs_goto 20 dX3_at_16 rfl ?_
      exact vs_iret dX3_at_20 (by
    have h3 : (0 : Int32).toInt = 0 := rfl
    have h4 : (42 : Int32).toInt = 42 := rfl
    first
    | (rw [fa_lt] at c_1; rw [pz_neg (by omega)]; rfl; done)
    | (rw [fa_le] at c_7; unfold pz; rw [hg.2 _ (by omega)]; simp only [ite_self]; rfl; done)
    | (unfold pz; rw [if_neg (by omega)]; done)) rfl

theorem c_set {G : vv_G} {S : vs_S} {o : Nat} {g : Nat → Nat} (hp : vs_P o) (hg : pR S o g) {k : Int32} {x : Nat} : vs_C G yX3_set cX3_set 3 none { frames := 0, locals := 0 } [.ref (G.2.2.2 + o), .int (k), .int (nI x)] S none (vs_ia S (o + 1) (nA (pset g k.toInt x))) := by
  refine vs_of [(0, .ref (G.2.2.2 + o)), (1, .int (k)), (2, .int (nI x))] (by decide) rfl rfl ?_
  refine vs_iload_n 1 dX3_set_0 rfl rfl 1 rfl ?_
  refine vs_if_lt 17 dX3_set_1 rfl rfl (fun c_1 => ?_) (fun c_1 => ?_)
  · exact vs_vret dX3_set_17 rfl (by
    have h3 : (0 : Int32).toInt = 0 := rfl
    have h4 : (42 : Int32).toInt = 42 := rfl
    first
    | (rw [fa_lt] at c_1; rw [show pset g k.toInt x = g from funext fun j => if_neg (by omega)]; exact vs_ia_same hg.1; done)
    | (rw [fa_le] at c_7; rw [show pset g k.toInt x = g from funext fun j => if_neg (by omega)]; exact vs_ia_same hg.1; done)
    | (rw [← pset_n hk.2.1, Int.toNat_of_nonneg hk.2.2]; done))
  · refine vs_iload_n 1 dX3_set_4 rfl rfl 1 rfl ?_
    refine vs_bipush (v := 42) dX3_set_5 rfl rfl ?_
    refine vs_icmp_ge 17 dX3_set_7 rfl rfl (fun c_7 => ?_) (fun c_7 => ?_)
    · exact vs_vret dX3_set_17 rfl (by
    have h3 : (0 : Int32).toInt = 0 := rfl
    have h4 : (42 : Int32).toInt = 42 := rfl
    first
    | (rw [fa_lt] at c_1; rw [show pset g k.toInt x = g from funext fun j => if_neg (by omega)]; exact vs_ia_same hg.1; done)
    | (rw [fa_le] at c_7; rw [show pset g k.toInt x = g from funext fun j => if_neg (by omega)]; exact vs_ia_same hg.1; done)
    | (rw [← pset_n hk.2.1, Int.toNat_of_nonneg hk.2.2]; done))
    · have hk := nat_of_in (N := 42) c_1 c_7 (by decide)
      refine vs_aload_n 0 dX3_set_10 rfl rfl 0 rfl ?_
      refine vs_get (v := .ref (G.2.2.2 + (o + 1))) lf_X3_9 hp.1 rfl dX3_set_11 rfl ?_
      refine vs_iload_n 1 dX3_set_14 rfl rfl 1 rfl ?_
      refine vs_iload_n 2 dX3_set_15 rfl rfl 2 rfl ?_
      refine vs_iastN (k := k.toInt.toNat) hg.1 hp.2 hk.1 hk.2.1 rfl dX3_set_16 rfl ?_
      exact vs_vret dX3_set_17 rfl (by
    have h3 : (0 : Int32).toInt = 0 := rfl
    have h4 : (42 : Int32).toInt = 42 := rfl
    first
    | (rw [fa_lt] at c_1; rw [show pset g k.toInt x = g from funext fun j => if_neg (by omega)]; exact vs_ia_same hg.1; done)
    | (rw [fa_le] at c_7; rw [show pset g k.toInt x = g from funext fun j => if_neg (by omega)]; exact vs_ia_same hg.1; done)
    | (rw [← pset_n hk.2.1, Int.toNat_of_nonneg hk.2.2]; done))

theorem c_atN {G : vv_G} {S : vs_S} {o : Nat} {g : Nat → Nat} (hp : vs_P o) (hg : pR S o g) {k : Nat} (hk : k < 2147483648) : vs_C G yX3_at cX3_at 2 (some .int) { frames := 0, locals := 0 } [.ref (G.2.2.2 + o), .int (nI k)] S (some (.int (nI (g k)))) S := vs_cal (c_at hp hg) (by rw [nI_i hk, pz_n]) rfl
theorem c_setN {G : vv_G} {S : vs_S} {o : Nat} {g : Nat → Nat} (hp : vs_P o) (hg : pR S o g) {k x : Nat} (hk : k < 42) : vs_C G yX3_set cX3_set 3 none { frames := 0, locals := 0 } [.ref (G.2.2.2 + o), .int (nI k), .int (nI x)] S none (vs_ia S (o + 1) (nA (nu g k x))) := vs_cal (c_set hp hg) rfl (by rw [nI_i (by omega), pset_n hk])
theorem l_top {G : vv_G} {S : vs_S} {o : Nat} {g : Nat → Nat} (hp : vs_P o) (hg : pR S o g) (hb : ∀ k, g k < 2147483648) {r : Option Value} {Sf : vs_S} (hr : r = some (.int (nZ ((tp g 42 : Int) - 1)))) (hS : S = Sf) : ∀ i : Nat, i ≤ 42 → tp g 42 = tp g i → vs_V G cX3_top (vs_M yX3_top 2 (some .int) { frames := 0, locals := 0 } G r Sf) 3 [(1, .int (nZ ((i : Int) - 1))), (0, .ref (G.2.2.2 + o))] [] S := by
  intro i
  induction i with
  | zero =>
    intro _ ht
    refine vs_iload_n 1 dX3_top_3 rfl rfl 0 rfl ?_
    refine vs_if_lt 22 dX3_top_4 rfl rfl (fun c_4 => ?_) (fun c_4 => ?_)
    · refine vs_iload_n 1 dX3_top_22 rfl rfl 0 rfl ?_
      exact vs_iret dX3_top_23 (by rw [hr, ht]; rfl) hS
    · exact absurd (show nZ (((0 : Nat) : Int) - 1) < 0 by decide) c_4
  | succ i ih =>
    intro hi ht
    have e1 : nZ (((i + 1 : Nat) : Int) - 1) = nI i := by rw [nI_Z]; congr 1; omega
    rw [e1]
    refine vs_iload_n 1 dX3_top_3 rfl rfl 0 rfl ?_
    refine vs_if_lt 22 dX3_top_4 rfl rfl (fun c_4 => ?_) (fun c_4 => ?_)
    · exact absurd c_4 (nI_pos (by omega))
    · refine vs_aload_n 0 dX3_top_7 rfl rfl 1 rfl ?_
      refine vs_get (v := .ref (G.2.2.2 + (o + 1))) lf_X3_9 hp.1 rfl dX3_top_8 rfl ?_
      refine vs_iload_n 1 dX3_top_11 rfl rfl 0 rfl ?_
      refine vs_ialdN (g := g) (k := i) hg.1 hp.2 (by first | rfl | (simp only [fa_lit, nI_add, pk_mul, nI_1]; done) | omega) (by omega) rfl dX3_top_12 rfl ?_
      refine vs_if_ne 22 dX3_top_13 rfl rfl (fun c_13 => ?_) (fun c_13 => ?_)
      · have ht2 : tp g (i + 1) = i + 1 := if_neg (fun e => c_13 (by rw [e]; rfl))
        refine vs_iload_n 1 dX3_top_22 rfl rfl 0 rfl ?_
        exact vs_iret dX3_top_23 (by rw [hr, ht, ht2, nI_Z]; congr 3; omega) hS
      · have ht2 : tp g (i + 1) = tp g i := if_pos ((nI_n0 (hb i)).mp c_13)
        refine vs_iinc (v := nZ ((i : Int) - 1)) [(1, .int (nZ ((i : Int) - 1))), (0, .ref (G.2.2.2 + o))] dX3_top_16 rfl 0 rfl (by rw [nI_Z]; exact nZ_add _ _) rfl rfl ?_
        refine vs_goto 3 dX3_top_19 rfl ?_
        exact ih (by omega) (ht.trans ht2)

theorem c_top {G : vv_G} {S : vs_S} {o : Nat} {g : Nat → Nat} (hp : vs_P o) (hg : pR S o g) (hb : ∀ k, g k < 2147483648) : vs_C G yX3_top cX3_top 2 (some .int) { frames := 0, locals := 0 } [.ref (G.2.2.2 + o)] S (some (.int (nZ ((tp g 42 : Int) - 1)))) S := by
  refine vs_of [(0, .ref (G.2.2.2 + o))] (by decide) rfl rfl ?_
  refine vs_bipush (v := 41) dX3_top_0 rfl rfl ?_
  refine vs_istore_n 1 [(1, .int (41)), (0, .ref (G.2.2.2 + o))] dX3_top_2 rfl rfl rfl rfl ?_
  exact l_top hp hg hb rfl rfl 42 (Nat.le_refl _) rfl

def lo_t (g : Nat → Nat) : Nat → Nat → Nat
  | 0, _ => 0
  | n + 1, i => if g i = 0 then lo_t g n (i + 1) else g i
theorem l_low {G : vv_G} {S : vs_S} {o : Nat} {g : Nat → Nat} (hp : vs_P o) (hg : pR S o g) (hb : ∀ k, g k < 2147483648) {r : Option Value} {Sf : vs_S} (hr : r = some (.int (nI (lo_t g 42 0)))) (hS : S = Sf) : ∀ d i : Nat, i + d = 42 → lo_t g 42 0 = lo_t g d i → vs_V G cX3_lowestTerm (vs_M yX3_lowestTerm 2 (some .int) { frames := 0, locals := 0 } G r Sf) 2 [(1, .int (nI i)), (0, .ref (G.2.2.2 + o))] [] S := by
  intro d
  induction d with
  | zero =>
    intro i hi ht
    obtain rfl : i = 42 := by omega
    refine vs_iload_n 1 dX3_lowestTerm_2 rfl rfl 0 rfl ?_
    refine vs_bipush (v := 42) dX3_lowestTerm_3 rfl rfl ?_
    refine vs_icmp_ge 30 dX3_lowestTerm_5 rfl rfl (fun c_5 => ?_) (fun c_5 => ?_)
    · refine vs_iconst (v := 0) dX3_lowestTerm_30 rfl rfl ?_
      exact vs_iret dX3_lowestTerm_31 (by rw [hr, ht]; rfl) hS
    · exact absurd (Int32.le_refl _) c_5
  | succ d ih =>
    intro i hi ht
    refine vs_iload_n 1 dX3_lowestTerm_2 rfl rfl 0 rfl ?_
    refine vs_bipush (v := 42) dX3_lowestTerm_3 rfl rfl ?_
    refine vs_icmp_ge 30 dX3_lowestTerm_5 rfl rfl (fun c_5 => ?_) (fun c_5 => ?_)
    · exact absurd c_5 (nI_ge (show i < 42 by omega) (by decide))
    · refine vs_aload_n 0 dX3_lowestTerm_8 rfl rfl 1 rfl ?_
      refine vs_get (v := .ref (G.2.2.2 + (o + 1))) lf_X3_9 hp.1 rfl dX3_lowestTerm_9 rfl ?_
      refine vs_iload_n 1 dX3_lowestTerm_12 rfl rfl 0 rfl ?_
      refine vs_ialdN (g := g) (k := i) hg.1 hp.2 rfl (by omega) rfl dX3_lowestTerm_13 rfl ?_
      refine vs_if_eq 24 dX3_lowestTerm_14 rfl rfl (fun c_14 => ?_) (fun c_14 => ?_)
      · have ht2 : lo_t g (d + 1) i = lo_t g d (i + 1) := if_pos ((nI_n0 (hb i)).mp c_14)
        refine vs_iinc (v := nI (i + 1)) [(1, .int (nI (i + 1))), (0, .ref (G.2.2.2 + o))] dX3_lowestTerm_24 rfl 0 rfl (by first | exact nI_1 _ | (simp only [fa_lit, nI_add, pk_mul, nI_1]; rfl)) rfl rfl ?_
        refine vs_goto 2 dX3_lowestTerm_27 rfl ?_
        exact ih (i + 1) (by omega) (ht.trans ht2)
      · have ht2 : lo_t g (d + 1) i = g i := if_neg (fun e => c_14 (by rw [e]; rfl))
        refine vs_aload_n 0 dX3_lowestTerm_17 rfl rfl 1 rfl ?_
        refine vs_get (v := .ref (G.2.2.2 + (o + 1))) lf_X3_9 hp.1 rfl dX3_lowestTerm_18 rfl ?_
        refine vs_iload_n 1 dX3_lowestTerm_21 rfl rfl 0 rfl ?_
        refine vs_ialdN (g := g) (k := i) hg.1 hp.2 rfl (by omega) rfl dX3_lowestTerm_22 rfl ?_
        exact vs_iret dX3_lowestTerm_23 (by rw [hr, ht, ht2]) hS

theorem c_lowestTerm {G : vv_G} {S : vs_S} {o : Nat} {g : Nat → Nat} (hp : vs_P o) (hg : pR S o g) (hb : ∀ k, g k < 2147483648) : vs_C G yX3_lowestTerm cX3_lowestTerm 2 (some .int) { frames := 0, locals := 0 } [.ref (G.2.2.2 + o)] S (some (.int (nI (lo_t g 42 0)))) S := by
  refine vs_of [(0, .ref (G.2.2.2 + o))] (by decide) rfl rfl ?_
  refine vs_iconst (v := 0) dX3_lowestTerm_0 rfl rfl ?_
  refine vs_istore_n 1 [(1, .int (0)), (0, .ref (G.2.2.2 + o))] dX3_lowestTerm_1 rfl rfl rfl rfl ?_
  exact l_low hp hg hb rfl rfl 42 0 rfl rfl

def pcon (x : Nat) : Nat → Nat := fun k => if k = 0 then x else 0
theorem c_becomeNumber {G : vv_G} {S : vs_S} {o : Nat} {g : Nat → Nat} (hp : vs_P o) (hg : pR S o g) {x : Nat} : vs_C G yX3_becomeNumber cX3_becomeNumber 2 none { frames := 1, locals := 23 } [.ref (G.2.2.2 + o), .int (nI x)] S none (vs_ia S (o + 1) (nA (pcon x))) := by
  refine vs_of [(0, .ref (G.2.2.2 + o)), (1, .int (nI x))] (by decide) rfl rfl ?_
  refine vs_aload_n 0 dX3_becomeNumber_0 rfl rfl 0 rfl ?_
  refine vs_get (v := .ref (G.2.2.2 + (o + 1))) lf_X3_9 hp.1 rfl dX3_becomeNumber_1 rfl ?_
  refine vs_iconst (v := 0) dX3_becomeNumber_4 rfl rfl ?_
  refine vs_callS (st := []) (c_fillI (N := 42) (v := 0) hp.2 (by decide)) lk_X3_15 lm_J7_fill_53178 rfl rfl (Nat.le_of_ble_eq_true rfl) rfl ⟨rfl, rfl⟩ dX3_becomeNumber_5 rfl ?_
  refine vs_eq (S2 := vs_ia S (o + 1) (nA (fun _ => 0))) (congrArg (vs_ia S (o + 1)) (funext fun k => by rw [hg.1]; unfold nfill nA; by_cases h : k < 42 <;> simp [h] <;> first | rfl | (rw [hg.2 k (by omega)]; done) | (rw [hg.2 k (by omega)]; rfl))) ?_
  refine vs_aload_n 0 dX3_becomeNumber_8 rfl rfl 0 rfl ?_
  refine vs_get (v := .ref (G.2.2.2 + (o + 1))) lf_X3_9 hp.1 rfl dX3_becomeNumber_9 rfl ?_
  refine vs_iconst (v := 0) dX3_becomeNumber_12 rfl rfl ?_
  refine vs_iload_n 1 dX3_becomeNumber_13 rfl rfl 1 rfl ?_
  refine vs_iastU (k := 0) hp.2 rfl (by decide) rfl dX3_becomeNumber_14 rfl ?_
  exact vs_vret dX3_becomeNumber_15 rfl rfl

theorem c_become {G : vv_G} {S : vs_S} {o : Nat} {g : Nat → Nat} (hp : vs_P o) (hg : pR S o g) {p : Nat} {g2 : Nat → Nat} (hq : vs_P p) (hg2 : pR S p g2) : vs_C G yX3_become cX3_become 2 none { frames := 1, locals := 40 } [.ref (G.2.2.2 + o), .ref (G.2.2.2 + p)] S none (vs_ia S (o + 1) (nA g2)) := by
  refine vs_of [(0, .ref (G.2.2.2 + o)), (1, .ref (G.2.2.2 + p))] (by decide) rfl rfl ?_
  refine vs_aload_n 1 dX3_become_0 rfl rfl 1 rfl ?_
  refine vs_get (v := .ref (G.2.2.2 + (p + 1))) lf_X3_9 hq.1 rfl dX3_become_1 rfl ?_
  refine vs_iconst (v := 0) dX3_become_4 rfl rfl ?_
  refine vs_aload_n 0 dX3_become_5 rfl rfl 0 rfl ?_
  refine vs_get (v := .ref (G.2.2.2 + (o + 1))) lf_X3_9 hp.1 rfl dX3_become_6 rfl ?_
  refine vs_iconst (v := 0) dX3_become_9 rfl rfl ?_
  refine vs_bipush (v := 42) dX3_become_10 rfl rfl ?_
  refine vs_copyi (st := []) (sp := 0) (dp := 0) (k := 42) vc_lk_X3_21 hq.2 hp.2 rfl rfl rfl (by decide) (by decide) (by decide) (by decide) rfl rfl dX3_become_12 rfl ?_
  exact vs_vret dX3_become_15 rfl (congrArg (vs_ia S (o + 1)) (funext fun k => by rw [hg.1, hg2.1]; unfold va_cpy nA; by_cases h : k < 42 <;> simp [h] <;> rw [hg.2 k (by omega), hg2.2 k (by omega)]))

theorem c_dropLowest {G : vv_G} {S : vs_S} {o : Nat} {g : Nat → Nat} (hp : vs_P o) (hg : pR S o g) : vs_C G yX3_dropLowest cX3_dropLowest 1 none { frames := 1, locals := 40 } [.ref (G.2.2.2 + o)] S none (vs_ia S (o + 1) (nA (fun k => g (k + 1)))) := by
  refine vs_of [(0, .ref (G.2.2.2 + o))] (by decide) rfl rfl ?_
  refine vs_aload_n 0 dX3_dropLowest_0 rfl rfl 0 rfl ?_
  refine vs_get (v := .ref (G.2.2.2 + (o + 1))) lf_X3_9 hp.1 rfl dX3_dropLowest_1 rfl ?_
  refine vs_iconst (v := 1) dX3_dropLowest_4 rfl rfl ?_
  refine vs_aload_n 0 dX3_dropLowest_5 rfl rfl 0 rfl ?_
  refine vs_get (v := .ref (G.2.2.2 + (o + 1))) lf_X3_9 hp.1 rfl dX3_dropLowest_6 rfl ?_
  refine vs_iconst (v := 0) dX3_dropLowest_9 rfl rfl ?_
  refine vs_bipush (v := 41) dX3_dropLowest_10 rfl rfl ?_
  refine vs_copyi (st := []) (sp := 1) (dp := 0) (k := 41) vc_lk_X3_21 hp.2 hp.2 rfl rfl rfl (by decide) (by decide) (by decide) (by decide) rfl rfl dX3_dropLowest_12 rfl ?_
  refine vs_eq (S2 := vs_ia S (o + 1) (nA (fun k => if k < 41 then g (k + 1) else g k))) (congrArg (vs_ia S (o + 1)) (funext fun k => by rw [hg.1]; unfold va_cpy nA; by_cases h : k < 41 <;> simp [h, Nat.add_comm])) ?_
  refine vs_aload_n 0 dX3_dropLowest_15 rfl rfl 0 rfl ?_
  refine vs_get (v := .ref (G.2.2.2 + (o + 1))) lf_X3_9 hp.1 rfl dX3_dropLowest_16 rfl ?_
  refine vs_bipush (v := 41) dX3_dropLowest_19 rfl rfl ?_
  refine vs_iconst (v := 0) dX3_dropLowest_21 rfl rfl ?_
  refine vs_iastU (k := 41) hp.2 rfl (by decide) rfl dX3_dropLowest_22 rfl ?_
  exact vs_vret dX3_dropLowest_23 rfl (congrArg (fun z => vs_ia S (o + 1) (nA z)) (funext fun k => by unfold nu; by_cases h : k = 41 <;> by_cases h2 : k < 41 <;> simp [h, h2] <;> first | (rw [hg.2 42 (by omega)]) | omega | (rw [hg.2 k (by omega), hg.2 (k + 1) (by omega)])))
end
section
theorem nn_mad {a b c : Nat} (ha : a < 2147483648) (hb : b < 2147483648) (hc : c < 2147483648) : ((nI a).toInt64 * (nI b).toInt64 + (nI c).toInt64).toInt = ((a * b + c : Nat) : Int) := by
  rw [nn_mul ha hb, nI_l hc, lN_add, pk_lT]
  have := Nat.mul_le_mul (Nat.le_of_lt ha) (Nat.le_of_lt hb)
  omega
theorem nn_mad2 {a b c : Nat} (ha : a < 2147483648) (hb : b < 2147483648) (hc : c < 2147483648) : ((nI c).toInt64 + (nI a).toInt64 * (nI b).toInt64).toInt = ((c + a * b : Nat) : Int) := by
  rw [nn_mul ha hb, nI_l hc, lN_add, pk_lT]
  have := Nat.mul_le_mul (Nat.le_of_lt ha) (Nat.le_of_lt hb)
  omega
theorem nn_msub {a b c : Nat} (ha : a < 2147483648) (hb : b < 2147483648) (hc : c < 2147483648) : ((nI c).toInt64 - (nI a).toInt64 * (nI b).toInt64).toInt = (c : Int) - (a : Int) * b := by
  have h1 := Nat.mul_le_mul (Nat.le_of_lt ha) (Nat.le_of_lt hb)
  have h2 : ((a : Int) * b) = ((a * b : Nat) : Int) := by rw [Int.natCast_mul]
  rw [Int64.toInt_sub, nn_mulI ha hb, nn_i2l, nI_i hc, h2]
  exact nn_bmod (by omega) (by omega)
theorem c_ofZ {G : vv_G} {S : vs_S} {v : Int64} {z : Int} (hv : v.toInt = z) {P : Nat} (hP : S.1 1 0 = nI P) (hP1 : 2 ≤ P) (hP2 : P ≤ 30011) : vs_C G yX5_of cX5_of 5 (some .int) { frames := 0, locals := 0 } [.ref (G.2.2.2 + 1), .long v] S (some (.int (nI (nn_m z P)))) S := vs_cal (c_of hP hP1 (by omega)) (by rw [hv]) rfl
theorem c_ofN {G : vv_G} {S : vs_S} {v : Int64} {k : Nat} (hv : v.toInt = (k : Int)) {P : Nat} (hP : S.1 1 0 = nI P) (hP1 : 2 ≤ P) (hP2 : P ≤ 30011) : vs_C G yX5_of cX5_of 5 (some .int) { frames := 0, locals := 0 } [.ref (G.2.2.2 + 1), .long v] S (some (.int (nI (k % P)))) S := vs_cal (c_of hP hP1 (by omega)) (by rw [hv, nn_m_nat]) rfl
theorem nn_bit {e i : Nat} (he : e < 2 ^ 31) (hi : i < 32) : (nI e >>> (nI i &&& 31)) &&& 1 = nI (e / 2 ^ i % 2) := by
  have hs : ∀ k, k < 32 → ((nI k &&& 31).toBitVec.smod 32).toNat = k := by decide
  rw [pk_shrN he _ i (hs i hi)]
  exact pk_andN (Nat.lt_of_le_of_lt (Nat.div_le_self _ _) (by omega)) 1 rfl
/-- one step of the fast power -/
theorem pw_step (w s n P : Nat) : (w * s ^ n) % P = ((if n % 2 = 1 then w * s % P else w) * (s * s % P) ^ (n / 2)) % P := by
  have e : s ^ n = (s * s) ^ (n / 2) * s ^ (n % 2) := by
    rw [← Nat.pow_two, ← Nat.pow_mul, ← Nat.pow_add]
    congr 1
    omega
  have e2 : ((s * s) ^ (n / 2)) % P = ((s * s % P) ^ (n / 2)) % P := by rw [Nat.pow_mod]
  rcases (show n % 2 = 0 ∨ n % 2 = 1 by omega) with h | h
  · rw [h] at e
    rw [if_neg (by omega), e, Nat.pow_zero, Nat.mul_one, Nat.mul_mod, e2, ← Nat.mul_mod]
  · rw [h] at e
    rw [if_pos h, e, Nat.pow_one, Nat.mul_comm ((s * s) ^ (n / 2)) s, ← Nat.mul_assoc, Nat.mul_mod, e2]
    exact Nat.mul_mod_mod _ _ _
def ipw (a P : Nat) : Nat := a ^ (P - 2) % P
theorem ipw_lt {a P : Nat} (h : 2 ≤ P) : ipw a P < P := Nat.mod_lt _ (by omega)
theorem l_rinv {G : vv_G} {S : vs_S} {a : Nat} {P : Nat} (hP : S.1 1 0 = nI P) (hP1 : 2 ≤ P) (hP2 : P ≤ 30011) {r : Option Value} {Sf : vs_S} (hr : r = some (.int (nI (ipw a P)))) (hS : S = Sf) : ∀ d i w s : Nat, i + d = 15 → w < P → s < P → (w * s ^ ((P - 2) / 2 ^ i)) % P = ipw a P → vs_V G cX5_inverse (vs_M yX5_inverse 6 (some .int) { frames := 1, locals := 24 } G r Sf) 15 [(5, .int (nI i)), (4, .int (nI s)), (3, .int (nI w)), (2, .int (nI (P - 2))), (0, .ref (G.2.2.2 + 1)), (1, .int (nI a))] [] S := by
  intro d
  induction d with
  | zero =>
    intro i w s hi hw hs hinv
    obtain rfl : i = 15 := by omega
    have h0 : (P - 2) / 2 ^ 15 = 0 := Nat.div_eq_of_lt (by omega)
    rw [h0, Nat.pow_zero, Nat.mul_one, Nat.mod_eq_of_lt hw] at hinv
    refine vs_iload dX5_inverse_15 rfl 0 rfl ?_
    refine vs_bipush (v := 15) dX5_inverse_17 rfl rfl ?_
    refine vs_icmp_ge 62 dX5_inverse_19 rfl rfl (fun c_19 => ?_) (fun c_19 => ?_)
    · refine vs_iload_n 3 dX5_inverse_62 rfl rfl 2 rfl ?_
      exact vs_iret dX5_inverse_63 (by rw [hr, hinv]) hS
    · exact absurd (Int32.le_refl _) c_19
  | succ d ih =>
    intro i w s hi hw hs hinv
    have hst := pw_step w s ((P - 2) / 2 ^ i) P
    rw [hinv, Nat.div_div_eq_div_mul, ← Nat.pow_succ] at hst
    refine vs_iload dX5_inverse_15 rfl 0 rfl ?_
    refine vs_bipush (v := 15) dX5_inverse_17 rfl rfl ?_
    refine vs_icmp_ge 62 dX5_inverse_19 rfl rfl (fun c_19 => ?_) (fun c_19 => ?_)
    · exact absurd c_19 (nI_ge (show i < 15 by omega) (by decide))
    · refine vs_iload_n 2 dX5_inverse_22 rfl rfl 3 rfl ?_
      refine vs_iload dX5_inverse_23 rfl 0 rfl ?_
      refine vs_ishr dX5_inverse_25 rfl ?_
      refine vs_iconst (v := 1) dX5_inverse_26 rfl rfl ?_
      refine vs_iand dX5_inverse_27 rfl ?_
      refine vs_topi (fun z1 e_z1 => ?_)
      have f_z1 : z1 = nI ((P - 2) / 2 ^ i % 2) := (by rw [e_z1]; exact nn_bit (by omega) (by omega))
      subst f_z1
      clear e_z1
      refine vs_iconst (v := 1) dX5_inverse_28 rfl rfl ?_
      refine vs_icmp_ne 43 dX5_inverse_29 rfl rfl (fun c_29 => ?_) (fun c_29 => ?_)
      · have hb : ¬ (P - 2) / 2 ^ i % 2 = 1 := fun e => c_29 (by rw [e]; rfl)
        rw [if_neg hb] at hst
        refine vs_aload_n 0 dX5_inverse_43 rfl rfl 4 rfl ?_
        refine vs_iload dX5_inverse_44 rfl 1 rfl ?_
        refine vs_i2l dX5_inverse_46 rfl ?_
        refine vs_iload dX5_inverse_47 rfl 1 rfl ?_
        refine vs_i2l dX5_inverse_49 rfl ?_
        refine vs_lmul dX5_inverse_50 rfl ?_
        refine vs_callV (st := []) (c_ofN (k := s * s) (nn_mulI (by omega) (by omega)) hP hP1 hP2) lk_X5_15 lm_X5_of rfl rfl rfl rfl (Nat.le_of_ble_eq_true rfl) rfl ⟨rfl, rfl⟩ dX5_inverse_51 rfl ?_
        show vs_V _ _ _ _ _ (.int (nI (s * s % P)) :: _) _
        refine vs_istore [(4, .int (nI (s * s % P))), (5, .int (nI i)), (3, .int (nI w)), (2, .int (nI (P - 2))), (0, .ref (G.2.2.2 + 1)), (1, .int (nI a))] dX5_inverse_54 rfl rfl rfl ?_
        refine vs_iinc (v := nI (i + 1)) [(5, .int (nI (i + 1))), (4, .int (nI (s * s % P))), (3, .int (nI w)), (2, .int (nI (P - 2))), (0, .ref (G.2.2.2 + 1)), (1, .int (nI a))] dX5_inverse_56 rfl 1 rfl (by first | exact nI_1 _ | (simp only [fa_lit, nI_add, pk_mul, nI_1]; rfl)) rfl rfl ?_
        refine vs_goto 15 dX5_inverse_59 rfl ?_
        refine vs_pick [0, 1, 2, 3, 4, 5] rfl ?_
        exact ih (i + 1) _ _ (by omega) (by first | exact hw | exact Nat.mod_lt _ (by omega)) (Nat.mod_lt _ (by omega)) hst.symm
      · have hb : (P - 2) / 2 ^ i % 2 = 1 := (nI_eq (by omega) (by decide)).mp c_29
        rw [if_pos hb] at hst
        refine vs_aload_n 0 dX5_inverse_32 rfl rfl 4 rfl ?_
        refine vs_iload_n 3 dX5_inverse_33 rfl rfl 2 rfl ?_
        refine vs_i2l dX5_inverse_34 rfl ?_
        refine vs_iload dX5_inverse_35 rfl 1 rfl ?_
        refine vs_i2l dX5_inverse_37 rfl ?_
        refine vs_lmul dX5_inverse_38 rfl ?_
        refine vs_callV (st := []) (c_ofN (k := w * s) (nn_mulI (by omega) (by omega)) hP hP1 hP2) lk_X5_15 lm_X5_of rfl rfl rfl rfl (Nat.le_of_ble_eq_true rfl) rfl ⟨rfl, rfl⟩ dX5_inverse_39 rfl ?_
        show vs_V _ _ _ _ _ (.int (nI (w * s % P)) :: _) _
        refine vs_istore_n 3 [(3, .int (nI (w * s % P))), (5, .int (nI i)), (4, .int (nI s)), (2, .int (nI (P - 2))), (0, .ref (G.2.2.2 + 1)), (1, .int (nI a))] dX5_inverse_42 rfl rfl rfl rfl ?_
        refine vs_aload_n 0 dX5_inverse_43 rfl rfl 4 rfl ?_
        refine vs_iload dX5_inverse_44 rfl 2 rfl ?_
        refine vs_i2l dX5_inverse_46 rfl ?_
        refine vs_iload dX5_inverse_47 rfl 2 rfl ?_
        refine vs_i2l dX5_inverse_49 rfl ?_
        refine vs_lmul dX5_inverse_50 rfl ?_
        refine vs_callV (st := []) (c_ofN (k := s * s) (nn_mulI (by omega) (by omega)) hP hP1 hP2) lk_X5_15 lm_X5_of rfl rfl rfl rfl (Nat.le_of_ble_eq_true rfl) rfl ⟨rfl, rfl⟩ dX5_inverse_51 rfl ?_
        show vs_V _ _ _ _ _ (.int (nI (s * s % P)) :: _) _
        refine vs_istore [(4, .int (nI (s * s % P))), (3, .int (nI (w * s % P))), (5, .int (nI i)), (2, .int (nI (P - 2))), (0, .ref (G.2.2.2 + 1)), (1, .int (nI a))] dX5_inverse_54 rfl rfl rfl ?_
        refine vs_iinc (v := nI (i + 1)) [(5, .int (nI (i + 1))), (4, .int (nI (s * s % P))), (3, .int (nI (w * s % P))), (2, .int (nI (P - 2))), (0, .ref (G.2.2.2 + 1)), (1, .int (nI a))] dX5_inverse_56 rfl 2 rfl (by first | exact nI_1 _ | (simp only [fa_lit, nI_add, pk_mul, nI_1]; rfl)) rfl rfl ?_
        refine vs_goto 15 dX5_inverse_59 rfl ?_
        refine vs_pick [0, 1, 2, 3, 4, 5] rfl ?_
        exact ih (i + 1) _ _ (by omega) (by first | exact hw | exact Nat.mod_lt _ (by omega)) (Nat.mod_lt _ (by omega)) hst.symm

theorem c_rinverse {G : vv_G} {S : vs_S} {a : Nat} {P : Nat} (hP : S.1 1 0 = nI P) (hP1 : 2 ≤ P) (hP2 : P ≤ 30011) (ha : a < P) : vs_C G yX5_inverse cX5_inverse 6 (some .int) { frames := 1, locals := 24 } [.ref (G.2.2.2 + 1), .int (nI a)] S (some (.int (nI (ipw a P)))) S := by
  refine vs_of [(0, .ref (G.2.2.2 + 1)), (1, .int (nI a))] (by decide) rfl rfl ?_
  refine vs_aload_n 0 dX5_inverse_0 rfl rfl 0 rfl ?_
  refine vs_get (v := .int (nI P)) lf_X5_9 rfl (congrArg (fun z => some (Value.int z)) hP) dX5_inverse_1 rfl ?_
  refine vs_iconst (v := 2) dX5_inverse_4 rfl rfl ?_
  refine vs_isub dX5_inverse_5 rfl ?_
  refine vs_topi (fun z1 e_z1 => ?_)
  have f_z1 : z1 = nI (P - 2) := (by rw [e_z1, fa_lit]; exact pk_sub hP1)
  subst f_z1
  clear e_z1
  refine vs_istore_n 2 [(2, .int (nI (P - 2))), (0, .ref (G.2.2.2 + 1)), (1, .int (nI a))] dX5_inverse_6 rfl rfl rfl rfl ?_
  refine vs_iconst (v := 1) dX5_inverse_7 rfl rfl ?_
  refine vs_istore_n 3 [(3, .int (1)), (2, .int (nI (P - 2))), (0, .ref (G.2.2.2 + 1)), (1, .int (nI a))] dX5_inverse_8 rfl rfl rfl rfl ?_
  refine vs_iload_n 1 dX5_inverse_9 rfl rfl 3 rfl ?_
  refine vs_istore [(4, .int (nI a)), (3, .int (1)), (2, .int (nI (P - 2))), (0, .ref (G.2.2.2 + 1)), (1, .int (nI a))] dX5_inverse_10 rfl rfl rfl ?_
  refine vs_iconst (v := 0) dX5_inverse_12 rfl rfl ?_
  refine vs_istore [(5, .int (0)), (4, .int (nI a)), (3, .int (1)), (2, .int (nI (P - 2))), (0, .ref (G.2.2.2 + 1)), (1, .int (nI a))] dX5_inverse_13 rfl rfl rfl ?_
  refine vs_pick (L2 := [(5, .int (nI 0)), (4, .int (nI a)), (3, .int (nI 1)), (2, .int (nI (P - 2))), (0, .ref (G.2.2.2 + 1)), (1, .int (nI a))]) [0, 1, 2, 3, 4, 5] rfl ?_
  exact l_rinv hP hP1 hP2 rfl rfl 15 0 1 a rfl (by omega) ha (by rw [Nat.pow_zero, Nat.div_one, Nat.one_mul]; rfl)

def hv_ (g : Nat → Nat) (x P : Nat) : Nat → Nat → Nat
  | 0, s => s
  | j + 1, s => hv_ g x P j ((s * x + g j) % P)
theorem l_valueAt {G : vv_G} {S : vs_S} {o : Nat} {g : Nat → Nat} (hp : vs_P o) (hg : pR S o g) {x : Nat} {P : Nat} (hP : S.1 1 0 = nI P) (hP1 : 2 ≤ P) (hP2 : P ≤ 30011) (hb : ∀ k, g k < P) (hx : x < P) {r : Option Value} {Sf : vs_S} (hS : S = Sf) : ∀ j s : Nat, j ≤ 42 → s < P → r = some (.int (nI (hv_ g x P j s))) → vs_V G cX3_valueAt (vs_M yX3_valueAt 5 (some .int) { frames := 1, locals := 24 } G r Sf) 6 [(4, .int (nZ ((j : Int) - 1))), (3, .int (nI s)), (0, .ref (G.2.2.2 + o)), (1, .int (nI x)), (2, .ref (G.2.2.2 + 1))] [] S := by
  intro j
  induction j with
  | zero =>
    intro s _ hs hr
    refine vs_iload dX3_valueAt_6 rfl 0 rfl ?_
    refine vs_if_lt 36 dX3_valueAt_8 rfl rfl (fun c_8 => ?_) (fun c_8 => ?_)
    · refine vs_iload_n 3 dX3_valueAt_36 rfl rfl 1 rfl ?_
      exact vs_iret dX3_valueAt_37 hr hS
    · exact absurd (show nZ (((0 : Nat) : Int) - 1) < 0 by decide) c_8
  | succ j ih =>
    intro s hj hs hr
    have hgj := hb j
    have e1 : nZ (((j + 1 : Nat) : Int) - 1) = nI j := by rw [nI_Z]; congr 1; omega
    rw [e1]
    refine vs_iload dX3_valueAt_6 rfl 0 rfl ?_
    refine vs_if_lt 36 dX3_valueAt_8 rfl rfl (fun c_8 => ?_) (fun c_8 => ?_)
    · exact absurd c_8 (nI_pos (by omega))
    · refine vs_aload_n 2 dX3_valueAt_11 rfl rfl 4 rfl ?_
      refine vs_iload_n 3 dX3_valueAt_12 rfl rfl 1 rfl ?_
      refine vs_i2l dX3_valueAt_13 rfl ?_
      refine vs_iload_n 1 dX3_valueAt_14 rfl rfl 3 rfl ?_
      refine vs_i2l dX3_valueAt_15 rfl ?_
      refine vs_lmul dX3_valueAt_16 rfl ?_
      refine vs_aload_n 0 dX3_valueAt_17 rfl rfl 2 rfl ?_
      refine vs_get (v := .ref (G.2.2.2 + (o + 1))) lf_X3_9 hp.1 rfl dX3_valueAt_18 rfl ?_
      refine vs_iload dX3_valueAt_21 rfl 0 rfl ?_
      refine vs_ialdN (g := g) (k := j) hg.1 hp.2 (by first | rfl | (simp only [fa_lit, nI_add, pk_mul, nI_1]; done) | omega) (by omega) rfl dX3_valueAt_23 rfl ?_
      refine vs_i2l dX3_valueAt_24 rfl ?_
      refine vs_ladd dX3_valueAt_25 rfl ?_
      refine vs_callV (st := []) (c_ofN (k := s * x + g j) (nn_mad (by omega) (by omega) (by omega)) hP hP1 hP2) lk_X3_27 lm_X5_of rfl rfl rfl rfl (Nat.le_of_ble_eq_true rfl) rfl ⟨rfl, rfl⟩ dX3_valueAt_26 rfl ?_
      show vs_V _ _ _ _ _ (.int (nI ((s * x + g j) % P)) :: _) _
      refine vs_istore_n 3 [(3, .int (nI ((s * x + g j) % P))), (4, .int (nI j)), (0, .ref (G.2.2.2 + o)), (1, .int (nI x)), (2, .ref (G.2.2.2 + 1))] dX3_valueAt_29 rfl rfl rfl rfl ?_
      refine vs_iinc (v := nZ ((j : Int) - 1)) [(4, .int (nZ ((j : Int) - 1))), (3, .int (nI ((s * x + g j) % P))), (0, .ref (G.2.2.2 + o)), (1, .int (nI x)), (2, .ref (G.2.2.2 + 1))] dX3_valueAt_30 rfl 1 rfl (by rw [nI_Z]; exact nZ_add _ _) rfl rfl ?_
      refine vs_goto 6 dX3_valueAt_33 rfl ?_
      refine vs_pick [0, 1, 2, 3, 4] rfl ?_
      exact ih _ (by omega) (Nat.mod_lt _ (by omega)) hr

theorem c_valueAt {G : vv_G} {S : vs_S} {o : Nat} {g : Nat → Nat} (hp : vs_P o) (hg : pR S o g) {x : Nat} {P : Nat} (hP : S.1 1 0 = nI P) (hP1 : 2 ≤ P) (hP2 : P ≤ 30011) (hb : ∀ k, g k < P) (hx : x < P) : vs_C G yX3_valueAt cX3_valueAt 5 (some .int) { frames := 1, locals := 24 } [.ref (G.2.2.2 + o), .int (nI x), .ref (G.2.2.2 + 1)] S (some (.int (nI (hv_ g x P 42 0)))) S := by
  refine vs_of [(0, .ref (G.2.2.2 + o)), (1, .int (nI x)), (2, .ref (G.2.2.2 + 1))] (by decide) rfl rfl ?_
  refine vs_iconst (v := 0) dX3_valueAt_0 rfl rfl ?_
  refine vs_istore_n 3 [(3, .int (0)), (0, .ref (G.2.2.2 + o)), (1, .int (nI x)), (2, .ref (G.2.2.2 + 1))] dX3_valueAt_1 rfl rfl rfl rfl ?_
  refine vs_bipush (v := 41) dX3_valueAt_2 rfl rfl ?_
  refine vs_istore [(4, .int (41)), (3, .int (0)), (0, .ref (G.2.2.2 + o)), (1, .int (nI x)), (2, .ref (G.2.2.2 + 1))] dX3_valueAt_4 rfl rfl rfl ?_
  refine vs_pick (L2 := [(4, .int (nI 41)), (3, .int (nI 0)), (0, .ref (G.2.2.2 + o)), (1, .int (nI x)), (2, .ref (G.2.2.2 + 1))]) [0, 1, 2, 3, 4] rfl ?_
  exact l_valueAt hp hg hP hP1 hP2 hb hx rfl 42 0 (Nat.le_refl _) (by omega) rfl

def sck (g : Nat → Nat) (c P i : Nat) : Nat → Nat := fun k => if k < i then g k * c % P else g k
theorem sck_s {g : Nat → Nat} {c P i : Nat} : nu (sck g c P i) i (g i * c % P) = sck g c P (i + 1) := by
  funext k
  unfold nu sck
  by_cases h : k = i
  · rw [if_pos h, if_pos (by omega), h]
  · rw [if_neg h]
    by_cases h2 : k < i
    · rw [if_pos h2, if_pos (by omega)]
    · rw [if_neg h2, if_neg (by omega)]
theorem sck_0 {g : Nat → Nat} {c P : Nat} : sck g c P 0 = g := funext fun k => if_neg (by omega)
theorem l_scale {G : vv_G} {S : vs_S} {o : Nat} {g : Nat → Nat} (hp : vs_P o) (hg : pR S o g) {x : Nat} {P : Nat} (hP : S.1 1 0 = nI P) (hP1 : 2 ≤ P) (hP2 : P ≤ 30011) (hb : ∀ k, g k < P) (hx : x < P) {r : Option Value} {Sf : vs_S} (hr : r = none) (hS : vs_ia S (o + 1) (nA (sck g x P 42)) = Sf) : ∀ d i : Nat, i + d = 42 → vs_V G cX3_scale (vs_M yX3_scale 4 none { frames := 2, locals := 46 } G r Sf) 2 [(3, .int (nI i)), (0, .ref (G.2.2.2 + o)), (1, .int (nI x)), (2, .ref (G.2.2.2 + 1))] [] (vs_ia S (o + 1) (nA (sck g x P i))) := by
  intro d
  induction d with
  | zero =>
    intro i hi
    obtain rfl : i = 42 := by omega
    refine vs_iload_n 3 dX3_scale_2 rfl rfl 0 rfl ?_
    refine vs_bipush (v := 42) dX3_scale_3 rfl rfl ?_
    refine vs_icmp_ge 31 dX3_scale_5 rfl rfl (fun c_5 => ?_) (fun c_5 => ?_)
    · exact vs_vret dX3_scale_31 hr hS
    · exact absurd (Int32.le_refl _) c_5
  | succ d ih =>
    intro i hi
    have hgi := hb i
    have e0 : sck g x P i i = g i := if_neg (by omega)
    refine vs_iload_n 3 dX3_scale_2 rfl rfl 0 rfl ?_
    refine vs_bipush (v := 42) dX3_scale_3 rfl rfl ?_
    refine vs_icmp_ge 31 dX3_scale_5 rfl rfl (fun c_5 => ?_) (fun c_5 => ?_)
    · exact absurd c_5 (nI_ge (show i < 42 by omega) (by decide))
    · refine vs_aload_n 0 dX3_scale_8 rfl rfl 1 rfl ?_
      refine vs_get (v := .ref (G.2.2.2 + (o + 1))) lf_X3_9 hp.1 rfl dX3_scale_9 rfl ?_
      refine vs_iload_n 3 dX3_scale_12 rfl rfl 0 rfl ?_
      refine vs_aload_n 2 dX3_scale_13 rfl rfl 3 rfl ?_
      refine vs_aload_n 0 dX3_scale_14 rfl rfl 1 rfl ?_
      refine vs_get (v := .ref (G.2.2.2 + (o + 1))) lf_X3_9 hp.1 rfl dX3_scale_15 rfl ?_
      refine vs_iload_n 3 dX3_scale_18 rfl rfl 0 rfl ?_
      refine vs_ialdN (g := (sck g x P i)) (k := i) vs_ia_at hp.2 rfl (by omega) rfl dX3_scale_19 rfl ?_
      refine vs_iload_n 1 dX3_scale_20 rfl rfl 2 rfl ?_
      rw [e0]
      refine vs_callV (st := [.int (nI i), .ref (G.2.2.2 + (o + 1))]) (c_rproduct (x := g i) (y := x) hP hP1 (by omega) (by omega) (by omega)) lk_X3_33 lm_X5_product rfl rfl rfl rfl (Nat.le_of_ble_eq_true rfl) rfl ⟨rfl, rfl⟩ dX3_scale_21 rfl ?_
      show vs_V _ _ _ _ _ (.int (nI (g i * x % P)) :: _) _
      refine vs_iastU (k := i) hp.2 rfl (by omega) rfl dX3_scale_24 rfl ?_
      refine vs_eq (S2 := vs_ia S (o + 1) (nA (sck g x P (i + 1)))) (by rw [sck_s]) ?_
      refine vs_iinc (v := nI (i + 1)) [(3, .int (nI (i + 1))), (0, .ref (G.2.2.2 + o)), (1, .int (nI x)), (2, .ref (G.2.2.2 + 1))] dX3_scale_25 rfl 0 rfl (by first | exact nI_1 _ | (simp only [fa_lit, nI_add, pk_mul, nI_1]; rfl)) rfl rfl ?_
      refine vs_goto 2 dX3_scale_28 rfl ?_
      refine vs_pick [0, 1, 2, 3] rfl ?_
      exact ih (i + 1) (by omega)

theorem c_scale {G : vv_G} {S : vs_S} {o : Nat} {g : Nat → Nat} (hp : vs_P o) (hg : pR S o g) {x : Nat} {P : Nat} (hP : S.1 1 0 = nI P) (hP1 : 2 ≤ P) (hP2 : P ≤ 30011) (hb : ∀ k, g k < P) (hx : x < P) : vs_C G yX3_scale cX3_scale 4 none { frames := 2, locals := 46 } [.ref (G.2.2.2 + o), .int (nI x), .ref (G.2.2.2 + 1)] S none (vs_ia S (o + 1) (nA (fun k => g k * x % P))) := by
  refine vs_of [(0, .ref (G.2.2.2 + o)), (1, .int (nI x)), (2, .ref (G.2.2.2 + 1))] (by decide) rfl rfl ?_
  refine vs_iconst (v := 0) dX3_scale_0 rfl rfl ?_
  refine vs_istore_n 3 [(3, .int (0)), (0, .ref (G.2.2.2 + o)), (1, .int (nI x)), (2, .ref (G.2.2.2 + 1))] dX3_scale_1 rfl rfl rfl rfl ?_
  refine vs_pick (L2 := [(3, .int (nI 0)), (0, .ref (G.2.2.2 + o)), (1, .int (nI x)), (2, .ref (G.2.2.2 + 1))]) [0, 1, 2, 3] rfl ?_
  refine vs_eq (S2 := vs_ia S (o + 1) (nA (sck g x P 0))) (by rw [sck_0]; exact vs_ia_same hg.1) ?_
  exact l_scale hp hg hP hP1 hP2 hb hx rfl (congrArg (fun z => vs_ia S (o + 1) (nA z)) (funext fun k => by unfold sck; by_cases h : k < 42 <;> simp [h]; rw [hg.2 k (by omega)]; simp)) 42 0 rfl

def amk (g g2 : Nat → Nat) (c sh P i : Nat) : Nat → Nat := fun k => if sh ≤ k ∧ k < i then (g k + c * g2 (k - sh)) % P else g k
theorem amk_s {g g2 : Nat → Nat} {c sh P i : Nat} (h0 : sh ≤ i) : nu (amk g g2 c sh P i) i ((g i + c * g2 (i - sh)) % P) = amk g g2 c sh P (i + 1) := by
  funext k
  unfold nu amk
  by_cases h : k = i
  · rw [if_pos h, if_pos (by omega), h]
  · rw [if_neg h]
    by_cases h2 : sh ≤ k ∧ k < i
    · rw [if_pos h2, if_pos (by omega)]
    · rw [if_neg h2, if_neg (by omega)]
theorem amk_0 {g g2 : Nat → Nat} {c sh P : Nat} : amk g g2 c sh P sh = g := funext fun k => if_neg (by omega)
theorem amk_z {g g2 : Nat → Nat} {c sh P i : Nat} (h : ∀ k, 42 ≤ k → g k = 0) (hi : i ≤ 42) : ∀ k, 42 ≤ k → amk g g2 c sh P i k = 0 := fun k hk => by
  unfold amk
  rw [if_neg (by omega)]
  exact h k hk
theorem amk_b {g g2 : Nat → Nat} {c sh P i : Nat} (h0 : 0 < P) (h : ∀ k, g k < P) : ∀ k, amk g g2 c sh P i k < P := fun k => by
  unfold amk
  by_cases h1 : sh ≤ k ∧ k < i
  · rw [if_pos h1]; exact Nat.mod_lt _ h0
  · rw [if_neg h1]; exact h k
theorem l_am {G : vv_G} {S : vs_S} {o : Nat} {g : Nat → Nat} (hp : vs_P o) (hg : pR S o g) {p : Nat} {g2 : Nat → Nat} (hq : vs_P p) (hg2 : pR S p g2) (hne : p ≠ o) {x sh : Nat} {P : Nat} (hP : S.1 1 0 = nI P) (hP1 : 2 ≤ P) (hP2 : P ≤ 30011) (hb : ∀ k, g k < P) (hb2 : ∀ k, g2 k < P) (hx : x < P) (hsh : sh ≤ 42) {r : Option Value} {Sf : vs_S} (hr : r = none) (hS : vs_ia S (o + 1) (nA (amk g g2 x sh P 42)) = Sf) : ∀ d i : Nat, i + d = 42 → sh ≤ i → vs_V G cX3_addMultiple (vs_M yX3_addMultiple 6 none { frames := 1, locals := 24 } G r Sf) 3 [(5, .int (nI i)), (0, .ref (G.2.2.2 + o)), (1, .ref (G.2.2.2 + p)), (2, .int (nI x)), (3, .int (nI sh)), (4, .ref (G.2.2.2 + 1))] [] (vs_ia S (o + 1) (nA (amk g g2 x sh P i))) := by
  intro d
  induction d with
  | zero =>
    intro i hi hs
    obtain rfl : i = 42 := by omega
    refine vs_iload dX3_addMultiple_3 rfl 0 rfl ?_
    refine vs_bipush (v := 42) dX3_addMultiple_5 rfl rfl ?_
    refine vs_icmp_ge 47 dX3_addMultiple_7 rfl rfl (fun c_7 => ?_) (fun c_7 => ?_)
    · exact vs_vret dX3_addMultiple_47 hr hS
    · exact absurd (Int32.le_refl _) c_7
  | succ d ih =>
    intro i hi hs
    have hgi := hb i
    have hgj := hb2 (i - sh)
    have e0 : amk g g2 x sh P i i = g i := if_neg (by omega)
    have hpo : pR (vs_ia S (o + 1) (nA (amk g g2 x sh P i))) o (amk g g2 x sh P i) := ⟨vs_ia_at, amk_z hg.2 (by omega)⟩
    have hpp : pR (vs_ia S (o + 1) (nA (amk g g2 x sh P i))) p g2 := ⟨(vs_ia_ne (by omega)).trans hg2.1, hg2.2⟩
    refine vs_iload dX3_addMultiple_3 rfl 0 rfl ?_
    refine vs_bipush (v := 42) dX3_addMultiple_5 rfl rfl ?_
    refine vs_icmp_ge 47 dX3_addMultiple_7 rfl rfl (fun c_7 => ?_) (fun c_7 => ?_)
    · exact absurd c_7 (nI_ge (show i < 42 by omega) (by decide))
    · refine vs_aload_n 0 dX3_addMultiple_10 rfl rfl 1 rfl ?_
      refine vs_iload dX3_addMultiple_11 rfl 0 rfl ?_
      refine vs_aload dX3_addMultiple_13 rfl 5 rfl ?_
      refine vs_aload_n 0 dX3_addMultiple_15 rfl rfl 1 rfl ?_
      refine vs_iload dX3_addMultiple_16 rfl 0 rfl ?_
      refine vs_callV (st := [.ref (G.2.2.2 + 1), .int (nI i), .ref (G.2.2.2 + o)]) (vs_cal (c_atN hp hpo (k := i) (by omega)) (by rw [e0]) rfl) lk_X3_37 lm_X3_at rfl hp.1 rfl rfl (Nat.le_of_ble_eq_true rfl) rfl ⟨rfl, rfl⟩ dX3_addMultiple_18 rfl ?_
      show vs_V _ _ _ _ _ (.int (nI (g i)) :: _) _
      refine vs_i2l dX3_addMultiple_21 rfl ?_
      refine vs_iload_n 2 dX3_addMultiple_22 rfl rfl 3 rfl ?_
      refine vs_i2l dX3_addMultiple_23 rfl ?_
      refine vs_aload_n 1 dX3_addMultiple_24 rfl rfl 2 rfl ?_
      refine vs_iload dX3_addMultiple_25 rfl 0 rfl ?_
      refine vs_iload_n 3 dX3_addMultiple_27 rfl rfl 4 rfl ?_
      refine vs_isub dX3_addMultiple_28 rfl ?_
      refine vs_topi (fun z1 e_z1 => ?_)
      have f_z1 : z1 = nI (i - sh) := (by rw [e_z1]; exact pk_sub hs)
      subst f_z1
      clear e_z1
      refine vs_callV (st := [.long ((nI x).toInt64), .long ((nI (g i)).toInt64), .ref (G.2.2.2 + 1), .int (nI i), .ref (G.2.2.2 + o)]) (c_atN hq hpp (k := i - sh) (by omega)) lk_X3_37 lm_X3_at rfl hq.1 rfl rfl (Nat.le_of_ble_eq_true rfl) rfl ⟨rfl, rfl⟩ dX3_addMultiple_29 rfl ?_
      show vs_V _ _ _ _ _ (.int (nI (g2 (i - sh))) :: _) _
      refine vs_i2l dX3_addMultiple_32 rfl ?_
      refine vs_lmul dX3_addMultiple_33 rfl ?_
      refine vs_ladd dX3_addMultiple_34 rfl ?_
      refine vs_callV (st := [.int (nI i), .ref (G.2.2.2 + o)]) (c_ofN (k := g i + x * g2 (i - sh)) (nn_mad2 (by omega) (by omega) (by omega)) hP hP1 hP2) lk_X3_27 lm_X5_of rfl rfl rfl rfl (Nat.le_of_ble_eq_true rfl) rfl ⟨rfl, rfl⟩ dX3_addMultiple_35 rfl ?_
      show vs_V _ _ _ _ _ (.int (nI ((g i + x * g2 (i - sh)) % P)) :: _) _
      refine vs_callV (st := []) (c_setN hp hpo (k := i) (x := (g i + x * g2 (i - sh)) % P) (by omega)) lk_X3_41 lm_X3_set rfl hp.1 rfl rfl (Nat.le_of_ble_eq_true rfl) rfl ⟨rfl, rfl⟩ dX3_addMultiple_38 rfl ?_
      refine vs_eq (S2 := vs_ia S (o + 1) (nA (amk g g2 x sh P (i + 1)))) (by rw [vs_ia_ia, amk_s hs]) ?_
      refine vs_iinc (v := nI (i + 1)) [(5, .int (nI (i + 1))), (0, .ref (G.2.2.2 + o)), (1, .ref (G.2.2.2 + p)), (2, .int (nI x)), (3, .int (nI sh)), (4, .ref (G.2.2.2 + 1))] dX3_addMultiple_41 rfl 0 rfl (by first | exact nI_1 _ | (simp only [fa_lit, nI_add, pk_mul, nI_1]; rfl)) rfl rfl ?_
      refine vs_goto 3 dX3_addMultiple_44 rfl ?_
      refine vs_pick [0, 1, 2, 3, 4, 5] rfl ?_
      exact ih (i + 1) (by omega) (by omega)

theorem c_addMultiple {G : vv_G} {S : vs_S} {o : Nat} {g : Nat → Nat} (hp : vs_P o) (hg : pR S o g) {p : Nat} {g2 : Nat → Nat} (hq : vs_P p) (hg2 : pR S p g2) (hne : p ≠ o) {x sh : Nat} {P : Nat} (hP : S.1 1 0 = nI P) (hP1 : 2 ≤ P) (hP2 : P ≤ 30011) (hb : ∀ k, g k < P) (hb2 : ∀ k, g2 k < P) (hx : x < P) (hsh : sh ≤ 42) : vs_C G yX3_addMultiple cX3_addMultiple 6 none { frames := 1, locals := 24 } [.ref (G.2.2.2 + o), .ref (G.2.2.2 + p), .int (nI x), .int (nI sh), .ref (G.2.2.2 + 1)] S none (vs_ia S (o + 1) (nA (amk g g2 x sh P 42))) := by
  refine vs_of [(0, .ref (G.2.2.2 + o)), (1, .ref (G.2.2.2 + p)), (2, .int (nI x)), (3, .int (nI sh)), (4, .ref (G.2.2.2 + 1))] (by decide) rfl rfl ?_
  refine vs_iload_n 3 dX3_addMultiple_0 rfl rfl 3 rfl ?_
  refine vs_istore [(5, .int (nI sh)), (0, .ref (G.2.2.2 + o)), (1, .ref (G.2.2.2 + p)), (2, .int (nI x)), (3, .int (nI sh)), (4, .ref (G.2.2.2 + 1))] dX3_addMultiple_1 rfl rfl rfl ?_
  refine vs_pick [0, 1, 2, 3, 4, 5] rfl ?_
  refine vs_eq (S2 := vs_ia S (o + 1) (nA (amk g g2 x sh P sh))) (by rw [amk_0]; exact vs_ia_same hg.1) ?_
  exact l_am hp hg hq hg2 hne hP hP1 hP2 hb hb2 hx hsh rfl rfl (42 - sh) sh (by omega) (Nat.le_refl _)
end
section
def spk (g gl gr : Nat → Nat) (P : Nat) : Nat → Nat → Nat
  | 0 => g
  | i + 1 => amk (spk g gl gr P i) gr (nn_m (-(gl i : Int)) P) i P 42
theorem spk_z {g gl gr : Nat → Nat} {P : Nat} (h : ∀ k, 42 ≤ k → g k = 0) : ∀ i k, 42 ≤ k → spk g gl gr P i k = 0
  | 0 => h
  | i + 1 => amk_z (spk_z h i) (Nat.le_refl _)
theorem spk_b {g gl gr : Nat → Nat} {P : Nat} (h0 : 0 < P) (h : ∀ k, g k < P) : ∀ i k, spk g gl gr P i k < P
  | 0 => h
  | i + 1 => amk_b h0 (spk_b h0 h i)
theorem l_sp {G : vv_G} {S : vs_S} {o : Nat} {g : Nat → Nat} (hp : vs_P o) (hg : pR S o g) {p : Nat} {g2 : Nat → Nat} (hq : vs_P p) (hg2 : pR S p g2) (hne : p ≠ o) {u : Nat} {gl : Nat → Nat} (hu : vs_P u) (hgl : pR S u gl) (hne2 : u ≠ o) {P : Nat} (hP : S.1 1 0 = nI P) (hP1 : 2 ≤ P) (hP2 : P ≤ 30011) (hb : ∀ k, g k < P) (hb2 : ∀ k, g2 k < P) (hbl : ∀ k, gl k < P) {r : Option Value} {Sf : vs_S} (hr : r = none) (hS : vs_ia S (o + 1) (nA (spk g gl g2 P (tp gl 42))) = Sf) : ∀ d i : Nat, i + d = tp gl 42 → vs_V G cX3_subtractProduct (vs_M yX3_subtractProduct 6 none { frames := 2, locals := 49 } G r Sf) 9 [(5, .int (nI i)), (4, .int (nZ ((tp gl 42 : Int) - 1))), (0, .ref (G.2.2.2 + o)), (1, .ref (G.2.2.2 + u)), (2, .ref (G.2.2.2 + p)), (3, .ref (G.2.2.2 + 1))] [] (vs_ia S (o + 1) (nA (spk g gl g2 P i))) := by
  have htp := tp_le gl 42
  intro d
  induction d with
  | zero =>
    intro i hi
    obtain rfl : i = tp gl 42 := by omega
    refine vs_iload dX3_subtractProduct_9 rfl 0 rfl ?_
    refine vs_iload dX3_subtractProduct_11 rfl 1 rfl ?_
    refine vs_icmp_gt 40 dX3_subtractProduct_13 rfl rfl (fun c_13 => ?_) (fun c_13 => ?_)
    · exact vs_vret dX3_subtractProduct_40 hr hS
    · exact absurd (by rw [nI_Z, nZ_lt (by omega) (by omega) (by omega) (by omega)]; omega) c_13
  | succ d ih =>
    intro i hi
    have hgi := hbl i
    have hpo : pR (vs_ia S (o + 1) (nA (spk g gl g2 P i))) o (spk g gl g2 P i) := ⟨vs_ia_at, spk_z hg.2 i⟩
    have hpp : pR (vs_ia S (o + 1) (nA (spk g gl g2 P i))) p g2 := ⟨(vs_ia_ne (by omega)).trans hg2.1, hg2.2⟩
    have hpu : pR (vs_ia S (o + 1) (nA (spk g gl g2 P i))) u gl := ⟨(vs_ia_ne (by omega)).trans hgl.1, hgl.2⟩
    refine vs_iload dX3_subtractProduct_9 rfl 0 rfl ?_
    refine vs_iload dX3_subtractProduct_11 rfl 1 rfl ?_
    refine vs_icmp_gt 40 dX3_subtractProduct_13 rfl rfl (fun c_13 => ?_) (fun c_13 => ?_)
    · rw [nI_Z, nZ_lt (by omega) (by omega) (by omega) (by omega)] at c_13
      omega
    · refine vs_aload_n 0 dX3_subtractProduct_16 rfl rfl 2 rfl ?_
      refine vs_aload_n 2 dX3_subtractProduct_17 rfl rfl 4 rfl ?_
      refine vs_aload_n 3 dX3_subtractProduct_18 rfl rfl 5 rfl ?_
      refine vs_aload_n 1 dX3_subtractProduct_19 rfl rfl 3 rfl ?_
      refine vs_iload dX3_subtractProduct_20 rfl 0 rfl ?_
      refine vs_callV (st := [.ref (G.2.2.2 + 1), .ref (G.2.2.2 + p), .ref (G.2.2.2 + o)]) (c_atN hu hpu (k := i) (by omega)) lk_X3_37 lm_X3_at rfl hu.1 rfl rfl (Nat.le_of_ble_eq_true rfl) rfl ⟨rfl, rfl⟩ dX3_subtractProduct_22 rfl ?_
      show vs_V _ _ _ _ _ (.int (nI (gl i)) :: _) _
      refine vs_callV (st := [.ref (G.2.2.2 + p), .ref (G.2.2.2 + o)]) (c_negative (x := gl i) hP hP1 (by omega) (by omega)) lk_X3_49 lm_X5_negative rfl rfl rfl rfl (Nat.le_of_ble_eq_true rfl) rfl ⟨rfl, rfl⟩ dX3_subtractProduct_25 rfl ?_
      show vs_V _ _ _ _ _ (.int (nI (nn_m (-(gl i : Int)) P)) :: _) _
      refine vs_iload dX3_subtractProduct_28 rfl 0 rfl ?_
      refine vs_aload_n 3 dX3_subtractProduct_30 rfl rfl 5 rfl ?_
      refine vs_callV (st := []) (c_addMultiple hp hpo hq hpp hne (x := nn_m (-(gl i : Int)) P) (sh := i) hP hP1 hP2 (spk_b (by omega) hb i) hb2 (nn_m_lt (by omega)) (by omega)) lk_X3_52 lm_X3_addMultiple rfl hp.1 rfl rfl (Nat.le_of_ble_eq_true rfl) rfl ⟨rfl, rfl⟩ dX3_subtractProduct_31 rfl ?_
      refine vs_eq (S2 := vs_ia S (o + 1) (nA (spk g gl g2 P (i + 1)))) (by rw [vs_ia_ia]; rfl) ?_
      refine vs_iinc (v := nI (i + 1)) [(5, .int (nI (i + 1))), (4, .int (nZ ((tp gl 42 : Int) - 1))), (0, .ref (G.2.2.2 + o)), (1, .ref (G.2.2.2 + u)), (2, .ref (G.2.2.2 + p)), (3, .ref (G.2.2.2 + 1))] dX3_subtractProduct_34 rfl 0 rfl (by first | exact nI_1 _ | (simp only [fa_lit, nI_add, pk_mul, nI_1]; rfl)) rfl rfl ?_
      refine vs_goto 9 dX3_subtractProduct_37 rfl ?_
      refine vs_pick [0, 1, 2, 3, 4, 5] rfl ?_
      exact ih (i + 1) (by omega)

theorem c_subtractProduct {G : vv_G} {S : vs_S} {o : Nat} {g : Nat → Nat} (hp : vs_P o) (hg : pR S o g) {p : Nat} {g2 : Nat → Nat} (hq : vs_P p) (hg2 : pR S p g2) (hne : p ≠ o) {u : Nat} {gl : Nat → Nat} (hu : vs_P u) (hgl : pR S u gl) (hne2 : u ≠ o) {P : Nat} (hP : S.1 1 0 = nI P) (hP1 : 2 ≤ P) (hP2 : P ≤ 30011) (hb : ∀ k, g k < P) (hb2 : ∀ k, g2 k < P) (hbl : ∀ k, gl k < P) : vs_C G yX3_subtractProduct cX3_subtractProduct 6 none { frames := 2, locals := 49 } [.ref (G.2.2.2 + o), .ref (G.2.2.2 + u), .ref (G.2.2.2 + p), .ref (G.2.2.2 + 1)] S none (vs_ia S (o + 1) (nA (spk g gl g2 P (tp gl 42)))) := by
  refine vs_of [(0, .ref (G.2.2.2 + o)), (1, .ref (G.2.2.2 + u)), (2, .ref (G.2.2.2 + p)), (3, .ref (G.2.2.2 + 1))] (by decide) rfl rfl ?_
  refine vs_aload_n 1 dX3_subtractProduct_0 rfl rfl 1 rfl ?_
  refine vs_callV (st := []) (c_top hu hgl (fun k => by have := hbl k; omega)) lk_X3_45 lm_X3_top rfl hu.1 rfl rfl (Nat.le_of_ble_eq_true rfl) rfl ⟨rfl, rfl⟩ dX3_subtractProduct_1 rfl ?_
  show vs_V _ _ _ _ _ (.int (nZ ((tp gl 42 : Int) - 1)) :: _) _
  refine vs_istore [(4, .int (nZ ((tp gl 42 : Int) - 1))), (0, .ref (G.2.2.2 + o)), (1, .ref (G.2.2.2 + u)), (2, .ref (G.2.2.2 + p)), (3, .ref (G.2.2.2 + 1))] dX3_subtractProduct_4 rfl rfl rfl ?_
  refine vs_iconst (v := 0) dX3_subtractProduct_6 rfl rfl ?_
  refine vs_istore [(5, .int (0)), (4, .int (nZ ((tp gl 42 : Int) - 1))), (0, .ref (G.2.2.2 + o)), (1, .ref (G.2.2.2 + u)), (2, .ref (G.2.2.2 + p)), (3, .ref (G.2.2.2 + 1))] dX3_subtractProduct_7 rfl rfl rfl ?_
  refine vs_pick (L2 := [(5, .int (nI 0)), (4, .int (nZ ((tp gl 42 : Int) - 1))), (0, .ref (G.2.2.2 + o)), (1, .ref (G.2.2.2 + u)), (2, .ref (G.2.2.2 + p)), (3, .ref (G.2.2.2 + 1))]) [0, 1, 2, 3, 4, 5] rfl ?_
  refine vs_eq (S2 := vs_ia S (o + 1) (nA (spk g gl g2 P 0))) (vs_ia_same hg.1) ?_
  exact l_sp hp hg hq hg2 hne hu hgl hne2 hP hP1 hP2 hb hb2 hbl rfl rfl (tp gl 42) 0 (by omega)

def ark (g : Nat → Nat) (x P j : Nat) : Nat → Nat := fun k => if j ≤ k ∧ k < 42 then nn_m ((pz g ((k : Int) - 1) : Int) - (x : Int) * g k) P else g k
theorem ark_s {g : Nat → Nat} {x P j : Nat} (h0 : j < 42) : nu (ark g x P (j + 1)) j (nn_m ((pz g ((j : Int) - 1) : Int) - (x : Int) * g j) P) = ark g x P j := by
  funext k
  unfold nu ark
  by_cases h : k = j
  · rw [if_pos h, if_pos (by omega), h]
  · rw [if_neg h]
    by_cases h2 : j ≤ k ∧ k < 42
    · rw [if_pos h2, if_pos (by omega)]
    · rw [if_neg h2, if_neg (by omega)]
theorem ark_42 {g : Nat → Nat} {x P : Nat} : ark g x P 42 = g := funext fun k => if_neg (by omega)
theorem ark_z {g : Nat → Nat} {x P j : Nat} (h : ∀ k, 42 ≤ k → g k = 0) : ∀ k, 42 ≤ k → ark g x P j k = 0 := fun k hk => by
  unfold ark
  rw [if_neg (by omega)]
  exact h k hk
theorem ark_b {g : Nat → Nat} {x P j : Nat} (h0 : 0 < P) (h : ∀ k, g k < P) : ∀ k, ark g x P j k < P := fun k => by
  unfold ark
  by_cases h1 : j ≤ k ∧ k < 42
  · rw [if_pos h1]; exact nn_m_lt h0
  · rw [if_neg h1]; exact h k
theorem ark_lo {g : Nat → Nat} {x P j : Nat} {z : Int} (hz : z < j) : pz (ark g x P j) z = pz g z := by
  unfold pz
  by_cases h : z < 0
  · rw [if_pos h, if_pos h]
  · rw [if_neg h, if_neg h]
    exact if_neg (by omega)
theorem l_ar {G : vv_G} {S : vs_S} {o : Nat} {g : Nat → Nat} (hp : vs_P o) (hg : pR S o g) {x : Nat} {P : Nat} (hP : S.1 1 0 = nI P) (hP1 : 2 ≤ P) (hP2 : P ≤ 30011) (hb : ∀ k, g k < P) (hx : x < P) {r : Option Value} {Sf : vs_S} (hr : r = none) (hS : vs_ia S (o + 1) (nA (ark g x P 0)) = Sf) : ∀ j : Nat, j ≤ 42 → vs_V G cX3_addRoot (vs_M yX3_addRoot 4 none { frames := 1, locals := 24 } G r Sf) 3 [(3, .int (nZ ((j : Int) - 1))), (0, .ref (G.2.2.2 + o)), (1, .int (nI x)), (2, .ref (G.2.2.2 + 1))] [] (vs_ia S (o + 1) (nA (ark g x P j))) := by
  intro j
  induction j with
  | zero =>
    intro _
    refine vs_iload_n 3 dX3_addRoot_3 rfl rfl 0 rfl ?_
    refine vs_if_lt 42 dX3_addRoot_4 rfl rfl (fun c_4 => ?_) (fun c_4 => ?_)
    · exact vs_vret dX3_addRoot_42 hr hS
    · exact absurd (show nZ (((0 : Nat) : Int) - 1) < 0 by decide) c_4
  | succ j ih =>
    intro hj
    have hgj := hb j
    have e1 : nZ (((j + 1 : Nat) : Int) - 1) = nI j := by rw [nI_Z]; congr 1; omega
    rw [e1]
    have hpo : pR (vs_ia S (o + 1) (nA (ark g x P (j + 1)))) o (ark g x P (j + 1)) := ⟨vs_ia_at, ark_z hg.2⟩
    have hpz : pz g ((j : Int) - 1) < P := pz_lt (by omega) hb
    have e0 : ark g x P (j + 1) j = g j := if_neg (by omega)
    refine vs_iload_n 3 dX3_addRoot_3 rfl rfl 0 rfl ?_
    refine vs_if_lt 42 dX3_addRoot_4 rfl rfl (fun c_4 => ?_) (fun c_4 => ?_)
    · exact absurd c_4 (nI_pos (by omega))
    · refine vs_aload_n 0 dX3_addRoot_7 rfl rfl 1 rfl ?_
      refine vs_get (v := .ref (G.2.2.2 + (o + 1))) lf_X3_9 hp.1 rfl dX3_addRoot_8 rfl ?_
      refine vs_iload_n 3 dX3_addRoot_11 rfl rfl 0 rfl ?_
      refine vs_aload_n 2 dX3_addRoot_12 rfl rfl 3 rfl ?_
      refine vs_aload_n 0 dX3_addRoot_13 rfl rfl 1 rfl ?_
      refine vs_iload_n 3 dX3_addRoot_14 rfl rfl 0 rfl ?_
      refine vs_iconst (v := 1) dX3_addRoot_15 rfl rfl ?_
      refine vs_isub dX3_addRoot_16 rfl ?_
      refine vs_topi (fun z1 e_z1 => ?_)
      have f_z1 : z1 = nZ ((j : Int) - 1) := (by rw [e_z1, nI_Z, nZ_lit]; exact nZ_sub _ _)
      subst f_z1
      clear e_z1
      refine vs_callV (st := [.ref (G.2.2.2 + 1), .int (nI j), .ref (G.2.2.2 + (o + 1))]) (vs_cal (r2 := some (.int (nI (pz g ((j : Int) - 1))))) (c_at hp hpo) (by rw [nZ_i (by omega) (by omega), ark_lo (by omega)]) rfl) lk_X3_37 lm_X3_at rfl hp.1 rfl rfl (Nat.le_of_ble_eq_true rfl) rfl ⟨rfl, rfl⟩ dX3_addRoot_17 rfl ?_
      show vs_V _ _ _ _ _ (.int (nI (pz g ((j : Int) - 1))) :: _) _
      refine vs_i2l dX3_addRoot_20 rfl ?_
      refine vs_iload_n 1 dX3_addRoot_21 rfl rfl 2 rfl ?_
      refine vs_i2l dX3_addRoot_22 rfl ?_
      refine vs_aload_n 0 dX3_addRoot_23 rfl rfl 1 rfl ?_
      refine vs_get (v := .ref (G.2.2.2 + (o + 1))) lf_X3_9 hp.1 rfl dX3_addRoot_24 rfl ?_
      refine vs_iload_n 3 dX3_addRoot_27 rfl rfl 0 rfl ?_
      refine vs_ialdN (g := (ark g x P (j + 1))) (k := j) vs_ia_at hp.2 rfl (by omega) rfl dX3_addRoot_28 rfl ?_
      rw [e0]
      refine vs_i2l dX3_addRoot_29 rfl ?_
      refine vs_lmul dX3_addRoot_30 rfl ?_
      refine vs_lsub dX3_addRoot_31 rfl ?_
      refine vs_callV (st := [.int (nI j), .ref (G.2.2.2 + (o + 1))]) (c_ofZ (z := (pz g ((j : Int) - 1) : Int) - (x : Int) * g j) (nn_msub (by omega) (by omega) (by omega)) hP hP1 hP2) lk_X3_27 lm_X5_of rfl rfl rfl rfl (Nat.le_of_ble_eq_true rfl) rfl ⟨rfl, rfl⟩ dX3_addRoot_32 rfl ?_
      show vs_V _ _ _ _ _ (.int (nI (nn_m ((pz g ((j : Int) - 1) : Int) - (x : Int) * g j) P)) :: _) _
      refine vs_iastU (k := j) hp.2 rfl (by omega) rfl dX3_addRoot_35 rfl ?_
      refine vs_eq (S2 := vs_ia S (o + 1) (nA (ark g x P j))) (by rw [ark_s (by omega)]) ?_
      refine vs_iinc (v := nZ ((j : Int) - 1)) [(3, .int (nZ ((j : Int) - 1))), (0, .ref (G.2.2.2 + o)), (1, .int (nI x)), (2, .ref (G.2.2.2 + 1))] dX3_addRoot_36 rfl 0 rfl (by rw [nI_Z]; exact nZ_add _ _) rfl rfl ?_
      refine vs_goto 3 dX3_addRoot_39 rfl ?_
      refine vs_pick [0, 1, 2, 3] rfl ?_
      exact ih (by omega)

theorem c_addRoot {G : vv_G} {S : vs_S} {o : Nat} {g : Nat → Nat} (hp : vs_P o) (hg : pR S o g) {x : Nat} {P : Nat} (hP : S.1 1 0 = nI P) (hP1 : 2 ≤ P) (hP2 : P ≤ 30011) (hb : ∀ k, g k < P) (hx : x < P) : vs_C G yX3_addRoot cX3_addRoot 4 none { frames := 1, locals := 24 } [.ref (G.2.2.2 + o), .int (nI x), .ref (G.2.2.2 + 1)] S none (vs_ia S (o + 1) (nA (ark g x P 0))) := by
  refine vs_of [(0, .ref (G.2.2.2 + o)), (1, .int (nI x)), (2, .ref (G.2.2.2 + 1))] (by decide) rfl rfl ?_
  refine vs_bipush (v := 41) dX3_addRoot_0 rfl rfl ?_
  refine vs_istore_n 3 [(3, .int (41)), (0, .ref (G.2.2.2 + o)), (1, .int (nI x)), (2, .ref (G.2.2.2 + 1))] dX3_addRoot_2 rfl rfl rfl rfl ?_
  refine vs_pick (L2 := [(3, .int (nI 41)), (0, .ref (G.2.2.2 + o)), (1, .int (nI x)), (2, .ref (G.2.2.2 + 1))]) [0, 1, 2, 3] rfl ?_
  refine vs_eq (S2 := vs_ia S (o + 1) (nA (ark g x P 42))) (by rw [ark_42]; exact vs_ia_same hg.1) ?_
  exact l_ar hp hg hP hP1 hP2 hb hx rfl rfl 42 (Nat.le_refl _)

def dvk (gd : Nat → Nat) (low inv P : Nat) : Nat → (Nat → Nat) × (Nat → Nat) → (Nat → Nat) × (Nat → Nat)
  | 0, x => x
  | d + 1, x => dvk gd low inv P d (nu x.1 d (x.2 (low + d) * inv % P), amk x.2 gd (nn_m (-((x.2 (low + d) * inv % P : Nat) : Int)) P) d P 42)
/-- quotient and remainder as the class makes them -/
def dvd_ (g gd : Nat → Nat) (P : Nat) : (Nat → Nat) × (Nat → Nat) := if tp gd 42 = 0 then (fun _ => 0, g) else dvk gd (tp gd 42 - 1) (ipw (gd (tp gd 42 - 1)) P) P (tp g 42 - (tp gd 42 - 1)) (fun _ => 0, g)
theorem l_dv {G : vv_G} {S : vs_S} {o p u : Nat} {gd : Nat → Nat} (hp : vs_P o) (hq : vs_P p) (hgd : pR S p gd) (hne : p ≠ o) (hu : vs_P u) (hne2 : u ≠ o) (hne3 : u ≠ p) {P : Nat} (hP : S.1 1 0 = nI P) (hP1 : 2 ≤ P) (hP2 : P ≤ 30011) (hbd : ∀ k, gd k < P) {inv low : Nat} (hinv : inv < P) (hlow : low < 42) {r : Option Value} (hr : r = none) : ∀ (d : Nat) (z : Int) (qa ta : Nat → Nat) (Sf : vs_S), -1 ≤ z → z < 42 → (d = 0 → z < low) → (0 < d → z = low + d - 1) → (∀ k, 42 ≤ k → qa k = 0) → (∀ k, 42 ≤ k → ta k = 0) → (∀ k, ta k < P) → vs_ia (vs_ia S (u + 1) (nA (dvk gd low inv P d (qa, ta)).1)) (o + 1) (nA (dvk gd low inv P d (qa, ta)).2) = Sf → vs_V G cX3_divide (vs_M yX3_divide 8 none { frames := 2, locals := 49 } G r Sf) 35 [(6, .int (nZ z)), (5, .int (nI inv)), (4, .int (nI low)), (0, .ref (G.2.2.2 + o)), (1, .ref (G.2.2.2 + p)), (2, .ref (G.2.2.2 + u)), (3, .ref (G.2.2.2 + 1))] [] (vs_ia (vs_ia S (u + 1) (nA qa)) (o + 1) (nA ta)) := by
  intro d
  induction d with
  | zero =>
    intro z qa ta Sf hz1 hz2 hz _ hqz htz htb hS
    have hz3 := hz rfl
    refine vs_iload dX3_divide_35 rfl 0 rfl ?_
    refine vs_iload dX3_divide_37 rfl 2 rfl ?_
    refine vs_icmp_lt 90 dX3_divide_39 rfl rfl (fun c_39 => ?_) (fun c_39 => ?_)
    · exact vs_vret dX3_divide_90 hr hS
    · exact absurd (by rw [nI_Z, nZ_lt (by omega) (by omega) (by omega) (by omega)]; omega) c_39
  | succ d ih =>
    intro z qa ta Sf hz1 hz2 _ hz hqz htz htb hS
    have hz3 : z = ((low + d : Nat) : Int) := by have := hz (by omega); omega
    subst hz3
    rw [← nI_Z (low + d)]
    have htk := htb (low + d)
    have hfb : ta (low + d) * inv % P < P := Nat.mod_lt _ (by omega)
    have hpo : pR (vs_ia (vs_ia S (u + 1) (nA qa)) (o + 1) (nA ta)) o ta := ⟨vs_ia_at, htz⟩
    have hpu : pR (vs_ia (vs_ia S (u + 1) (nA qa)) (o + 1) (nA ta)) u qa := ⟨(vs_ia_ne (by omega)).trans vs_ia_at, hqz⟩
    have hqz2 : ∀ k, 42 ≤ k → nu qa d (ta (low + d) * inv % P) k = 0 := fun k hk => (nu_n (by omega)).trans (hqz k hk)
    have hpo2 : pR (vs_ia (vs_ia S (u + 1) (nA (nu qa d (ta (low + d) * inv % P)))) (o + 1) (nA ta)) o ta := ⟨vs_ia_at, htz⟩
    have hpp2 : pR (vs_ia (vs_ia S (u + 1) (nA (nu qa d (ta (low + d) * inv % P)))) (o + 1) (nA ta)) p gd := ⟨(vs_ia_ne (by omega)).trans ((vs_ia_ne (by omega)).trans hgd.1), hgd.2⟩
    refine vs_iload dX3_divide_35 rfl 0 rfl ?_
    refine vs_iload dX3_divide_37 rfl 2 rfl ?_
    refine vs_icmp_lt 90 dX3_divide_39 rfl rfl (fun c_39 => ?_) (fun c_39 => ?_)
    · exact absurd c_39 (nI_nlt (by omega) (by omega))
    · refine vs_aload_n 3 dX3_divide_42 rfl rfl 6 rfl ?_
      refine vs_aload_n 0 dX3_divide_43 rfl rfl 3 rfl ?_
      refine vs_iload dX3_divide_44 rfl 0 rfl ?_
      refine vs_callV (st := [.ref (G.2.2.2 + 1)]) (c_atN hp hpo (k := low + d) (by omega)) lk_X3_37 lm_X3_at rfl hp.1 rfl rfl (Nat.le_of_ble_eq_true rfl) rfl ⟨rfl, rfl⟩ dX3_divide_46 rfl ?_
      show vs_V _ _ _ _ _ (.int (nI (ta (low + d))) :: _) _
      refine vs_iload dX3_divide_49 rfl 1 rfl ?_
      refine vs_callV (st := []) (c_rproduct (x := ta (low + d)) (y := inv) hP hP1 (by omega) (by omega) (by omega)) lk_X3_33 lm_X5_product rfl rfl rfl rfl (Nat.le_of_ble_eq_true rfl) rfl ⟨rfl, rfl⟩ dX3_divide_51 rfl ?_
      show vs_V _ _ _ _ _ (.int (nI (ta (low + d) * inv % P)) :: _) _
      refine vs_istore [(7, .int (nI (ta (low + d) * inv % P))), (6, .int (nI (low + d))), (5, .int (nI inv)), (4, .int (nI low)), (0, .ref (G.2.2.2 + o)), (1, .ref (G.2.2.2 + p)), (2, .ref (G.2.2.2 + u)), (3, .ref (G.2.2.2 + 1))] dX3_divide_54 rfl rfl rfl ?_
      refine vs_aload_n 2 dX3_divide_56 rfl rfl 6 rfl ?_
      refine vs_iload dX3_divide_57 rfl 1 rfl ?_
      refine vs_iload dX3_divide_59 rfl 3 rfl ?_
      refine vs_isub dX3_divide_61 rfl ?_
      refine vs_topi (fun z1 e_z1 => ?_)
      have f_z1 : z1 = nI d := (by rw [e_z1, pk_sub (by omega)]; congr 1; omega)
      subst f_z1
      clear e_z1
      refine vs_iload dX3_divide_62 rfl 0 rfl ?_
      refine vs_callV (st := []) (c_setN hu hpu (k := d) (x := ta (low + d) * inv % P) (by omega)) lk_X3_41 lm_X3_set rfl hu.1 rfl rfl (Nat.le_of_ble_eq_true rfl) rfl ⟨rfl, rfl⟩ dX3_divide_64 rfl ?_
      refine vs_eq (S2 := vs_ia (vs_ia S (u + 1) (nA (nu qa d (ta (low + d) * inv % P)))) (o + 1) (nA ta)) (by rw [vs_ia_c (by omega), vs_ia_ia]) ?_
      refine vs_aload_n 0 dX3_divide_67 rfl rfl 4 rfl ?_
      refine vs_aload_n 1 dX3_divide_68 rfl rfl 5 rfl ?_
      refine vs_aload_n 3 dX3_divide_69 rfl rfl 7 rfl ?_
      refine vs_iload dX3_divide_70 rfl 0 rfl ?_
      refine vs_callV (st := [.ref (G.2.2.2 + p), .ref (G.2.2.2 + o)]) (c_negative (x := ta (low + d) * inv % P) hP hP1 (by omega) (by omega)) lk_X3_49 lm_X5_negative rfl rfl rfl rfl (Nat.le_of_ble_eq_true rfl) rfl ⟨rfl, rfl⟩ dX3_divide_72 rfl ?_
      show vs_V _ _ _ _ _ (.int (nI (nn_m (-((ta (low + d) * inv % P : Nat) : Int)) P)) :: _) _
      refine vs_iload dX3_divide_75 rfl 1 rfl ?_
      refine vs_iload dX3_divide_77 rfl 3 rfl ?_
      refine vs_isub dX3_divide_79 rfl ?_
      refine vs_topi (fun z2 e_z2 => ?_)
      have f_z2 : z2 = nI d := (by rw [e_z2, pk_sub (by omega)]; congr 1; omega)
      subst f_z2
      clear e_z2
      refine vs_aload_n 3 dX3_divide_80 rfl rfl 7 rfl ?_
      refine vs_callV (st := []) (c_addMultiple hp hpo2 hq hpp2 hne (x := nn_m (-((ta (low + d) * inv % P : Nat) : Int)) P) (sh := d) hP hP1 hP2 htb hbd (nn_m_lt (by omega)) (by omega)) lk_X3_52 lm_X3_addMultiple rfl hp.1 rfl rfl (Nat.le_of_ble_eq_true rfl) rfl ⟨rfl, rfl⟩ dX3_divide_81 rfl ?_
      refine vs_eq (S2 := vs_ia (vs_ia S (u + 1) (nA (nu qa d (ta (low + d) * inv % P)))) (o + 1) (nA (amk ta gd (nn_m (-((ta (low + d) * inv % P : Nat) : Int)) P) d P 42))) (by rw [vs_ia_ia]) ?_
      refine vs_iinc (v := nZ (((low + d : Nat) : Int) - 1)) [(6, .int (nZ (((low + d : Nat) : Int) - 1))), (7, .int (nI (ta (low + d) * inv % P))), (5, .int (nI inv)), (4, .int (nI low)), (0, .ref (G.2.2.2 + o)), (1, .ref (G.2.2.2 + p)), (2, .ref (G.2.2.2 + u)), (3, .ref (G.2.2.2 + 1))] dX3_divide_84 rfl 1 rfl (by rw [nI_Z]; exact nZ_add _ _) rfl rfl ?_
      refine vs_goto 35 dX3_divide_87 rfl ?_
      refine vs_pick [0, 2, 3, 4, 5, 6, 7] rfl ?_
      exact ih _ _ _ Sf (by omega) (by omega) (by omega) (by omega) hqz2 (amk_z htz (Nat.le_refl _)) (amk_b (by omega) htb) hS

theorem c_divide {G : vv_G} {S : vs_S} {o : Nat} {g : Nat → Nat} (hp : vs_P o) (hg : pR S o g) {p : Nat} {gd : Nat → Nat} (hq : vs_P p) (hgd : pR S p gd) (hne : p ≠ o) {u : Nat} (hu : vs_P u) (hne2 : u ≠ o) (hne3 : u ≠ p) {P : Nat} (hP : S.1 1 0 = nI P) (hP1 : 2 ≤ P) (hP2 : P ≤ 30011) (hb : ∀ k, g k < P) (hbd : ∀ k, gd k < P) {gq : Nat → Nat} (hgq : pR S u gq) : vs_C G yX3_divide cX3_divide 8 none { frames := 2, locals := 49 } [.ref (G.2.2.2 + o), .ref (G.2.2.2 + p), .ref (G.2.2.2 + u), .ref (G.2.2.2 + 1)] S none (vs_ia (vs_ia S (u + 1) (nA (dvd_ g gd P).1)) (o + 1) (nA (dvd_ g gd P).2)) := by
  refine vs_of [(0, .ref (G.2.2.2 + o)), (1, .ref (G.2.2.2 + p)), (2, .ref (G.2.2.2 + u)), (3, .ref (G.2.2.2 + 1))] (by decide) rfl rfl ?_
  have htp := tp_le gd 42
  have htg := tp_le g 42
  have e00 : pcon 0 = fun _ => 0 := funext fun k => ite_self _
  have hS0 : vs_ia S (u + 1) (nA (fun _ => 0)) = vs_ia (vs_ia S (u + 1) (nA (fun _ => 0))) (o + 1) (nA g) := vs_ia_same ((vs_ia_ne (by omega)).trans hg.1)
  have hpo : pR (vs_ia (vs_ia S (u + 1) (nA (fun _ => 0))) (o + 1) (nA g)) o g := ⟨vs_ia_at, hg.2⟩
  have hpp : pR (vs_ia (vs_ia S (u + 1) (nA (fun _ => 0))) (o + 1) (nA g)) p gd := ⟨(vs_ia_ne (by omega)).trans ((vs_ia_ne (by omega)).trans hgd.1), hgd.2⟩
  have hbl := hbd (tp gd 42 - 1)
  refine vs_aload_n 2 dX3_divide_0 rfl rfl 2 rfl ?_
  refine vs_iconst (v := 0) dX3_divide_1 rfl rfl ?_
  refine vs_callV (st := []) (c_becomeNumber hu hgq (x := 0)) lk_X3_56 lm_X3_becomeNumber rfl hu.1 rfl rfl (Nat.le_of_ble_eq_true rfl) rfl ⟨rfl, rfl⟩ dX3_divide_2 rfl ?_
  refine vs_eq (S2 := vs_ia (vs_ia S (u + 1) (nA (fun _ => 0))) (o + 1) (nA g)) (by rw [e00]; exact hS0) ?_
  refine vs_aload_n 1 dX3_divide_5 rfl rfl 1 rfl ?_
  refine vs_callV (st := []) (c_top hq hpp (fun k => by have := hbd k; omega)) lk_X3_45 lm_X3_top rfl hq.1 rfl rfl (Nat.le_of_ble_eq_true rfl) rfl ⟨rfl, rfl⟩ dX3_divide_6 rfl ?_
  show vs_V _ _ _ _ _ (.int (nZ ((tp gd 42 : Int) - 1)) :: _) _
  refine vs_istore [(4, .int (nZ ((tp gd 42 : Int) - 1))), (0, .ref (G.2.2.2 + o)), (1, .ref (G.2.2.2 + p)), (2, .ref (G.2.2.2 + u)), (3, .ref (G.2.2.2 + 1))] dX3_divide_9 rfl rfl rfl ?_
  refine vs_iload dX3_divide_11 rfl 0 rfl ?_
  refine vs_if_ge 17 dX3_divide_13 rfl rfl (fun c_13 => ?_) (fun c_13 => ?_)
  · have hT : 0 < tp gd 42 := by
      rw [show (0 : Int32) = nZ 0 from rfl, nZ_le (by omega) (by omega) (by omega) (by omega)] at c_13
      omega
    have eL : nZ ((tp gd 42 : Int) - 1) = nI (tp gd 42 - 1) := by rw [nI_Z]; congr 1; omega
    rw [eL]
    refine vs_aload_n 3 dX3_divide_17 rfl rfl 4 rfl ?_
    refine vs_aload_n 1 dX3_divide_18 rfl rfl 2 rfl ?_
    refine vs_iload dX3_divide_19 rfl 0 rfl ?_
    refine vs_callV (st := [.ref (G.2.2.2 + 1)]) (c_atN hq hpp (k := tp gd 42 - 1) (by omega)) lk_X3_37 lm_X3_at rfl hq.1 rfl rfl (Nat.le_of_ble_eq_true rfl) rfl ⟨rfl, rfl⟩ dX3_divide_21 rfl ?_
    show vs_V _ _ _ _ _ (.int (nI (gd (tp gd 42 - 1))) :: _) _
    refine vs_callV (st := []) (c_rinverse (a := gd (tp gd 42 - 1)) hP hP1 hP2 hbl) lk_X3_60 lm_X5_inverse rfl rfl rfl rfl (Nat.le_of_ble_eq_true rfl) rfl ⟨rfl, rfl⟩ dX3_divide_24 rfl ?_
    show vs_V _ _ _ _ _ (.int (nI (ipw (gd (tp gd 42 - 1)) P)) :: _) _
    refine vs_istore [(5, .int (nI (ipw (gd (tp gd 42 - 1)) P))), (4, .int (nI (tp gd 42 - 1))), (0, .ref (G.2.2.2 + o)), (1, .ref (G.2.2.2 + p)), (2, .ref (G.2.2.2 + u)), (3, .ref (G.2.2.2 + 1))] dX3_divide_27 rfl rfl rfl ?_
    refine vs_aload_n 0 dX3_divide_29 rfl rfl 2 rfl ?_
    refine vs_callV (st := []) (c_top hp hpo (fun k => by have := hb k; omega)) lk_X3_45 lm_X3_top rfl hp.1 rfl rfl (Nat.le_of_ble_eq_true rfl) rfl ⟨rfl, rfl⟩ dX3_divide_30 rfl ?_
    show vs_V _ _ _ _ _ (.int (nZ ((tp g 42 : Int) - 1)) :: _) _
    refine vs_istore [(6, .int (nZ ((tp g 42 : Int) - 1))), (5, .int (nI (ipw (gd (tp gd 42 - 1)) P))), (4, .int (nI (tp gd 42 - 1))), (0, .ref (G.2.2.2 + o)), (1, .ref (G.2.2.2 + p)), (2, .ref (G.2.2.2 + u)), (3, .ref (G.2.2.2 + 1))] dX3_divide_33 rfl rfl rfl ?_
    refine vs_pick [0, 1, 2, 3, 4, 5, 6] rfl ?_
    have eD : dvd_ g gd P = dvk gd (tp gd 42 - 1) (ipw (gd (tp gd 42 - 1)) P) P (tp g 42 - (tp gd 42 - 1)) (fun _ => 0, g) := if_neg (by omega)
    rw [eD]
    exact l_dv hp hq hgd hne hu hne2 hne3 hP hP1 hP2 hbd (ipw_lt hP1) (by omega) rfl (tp g 42 - (tp gd 42 - 1)) _ _ _ _ (by omega) (by omega) (by omega) (by omega) (fun _ _ => rfl) hg.2 hb rfl
  · have hT : tp gd 42 = 0 := by
      rw [show (0 : Int32) = nZ 0 from rfl, nZ_le (by omega) (by omega) (by omega) (by omega)] at c_13
      omega
    have eD : dvd_ g gd P = (fun _ => 0, g) := if_pos hT
    exact vs_vret dX3_divide_16 rfl (by rw [eD])
end
section
/-- the digest's mixing of n numbers -/
def mx (f : Nat → Int64) (h : Int64) : Nat → Int64
  | 0 => h
  | i + 1 => 31 * mx f h i + f i
theorem c_mixed {G : vv_G} {S : vs_S} {h v : Int64} : vs_C G yX9_mixed cX9_mixed 4 (some .long) { frames := 0, locals := 0 } [.long (h), .long (v)] S (some (.long (31 * h + v))) S := by
  refine vs_of [(0, .long (h)), (2, .long (v))] (by decide) rfl rfl ?_
  refine vs_ldc2 lc_X9_293 dX9_mixed_0 rfl ?_
  refine vs_lload_n 0 dX9_mixed_3 rfl rfl 0 rfl ?_
  refine vs_lmul dX9_mixed_4 rfl ?_
  refine vs_lload_n 2 dX9_mixed_5 rfl rfl 1 rfl ?_
  refine vs_ladd dX9_mixed_6 rfl ?_
  exact vs_lret dX9_mixed_7 rfl rfl

theorem l_pmix {G : vv_G} {S : vs_S} {o : Nat} {g : Nat → Nat} (hp : vs_P o) (hg : pR S o g) {h : Int64} {n : Nat} (hn : n ≤ 2000) {r : Option Value} {Sf : vs_S} (hr : r = some (.long (mx (fun k => (nI (g k)).toInt64) h n))) (hS : S = Sf) : ∀ d i : Nat, i + d = n → vs_V G cX3_mixedInto (vs_M yX3_mixedInto 7 (some .long) { frames := 1, locals := 23 } G r Sf) 6 [(6, .int (nI i)), (4, .long (mx (fun k => (nI (g k)).toInt64) h i)), (0, .ref (G.2.2.2 + o)), (1, .long (h)), (3, .int (nZ ((n : Int) - 1)))] [] S := by
  intro d
  induction d with
  | zero =>
    intro i hi
    obtain rfl : i = n := by omega
    refine vs_iload dX3_mixedInto_6 rfl 0 rfl ?_
    refine vs_iload_n 3 dX3_mixedInto_8 rfl rfl 4 rfl ?_
    refine vs_icmp_gt 32 dX3_mixedInto_9 rfl rfl (fun c_9 => ?_) (fun c_9 => ?_)
    · refine vs_lload dX3_mixedInto_32 rfl 1 rfl ?_
      exact vs_lret dX3_mixedInto_34 hr hS
    · exact absurd (by rw [nI_Z, nZ_lt (by omega) (by omega) (by omega) (by omega)]; omega) c_9
  | succ d ih =>
    intro i hi
    refine vs_iload dX3_mixedInto_6 rfl 0 rfl ?_
    refine vs_iload_n 3 dX3_mixedInto_8 rfl rfl 4 rfl ?_
    refine vs_icmp_gt 32 dX3_mixedInto_9 rfl rfl (fun c_9 => ?_) (fun c_9 => ?_)
    · rw [nI_Z, nZ_lt (by omega) (by omega) (by omega) (by omega)] at c_9
      omega
    · refine vs_lload dX3_mixedInto_12 rfl 1 rfl ?_
      refine vs_aload_n 0 dX3_mixedInto_14 rfl rfl 2 rfl ?_
      refine vs_iload dX3_mixedInto_15 rfl 0 rfl ?_
      refine vs_callV (st := [.long (mx (fun k => (nI (g k)).toInt64) h i)]) (c_atN hp hg (k := i) (by omega)) lk_X3_37 lm_X3_at rfl hp.1 rfl rfl (Nat.le_of_ble_eq_true rfl) rfl ⟨rfl, rfl⟩ dX3_mixedInto_17 rfl ?_
      show vs_V _ _ _ _ _ (.int (nI (g i)) :: _) _
      refine vs_i2l dX3_mixedInto_20 rfl ?_
      refine vs_callS (st := []) (c_mixed (h := mx (fun k => (nI (g k)).toInt64) h i) (v := (nI (g i)).toInt64)) lk_X3_63 lm_X9_mixed rfl rfl (Nat.le_of_ble_eq_true rfl) rfl ⟨rfl, rfl⟩ dX3_mixedInto_21 rfl ?_
      show vs_V _ _ _ _ _ (.long (31 * mx (fun k => (nI (g k)).toInt64) h i + (nI (g i)).toInt64) :: _) _
      refine vs_topl (fun x1 e_x1 => ?_)
      refine vs_lstore [(4, .long (x1)), (6, .int (nI i)), (0, .ref (G.2.2.2 + o)), (1, .long (h)), (3, .int (nZ ((n : Int) - 1)))] dX3_mixedInto_24 rfl rfl rfl ?_
      refine vs_iinc (v := nI (i + 1)) [(6, .int (nI (i + 1))), (4, .long (x1)), (0, .ref (G.2.2.2 + o)), (1, .long (h)), (3, .int (nZ ((n : Int) - 1)))] dX3_mixedInto_26 rfl 1 rfl (by first | exact nI_1 _ | (simp only [fa_lit, nI_add, pk_mul, nI_1]; rfl)) rfl rfl ?_
      refine vs_goto 6 dX3_mixedInto_29 rfl ?_
      subst e_x1
      refine vs_pick [0, 1, 2, 3, 4] rfl ?_
      exact ih (i + 1) (by omega)

theorem c_pmixedInto {G : vv_G} {S : vs_S} {o : Nat} {g : Nat → Nat} (hp : vs_P o) (hg : pR S o g) {h : Int64} {n : Nat} (hn : n ≤ 2000) : vs_C G yX3_mixedInto cX3_mixedInto 7 (some .long) { frames := 1, locals := 23 } [.ref (G.2.2.2 + o), .long (h), .int (nZ ((n : Int) - 1))] S (some (.long (mx (fun k => (nI (g k)).toInt64) h n))) S := by
  refine vs_of [(0, .ref (G.2.2.2 + o)), (1, .long (h)), (3, .int (nZ ((n : Int) - 1)))] (by decide) rfl rfl ?_
  refine vs_lload_n 1 dX3_mixedInto_0 rfl rfl 1 rfl ?_
  refine vs_lstore [(4, .long (h)), (0, .ref (G.2.2.2 + o)), (1, .long (h)), (3, .int (nZ ((n : Int) - 1)))] dX3_mixedInto_1 rfl rfl rfl ?_
  refine vs_iconst (v := 0) dX3_mixedInto_3 rfl rfl ?_
  refine vs_istore [(6, .int (0)), (4, .long (h)), (0, .ref (G.2.2.2 + o)), (1, .long (h)), (3, .int (nZ ((n : Int) - 1)))] dX3_mixedInto_4 rfl rfl rfl ?_
  refine vs_pick (L2 := [(6, .int (nI 0)), (4, .long (h)), (0, .ref (G.2.2.2 + o)), (1, .long (h)), (3, .int (nZ ((n : Int) - 1)))]) [0, 1, 2, 3, 4] rfl ?_
  exact l_pmix hp hg hn rfl rfl n 0 (by omega)

theorem l_fillL {G : vv_G} {S : vs_S} {o N : Nat} {v : Int64} (hT : vs_T[o]? = some (.inl (1, N))) (hN : N < 1073741824) {r : Option Value} {Sf : vs_S} (hr : r = none) (hS : vs_la S o (nfill (S.2.2.1 o) v N) = Sf) : ∀ d i, i + d = N → vs_V G cJ7_fill_d0a16 (vs_M yJ7_fill_d0a16 5 none { frames := 0, locals := 0 } G r Sf) 6 [(4, .int (nI N)), (3, .int (nI i)), (0, .ref (G.2.2.2 + o)), (1, .long (v))] [] (vs_la S o (nfill (S.2.2.1 o) v i)) := by
  intro d
  induction d with
  | zero =>
    intro i hi
    obtain rfl : i = N := by omega
    refine vs_iload_n 3 dJ7_fill_d0a16_6 rfl rfl 1 rfl ?_
    refine vs_iload dJ7_fill_d0a16_7 rfl 0 rfl ?_
    refine vs_icmp_ge 22 dJ7_fill_d0a16_9 rfl rfl (fun c_9 => ?_) (fun c_9 => ?_)
    · exact vs_vret dJ7_fill_d0a16_22 hr hS
    · exact absurd (nI_le (Nat.le_refl _) (by omega)) c_9
  | succ d ih =>
    intro i hi
    refine vs_iload_n 3 dJ7_fill_d0a16_6 rfl rfl 1 rfl ?_
    refine vs_iload dJ7_fill_d0a16_7 rfl 0 rfl ?_
    refine vs_icmp_ge 22 dJ7_fill_d0a16_9 rfl rfl (fun c_9 => ?_) (fun c_9 => ?_)
    · exact absurd c_9 (nI_ge (by omega) (by omega))
    · refine vs_aload_n 0 dJ7_fill_d0a16_12 rfl rfl 2 rfl ?_
      refine vs_iload_n 3 dJ7_fill_d0a16_13 rfl rfl 1 rfl ?_
      refine vs_lload_n 1 dJ7_fill_d0a16_14 rfl rfl 3 rfl ?_
      refine vs_last (k := i) hT rfl (by omega) (Nat.ble_eq_true_of_le (by omega)) dJ7_fill_d0a16_15 rfl ?_
      refine vs_eq (S2 := vs_la S o (nfill (S.2.2.1 o) v (i + 1))) (by rw [vs_la_at, nfill_sL, vs_la_la]) ?_
      refine vs_iinc (v := nI (i + 1)) [(3, .int (nI (i + 1))), (4, .int (nI N)), (0, .ref (G.2.2.2 + o)), (1, .long (v))] dJ7_fill_d0a16_16 rfl 1 rfl (by first | exact nI_1 _ | (simp only [fa_lit, nI_add, pk_mul, nI_1]; rfl)) rfl rfl ?_
      refine vs_goto 6 dJ7_fill_d0a16_19 rfl ?_
      refine vs_pick [1, 0, 2, 3] rfl ?_
      exact ih (i + 1) (by omega)

theorem c_fillL {G : vv_G} {S : vs_S} {o N : Nat} {v : Int64} (hT : vs_T[o]? = some (.inl (1, N))) (hN : N < 1073741824) : vs_C G yJ7_fill_d0a16 cJ7_fill_d0a16 5 none { frames := 0, locals := 0 } [.ref (G.2.2.2 + o), .long (v)] S none (vs_la S o (nfill (S.2.2.1 o) v N)) := by
  refine vs_of [(0, .ref (G.2.2.2 + o)), (1, .long (v))] (by decide) rfl rfl ?_
  refine vs_iconst (v := 0) dJ7_fill_d0a16_0 rfl rfl ?_
  refine vs_istore_n 3 [(3, .int (0)), (0, .ref (G.2.2.2 + o)), (1, .long (v))] dJ7_fill_d0a16_1 rfl rfl rfl rfl ?_
  refine vs_aload_n 0 dJ7_fill_d0a16_2 rfl rfl 1 rfl ?_
  refine vs_alenL hT dJ7_fill_d0a16_3 rfl ?_
  refine vs_topi (fun z1 e_z1 => ?_)
  have f_z1 : z1 = nI N := e_z1
  subst f_z1
  clear e_z1
  refine vs_istore [(4, .int (nI N)), (3, .int (0)), (0, .ref (G.2.2.2 + o)), (1, .long (v))] dJ7_fill_d0a16_4 rfl rfl rfl ?_
  refine vs_pick (L2 := [(4, .int (nI N)), (3, .int (nI 0)), (0, .ref (G.2.2.2 + o)), (1, .long (v))]) [0, 1, 2, 3] rfl ?_
  refine vs_eq (S2 := vs_la S o (nfill (S.2.2.1 o) v 0)) (by rw [nfill_0, vs_la_self]) ?_
  exact l_fillL hT hN rfl rfl N 0 (by omega)

def vs_St (o : Nat) : Prop := vs_T[o]? = some (.inr (8, [some (o + 1), none, none, none])) ∧ vs_T[o + 1]? = some (.inl (1, 60))
def cst (ln : Nat) (v : Int64) : Int64 := if ln = 0 then v.toInt32.toInt8.toInt32.toInt64 else if ln = 1 then v.toInt32.toInt16.toInt32.toInt64 else if ln = 2 then v.toInt32.toInt64 else v
theorem c_renew {G : vv_G} {S : vs_S} {o : Nat} (ht : vs_St o) {a b : Int32} : vs_C G yX8_renew cX8_renew 3 none { frames := 1, locals := 24 } [.ref (G.2.2.2 + o), .int (a), .int (b)] S none (vs_sc (vs_sc (vs_sc (vs_la S (o + 1) (nfill (S.2.2.1 (o + 1)) 0 60)) o 1 0) o 2 a) o 3 b) := by
  refine vs_of [(0, .ref (G.2.2.2 + o)), (1, .int (a)), (2, .int (b))] (by decide) rfl rfl ?_
  refine vs_aload_n 0 dX8_renew_0 rfl rfl 0 rfl ?_
  refine vs_get (v := .ref (G.2.2.2 + (o + 1))) lf_X8_9 ht.1 rfl dX8_renew_1 rfl ?_
  refine vs_lconst (v := 0) dX8_renew_4 rfl rfl ?_
  refine vs_callS (st := []) (c_fillL (N := 60) (v := 0) ht.2 (by decide)) lk_X8_26 lm_J7_fill_d0a16 rfl rfl (Nat.le_of_ble_eq_true rfl) rfl ⟨rfl, rfl⟩ dX8_renew_5 rfl ?_
  refine vs_aload_n 0 dX8_renew_8 rfl rfl 0 rfl ?_
  refine vs_iconst (v := 0) dX8_renew_9 rfl rfl ?_
  refine vs_put lf_X8_15 ht.1 rfl rfl rfl dX8_renew_10 rfl ?_
  refine vs_aload_n 0 dX8_renew_13 rfl rfl 0 rfl ?_
  refine vs_iload_n 1 dX8_renew_14 rfl rfl 1 rfl ?_
  refine vs_put lf_X8_19 ht.1 rfl rfl rfl dX8_renew_15 rfl ?_
  refine vs_aload_n 0 dX8_renew_18 rfl rfl 0 rfl ?_
  refine vs_iload_n 2 dX8_renew_19 rfl rfl 2 rfl ?_
  refine vs_put lf_X8_23 ht.1 rfl rfl rfl dX8_renew_20 rfl ?_
  exact vs_vret dX8_renew_23 rfl rfl

theorem c_hasPlaces {G : vv_G} {S : vs_S} {o : Nat} (ht : vs_St o) {sz : Nat} (hsz : S.1 o 3 = nI sz) (hsz2 : sz ≤ 60) {a b : Int32} : vs_C G yX8_hasPlaces cX8_hasPlaces 3 (some .boolean) { frames := 0, locals := 0 } [.ref (G.2.2.2 + o), .int (a), .int (b)] S (some (.int (if 0 ≤ b.toInt ∧ 0 ≤ a.toInt ∧ a.toInt + b.toInt ≤ sz then 1 else 0))) S := by
  refine vs_of [(0, .ref (G.2.2.2 + o)), (1, .int (a)), (2, .int (b))] (by decide) rfl rfl ?_
  refine vs_iload_n 2 dX8_hasPlaces_0 rfl rfl 2 rfl ?_
  refine vs_if_lt 22 dX8_hasPlaces_1 rfl rfl (fun c_1 => ?_) (fun c_1 => ?_)
  · refine vs_iconst (v := 0) dX8_hasPlaces_22 rfl rfl ?_
    exact vs_zret dX8_hasPlaces_23 (by first | exact Or.inl rfl | exact Or.inr rfl) (by
    have h0 : (0 : Int32).toInt = 0 := rfl
    have ha1 := a.le_toInt
    have ha2 := a.toInt_lt
    have hb1 := b.le_toInt
    have hb2 := b.toInt_lt
    simp only [fa_lt, h0] at *
    first
    | (rw [if_neg (by omega)]; done)
    | (rw [nZ_i (by omega) (by omega)] at c_15; first | (rw [if_neg (by omega)]; done) | (rw [if_pos (by omega)]; done))) rfl
  · refine vs_iload_n 1 dX8_hasPlaces_4 rfl rfl 1 rfl ?_
    refine vs_if_lt 22 dX8_hasPlaces_5 rfl rfl (fun c_5 => ?_) (fun c_5 => ?_)
    · refine vs_iconst (v := 0) dX8_hasPlaces_22 rfl rfl ?_
      exact vs_zret dX8_hasPlaces_23 (by first | exact Or.inl rfl | exact Or.inr rfl) (by
    have h0 : (0 : Int32).toInt = 0 := rfl
    have ha1 := a.le_toInt
    have ha2 := a.toInt_lt
    have hb1 := b.le_toInt
    have hb2 := b.toInt_lt
    simp only [fa_lt, h0] at *
    first
    | (rw [if_neg (by omega)]; done)
    | (rw [nZ_i (by omega) (by omega)] at c_15; first | (rw [if_neg (by omega)]; done) | (rw [if_pos (by omega)]; done))) rfl
    · refine vs_iload_n 1 dX8_hasPlaces_8 rfl rfl 1 rfl ?_
      refine vs_aload_n 0 dX8_hasPlaces_9 rfl rfl 0 rfl ?_
      refine vs_get (v := .int (nI sz)) lf_X8_23 ht.1 (congrArg (fun z => some (Value.int z)) hsz) dX8_hasPlaces_10 rfl ?_
      refine vs_iload_n 2 dX8_hasPlaces_13 rfl rfl 2 rfl ?_
      refine vs_isub dX8_hasPlaces_14 rfl ?_
      refine vs_topi (fun z1 e_z1 => ?_)
      have f_z1 : z1 = nZ ((sz : Int) - b.toInt) := (by rw [e_z1, nI_Z, ← nZ_of b, nZ_sub, nZ_of b])
      subst f_z1
      clear e_z1
      refine vs_icmp_gt 22 dX8_hasPlaces_15 rfl rfl (fun c_15 => ?_) (fun c_15 => ?_)
      · refine vs_iconst (v := 0) dX8_hasPlaces_22 rfl rfl ?_
        exact vs_zret dX8_hasPlaces_23 (by first | exact Or.inl rfl | exact Or.inr rfl) (by
    have h0 : (0 : Int32).toInt = 0 := rfl
    have ha1 := a.le_toInt
    have ha2 := a.toInt_lt
    have hb1 := b.le_toInt
    have hb2 := b.toInt_lt
    simp only [fa_lt, h0] at *
    first
    | (rw [if_neg (by omega)]; done)
    | (rw [nZ_i (by omega) (by omega)] at c_15; first | (rw [if_neg (by omega)]; done) | (rw [if_pos (by omega)]; done))) rfl
      · refine vs_iconst (v := 1) dX8_hasPlaces_18 rfl rfl ?_
        refine vs_goto 23 dX8_hasPlaces_19 rfl ?_
        exact vs_zret dX8_hasPlaces_23 (by first | exact Or.inl rfl | exact Or.inr rfl) (by
    have h0 : (0 : Int32).toInt = 0 := rfl
    have ha1 := a.le_toInt
    have ha2 := a.toInt_lt
    have hb1 := b.le_toInt
    have hb2 := b.toInt_lt
    simp only [fa_lt, h0] at *
    first
    | (rw [if_neg (by omega)]; done)
    | (rw [nZ_i (by omega) (by omega)] at c_15; first | (rw [if_neg (by omega)]; done) | (rw [if_pos (by omega)]; done))) rfl

theorem c_read {G : vv_G} {S : vs_S} {o : Nat} (ht : vs_St o) {k : Nat} (hk : k < 60) : vs_C G yX8_read cX8_read 2 (some .long) { frames := 0, locals := 0 } [.ref (G.2.2.2 + o), .int (nI k)] S (some (.long (S.2.2.1 (o + 1) k))) S := by
  refine vs_of [(0, .ref (G.2.2.2 + o)), (1, .int (nI k))] (by decide) rfl rfl ?_
  refine vs_iload_n 1 dX8_read_0 rfl rfl 1 rfl ?_
  refine vs_if_lt 19 dX8_read_1 rfl rfl (fun c_1 => ?_) (fun c_1 => ?_)
  · exact absurd c_1 (nI_pos (by omega))
  · refine vs_iload_n 1 dX8_read_4 rfl rfl 1 rfl ?_
    refine vs_bipush (v := 60) dX8_read_5 rfl rfl ?_
    refine vs_icmp_ge 19 dX8_read_7 rfl rfl (fun c_7 => ?_) (fun c_7 => ?_)
    · exact absurd c_7 (nI_ge (show k < 60 by omega) (by decide))
    · refine vs_aload_n 0 dX8_read_10 rfl rfl 0 rfl ?_
      refine vs_get (v := .ref (G.2.2.2 + (o + 1))) lf_X8_9 ht.1 rfl dX8_read_11 rfl ?_
      refine vs_iload_n 1 dX8_read_14 rfl rfl 1 rfl ?_
      refine vs_lald (k := k) ht.2 (by first | rfl | (simp only [fa_lit, nI_add, pk_mul, nI_1]; done) | omega) (by omega) rfl dX8_read_15 rfl ?_
      refine vs_goto 20 dX8_read_16 rfl ?_
      exact vs_lret dX8_read_20 rfl rfl

theorem c_castToLane {G : vv_G} {S : vs_S} {o : Nat} (ht : vs_St o) {ln : Nat} (hln : S.1 o 2 = nI ln) (hln2 : ln ≤ 3) {v : Int64} : vs_C G yX8_castToLane cX8_castToLane 3 (some .long) { frames := 0, locals := 0 } [.ref (G.2.2.2 + o), .long (v)] S (some (.long (cst ln v))) S := by
  refine vs_of [(0, .ref (G.2.2.2 + o)), (1, .long (v))] (by decide) rfl rfl ?_
  rcases (show ln = 0 ∨ ln = 1 ∨ ln = 2 ∨ ln = 3 by omega) with rfl | rfl | rfl | rfl
  · refine vs_aload_n 0 dX8_castToLane_0 rfl rfl 0 rfl ?_
    refine vs_get (v := .int (nI 0)) lf_X8_19 ht.1 (congrArg (fun z => some (Value.int z)) hln) dX8_castToLane_1 rfl ?_
    refine vs_tabIn 32 dX8_castToLane_4 (by decide) (by decide) rfl rfl ?_
    refine vs_lload_n 1 dX8_castToLane_32 rfl rfl 1 rfl ?_
    refine vs_l2i dX8_castToLane_33 rfl ?_
    refine vs_i2b dX8_castToLane_34 rfl ?_
    refine vs_i2l dX8_castToLane_35 rfl ?_
    exact vs_lret dX8_castToLane_36 rfl rfl
  · refine vs_aload_n 0 dX8_castToLane_0 rfl rfl 0 rfl ?_
    refine vs_get (v := .int (nI 1)) lf_X8_19 ht.1 (congrArg (fun z => some (Value.int z)) hln) dX8_castToLane_1 rfl ?_
    refine vs_tabIn 37 dX8_castToLane_4 (by decide) (by decide) rfl rfl ?_
    refine vs_lload_n 1 dX8_castToLane_37 rfl rfl 1 rfl ?_
    refine vs_l2i dX8_castToLane_38 rfl ?_
    refine vs_i2s dX8_castToLane_39 rfl ?_
    refine vs_i2l dX8_castToLane_40 rfl ?_
    exact vs_lret dX8_castToLane_41 rfl rfl
  · refine vs_aload_n 0 dX8_castToLane_0 rfl rfl 0 rfl ?_
    refine vs_get (v := .int (nI 2)) lf_X8_19 ht.1 (congrArg (fun z => some (Value.int z)) hln) dX8_castToLane_1 rfl ?_
    refine vs_tabIn 42 dX8_castToLane_4 (by decide) (by decide) rfl rfl ?_
    refine vs_lload_n 1 dX8_castToLane_42 rfl rfl 1 rfl ?_
    refine vs_l2i dX8_castToLane_43 rfl ?_
    refine vs_i2l dX8_castToLane_44 rfl ?_
    exact vs_lret dX8_castToLane_45 rfl rfl
  · refine vs_aload_n 0 dX8_castToLane_0 rfl rfl 0 rfl ?_
    refine vs_get (v := .int (nI 3)) lf_X8_19 ht.1 (congrArg (fun z => some (Value.int z)) hln) dX8_castToLane_1 rfl ?_
    refine vs_tabOut 46 dX8_castToLane_4 (by decide) rfl ?_
    refine vs_lload_n 1 dX8_castToLane_46 rfl rfl 1 rfl ?_
    exact vs_lret dX8_castToLane_47 rfl rfl

theorem c_write {G : vv_G} {S : vs_S} {o : Nat} (ht : vs_St o) {ln : Nat} (hln : S.1 o 2 = nI ln) (hln2 : ln ≤ 3) {k : Nat} (hk : k < 60) {v : Int64} : vs_C G yX8_write cX8_write 4 none { frames := 1, locals := 22 } [.ref (G.2.2.2 + o), .int (nI k), .long (v)] S none (vs_la S (o + 1) (vp_updL (S.2.2.1 (o + 1)) k (cst ln v))) := by
  refine vs_of [(0, .ref (G.2.2.2 + o)), (1, .int (nI k)), (2, .long (v))] (by decide) rfl rfl ?_
  refine vs_iload_n 1 dX8_write_0 rfl rfl 1 rfl ?_
  refine vs_if_lt 21 dX8_write_1 rfl rfl (fun c_1 => ?_) (fun c_1 => ?_)
  · exact absurd c_1 (nI_pos (by omega))
  · refine vs_iload_n 1 dX8_write_4 rfl rfl 1 rfl ?_
    refine vs_bipush (v := 60) dX8_write_5 rfl rfl ?_
    refine vs_icmp_ge 21 dX8_write_7 rfl rfl (fun c_7 => ?_) (fun c_7 => ?_)
    · exact absurd c_7 (nI_ge (show k < 60 by omega) (by decide))
    · refine vs_aload_n 0 dX8_write_10 rfl rfl 0 rfl ?_
      refine vs_get (v := .ref (G.2.2.2 + (o + 1))) lf_X8_9 ht.1 rfl dX8_write_11 rfl ?_
      refine vs_iload_n 1 dX8_write_14 rfl rfl 1 rfl ?_
      refine vs_aload_n 0 dX8_write_15 rfl rfl 0 rfl ?_
      refine vs_lload_n 2 dX8_write_16 rfl rfl 2 rfl ?_
      refine vs_callV (st := [.int (nI k), .ref (G.2.2.2 + (o + 1))]) (c_castToLane ht hln hln2 (v := v)) lk_X8_32 lm_X8_castToLane rfl ht.1 rfl rfl (Nat.le_of_ble_eq_true rfl) rfl ⟨rfl, rfl⟩ dX8_write_17 rfl ?_
      show vs_V _ _ _ _ _ (.long (cst ln v) :: _) _
      refine vs_last (k := k) ht.2 (by first | rfl | (simp only [fa_lit, nI_add, pk_mul, nI_1]; done) | omega) (by omega) rfl dX8_write_20 rfl ?_
      exact vs_vret dX8_write_21 rfl rfl

theorem l_smix {G : vv_G} {S : vs_S} {o : Nat} (ht : vs_St o) {sz ls : Nat} (hsz : S.1 o 3 = nI sz) (hsz2 : sz ≤ 60) (hls : S.1 o 1 = nI ls) {h : Int64} {r : Option Value} {Sf : vs_S} (hr : r = some (.long (mx (S.2.2.1 (o + 1)) (31 * h + (nI sz).toInt64) sz))) (hS : S = Sf) : ∀ d i : Nat, i + d = sz → vs_V G cX8_mixedInto (vs_M yX8_mixedInto 6 (some .long) { frames := 1, locals := 23 } G r Sf) 28 [(5, .int (nI i)), (3, .long (mx (S.2.2.1 (o + 1)) (31 * h + (nI sz).toInt64) i)), (0, .ref (G.2.2.2 + o)), (1, .long (h))] [] S := by
  intro d
  induction d with
  | zero =>
    intro i hi
    obtain rfl : i = sz := by omega
    refine vs_iload dX8_mixedInto_28 rfl 0 rfl ?_
    refine vs_aload_n 0 dX8_mixedInto_30 rfl rfl 2 rfl ?_
    refine vs_get (v := .int (nI i)) lf_X8_23 ht.1 (congrArg (fun z => some (Value.int z)) hsz) dX8_mixedInto_31 rfl ?_
    refine vs_icmp_ge 62 dX8_mixedInto_34 rfl rfl (fun c_34 => ?_) (fun c_34 => ?_)
    · refine vs_lload_n 3 dX8_mixedInto_62 rfl rfl 1 rfl ?_
      exact vs_lret dX8_mixedInto_63 hr hS
    · exact absurd (nI_le (Nat.le_refl _) (by omega)) c_34
  | succ d ih =>
    intro i hi
    refine vs_iload dX8_mixedInto_28 rfl 0 rfl ?_
    refine vs_aload_n 0 dX8_mixedInto_30 rfl rfl 2 rfl ?_
    refine vs_get (v := .int (nI sz)) lf_X8_23 ht.1 (congrArg (fun z => some (Value.int z)) hsz) dX8_mixedInto_31 rfl ?_
    refine vs_icmp_ge 62 dX8_mixedInto_34 rfl rfl (fun c_34 => ?_) (fun c_34 => ?_)
    · exact absurd c_34 (nI_ge (by omega) (by omega))
    · refine vs_iload dX8_mixedInto_37 rfl 0 rfl ?_
      refine vs_bipush (v := 60) dX8_mixedInto_39 rfl rfl ?_
      refine vs_icmp_ge 62 dX8_mixedInto_41 rfl rfl (fun c_41 => ?_) (fun c_41 => ?_)
      · exact absurd c_41 (nI_ge (show i < 60 by omega) (by decide))
      · refine vs_lload_n 3 dX8_mixedInto_44 rfl rfl 1 rfl ?_
        refine vs_aload_n 0 dX8_mixedInto_45 rfl rfl 2 rfl ?_
        refine vs_get (v := .ref (G.2.2.2 + (o + 1))) lf_X8_9 ht.1 rfl dX8_mixedInto_46 rfl ?_
        refine vs_iload dX8_mixedInto_49 rfl 0 rfl ?_
        refine vs_lald (k := i) ht.2 (by first | rfl | (simp only [fa_lit, nI_add, pk_mul, nI_1]; done) | omega) (by omega) rfl dX8_mixedInto_51 rfl ?_
        refine vs_topl (fun z1 e_z1 => ?_)
        have f_z1 : z1 = S.2.2.1 (o + 1) i := e_z1
        subst f_z1
        clear e_z1
        refine vs_callS (st := []) (c_mixed (h := mx (S.2.2.1 (o + 1)) (31 * h + (nI sz).toInt64) i) (v := S.2.2.1 (o + 1) i)) lk_X8_38 lm_X9_mixed rfl rfl (Nat.le_of_ble_eq_true rfl) rfl ⟨rfl, rfl⟩ dX8_mixedInto_52 rfl ?_
        show vs_V _ _ _ _ _ (.long (31 * mx (S.2.2.1 (o + 1)) (31 * h + (nI sz).toInt64) i + S.2.2.1 (o + 1) i) :: _) _
        refine vs_topl (fun x2 e_x2 => ?_)
        refine vs_lstore_n 3 [(3, .long (x2)), (5, .int (nI i)), (0, .ref (G.2.2.2 + o)), (1, .long (h))] dX8_mixedInto_55 rfl rfl rfl rfl ?_
        refine vs_iinc (v := nI (i + 1)) [(5, .int (nI (i + 1))), (3, .long (x2)), (0, .ref (G.2.2.2 + o)), (1, .long (h))] dX8_mixedInto_56 rfl 1 rfl (by first | exact nI_1 _ | (simp only [fa_lit, nI_add, pk_mul, nI_1]; rfl)) rfl rfl ?_
        refine vs_goto 28 dX8_mixedInto_59 rfl ?_
        subst e_x2
        refine vs_pick [0, 1, 2, 3] rfl ?_
        exact ih (i + 1) (by omega)

theorem c_smixedInto {G : vv_G} {S : vs_S} {o : Nat} (ht : vs_St o) {sz ls : Nat} (hsz : S.1 o 3 = nI sz) (hsz2 : sz ≤ 60) (hls : S.1 o 1 = nI ls) (hls2 : ls ≤ 1) {h : Int64} : vs_C G yX8_mixedInto cX8_mixedInto 6 (some .long) { frames := 1, locals := 23 } [.ref (G.2.2.2 + o), .long (h)] S (some (.long (if ls = 0 then mx (S.2.2.1 (o + 1)) (31 * h + (nI sz).toInt64) sz else 31 * h + (-1)))) S := by
  refine vs_of [(0, .ref (G.2.2.2 + o)), (1, .long (h))] (by decide) rfl rfl ?_
  refine vs_aload_n 0 dX8_mixedInto_0 rfl rfl 0 rfl ?_
  refine vs_get (v := .int (nI ls)) lf_X8_15 ht.1 (congrArg (fun z => some (Value.int z)) hls) dX8_mixedInto_1 rfl ?_
  refine vs_if_eq 15 dX8_mixedInto_4 rfl rfl (fun c_4 => ?_) (fun c_4 => ?_)
  · have hl0 : ls = 0 := (nI_n0 (by omega)).mp c_4
    refine vs_lload_n 1 dX8_mixedInto_15 rfl rfl 1 rfl ?_
    refine vs_aload_n 0 dX8_mixedInto_16 rfl rfl 0 rfl ?_
    refine vs_get (v := .int (nI sz)) lf_X8_23 ht.1 (congrArg (fun z => some (Value.int z)) hsz) dX8_mixedInto_17 rfl ?_
    refine vs_i2l dX8_mixedInto_20 rfl ?_
    refine vs_callS (st := []) (c_mixed (h := h) (v := (nI sz).toInt64)) lk_X8_38 lm_X9_mixed rfl rfl (Nat.le_of_ble_eq_true rfl) rfl ⟨rfl, rfl⟩ dX8_mixedInto_21 rfl ?_
    show vs_V _ _ _ _ _ (.long (31 * h + (nI sz).toInt64) :: _) _
    refine vs_topl (fun x1 e_x1 => ?_)
    refine vs_lstore_n 3 [(3, .long (x1)), (0, .ref (G.2.2.2 + o)), (1, .long (h))] dX8_mixedInto_24 rfl rfl rfl rfl ?_
    refine vs_iconst (v := 0) dX8_mixedInto_25 rfl rfl ?_
    refine vs_istore [(5, .int (0)), (3, .long (x1)), (0, .ref (G.2.2.2 + o)), (1, .long (h))] dX8_mixedInto_26 rfl rfl rfl ?_
    subst e_x1
    refine vs_pick (L2 := [(5, .int (nI 0)), (3, .long (31 * h + (nI sz).toInt64)), (0, .ref (G.2.2.2 + o)), (1, .long (h))]) [0, 1, 2, 3] rfl ?_
    exact l_smix ht hsz hsz2 hls (by rw [if_pos hl0]) rfl sz 0 (by omega)
  · have hl0 : ¬ ls = 0 := fun e => c_4 (by rw [e]; rfl)
    refine vs_lload_n 1 dX8_mixedInto_7 rfl rfl 1 rfl ?_
    refine vs_ldc2 lc_X8_36 dX8_mixedInto_8 rfl ?_
    refine vs_callS (st := []) (c_mixed (h := h) (v := -1)) lk_X8_38 lm_X9_mixed rfl rfl (Nat.le_of_ble_eq_true rfl) rfl ⟨rfl, rfl⟩ dX8_mixedInto_11 rfl ?_
    show vs_V _ _ _ _ _ (.long (31 * h + (-1)) :: _) _
    exact vs_lret dX8_mixedInto_14 (by rw [if_neg hl0]) rfl

def vs_Sh (o : Nat) : Prop := vs_T[o]? = some (.inr (7, [some (o + 1), some (o + 3)])) ∧ vs_P (o + 1) ∧ vs_P (o + 3)
theorem c_becomeZero {G : vv_G} {S : vs_S} {o : Nat} {a b : Nat → Nat} (hs : vs_Sh o) (ha : pR S (o + 1) a) (hb : pR S (o + 3) b) : vs_C G yX7_becomeZero cX7_becomeZero 1 none { frames := 2, locals := 44 } [.ref (G.2.2.2 + o)] S none (vs_ia (vs_ia S (o + 1 + 1) (nA (pcon 0))) (o + 3 + 1) (nA (pcon 1))) := by
  refine vs_of [(0, .ref (G.2.2.2 + o))] (by decide) rfl rfl ?_
  refine vs_aload_n 0 dX7_becomeZero_0 rfl rfl 0 rfl ?_
  refine vs_get (v := .ref (G.2.2.2 + (o + 1))) lf_X7_10 hs.1 rfl dX7_becomeZero_1 rfl ?_
  refine vs_iconst (v := 0) dX7_becomeZero_4 rfl rfl ?_
  refine vs_callV (st := []) (c_becomeNumber hs.2.1 ha (x := 0)) lk_X7_19 lm_X3_becomeNumber rfl hs.2.1.1 rfl rfl (Nat.le_of_ble_eq_true rfl) rfl ⟨rfl, rfl⟩ dX7_becomeZero_5 rfl ?_
  refine vs_aload_n 0 dX7_becomeZero_8 rfl rfl 0 rfl ?_
  refine vs_get (v := .ref (G.2.2.2 + (o + 3))) lf_X7_16 hs.1 rfl dX7_becomeZero_9 rfl ?_
  refine vs_iconst (v := 1) dX7_becomeZero_12 rfl rfl ?_
  refine vs_callV (st := []) (c_becomeNumber hs.2.2 (⟨(vs_ia_ne (by omega)).trans hb.1, hb.2⟩ : pR _ _ b) (x := 1)) lk_X7_19 lm_X3_becomeNumber rfl hs.2.2.1 rfl rfl (Nat.le_of_ble_eq_true rfl) rfl ⟨rfl, rfl⟩ dX7_becomeZero_13 rfl ?_
  exact vs_vret dX7_becomeZero_16 rfl rfl

theorem c_sbecome {G : vv_G} {S : vs_S} {o : Nat} {a b : Nat → Nat} (hs : vs_Sh o) (ha : pR S (o + 1) a) (hb : pR S (o + 3) b) {p : Nat} {a2 b2 : Nat → Nat} (hq : vs_Sh p) (ha2 : pR S (p + 1) a2) (hb2 : pR S (p + 3) b2) (hne : o + 3 < p ∨ p + 3 < o) : vs_C G yX7_become cX7_become 2 none { frames := 2, locals := 61 } [.ref (G.2.2.2 + o), .ref (G.2.2.2 + p)] S none (vs_ia (vs_ia S (o + 1 + 1) (nA a2)) (o + 3 + 1) (nA b2)) := by
  refine vs_of [(0, .ref (G.2.2.2 + o)), (1, .ref (G.2.2.2 + p))] (by decide) rfl rfl ?_
  refine vs_aload_n 0 dX7_become_0 rfl rfl 0 rfl ?_
  refine vs_get (v := .ref (G.2.2.2 + (o + 1))) lf_X7_10 hs.1 rfl dX7_become_1 rfl ?_
  refine vs_aload_n 1 dX7_become_4 rfl rfl 1 rfl ?_
  refine vs_get (v := .ref (G.2.2.2 + (p + 1))) lf_X7_10 hq.1 rfl dX7_become_5 rfl ?_
  refine vs_callV (st := []) (c_become hs.2.1 ha hq.2.1 ha2) lk_X7_23 lm_X3_become rfl hs.2.1.1 rfl rfl (Nat.le_of_ble_eq_true rfl) rfl ⟨rfl, rfl⟩ dX7_become_8 rfl ?_
  refine vs_aload_n 0 dX7_become_11 rfl rfl 0 rfl ?_
  refine vs_get (v := .ref (G.2.2.2 + (o + 3))) lf_X7_16 hs.1 rfl dX7_become_12 rfl ?_
  refine vs_aload_n 1 dX7_become_15 rfl rfl 1 rfl ?_
  refine vs_get (v := .ref (G.2.2.2 + (p + 3))) lf_X7_16 hq.1 rfl dX7_become_16 rfl ?_
  refine vs_callV (st := []) (c_become hs.2.2 (⟨(vs_ia_ne (by omega)).trans hb.1, hb.2⟩ : pR _ _ b) hq.2.2 (⟨(vs_ia_ne (by omega)).trans hb2.1, hb2.2⟩ : pR _ _ b2)) lk_X7_23 lm_X3_become rfl hs.2.2.1 rfl rfl (Nat.le_of_ble_eq_true rfl) rfl ⟨rfl, rfl⟩ dX7_become_19 rfl ?_
  exact vs_vret dX7_become_22 rfl rfl

theorem c_side {G : vv_G} {S : vs_S} {o : Nat} (hs : vs_Sh o) {k : Int32} : vs_C G yX7_side cX7_side 2 (some (.object "SharesOfSeries$Polynomial")) { frames := 0, locals := 0 } [.ref (G.2.2.2 + o), .int (k)] S (some (if k = 0 then .ref (G.2.2.2 + (o + 1)) else if k = 1 then .ref (G.2.2.2 + (o + 3)) else .null)) S := by
  refine vs_of [(0, .ref (G.2.2.2 + o)), (1, .int (k))] (by decide) rfl rfl ?_
  refine vs_iload_n 1 dX7_side_0 rfl rfl 1 rfl ?_
  refine vs_if_ne 9 dX7_side_1 rfl rfl (fun c_1 => ?_) (fun c_1 => ?_)
  · refine vs_iload_n 1 dX7_side_9 rfl rfl 1 rfl ?_
    refine vs_iconst (v := 1) dX7_side_10 rfl rfl ?_
    refine vs_icmp_ne 21 dX7_side_11 rfl rfl (fun c_11 => ?_) (fun c_11 => ?_)
    · refine vs_null dX7_side_21 rfl ?_
      exact vs_aret dX7_side_22 (Or.inl rfl) (by first | (rw [if_pos c_1]; done) | (rw [if_neg c_1, if_pos c_11]; done) | (rw [if_neg c_1, if_neg c_11]; done)) rfl
    · refine vs_aload_n 0 dX7_side_14 rfl rfl 0 rfl ?_
      refine vs_get (v := .ref (G.2.2.2 + (o + 3))) lf_X7_16 hs.1 rfl dX7_side_15 rfl ?_
      refine vs_goto 22 dX7_side_18 rfl ?_
      exact vs_aret dX7_side_22 (Or.inr ⟨_, rfl⟩) (by first | (rw [if_pos c_1]; done) | (rw [if_neg c_1, if_pos c_11]; done) | (rw [if_neg c_1, if_neg c_11]; done)) rfl
  · refine vs_aload_n 0 dX7_side_4 rfl rfl 0 rfl ?_
    refine vs_get (v := .ref (G.2.2.2 + (o + 1))) lf_X7_10 hs.1 rfl dX7_side_5 rfl ?_
    exact vs_aret dX7_side_8 (Or.inr ⟨_, rfl⟩) (by first | (rw [if_pos c_1]; done) | (rw [if_neg c_1, if_pos c_11]; done) | (rw [if_neg c_1, if_neg c_11]; done)) rfl
end
section
/-- contracts that say of the state behind them what holds there -/
def vp_QQ (G : vv_G) (Pst : Option Value → vs_S → Prop) : Array Value → State → Outcome → State → Prop := fun _ st o t => ∃ (r : Option Value) (S' : vs_S), o = .returned r ∧ Pst r S' ∧ t.heap.size = G.2.2.2 + 146 ∧ vv_HP G.2.1 (vs_lay G S') t.heap ∧ va_F (vv_A G) st t
def vs_CP (G : vv_G) (y : MethodName) (cc : ByteArray) (maxL : Nat) (ret : Option FieldType) (rm : Room) (av : List Value) (S : vs_S) (Pst : Option Value → vs_S → Prop) : Prop := Met G.1 y (Cond.code y cc maxL ret :: vv_gd) rm (vv_PP G av (G.2.2.2 + 146) (vs_lay G S)) (vp_QQ G Pst) rm.cells rm.slots (vv_A G)
def vs_MP (y : MethodName) (maxL : Nat) (ret : Option FieldType) (rm : Room) (G : vv_G) (Pst : Option Value → vs_S → Prop) : vv_M := (y.cls, maxL, ret, y.name, rm, fun _ => True, fun below args s => MQ below (vp_QQ G Pst) args s 0 0 (vv_A G))
theorem vs_lay_dom {G : vv_G} {S : vs_S} : ∀ (a : Nat) (e : va_E), vs_lay G S a = some e → G.2.2.2 ≤ a := fun a e h => by
  unfold vs_lay at h
  by_cases h1 : a < G.2.2.2
  · rw [if_pos h1] at h; cases h
  · omega
theorem vs_ofP {G : vv_G} {y : MethodName} {cc : ByteArray} {maxL : Nat} {ret : Option FieldType} {fr lo : Nat} {av : List Value} {S : vs_S} {Pst : Option Value → vs_S → Prop} (L : List (Nat × Value)) (hy : plainName y.cls = true) (hl : lv_args 0 av = L) (hs : Nat.ble (lg_sl av).length maxL = true)
    (k : vs_V G cc (vs_MP y maxL ret { frames := fr, locals := lo } G Pst) 0 L [] S) : vs_CP G y cc maxL ret { frames := fr, locals := lo } av S Pst := by
  refine Met.ofW (cc := cc) (maxL := maxL) (ret := ret) hy rfl ?_
  intro p e s m args below meth c s₁ B hml hv
  obtain ⟨rfl, hsz, hP, hK, hB, hd⟩ := hv
  have hts := atoms_spec (ws := Cond.code y cc maxL ret :: vv_gd) B.pre
  have hown : s.vm.findClass y.cls = some m.cls := findClass_of_methodNamed B.named
  have hl1 := lv_entry av (n := maxL) (Nat.le_of_ble_eq_true hs)
  rw [hl] at hl1
  rw [lg_entry_eq]
  exact k p e s m _ below meth c s.heap [] _ ⟨B.exec, B.bytes, hml, hown, fun w hw => hts w (List.mem_cons_of_mem _ hw), hK, B.notSynchronized, B.returns, (name_of_methodNamed B.named B.method).1, trivial, by rw [hsz]; exact hB⟩ ⟨hsz, hP, va_S.rf, hd⟩ hl1
section VPE
variable {G : vv_G} {cc : ByteArray} {pc q : Nat} {L : List (Nat × Value)} {S : vs_S} {y : MethodName} {maxL : Nat} {rm : Room} {Pst : Option Value → vs_S → Prop}
theorem vs_iretP {v : Int32} (hd : decode cc pc = .ok (.ireturn, 1)) (hr : Pst (some (.int v)) S) : vs_V G cc (vs_MP y maxL (some .int) rm G Pst) pc L [.int v] S := by
  intro p e s m args below meth c H locs ls F X hl
  exact W.iret F.1 F.2.1 F.2.2.2.2.2.2.2.1 (fun t ht hW => ⟨_, S, rfl, hr, by rw [ht]; exact X.1, by rw [ht]; exact X.2.1, X.2.2.1.F ht⟩) X.2.2.1.2.2 hd F.2.2.2.2.2.2.1
theorem vs_zretP {v : Int32} (hd : decode cc pc = .ok (.ireturn, 1)) (hv : v = 0 ∨ v = 1) (hr : Pst (some (.int v)) S) : vs_V G cc (vs_MP y maxL (some .boolean) rm G Pst) pc L [.int v] S := by
  intro p e s m args below meth c H locs ls F X hl
  exact W.zret F.1 F.2.1 F.2.2.2.2.2.2.2.1 (by rcases hv with rfl | rfl <;> rfl) (fun t ht hW => ⟨_, S, rfl, hr, by rw [ht]; exact X.1, by rw [ht]; exact X.2.1, X.2.2.1.F ht⟩) X.2.2.1.2.2 hd F.2.2.2.2.2.2.1
theorem vs_lretP {v : Int64} (hd : decode cc pc = .ok (.lreturn, 1)) (hr : Pst (some (.long v)) S) : vs_V G cc (vs_MP y maxL (some .long) rm G Pst) pc L [.long v] S := by
  intro p e s m args below meth c H locs ls F X hl
  exact W.lret F.1 F.2.1 F.2.2.2.2.2.2.2.1 (fun t ht hW => ⟨_, S, rfl, hr, by rw [ht]; exact X.1, by rw [ht]; exact X.2.1, X.2.2.1.F ht⟩) X.2.2.1.2.2 hd F.2.2.2.2.2.2.1
theorem vs_aretP {C : String} {v : Value} (hd : decode cc pc = .ok (.areturn, 1)) (hv : v = .null ∨ ∃ a, v = .ref a) (hr : Pst (some v) S) : vs_V G cc (vs_MP y maxL (some (.object C)) rm G Pst) pc L [v] S := by
  intro p e s m args below meth c H locs ls F X hl
  exact W.aret F.1 F.2.1 F.2.2.2.2.2.2.2.1 (Or.inl ⟨_, rfl⟩) hv (fun t ht hW => ⟨_, S, rfl, hr, by rw [ht]; exact X.1, by rw [ht]; exact X.2.1, X.2.2.1.F ht⟩) X.2.2.1.2.2 hd F.2.2.2.2.2.2.1
theorem vs_vretP (hd : decode cc pc = .ok (.return_, 1)) (hr : Pst none S) : vs_V G cc (vs_MP y maxL none rm G Pst) pc L [] S := by
  intro p e s m args below meth c H locs ls F X hl
  exact W.vret F.1 F.2.1 F.2.2.2.2.2.2.2.1 (fun t ht hW => ⟨_, S, rfl, hr, by rw [ht]; exact X.1, by rw [ht]; exact X.2.1, X.2.2.1.F ht⟩) X.2.2.1.2.2 hd F.2.2.2.2.2.2.1
end VPE
section VPC
variable {G : vv_G} {cc : ByteArray} {M : vv_M} {pc q : Nat} {L : List (Nat × Value)} {st : List Value} {S : vs_S}
theorem vs_backP {p : Program} {e : Env} {s : State} {m : MethodId} {args : Array Value} {below : List Frame} {meth : Method} {c : Code} {H : Heap} {locs : List Loc} {ls : Array Slot} {Pst : Option Value → vs_S → Prop} {a : Array Value} {st0 : List Value}
    (F : vv_F G cc M p s m args meth c) (X : vv_X G (G.2.2.2 + 146) (vs_lay G S) s H locs) (hl : lv_has ls M.2.1 L) (hr : va_Run p G.1 e M.2.2.2.2.1 s m args below meth c H locs 0 0 0 0 (F0 m pc ls st0) st (vp_QQ G Pst a) (vv_A G)) (kk : ∀ (r : Option Value) (S' : vs_S), Pst r S' → vs_V G cc M (pc + 3) L (r.toList ++ st) S') : W p G.1 e M.2.2.2.2.1 s m args below meth c H locs 0 0 (M.2.2.2.2.2.2 below args s) (F0 m pc ls st0) := by
  intro T hT XX
  obtain ⟨v, st₀, t, T', L9, h0, X', hL, e1, e2, ⟨r, S', hv, hp, hz, hP, hF⟩, stp⟩ := hr T hT XX
  cases hv
  obtain ⟨hF1, hF2⟩ := hF
  rw [h0] at hF1 hF2
  have hS := X.2.2.1
  obtain ⟨t2, a1, b1⟩ := kk v S' hp p e s m args below meth c T'.heap (locs ++ L9) ls F ⟨by rw [e1]; exact hz, by rw [e1]; exact hP, ⟨Nat.le_trans hS.1 (by rw [e1]; exact hF1), fun x h1 h2 => by rw [e1, hF2 x (Nat.lt_of_lt_of_le h1 hS.1) h2]; exact hS.2.1 x h1 h2, fun x hx => by
      rcases List.mem_append.mp hx with z | z
      · exact hS.2.2 x z
      · exact hL x z⟩, vs_lay_dom⟩ hl T' rfl X'
  exact ⟨t2, stp t2 a1, b1⟩
theorem vs_callVP {y : MethodName} {bytes : ByteArray} {maxL : Nat} {ret : Option FieldType} {rm : Room} {As : List Value} {o ci i k : Nat} {fds : List (Option Nat)} {Pst : Option Value → vs_S → Prop} {T : u_T} {N : Nat} {stk : List Value} (hc : vs_CP G y bytes maxL ret rm (.ref (G.2.2.2 + o) :: As) S Pst) (hlk : vv_LK M.1 i y) (hy : vv_LV y bytes maxL ret k) (hcl : vv_cl[ci]? = some (y.cls, T, N)) (hT : vs_T[o]? = some (.inr (ci, fds))) (hn : As.length = k) (hst : stk = As.reverse ++ .ref (G.2.2.2 + o) :: st) (hW : (st.map fun v => v.category).sum ≤ 8) (hR : vv_rm rm maxL M.2.2.2.2.1 = true) (h0 : rm.cells = 0 ∧ rm.slots = 0) (hd : decode cc pc = .ok (.invokevirtual i, 3)) (hq : pc + 3 = q) (kk : ∀ (r : Option Value) (S' : vs_S), Pst r S' → vs_V G cc M q L (r.toList ++ st) S') : vs_V G cc M pc L stk S := by
  subst hq hst
  intro p e s m args below meth c H locs ls F X hl
  obtain ⟨⟨hini, hcode, hd1, hd2, hd3⟩, hinst, hsel⟩ := hy
  have hts := F.2.2.2.2.1
  have hR1 := Bool.and_eq_true_iff.mp hR
  have hRR : rm.frames + 1 ≤ M.2.2.2.2.1.frames ∧ 8 + (maxL + 11) + rm.locals ≤ M.2.2.2.2.1.locals := ⟨Nat.le_of_ble_eq_true hR1.1, Nat.le_of_ble_eq_true hR1.2⟩
  have hrecv := va_recv F.2.2.2.2.2.1.1 (vv_one X.2.1 (vs_lay_at hT)) hcl (q0 := 0) rfl
  refine vs_backP F X hl (a := (Value.ref (G.2.2.2 + o) :: As).toArray) ?_ kk
  have hc' := hc
  unfold vs_CP at hc'
  rw [h0.1, h0.2] at hc'
  rcases hlk with hlk | ⟨host, hlk⟩
  · exact va_runV ⟨F.1, F.2.1, F.2.2.1, F.2.2.2.1, hts⟩ hc' ⟨callB_of k hts (vv_gin hcode) rfl h0.1 h0.2 (hts _ hini) (hts _ hlk) ⟨hd1, hd2, hd3⟩ hRR, hts _ hinst, hts _ hsel⟩ ⟨vv_blind, hrecv, vv_pre F.2.2.2.2.2.1 F.2.2.2.2.2.2.2.2.2.2 X⟩ rfl hn hl.1 rfl (lv_room hW) hd ⟨Nat.zero_le _, Nat.zero_le _⟩
  · exact va_runVN ⟨F.1, F.2.1, F.2.2.1, F.2.2.2.1, hts⟩ hc' ⟨va_cnB k hts (vv_gin hcode) rfl h0.1 h0.2 (F.2.2.2.2.2.1.2.1 _ hlk) (hts _ hini) ⟨hd1, hd2, hd3⟩ hRR, hts _ hinst, hts _ hsel⟩ ⟨vv_blind, hrecv, vv_pre F.2.2.2.2.2.1 F.2.2.2.2.2.2.2.2.2.2 X⟩ rfl hn hl.1 rfl (lv_room hW) hd ⟨Nat.zero_le _, Nat.zero_le _⟩
end VPC
theorem vs_CP_of {G : vv_G} {y : MethodName} {cc : ByteArray} {maxL : Nat} {ret : Option FieldType} {rm : Room} {av : List Value} {S : vs_S} {P1 P2 : Option Value → vs_S → Prop} (h : vs_CP G y cc maxL ret rm av S P1) (hp : ∀ r S', P1 r S' → P2 r S') : vs_CP G y cc maxL ret rm av S P2 := by
  intro p e ha hc hk s m args below hf happ hp1 hk1
  obtain ⟨n, o, g1, g2, g3, ⟨r, S', h1, h2, h3⟩, h4⟩ := h p e ha hc hk s m args below hf happ hp1 hk1
  exact ⟨n, o, g1, g2, g3, ⟨r, S', h1, hp r S' h2, h3⟩, h4⟩
theorem vs_CP_eq {G : vv_G} {y : MethodName} {cc : ByteArray} {maxL : Nat} {ret : Option FieldType} {rm : Room} {av : List Value} {S S' : vs_S} {r : Option Value} (h : vs_C G y cc maxL ret rm av S r S') : vs_CP G y cc maxL ret rm av S (fun r2 S2 => r2 = r ∧ S2 = S') := by
  intro p e ha hc hk s m args below hf happ hp1 hk1
  obtain ⟨n, o, g1, g2, g3, ⟨h1, h2, h3, h4, h5⟩, h6⟩ := h p e ha hc hk s m args below hf happ hp1 hk1
  exact ⟨n, o, g1, g2, g3, ⟨r, S', h1, ⟨rfl, rfl⟩, h2, h3, h4⟩, h6⟩
/-- the same but for some int arrays -/
def vs_fr (S S' : vs_S) (l : List Nat) : Prop := S'.1 = S.1 ∧ S'.2.2 = S.2.2 ∧ ∀ k, k ∉ l → S'.2.1 k = S.2.1 k
theorem vs_fr.rf {S : vs_S} {l : List Nat} : vs_fr S S l := ⟨rfl, rfl, fun _ _ => rfl⟩
theorem vs_fr.ia {S S' : vs_S} {l : List Nat} {o : Nat} {f : Nat → Int32} (h : vs_fr S S' l) (ho : o ∈ l) : vs_fr S (vs_ia S' o f) l := ⟨h.1, h.2.1, fun k hk => (vs_u2_n (fun e => hk (by rw [e]; exact ho))).trans (h.2.2 k hk)⟩
theorem vs_fr.tr {S S1 S2 : vs_S} {l l1 : List Nat} (h : vs_fr S S1 l) (h2 : vs_fr S1 S2 l1) (hs : ∀ x ∈ l1, x ∈ l) : vs_fr S S2 l := ⟨h2.1.trans h.1, h2.2.1.trans h.2.1, fun k hk => (h2.2.2 k (fun e => hk (hs k e))).trans (h.2.2 k hk)⟩
theorem vs_fr.p {S S' : vs_S} {l : List Nat} {o : Nat} {g : Nat → Nat} (h : vs_fr S S' l) (ho : o + 1 ∉ l) (hg : pR S o g) : pR S' o g := ⟨(h.2.2 _ ho).trans hg.1, hg.2⟩
end
