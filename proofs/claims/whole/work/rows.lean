section
def lw_okq (q : MethodName × Nat) : Prop := (q.1.cls ≠ "java/lang/invoke/MethodHandle" ∧ q.1.cls ≠ "java/lang/invoke/VarHandle") ∧ Cond.instantiable q.1.cls q.2 ∈ tables_1 ∧ Cond.privateMethod q.1 ∈ tables_1 ∧ Cond.instanceMethod q.1 ∈ tables_1
theorem lw_p0 : lw_okq (⟨"SharesOfSeries", "sheetNumbered", "(I)LSharesOfSeries$Sheet;"⟩, 13) := ⟨⟨by decide +kernel, by decide +kernel⟩, List.mem_of_getElem? (i := 16) (by decide +kernel), List.mem_of_getElem? (i := 248) (by decide +kernel), List.mem_of_getElem? (i := 249) (by decide +kernel)⟩
theorem lw_p1 : lw_okq (⟨"SharesOfSeries", "caused", "(I)I"⟩, 13) := ⟨⟨by decide +kernel, by decide +kernel⟩, List.mem_of_getElem? (i := 16) (by decide +kernel), List.mem_of_getElem? (i := 255) (by decide +kernel), List.mem_of_getElem? (i := 256) (by decide +kernel)⟩
theorem lw_p2 : lw_okq (⟨"SharesOfSeries$Sheet", "castToLane", "(J)J"⟩, 4) := ⟨⟨by decide +kernel, by decide +kernel⟩, List.mem_of_getElem? (i := 150) (by decide +kernel), List.mem_of_getElem? (i := 278) (by decide +kernel), List.mem_of_getElem? (i := 279) (by decide +kernel)⟩
theorem lw_p3 : lw_okq (⟨"SharesOfSeries", "freshSeries", "(I)LSharesOfSeries$Series;"⟩, 13) := ⟨⟨by decide +kernel, by decide +kernel⟩, List.mem_of_getElem? (i := 16) (by decide +kernel), List.mem_of_getElem? (i := 300) (by decide +kernel), List.mem_of_getElem? (i := 301) (by decide +kernel)⟩
theorem lw_p4 : lw_okq (⟨"SharesOfSeries", "readTerms", "(LSharesOfSeries$Sheet;IILSharesOfSeries$Polynomial;)V"⟩, 13) := ⟨⟨by decide +kernel, by decide +kernel⟩, List.mem_of_getElem? (i := 16) (by decide +kernel), List.mem_of_getElem? (i := 305) (by decide +kernel), List.mem_of_getElem? (i := 306) (by decide +kernel)⟩
theorem lw_p5 : lw_okq (⟨"SharesOfSeries", "keepFresh", "()I"⟩, 13) := ⟨⟨by decide +kernel, by decide +kernel⟩, List.mem_of_getElem? (i := 16) (by decide +kernel), List.mem_of_getElem? (i := 321) (by decide +kernel), List.mem_of_getElem? (i := 322) (by decide +kernel)⟩
theorem lw_p6 : lw_okq (⟨"SharesOfSeries", "keepUnfolded", "(LSharesOfSeries$Share;I)I"⟩, 13) := ⟨⟨by decide +kernel, by decide +kernel⟩, List.mem_of_getElem? (i := 16) (by decide +kernel), List.mem_of_getElem? (i := 329) (by decide +kernel), List.mem_of_getElem? (i := 330) (by decide +kernel)⟩
theorem lw_p7 : lw_okq (⟨"SharesOfSeries", "seriesNumbered", "(I)LSharesOfSeries$Series;"⟩, 13) := ⟨⟨by decide +kernel, by decide +kernel⟩, List.mem_of_getElem? (i := 16) (by decide +kernel), List.mem_of_getElem? (i := 361) (by decide +kernel), List.mem_of_getElem? (i := 362) (by decide +kernel)⟩
theorem lw_p8 : lw_okq (⟨"SharesOfSeries", "findEntry", "(LSharesOfSeries$Series;IILSharesOfSeries$Share;)V"⟩, 13) := ⟨⟨by decide +kernel, by decide +kernel⟩, List.mem_of_getElem? (i := 16) (by decide +kernel), List.mem_of_getElem? (i := 405) (by decide +kernel), List.mem_of_getElem? (i := 406) (by decide +kernel)⟩
theorem lw_p9 : lw_okq (⟨"SharesOfSeries$Euclid", "dropCommonFactors", "(LSharesOfSeries$Share;LSharesOfSeries$Residues;)V"⟩, 5) := ⟨⟨by decide +kernel, by decide +kernel⟩, List.mem_of_getElem? (i := 93) (by decide +kernel), List.mem_of_getElem? (i := 442) (by decide +kernel), List.mem_of_getElem? (i := 443) (by decide +kernel)⟩
theorem lw_p10 : lw_okq (⟨"SharesOfSeries", "agreement", "(LSharesOfSeries$Series;LSharesOfSeries$Share;)I"⟩, 13) := ⟨⟨by decide +kernel, by decide +kernel⟩, List.mem_of_getElem? (i := 16) (by decide +kernel), List.mem_of_getElem? (i := 455) (by decide +kernel), List.mem_of_getElem? (i := 456) (by decide +kernel)⟩
theorem lw_p11 : lw_okq (⟨"SharesOfSeries$Determinant", "pivotRow", "(II)I"⟩, 1) := ⟨⟨by decide +kernel, by decide +kernel⟩, List.mem_of_getElem? (i := 119) (by decide +kernel), List.mem_of_getElem? (i := 472) (by decide +kernel), List.mem_of_getElem? (i := 473) (by decide +kernel)⟩
theorem lw_p12 : lw_okq (⟨"SharesOfSeries$Determinant", "swapRows", "(II)V"⟩, 1) := ⟨⟨by decide +kernel, by decide +kernel⟩, List.mem_of_getElem? (i := 119) (by decide +kernel), List.mem_of_getElem? (i := 476) (by decide +kernel), List.mem_of_getElem? (i := 477) (by decide +kernel)⟩
theorem lw_p13 : lw_okq (⟨"SharesOfSeries$Determinant", "clearBelow", "(IILSharesOfSeries$Residues;)V"⟩, 1) := ⟨⟨by decide +kernel, by decide +kernel⟩, List.mem_of_getElem? (i := 119) (by decide +kernel), List.mem_of_getElem? (i := 482) (by decide +kernel), List.mem_of_getElem? (i := 483) (by decide +kernel)⟩
theorem lw_p14 : lw_okq (⟨"SharesOfSeries", "stepDown", "(LSharesOfSeries$Polynomial;I)V"⟩, 13) := ⟨⟨by decide +kernel, by decide +kernel⟩, List.mem_of_getElem? (i := 16) (by decide +kernel), List.mem_of_getElem? (i := 501) (by decide +kernel), List.mem_of_getElem? (i := 502) (by decide +kernel)⟩
theorem lw_p15 : lw_okq (⟨"SharesOfSeries$Recurrence", "faultAt", "(IILSharesOfSeries$Polynomial;LSharesOfSeries$Series;LSharesOfSeries$Residues;)I"⟩, 3) := ⟨⟨by decide +kernel, by decide +kernel⟩, List.mem_of_getElem? (i := 131) (by decide +kernel), List.mem_of_getElem? (i := 514) (by decide +kernel), List.mem_of_getElem? (i := 515) (by decide +kernel)⟩
def lw_privs_1 : List (MethodName × Nat) := [(⟨"SharesOfSeries", "sheetNumbered", "(I)LSharesOfSeries$Sheet;"⟩, 13), (⟨"SharesOfSeries", "caused", "(I)I"⟩, 13), (⟨"SharesOfSeries$Sheet", "castToLane", "(J)J"⟩, 4), (⟨"SharesOfSeries", "freshSeries", "(I)LSharesOfSeries$Series;"⟩, 13), (⟨"SharesOfSeries", "readTerms", "(LSharesOfSeries$Sheet;IILSharesOfSeries$Polynomial;)V"⟩, 13), (⟨"SharesOfSeries", "keepFresh", "()I"⟩, 13), (⟨"SharesOfSeries", "keepUnfolded", "(LSharesOfSeries$Share;I)I"⟩, 13), (⟨"SharesOfSeries", "seriesNumbered", "(I)LSharesOfSeries$Series;"⟩, 13), (⟨"SharesOfSeries", "findEntry", "(LSharesOfSeries$Series;IILSharesOfSeries$Share;)V"⟩, 13), (⟨"SharesOfSeries$Euclid", "dropCommonFactors", "(LSharesOfSeries$Share;LSharesOfSeries$Residues;)V"⟩, 5), (⟨"SharesOfSeries", "agreement", "(LSharesOfSeries$Series;LSharesOfSeries$Share;)I"⟩, 13), (⟨"SharesOfSeries$Determinant", "pivotRow", "(II)I"⟩, 1), (⟨"SharesOfSeries$Determinant", "swapRows", "(II)V"⟩, 1), (⟨"SharesOfSeries$Determinant", "clearBelow", "(IILSharesOfSeries$Residues;)V"⟩, 1), (⟨"SharesOfSeries", "stepDown", "(LSharesOfSeries$Polynomial;I)V"⟩, 13), (⟨"SharesOfSeries$Recurrence", "faultAt", "(IILSharesOfSeries$Polynomial;LSharesOfSeries$Series;LSharesOfSeries$Residues;)I"⟩, 3)]
theorem lw_r1 : ∀ q ∈ lw_privs_1, lw_okq q := List.forall_mem_cons.mpr ⟨lw_p0, List.forall_mem_cons.mpr ⟨lw_p1, List.forall_mem_cons.mpr ⟨lw_p2, List.forall_mem_cons.mpr ⟨lw_p3, List.forall_mem_cons.mpr ⟨lw_p4, List.forall_mem_cons.mpr ⟨lw_p5, List.forall_mem_cons.mpr ⟨lw_p6, List.forall_mem_cons.mpr ⟨lw_p7, List.forall_mem_cons.mpr ⟨lw_p8, List.forall_mem_cons.mpr ⟨lw_p9, List.forall_mem_cons.mpr ⟨lw_p10, List.forall_mem_cons.mpr ⟨lw_p11, List.forall_mem_cons.mpr ⟨lw_p12, List.forall_mem_cons.mpr ⟨lw_p13, List.forall_mem_cons.mpr ⟨lw_p14, List.forall_mem_cons.mpr ⟨lw_p15, fun _ h => absurd h List.not_mem_nil⟩⟩⟩⟩⟩⟩⟩⟩⟩⟩⟩⟩⟩⟩⟩⟩
theorem lw_p16 : lw_okq (⟨"SharesOfSeries", "presentSheets", "()I"⟩, 13) := ⟨⟨by decide +kernel, by decide +kernel⟩, List.mem_of_getElem? (i := 16) (by decide +kernel), List.mem_of_getElem? (i := 605) (by decide +kernel), List.mem_of_getElem? (i := 606) (by decide +kernel)⟩
theorem lw_p17 : lw_okq (⟨"SharesOfSeriesModel", "clearResult", "()V"⟩, 31) := ⟨⟨by decide +kernel, by decide +kernel⟩, List.mem_of_getElem? (i := 634) (by decide +kernel), List.mem_of_getElem? (i := 746) (by decide +kernel), List.mem_of_getElem? (i := 747) (by decide +kernel)⟩
theorem lw_p18 : lw_okq (⟨"SharesOfSeriesModel", "meets", "(I)I"⟩, 31) := ⟨⟨by decide +kernel, by decide +kernel⟩, List.mem_of_getElem? (i := 634) (by decide +kernel), List.mem_of_getElem? (i := 758) (by decide +kernel), List.mem_of_getElem? (i := 759) (by decide +kernel)⟩
theorem lw_p19 : lw_okq (⟨"SharesOfSeriesModel", "rest", "(J)I"⟩, 31) := ⟨⟨by decide +kernel, by decide +kernel⟩, List.mem_of_getElem? (i := 634) (by decide +kernel), List.mem_of_getElem? (i := 779) (by decide +kernel), List.mem_of_getElem? (i := 780) (by decide +kernel)⟩
theorem lw_p20 : lw_okq (⟨"SharesOfSeriesModel", "comes", "(I)I"⟩, 31) := ⟨⟨by decide +kernel, by decide +kernel⟩, List.mem_of_getElem? (i := 634) (by decide +kernel), List.mem_of_getElem? (i := 783) (by decide +kernel), List.mem_of_getElem? (i := 784) (by decide +kernel)⟩
theorem lw_p21 : lw_okq (⟨"SharesOfSeriesModel", "clearWork", "()V"⟩, 31) := ⟨⟨by decide +kernel, by decide +kernel⟩, List.mem_of_getElem? (i := 634) (by decide +kernel), List.mem_of_getElem? (i := 791) (by decide +kernel), List.mem_of_getElem? (i := 792) (by decide +kernel)⟩
theorem lw_p22 : lw_okq (⟨"SharesOfSeriesModel", "unfoldTo", "([II)V"⟩, 31) := ⟨⟨by decide +kernel, by decide +kernel⟩, List.mem_of_getElem? (i := 634) (by decide +kernel), List.mem_of_getElem? (i := 795) (by decide +kernel), List.mem_of_getElem? (i := 796) (by decide +kernel)⟩
theorem lw_p23 : lw_okq (⟨"SharesOfSeriesModel", "inverse", "(I)I"⟩, 31) := ⟨⟨by decide +kernel, by decide +kernel⟩, List.mem_of_getElem? (i := 634) (by decide +kernel), List.mem_of_getElem? (i := 799) (by decide +kernel), List.mem_of_getElem? (i := 800) (by decide +kernel)⟩
theorem lw_p24 : lw_okq (⟨"SharesOfSeriesModel", "product", "(II)I"⟩, 31) := ⟨⟨by decide +kernel, by decide +kernel⟩, List.mem_of_getElem? (i := 634) (by decide +kernel), List.mem_of_getElem? (i := 803) (by decide +kernel), List.mem_of_getElem? (i := 804) (by decide +kernel)⟩
theorem lw_p25 : lw_okq (⟨"SharesOfSeriesModel", "loadResult", "()V"⟩, 31) := ⟨⟨by decide +kernel, by decide +kernel⟩, List.mem_of_getElem? (i := 634) (by decide +kernel), List.mem_of_getElem? (i := 811) (by decide +kernel), List.mem_of_getElem? (i := 812) (by decide +kernel)⟩
theorem lw_p26 : lw_okq (⟨"SharesOfSeriesModel", "isSeries", "(I)Z"⟩, 31) := ⟨⟨by decide +kernel, by decide +kernel⟩, List.mem_of_getElem? (i := 634) (by decide +kernel), List.mem_of_getElem? (i := 819) (by decide +kernel), List.mem_of_getElem? (i := 820) (by decide +kernel)⟩
theorem lw_p27 : lw_okq (⟨"SharesOfSeriesModel", "lesser", "(II)I"⟩, 31) := ⟨⟨by decide +kernel, by decide +kernel⟩, List.mem_of_getElem? (i := 634) (by decide +kernel), List.mem_of_getElem? (i := 823) (by decide +kernel), List.mem_of_getElem? (i := 824) (by decide +kernel)⟩
theorem lw_p28 : lw_okq (⟨"SharesOfSeriesModel", "of", "(II)I"⟩, 31) := ⟨⟨by decide +kernel, by decide +kernel⟩, List.mem_of_getElem? (i := 634) (by decide +kernel), List.mem_of_getElem? (i := 827) (by decide +kernel), List.mem_of_getElem? (i := 828) (by decide +kernel)⟩
theorem lw_p29 : lw_okq (⟨"SharesOfSeriesModel", "power", "(II)I"⟩, 31) := ⟨⟨by decide +kernel, by decide +kernel⟩, List.mem_of_getElem? (i := 634) (by decide +kernel), List.mem_of_getElem? (i := 843) (by decide +kernel), List.mem_of_getElem? (i := 844) (by decide +kernel)⟩
theorem lw_p30 : lw_okq (⟨"SharesOfSeriesModel", "isPair", "(III)Z"⟩, 31) := ⟨⟨by decide +kernel, by decide +kernel⟩, List.mem_of_getElem? (i := 634) (by decide +kernel), List.mem_of_getElem? (i := 863) (by decide +kernel), List.mem_of_getElem? (i := 864) (by decide +kernel)⟩
theorem lw_p31 : lw_okq (⟨"SharesOfSeriesModel", "findEntry", "(III)V"⟩, 31) := ⟨⟨by decide +kernel, by decide +kernel⟩, List.mem_of_getElem? (i := 634) (by decide +kernel), List.mem_of_getElem? (i := 867) (by decide +kernel), List.mem_of_getElem? (i := 868) (by decide +kernel)⟩
def lw_privs_2 : List (MethodName × Nat) := [(⟨"SharesOfSeries", "presentSheets", "()I"⟩, 13), (⟨"SharesOfSeriesModel", "clearResult", "()V"⟩, 31), (⟨"SharesOfSeriesModel", "meets", "(I)I"⟩, 31), (⟨"SharesOfSeriesModel", "rest", "(J)I"⟩, 31), (⟨"SharesOfSeriesModel", "comes", "(I)I"⟩, 31), (⟨"SharesOfSeriesModel", "clearWork", "()V"⟩, 31), (⟨"SharesOfSeriesModel", "unfoldTo", "([II)V"⟩, 31), (⟨"SharesOfSeriesModel", "inverse", "(I)I"⟩, 31), (⟨"SharesOfSeriesModel", "product", "(II)I"⟩, 31), (⟨"SharesOfSeriesModel", "loadResult", "()V"⟩, 31), (⟨"SharesOfSeriesModel", "isSeries", "(I)Z"⟩, 31), (⟨"SharesOfSeriesModel", "lesser", "(II)I"⟩, 31), (⟨"SharesOfSeriesModel", "of", "(II)I"⟩, 31), (⟨"SharesOfSeriesModel", "power", "(II)I"⟩, 31), (⟨"SharesOfSeriesModel", "isPair", "(III)Z"⟩, 31), (⟨"SharesOfSeriesModel", "findEntry", "(III)V"⟩, 31)]
theorem lw_r2 : ∀ q ∈ lw_privs_2, lw_okq q := List.forall_mem_cons.mpr ⟨lw_p16, List.forall_mem_cons.mpr ⟨lw_p17, List.forall_mem_cons.mpr ⟨lw_p18, List.forall_mem_cons.mpr ⟨lw_p19, List.forall_mem_cons.mpr ⟨lw_p20, List.forall_mem_cons.mpr ⟨lw_p21, List.forall_mem_cons.mpr ⟨lw_p22, List.forall_mem_cons.mpr ⟨lw_p23, List.forall_mem_cons.mpr ⟨lw_p24, List.forall_mem_cons.mpr ⟨lw_p25, List.forall_mem_cons.mpr ⟨lw_p26, List.forall_mem_cons.mpr ⟨lw_p27, List.forall_mem_cons.mpr ⟨lw_p28, List.forall_mem_cons.mpr ⟨lw_p29, List.forall_mem_cons.mpr ⟨lw_p30, List.forall_mem_cons.mpr ⟨lw_p31, fun _ h => absurd h List.not_mem_nil⟩⟩⟩⟩⟩⟩⟩⟩⟩⟩⟩⟩⟩⟩⟩⟩
theorem lw_p32 : lw_okq (⟨"SharesOfSeriesModel", "solve", "(I)V"⟩, 31) := ⟨⟨by decide +kernel, by decide +kernel⟩, List.mem_of_getElem? (i := 634) (by decide +kernel), List.mem_of_getElem? (i := 871) (by decide +kernel), List.mem_of_getElem? (i := 872) (by decide +kernel)⟩
theorem lw_p33 : lw_okq (⟨"SharesOfSeriesModel", "lighten", "()V"⟩, 31) := ⟨⟨by decide +kernel, by decide +kernel⟩, List.mem_of_getElem? (i := 634) (by decide +kernel), List.mem_of_getElem? (i := 875) (by decide +kernel), List.mem_of_getElem? (i := 876) (by decide +kernel)⟩
theorem lw_p34 : lw_okq (⟨"SharesOfSeriesModel", "reduce", "([I[II)V"⟩, 31) := ⟨⟨by decide +kernel, by decide +kernel⟩, List.mem_of_getElem? (i := 634) (by decide +kernel), List.mem_of_getElem? (i := 882) (by decide +kernel), List.mem_of_getElem? (i := 883) (by decide +kernel)⟩
theorem lw_p35 : lw_okq (⟨"SharesOfSeriesModel", "divide", "([I[I)V"⟩, 31) := ⟨⟨by decide +kernel, by decide +kernel⟩, List.mem_of_getElem? (i := 634) (by decide +kernel), List.mem_of_getElem? (i := 886) (by decide +kernel), List.mem_of_getElem? (i := 887) (by decide +kernel)⟩
theorem lw_p36 : lw_okq (⟨"SharesOfSeriesModel", "tell", "()V"⟩, 31) := ⟨⟨by decide +kernel, by decide +kernel⟩, List.mem_of_getElem? (i := 634) (by decide +kernel), List.mem_of_getElem? (i := 890) (by decide +kernel), List.mem_of_getElem? (i := 891) (by decide +kernel)⟩
theorem lw_p37 : lw_okq (⟨"SharesOfSeriesModel", "agrees", "(I)I"⟩, 31) := ⟨⟨by decide +kernel, by decide +kernel⟩, List.mem_of_getElem? (i := 634) (by decide +kernel), List.mem_of_getElem? (i := 894) (by decide +kernel), List.mem_of_getElem? (i := 895) (by decide +kernel)⟩
theorem lw_p38 : lw_okq (⟨"SharesOfSeriesModel", "keepResult", "()V"⟩, 31) := ⟨⟨by decide +kernel, by decide +kernel⟩, List.mem_of_getElem? (i := 634) (by decide +kernel), List.mem_of_getElem? (i := 906) (by decide +kernel), List.mem_of_getElem? (i := 907) (by decide +kernel)⟩
theorem lw_p39 : lw_okq (⟨"SharesOfSeriesModel", "resultBack", "()V"⟩, 31) := ⟨⟨by decide +kernel, by decide +kernel⟩, List.mem_of_getElem? (i := 634) (by decide +kernel), List.mem_of_getElem? (i := 910) (by decide +kernel), List.mem_of_getElem? (i := 911) (by decide +kernel)⟩
theorem lw_p40 : lw_okq (⟨"SharesOfSeriesModel", "valueOf", "([II)I"⟩, 31) := ⟨⟨by decide +kernel, by decide +kernel⟩, List.mem_of_getElem? (i := 634) (by decide +kernel), List.mem_of_getElem? (i := 934) (by decide +kernel), List.mem_of_getElem? (i := 935) (by decide +kernel)⟩
def lw_privs_3 : List (MethodName × Nat) := [(⟨"SharesOfSeriesModel", "solve", "(I)V"⟩, 31), (⟨"SharesOfSeriesModel", "lighten", "()V"⟩, 31), (⟨"SharesOfSeriesModel", "reduce", "([I[II)V"⟩, 31), (⟨"SharesOfSeriesModel", "divide", "([I[I)V"⟩, 31), (⟨"SharesOfSeriesModel", "tell", "()V"⟩, 31), (⟨"SharesOfSeriesModel", "agrees", "(I)I"⟩, 31), (⟨"SharesOfSeriesModel", "keepResult", "()V"⟩, 31), (⟨"SharesOfSeriesModel", "resultBack", "()V"⟩, 31), (⟨"SharesOfSeriesModel", "valueOf", "([II)I"⟩, 31)]
theorem lw_r3 : ∀ q ∈ lw_privs_3, lw_okq q := List.forall_mem_cons.mpr ⟨lw_p32, List.forall_mem_cons.mpr ⟨lw_p33, List.forall_mem_cons.mpr ⟨lw_p34, List.forall_mem_cons.mpr ⟨lw_p35, List.forall_mem_cons.mpr ⟨lw_p36, List.forall_mem_cons.mpr ⟨lw_p37, List.forall_mem_cons.mpr ⟨lw_p38, List.forall_mem_cons.mpr ⟨lw_p39, List.forall_mem_cons.mpr ⟨lw_p40, fun _ h => absurd h List.not_mem_nil⟩⟩⟩⟩⟩⟩⟩⟩⟩
def lw_privs : List (MethodName × Nat) := lw_privs_1 ++ (lw_privs_2 ++ (lw_privs_3))
def lw_tbl : List Cond := k2_sels lw_privs ++ tables_1
theorem lw_privs_ok : ∀ q ∈ lw_privs, lw_okq q := by
  show ∀ q ∈ lw_privs_1 ++ (lw_privs_2 ++ (lw_privs_3)), lw_okq q
  exact List.forall_mem_append.mpr ⟨lw_r1, List.forall_mem_append.mpr ⟨lw_r2, lw_r3⟩⟩
end
section
def RX0 : String := "SharesOfSeries$Determinant"
def TX0 : u_T := fun k => match k with
  | _ => ("SharesOfSeries$Determinant", "square", "[[I", true)
def tyX0 : Nat → FieldType := fun k => match k with
  | _ => .array (.array .int)
abbrev wsX00 : List Cond := u_ws RX0 TX0 1
theorem nmX0 : ∀ a, a < 1 → ∀ b, b < 1 → a ≠ b → (TX0 a).2.1 ≠ (TX0 b).2.1 := by decide +kernel
theorem tyX0_ok : ∀ k, k < 1 → parseFieldDescriptor (TX0 k).2.2.1 = some (tyX0 k) := by decide +kernel
abbrev cX0_init : ByteArray := prog_2_method_1_code
def yX0_init : MethodName := ⟨RX0, "<init>", "()V"⟩
abbrev cX0_fill : ByteArray := prog_2_method_2_code
def yX0_fill : MethodName := ⟨RX0, "fill", "(LSharesOfSeries$Series;II)V"⟩
abbrev cX0_compute : ByteArray := prog_2_method_3_code
def yX0_compute : MethodName := ⟨RX0, "compute", "(ILSharesOfSeries$Residues;)I"⟩
abbrev cX0_pivotRow : ByteArray := prog_2_method_4_code
def yX0_pivotRow : MethodName := ⟨RX0, "pivotRow", "(II)I"⟩
abbrev cX0_swapRows : ByteArray := prog_2_method_5_code
def yX0_swapRows : MethodName := ⟨RX0, "swapRows", "(II)V"⟩
abbrev cX0_clearBelow : ByteArray := prog_2_method_6_code
def yX0_clearBelow : MethodName := ⟨RX0, "clearBelow", "(IILSharesOfSeries$Residues;)V"⟩
def RX1 : String := "SharesOfSeries$Euclid"
def TX1 : u_T := fun k => match k with
  | 0 => ("SharesOfSeries$Euclid", "modulus", "LSharesOfSeries$Polynomial;", true)
  | 1 => ("SharesOfSeries$Euclid", "start", "LSharesOfSeries$Polynomial;", true)
  | 2 => ("SharesOfSeries$Euclid", "startFactor", "LSharesOfSeries$Polynomial;", true)
  | 3 => ("SharesOfSeries$Euclid", "modulusFactor", "LSharesOfSeries$Polynomial;", true)
  | _ => ("SharesOfSeries$Euclid", "quotient", "LSharesOfSeries$Polynomial;", true)
def tyX1 : Nat → FieldType := fun k => match k with
  | 0 => .object "SharesOfSeries$Polynomial"
  | 1 => .object "SharesOfSeries$Polynomial"
  | 2 => .object "SharesOfSeries$Polynomial"
  | 3 => .object "SharesOfSeries$Polynomial"
  | _ => .object "SharesOfSeries$Polynomial"
abbrev wsX10 : List Cond := u_ws RX1 TX1 5
theorem nmX1 : ∀ a, a < 5 → ∀ b, b < 5 → a ≠ b → (TX1 a).2.1 ≠ (TX1 b).2.1 := by decide +kernel
theorem tyX1_ok : ∀ k, k < 5 → parseFieldDescriptor (TX1 k).2.2.1 = some (tyX1 k) := by decide +kernel
abbrev cX1_init : ByteArray := prog_3_method_1_code
def yX1_init : MethodName := ⟨RX1, "<init>", "()V"⟩
abbrev cX1_findShare : ByteArray := prog_3_method_2_code
def yX1_findShare : MethodName := ⟨RX1, "findShare", "(ILSharesOfSeries$Share;LSharesOfSeries$Residues;)V"⟩
abbrev cX1_dropCommonFactors : ByteArray := prog_3_method_3_code
def yX1_dropCommonFactors : MethodName := ⟨RX1, "dropCommonFactors", "(LSharesOfSeries$Share;LSharesOfSeries$Residues;)V"⟩
def RX2 : String := "SharesOfSeries$Points"
def TX2 : u_T := fun k => match k with
  | 0 => ("SharesOfSeries$Points", "places", "[I", true)
  | 1 => ("SharesOfSeries$Points", "heights", "[I", true)
  | _ => ("SharesOfSeries$Points", "held", "I", false)
def tyX2 : Nat → FieldType := fun k => match k with
  | 0 => .array .int
  | 1 => .array .int
  | _ => .int
abbrev wsX20 : List Cond := u_ws RX2 TX2 3
theorem nmX2 : ∀ a, a < 3 → ∀ b, b < 3 → a ≠ b → (TX2 a).2.1 ≠ (TX2 b).2.1 := by decide +kernel
theorem tyX2_ok : ∀ k, k < 3 → parseFieldDescriptor (TX2 k).2.2.1 = some (tyX2 k) := by decide +kernel
abbrev cX2_init : ByteArray := prog_4_method_1_code
def yX2_init : MethodName := ⟨RX2, "<init>", "()V"⟩
abbrev cX2_indexOf : ByteArray := prog_4_method_2_code
def yX2_indexOf : MethodName := ⟨RX2, "indexOf", "(I)I"⟩
abbrev cX2_heightAt : ByteArray := prog_4_method_3_code
def yX2_heightAt : MethodName := ⟨RX2, "heightAt", "(I)I"⟩
abbrev cX2_add : ByteArray := prog_4_method_4_code
def yX2_add : MethodName := ⟨RX2, "add", "(II)V"⟩
abbrev cX2_interpolate : ByteArray := prog_4_method_5_code
def yX2_interpolate : MethodName := ⟨RX2, "interpolate", "(LSharesOfSeries$Polynomial;LSharesOfSeries$Polynomial;LSharesOfSeries$Residues;)V"⟩
abbrev cX2_allOn : ByteArray := prog_4_method_6_code
def yX2_allOn : MethodName := ⟨RX2, "allOn", "(LSharesOfSeries$Share;LSharesOfSeries$Residues;)Z"⟩
abbrev cX2_mixedInto : ByteArray := prog_4_method_7_code
def yX2_mixedInto : MethodName := ⟨RX2, "mixedInto", "(J)J"⟩
def RX3 : String := "SharesOfSeries$Polynomial"
def TX3 : u_T := fun k => match k with
  | _ => ("SharesOfSeries$Polynomial", "terms", "[I", true)
def tyX3 : Nat → FieldType := fun k => match k with
  | _ => .array .int
abbrev wsX30 : List Cond := u_ws RX3 TX3 1
theorem nmX3 : ∀ a, a < 1 → ∀ b, b < 1 → a ≠ b → (TX3 a).2.1 ≠ (TX3 b).2.1 := by decide +kernel
theorem tyX3_ok : ∀ k, k < 1 → parseFieldDescriptor (TX3 k).2.2.1 = some (tyX3 k) := by decide +kernel
abbrev cX3_init : ByteArray := prog_5_method_1_code
def yX3_init : MethodName := ⟨RX3, "<init>", "()V"⟩
abbrev cX3_at : ByteArray := prog_5_method_2_code
def yX3_at : MethodName := ⟨RX3, "at", "(I)I"⟩
abbrev cX3_set : ByteArray := prog_5_method_3_code
def yX3_set : MethodName := ⟨RX3, "set", "(II)V"⟩
abbrev cX3_top : ByteArray := prog_5_method_4_code
def yX3_top : MethodName := ⟨RX3, "top", "()I"⟩
abbrev cX3_lowestTerm : ByteArray := prog_5_method_5_code
def yX3_lowestTerm : MethodName := ⟨RX3, "lowestTerm", "()I"⟩
abbrev cX3_becomeNumber : ByteArray := prog_5_method_6_code
def yX3_becomeNumber : MethodName := ⟨RX3, "becomeNumber", "(I)V"⟩
abbrev cX3_become : ByteArray := prog_5_method_7_code
def yX3_become : MethodName := ⟨RX3, "become", "(LSharesOfSeries$Polynomial;)V"⟩
abbrev cX3_dropLowest : ByteArray := prog_5_method_8_code
def yX3_dropLowest : MethodName := ⟨RX3, "dropLowest", "()V"⟩
abbrev cX3_valueAt : ByteArray := prog_5_method_9_code
def yX3_valueAt : MethodName := ⟨RX3, "valueAt", "(ILSharesOfSeries$Residues;)I"⟩
abbrev cX3_scale : ByteArray := prog_5_method_10_code
def yX3_scale : MethodName := ⟨RX3, "scale", "(ILSharesOfSeries$Residues;)V"⟩
abbrev cX3_addMultiple : ByteArray := prog_5_method_11_code
def yX3_addMultiple : MethodName := ⟨RX3, "addMultiple", "(LSharesOfSeries$Polynomial;IILSharesOfSeries$Residues;)V"⟩
abbrev cX3_subtractProduct : ByteArray := prog_5_method_12_code
def yX3_subtractProduct : MethodName := ⟨RX3, "subtractProduct", "(LSharesOfSeries$Polynomial;LSharesOfSeries$Polynomial;LSharesOfSeries$Residues;)V"⟩
abbrev cX3_addRoot : ByteArray := prog_5_method_13_code
def yX3_addRoot : MethodName := ⟨RX3, "addRoot", "(ILSharesOfSeries$Residues;)V"⟩
abbrev cX3_divide : ByteArray := prog_5_method_14_code
def yX3_divide : MethodName := ⟨RX3, "divide", "(LSharesOfSeries$Polynomial;LSharesOfSeries$Polynomial;LSharesOfSeries$Residues;)V"⟩
abbrev cX3_mixedInto : ByteArray := prog_5_method_15_code
def yX3_mixedInto : MethodName := ⟨RX3, "mixedInto", "(JI)J"⟩
def RX4 : String := "SharesOfSeries$Recurrence"
def TX4 : u_T := fun k => match k with
  | 0 => ("SharesOfSeries$Recurrence", "first", "LSharesOfSeries$Polynomial;", true)
  | 1 => ("SharesOfSeries$Recurrence", "second", "LSharesOfSeries$Polynomial;", true)
  | _ => ("SharesOfSeries$Recurrence", "third", "LSharesOfSeries$Polynomial;", true)
def tyX4 : Nat → FieldType := fun k => match k with
  | 0 => .object "SharesOfSeries$Polynomial"
  | 1 => .object "SharesOfSeries$Polynomial"
  | _ => .object "SharesOfSeries$Polynomial"
abbrev wsX40 : List Cond := u_ws RX4 TX4 3
theorem nmX4 : ∀ a, a < 3 → ∀ b, b < 3 → a ≠ b → (TX4 a).2.1 ≠ (TX4 b).2.1 := by decide +kernel
theorem tyX4_ok : ∀ k, k < 3 → parseFieldDescriptor (TX4 k).2.2.1 = some (tyX4 k) := by decide +kernel
abbrev cX4_init : ByteArray := prog_6_method_1_code
def yX4_init : MethodName := ⟨RX4, "<init>", "()V"⟩
abbrev cX4_least : ByteArray := prog_6_method_2_code
def yX4_least : MethodName := ⟨RX4, "least", "(LSharesOfSeries$Series;LSharesOfSeries$Residues;)I"⟩
abbrev cX4_faultAt : ByteArray := prog_6_method_3_code
def yX4_faultAt : MethodName := ⟨RX4, "faultAt", "(IILSharesOfSeries$Polynomial;LSharesOfSeries$Series;LSharesOfSeries$Residues;)I"⟩
def RX5 : String := "SharesOfSeries$Residues"
def TX5 : u_T := fun k => match k with
  | _ => ("SharesOfSeries$Residues", "modulus", "I", false)
def tyX5 : Nat → FieldType := fun k => match k with
  | _ => .int
abbrev wsX50 : List Cond := u_ws RX5 TX5 1
theorem nmX5 : ∀ a, a < 1 → ∀ b, b < 1 → a ≠ b → (TX5 a).2.1 ≠ (TX5 b).2.1 := by decide +kernel
theorem tyX5_ok : ∀ k, k < 1 → parseFieldDescriptor (TX5 k).2.2.1 = some (tyX5 k) := by decide +kernel
abbrev cX5_init : ByteArray := prog_7_method_1_code
def yX5_init : MethodName := ⟨RX5, "<init>", "()V"⟩
abbrev cX5_of : ByteArray := prog_7_method_2_code
def yX5_of : MethodName := ⟨RX5, "of", "(J)I"⟩
abbrev cX5_product : ByteArray := prog_7_method_3_code
def yX5_product : MethodName := ⟨RX5, "product", "(II)I"⟩
abbrev cX5_negative : ByteArray := prog_7_method_4_code
def yX5_negative : MethodName := ⟨RX5, "negative", "(I)I"⟩
abbrev cX5_inverse : ByteArray := prog_7_method_5_code
def yX5_inverse : MethodName := ⟨RX5, "inverse", "(I)I"⟩
def RX6 : String := "SharesOfSeries$Series"
def TX6 : u_T := fun k => match k with
  | 0 => ("SharesOfSeries$Series", "numbers", "LSharesOfSeries$Polynomial;", true)
  | _ => ("SharesOfSeries$Series", "last", "I", false)
def tyX6 : Nat → FieldType := fun k => match k with
  | 0 => .object "SharesOfSeries$Polynomial"
  | _ => .int
abbrev wsX60 : List Cond := u_ws RX6 TX6 2
theorem nmX6 : ∀ a, a < 2 → ∀ b, b < 2 → a ≠ b → (TX6 a).2.1 ≠ (TX6 b).2.1 := by decide +kernel
theorem tyX6_ok : ∀ k, k < 2 → parseFieldDescriptor (TX6 k).2.2.1 = some (tyX6 k) := by decide +kernel
abbrev cX6_init : ByteArray := prog_8_method_1_code
def yX6_init : MethodName := ⟨RX6, "<init>", "()V"⟩
def RX7 : String := "SharesOfSeries$Share"
def TX7 : u_T := fun k => match k with
  | 0 => ("SharesOfSeries$Share", "above", "LSharesOfSeries$Polynomial;", true)
  | _ => ("SharesOfSeries$Share", "below", "LSharesOfSeries$Polynomial;", true)
def tyX7 : Nat → FieldType := fun k => match k with
  | 0 => .object "SharesOfSeries$Polynomial"
  | _ => .object "SharesOfSeries$Polynomial"
abbrev wsX70 : List Cond := u_ws RX7 TX7 2
theorem nmX7 : ∀ a, a < 2 → ∀ b, b < 2 → a ≠ b → (TX7 a).2.1 ≠ (TX7 b).2.1 := by decide +kernel
theorem tyX7_ok : ∀ k, k < 2 → parseFieldDescriptor (TX7 k).2.2.1 = some (tyX7 k) := by decide +kernel
abbrev cX7_init : ByteArray := prog_9_method_1_code
def yX7_init : MethodName := ⟨RX7, "<init>", "()V"⟩
abbrev cX7_becomeZero : ByteArray := prog_9_method_2_code
def yX7_becomeZero : MethodName := ⟨RX7, "becomeZero", "()V"⟩
abbrev cX7_become : ByteArray := prog_9_method_3_code
def yX7_become : MethodName := ⟨RX7, "become", "(LSharesOfSeries$Share;)V"⟩
abbrev cX7_side : ByteArray := prog_9_method_4_code
def yX7_side : MethodName := ⟨RX7, "side", "(I)LSharesOfSeries$Polynomial;"⟩
abbrev cX7_unfoldInto : ByteArray := prog_9_method_5_code
def yX7_unfoldInto : MethodName := ⟨RX7, "unfoldInto", "(LSharesOfSeries$Polynomial;ILSharesOfSeries$Residues;)V"⟩
def RX8 : String := "SharesOfSeries$Sheet"
def TX8 : u_T := fun k => match k with
  | 0 => ("SharesOfSeries$Sheet", "cells", "[J", true)
  | 1 => ("SharesOfSeries$Sheet", "lost", "Z", false)
  | 2 => ("SharesOfSeries$Sheet", "lane", "I", false)
  | _ => ("SharesOfSeries$Sheet", "size", "I", false)
def tyX8 : Nat → FieldType := fun k => match k with
  | 0 => .array .long
  | 1 => .boolean
  | 2 => .int
  | _ => .int
abbrev wsX80 : List Cond := u_ws RX8 TX8 4
theorem nmX8 : ∀ a, a < 4 → ∀ b, b < 4 → a ≠ b → (TX8 a).2.1 ≠ (TX8 b).2.1 := by decide +kernel
theorem tyX8_ok : ∀ k, k < 4 → parseFieldDescriptor (TX8 k).2.2.1 = some (tyX8 k) := by decide +kernel
abbrev cX8_init : ByteArray := prog_10_method_1_code
def yX8_init : MethodName := ⟨RX8, "<init>", "()V"⟩
abbrev cX8_renew : ByteArray := prog_10_method_2_code
def yX8_renew : MethodName := ⟨RX8, "renew", "(II)V"⟩
abbrev cX8_hasPlaces : ByteArray := prog_10_method_3_code
def yX8_hasPlaces : MethodName := ⟨RX8, "hasPlaces", "(II)Z"⟩
abbrev cX8_read : ByteArray := prog_10_method_4_code
def yX8_read : MethodName := ⟨RX8, "read", "(I)J"⟩
abbrev cX8_write : ByteArray := prog_10_method_5_code
def yX8_write : MethodName := ⟨RX8, "write", "(IJ)V"⟩
abbrev cX8_castToLane : ByteArray := prog_10_method_6_code
def yX8_castToLane : MethodName := ⟨RX8, "castToLane", "(J)J"⟩
abbrev cX8_mixedInto : ByteArray := prog_10_method_7_code
def yX8_mixedInto : MethodName := ⟨RX8, "mixedInto", "(J)J"⟩
def RX9 : String := "SharesOfSeries"
def TX9 : u_T := fun k => match k with
  | 0 => ("SharesOfSeries", "residues", "LSharesOfSeries$Residues;", true)
  | 1 => ("SharesOfSeries", "sheets", "[LSharesOfSeries$Sheet;", true)
  | 2 => ("SharesOfSeries", "kept", "[LSharesOfSeries$Series;", true)
  | 3 => ("SharesOfSeries", "keptCount", "I", false)
  | 4 => ("SharesOfSeries", "points", "LSharesOfSeries$Points;", true)
  | 5 => ("SharesOfSeries", "result", "LSharesOfSeries$Share;", true)
  | 6 => ("SharesOfSeries", "trial", "LSharesOfSeries$Share;", true)
  | 7 => ("SharesOfSeries", "euclid", "LSharesOfSeries$Euclid;", true)
  | 8 => ("SharesOfSeries", "determinant", "LSharesOfSeries$Determinant;", true)
  | 9 => ("SharesOfSeries", "recurrence", "LSharesOfSeries$Recurrence;", true)
  | 10 => ("SharesOfSeries", "unfolded", "LSharesOfSeries$Polynomial;", true)
  | 11 => ("SharesOfSeries", "causeCounts", "[I", true)
  | _ => ("SharesOfSeries", "latestCause", "I", false)
def tyX9 : Nat → FieldType := fun k => match k with
  | 0 => .object "SharesOfSeries$Residues"
  | 1 => .array (.object "SharesOfSeries$Sheet")
  | 2 => .array (.object "SharesOfSeries$Series")
  | 3 => .int
  | 4 => .object "SharesOfSeries$Points"
  | 5 => .object "SharesOfSeries$Share"
  | 6 => .object "SharesOfSeries$Share"
  | 7 => .object "SharesOfSeries$Euclid"
  | 8 => .object "SharesOfSeries$Determinant"
  | 9 => .object "SharesOfSeries$Recurrence"
  | 10 => .object "SharesOfSeries$Polynomial"
  | 11 => .array .int
  | _ => .int
abbrev wsX90 : List Cond := u_ws RX9 TX9 13
theorem nmX9 : ∀ a, a < 13 → ∀ b, b < 13 → a ≠ b → (TX9 a).2.1 ≠ (TX9 b).2.1 := by decide +kernel
theorem tyX9_ok : ∀ k, k < 13 → parseFieldDescriptor (TX9 k).2.2.1 = some (tyX9 k) := by decide +kernel
abbrev cX9_init : ByteArray := prog_1_method_1_code
def yX9_init : MethodName := ⟨RX9, "<init>", "()V"⟩
abbrev cX9_prime : ByteArray := prog_1_method_2_code
def yX9_prime : MethodName := ⟨RX9, "prime", "(I)I"⟩
abbrev cX9_sheet : ByteArray := prog_1_method_3_code
def yX9_sheet : MethodName := ⟨RX9, "sheet", "(III)I"⟩
abbrev cX9_put : ByteArray := prog_1_method_4_code
def yX9_put : MethodName := ⟨RX9, "put", "(IIIJ)I"⟩
abbrev cX9_copy : ByteArray := prog_1_method_5_code
def yX9_copy : MethodName := ⟨RX9, "copy", "(IIIII)I"⟩
abbrev cX9_lose : ByteArray := prog_1_method_6_code
def yX9_lose : MethodName := ⟨RX9, "lose", "(I)I"⟩
abbrev cX9_series : ByteArray := prog_1_method_7_code
def yX9_series : MethodName := ⟨RX9, "series", "(III)I"⟩
abbrev cX9_share : ByteArray := prog_1_method_8_code
def yX9_share : MethodName := ⟨RX9, "share", "(IIIII)I"⟩
abbrev cX9_unfold : ByteArray := prog_1_method_9_code
def yX9_unfold : MethodName := ⟨RX9, "unfold", "(I)I"⟩
abbrev cX9_plus : ByteArray := prog_1_method_10_code
def yX9_plus : MethodName := ⟨RX9, "plus", "(III)I"⟩
abbrev cX9_times : ByteArray := prog_1_method_11_code
def yX9_times : MethodName := ⟨RX9, "times", "(II)I"⟩
abbrev cX9_under : ByteArray := prog_1_method_12_code
def yX9_under : MethodName := ⟨RX9, "under", "(I)I"⟩
abbrev cX9_moved : ByteArray := prog_1_method_13_code
def yX9_moved : MethodName := ⟨RX9, "moved", "(III)I"⟩
abbrev cX9_number : ByteArray := prog_1_method_14_code
def yX9_number : MethodName := ⟨RX9, "number", "(II)I"⟩
abbrev cX9_length : ByteArray := prog_1_method_15_code
def yX9_length : MethodName := ⟨RX9, "length", "(I)I"⟩
abbrev cX9_clear : ByteArray := prog_1_method_16_code
def yX9_clear : MethodName := ⟨RX9, "clear", "()I"⟩
abbrev cX9_entry : ByteArray := prog_1_method_17_code
def yX9_entry : MethodName := ⟨RX9, "entry", "(III)I"⟩
abbrev cX9_worth : ByteArray := prog_1_method_18_code
def yX9_worth : MethodName := ⟨RX9, "worth", "(III)I"⟩
abbrev cX9_block : ByteArray := prog_1_method_19_code
def yX9_block : MethodName := ⟨RX9, "block", "(IIII)I"⟩
abbrev cX9_stair : ByteArray := prog_1_method_20_code
def yX9_stair : MethodName := ⟨RX9, "stair", "(II)I"⟩
abbrev cX9_recur : ByteArray := prog_1_method_21_code
def yX9_recur : MethodName := ⟨RX9, "recur", "(I)I"⟩
abbrev cX9_point : ByteArray := prog_1_method_22_code
def yX9_point : MethodName := ⟨RX9, "point", "(II)I"⟩
abbrev cX9_wipe : ByteArray := prog_1_method_23_code
def yX9_wipe : MethodName := ⟨RX9, "wipe", "()I"⟩
abbrev cX9_join : ByteArray := prog_1_method_24_code
def yX9_join : MethodName := ⟨RX9, "join", "(II)I"⟩
abbrev cX9_degree : ByteArray := prog_1_method_25_code
def yX9_degree : MethodName := ⟨RX9, "degree", "(I)I"⟩
abbrev cX9_term : ByteArray := prog_1_method_26_code
def yX9_term : MethodName := ⟨RX9, "term", "(II)I"⟩
abbrev cX9_value : ByteArray := prog_1_method_27_code
def yX9_value : MethodName := ⟨RX9, "value", "(I)I"⟩
abbrev cX9_cause : ByteArray := prog_1_method_28_code
def yX9_cause : MethodName := ⟨RX9, "cause", "()I"⟩
abbrev cX9_causes : ByteArray := prog_1_method_29_code
def yX9_causes : MethodName := ⟨RX9, "causes", "(I)I"⟩
abbrev cX9_count : ByteArray := prog_1_method_30_code
def yX9_count : MethodName := ⟨RX9, "count", "(I)I"⟩
abbrev cX9_digest : ByteArray := prog_1_method_31_code
def yX9_digest : MethodName := ⟨RX9, "digest", "()J"⟩
abbrev cX9_mixed : ByteArray := prog_1_method_32_code
def yX9_mixed : MethodName := ⟨RX9, "mixed", "(JJ)J"⟩
abbrev cX9_isAllowedPrime : ByteArray := prog_1_method_33_code
def yX9_isAllowedPrime : MethodName := ⟨RX9, "isAllowedPrime", "(I)Z"⟩
abbrev cX9_isLane : ByteArray := prog_1_method_34_code
def yX9_isLane : MethodName := ⟨RX9, "isLane", "(I)Z"⟩
abbrev cX9_isLength : ByteArray := prog_1_method_35_code
def yX9_isLength : MethodName := ⟨RX9, "isLength", "(I)Z"⟩
abbrev cX9_isPairOf : ByteArray := prog_1_method_36_code
def yX9_isPairOf : MethodName := ⟨RX9, "isPairOf", "(LSharesOfSeries$Series;II)Z"⟩
abbrev cX9_caused : ByteArray := prog_1_method_37_code
def yX9_caused : MethodName := ⟨RX9, "caused", "(I)I"⟩
abbrev cX9_sheetNumbered : ByteArray := prog_1_method_38_code
def yX9_sheetNumbered : MethodName := ⟨RX9, "sheetNumbered", "(I)LSharesOfSeries$Sheet;"⟩
abbrev cX9_presentSheets : ByteArray := prog_1_method_39_code
def yX9_presentSheets : MethodName := ⟨RX9, "presentSheets", "()I"⟩
abbrev cX9_seriesNumbered : ByteArray := prog_1_method_40_code
def yX9_seriesNumbered : MethodName := ⟨RX9, "seriesNumbered", "(I)LSharesOfSeries$Series;"⟩
abbrev cX9_freshSeries : ByteArray := prog_1_method_41_code
def yX9_freshSeries : MethodName := ⟨RX9, "freshSeries", "(I)LSharesOfSeries$Series;"⟩
abbrev cX9_keepFresh : ByteArray := prog_1_method_42_code
def yX9_keepFresh : MethodName := ⟨RX9, "keepFresh", "()I"⟩
abbrev cX9_keepUnfolded : ByteArray := prog_1_method_43_code
def yX9_keepUnfolded : MethodName := ⟨RX9, "keepUnfolded", "(LSharesOfSeries$Share;I)I"⟩
abbrev cX9_readTerms : ByteArray := prog_1_method_44_code
def yX9_readTerms : MethodName := ⟨RX9, "readTerms", "(LSharesOfSeries$Sheet;IILSharesOfSeries$Polynomial;)V"⟩
abbrev cX9_findEntry : ByteArray := prog_1_method_45_code
def yX9_findEntry : MethodName := ⟨RX9, "findEntry", "(LSharesOfSeries$Series;IILSharesOfSeries$Share;)V"⟩
abbrev cX9_stepDown : ByteArray := prog_1_method_46_code
def yX9_stepDown : MethodName := ⟨RX9, "stepDown", "(LSharesOfSeries$Polynomial;I)V"⟩
abbrev cX9_agreement : ByteArray := prog_1_method_47_code
def yX9_agreement : MethodName := ⟨RX9, "agreement", "(LSharesOfSeries$Series;LSharesOfSeries$Share;)I"⟩
def RX10 : String := "SharesOfSeriesModel"
def TX10 : u_T := fun k => match k with
  | 0 => ("SharesOfSeriesModel", "latest", "I", false)
  | 1 => ("SharesOfSeriesModel", "came", "[I", true)
  | 2 => ("SharesOfSeriesModel", "prime", "I", false)
  | 3 => ("SharesOfSeriesModel", "lane", "[I", true)
  | 4 => ("SharesOfSeriesModel", "size", "[I", true)
  | 5 => ("SharesOfSeriesModel", "sheetRow", "[J", true)
  | 6 => ("SharesOfSeriesModel", "held", "[J", true)
  | 7 => ("SharesOfSeriesModel", "many", "I", false)
  | 8 => ("SharesOfSeriesModel", "lengthOf", "[I", true)
  | 9 => ("SharesOfSeriesModel", "c", "[I", true)
  | 10 => ("SharesOfSeriesModel", "coming", "[I", true)
  | 11 => ("SharesOfSeriesModel", "workP", "[I", true)
  | 12 => ("SharesOfSeriesModel", "workQ", "[I", true)
  | 13 => ("SharesOfSeriesModel", "table", "[I", true)
  | 14 => ("SharesOfSeriesModel", "pivotOf", "[I", true)
  | 15 => ("SharesOfSeriesModel", "found", "[I", true)
  | 16 => ("SharesOfSeriesModel", "resultP", "[I", true)
  | 17 => ("SharesOfSeriesModel", "resultQ", "[I", true)
  | 18 => ("SharesOfSeriesModel", "gcdA", "[I", true)
  | 19 => ("SharesOfSeriesModel", "gcdB", "[I", true)
  | 20 => ("SharesOfSeriesModel", "unfolded", "[I", true)
  | 21 => ("SharesOfSeriesModel", "keptP", "[I", true)
  | 22 => ("SharesOfSeriesModel", "keptQ", "[I", true)
  | 23 => ("SharesOfSeriesModel", "left", "[I", true)
  | 24 => ("SharesOfSeriesModel", "turned", "[I", true)
  | 25 => ("SharesOfSeriesModel", "rule", "[I", true)
  | 26 => ("SharesOfSeriesModel", "before", "[I", true)
  | 27 => ("SharesOfSeriesModel", "kept", "[I", true)
  | 28 => ("SharesOfSeriesModel", "points", "I", false)
  | 29 => ("SharesOfSeriesModel", "pointX", "[I", true)
  | _ => ("SharesOfSeriesModel", "pointY", "[I", true)
def tyX10 : Nat → FieldType := fun k => match k with
  | 0 => .int
  | 1 => .array .int
  | 2 => .int
  | 3 => .array .int
  | 4 => .array .int
  | 5 => .array .long
  | 6 => .array .long
  | 7 => .int
  | 8 => .array .int
  | 9 => .array .int
  | 10 => .array .int
  | 11 => .array .int
  | 12 => .array .int
  | 13 => .array .int
  | 14 => .array .int
  | 15 => .array .int
  | 16 => .array .int
  | 17 => .array .int
  | 18 => .array .int
  | 19 => .array .int
  | 20 => .array .int
  | 21 => .array .int
  | 22 => .array .int
  | 23 => .array .int
  | 24 => .array .int
  | 25 => .array .int
  | 26 => .array .int
  | 27 => .array .int
  | 28 => .int
  | 29 => .array .int
  | _ => .array .int
abbrev wsX100 : List Cond := u_ws RX10 TX10 31
theorem nmX10 : ∀ a, a < 31 → ∀ b, b < 31 → a ≠ b → (TX10 a).2.1 ≠ (TX10 b).2.1 := by decide +kernel
theorem tyX10_ok : ∀ k, k < 31 → parseFieldDescriptor (TX10 k).2.2.1 = some (tyX10 k) := by decide +kernel
abbrev cX10_init : ByteArray := prog_12_method_1_code
def yX10_init : MethodName := ⟨RX10, "<init>", "()V"⟩
abbrev cX10_in : ByteArray := prog_12_method_2_code
def yX10_in : MethodName := ⟨RX10, "in", "(JJJ)Z"⟩
abbrev cX10_meets : ByteArray := prog_12_method_3_code
def yX10_meets : MethodName := ⟨RX10, "meets", "(I)I"⟩
abbrev cX10_rest : ByteArray := prog_12_method_4_code
def yX10_rest : MethodName := ⟨RX10, "rest", "(J)I"⟩
abbrev cX10_product : ByteArray := prog_12_method_5_code
def yX10_product : MethodName := ⟨RX10, "product", "(II)I"⟩
abbrev cX10_power : ByteArray := prog_12_method_6_code
def yX10_power : MethodName := ⟨RX10, "power", "(II)I"⟩
abbrev cX10_inverse : ByteArray := prog_12_method_7_code
def yX10_inverse : MethodName := ⟨RX10, "inverse", "(I)I"⟩
abbrev cX10_isPrime : ByteArray := prog_12_method_8_code
def yX10_isPrime : MethodName := ⟨RX10, "isPrime", "(I)Z"⟩
abbrev cX10_prime : ByteArray := prog_12_method_9_code
def yX10_prime : MethodName := ⟨RX10, "prime", "(I)I"⟩
abbrev cX10_isSheet : ByteArray := prog_12_method_10_code
def yX10_isSheet : MethodName := ⟨RX10, "isSheet", "(I)Z"⟩
abbrev cX10_sheet : ByteArray := prog_12_method_11_code
def yX10_sheet : MethodName := ⟨RX10, "sheet", "(III)I"⟩
abbrev cX10_put : ByteArray := prog_12_method_12_code
def yX10_put : MethodName := ⟨RX10, "put", "(IIIJ)I"⟩
abbrev cX10_copy : ByteArray := prog_12_method_13_code
def yX10_copy : MethodName := ⟨RX10, "copy", "(IIIII)I"⟩
abbrev cX10_lose : ByteArray := prog_12_method_14_code
def yX10_lose : MethodName := ⟨RX10, "lose", "(I)I"⟩
abbrev cX10_isSeries : ByteArray := prog_12_method_15_code
def yX10_isSeries : MethodName := ⟨RX10, "isSeries", "(I)Z"⟩
abbrev cX10_of : ByteArray := prog_12_method_16_code
def yX10_of : MethodName := ⟨RX10, "of", "(II)I"⟩
abbrev cX10_comes : ByteArray := prog_12_method_17_code
def yX10_comes : MethodName := ⟨RX10, "comes", "(I)I"⟩
abbrev cX10_series : ByteArray := prog_12_method_18_code
def yX10_series : MethodName := ⟨RX10, "series", "(III)I"⟩
abbrev cX10_unfoldTo : ByteArray := prog_12_method_19_code
def yX10_unfoldTo : MethodName := ⟨RX10, "unfoldTo", "([II)V"⟩
abbrev cX10_clearWork : ByteArray := prog_12_method_20_code
def yX10_clearWork : MethodName := ⟨RX10, "clearWork", "()V"⟩
abbrev cX10_share : ByteArray := prog_12_method_21_code
def yX10_share : MethodName := ⟨RX10, "share", "(IIIII)I"⟩
abbrev cX10_loadResult : ByteArray := prog_12_method_22_code
def yX10_loadResult : MethodName := ⟨RX10, "loadResult", "()V"⟩
abbrev cX10_unfold : ByteArray := prog_12_method_23_code
def yX10_unfold : MethodName := ⟨RX10, "unfold", "(I)I"⟩
abbrev cX10_lesser : ByteArray := prog_12_method_24_code
def yX10_lesser : MethodName := ⟨RX10, "lesser", "(II)I"⟩
abbrev cX10_plus : ByteArray := prog_12_method_25_code
def yX10_plus : MethodName := ⟨RX10, "plus", "(III)I"⟩
abbrev cX10_times : ByteArray := prog_12_method_26_code
def yX10_times : MethodName := ⟨RX10, "times", "(II)I"⟩
abbrev cX10_under : ByteArray := prog_12_method_27_code
def yX10_under : MethodName := ⟨RX10, "under", "(I)I"⟩
abbrev cX10_moved : ByteArray := prog_12_method_28_code
def yX10_moved : MethodName := ⟨RX10, "moved", "(III)I"⟩
abbrev cX10_number : ByteArray := prog_12_method_29_code
def yX10_number : MethodName := ⟨RX10, "number", "(II)I"⟩
abbrev cX10_length : ByteArray := prog_12_method_30_code
def yX10_length : MethodName := ⟨RX10, "length", "(I)I"⟩
abbrev cX10_clear : ByteArray := prog_12_method_31_code
def yX10_clear : MethodName := ⟨RX10, "clear", "()I"⟩
abbrev cX10_solve : ByteArray := prog_12_method_32_code
def yX10_solve : MethodName := ⟨RX10, "solve", "(I)V"⟩
abbrev cX10_degreeOf : ByteArray := prog_12_method_33_code
def yX10_degreeOf : MethodName := ⟨RX10, "degreeOf", "([II)I"⟩
abbrev cX10_clearResult : ByteArray := prog_12_method_34_code
def yX10_clearResult : MethodName := ⟨RX10, "clearResult", "()V"⟩
abbrev cX10_reduce : ByteArray := prog_12_method_35_code
def yX10_reduce : MethodName := ⟨RX10, "reduce", "([I[II)V"⟩
abbrev cX10_divide : ByteArray := prog_12_method_36_code
def yX10_divide : MethodName := ⟨RX10, "divide", "([I[I)V"⟩
abbrev cX10_lighten : ByteArray := prog_12_method_37_code
def yX10_lighten : MethodName := ⟨RX10, "lighten", "()V"⟩
abbrev cX10_tell : ByteArray := prog_12_method_38_code
def yX10_tell : MethodName := ⟨RX10, "tell", "()V"⟩
abbrev cX10_findEntry : ByteArray := prog_12_method_39_code
def yX10_findEntry : MethodName := ⟨RX10, "findEntry", "(III)V"⟩
abbrev cX10_agrees : ByteArray := prog_12_method_40_code
def yX10_agrees : MethodName := ⟨RX10, "agrees", "(I)I"⟩
abbrev cX10_isPair : ByteArray := prog_12_method_41_code
def yX10_isPair : MethodName := ⟨RX10, "isPair", "(III)Z"⟩
abbrev cX10_entry : ByteArray := prog_12_method_42_code
def yX10_entry : MethodName := ⟨RX10, "entry", "(III)I"⟩
abbrev cX10_worth : ByteArray := prog_12_method_43_code
def yX10_worth : MethodName := ⟨RX10, "worth", "(III)I"⟩
abbrev cX10_keepResult : ByteArray := prog_12_method_44_code
def yX10_keepResult : MethodName := ⟨RX10, "keepResult", "()V"⟩
abbrev cX10_resultBack : ByteArray := prog_12_method_45_code
def yX10_resultBack : MethodName := ⟨RX10, "resultBack", "()V"⟩
abbrev cX10_block : ByteArray := prog_12_method_46_code
def yX10_block : MethodName := ⟨RX10, "block", "(IIII)I"⟩
abbrev cX10_stair : ByteArray := prog_12_method_47_code
def yX10_stair : MethodName := ⟨RX10, "stair", "(II)I"⟩
abbrev cX10_recur : ByteArray := prog_12_method_48_code
def yX10_recur : MethodName := ⟨RX10, "recur", "(I)I"⟩
abbrev cX10_point : ByteArray := prog_12_method_49_code
def yX10_point : MethodName := ⟨RX10, "point", "(II)I"⟩
abbrev cX10_wipe : ByteArray := prog_12_method_50_code
def yX10_wipe : MethodName := ⟨RX10, "wipe", "()I"⟩
abbrev cX10_valueOf : ByteArray := prog_12_method_51_code
def yX10_valueOf : MethodName := ⟨RX10, "valueOf", "([II)I"⟩
abbrev cX10_join : ByteArray := prog_12_method_52_code
def yX10_join : MethodName := ⟨RX10, "join", "(II)I"⟩
abbrev cX10_degree : ByteArray := prog_12_method_53_code
def yX10_degree : MethodName := ⟨RX10, "degree", "(I)I"⟩
abbrev cX10_term : ByteArray := prog_12_method_54_code
def yX10_term : MethodName := ⟨RX10, "term", "(II)I"⟩
abbrev cX10_value : ByteArray := prog_12_method_55_code
def yX10_value : MethodName := ⟨RX10, "value", "(I)I"⟩
abbrev cX10_cause : ByteArray := prog_12_method_56_code
def yX10_cause : MethodName := ⟨RX10, "cause", "()I"⟩
abbrev cX10_causes : ByteArray := prog_12_method_57_code
def yX10_causes : MethodName := ⟨RX10, "causes", "(I)I"⟩
abbrev cX10_count : ByteArray := prog_12_method_58_code
def yX10_count : MethodName := ⟨RX10, "count", "(I)I"⟩
abbrev cX10_digest : ByteArray := prog_12_method_59_code
def yX10_digest : MethodName := ⟨RX10, "digest", "()J"⟩
def RJ9 : String := "java/lang/Math"
def TJ9 : u_T := fun k => match k with
  | _ => ("", "", "", false)
def tyJ9 : Nat → FieldType := fun k => match k with
  | _ => .int
abbrev wsJ90 : List Cond := u_ws RJ9 TJ9 0
theorem nmJ9 : ∀ a, a < 0 → ∀ b, b < 0 → a ≠ b → (TJ9 a).2.1 ≠ (TJ9 b).2.1 := by decide +kernel
theorem tyJ9_ok : ∀ k, k < 0 → parseFieldDescriptor (TJ9 k).2.2.1 = some (tyJ9 k) := by decide +kernel
abbrev cJ9_min_7cf53 : ByteArray := prog_13_method_69_code
def yJ9_min_7cf53 : MethodName := ⟨RJ9, "min", "(II)I"⟩
def RJ10 : String := "java/lang/System"
def TJ10 : u_T := fun k => match k with
  | _ => ("", "", "", false)
def tyJ10 : Nat → FieldType := fun k => match k with
  | _ => .int
abbrev wsJ100 : List Cond := u_ws RJ10 TJ10 0
theorem nmJ10 : ∀ a, a < 0 → ∀ b, b < 0 → a ≠ b → (TJ10 a).2.1 ≠ (TJ10 b).2.1 := by decide +kernel
theorem tyJ10_ok : ∀ k, k < 0 → parseFieldDescriptor (TJ10 k).2.2.1 = some (tyJ10 k) := by decide +kernel
def RJ7 : String := "java/util/Arrays"
def TJ7 : u_T := fun k => match k with
  | _ => ("", "", "", false)
def tyJ7 : Nat → FieldType := fun k => match k with
  | _ => .int
abbrev wsJ70 : List Cond := u_ws RJ7 TJ7 0
theorem nmJ7 : ∀ a, a < 0 → ∀ b, b < 0 → a ≠ b → (TJ7 a).2.1 ≠ (TJ7 b).2.1 := by decide +kernel
theorem tyJ7_ok : ∀ k, k < 0 → parseFieldDescriptor (TJ7 k).2.2.1 = some (tyJ7 k) := by decide +kernel
abbrev cJ7_fill_d0a16 : ByteArray := prog_15_method_101_code
def yJ7_fill_d0a16 : MethodName := ⟨RJ7, "fill", "([JJ)V"⟩
abbrev cJ7_fill_53178 : ByteArray := prog_15_method_103_code
def yJ7_fill_53178 : MethodName := ⟨RJ7, "fill", "([II)V"⟩
def RL : String := "SharesOfSeriesLaw"
abbrev cL_law : ByteArray := code
def yL_law : MethodName := ⟨RL, "law", "([I)Z"⟩
end
section
/-- the good words of the tables, and those of nest mates and array classes -/
def vv_nest : Cond → Bool
  | .fieldLinkNest _ _ _ _ _ _ => true
  | .methodLinkNest _ _ _ _ => true
  | _ => false
def vv_gd : List Cond := lw_tbl.filter goodWord
def vv_nw : List Cond := lw_tbl.filter vv_nest
def vv_isA : Cond → Bool
  | .arrayOver _ => true
  | _ => false
def vv_aw : List Cond := lw_tbl.filter vv_isA
theorem vv_gd_of {w : Cond} (h : w ∈ lw_tbl) (hg : goodWord w = true) : w ∈ vv_gd := List.mem_filter.mpr ⟨h, hg⟩
theorem vv_nw_of {w : Cond} (h : w ∈ lw_tbl) (hg : vv_nest w = true) : w ∈ vv_nw := List.mem_filter.mpr ⟨h, hg⟩
theorem vv_tb {w : Cond} (i : Nat) (h : tables_1[i]? = some w) : w ∈ lw_tbl := List.mem_append_right _ (List.mem_of_getElem? h)
theorem vv_sb {w : Cond} (i : Nat) (h : (k2_sels lw_privs)[i]? = some w) : w ∈ lw_tbl := List.mem_append_left _ (List.mem_of_getElem? h)
theorem vv_gin {y : MethodName} {b : ByteArray} {k : Nat} {r : Option FieldType} (h : Cond.code y b k r ∈ vv_gd) : GoodIn vv_gd (Cond.code y b k r :: vv_gd) := by
  intro w hw
  have hm : w ∈ vv_gd := by
    rcases List.mem_cons.mp hw with e | e
    · rw [e]; exact h
    · exact e
  exact ⟨hm, good_of_word (List.mem_filter.mp hm).2⟩
/-- the classes of the system -/
def vv_cl : List vw_C := [(RX0, TX0, 1), (RX1, TX1, 5), (RX2, TX2, 3), (RX3, TX3, 1), (RX4, TX4, 3), (RX5, TX5, 1), (RX6, TX6, 2), (RX7, TX7, 2), (RX8, TX8, 4), (RX9, TX9, 13), (RX10, TX10, 31)]
def vv_ty (c : Nat → ClassId) : List (ClassId × FieldType) := [(c 0, .int), (c 1, .long), (c 2, .object RX8), (c 3, .object RX6), (c 4, .array .int)]
/-- launch, classes' numbers, array classes' numbers, the first address of the system's cells -/
abbrev vv_G : Type := Launch × va_G × (Nat → ClassId) × Nat
abbrev vv_H : Type := Nat → Option va_E
def vv_HP (D : va_G) (h : vv_H) (H : Heap) : Prop := ∀ (a : Nat) (e : va_E), h a = some e → va_at D vv_cl (a, e) H
def vv_up (h : vv_H) (a : Nat) (e : va_E) : vv_H := fun b => if b = a then some e else h b
def vv_K (G : vv_G) (U : State) : Prop := va_K G.2.1 vv_cl (vv_ty G.2.2.1) U ∧ (∀ w ∈ vv_nw, va_Nw w U) ∧ ∀ w ∈ vv_aw, w.before #[] U = true
theorem vv_aw_moved {ty : FieldType} {u U : State} (hvm : u.vm.Alike U.vm) (h : (Cond.arrayOver ty).before #[] u = true) : (Cond.arrayOver ty).before #[] U = true := by
  have key : ∀ comp : ClassId, (u.vm.classes.findIdx? fun (x : Class) => match x.kind with | .array component _ => component == comp | _ => false) = (U.vm.classes.findIdx? fun (x : Class) => match x.kind with | .array component _ => component == comp | _ => false) := fun comp => by
    have e0 : u.vm.bare = U.vm.bare := by first | exact hvm.bare_eq | exact hvm.bare_eq.symm
    have e1 := va_idx_bare u.vm comp
    rw [e0] at e1
    exact e1.symm.trans (va_idx_bare U.vm comp)
  have kc : ∀ c : Nat, ((u.vm.classes[c]?).map fun (k : Class) => match k.kind with | .array _ t => decide (t = ty) && decide (u.vm.findClass ("[" ++ ty.toString) = some c) | _ => false) = some true → ((U.vm.classes[c]?).map fun (k : Class) => match k.kind with | .array _ t => decide (t = ty) && decide (U.vm.findClass ("[" ++ ty.toString) = some c) | _ => false) = some true := fun c hc => by
    obtain ⟨k, h1, h2⟩ := Option.map_eq_some_iff.mp hc
    obtain ⟨k', hk', he⟩ := hvm.2.2 _ _ h1
    rw [hk', hvm.findClass]
    have hkind : k'.kind = k.kind := by rw [he]
    simp only [Option.map_some, hkind]
    rw [h2]
  unfold Cond.before Cond.holds at h ⊢
  simp only [Cond.value, beq_iff_eq] at h ⊢
  obtain ⟨comp, e1, h⟩ := Option.bind_eq_some_iff.mp h
  obtain ⟨c, e2, h⟩ := Option.bind_eq_some_iff.mp h
  refine Option.bind_eq_some_iff.mpr ⟨comp, ?_, Option.bind_eq_some_iff.mpr ⟨c, ?_, kc c h⟩⟩
  · cases ty <;> first | exact e1 | (simp only [hvm.findClass] at *; exact e1)
  · exact (key comp).symm.trans e2
def vv_A (G : vv_G) : Nat → Prop := fun q => G.2.2.2 ≤ q
/-- own class, how many locals, what it returns, its name, its room, what else holds at its start, what it comes to -/
abbrev vv_M : Type := String × Nat × Option FieldType × String × Room × (State → Prop) × (List Frame → Array Value → State → State → Prop)
def vv_F (G : vv_G) (cc : ByteArray) (M : vv_M) (p : Program) (s : State) (m : MethodId) (args : Array Value) (meth : Method) (c : Code) : Prop :=
  p.tables.exec = Jvm.exec ∧ c.code = cc ∧ c.maxLocals = M.2.1 ∧ s.vm.findClass M.1 = some m.cls ∧ (∀ w ∈ vv_gd, w.before args s = true) ∧ vv_K G s ∧ meth.locks = false ∧ meth.sig.returnType = M.2.2.1 ∧ meth.name = M.2.2.2.1 ∧ M.2.2.2.2.2.1 s ∧ G.2.2.2 ≤ s.heap.size
def vv_X (G : vv_G) (n : Nat) (h : vv_H) (s : State) (H : Heap) (locs : List Loc) : Prop := H.size = n ∧ vv_HP G.2.1 h H ∧ va_S (vv_A G) s.heap H locs ∧ ∀ (a : Nat) (e : va_E), h a = some e → G.2.2.2 ≤ a
def vv_V (G : vv_G) (cc : ByteArray) (M : vv_M) (cells slots pc : Nat) (L : List (Nat × Value)) (st : List Value) (n : Nat) (h : vv_H) : Prop :=
  ∀ (p : Program) (e : Env) (s : State) (m : MethodId) (args : Array Value) (below : List Frame) (meth : Method) (c : Code) (H : Heap) (locs : List Loc) (ls : Array Slot), vv_F G cc M p s m args meth c → vv_X G n h s H locs → lv_has ls M.2.1 L →
    W p G.1 e M.2.2.2.2.1 s m args below meth c H locs cells slots (M.2.2.2.2.2.2 below args s) (F0 m pc ls st)
/-- a contract: from (n, h) with these arguments, the answer r and the heap (n', h') -/
def vv_QQ (G : vv_G) (r : Option Value) (n' : Nat) (h' : vv_H) : Array Value → State → Outcome → State → Prop := fun _ st o t => o = .returned r ∧ t.heap.size = n' ∧ vv_HP G.2.1 h' t.heap ∧ va_F (vv_A G) st t ∧ ∀ (a : Nat) (e : va_E), h' a = some e → G.2.2.2 ≤ a
def vv_PP (G : vv_G) (av : List Value) (n : Nat) (h : vv_H) : Array Value → State → Prop := va_Pc av (fun U => U.heap.size = n ∧ vv_HP G.2.1 h U.heap ∧ vv_K G U ∧ G.2.2.2 ≤ n ∧ ∀ (a : Nat) (e : va_E), h a = some e → G.2.2.2 ≤ a)
def vv_Q (G : vv_G) (r : Option Value) (n' : Nat) (h' : vv_H) (mc ms : Nat) : List Frame → Array Value → State → State → Prop := fun below args s => MQ below (vv_QQ G r n' h') args s mc ms (vv_A G)
def vv_C (G : vv_G) (y : MethodName) (cc : ByteArray) (maxL : Nat) (ret : Option FieldType) (rm : Room) (av : List Value) (n : Nat) (h : vv_H) (r : Option Value) (n' : Nat) (h' : vv_H) : Prop :=
  Met G.1 y (Cond.code y cc maxL ret :: vv_gd) rm (vv_PP G av n h) (vv_QQ G r n' h') rm.cells rm.slots (vv_A G)
theorem vv_nest_on {w : Cond} (h : vv_nest w = true) : w.onTables = true := by
  cases w <;> first | rfl | (simp [vv_nest] at h; done)
theorem vv_nest_warm {w : Cond} (h : vv_nest w = true) {s U : State} (hW : s.WarmedH U.vm) (hZ : va_Nw w s) : va_Nw w U := by
  cases w <;> first | exact va_Nw.warmF hW hZ | exact va_Nw.warmM hW hZ | (simp [vv_nest] at h; done)
theorem vv_isA_moved {w : Cond} (h : vv_isA w = true) {u U : State} (hvm : u.vm.Alike U.vm) (hZ : w.before #[] u = true) : w.before #[] U = true := by
  cases w <;> first | exact vv_aw_moved hvm hZ | (simp [vv_isA] at h; done)
theorem vv_K.warm {G : vv_G} {s U : State} (hW : s.WarmedH U.vm) (h : vv_K G s) : vv_K G U := ⟨va_K.moved hW.alike h.1, fun w hw => vv_nest_warm (List.mem_filter.mp hw).2 hW (h.2.1 w hw), fun w hw => vv_isA_moved (List.mem_filter.mp hw).2 hW.alike (h.2.2 w hw)⟩
theorem vv_K.call {G : vv_G} {U : State} {g : JFrame} {mk : MethodId} {a : Array Value} (h : vv_K G U) : vv_K G (U.calling g mk a) := ⟨va_K.moved (u := U) (U := U.calling g mk a) (Vm.Alike.refl U.vm) h.1, fun w hw => va_Nw.same (vv_nest_on (List.mem_filter.mp hw).2) (u := U) (U := U.calling g mk a) rfl (h.2.1 w hw), fun w hw => vv_isA_moved (List.mem_filter.mp hw).2 (u := U) (U := U.calling g mk a) (Vm.Alike.refl U.vm) (h.2.2 w hw)⟩
theorem vv_blind {G : vv_G} {av : List Value} {n : Nat} {h : vv_H} : FrameBlind (vv_PP G av n h) := fun a U g mk q => ⟨q.1, q.2.1, q.2.2.1, q.2.2.2.1.call, q.2.2.2.2.1, q.2.2.2.2.2⟩
/-- the contract out of a walk from its entry -/
theorem vv_of {G : vv_G} {y : MethodName} {cc : ByteArray} {maxL : Nat} {ret : Option FieldType} {rm : Room} {av : List Value} {n : Nat} {h : vv_H} {r : Option Value} {n' : Nat} {h' : vv_H} (L : List (Nat × Value)) (hy : plainName y.cls = true) (hl : lv_args 0 av = L) (hs : Nat.ble (lg_sl av).length maxL = true)
    (k : vv_V G cc (y.cls, maxL, ret, y.name, rm, fun _ => True, vv_Q G r n' h' rm.cells rm.slots) 0 0 0 L [] n h) : vv_C G y cc maxL ret rm av n h r n' h' := by
  refine Met.ofW (cc := cc) (maxL := maxL) (ret := ret) hy rfl ?_
  intro p e s m args below meth c s₁ B hml hv
  obtain ⟨rfl, hsz, hP, hK, hB, hd⟩ := hv
  have hts := atoms_spec (ws := Cond.code y cc maxL ret :: vv_gd) B.pre
  have hown : s.vm.findClass y.cls = some m.cls := findClass_of_methodNamed B.named
  have hl1 := lv_entry av (n := maxL) (Nat.le_of_ble_eq_true hs)
  rw [hl] at hl1
  rw [lg_entry_eq]
  exact k p e s m _ below meth c s.heap [] _ ⟨B.exec, B.bytes, hml, hown, fun w hw => hts w (List.mem_cons_of_mem _ hw), hK, B.notSynchronized, B.returns, (name_of_methodNamed B.named B.method).1, trivial, by rw [hsz]; exact hB⟩ ⟨hsz, hP, va_S.rf, hd⟩ hl1
section VVR
variable {G : vv_G} {cc : ByteArray} {M : vv_M} {cells slots pc q : Nat} {L : List (Nat × Value)} {st : List Value} {n : Nat} {h : vv_H}
theorem vv_eqh {h2 : vv_H} (e : h = h2) (k : vv_V G cc M cells slots pc L st n h2) : vv_V G cc M cells slots pc L st n h := e ▸ k
theorem vv_eqL {L2 : List (Nat × Value)} {st2 : List Value} (e : L = L2) (e2 : st = st2) (k : vv_V G cc M cells slots pc L2 st2 n h) : vv_V G cc M cells slots pc L st n h := e ▸ e2 ▸ k
theorem vv_sub {L2 : List (Nat × Value)} (hs : ∀ x ∈ L2, x ∈ L) (k : vv_V G cc M cells slots pc L2 st n h) : vv_V G cc M cells slots pc L st n h := fun p e s m args below meth c H locs ls F X hl => k p e s m args below meth c H locs ls F X ⟨hl.1, hl.2.1, fun x hx => hl.2.2 x (hs x hx)⟩
theorem vv_pick {L2 : List (Nat × Value)} (ks : List Nat) (hs : lv_pick L ks = L2) (k : vv_V G cc M cells slots pc L2 st n h) : vv_V G cc M cells slots pc L st n h := fun p e s m args below meth c H locs ls F X hl => k p e s m args below meth c H locs ls F X (lv_sub hl ks hs)
theorem vv_widen {c2 s2 : Nat} (h1 : cells ≤ c2) (h2 : slots ≤ s2) (k : vv_V G cc M c2 s2 pc L st n h) : vv_V G cc M cells slots pc L st n h := fun p e s m args below meth c H locs ls F X hl => W.widen h1 h2 (k p e s m args below meth c H locs ls F X hl)

theorem vv_iconst {i : Int} {v : Int32} (hd : decode cc pc = .ok (.iconst i, 1)) (hq : pc + 1 = q) (hv : Int32.ofInt i = v) (k : vv_V G cc M cells slots q L (.int v :: st) n h) : vv_V G cc M cells slots pc L (st) n h := by
  subst hq
  intro p e s m args below meth c H locs ls F X hl
  exact lv_iconst F.1 F.2.1 hd hv (k p e s m args below meth c H locs ls F X hl)
theorem vv_bipush {i : Int} {v : Int32} (hd : decode cc pc = .ok (.bipush i, 2)) (hq : pc + 2 = q) (hv : (Int8.ofInt i).toInt32 = v) (k : vv_V G cc M cells slots q L (.int v :: st) n h) : vv_V G cc M cells slots pc L (st) n h := by
  subst hq
  intro p e s m args below meth c H locs ls F X hl
  exact lv_bipush F.1 F.2.1 hd hv (k p e s m args below meth c H locs ls F X hl)
theorem vv_sipush {i : Int} {v : Int32} (hd : decode cc pc = .ok (.sipush i, 3)) (hq : pc + 3 = q) (hv : (Int16.ofInt i).toInt32 = v) (k : vv_V G cc M cells slots q L (.int v :: st) n h) : vv_V G cc M cells slots pc L (st) n h := by
  subst hq
  intro p e s m args below meth c H locs ls F X hl
  exact lv_sipush F.1 F.2.1 hd hv (k p e s m args below meth c H locs ls F X hl)
theorem vv_lconst {i : Fin 2} {v : Int64} (hd : decode cc pc = .ok (.lconst i, 1)) (hq : pc + 1 = q) (hv : Int64.ofNat (i : Nat) = v) (k : vv_V G cc M cells slots q L (.long v :: st) n h) : vv_V G cc M cells slots pc L (st) n h := by
  subst hq
  intro p e s m args below meth c H locs ls F X hl
  exact lv_lconst F.1 F.2.1 hd hv (k p e s m args below meth c H locs ls F X hl)
theorem vv_null  (hd : decode cc pc = .ok (.aconst_null, 1)) (hq : pc + 1 = q) (k : vv_V G cc M cells slots q L (.null :: st) n h) : vv_V G cc M cells slots pc L (st) n h := by
  subst hq
  intro p e s m args below meth c H locs ls F X hl
  exact lv_null F.1 F.2.1 hd (k p e s m args below meth c H locs ls F X hl)
theorem vv_iadd {x y : Int32} (hd : decode cc pc = .ok (.iadd, 1)) (hq : pc + 1 = q) (k : vv_V G cc M cells slots q L (.int (x + y) :: st) n h) : vv_V G cc M cells slots pc L (.int y :: .int x :: st) n h := by
  subst hq
  intro p e s m args below meth c H locs ls F X hl
  exact lv_iadd F.1 F.2.1 hd (k p e s m args below meth c H locs ls F X hl)
theorem vv_isub {x y : Int32} (hd : decode cc pc = .ok (.isub, 1)) (hq : pc + 1 = q) (k : vv_V G cc M cells slots q L (.int (x - y) :: st) n h) : vv_V G cc M cells slots pc L (.int y :: .int x :: st) n h := by
  subst hq
  intro p e s m args below meth c H locs ls F X hl
  exact lv_isub F.1 F.2.1 hd (k p e s m args below meth c H locs ls F X hl)
theorem vv_imul {x y : Int32} (hd : decode cc pc = .ok (.imul, 1)) (hq : pc + 1 = q) (k : vv_V G cc M cells slots q L (.int (x * y) :: st) n h) : vv_V G cc M cells slots pc L (.int y :: .int x :: st) n h := by
  subst hq
  intro p e s m args below meth c H locs ls F X hl
  exact lv_imul F.1 F.2.1 hd (k p e s m args below meth c H locs ls F X hl)
theorem vv_iand {x y : Int32} (hd : decode cc pc = .ok (.iand, 1)) (hq : pc + 1 = q) (k : vv_V G cc M cells slots q L (.int (x &&& y) :: st) n h) : vv_V G cc M cells slots pc L (.int y :: .int x :: st) n h := by
  subst hq
  intro p e s m args below meth c H locs ls F X hl
  exact lv_iand F.1 F.2.1 hd (k p e s m args below meth c H locs ls F X hl)
theorem vv_ishr {x y : Int32} (hd : decode cc pc = .ok (.ishr, 1)) (hq : pc + 1 = q) (k : vv_V G cc M cells slots q L (.int (x >>> (y &&& 31)) :: st) n h) : vv_V G cc M cells slots pc L (.int y :: .int x :: st) n h := by
  subst hq
  intro p e s m args below meth c H locs ls F X hl
  exact lv_ishr F.1 F.2.1 hd (k p e s m args below meth c H locs ls F X hl)
theorem vv_irem {x y : Int32} (hd : decode cc pc = .ok (.irem, 1)) (hq : pc + 1 = q) (hne : ¬ y = 0) (k : vv_V G cc M cells slots q L (.int (x - x / y * y) :: st) n h) : vv_V G cc M cells slots pc L (.int y :: .int x :: st) n h := by
  subst hq
  intro p e s m args below meth c H locs ls F X hl
  exact lv_irem F.1 F.2.1 hd hne (k p e s m args below meth c H locs ls F X hl)
theorem vv_ladd {x y : Int64} (hd : decode cc pc = .ok (.ladd, 1)) (hq : pc + 1 = q) (k : vv_V G cc M cells slots q L (.long (x + y) :: st) n h) : vv_V G cc M cells slots pc L (.long y :: .long x :: st) n h := by
  subst hq
  intro p e s m args below meth c H locs ls F X hl
  exact lv_ladd F.1 F.2.1 hd (k p e s m args below meth c H locs ls F X hl)
theorem vv_lsub {x y : Int64} (hd : decode cc pc = .ok (.lsub, 1)) (hq : pc + 1 = q) (k : vv_V G cc M cells slots q L (.long (x - y) :: st) n h) : vv_V G cc M cells slots pc L (.long y :: .long x :: st) n h := by
  subst hq
  intro p e s m args below meth c H locs ls F X hl
  exact lv_lsub F.1 F.2.1 hd (k p e s m args below meth c H locs ls F X hl)
theorem vv_lmul {x y : Int64} (hd : decode cc pc = .ok (.lmul, 1)) (hq : pc + 1 = q) (k : vv_V G cc M cells slots q L (.long (x * y) :: st) n h) : vv_V G cc M cells slots pc L (.long y :: .long x :: st) n h := by
  subst hq
  intro p e s m args below meth c H locs ls F X hl
  exact lv_lmul F.1 F.2.1 hd (k p e s m args below meth c H locs ls F X hl)
theorem vv_land {x y : Int64} (hd : decode cc pc = .ok (.land, 1)) (hq : pc + 1 = q) (k : vv_V G cc M cells slots q L (.long (x &&& y) :: st) n h) : vv_V G cc M cells slots pc L (.long y :: .long x :: st) n h := by
  subst hq
  intro p e s m args below meth c H locs ls F X hl
  exact lv_land F.1 F.2.1 hd (k p e s m args below meth c H locs ls F X hl)
theorem vv_lor {x y : Int64} (hd : decode cc pc = .ok (.lor, 1)) (hq : pc + 1 = q) (k : vv_V G cc M cells slots q L (.long (x ||| y) :: st) n h) : vv_V G cc M cells slots pc L (.long y :: .long x :: st) n h := by
  subst hq
  intro p e s m args below meth c H locs ls F X hl
  exact lv_lor F.1 F.2.1 hd (k p e s m args below meth c H locs ls F X hl)
theorem vv_lrem {x y : Int64} (hd : decode cc pc = .ok (.lrem, 1)) (hq : pc + 1 = q) (hne : ¬ y = 0) (k : vv_V G cc M cells slots q L (.long (x - x / y * y) :: st) n h) : vv_V G cc M cells slots pc L (.long y :: .long x :: st) n h := by
  subst hq
  intro p e s m args below meth c H locs ls F X hl
  exact lv_lrem F.1 F.2.1 hd hne (k p e s m args below meth c H locs ls F X hl)
theorem vv_ineg {x : Int32} (hd : decode cc pc = .ok (.ineg, 1)) (hq : pc + 1 = q) (k : vv_V G cc M cells slots q L (.int (-x) :: st) n h) : vv_V G cc M cells slots pc L (.int x :: st) n h := by
  subst hq
  intro p e s m args below meth c H locs ls F X hl
  exact lv_ineg F.1 F.2.1 hd (k p e s m args below meth c H locs ls F X hl)
theorem vv_lneg {x : Int64} (hd : decode cc pc = .ok (.lneg, 1)) (hq : pc + 1 = q) (k : vv_V G cc M cells slots q L (.long (-x) :: st) n h) : vv_V G cc M cells slots pc L (.long x :: st) n h := by
  subst hq
  intro p e s m args below meth c H locs ls F X hl
  exact lv_lneg F.1 F.2.1 hd (k p e s m args below meth c H locs ls F X hl)
theorem vv_lshl {x : Int64} {y : Int32} (hd : decode cc pc = .ok (.lshl, 1)) (hq : pc + 1 = q) (k : vv_V G cc M cells slots q L (.long (x <<< (y.toInt64 &&& 63)) :: st) n h) : vv_V G cc M cells slots pc L (.int y :: .long x :: st) n h := by
  subst hq
  intro p e s m args below meth c H locs ls F X hl
  exact lv_lshl F.1 F.2.1 hd rfl (k p e s m args below meth c H locs ls F X hl)
theorem vv_i2l {x : Int32} (hd : decode cc pc = .ok (.i2l, 1)) (hq : pc + 1 = q) (k : vv_V G cc M cells slots q L (.long x.toInt64 :: st) n h) : vv_V G cc M cells slots pc L (.int x :: st) n h := by
  subst hq
  intro p e s m args below meth c H locs ls F X hl
  exact lv_i2l F.1 F.2.1 hd rfl (k p e s m args below meth c H locs ls F X hl)
theorem vv_l2i {x : Int64} (hd : decode cc pc = .ok (.l2i, 1)) (hq : pc + 1 = q) (k : vv_V G cc M cells slots q L (.int x.toInt32 :: st) n h) : vv_V G cc M cells slots pc L (.long x :: st) n h := by
  subst hq
  intro p e s m args below meth c H locs ls F X hl
  exact lv_l2i F.1 F.2.1 hd rfl (k p e s m args below meth c H locs ls F X hl)
theorem vv_i2b {x : Int32} (hd : decode cc pc = .ok (.i2b, 1)) (hq : pc + 1 = q) (k : vv_V G cc M cells slots q L (.int x.toInt8.toInt32 :: st) n h) : vv_V G cc M cells slots pc L (.int x :: st) n h := by
  subst hq
  intro p e s m args below meth c H locs ls F X hl
  exact lv_i2b F.1 F.2.1 hd rfl (k p e s m args below meth c H locs ls F X hl)
theorem vv_i2s {x : Int32} (hd : decode cc pc = .ok (.i2s, 1)) (hq : pc + 1 = q) (k : vv_V G cc M cells slots q L (.int x.toInt16.toInt32 :: st) n h) : vv_V G cc M cells slots pc L (.int x :: st) n h := by
  subst hq
  intro p e s m args below meth c H locs ls F X hl
  exact lv_i2s F.1 F.2.1 hd rfl (k p e s m args below meth c H locs ls F X hl)
theorem vv_lcmp {x y : Int64} (hd : decode cc pc = .ok (.lcmp, 1)) (hq : pc + 1 = q) (k : vv_V G cc M cells slots q L (.int (lg_cmp x y) :: st) n h) : vv_V G cc M cells slots pc L (.long y :: .long x :: st) n h := by
  subst hq
  intro p e s m args below meth c H locs ls F X hl
  exact W.lcmp F.1 F.2.1 hd (k p e s m args below meth c H locs ls F X hl)
theorem vv_dup {v : Value} (hd : decode cc pc = .ok (.dup, 1)) (hq : pc + 1 = q) (hc : v.category = 1) (k : vv_V G cc M cells slots q L (v :: v :: st) n h) : vv_V G cc M cells slots pc L (v :: st) n h := by
  subst hq
  intro p e s m args below meth c H locs ls F X hl
  exact lv_dup F.1 F.2.1 hd hc (k p e s m args below meth c H locs ls F X hl)
theorem vv_dup2 {va vb : Value} (hd : decode cc pc = .ok (.dup2, 1)) (hq : pc + 1 = q) (h1 : va.category = 1) (h2 : vb.category = 1) (k : vv_V G cc M cells slots q L (va :: vb :: va :: vb :: st) n h) : vv_V G cc M cells slots pc L (va :: vb :: st) n h := by
  subst hq
  intro p e s m args below meth c H locs ls F X hl
  exact lv_dup2_11 F.1 F.2.1 hd h1 h2 (k p e s m args below meth c H locs ls F X hl)
theorem vv_iload_n {x : Int32} {k : Fin 4} (i : Nat) (hd : decode cc pc = .ok (.iload_n k, 1)) (hq : pc + 1 = q) (hi : (k : Nat) = i) (j : Nat) (hj : L[j]? = some (i, .int x)) (kk : vv_V G cc M cells slots q L (.int x :: st) n h) : vv_V G cc M cells slots pc L st n h := by
  subst hq
  intro p e s m args below meth c H locs ls F X hl
  exact lv_iload_n F.1 F.2.1 hd hi (lv_at hl j hj) (kk p e s m args below meth c H locs ls F X hl)
theorem vv_iload {x : Int32} {i : Nat} (hd : decode cc pc = .ok (.iload i, 2)) (hq : pc + 2 = q) (j : Nat) (hj : L[j]? = some (i, .int x)) (kk : vv_V G cc M cells slots q L (.int x :: st) n h) : vv_V G cc M cells slots pc L st n h := by
  subst hq
  intro p e s m args below meth c H locs ls F X hl
  exact lv_iload F.1 F.2.1 hd (lv_at hl j hj) (kk p e s m args below meth c H locs ls F X hl)
theorem vv_lload_n {x : Int64} {k : Fin 4} (i : Nat) (hd : decode cc pc = .ok (.lload_n k, 1)) (hq : pc + 1 = q) (hi : (k : Nat) = i) (j : Nat) (hj : L[j]? = some (i, .long x)) (kk : vv_V G cc M cells slots q L (.long x :: st) n h) : vv_V G cc M cells slots pc L st n h := by
  subst hq
  intro p e s m args below meth c H locs ls F X hl
  exact lv_lload_n F.1 F.2.1 hd hi (lv_at hl j hj) (kk p e s m args below meth c H locs ls F X hl)
theorem vv_lload {x : Int64} {i : Nat} (hd : decode cc pc = .ok (.lload i, 2)) (hq : pc + 2 = q) (j : Nat) (hj : L[j]? = some (i, .long x)) (kk : vv_V G cc M cells slots q L (.long x :: st) n h) : vv_V G cc M cells slots pc L st n h := by
  subst hq
  intro p e s m args below meth c H locs ls F X hl
  exact lv_lload F.1 F.2.1 hd (lv_at hl j hj) (kk p e s m args below meth c H locs ls F X hl)
theorem vv_aload_n {x : Nat} {k : Fin 4} (i : Nat) (hd : decode cc pc = .ok (.aload_n k, 1)) (hq : pc + 1 = q) (hi : (k : Nat) = i) (j : Nat) (hj : L[j]? = some (i, .ref x)) (kk : vv_V G cc M cells slots q L (.ref x :: st) n h) : vv_V G cc M cells slots pc L st n h := by
  subst hq
  intro p e s m args below meth c H locs ls F X hl
  exact lv_aload_n F.1 F.2.1 hd hi (lv_at hl j hj) (kk p e s m args below meth c H locs ls F X hl)
theorem vv_aload {x : Nat} {i : Nat} (hd : decode cc pc = .ok (.aload i, 2)) (hq : pc + 2 = q) (j : Nat) (hj : L[j]? = some (i, .ref x)) (kk : vv_V G cc M cells slots q L (.ref x :: st) n h) : vv_V G cc M cells slots pc L st n h := by
  subst hq
  intro p e s m args below meth c H locs ls F X hl
  exact lv_aload F.1 F.2.1 hd (lv_at hl j hj) (kk p e s m args below meth c H locs ls F X hl)
theorem vv_aload_nN {k : Fin 4} (i : Nat) (hd : decode cc pc = .ok (.aload_n k, 1)) (hq : pc + 1 = q) (hi : (k : Nat) = i) (j : Nat) (hj : L[j]? = some (i, .null)) (kk : vv_V G cc M cells slots q L (.null :: st) n h) : vv_V G cc M cells slots pc L st n h := by
  subst hq
  intro p e s m args below meth c H locs ls F X hl
  exact lv_aload_nN F.1 F.2.1 hd hi (lv_at hl j hj) (kk p e s m args below meth c H locs ls F X hl)
theorem vv_aloadN {i : Nat} (hd : decode cc pc = .ok (.aload i, 2)) (hq : pc + 2 = q) (j : Nat) (hj : L[j]? = some (i, .null)) (kk : vv_V G cc M cells slots q L (.null :: st) n h) : vv_V G cc M cells slots pc L st n h := by
  subst hq
  intro p e s m args below meth c H locs ls F X hl
  exact lv_aloadN F.1 F.2.1 hd (lv_at hl j hj) (kk p e s m args below meth c H locs ls F X hl)
theorem vv_istore_n {x : Int32} {k : Fin 4} (i : Nat) (L' : List (Nat × Value)) (hd : decode cc pc = .ok (.istore_n k, 1)) (hq : pc + 1 = q) (hi : (k : Nat) = i) (hn : Nat.blt (i) M.2.1 = true) (hl' : (i, ((.int x) : Value)) :: L.filter (fun x9 => !(x9.1 == i) && !(x9.1 + 1 == i && x9.2.category == 2)) = L') (kk : vv_V G cc M cells slots q L' st n h) : vv_V G cc M cells slots pc L (.int x :: st) n h := by
  subst hq
  intro p e s m args below meth c H locs ls F X hl
  exact lv_istore_n F.1 F.2.1 hd hi hl (Nat.le_of_ble_eq_true hn) hl' (fun ls' hl2 => kk p e s m args below meth c H locs ls' F X hl2)
theorem vv_istore {x : Int32} {i : Nat} (L' : List (Nat × Value)) (hd : decode cc pc = .ok (.istore i, 2)) (hq : pc + 2 = q) (hn : Nat.blt (i) M.2.1 = true) (hl' : (i, ((.int x) : Value)) :: L.filter (fun x9 => !(x9.1 == i) && !(x9.1 + 1 == i && x9.2.category == 2)) = L') (kk : vv_V G cc M cells slots q L' st n h) : vv_V G cc M cells slots pc L (.int x :: st) n h := by
  subst hq
  intro p e s m args below meth c H locs ls F X hl
  exact lv_istore F.1 F.2.1 hd hl (Nat.le_of_ble_eq_true hn) hl' (fun ls' hl2 => kk p e s m args below meth c H locs ls' F X hl2)
theorem vv_lstore_n {x : Int64} {k : Fin 4} (i : Nat) (L' : List (Nat × Value)) (hd : decode cc pc = .ok (.lstore_n k, 1)) (hq : pc + 1 = q) (hi : (k : Nat) = i) (hn : Nat.blt (i + 1) M.2.1 = true) (hl' : (i, ((.long x) : Value)) :: L.filter (fun x9 => !(x9.1 == i) && (!(x9.1 == i + 1) && !(x9.1 + 1 == i && x9.2.category == 2))) = L') (kk : vv_V G cc M cells slots q L' st n h) : vv_V G cc M cells slots pc L (.long x :: st) n h := by
  subst hq
  intro p e s m args below meth c H locs ls F X hl
  exact lv_lstore_n F.1 F.2.1 hd hi hl (Nat.le_of_ble_eq_true hn) hl' (fun ls' hl2 => kk p e s m args below meth c H locs ls' F X hl2)
theorem vv_lstore {x : Int64} {i : Nat} (L' : List (Nat × Value)) (hd : decode cc pc = .ok (.lstore i, 2)) (hq : pc + 2 = q) (hn : Nat.blt (i + 1) M.2.1 = true) (hl' : (i, ((.long x) : Value)) :: L.filter (fun x9 => !(x9.1 == i) && (!(x9.1 == i + 1) && !(x9.1 + 1 == i && x9.2.category == 2))) = L') (kk : vv_V G cc M cells slots q L' st n h) : vv_V G cc M cells slots pc L (.long x :: st) n h := by
  subst hq
  intro p e s m args below meth c H locs ls F X hl
  exact lv_lstore F.1 F.2.1 hd hl (Nat.le_of_ble_eq_true hn) hl' (fun ls' hl2 => kk p e s m args below meth c H locs ls' F X hl2)
theorem vv_astore_n {x : Nat} {k : Fin 4} (i : Nat) (L' : List (Nat × Value)) (hd : decode cc pc = .ok (.astore_n k, 1)) (hq : pc + 1 = q) (hi : (k : Nat) = i) (hn : Nat.blt (i) M.2.1 = true) (hl' : (i, ((.ref x) : Value)) :: L.filter (fun x9 => !(x9.1 == i) && !(x9.1 + 1 == i && x9.2.category == 2)) = L') (kk : vv_V G cc M cells slots q L' st n h) : vv_V G cc M cells slots pc L (.ref x :: st) n h := by
  subst hq
  intro p e s m args below meth c H locs ls F X hl
  exact lv_astore_n F.1 F.2.1 hd hi hl (Nat.le_of_ble_eq_true hn) hl' (fun ls' hl2 => kk p e s m args below meth c H locs ls' F X hl2)
theorem vv_astore {x : Nat} {i : Nat} (L' : List (Nat × Value)) (hd : decode cc pc = .ok (.astore i, 2)) (hq : pc + 2 = q) (hn : Nat.blt (i) M.2.1 = true) (hl' : (i, ((.ref x) : Value)) :: L.filter (fun x9 => !(x9.1 == i) && !(x9.1 + 1 == i && x9.2.category == 2)) = L') (kk : vv_V G cc M cells slots q L' st n h) : vv_V G cc M cells slots pc L (.ref x :: st) n h := by
  subst hq
  intro p e s m args below meth c H locs ls F X hl
  exact lv_astore F.1 F.2.1 hd hl (Nat.le_of_ble_eq_true hn) hl' (fun ls' hl2 => kk p e s m args below meth c H locs ls' F X hl2)
theorem vv_astore_nN  {k : Fin 4} (i : Nat) (L' : List (Nat × Value)) (hd : decode cc pc = .ok (.astore_n k, 1)) (hq : pc + 1 = q) (hi : (k : Nat) = i) (hn : Nat.blt (i) M.2.1 = true) (hl' : (i, ((.null) : Value)) :: L.filter (fun x9 => !(x9.1 == i) && !(x9.1 + 1 == i && x9.2.category == 2)) = L') (kk : vv_V G cc M cells slots q L' st n h) : vv_V G cc M cells slots pc L (.null :: st) n h := by
  subst hq
  intro p e s m args below meth c H locs ls F X hl
  exact lv_astore_nN F.1 F.2.1 hd hi hl (Nat.le_of_ble_eq_true hn) hl' (fun ls' hl2 => kk p e s m args below meth c H locs ls' F X hl2)
theorem vv_astoreN  {i : Nat} (L' : List (Nat × Value)) (hd : decode cc pc = .ok (.astore i, 2)) (hq : pc + 2 = q) (hn : Nat.blt (i) M.2.1 = true) (hl' : (i, ((.null) : Value)) :: L.filter (fun x9 => !(x9.1 == i) && !(x9.1 + 1 == i && x9.2.category == 2)) = L') (kk : vv_V G cc M cells slots q L' st n h) : vv_V G cc M cells slots pc L (.null :: st) n h := by
  subst hq
  intro p e s m args below meth c H locs ls F X hl
  exact lv_astoreN F.1 F.2.1 hd hl (Nat.le_of_ble_eq_true hn) hl' (fun ls' hl2 => kk p e s m args below meth c H locs ls' F X hl2)
theorem vv_iinc {x v : Int32} {i : Nat} {d : Int} (L' : List (Nat × Value)) (hd : decode cc pc = .ok (.iinc i d, 3)) (hq : pc + 3 = q) (j : Nat) (hj : L[j]? = some (i, .int x)) (hv : x + Int32.ofInt d = v) (hn : Nat.blt i M.2.1 = true) (hl' : (i, Value.int v) :: L.filter (fun x9 => !(x9.1 == i) && !(x9.1 + 1 == i && x9.2.category == 2)) = L') (kk : vv_V G cc M cells slots q L' st n h) : vv_V G cc M cells slots pc L st n h := by
  subst hq
  intro p e s m args below meth c H locs ls F X hl
  exact lv_iinc F.1 F.2.1 hd hl hj hv (Nat.le_of_ble_eq_true hn) hl' (fun ls' hl2 => kk p e s m args below meth c H locs ls' F X hl2)
theorem vv_if_eq {x : Int32} {off : Int} (t : Nat) (hd : decode cc pc = .ok (.ifCond .eq off, 3)) (ht : (pc : Int) + off = (t : Int)) (hq : pc + 3 = q) (kt : x = 0 → vv_V G cc M cells slots t L st n h) (kf : ¬ x = 0 → vv_V G cc M cells slots q L st n h) : vv_V G cc M cells slots pc L (.int x :: st) n h := by
  subst hq
  intro p e s m args below meth c H locs ls F X hl
  exact lv_if_eq F.1 F.2.1 hd ht (fun z => kt z p e s m args below meth c H locs ls F X hl) (fun z => kf z p e s m args below meth c H locs ls F X hl)
theorem vv_icmp_eq {x y : Int32} {off : Int} (t : Nat) (hd : decode cc pc = .ok (.if_icmp .eq off, 3)) (ht : (pc : Int) + off = (t : Int)) (hq : pc + 3 = q) (kt : x = y → vv_V G cc M cells slots t L st n h) (kf : ¬ x = y → vv_V G cc M cells slots q L st n h) : vv_V G cc M cells slots pc L (.int y :: .int x :: st) n h := by
  subst hq
  intro p e s m args below meth c H locs ls F X hl
  exact lv_icmp_eq F.1 F.2.1 hd ht (fun z => kt z p e s m args below meth c H locs ls F X hl) (fun z => kf z p e s m args below meth c H locs ls F X hl)
theorem vv_if_ne {x : Int32} {off : Int} (t : Nat) (hd : decode cc pc = .ok (.ifCond .ne off, 3)) (ht : (pc : Int) + off = (t : Int)) (hq : pc + 3 = q) (kt : ¬ x = 0 → vv_V G cc M cells slots t L st n h) (kf : x = 0 → vv_V G cc M cells slots q L st n h) : vv_V G cc M cells slots pc L (.int x :: st) n h := by
  subst hq
  intro p e s m args below meth c H locs ls F X hl
  exact lv_if_ne F.1 F.2.1 hd ht (fun z => kt z p e s m args below meth c H locs ls F X hl) (fun z => kf z p e s m args below meth c H locs ls F X hl)
theorem vv_icmp_ne {x y : Int32} {off : Int} (t : Nat) (hd : decode cc pc = .ok (.if_icmp .ne off, 3)) (ht : (pc : Int) + off = (t : Int)) (hq : pc + 3 = q) (kt : ¬ x = y → vv_V G cc M cells slots t L st n h) (kf : x = y → vv_V G cc M cells slots q L st n h) : vv_V G cc M cells slots pc L (.int y :: .int x :: st) n h := by
  subst hq
  intro p e s m args below meth c H locs ls F X hl
  exact lv_icmp_ne F.1 F.2.1 hd ht (fun z => kt z p e s m args below meth c H locs ls F X hl) (fun z => kf z p e s m args below meth c H locs ls F X hl)
theorem vv_if_lt {x : Int32} {off : Int} (t : Nat) (hd : decode cc pc = .ok (.ifCond .lt off, 3)) (ht : (pc : Int) + off = (t : Int)) (hq : pc + 3 = q) (kt : x < 0 → vv_V G cc M cells slots t L st n h) (kf : ¬ x < 0 → vv_V G cc M cells slots q L st n h) : vv_V G cc M cells slots pc L (.int x :: st) n h := by
  subst hq
  intro p e s m args below meth c H locs ls F X hl
  exact lv_if_lt F.1 F.2.1 hd ht (fun z => kt z p e s m args below meth c H locs ls F X hl) (fun z => kf z p e s m args below meth c H locs ls F X hl)
theorem vv_icmp_lt {x y : Int32} {off : Int} (t : Nat) (hd : decode cc pc = .ok (.if_icmp .lt off, 3)) (ht : (pc : Int) + off = (t : Int)) (hq : pc + 3 = q) (kt : x < y → vv_V G cc M cells slots t L st n h) (kf : ¬ x < y → vv_V G cc M cells slots q L st n h) : vv_V G cc M cells slots pc L (.int y :: .int x :: st) n h := by
  subst hq
  intro p e s m args below meth c H locs ls F X hl
  exact lv_icmp_lt F.1 F.2.1 hd ht (fun z => kt z p e s m args below meth c H locs ls F X hl) (fun z => kf z p e s m args below meth c H locs ls F X hl)
theorem vv_if_ge {x : Int32} {off : Int} (t : Nat) (hd : decode cc pc = .ok (.ifCond .ge off, 3)) (ht : (pc : Int) + off = (t : Int)) (hq : pc + 3 = q) (kt : 0 ≤ x → vv_V G cc M cells slots t L st n h) (kf : ¬ 0 ≤ x → vv_V G cc M cells slots q L st n h) : vv_V G cc M cells slots pc L (.int x :: st) n h := by
  subst hq
  intro p e s m args below meth c H locs ls F X hl
  exact lv_if_ge F.1 F.2.1 hd ht (fun z => kt z p e s m args below meth c H locs ls F X hl) (fun z => kf z p e s m args below meth c H locs ls F X hl)
theorem vv_icmp_ge {x y : Int32} {off : Int} (t : Nat) (hd : decode cc pc = .ok (.if_icmp .ge off, 3)) (ht : (pc : Int) + off = (t : Int)) (hq : pc + 3 = q) (kt : y ≤ x → vv_V G cc M cells slots t L st n h) (kf : ¬ y ≤ x → vv_V G cc M cells slots q L st n h) : vv_V G cc M cells slots pc L (.int y :: .int x :: st) n h := by
  subst hq
  intro p e s m args below meth c H locs ls F X hl
  exact lv_icmp_ge F.1 F.2.1 hd ht (fun z => kt z p e s m args below meth c H locs ls F X hl) (fun z => kf z p e s m args below meth c H locs ls F X hl)
theorem vv_if_gt {x : Int32} {off : Int} (t : Nat) (hd : decode cc pc = .ok (.ifCond .gt off, 3)) (ht : (pc : Int) + off = (t : Int)) (hq : pc + 3 = q) (kt : 0 < x → vv_V G cc M cells slots t L st n h) (kf : ¬ 0 < x → vv_V G cc M cells slots q L st n h) : vv_V G cc M cells slots pc L (.int x :: st) n h := by
  subst hq
  intro p e s m args below meth c H locs ls F X hl
  exact lv_if_gt F.1 F.2.1 hd ht (fun z => kt z p e s m args below meth c H locs ls F X hl) (fun z => kf z p e s m args below meth c H locs ls F X hl)
theorem vv_icmp_gt {x y : Int32} {off : Int} (t : Nat) (hd : decode cc pc = .ok (.if_icmp .gt off, 3)) (ht : (pc : Int) + off = (t : Int)) (hq : pc + 3 = q) (kt : y < x → vv_V G cc M cells slots t L st n h) (kf : ¬ y < x → vv_V G cc M cells slots q L st n h) : vv_V G cc M cells slots pc L (.int y :: .int x :: st) n h := by
  subst hq
  intro p e s m args below meth c H locs ls F X hl
  exact lv_icmp_gt F.1 F.2.1 hd ht (fun z => kt z p e s m args below meth c H locs ls F X hl) (fun z => kf z p e s m args below meth c H locs ls F X hl)
theorem vv_if_le {x : Int32} {off : Int} (t : Nat) (hd : decode cc pc = .ok (.ifCond .le off, 3)) (ht : (pc : Int) + off = (t : Int)) (hq : pc + 3 = q) (kt : x ≤ 0 → vv_V G cc M cells slots t L st n h) (kf : ¬ x ≤ 0 → vv_V G cc M cells slots q L st n h) : vv_V G cc M cells slots pc L (.int x :: st) n h := by
  subst hq
  intro p e s m args below meth c H locs ls F X hl
  exact lv_if_le F.1 F.2.1 hd ht (fun z => kt z p e s m args below meth c H locs ls F X hl) (fun z => kf z p e s m args below meth c H locs ls F X hl)
theorem vv_icmp_le {x y : Int32} {off : Int} (t : Nat) (hd : decode cc pc = .ok (.if_icmp .le off, 3)) (ht : (pc : Int) + off = (t : Int)) (hq : pc + 3 = q) (kt : x ≤ y → vv_V G cc M cells slots t L st n h) (kf : ¬ x ≤ y → vv_V G cc M cells slots q L st n h) : vv_V G cc M cells slots pc L (.int y :: .int x :: st) n h := by
  subst hq
  intro p e s m args below meth c H locs ls F X hl
  exact lv_icmp_le F.1 F.2.1 hd ht (fun z => kt z p e s m args below meth c H locs ls F X hl) (fun z => kf z p e s m args below meth c H locs ls F X hl)
theorem vv_goto {off : Int} (t : Nat) (hd : decode cc pc = .ok (.goto off, 3)) (ht : (pc : Int) + off = (t : Int)) (k : vv_V G cc M cells slots t L st n h) : vv_V G cc M cells slots pc L st n h := by
  intro p e s m args below meth c H locs ls F X hl
  exact lv_goto F.1 F.2.1 hd ht (k p e s m args below meth c H locs ls F X hl)
theorem vv_ifnonnull {x : Nat} {off : Int} (t : Nat) (hd : decode cc pc = .ok (.ifnonnull off, 3)) (ht : (pc : Int) + off = (t : Int)) (k : vv_V G cc M cells slots t L st n h) : vv_V G cc M cells slots pc L (.ref x :: st) n h := by
  intro p e s m args below meth c H locs ls F X hl
  exact lv_ifnonnull F.1 F.2.1 hd ht (k p e s m args below meth c H locs ls F X hl)
theorem vv_ifnonnullN {off : Int} (hd : decode cc pc = .ok (.ifnonnull off, 3)) (hq : pc + 3 = q) (k : vv_V G cc M cells slots q L st n h) : vv_V G cc M cells slots pc L (.null :: st) n h := by
  subst hq
  intro p e s m args below meth c H locs ls F X hl
  exact lv_ifnonnullN F.1 F.2.1 hd (k p e s m args below meth c H locs ls F X hl)
theorem vv_ifnull {x : Nat} {off : Int} (hd : decode cc pc = .ok (.ifnull off, 3)) (hq : pc + 3 = q) (k : vv_V G cc M cells slots q L st n h) : vv_V G cc M cells slots pc L (.ref x :: st) n h := by
  subst hq
  intro p e s m args below meth c H locs ls F X hl
  exact lv_ifnull F.1 F.2.1 hd (k p e s m args below meth c H locs ls F X hl)
theorem vv_ifnullN {off : Int} (t : Nat) (hd : decode cc pc = .ok (.ifnull off, 3)) (ht : (pc : Int) + off = (t : Int)) (k : vv_V G cc M cells slots t L st n h) : vv_V G cc M cells slots pc L (.null :: st) n h := by
  intro p e s m args below meth c H locs ls F X hl
  exact lv_ifnullN F.1 F.2.1 hd ht (k p e s m args below meth c H locs ls F X hl)
theorem vv_tabIn {dflt lo hi : Int} {offs : Array Int} {len : Nat} {x : Int32} {off : Int} (t : Nat) (hd : decode cc pc = .ok (.tableswitch dflt lo hi offs, len)) (h1 : ¬ x.toInt < lo) (h2 : ¬ hi < x.toInt) (ho : offs[(x.toInt - lo).toNat]? = some off) (ht : (pc : Int) + off = (t : Int)) (k : vv_V G cc M cells slots t L st n h) : vv_V G cc M cells slots pc L (.int x :: st) n h := by
  intro p e s m args below meth c H locs ls F X hl
  exact lv_tableIn F.1 F.2.1 hd h1 h2 ho ht (k p e s m args below meth c H locs ls F X hl)
theorem vv_tabOut {dflt lo hi : Int} {offs : Array Int} {len : Nat} {x : Int32} (t : Nat) (hd : decode cc pc = .ok (.tableswitch dflt lo hi offs, len)) (h1 : x.toInt < lo ∨ hi < x.toInt) (ht : (pc : Int) + dflt = (t : Int)) (k : vv_V G cc M cells slots t L st n h) : vv_V G cc M cells slots pc L (.int x :: st) n h := by
  intro p e s m args below meth c H locs ls F X hl
  exact lv_tableOut F.1 F.2.1 hd h1 ht (k p e s m args below meth c H locs ls F X hl)
theorem vv_ldc2 {i : Nat} {v : Int64} (hw : Cond.constantLong M.1 i v ∈ vv_gd) (hd : decode cc pc = .ok (.ldc2_w i, 3)) (hq : pc + 3 = q) (k : vv_V G cc M cells slots q L (.long v :: st) n h) : vv_V G cc M cells slots pc L st n h := by
  subst hq
  intro p e s m args below meth c H locs ls F X hl
  exact lv_ldc2 F.1 F.2.1 F.2.2.2.1 (F.2.2.2.2.1 _ hw) hd (k p e s m args below meth c H locs ls F X hl)


/-! fields -/
def vv_LF (own : String) (i ci k : Nat) (ty : FieldType) (fin : Bool) : Prop := ∃ (C : String) (T : u_T) (N : Nat) (t0 : Nat → FieldType), vv_cl[ci]? = some (C, T, N) ∧ k < N ∧ (∀ w ∈ u_ws C T N, w ∈ vv_gd) ∧ (∀ k, k < N → parseFieldDescriptor (T k).2.2.1 = some (t0 k)) ∧ (∀ a, a < N → ∀ b, b < N → a ≠ b → (T a).2.1 ≠ (T b).2.1) ∧ t0 k = ty ∧ (T k).2.2.2 = fin ∧ (T k).1 = C ∧ (Cond.fieldLink own i (T k).1 (T k).2.1 (T k).2.2.1 ∈ vv_gd ∨ ∃ host, Cond.fieldLinkNest own i (T k).1 (T k).2.1 (T k).2.2.1 host ∈ vv_nw)
theorem vv_one {D : va_G} {a : Nat} {e : va_E} {H : Heap} (hP : vv_HP D h H) (he : h a = some e) : va_P D vv_cl [(a, e)] H := fun k x hk => by
  match k, hk with
  | 0, hk => cases hk; exact hP a e he
  | k + 1, hk => simp at hk
theorem vv_HP_up {D : va_G} {a : Nat} {e : va_E} {H H' : Heap} (hP : vv_HP D h H) (he : va_at D vv_cl (a, e) H') (ho : ∀ x : Nat, x ≠ a → H'[x]? = H[x]?) : vv_HP D (vv_up h a e) H' := by
  intro b e' hb
  unfold vv_up at hb
  by_cases hab : b = a
  · subst hab
    rw [if_pos rfl] at hb
    cases hb
    exact he
  · rw [if_neg hab] at hb
    exact (hP b e' hb).kept (ho b hab)
theorem vv_X_up {s : State} {H H' : Heap} {locs : List Loc} {a k : Nat} {e e0 : va_E} (X : vv_X G n h s H locs) (h0 : h a = some e0) (he : va_at G.2.1 vv_cl (a, e) H') (hz : H'.size = H.size) (ho : ∀ x : Nat, x ≠ a → H'[x]? = H[x]?) : vv_X G n (vv_up h a e) s H' (locs ++ [⟨a, k⟩]) := by
  refine ⟨hz.trans X.1, vv_HP_up X.2.1 he ho, X.2.2.1.put hz ho (X.2.2.2 a e0 h0), fun b e' hb => ?_⟩
  unfold vv_up at hb
  by_cases hab : b = a
  · subst hab
    exact X.2.2.2 _ e0 h0
  · rw [if_neg hab] at hb
    exact X.2.2.2 b e' hb
theorem vv_get {a ci k i : Nat} {fs : List Value} {v : Value} {ty : FieldType} {fin : Bool} (hf : vv_LF M.1 i ci k ty fin) (he : h a = some (.inr (ci, fs))) (hv : fs[k]? = some v) (hd : decode cc pc = .ok (.getfield i, 3)) (hq : pc + 3 = q) (kk : vv_V G cc M cells slots q L (v :: st) n h) : vv_V G cc M cells slots pc L (.ref a :: st) n h := by
  subst hq
  intro p e s m args below meth c H locs ls F X hl
  obtain ⟨C, T, N, t0, hc, hk, hin, hty, hnm, -, -, hdc, hlk⟩ := hf
  have hP := vv_one X.2.1 he
  rcases hlk with hlk | ⟨host, hlk⟩
  · exact va_get F.1 F.2.1 F.2.2.2.2.1 hin F.2.2.2.1 F.2.2.2.2.2.1.1 hP 0 rfl hc k hk (F.2.2.2.2.1 _ hlk) (fun _ z => z) hv hd (kk p e s m args below meth c H locs ls F X hl)
  · exact va_getN F.1 F.2.1 F.2.2.2.2.1 hin F.2.2.2.1 F.2.2.2.2.2.1.1 hP 0 rfl hc k hk (va_Nw.use rfl (F.2.2.2.2.2.1.2.1 _ hlk)) (fun _ z => z) hv hd (kk p e s m args below meth c H locs ls F X hl)
theorem vv_put {a ci k i : Nat} {fs : List Value} {v : Value} {ty : FieldType} (hf : vv_LF M.1 i ci k ty false) (he : h a = some (.inr (ci, fs))) (hn : narrow ty v = v) (hfit : fits ty v = true) (hl0 : Nat.blt k fs.length = true) (hd : decode cc pc = .ok (.putfield i, 3)) (hq : pc + 3 = q) (kk : vv_V G cc M cells slots q L st n (vv_up h a (.inr (ci, fs.set k v)))) : vv_V G cc M cells slots pc L (v :: .ref a :: st) n h := by
  subst hq
  intro p e s m args below meth c H locs ls F X hl
  obtain ⟨C, T, N, t0, hc, hk, hin, hty, hnm, hty2, hfin, hdc, hlk⟩ := hf
  have hl0 := Nat.le_of_ble_eq_true hl0
  have hK := F.2.2.2.2.2.1.1
  have hts := F.2.2.2.2.1
  have hap := va_apart (own := M.1) hts hin t0 hty hnm hK hc
  obtain ⟨r, h1, cell, q1, q2, q3, q4⟩ := X.2.1 a _ he
  have hr : r = (C, T, N) := Option.some.inj (h1.symm.trans hc)
  subst hr
  obtain ⟨hS, hfc, kC, hkC, hkind⟩ := hK.1 ci _ hc
  obtain ⟨cf, kf, fi, f, hi, hsl⟩ := hS k hk
  have hlay := hts _ (hin _ (u_in_lay hk))
  unfold u_lay at hlay
  rw [if_neg (by rw [hfin]; decide)] at hlay
  have hst := (u_facts hfc hkC (u_lays hts hin hk) hi).1
  have h6 := u_store hfc hkC hkind hlay hi (hty k hk) (by rw [hty2]; exact hn) (by rw [hty2]; exact hfit)
  have fin : ∀ H' : Heap, H'[a]? = some (cell.setSlot (G.2.1.2 ci k) v) → H'.size = H.size → (∀ x : Nat, x ≠ a → H'[x]? = H[x]?) → W p G.1 e M.2.2.2.2.1 s m args below meth c H' (locs ++ [⟨a, G.2.1.2 ci k⟩]) cells slots (M.2.2.2.2.2.2 below args s) (F0 m (pc + 3) ls st) := fun H' e1 e2 e3 =>
    kk p e s m args below meth c H' _ ls F (vv_X_up X he ⟨_, hc, t_OB.to (V := updV (vp_V fs) k v) ⟨_, e1, q2, q3, t_set q4 hap hk v⟩ (fun j _ => vp_updV_set hl0 v j)⟩ e2 e3) hl
  rcases hlk with hlk | ⟨host, hlk⟩
  · refine W.putK F.1 F.2.1 (f := f) ⟨F.2.2.2.1, hts _ hlk, ⟨_, _, _, hi⟩, hst⟩ (by rw [q2]; exact h6) q1 q3 (by rw [hsl]; exact k2_hasslot (q4 k hk)) rfl rfl hd fun H' e1 e2 e3 => ?_
    rw [hsl] at e1 ⊢
    exact fin H' e1 e2 e3
  · refine va_WputK F.1 F.2.1 (f := f) F.2.2.2.1 (va_Nw.use rfl (F.2.2.2.2.2.1.2.1 _ hlk)) hi hst (by rw [q2]; exact h6) q1 q3 (by rw [hsl]; exact k2_hasslot (q4 k hk)) rfl rfl hd fun H' e1 e2 e3 => ?_
    rw [hsl] at e1 ⊢
    exact fin H' e1 e2 e3
/-! arrays: places by their number -/
theorem vv_in {i : Int32} {k N : Nat} (hi : i = nI k) (hk : k < N) (hN : Nat.blt N 2147483648 = true) : vp_in i N ∧ i.toNatClampNeg = k := by
  have h1 : N < 2 ^ 31 := Nat.le_of_ble_eq_true hN
  subst hi
  exact ⟨vp_in_nI hk h1, nI_clamp (by omega)⟩
theorem vv_iald {a k N : Nat} {f : Nat → Int32} {i : Int32} (ha : h a = some (.inl (G.2.2.1 0, N, .inl f))) (hi : i = nI k) (hk : k < N) (hN : Nat.blt N 2147483648 = true) (hd : decode cc pc = .ok (.iaload, 1)) (hq : pc + 1 = q) (kk : vv_V G cc M cells slots q L (.int (f k) :: st) n h) : vv_V G cc M cells slots pc L (.int i :: .ref a :: st) n h := by
  subst hq
  intro p e s m args below meth c H locs ls F X hl
  obtain ⟨h1, h2⟩ := vv_in hi hk hN
  refine va_iald F.1 F.2.1 F.2.2.2.2.2.1.1 (vv_one X.2.1 ha) 0 0 rfl rfl h1 hd ?_
  rw [h2]
  exact kk p e s m args below meth c H locs ls F X hl
theorem vv_lald {a k N : Nat} {f : Nat → Int64} {i : Int32} (ha : h a = some (.inl (G.2.2.1 1, N, .inr (.inl f)))) (hi : i = nI k) (hk : k < N) (hN : Nat.blt N 2147483648 = true) (hd : decode cc pc = .ok (.laload, 1)) (hq : pc + 1 = q) (kk : vv_V G cc M cells slots q L (.long (f k) :: st) n h) : vv_V G cc M cells slots pc L (.int i :: .ref a :: st) n h := by
  subst hq
  intro p e s m args below meth c H locs ls F X hl
  obtain ⟨h1, h2⟩ := vv_in hi hk hN
  refine va_lald F.1 F.2.1 F.2.2.2.2.2.1.1 (vv_one X.2.1 ha) 0 1 rfl rfl h1 hd ?_
  rw [h2]
  exact kk p e s m args below meth c H locs ls F X hl
theorem vv_aald {a k N t0 : Nat} {f : Nat → Option Nat} {i : Int32} {ty : FieldType} {cA : ClassId} (ht : (vv_ty G.2.2.1)[t0]? = some (cA, ty)) (hrf : ty.isReference = true) (ha : h a = some (.inl (cA, N, .inr (.inr (.inr (.inr f)))))) (hi : i = nI k) (hk : k < N) (hN : Nat.blt N 2147483648 = true) (hd : decode cc pc = .ok (.aaload, 1)) (hq : pc + 1 = q) (kk : vv_V G cc M cells slots q L (va_rf (f k) :: st) n h) : vv_V G cc M cells slots pc L (.int i :: .ref a :: st) n h := by
  subst hq
  intro p e s m args below meth c H locs ls F X hl
  obtain ⟨h1, h2⟩ := vv_in hi hk hN
  have kk2 := kk p e s m args below meth c H locs ls F X hl
  rw [← h2] at kk2
  exact W.aald (v := va_rf (f i.toNatClampNeg)) (ty := ty) F.1 F.2.1 (X.2.1 a _ ha) ((F.2.2.2.2.2.1.1.2 t0 _ ht).1 N (fun j => va_rf (f j))) hrf (fun x => by cases x) (by show ¬ (i < 0 ∨ (arrV _ _ _).slots.size ≤ _); rw [arrV_size]; exact h1) (by show (arrV _ _ _).slots[_]? = _; rw [arrV_read _ _ (by rw [h2]; exact hk)]) rfl rfl hd kk2
theorem vv_iast {a k N : Nat} {f : Nat → Int32} {i x : Int32} (ha : h a = some (.inl (G.2.2.1 0, N, .inl f))) (hi : i = nI k) (hk : k < N) (hN : Nat.blt N 2147483648 = true) (hd : decode cc pc = .ok (.iastore, 1)) (hq : pc + 1 = q) (kk : vv_V G cc M cells slots q L st n (vv_up h a (.inl (G.2.2.1 0, N, .inl (upd f k x))))) : vv_V G cc M cells slots pc L (.int x :: .int i :: .ref a :: st) n h := by
  subst hq
  intro p e s m args below meth c H locs ls F X hl
  obtain ⟨h1, h2⟩ := vv_in hi hk hN
  refine W.iast F.1 F.2.1 (X.2.1 a _ ha) ((F.2.2.2.2.2.1.1.2 0 _ rfl).1 N (fun j => .int (f j))) (fun x => by cases x) (by show ¬ (i < 0 ∨ (arrV _ _ _).slots.size ≤ _); rw [arrV_size]; exact h1) rfl rfl hd fun H1 e1 z oq => ?_
  refine kk p e s m args below meth c H1 _ ls F (vv_X_up X ha ?_ z oq) hl
  show H1[a]? = some (vp_cell _ _)
  rw [e1, h2]
  rw [vp_cell_i, vp_cell_i, arrV_store]
  congr 2
  funext x9
  by_cases hx : x9 = k
  · subst hx
    simp [updV, upd]
  · simp [updV, upd, hx]
theorem vv_last {a k N : Nat} {f : Nat → Int64} {i : Int32} {x : Int64} (ha : h a = some (.inl (G.2.2.1 1, N, .inr (.inl f)))) (hi : i = nI k) (hk : k < N) (hN : Nat.blt N 2147483648 = true) (hd : decode cc pc = .ok (.lastore, 1)) (hq : pc + 1 = q) (kk : vv_V G cc M cells slots q L st n (vv_up h a (.inl (G.2.2.1 1, N, .inr (.inl (vp_updL f k x)))))) : vv_V G cc M cells slots pc L (.long x :: .int i :: .ref a :: st) n h := by
  subst hq
  intro p e s m args below meth c H locs ls F X hl
  obtain ⟨h1, h2⟩ := vv_in hi hk hN
  refine W.last F.1 F.2.1 (X.2.1 a _ ha) ((F.2.2.2.2.2.1.1.2 1 _ rfl).1 N (fun j => .long (f j))) (fun x => by cases x) (by show ¬ (i < 0 ∨ (arrV _ _ _).slots.size ≤ _); rw [arrV_size]; exact h1) rfl rfl hd fun H1 e1 z oq => ?_
  refine kk p e s m args below meth c H1 _ ls F (vv_X_up X ha ?_ z oq) hl
  show H1[a]? = some (vp_cell _ _)
  rw [e1, h2]
  rw [vp_cell_l, vp_cell_l, arrV_store]
  congr 2
  funext x9
  by_cases hx : x9 = k
  · subst hx
    simp [updV, vp_updL]
  · simp [updV, vp_updL, hx]
theorem vv_alen {a N : Nat} {f : Nat → Int32} (ha : h a = some (.inl (G.2.2.1 0, N, .inl f))) (hd : decode cc pc = .ok (.arraylength, 1)) (hq : pc + 1 = q) (kk : vv_V G cc M cells slots q L (.int (nI N) :: st) n h) : vv_V G cc M cells slots pc L (.ref a :: st) n h := by
  subst hq
  intro p e s m args below meth c H locs ls F X hl
  exact W.alen (n := nI N) F.1 F.2.1 (X.2.1 a _ ha) ((F.2.2.2.2.2.1.1.2 0 _ rfl).1 N (fun j => .int (f j))) (by show (arrV _ _ _).slots.size.toInt32 = _; rw [arrV_size]; rfl) rfl rfl hd (kk p e s m args below meth c H locs ls F X hl)
theorem vv_alenL {a N : Nat} {f : Nat → Int64} (ha : h a = some (.inl (G.2.2.1 1, N, .inr (.inl f)))) (hd : decode cc pc = .ok (.arraylength, 1)) (hq : pc + 1 = q) (kk : vv_V G cc M cells slots q L (.int (nI N) :: st) n h) : vv_V G cc M cells slots pc L (.ref a :: st) n h := by
  subst hq
  intro p e s m args below meth c H locs ls F X hl
  exact W.alen (n := nI N) F.1 F.2.1 (X.2.1 a _ ha) ((F.2.2.2.2.2.1.1.2 1 _ rfl).1 N (fun j => .long (f j))) (by show (arrV _ _ _).slots.size.toInt32 = _; rw [arrV_size]; rfl) rfl rfl hd (kk p e s m args below meth c H locs ls F X hl)
/-! ends -/
theorem vv_iret {r : Option Value} {n' : Nat} {h' : vv_H} {rm : Room} {Ex : State → Prop} {own nm : String} {nL : Nat} {v : Int32} (hd : decode cc pc = .ok (.ireturn, 1)) (hr : r = some (.int v)) (hn : n = n') (hh : h = h') : vv_V G cc (own, nL, some .int, nm, rm, Ex, vv_Q G r n' h' cells slots) cells slots pc L [.int v] n h := by
  subst hr hn hh
  intro p e s m args below meth c H locs ls F X hl
  exact W.iret F.1 F.2.1 F.2.2.2.2.2.2.2.1 (fun t ht hW => ⟨rfl, by rw [ht]; exact X.1, by rw [ht]; exact X.2.1, X.2.2.1.F ht, X.2.2.2⟩) X.2.2.1.2.2 hd F.2.2.2.2.2.2.1
theorem vv_zret {r : Option Value} {n' : Nat} {h' : vv_H} {rm : Room} {Ex : State → Prop} {own nm : String} {nL : Nat} {v : Int32} (hd : decode cc pc = .ok (.ireturn, 1)) (hv : v = 0 ∨ v = 1) (hr : r = some (.int v)) (hn : n = n') (hh : h = h') : vv_V G cc (own, nL, some .boolean, nm, rm, Ex, vv_Q G r n' h' cells slots) cells slots pc L [.int v] n h := by
  subst hr hn hh
  intro p e s m args below meth c H locs ls F X hl
  exact W.zret F.1 F.2.1 F.2.2.2.2.2.2.2.1 (by rcases hv with rfl | rfl <;> rfl) (fun t ht hW => ⟨rfl, by rw [ht]; exact X.1, by rw [ht]; exact X.2.1, X.2.2.1.F ht, X.2.2.2⟩) X.2.2.1.2.2 hd F.2.2.2.2.2.2.1
theorem vv_lret {r : Option Value} {n' : Nat} {h' : vv_H} {rm : Room} {Ex : State → Prop} {own nm : String} {nL : Nat} {v : Int64} (hd : decode cc pc = .ok (.lreturn, 1)) (hr : r = some (.long v)) (hn : n = n') (hh : h = h') : vv_V G cc (own, nL, some .long, nm, rm, Ex, vv_Q G r n' h' cells slots) cells slots pc L [.long v] n h := by
  subst hr hn hh
  intro p e s m args below meth c H locs ls F X hl
  exact W.lret F.1 F.2.1 F.2.2.2.2.2.2.2.1 (fun t ht hW => ⟨rfl, by rw [ht]; exact X.1, by rw [ht]; exact X.2.1, X.2.2.1.F ht, X.2.2.2⟩) X.2.2.1.2.2 hd F.2.2.2.2.2.2.1
theorem vv_aret {r : Option Value} {n' : Nat} {h' : vv_H} {rm : Room} {Ex : State → Prop} {own nm C : String} {nL : Nat} {v : Value} (hd : decode cc pc = .ok (.areturn, 1)) (hv : v = .null ∨ ∃ a, v = .ref a) (hr : r = some v) (hn : n = n') (hh : h = h') : vv_V G cc (own, nL, some (.object C), nm, rm, Ex, vv_Q G r n' h' cells slots) cells slots pc L [v] n h := by
  subst hr hn hh
  intro p e s m args below meth c H locs ls F X hl
  exact W.aret F.1 F.2.1 F.2.2.2.2.2.2.2.1 (Or.inl ⟨_, rfl⟩) hv (fun t ht hW => ⟨rfl, by rw [ht]; exact X.1, by rw [ht]; exact X.2.1, X.2.2.1.F ht, X.2.2.2⟩) X.2.2.1.2.2 hd F.2.2.2.2.2.2.1
theorem vv_vret {r : Option Value} {n' : Nat} {h' : vv_H} {rm : Room} {Ex : State → Prop} {own nm : String} {nL : Nat} (hd : decode cc pc = .ok (.return_, 1)) (hr : r = none) (hn : n = n') (hh : h = h') : vv_V G cc (own, nL, none, nm, rm, Ex, vv_Q G r n' h' cells slots) cells slots pc L [] n h := by
  subst hr hn hh
  intro p e s m args below meth c H locs ls F X hl
  exact W.vret F.1 F.2.1 F.2.2.2.2.2.2.2.1 (fun t ht hW => ⟨rfl, by rw [ht]; exact X.1, by rw [ht]; exact X.2.1, X.2.2.1.F ht, X.2.2.2⟩) X.2.2.1.2.2 hd F.2.2.2.2.2.2.1
/-! calls -/
def vv_LB (y : MethodName) (bytes : ByteArray) (maxL : Nat) (ret : Option FieldType) (k : Nat) : Prop := Cond.initialized y.cls ∈ vv_gd ∧ Cond.code y bytes maxL ret ∈ vv_gd ∧ y.cls ≠ "java/lang/invoke/MethodHandle" ∧ y.cls ≠ "java/lang/invoke/VarHandle" ∧ (parseMethodDescriptor y.desc).map (fun d => d.parameters.length) = some k
def vv_LK (own : String) (i : Nat) (y : MethodName) : Prop := Cond.methodLink own i y ∈ vv_gd ∨ ∃ host, Cond.methodLinkNest own i y host ∈ vv_nw
def vv_LV (y : MethodName) (bytes : ByteArray) (maxL : Nat) (ret : Option FieldType) (k : Nat) : Prop := vv_LB y bytes maxL ret k ∧ Cond.instanceMethod y ∈ vv_gd ∧ Cond.selects y.cls y y ∈ vv_gd
def vv_LS (y : MethodName) (bytes : ByteArray) (maxL : Nat) (ret : Option FieldType) (k : Nat) : Prop := vv_LB y bytes maxL ret k ∧ Cond.static y ∈ vv_gd
def vv_LI (y : MethodName) (bytes : ByteArray) (maxL : Nat) (k : Nat) : Prop := vv_LB y bytes maxL none k ∧ Cond.instanceMethod y ∈ vv_gd ∧ y.name = "<init>"
def vv_rm (rm : Room) (maxL : Nat) (R : Room) : Bool := Nat.ble (rm.frames + 1) R.frames && Nat.ble (8 + (maxL + 11) + rm.locals) R.locals
theorem vv_pre {G : vv_G} {s : State} {H : Heap} {locs : List Loc} {av : List Value} (hK : vv_K G s) (hB : G.2.2.2 ≤ s.heap.size) (X : vv_X G n h s H locs) : ∀ U : State, U.heap = H → s.WarmedH U.vm → vv_PP G av n h av.toArray U := fun U hU hW => ⟨rfl, by rw [hU]; exact X.1, by rw [hU]; exact X.2.1, hK.warm hW, by rw [← X.1]; exact Nat.le_trans hB X.2.2.1.1, X.2.2.2⟩
theorem vv_back {p : Program} {e : Env} {s : State} {m : MethodId} {args : Array Value} {below : List Frame} {meth : Method} {c : Code} {H : Heap} {locs : List Loc} {ls : Array Slot} {r : Option Value} {n' : Nat} {h' : vv_H} {mc ms : Nat} {a : Array Value} {st0 : List Value}
    (F : vv_F G cc M p s m args meth c) (X : vv_X G n h s H locs) (hl : lv_has ls M.2.1 L) (hr : va_Run p G.1 e M.2.2.2.2.1 s m args below meth c H locs cells slots mc ms (F0 m pc ls st0) st (vv_QQ G r n' h' a) (vv_A G)) (kk : vv_V G cc M (cells + mc) (slots + ms) (pc + 3) L (r.toList ++ st) n' h') : W p G.1 e M.2.2.2.2.1 s m args below meth c H locs cells slots (M.2.2.2.2.2.2 below args s) (F0 m pc ls st0) := by
  intro T hT XX
  obtain ⟨v, st₀, t, T', L9, h0, X', hL, e1, e2, ⟨hv, hz, hP, hF, hd⟩, stp⟩ := hr T hT XX
  cases hv
  obtain ⟨hF1, hF2⟩ := hF
  rw [h0] at hF1 hF2
  have hS := X.2.2.1
  obtain ⟨t2, a1, b1⟩ := kk p e s m args below meth c T'.heap (locs ++ L9) ls F ⟨by rw [e1]; exact hz, by rw [e1]; exact hP, ⟨Nat.le_trans hS.1 (by rw [e1]; exact hF1), fun x h1 h2 => by rw [e1, hF2 x (Nat.lt_of_lt_of_le h1 hS.1) h2]; exact hS.2.1 x h1 h2, fun x hx => by
      rcases List.mem_append.mp hx with z | z
      · exact hS.2.2 x z
      · exact hL x z⟩, hd⟩ hl T' rfl X'
  exact ⟨t2, stp t2 a1, b1⟩
theorem vv_callV {y : MethodName} {bytes : ByteArray} {maxL : Nat} {ret : Option FieldType} {rm : Room} {As : List Value} {b ci i k : Nat} {fs : List Value} {r : Option Value} {n' : Nat} {h' : vv_H} {T : u_T} {N c2 s2 : Nat} {stk : List Value} (hlk : vv_LK M.1 i y) (hy : vv_LV y bytes maxL ret k) (hc : vv_C G y bytes maxL ret rm (.ref b :: As) n h r n' h') (hcl : vv_cl[ci]? = some (y.cls, T, N)) (he : h b = some (.inr (ci, fs))) (hn : As.length = k) (hst : stk = As.reverse ++ .ref b :: st) (hW : (st.map fun v => v.category).sum ≤ 8) (hR : vv_rm rm maxL M.2.2.2.2.1 = true) (hd : decode cc pc = .ok (.invokevirtual i, 3)) (hq : pc + 3 = q) (hc2 : cells + rm.cells = c2) (hs2 : slots + rm.slots = s2) (hfc : Nat.ble c2 M.2.2.2.2.1.cells = true) (hfs : Nat.ble s2 M.2.2.2.2.1.slots = true) (kk : vv_V G cc M c2 s2 q L (r.toList ++ st) n' h') : vv_V G cc M cells slots pc L stk n h := by
  subst hq hc2 hs2 hst
  intro p e s m args below meth c H locs ls F X hl
  obtain ⟨⟨hini, hcode, hd1, hd2, hd3⟩, hinst, hsel⟩ := hy
  have hts := F.2.2.2.2.1
  have hR1 := Bool.and_eq_true_iff.mp hR
  have hRR : rm.frames + 1 ≤ M.2.2.2.2.1.frames ∧ 8 + (maxL + 11) + rm.locals ≤ M.2.2.2.2.1.locals := ⟨Nat.le_of_ble_eq_true hR1.1, Nat.le_of_ble_eq_true hR1.2⟩
  have hrecv := va_recv F.2.2.2.2.2.1.1 (vv_one X.2.1 he) hcl (q0 := 0) rfl
  refine vv_back F X hl (a := (Value.ref b :: As).toArray) ?_ kk
  rcases hlk with hlk | ⟨host, hlk⟩
  · exact va_runV ⟨F.1, F.2.1, F.2.2.1, F.2.2.2.1, hts⟩ hc ⟨callB_of k hts (vv_gin hcode) rfl rfl rfl (hts _ hini) (hts _ hlk) ⟨hd1, hd2, hd3⟩ hRR, hts _ hinst, hts _ hsel⟩ ⟨vv_blind, hrecv, vv_pre F.2.2.2.2.2.1 F.2.2.2.2.2.2.2.2.2.2 X⟩ rfl hn hl.1 rfl (lv_room hW) hd ⟨Nat.le_of_ble_eq_true hfc, Nat.le_of_ble_eq_true hfs⟩
  · exact va_runVN ⟨F.1, F.2.1, F.2.2.1, F.2.2.2.1, hts⟩ hc ⟨va_cnB k hts (vv_gin hcode) rfl rfl rfl (F.2.2.2.2.2.1.2.1 _ hlk) (hts _ hini) ⟨hd1, hd2, hd3⟩ hRR, hts _ hinst, hts _ hsel⟩ ⟨vv_blind, hrecv, vv_pre F.2.2.2.2.2.1 F.2.2.2.2.2.2.2.2.2.2 X⟩ rfl hn hl.1 rfl (lv_room hW) hd ⟨Nat.le_of_ble_eq_true hfc, Nat.le_of_ble_eq_true hfs⟩
theorem vv_callS {y : MethodName} {bytes : ByteArray} {maxL : Nat} {ret : Option FieldType} {rm : Room} {As : List Value} {i k : Nat} {r : Option Value} {n' : Nat} {h' : vv_H} {c2 s2 : Nat} {stk : List Value} (hlk : vv_LK M.1 i y) (hy : vv_LS y bytes maxL ret k) (hc : vv_C G y bytes maxL ret rm As n h r n' h') (hn : As.length = k) (hst : stk = As.reverse ++ st) (hW : (st.map fun v => v.category).sum ≤ 8) (hR : vv_rm rm maxL M.2.2.2.2.1 = true) (hd : decode cc pc = .ok (.invokestatic i, 3)) (hq : pc + 3 = q) (hc2 : cells + rm.cells = c2) (hs2 : slots + rm.slots = s2) (hfc : Nat.ble c2 M.2.2.2.2.1.cells = true) (hfs : Nat.ble s2 M.2.2.2.2.1.slots = true) (kk : vv_V G cc M c2 s2 q L (r.toList ++ st) n' h') : vv_V G cc M cells slots pc L stk n h := by
  subst hq hc2 hs2 hst
  intro p e s m args below meth c H locs ls F X hl
  obtain ⟨⟨hini, hcode, hd1, hd2, hd3⟩, hstat⟩ := hy
  have hts := F.2.2.2.2.1
  have hR1 := Bool.and_eq_true_iff.mp hR
  have hRR : rm.frames + 1 ≤ M.2.2.2.2.1.frames ∧ 8 + (maxL + 11) + rm.locals ≤ M.2.2.2.2.1.locals := ⟨Nat.le_of_ble_eq_true hR1.1, Nat.le_of_ble_eq_true hR1.2⟩
  refine vv_back F X hl (a := As.toArray) ?_ kk
  rcases hlk with hlk | ⟨host, hlk⟩
  · exact va_runS ⟨F.1, F.2.1, F.2.2.1, F.2.2.2.1, hts⟩ hc ⟨callB_of k hts (vv_gin hcode) rfl rfl rfl (hts _ hini) (hts _ hlk) ⟨hd1, hd2, hd3⟩ hRR, hts _ hstat⟩ ⟨vv_blind, vv_pre F.2.2.2.2.2.1 F.2.2.2.2.2.2.2.2.2.2 X⟩ rfl hn hl.1 rfl (lv_room hW) hd ⟨Nat.le_of_ble_eq_true hfc, Nat.le_of_ble_eq_true hfs⟩
  · exact va_runSN ⟨F.1, F.2.1, F.2.2.1, F.2.2.2.1, hts⟩ hc ⟨va_cnB k hts (vv_gin hcode) rfl rfl rfl (F.2.2.2.2.2.1.2.1 _ hlk) (hts _ hini) ⟨hd1, hd2, hd3⟩ hRR, hts _ hstat, trivial⟩ ⟨vv_blind, vv_pre F.2.2.2.2.2.1 F.2.2.2.2.2.2.2.2.2.2 X⟩ rfl hn hl.1 rfl (lv_room hW) hd ⟨Nat.le_of_ble_eq_true hfc, Nat.le_of_ble_eq_true hfs⟩
theorem vv_callI {y : MethodName} {bytes : ByteArray} {maxL : Nat} {rm : Room} {As : List Value} {b i k : Nat} {r : Option Value} {n' : Nat} {h' : vv_H} {c2 s2 : Nat} {stk : List Value} (hlk : vv_LK M.1 i y) (hy : vv_LI y bytes maxL k) (hc : vv_C G y bytes maxL none rm (.ref b :: As) n h r n' h') (hn : As.length = k) (hst : stk = As.reverse ++ .ref b :: st) (hW : (st.map fun v => v.category).sum ≤ 8) (hR : vv_rm rm maxL M.2.2.2.2.1 = true) (hd : decode cc pc = .ok (.invokespecial i, 3)) (hq : pc + 3 = q) (hc2 : cells + rm.cells = c2) (hs2 : slots + rm.slots = s2) (hfc : Nat.ble c2 M.2.2.2.2.1.cells = true) (hfs : Nat.ble s2 M.2.2.2.2.1.slots = true) (kk : vv_V G cc M c2 s2 q L (r.toList ++ st) n' h') : vv_V G cc M cells slots pc L stk n h := by
  subst hq hc2 hs2 hst
  intro p e s m args below meth c H locs ls F X hl
  obtain ⟨⟨hini, hcode, hd1, hd2, hd3⟩, hinst, hnm⟩ := hy
  have hts := F.2.2.2.2.1
  have hR1 := Bool.and_eq_true_iff.mp hR
  have hRR : rm.frames + 1 ≤ M.2.2.2.2.1.frames ∧ 8 + (maxL + 11) + rm.locals ≤ M.2.2.2.2.1.locals := ⟨Nat.le_of_ble_eq_true hR1.1, Nat.le_of_ble_eq_true hR1.2⟩
  refine vv_back F X hl (a := (Value.ref b :: As).toArray) ?_ kk
  rcases hlk with hlk | ⟨host, hlk⟩
  · exact va_runI ⟨F.1, F.2.1, F.2.2.1, F.2.2.2.1, hts⟩ hc ⟨callB_of k hts (vv_gin hcode) rfl rfl rfl (hts _ hini) (hts _ hlk) ⟨hd1, hd2, hd3⟩ hRR, hnm, hts _ hinst⟩ ⟨vv_blind, vv_pre F.2.2.2.2.2.1 F.2.2.2.2.2.2.2.2.2.2 X⟩ rfl hn hl.1 rfl (lv_room hW) hd ⟨Nat.le_of_ble_eq_true hfc, Nat.le_of_ble_eq_true hfs⟩
  · exact va_runIN ⟨F.1, F.2.1, F.2.2.1, F.2.2.2.1, hts⟩ hc ⟨va_cnB k hts (vv_gin hcode) rfl rfl rfl (F.2.2.2.2.2.1.2.1 _ hlk) (hts _ hini) ⟨hd1, hd2, hd3⟩ hRR, hnm, hts _ hinst⟩ ⟨vv_blind, vv_pre F.2.2.2.2.2.1 F.2.2.2.2.2.2.2.2.2.2 X⟩ rfl hn hl.1 rfl (lv_room hW) hd ⟨Nat.le_of_ble_eq_true hfc, Nat.le_of_ble_eq_true hfs⟩

end VVR
end
