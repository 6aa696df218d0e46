theorem c_in {G : vv_G} {S : vs_S} {v lo hi : Int64} : vs_C G yX10_in cX10_in 6 (some .boolean) { frames := 0, locals := 0 } [.long (v), .long (lo), .long (hi)] S (some (.int (if lo ≤ v ∧ v ≤ hi then 1 else 0))) S := by
  refine vs_of [(0, .long (v)), (2, .long (lo)), (4, .long (hi))] (by decide) rfl rfl ?_
  refine vs_lload_n 0 dX10_in_0 rfl rfl 0 rfl ?_
  refine vs_lload_n 2 dX10_in_1 rfl rfl 1 rfl ?_
  refine vs_lcmp dX10_in_2 rfl ?_
  refine vs_if_lt 17 dX10_in_3 rfl rfl (fun c_3 => ?_) (fun c_3 => ?_)
  · have d_3 := (lg_cmp_lt _ _).mp c_3
    refine vs_iconst (v := 0) dX10_in_17 rfl rfl ?_
    exact vs_zret dX10_in_18 (by first | exact Or.inl rfl | exact Or.inr rfl) (by rw [fb_lt] at d_3; (first | rw [fb_lt] at d_10 | skip); simp only [fb_le]; first | (rw [if_pos (by omega)]) | (rw [if_neg (by omega)])) rfl
  · have d_3 := (not_congr (lg_cmp_lt _ _)).mp c_3
    refine vs_lload_n 0 dX10_in_6 rfl rfl 0 rfl ?_
    refine vs_lload dX10_in_7 rfl 2 rfl ?_
    refine vs_lcmp dX10_in_9 rfl ?_
    refine vs_if_gt 17 dX10_in_10 rfl rfl (fun c_10 => ?_) (fun c_10 => ?_)
    · have d_10 := (lg_cmp_gt _ _).mp c_10
      refine vs_iconst (v := 0) dX10_in_17 rfl rfl ?_
      exact vs_zret dX10_in_18 (by first | exact Or.inl rfl | exact Or.inr rfl) (by rw [fb_lt] at d_3; (first | rw [fb_lt] at d_10 | skip); simp only [fb_le]; first | (rw [if_pos (by omega)]) | (rw [if_neg (by omega)])) rfl
    · have d_10 := (not_congr (lg_cmp_gt _ _)).mp c_10
      refine vs_iconst (v := 1) dX10_in_13 rfl rfl ?_
      refine vs_goto 18 dX10_in_14 rfl ?_
      exact vs_zret dX10_in_18 (by first | exact Or.inl rfl | exact Or.inr rfl) (by rw [fb_lt] at d_3; (first | rw [fb_lt] at d_10 | skip); simp only [fb_le]; first | (rw [if_pos (by omega)]) | (rw [if_neg (by omega)])) rfl

theorem c_rest {G : vv_G} {S : vs_S} {v : Int64} {P : Nat} (hP : S.1 118 2 = nI P) (hP1 : 0 < P) (hP2 : P < 2 ^ 31) : vs_C G yX10_rest cX10_rest 5 (some .int) { frames := 0, locals := 0 } [.ref (G.2.2.2 + 118), .long (v)] S (some (.int (nI (nn_m v.toInt P)))) S := by
  refine vs_of [(0, .ref (G.2.2.2 + 118)), (1, .long (v))] (by decide) rfl rfl ?_
  refine vs_lload_n 1 dX10_rest_0 rfl rfl 1 rfl ?_
  refine vs_aload_n 0 dX10_rest_1 rfl rfl 0 rfl ?_
  refine vs_get (v := .int (nI P)) lf_X10_92 rfl (congrArg (fun z => some (Value.int z)) hP) dX10_rest_2 rfl ?_
  refine vs_i2l dX10_rest_5 rfl ?_
  refine vs_lrem dX10_rest_6 rfl (nn_ne0 hP1 hP2) ?_
  refine vs_topl (fun r e_r => ?_)
  refine vs_lstore_n 3 [(3, .long (r)), (0, .ref (G.2.2.2 + 118)), (1, .long (v))] dX10_rest_7 rfl rfl rfl rfl ?_
  refine vs_lload_n 3 dX10_rest_8 rfl rfl 0 rfl ?_
  refine vs_lconst (v := 0) dX10_rest_9 rfl rfl ?_
  refine vs_lcmp dX10_rest_10 rfl ?_
  refine vs_if_ge 24 dX10_rest_11 rfl rfl (fun c_11 => ?_) (fun c_11 => ?_)
  · have d_11 := (lg_cmp_ge _ _).mp c_11
    refine vs_lload_n 3 dX10_rest_24 rfl rfl 0 rfl ?_
    refine vs_l2i dX10_rest_25 rfl ?_
    exact vs_iret dX10_rest_26 (by first | (rw [nn_restP hP1 hP2 e_r d_11]) | (rw [nn_restN hP1 hP2 e_r (by rw [fb_le] at d_11; rw [fb_lt]; omega)])) rfl
  · have d_11 := (not_congr (lg_cmp_ge _ _)).mp c_11
    refine vs_lload_n 3 dX10_rest_14 rfl rfl 0 rfl ?_
    refine vs_aload_n 0 dX10_rest_15 rfl rfl 1 rfl ?_
    refine vs_get (v := .int (nI P)) lf_X10_92 rfl (congrArg (fun z => some (Value.int z)) hP) dX10_rest_16 rfl ?_
    refine vs_i2l dX10_rest_19 rfl ?_
    refine vs_ladd dX10_rest_20 rfl ?_
    refine vs_goto 25 dX10_rest_21 rfl ?_
    refine vs_l2i dX10_rest_25 rfl ?_
    exact vs_iret dX10_rest_26 (by first | (rw [nn_restP hP1 hP2 e_r d_11]) | (rw [nn_restN hP1 hP2 e_r (by rw [fb_le] at d_11; rw [fb_lt]; omega)])) rfl

theorem c_product {G : vv_G} {S : vs_S} {x y : Nat} {P : Nat} (hP : S.1 118 2 = nI P) (hP1 : 0 < P) (hP2 : P < 2 ^ 31) (hx : x < 2 ^ 31) (hy : y < 2 ^ 31) : vs_C G yX10_product cX10_product 3 (some .int) { frames := 0, locals := 0 } [.ref (G.2.2.2 + 118), .int (nI x), .int (nI y)] S (some (.int (nI (x * y % P)))) S := by
  refine vs_of [(0, .ref (G.2.2.2 + 118)), (1, .int (nI x)), (2, .int (nI y))] (by decide) rfl rfl ?_
  refine vs_iload_n 1 dX10_product_0 rfl rfl 1 rfl ?_
  refine vs_i2l dX10_product_1 rfl ?_
  refine vs_iload_n 2 dX10_product_2 rfl rfl 2 rfl ?_
  refine vs_i2l dX10_product_3 rfl ?_
  refine vs_lmul dX10_product_4 rfl ?_
  refine vs_aload_n 0 dX10_product_5 rfl rfl 0 rfl ?_
  refine vs_get (v := .int (nI P)) lf_X10_92 rfl (congrArg (fun z => some (Value.int z)) hP) dX10_product_6 rfl ?_
  refine vs_i2l dX10_product_9 rfl ?_
  refine vs_lrem dX10_product_10 rfl (nn_ne0 hP1 hP2) ?_
  refine vs_l2i dX10_product_11 rfl ?_
  exact vs_iret dX10_product_12 (by rw [nn_prod hx hy hP1 hP2]) rfl

theorem c_of {G : vv_G} {S : vs_S} {v : Int64} {P : Nat} (hP : S.1 1 0 = nI P) (hP1 : 2 ≤ P) (hP2 : P < 2 ^ 31) : vs_C G yX5_of cX5_of 5 (some .int) { frames := 0, locals := 0 } [.ref (G.2.2.2 + 1), .long (v)] S (some (.int (nI (nn_m v.toInt P)))) S := by
  refine vs_of [(0, .ref (G.2.2.2 + 1)), (1, .long (v))] (by decide) rfl rfl ?_
  refine vs_aload_n 0 dX5_of_0 rfl rfl 0 rfl ?_
  refine vs_get (v := .int (nI P)) lf_X5_9 rfl (congrArg (fun z => some (Value.int z)) hP) dX5_of_1 rfl ?_
  refine vs_iconst (v := 2) dX5_of_4 rfl rfl ?_
  refine vs_icmp_ge 10 dX5_of_5 rfl rfl (fun c_5 => ?_) (fun c_5 => ?_)
  · refine vs_lload_n 1 dX5_of_10 rfl rfl 1 rfl ?_
    refine vs_aload_n 0 dX5_of_11 rfl rfl 0 rfl ?_
    refine vs_get (v := .int (nI P)) lf_X5_9 rfl (congrArg (fun z => some (Value.int z)) hP) dX5_of_12 rfl ?_
    refine vs_i2l dX5_of_15 rfl ?_
    refine vs_lrem dX5_of_16 rfl (nn_ne0 (by omega) hP2) ?_
    refine vs_topl (fun r e_r => ?_)
    refine vs_lstore_n 3 [(3, .long (r)), (0, .ref (G.2.2.2 + 1)), (1, .long (v))] dX5_of_17 rfl rfl rfl rfl ?_
    refine vs_lload_n 3 dX5_of_18 rfl rfl 0 rfl ?_
    refine vs_lconst (v := 0) dX5_of_19 rfl rfl ?_
    refine vs_lcmp dX5_of_20 rfl ?_
    refine vs_if_ge 34 dX5_of_21 rfl rfl (fun c_21 => ?_) (fun c_21 => ?_)
    · have d_11 := (lg_cmp_ge _ _).mp c_21
      refine vs_lload_n 3 dX5_of_34 rfl rfl 0 rfl ?_
      refine vs_l2i dX5_of_35 rfl ?_
      exact vs_iret dX5_of_36 (by first | (rw [nn_restP (by omega) hP2 e_r d_11]) | (rw [nn_restN (by omega) hP2 e_r (by rw [fb_le] at d_11; rw [fb_lt]; omega)])) rfl
    · have d_11 := (not_congr (lg_cmp_ge _ _)).mp c_21
      refine vs_lload_n 3 dX5_of_24 rfl rfl 0 rfl ?_
      refine vs_aload_n 0 dX5_of_25 rfl rfl 1 rfl ?_
      refine vs_get (v := .int (nI P)) lf_X5_9 rfl (congrArg (fun z => some (Value.int z)) hP) dX5_of_26 rfl ?_
      refine vs_i2l dX5_of_29 rfl ?_
      refine vs_ladd dX5_of_30 rfl ?_
      refine vs_goto 35 dX5_of_31 rfl ?_
      refine vs_l2i dX5_of_35 rfl ?_
      exact vs_iret dX5_of_36 (by first | (rw [nn_restP (by omega) hP2 e_r d_11]) | (rw [nn_restN (by omega) hP2 e_r (by rw [fb_le] at d_11; rw [fb_lt]; omega)])) rfl
  · exact absurd (nI_le hP1 hP2) c_5

theorem c_rproduct {G : vv_G} {S : vs_S} {x y : Nat} {P : Nat} (hP : S.1 1 0 = nI P) (hP1 : 2 ≤ P) (hP2 : P < 2 ^ 31) (hx : x < 2 ^ 31) (hy : y < 2 ^ 31) : vs_C G yX5_product cX5_product 3 (some .int) { frames := 1, locals := 24 } [.ref (G.2.2.2 + 1), .int (nI x), .int (nI y)] S (some (.int (nI (x * y % P)))) S := by
  refine vs_of [(0, .ref (G.2.2.2 + 1)), (1, .int (nI x)), (2, .int (nI y))] (by decide) rfl rfl ?_
  refine vs_aload_n 0 dX5_product_0 rfl rfl 0 rfl ?_
  refine vs_iload_n 1 dX5_product_1 rfl rfl 1 rfl ?_
  refine vs_i2l dX5_product_2 rfl ?_
  refine vs_iload_n 2 dX5_product_3 rfl rfl 2 rfl ?_
  refine vs_i2l dX5_product_4 rfl ?_
  refine vs_lmul dX5_product_5 rfl ?_
  refine vs_callV (st := []) (c_of (v := (nI x).toInt64 * (nI y).toInt64) hP hP1 hP2) lk_X5_15 lm_X5_of rfl rfl rfl rfl (by decide) rfl ⟨rfl, rfl⟩ dX5_product_6 rfl ?_
  exact vs_iret dX5_product_9 (by rw [nn_mulI hx hy, ← Int.natCast_mul, nn_m_nat]) rfl

theorem c_negative {G : vv_G} {S : vs_S} {x : Nat} {P : Nat} (hP : S.1 1 0 = nI P) (hP1 : 2 ≤ P) (hP2 : P < 2 ^ 31) (hx : x < 2 ^ 31) : vs_C G yX5_negative cX5_negative 2 (some .int) { frames := 1, locals := 24 } [.ref (G.2.2.2 + 1), .int (nI x)] S (some (.int (nI (nn_m (-(x : Int)) P)))) S := by
  refine vs_of [(0, .ref (G.2.2.2 + 1)), (1, .int (nI x))] (by decide) rfl rfl ?_
  refine vs_aload_n 0 dX5_negative_0 rfl rfl 0 rfl ?_
  refine vs_iload_n 1 dX5_negative_1 rfl rfl 1 rfl ?_
  refine vs_i2l dX5_negative_2 rfl ?_
  refine vs_lneg dX5_negative_3 rfl ?_
  refine vs_callV (st := []) (c_of (v := -(nI x).toInt64) hP hP1 hP2) lk_X5_15 lm_X5_of rfl rfl rfl rfl (by decide) rfl ⟨rfl, rfl⟩ dX5_negative_4 rfl ?_
  exact vs_iret dX5_negative_7 (by rw [Int64.toInt_neg, nn_i2l, nI_toInt hx, nn_bmod (by omega) (by omega)]) rfl

