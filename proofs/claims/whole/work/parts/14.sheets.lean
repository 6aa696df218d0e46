/-- the digest's mixing of n numbers -/
def mx (f : Nat → Int64) (h : Int64) : Nat → Int64
  | 0 => h
  | i + 1 => 31 * mx f h i + f i
theorem c_mixed {G : vv_G} {S : vs_S} {h v : Int64} : vs_C G yX9_mixed cX9_mixed 4 (some .long) { frames := 0, locals := 0 } [.long (h), .long (v)] S (some (.long (31 * h + v))) S := by
  refine vs_of [(0, .long (h)), (2, .long (v))] (by decide) rfl rfl ?_
  refine vs_ldc2 lc_X9_293 dX9_mixed_0 rfl ?_
  refine vs_lload_n 0 dX9_mixed_3 rfl rfl 0 rfl ?_
  refine vs_lmul dX9_mixed_4 rfl ?_
  refine vs_lload_n 2 dX9_mixed_5 rfl rfl 1 rfl ?_
  refine vs_ladd dX9_mixed_6 rfl ?_
  exact vs_lret dX9_mixed_7 rfl rfl

theorem l_pmix {G : vv_G} {S : vs_S} {o : Nat} {g : Nat → Nat} (hp : vs_P o) (hg : pR S o g) {h : Int64} {n : Nat} (hn : n ≤ 2000) {r : Option Value} {Sf : vs_S} (hr : r = some (.long (mx (fun k => (nI (g k)).toInt64) h n))) (hS : S = Sf) : ∀ d i : Nat, i + d = n → vs_V G cX3_mixedInto (vs_M yX3_mixedInto 7 (some .long) { frames := 1, locals := 23 } G r Sf) 6 [(6, .int (nI i)), (4, .long (mx (fun k => (nI (g k)).toInt64) h i)), (0, .ref (G.2.2.2 + o)), (1, .long (h)), (3, .int (nZ ((n : Int) - 1)))] [] S := by
  intro d
  induction d with
  | zero =>
    intro i hi
    obtain rfl : i = n := by omega
    refine vs_iload dX3_mixedInto_6 rfl 0 rfl ?_
    refine vs_iload_n 3 dX3_mixedInto_8 rfl rfl 4 rfl ?_
    refine vs_icmp_gt 32 dX3_mixedInto_9 rfl rfl (fun c_9 => ?_) (fun c_9 => ?_)
    · refine vs_lload dX3_mixedInto_32 rfl 1 rfl ?_
      exact vs_lret dX3_mixedInto_34 hr hS
    · exact absurd (by rw [nI_Z, nZ_lt (by omega) (by omega) (by omega) (by omega)]; omega) c_9
  | succ d ih =>
    intro i hi
    refine vs_iload dX3_mixedInto_6 rfl 0 rfl ?_
    refine vs_iload_n 3 dX3_mixedInto_8 rfl rfl 4 rfl ?_
    refine vs_icmp_gt 32 dX3_mixedInto_9 rfl rfl (fun c_9 => ?_) (fun c_9 => ?_)
    · rw [nI_Z, nZ_lt (by omega) (by omega) (by omega) (by omega)] at c_9
      omega
    · refine vs_lload dX3_mixedInto_12 rfl 1 rfl ?_
      refine vs_aload_n 0 dX3_mixedInto_14 rfl rfl 2 rfl ?_
      refine vs_iload dX3_mixedInto_15 rfl 0 rfl ?_
      refine vs_callV (st := [.long (mx (fun k => (nI (g k)).toInt64) h i)]) (c_atN hp hg (k := i) (by omega)) lk_X3_37 lm_X3_at rfl hp.1 rfl rfl (Nat.le_of_ble_eq_true rfl) rfl ⟨rfl, rfl⟩ dX3_mixedInto_17 rfl ?_
      show vs_V _ _ _ _ _ (.int (nI (g i)) :: _) _
      refine vs_i2l dX3_mixedInto_20 rfl ?_
      refine vs_callS (st := []) (c_mixed (h := mx (fun k => (nI (g k)).toInt64) h i) (v := (nI (g i)).toInt64)) lk_X3_63 lm_X9_mixed rfl rfl (Nat.le_of_ble_eq_true rfl) rfl ⟨rfl, rfl⟩ dX3_mixedInto_21 rfl ?_
      show vs_V _ _ _ _ _ (.long (31 * mx (fun k => (nI (g k)).toInt64) h i + (nI (g i)).toInt64) :: _) _
      refine vs_topl (fun x1 e_x1 => ?_)
      refine vs_lstore [(4, .long (x1)), (6, .int (nI i)), (0, .ref (G.2.2.2 + o)), (1, .long (h)), (3, .int (nZ ((n : Int) - 1)))] dX3_mixedInto_24 rfl rfl rfl ?_
      refine vs_iinc (v := nI (i + 1)) [(6, .int (nI (i + 1))), (4, .long (x1)), (0, .ref (G.2.2.2 + o)), (1, .long (h)), (3, .int (nZ ((n : Int) - 1)))] dX3_mixedInto_26 rfl 1 rfl (by first | exact nI_1 _ | (simp only [fa_lit, nI_add, pk_mul, nI_1]; rfl)) rfl rfl ?_
      refine vs_goto 6 dX3_mixedInto_29 rfl ?_
      subst e_x1
      refine vs_pick [0, 1, 2, 3, 4] rfl ?_
      exact ih (i + 1) (by omega)

theorem c_pmixedInto {G : vv_G} {S : vs_S} {o : Nat} {g : Nat → Nat} (hp : vs_P o) (hg : pR S o g) {h : Int64} {n : Nat} (hn : n ≤ 2000) : vs_C G yX3_mixedInto cX3_mixedInto 7 (some .long) { frames := 1, locals := 23 } [.ref (G.2.2.2 + o), .long (h), .int (nZ ((n : Int) - 1))] S (some (.long (mx (fun k => (nI (g k)).toInt64) h n))) S := by
  refine vs_of [(0, .ref (G.2.2.2 + o)), (1, .long (h)), (3, .int (nZ ((n : Int) - 1)))] (by decide) rfl rfl ?_
  refine vs_lload_n 1 dX3_mixedInto_0 rfl rfl 1 rfl ?_
  refine vs_lstore [(4, .long (h)), (0, .ref (G.2.2.2 + o)), (1, .long (h)), (3, .int (nZ ((n : Int) - 1)))] dX3_mixedInto_1 rfl rfl rfl ?_
  refine vs_iconst (v := 0) dX3_mixedInto_3 rfl rfl ?_
  refine vs_istore [(6, .int (0)), (4, .long (h)), (0, .ref (G.2.2.2 + o)), (1, .long (h)), (3, .int (nZ ((n : Int) - 1)))] dX3_mixedInto_4 rfl rfl rfl ?_
  refine vs_pick (L2 := [(6, .int (nI 0)), (4, .long (h)), (0, .ref (G.2.2.2 + o)), (1, .long (h)), (3, .int (nZ ((n : Int) - 1)))]) [0, 1, 2, 3, 4] rfl ?_
  exact l_pmix hp hg hn rfl rfl n 0 (by omega)

theorem l_fillL {G : vv_G} {S : vs_S} {o N : Nat} {v : Int64} (hT : vs_T[o]? = some (.inl (1, N))) (hN : N < 1073741824) {r : Option Value} {Sf : vs_S} (hr : r = none) (hS : vs_la S o (nfill (S.2.2.1 o) v N) = Sf) : ∀ d i, i + d = N → vs_V G cJ7_fill_d0a16 (vs_M yJ7_fill_d0a16 5 none { frames := 0, locals := 0 } G r Sf) 6 [(4, .int (nI N)), (3, .int (nI i)), (0, .ref (G.2.2.2 + o)), (1, .long (v))] [] (vs_la S o (nfill (S.2.2.1 o) v i)) := by
  intro d
  induction d with
  | zero =>
    intro i hi
    obtain rfl : i = N := by omega
    refine vs_iload_n 3 dJ7_fill_d0a16_6 rfl rfl 1 rfl ?_
    refine vs_iload dJ7_fill_d0a16_7 rfl 0 rfl ?_
    refine vs_icmp_ge 22 dJ7_fill_d0a16_9 rfl rfl (fun c_9 => ?_) (fun c_9 => ?_)
    · exact vs_vret dJ7_fill_d0a16_22 hr hS
    · exact absurd (nI_le (Nat.le_refl _) (by omega)) c_9
  | succ d ih =>
    intro i hi
    refine vs_iload_n 3 dJ7_fill_d0a16_6 rfl rfl 1 rfl ?_
    refine vs_iload dJ7_fill_d0a16_7 rfl 0 rfl ?_
    refine vs_icmp_ge 22 dJ7_fill_d0a16_9 rfl rfl (fun c_9 => ?_) (fun c_9 => ?_)
    · exact absurd c_9 (nI_ge (by omega) (by omega))
    · refine vs_aload_n 0 dJ7_fill_d0a16_12 rfl rfl 2 rfl ?_
      refine vs_iload_n 3 dJ7_fill_d0a16_13 rfl rfl 1 rfl ?_
      refine vs_lload_n 1 dJ7_fill_d0a16_14 rfl rfl 3 rfl ?_
      refine vs_last (k := i) hT rfl (by omega) (Nat.ble_eq_true_of_le (by omega)) dJ7_fill_d0a16_15 rfl ?_
      refine vs_eq (S2 := vs_la S o (nfill (S.2.2.1 o) v (i + 1))) (by rw [vs_la_at, nfill_sL, vs_la_la]) ?_
      refine vs_iinc (v := nI (i + 1)) [(3, .int (nI (i + 1))), (4, .int (nI N)), (0, .ref (G.2.2.2 + o)), (1, .long (v))] dJ7_fill_d0a16_16 rfl 1 rfl (by first | exact nI_1 _ | (simp only [fa_lit, nI_add, pk_mul, nI_1]; rfl)) rfl rfl ?_
      refine vs_goto 6 dJ7_fill_d0a16_19 rfl ?_
      refine vs_pick [1, 0, 2, 3] rfl ?_
      exact ih (i + 1) (by omega)

theorem c_fillL {G : vv_G} {S : vs_S} {o N : Nat} {v : Int64} (hT : vs_T[o]? = some (.inl (1, N))) (hN : N < 1073741824) : vs_C G yJ7_fill_d0a16 cJ7_fill_d0a16 5 none { frames := 0, locals := 0 } [.ref (G.2.2.2 + o), .long (v)] S none (vs_la S o (nfill (S.2.2.1 o) v N)) := by
  refine vs_of [(0, .ref (G.2.2.2 + o)), (1, .long (v))] (by decide) rfl rfl ?_
  refine vs_iconst (v := 0) dJ7_fill_d0a16_0 rfl rfl ?_
  refine vs_istore_n 3 [(3, .int (0)), (0, .ref (G.2.2.2 + o)), (1, .long (v))] dJ7_fill_d0a16_1 rfl rfl rfl rfl ?_
  refine vs_aload_n 0 dJ7_fill_d0a16_2 rfl rfl 1 rfl ?_
  refine vs_alenL hT dJ7_fill_d0a16_3 rfl ?_
  refine vs_topi (fun z1 e_z1 => ?_)
  have f_z1 : z1 = nI N := e_z1
  subst f_z1
  clear e_z1
  refine vs_istore [(4, .int (nI N)), (3, .int (0)), (0, .ref (G.2.2.2 + o)), (1, .long (v))] dJ7_fill_d0a16_4 rfl rfl rfl ?_
  refine vs_pick (L2 := [(4, .int (nI N)), (3, .int (nI 0)), (0, .ref (G.2.2.2 + o)), (1, .long (v))]) [0, 1, 2, 3] rfl ?_
  refine vs_eq (S2 := vs_la S o (nfill (S.2.2.1 o) v 0)) (by rw [nfill_0, vs_la_self]) ?_
  exact l_fillL hT hN rfl rfl N 0 (by omega)

def vs_St (o : Nat) : Prop := vs_T[o]? = some (.inr (8, [some (o + 1), none, none, none])) ∧ vs_T[o + 1]? = some (.inl (1, 60))
def cst (ln : Nat) (v : Int64) : Int64 := if ln = 0 then v.toInt32.toInt8.toInt32.toInt64 else if ln = 1 then v.toInt32.toInt16.toInt32.toInt64 else if ln = 2 then v.toInt32.toInt64 else v
theorem c_renew {G : vv_G} {S : vs_S} {o : Nat} (ht : vs_St o) {a b : Int32} : vs_C G yX8_renew cX8_renew 3 none { frames := 1, locals := 24 } [.ref (G.2.2.2 + o), .int (a), .int (b)] S none (vs_sc (vs_sc (vs_sc (vs_la S (o + 1) (nfill (S.2.2.1 (o + 1)) 0 60)) o 1 0) o 2 a) o 3 b) := by
  refine vs_of [(0, .ref (G.2.2.2 + o)), (1, .int (a)), (2, .int (b))] (by decide) rfl rfl ?_
  refine vs_aload_n 0 dX8_renew_0 rfl rfl 0 rfl ?_
  refine vs_get (v := .ref (G.2.2.2 + (o + 1))) lf_X8_9 ht.1 rfl dX8_renew_1 rfl ?_
  refine vs_lconst (v := 0) dX8_renew_4 rfl rfl ?_
  refine vs_callS (st := []) (c_fillL (N := 60) (v := 0) ht.2 (by decide)) lk_X8_26 lm_J7_fill_d0a16 rfl rfl (Nat.le_of_ble_eq_true rfl) rfl ⟨rfl, rfl⟩ dX8_renew_5 rfl ?_
  refine vs_aload_n 0 dX8_renew_8 rfl rfl 0 rfl ?_
  refine vs_iconst (v := 0) dX8_renew_9 rfl rfl ?_
  refine vs_put lf_X8_15 ht.1 rfl rfl rfl dX8_renew_10 rfl ?_
  refine vs_aload_n 0 dX8_renew_13 rfl rfl 0 rfl ?_
  refine vs_iload_n 1 dX8_renew_14 rfl rfl 1 rfl ?_
  refine vs_put lf_X8_19 ht.1 rfl rfl rfl dX8_renew_15 rfl ?_
  refine vs_aload_n 0 dX8_renew_18 rfl rfl 0 rfl ?_
  refine vs_iload_n 2 dX8_renew_19 rfl rfl 2 rfl ?_
  refine vs_put lf_X8_23 ht.1 rfl rfl rfl dX8_renew_20 rfl ?_
  exact vs_vret dX8_renew_23 rfl rfl

theorem c_hasPlaces {G : vv_G} {S : vs_S} {o : Nat} (ht : vs_St o) {sz : Nat} (hsz : S.1 o 3 = nI sz) (hsz2 : sz ≤ 60) {a b : Int32} : vs_C G yX8_hasPlaces cX8_hasPlaces 3 (some .boolean) { frames := 0, locals := 0 } [.ref (G.2.2.2 + o), .int (a), .int (b)] S (some (.int (if 0 ≤ b.toInt ∧ 0 ≤ a.toInt ∧ a.toInt + b.toInt ≤ sz then 1 else 0))) S := by
  refine vs_of [(0, .ref (G.2.2.2 + o)), (1, .int (a)), (2, .int (b))] (by decide) rfl rfl ?_
  refine vs_iload_n 2 dX8_hasPlaces_0 rfl rfl 2 rfl ?_
  refine vs_if_lt 22 dX8_hasPlaces_1 rfl rfl (fun c_1 => ?_) (fun c_1 => ?_)
  · refine vs_iconst (v := 0) dX8_hasPlaces_22 rfl rfl ?_
    exact vs_zret dX8_hasPlaces_23 (by first | exact Or.inl rfl | exact Or.inr rfl) (by
    have h0 : (0 : Int32).toInt = 0 := rfl
    have ha1 := a.le_toInt
    have ha2 := a.toInt_lt
    have hb1 := b.le_toInt
    have hb2 := b.toInt_lt
    simp only [fa_lt, h0] at *
    first
    | (rw [if_neg (by omega)]; done)
    | (rw [nZ_i (by omega) (by omega)] at c_15; first | (rw [if_neg (by omega)]; done) | (rw [if_pos (by omega)]; done))) rfl
  · refine vs_iload_n 1 dX8_hasPlaces_4 rfl rfl 1 rfl ?_
    refine vs_if_lt 22 dX8_hasPlaces_5 rfl rfl (fun c_5 => ?_) (fun c_5 => ?_)
    · refine vs_iconst (v := 0) dX8_hasPlaces_22 rfl rfl ?_
      exact vs_zret dX8_hasPlaces_23 (by first | exact Or.inl rfl | exact Or.inr rfl) (by
    have h0 : (0 : Int32).toInt = 0 := rfl
    have ha1 := a.le_toInt
    have ha2 := a.toInt_lt
    have hb1 := b.le_toInt
    have hb2 := b.toInt_lt
    simp only [fa_lt, h0] at *
    first
    | (rw [if_neg (by omega)]; done)
    | (rw [nZ_i (by omega) (by omega)] at c_15; first | (rw [if_neg (by omega)]; done) | (rw [if_pos (by omega)]; done))) rfl
    · refine vs_iload_n 1 dX8_hasPlaces_8 rfl rfl 1 rfl ?_
      refine vs_aload_n 0 dX8_hasPlaces_9 rfl rfl 0 rfl ?_
      refine vs_get (v := .int (nI sz)) lf_X8_23 ht.1 (congrArg (fun z => some (Value.int z)) hsz) dX8_hasPlaces_10 rfl ?_
      refine vs_iload_n 2 dX8_hasPlaces_13 rfl rfl 2 rfl ?_
      refine vs_isub dX8_hasPlaces_14 rfl ?_
      refine vs_topi (fun z1 e_z1 => ?_)
      have f_z1 : z1 = nZ ((sz : Int) - b.toInt) := (by rw [e_z1, nI_Z, ← nZ_of b, nZ_sub, nZ_of b])
      subst f_z1
      clear e_z1
      refine vs_icmp_gt 22 dX8_hasPlaces_15 rfl rfl (fun c_15 => ?_) (fun c_15 => ?_)
      · refine vs_iconst (v := 0) dX8_hasPlaces_22 rfl rfl ?_
        exact vs_zret dX8_hasPlaces_23 (by first | exact Or.inl rfl | exact Or.inr rfl) (by
    have h0 : (0 : Int32).toInt = 0 := rfl
    have ha1 := a.le_toInt
    have ha2 := a.toInt_lt
    have hb1 := b.le_toInt
    have hb2 := b.toInt_lt
    simp only [fa_lt, h0] at *
    first
    | (rw [if_neg (by omega)]; done)
    | (rw [nZ_i (by omega) (by omega)] at c_15; first | (rw [if_neg (by omega)]; done) | (rw [if_pos (by omega)]; done))) rfl
      · refine vs_iconst (v := 1) dX8_hasPlaces_18 rfl rfl ?_
        refine vs_goto 23 dX8_hasPlaces_19 rfl ?_
        exact vs_zret dX8_hasPlaces_23 (by first | exact Or.inl rfl | exact Or.inr rfl) (by
    have h0 : (0 : Int32).toInt = 0 := rfl
    have ha1 := a.le_toInt
    have ha2 := a.toInt_lt
    have hb1 := b.le_toInt
    have hb2 := b.toInt_lt
    simp only [fa_lt, h0] at *
    first
    | (rw [if_neg (by omega)]; done)
    | (rw [nZ_i (by omega) (by omega)] at c_15; first | (rw [if_neg (by omega)]; done) | (rw [if_pos (by omega)]; done))) rfl

theorem c_read {G : vv_G} {S : vs_S} {o : Nat} (ht : vs_St o) {k : Nat} (hk : k < 60) : vs_C G yX8_read cX8_read 2 (some .long) { frames := 0, locals := 0 } [.ref (G.2.2.2 + o), .int (nI k)] S (some (.long (S.2.2.1 (o + 1) k))) S := by
  refine vs_of [(0, .ref (G.2.2.2 + o)), (1, .int (nI k))] (by decide) rfl rfl ?_
  refine vs_iload_n 1 dX8_read_0 rfl rfl 1 rfl ?_
  refine vs_if_lt 19 dX8_read_1 rfl rfl (fun c_1 => ?_) (fun c_1 => ?_)
  · exact absurd c_1 (nI_pos (by omega))
  · refine vs_iload_n 1 dX8_read_4 rfl rfl 1 rfl ?_
    refine vs_bipush (v := 60) dX8_read_5 rfl rfl ?_
    refine vs_icmp_ge 19 dX8_read_7 rfl rfl (fun c_7 => ?_) (fun c_7 => ?_)
    · exact absurd c_7 (nI_ge (show k < 60 by omega) (by decide))
    · refine vs_aload_n 0 dX8_read_10 rfl rfl 0 rfl ?_
      refine vs_get (v := .ref (G.2.2.2 + (o + 1))) lf_X8_9 ht.1 rfl dX8_read_11 rfl ?_
      refine vs_iload_n 1 dX8_read_14 rfl rfl 1 rfl ?_
      refine vs_lald (k := k) ht.2 (by first | rfl | (simp only [fa_lit, nI_add, pk_mul, nI_1]; done) | omega) (by omega) rfl dX8_read_15 rfl ?_
      refine vs_goto 20 dX8_read_16 rfl ?_
      exact vs_lret dX8_read_20 rfl rfl

theorem c_castToLane {G : vv_G} {S : vs_S} {o : Nat} (ht : vs_St o) {ln : Nat} (hln : S.1 o 2 = nI ln) (hln2 : ln ≤ 3) {v : Int64} : vs_C G yX8_castToLane cX8_castToLane 3 (some .long) { frames := 0, locals := 0 } [.ref (G.2.2.2 + o), .long (v)] S (some (.long (cst ln v))) S := by
  refine vs_of [(0, .ref (G.2.2.2 + o)), (1, .long (v))] (by decide) rfl rfl ?_
  rcases (show ln = 0 ∨ ln = 1 ∨ ln = 2 ∨ ln = 3 by omega) with rfl | rfl | rfl | rfl
  · refine vs_aload_n 0 dX8_castToLane_0 rfl rfl 0 rfl ?_
    refine vs_get (v := .int (nI 0)) lf_X8_19 ht.1 (congrArg (fun z => some (Value.int z)) hln) dX8_castToLane_1 rfl ?_
    refine vs_tabIn 32 dX8_castToLane_4 (by decide) (by decide) rfl rfl ?_
    refine vs_lload_n 1 dX8_castToLane_32 rfl rfl 1 rfl ?_
    refine vs_l2i dX8_castToLane_33 rfl ?_
    refine vs_i2b dX8_castToLane_34 rfl ?_
    refine vs_i2l dX8_castToLane_35 rfl ?_
    exact vs_lret dX8_castToLane_36 rfl rfl
  · refine vs_aload_n 0 dX8_castToLane_0 rfl rfl 0 rfl ?_
    refine vs_get (v := .int (nI 1)) lf_X8_19 ht.1 (congrArg (fun z => some (Value.int z)) hln) dX8_castToLane_1 rfl ?_
    refine vs_tabIn 37 dX8_castToLane_4 (by decide) (by decide) rfl rfl ?_
    refine vs_lload_n 1 dX8_castToLane_37 rfl rfl 1 rfl ?_
    refine vs_l2i dX8_castToLane_38 rfl ?_
    refine vs_i2s dX8_castToLane_39 rfl ?_
    refine vs_i2l dX8_castToLane_40 rfl ?_
    exact vs_lret dX8_castToLane_41 rfl rfl
  · refine vs_aload_n 0 dX8_castToLane_0 rfl rfl 0 rfl ?_
    refine vs_get (v := .int (nI 2)) lf_X8_19 ht.1 (congrArg (fun z => some (Value.int z)) hln) dX8_castToLane_1 rfl ?_
    refine vs_tabIn 42 dX8_castToLane_4 (by decide) (by decide) rfl rfl ?_
    refine vs_lload_n 1 dX8_castToLane_42 rfl rfl 1 rfl ?_
    refine vs_l2i dX8_castToLane_43 rfl ?_
    refine vs_i2l dX8_castToLane_44 rfl ?_
    exact vs_lret dX8_castToLane_45 rfl rfl
  · refine vs_aload_n 0 dX8_castToLane_0 rfl rfl 0 rfl ?_
    refine vs_get (v := .int (nI 3)) lf_X8_19 ht.1 (congrArg (fun z => some (Value.int z)) hln) dX8_castToLane_1 rfl ?_
    refine vs_tabOut 46 dX8_castToLane_4 (by decide) rfl ?_
    refine vs_lload_n 1 dX8_castToLane_46 rfl rfl 1 rfl ?_
    exact vs_lret dX8_castToLane_47 rfl rfl

theorem c_write {G : vv_G} {S : vs_S} {o : Nat} (ht : vs_St o) {ln : Nat} (hln : S.1 o 2 = nI ln) (hln2 : ln ≤ 3) {k : Nat} (hk : k < 60) {v : Int64} : vs_C G yX8_write cX8_write 4 none { frames := 1, locals := 22 } [.ref (G.2.2.2 + o), .int (nI k), .long (v)] S none (vs_la S (o + 1) (vp_updL (S.2.2.1 (o + 1)) k (cst ln v))) := by
  refine vs_of [(0, .ref (G.2.2.2 + o)), (1, .int (nI k)), (2, .long (v))] (by decide) rfl rfl ?_
  refine vs_iload_n 1 dX8_write_0 rfl rfl 1 rfl ?_
  refine vs_if_lt 21 dX8_write_1 rfl rfl (fun c_1 => ?_) (fun c_1 => ?_)
  · exact absurd c_1 (nI_pos (by omega))
  · refine vs_iload_n 1 dX8_write_4 rfl rfl 1 rfl ?_
    refine vs_bipush (v := 60) dX8_write_5 rfl rfl ?_
    refine vs_icmp_ge 21 dX8_write_7 rfl rfl (fun c_7 => ?_) (fun c_7 => ?_)
    · exact absurd c_7 (nI_ge (show k < 60 by omega) (by decide))
    · refine vs_aload_n 0 dX8_write_10 rfl rfl 0 rfl ?_
      refine vs_get (v := .ref (G.2.2.2 + (o + 1))) lf_X8_9 ht.1 rfl dX8_write_11 rfl ?_
      refine vs_iload_n 1 dX8_write_14 rfl rfl 1 rfl ?_
      refine vs_aload_n 0 dX8_write_15 rfl rfl 0 rfl ?_
      refine vs_lload_n 2 dX8_write_16 rfl rfl 2 rfl ?_
      refine vs_callV (st := [.int (nI k), .ref (G.2.2.2 + (o + 1))]) (c_castToLane ht hln hln2 (v := v)) lk_X8_32 lm_X8_castToLane rfl ht.1 rfl rfl (Nat.le_of_ble_eq_true rfl) rfl ⟨rfl, rfl⟩ dX8_write_17 rfl ?_
      show vs_V _ _ _ _ _ (.long (cst ln v) :: _) _
      refine vs_last (k := k) ht.2 (by first | rfl | (simp only [fa_lit, nI_add, pk_mul, nI_1]; done) | omega) (by omega) rfl dX8_write_20 rfl ?_
      exact vs_vret dX8_write_21 rfl rfl

theorem l_smix {G : vv_G} {S : vs_S} {o : Nat} (ht : vs_St o) {sz ls : Nat} (hsz : S.1 o 3 = nI sz) (hsz2 : sz ≤ 60) (hls : S.1 o 1 = nI ls) {h : Int64} {r : Option Value} {Sf : vs_S} (hr : r = some (.long (mx (S.2.2.1 (o + 1)) (31 * h + (nI sz).toInt64) sz))) (hS : S = Sf) : ∀ d i : Nat, i + d = sz → vs_V G cX8_mixedInto (vs_M yX8_mixedInto 6 (some .long) { frames := 1, locals := 23 } G r Sf) 28 [(5, .int (nI i)), (3, .long (mx (S.2.2.1 (o + 1)) (31 * h + (nI sz).toInt64) i)), (0, .ref (G.2.2.2 + o)), (1, .long (h))] [] S := by
  intro d
  induction d with
  | zero =>
    intro i hi
    obtain rfl : i = sz := by omega
    refine vs_iload dX8_mixedInto_28 rfl 0 rfl ?_
    refine vs_aload_n 0 dX8_mixedInto_30 rfl rfl 2 rfl ?_
    refine vs_get (v := .int (nI i)) lf_X8_23 ht.1 (congrArg (fun z => some (Value.int z)) hsz) dX8_mixedInto_31 rfl ?_
    refine vs_icmp_ge 62 dX8_mixedInto_34 rfl rfl (fun c_34 => ?_) (fun c_34 => ?_)
    · refine vs_lload_n 3 dX8_mixedInto_62 rfl rfl 1 rfl ?_
      exact vs_lret dX8_mixedInto_63 hr hS
    · exact absurd (nI_le (Nat.le_refl _) (by omega)) c_34
  | succ d ih =>
    intro i hi
    refine vs_iload dX8_mixedInto_28 rfl 0 rfl ?_
    refine vs_aload_n 0 dX8_mixedInto_30 rfl rfl 2 rfl ?_
    refine vs_get (v := .int (nI sz)) lf_X8_23 ht.1 (congrArg (fun z => some (Value.int z)) hsz) dX8_mixedInto_31 rfl ?_
    refine vs_icmp_ge 62 dX8_mixedInto_34 rfl rfl (fun c_34 => ?_) (fun c_34 => ?_)
    · exact absurd c_34 (nI_ge (by omega) (by omega))
    · refine vs_iload dX8_mixedInto_37 rfl 0 rfl ?_
      refine vs_bipush (v := 60) dX8_mixedInto_39 rfl rfl ?_
      refine vs_icmp_ge 62 dX8_mixedInto_41 rfl rfl (fun c_41 => ?_) (fun c_41 => ?_)
      · exact absurd c_41 (nI_ge (show i < 60 by omega) (by decide))
      · refine vs_lload_n 3 dX8_mixedInto_44 rfl rfl 1 rfl ?_
        refine vs_aload_n 0 dX8_mixedInto_45 rfl rfl 2 rfl ?_
        refine vs_get (v := .ref (G.2.2.2 + (o + 1))) lf_X8_9 ht.1 rfl dX8_mixedInto_46 rfl ?_
        refine vs_iload dX8_mixedInto_49 rfl 0 rfl ?_
        refine vs_lald (k := i) ht.2 (by first | rfl | (simp only [fa_lit, nI_add, pk_mul, nI_1]; done) | omega) (by omega) rfl dX8_mixedInto_51 rfl ?_
        refine vs_topl (fun z1 e_z1 => ?_)
        have f_z1 : z1 = S.2.2.1 (o + 1) i := e_z1
        subst f_z1
        clear e_z1
        refine vs_callS (st := []) (c_mixed (h := mx (S.2.2.1 (o + 1)) (31 * h + (nI sz).toInt64) i) (v := S.2.2.1 (o + 1) i)) lk_X8_38 lm_X9_mixed rfl rfl (Nat.le_of_ble_eq_true rfl) rfl ⟨rfl, rfl⟩ dX8_mixedInto_52 rfl ?_
        show vs_V _ _ _ _ _ (.long (31 * mx (S.2.2.1 (o + 1)) (31 * h + (nI sz).toInt64) i + S.2.2.1 (o + 1) i) :: _) _
        refine vs_topl (fun x2 e_x2 => ?_)
        refine vs_lstore_n 3 [(3, .long (x2)), (5, .int (nI i)), (0, .ref (G.2.2.2 + o)), (1, .long (h))] dX8_mixedInto_55 rfl rfl rfl rfl ?_
        refine vs_iinc (v := nI (i + 1)) [(5, .int (nI (i + 1))), (3, .long (x2)), (0, .ref (G.2.2.2 + o)), (1, .long (h))] dX8_mixedInto_56 rfl 1 rfl (by first | exact nI_1 _ | (simp only [fa_lit, nI_add, pk_mul, nI_1]; rfl)) rfl rfl ?_
        refine vs_goto 28 dX8_mixedInto_59 rfl ?_
        subst e_x2
        refine vs_pick [0, 1, 2, 3] rfl ?_
        exact ih (i + 1) (by omega)

theorem c_smixedInto {G : vv_G} {S : vs_S} {o : Nat} (ht : vs_St o) {sz ls : Nat} (hsz : S.1 o 3 = nI sz) (hsz2 : sz ≤ 60) (hls : S.1 o 1 = nI ls) (hls2 : ls ≤ 1) {h : Int64} : vs_C G yX8_mixedInto cX8_mixedInto 6 (some .long) { frames := 1, locals := 23 } [.ref (G.2.2.2 + o), .long (h)] S (some (.long (if ls = 0 then mx (S.2.2.1 (o + 1)) (31 * h + (nI sz).toInt64) sz else 31 * h + (-1)))) S := by
  refine vs_of [(0, .ref (G.2.2.2 + o)), (1, .long (h))] (by decide) rfl rfl ?_
  refine vs_aload_n 0 dX8_mixedInto_0 rfl rfl 0 rfl ?_
  refine vs_get (v := .int (nI ls)) lf_X8_15 ht.1 (congrArg (fun z => some (Value.int z)) hls) dX8_mixedInto_1 rfl ?_
  refine vs_if_eq 15 dX8_mixedInto_4 rfl rfl (fun c_4 => ?_) (fun c_4 => ?_)
  · have hl0 : ls = 0 := (nI_n0 (by omega)).mp c_4
    refine vs_lload_n 1 dX8_mixedInto_15 rfl rfl 1 rfl ?_
    refine vs_aload_n 0 dX8_mixedInto_16 rfl rfl 0 rfl ?_
    refine vs_get (v := .int (nI sz)) lf_X8_23 ht.1 (congrArg (fun z => some (Value.int z)) hsz) dX8_mixedInto_17 rfl ?_
    refine vs_i2l dX8_mixedInto_20 rfl ?_
    refine vs_callS (st := []) (c_mixed (h := h) (v := (nI sz).toInt64)) lk_X8_38 lm_X9_mixed rfl rfl (Nat.le_of_ble_eq_true rfl) rfl ⟨rfl, rfl⟩ dX8_mixedInto_21 rfl ?_
    show vs_V _ _ _ _ _ (.long (31 * h + (nI sz).toInt64) :: _) _
    refine vs_topl (fun x1 e_x1 => ?_)
    refine vs_lstore_n 3 [(3, .long (x1)), (0, .ref (G.2.2.2 + o)), (1, .long (h))] dX8_mixedInto_24 rfl rfl rfl rfl ?_
    refine vs_iconst (v := 0) dX8_mixedInto_25 rfl rfl ?_
    refine vs_istore [(5, .int (0)), (3, .long (x1)), (0, .ref (G.2.2.2 + o)), (1, .long (h))] dX8_mixedInto_26 rfl rfl rfl ?_
    subst e_x1
    refine vs_pick (L2 := [(5, .int (nI 0)), (3, .long (31 * h + (nI sz).toInt64)), (0, .ref (G.2.2.2 + o)), (1, .long (h))]) [0, 1, 2, 3] rfl ?_
    exact l_smix ht hsz hsz2 hls (by rw [if_pos hl0]) rfl sz 0 (by omega)
  · have hl0 : ¬ ls = 0 := fun e => c_4 (by rw [e]; rfl)
    refine vs_lload_n 1 dX8_mixedInto_7 rfl rfl 1 rfl ?_
    refine vs_ldc2 lc_X8_36 dX8_mixedInto_8 rfl ?_
    refine vs_callS (st := []) (c_mixed (h := h) (v := -1)) lk_X8_38 lm_X9_mixed rfl rfl (Nat.le_of_ble_eq_true rfl) rfl ⟨rfl, rfl⟩ dX8_mixedInto_11 rfl ?_
    show vs_V _ _ _ _ _ (.long (31 * h + (-1)) :: _) _
    exact vs_lret dX8_mixedInto_14 (by rw [if_neg hl0]) rfl

def vs_Sh (o : Nat) : Prop := vs_T[o]? = some (.inr (7, [some (o + 1), some (o + 3)])) ∧ vs_P (o + 1) ∧ vs_P (o + 3)
theorem c_becomeZero {G : vv_G} {S : vs_S} {o : Nat} {a b : Nat → Nat} (hs : vs_Sh o) (ha : pR S (o + 1) a) (hb : pR S (o + 3) b) : vs_C G yX7_becomeZero cX7_becomeZero 1 none { frames := 2, locals := 44 } [.ref (G.2.2.2 + o)] S none (vs_ia (vs_ia S (o + 1 + 1) (nA (pcon 0))) (o + 3 + 1) (nA (pcon 1))) := by
  refine vs_of [(0, .ref (G.2.2.2 + o))] (by decide) rfl rfl ?_
  refine vs_aload_n 0 dX7_becomeZero_0 rfl rfl 0 rfl ?_
  refine vs_get (v := .ref (G.2.2.2 + (o + 1))) lf_X7_10 hs.1 rfl dX7_becomeZero_1 rfl ?_
  refine vs_iconst (v := 0) dX7_becomeZero_4 rfl rfl ?_
  refine vs_callV (st := []) (c_becomeNumber hs.2.1 ha (x := 0)) lk_X7_19 lm_X3_becomeNumber rfl hs.2.1.1 rfl rfl (Nat.le_of_ble_eq_true rfl) rfl ⟨rfl, rfl⟩ dX7_becomeZero_5 rfl ?_
  refine vs_aload_n 0 dX7_becomeZero_8 rfl rfl 0 rfl ?_
  refine vs_get (v := .ref (G.2.2.2 + (o + 3))) lf_X7_16 hs.1 rfl dX7_becomeZero_9 rfl ?_
  refine vs_iconst (v := 1) dX7_becomeZero_12 rfl rfl ?_
  refine vs_callV (st := []) (c_becomeNumber hs.2.2 (⟨(vs_ia_ne (by omega)).trans hb.1, hb.2⟩ : pR _ _ b) (x := 1)) lk_X7_19 lm_X3_becomeNumber rfl hs.2.2.1 rfl rfl (Nat.le_of_ble_eq_true rfl) rfl ⟨rfl, rfl⟩ dX7_becomeZero_13 rfl ?_
  exact vs_vret dX7_becomeZero_16 rfl rfl

theorem c_sbecome {G : vv_G} {S : vs_S} {o : Nat} {a b : Nat → Nat} (hs : vs_Sh o) (ha : pR S (o + 1) a) (hb : pR S (o + 3) b) {p : Nat} {a2 b2 : Nat → Nat} (hq : vs_Sh p) (ha2 : pR S (p + 1) a2) (hb2 : pR S (p + 3) b2) (hne : o + 3 < p ∨ p + 3 < o) : vs_C G yX7_become cX7_become 2 none { frames := 2, locals := 61 } [.ref (G.2.2.2 + o), .ref (G.2.2.2 + p)] S none (vs_ia (vs_ia S (o + 1 + 1) (nA a2)) (o + 3 + 1) (nA b2)) := by
  refine vs_of [(0, .ref (G.2.2.2 + o)), (1, .ref (G.2.2.2 + p))] (by decide) rfl rfl ?_
  refine vs_aload_n 0 dX7_become_0 rfl rfl 0 rfl ?_
  refine vs_get (v := .ref (G.2.2.2 + (o + 1))) lf_X7_10 hs.1 rfl dX7_become_1 rfl ?_
  refine vs_aload_n 1 dX7_become_4 rfl rfl 1 rfl ?_
  refine vs_get (v := .ref (G.2.2.2 + (p + 1))) lf_X7_10 hq.1 rfl dX7_become_5 rfl ?_
  refine vs_callV (st := []) (c_become hs.2.1 ha hq.2.1 ha2) lk_X7_23 lm_X3_become rfl hs.2.1.1 rfl rfl (Nat.le_of_ble_eq_true rfl) rfl ⟨rfl, rfl⟩ dX7_become_8 rfl ?_
  refine vs_aload_n 0 dX7_become_11 rfl rfl 0 rfl ?_
  refine vs_get (v := .ref (G.2.2.2 + (o + 3))) lf_X7_16 hs.1 rfl dX7_become_12 rfl ?_
  refine vs_aload_n 1 dX7_become_15 rfl rfl 1 rfl ?_
  refine vs_get (v := .ref (G.2.2.2 + (p + 3))) lf_X7_16 hq.1 rfl dX7_become_16 rfl ?_
  refine vs_callV (st := []) (c_become hs.2.2 (⟨(vs_ia_ne (by omega)).trans hb.1, hb.2⟩ : pR _ _ b) hq.2.2 (⟨(vs_ia_ne (by omega)).trans hb2.1, hb2.2⟩ : pR _ _ b2)) lk_X7_23 lm_X3_become rfl hs.2.2.1 rfl rfl (Nat.le_of_ble_eq_true rfl) rfl ⟨rfl, rfl⟩ dX7_become_19 rfl ?_
  exact vs_vret dX7_become_22 rfl rfl

theorem c_side {G : vv_G} {S : vs_S} {o : Nat} (hs : vs_Sh o) {k : Int32} : vs_C G yX7_side cX7_side 2 (some (.object "SharesOfSeries$Polynomial")) { frames := 0, locals := 0 } [.ref (G.2.2.2 + o), .int (k)] S (some (if k = 0 then .ref (G.2.2.2 + (o + 1)) else if k = 1 then .ref (G.2.2.2 + (o + 3)) else .null)) S := by
  refine vs_of [(0, .ref (G.2.2.2 + o)), (1, .int (k))] (by decide) rfl rfl ?_
  refine vs_iload_n 1 dX7_side_0 rfl rfl 1 rfl ?_
  refine vs_if_ne 9 dX7_side_1 rfl rfl (fun c_1 => ?_) (fun c_1 => ?_)
  · refine vs_iload_n 1 dX7_side_9 rfl rfl 1 rfl ?_
    refine vs_iconst (v := 1) dX7_side_10 rfl rfl ?_
    refine vs_icmp_ne 21 dX7_side_11 rfl rfl (fun c_11 => ?_) (fun c_11 => ?_)
    · refine vs_null dX7_side_21 rfl ?_
      exact vs_aret dX7_side_22 (Or.inl rfl) (by first | (rw [if_pos c_1]; done) | (rw [if_neg c_1, if_pos c_11]; done) | (rw [if_neg c_1, if_neg c_11]; done)) rfl
    · refine vs_aload_n 0 dX7_side_14 rfl rfl 0 rfl ?_
      refine vs_get (v := .ref (G.2.2.2 + (o + 3))) lf_X7_16 hs.1 rfl dX7_side_15 rfl ?_
      refine vs_goto 22 dX7_side_18 rfl ?_
      exact vs_aret dX7_side_22 (Or.inr ⟨_, rfl⟩) (by first | (rw [if_pos c_1]; done) | (rw [if_neg c_1, if_pos c_11]; done) | (rw [if_neg c_1, if_neg c_11]; done)) rfl
  · refine vs_aload_n 0 dX7_side_4 rfl rfl 0 rfl ?_
    refine vs_get (v := .ref (G.2.2.2 + (o + 1))) lf_X7_10 hs.1 rfl dX7_side_5 rfl ?_
    exact vs_aret dX7_side_8 (Or.inr ⟨_, rfl⟩) (by first | (rw [if_pos c_1]; done) | (rw [if_neg c_1, if_pos c_11]; done) | (rw [if_neg c_1, if_neg c_11]; done)) rfl

