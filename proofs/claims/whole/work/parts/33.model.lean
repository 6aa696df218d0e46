theorem l_comes {G : vv_G} {S : vs_S} {N n : Nat} {g : Nat → Nat} (hN : N < 10) (hn : n ≤ 40) {S0 : vs_S} (mN0 : S0.1 118 7 = nI N) (hg0 : aR S0 126 (n + 1) g) {Pst : Option Value → vs_S → Prop} (K : ∀ S2 : vs_S, vs_fx S0 S2 [125] [] [] → (∀ k, k < n + 1 → S2.2.1 125 (41 * N + k) = nI (g k)) → (∀ j, j < 41 * N → S2.2.1 125 j = S0.2.1 125 j) → vs_V G cX10_comes (vs_MP yX10_comes 3 (some .int) { frames := 0, locals := 0 } G Pst) 55 [(0, .ref (G.2.2.2 + 118))] [] S2) : ∀ (d i : Nat) (S : vs_S), i + d = n + 1 → vs_fx S0 S [125] [] [] → (∀ k, k < i → S.2.1 125 (41 * N + k) = nI (g k)) → (∀ j, j < 41 * N → S.2.1 125 j = S0.2.1 125 j) → vs_V G cX10_comes (vs_MP yX10_comes 3 (some .int) { frames := 0, locals := 0 } G Pst) 24 [(2, .int (nI i)), (0, .ref (G.2.2.2 + 118)), (1, .int (nI n))] [] S := by
  intro d
  induction d with
  | zero =>
    intro i S hi F B C
    obtain rfl : i = n + 1 := by omega
    refine vs_iload_n 2 dX10_comes_24 rfl rfl 0 rfl ?_
    refine vs_iload_n 1 dX10_comes_25 rfl rfl 2 rfl ?_
    refine vs_icmp_gt 55 dX10_comes_26 rfl rfl (fun c_26 => ?_) (fun c_26 => ?_)
    · have q_26 : (((n + 1) : Nat) : Int) > ((n : Nat) : Int) := (qi_gt (nI_Z _) (nI_Z _) (by omega) (by omega) (by omega) (by omega)).mp c_26
      refine vs_pick [1] rfl ?_
      exact K S F B C
    · have q_26 : ¬ (((n + 1) : Nat) : Int) > ((n : Nat) : Int) := fun hh => c_26 ((qi_gt (nI_Z _) (nI_Z _) (by omega) (by omega) (by omega) (by omega)).mpr hh)
      omega
  | succ d ih =>
    intro i S hi F B C
    have mN : S.1 118 7 = nI N := (F.2.1 _ _ (by simp)).trans mN0
    have hg := aR.fx hg0 F (by simp)
    refine vs_iload_n 2 dX10_comes_24 rfl rfl 0 rfl ?_
    refine vs_iload_n 1 dX10_comes_25 rfl rfl 2 rfl ?_
    refine vs_icmp_gt 55 dX10_comes_26 rfl rfl (fun c_26 => ?_) (fun c_26 => ?_)
    · have q_26 : ((i : Nat) : Int) > ((n : Nat) : Int) := (qi_gt (nI_Z _) (nI_Z _) (by omega) (by omega) (by omega) (by omega)).mp c_26
      omega
    · have q_26 : ¬ ((i : Nat) : Int) > ((n : Nat) : Int) := fun hh => c_26 ((qi_gt (nI_Z _) (nI_Z _) (by omega) (by omega) (by omega) (by omega)).mpr hh)
      refine vs_aload_n 0 dX10_comes_29 rfl rfl 1 rfl ?_
      refine vs_get (v := .ref (G.2.2.2 + 125)) lf_X10_29 rfl rfl dX10_comes_30 rfl ?_
      refine vs_bipush (v := 41) dX10_comes_33 rfl rfl ?_
      refine vs_aload_n 0 dX10_comes_35 rfl rfl 1 rfl ?_
      refine vs_get (v := .int (nI N)) lf_X10_115 rfl (congrArg (fun z => some (Value.int z)) mN) dX10_comes_36 rfl ?_
      refine vs_imul dX10_comes_39 rfl ?_
      refine vs_iload_n 2 dX10_comes_40 rfl rfl 0 rfl ?_
      refine vs_iadd dX10_comes_41 rfl ?_
      refine vs_aload_n 0 dX10_comes_42 rfl rfl 1 rfl ?_
      refine vs_get (v := .ref (G.2.2.2 + 126)) lf_X10_32 rfl rfl dX10_comes_43 rfl ?_
      refine vs_iload_n 2 dX10_comes_46 rfl rfl 0 rfl ?_
      refine vs_iald (k := i) rfl rfl (by omega) rfl dX10_comes_47 rfl ?_
      refine vs_topi (fun z1 e_z1 => ?_)
      have f_z1 : z1 = nI (g i) := (by rw [e_z1]; exact hg i (by omega))
      subst f_z1
      clear e_z1
      refine vs_iast (k := (41 * N + i)) rfl (by simp only [fa_lit, nI_add, pk_mul]) (by omega) rfl dX10_comes_48 rfl ?_
      refine vs_iinc (v := nI (i + 1)) [(2, .int (nI (i + 1))), (0, .ref (G.2.2.2 + 118)), (1, .int (nI n))] dX10_comes_49 rfl 0 rfl (by first | exact nI_1 _ | (simp only [fa_lit, nI_add, pk_mul, nI_1]; rfl)) rfl rfl ?_
      refine vs_goto 24 dX10_comes_52 rfl ?_
      refine vs_pick [0, 1, 2] rfl ?_
      refine ih (i + 1) _ (by omega) (vs_fx.ia F (by simp)) (fun k hk => ?_) (fun j hj => ?_)
      · rw [vs_ia_at]
        unfold upd
        by_cases e : k = i
        · rw [if_pos (by omega), e]
        · rw [if_neg (by omega)]; exact B k (by omega)
      · rw [vs_ia_at]
        unfold upd
        rw [if_neg (by omega)]
        exact C j hj

theorem k_comes {G : vv_G} {S : vs_S} {a : aS} (hM : MSt S a) (hG : aG a) {n : Nat} (hn : n ≤ 40) {g : Nat → Nat} (hg : aR S 126 (n + 1) g) : vs_CP G yX10_comes cX10_comes 3 (some .int) { frames := 0, locals := 0 } [.ref (G.2.2.2 + 118), .int (nI n)] S (fun r S2 => r = some (.int (nZ (sp_kp a n g).1)) ∧ MSt S2 (sp_kp a n g).2 ∧ frM S S2) := by
  refine vs_ofP [(0, .ref (G.2.2.2 + 118)), (1, .int (nI n))] (by decide) rfl rfl ?_
  obtain ⟨⟨mP, mN, mH, mK0⟩, mK, mSh, mSe, ⟨mA, mB⟩, mX, mY⟩ := id hM
  obtain ⟨gP, gP2, gN, gH, gSe, gSh, gXY, gB31, gInj, gA, gB, gAz, gBz⟩ := hG
  have gP1 := gP.1
  refine vs_aload_n 0 dX10_comes_0 rfl rfl 0 rfl ?_
  refine vs_get (v := .int (nI (aN a))) lf_X10_115 rfl (congrArg (fun z => some (Value.int z)) mN) dX10_comes_1 rfl ?_
  refine vs_bipush (v := 10) dX10_comes_4 rfl rfl ?_
  refine vs_icmp_ne 12 dX10_comes_6 rfl rfl (fun c_6 => ?_) (fun c_6 => ?_)
  · have q_6 : ¬ (((aN a) : Nat) : Int) = ((10 : Nat) : Int) := fun hh => c_6 ((qi_eq (nI_Z _) (by first | exact nI_Z _ | (simp only [fa_lit, nI_add, pk_mul, nI_1]; exact nI_Z _)) (by omega) (by omega) (by omega) (by omega)).mpr hh)
    refine vs_aload_n 0 dX10_comes_12 rfl rfl 0 rfl ?_
    refine vs_get (v := .ref (G.2.2.2 + 124)) lf_X10_26 rfl rfl dX10_comes_13 rfl ?_
    refine vs_aload_n 0 dX10_comes_16 rfl rfl 0 rfl ?_
    refine vs_get (v := .int (nI (aN a))) lf_X10_115 rfl (congrArg (fun z => some (Value.int z)) mN) dX10_comes_17 rfl ?_
    refine vs_iload_n 1 dX10_comes_20 rfl rfl 1 rfl ?_
    refine vs_iast (k := (aN a)) rfl rfl (by omega) rfl dX10_comes_21 rfl ?_
    refine vs_iconst (v := 0) dX10_comes_22 rfl rfl ?_
    refine vs_istore_n 2 [(2, .int (0)), (0, .ref (G.2.2.2 + 118)), (1, .int (nI n))] dX10_comes_23 rfl rfl rfl rfl ?_
    refine vs_pick (L2 := [(2, .int (nI 0)), (0, .ref (G.2.2.2 + 118)), (1, .int (nI n))]) [0, 1, 2] rfl ?_
    have F0 : vs_fx S (vs_ia S 124 (upd (S.2.1 124) (aN a) (nI n))) [124] [] [] := vs_fx.ia vs_fx.rf (by simp)
    refine l_comes (S := S) (show aN a < 10 by omega) hn (S0 := vs_ia S 124 (upd (S.2.1 124) (aN a) (nI n))) mN (hg.fx F0 (by simp)) (fun S2 F B C => ?_) (n + 1) 0 _ (by omega) vs_fx.rf (fun k hk => absurd hk (by omega)) (fun _ _ => rfl)
    have mN2 : S2.1 118 7 = nI (aN a) := (F.2.1 _ _ (by simp)).trans mN
    have F3 : vs_fx S (vs_sc S2 118 7 (nI (aN a + 1))) [124, 125] [(118, 7)] [] := vs_fx.sc (vs_fx.tr (vs_fx.tr vs_fx.rf F0 (by simp) (by simp) (by simp)) F (by simp) (by simp) (by simp)) (by simp)
    refine vs_aload_n 0 dX10_comes_55 rfl rfl 0 rfl ?_
    refine vs_dup dX10_comes_56 rfl rfl ?_
    refine vs_get (v := .int (nI (aN a))) lf_X10_115 rfl (congrArg (fun z => some (Value.int z)) mN2) dX10_comes_57 rfl ?_
    refine vs_iconst (v := 1) dX10_comes_60 rfl rfl ?_
    refine vs_iadd dX10_comes_61 rfl ?_
    refine vs_topi (fun z1 e_z1 => ?_)
    have f_z1 : z1 = nI (aN a + 1) := (by rw [e_z1]; exact nI_1 _)
    subst f_z1
    clear e_z1
    refine vs_put lf_X10_115 rfl rfl rfl rfl dX10_comes_62 rfl ?_
    refine vs_aload_n 0 dX10_comes_65 rfl rfl 0 rfl ?_
    refine vs_get (v := .int (nI (aN a + 1))) lf_X10_115 rfl (congrArg (fun z => some (Value.int z)) vs_sc_at) dX10_comes_66 rfl ?_
    refine vs_iconst (v := 1) dX10_comes_69 rfl rfl ?_
    refine vs_isub dX10_comes_70 rfl ?_
    refine vs_topi (fun z2 e_z2 => ?_)
    have f_z2 : z2 = nI (aN a) := (by rw [e_z2]; exact nI_pred _)
    subst f_z2
    clear e_z2
    exact vs_iretP dX10_comes_71 (mpost (v := (aN a : Int)) (a' := s_se a n g) (if_neg (by omega)) (by rw [nZ_n]) (MSt.se hM F3 (by omega) vs_sc_at (by rw [vs_sc_2, F.1 124 (by simp), vs_ia_at]) (fun k hk => B k (by omega)) (fun j hj => (C j hj).trans (by rw [vs_ia_ne (by omega)])) (fun f hf => (gSe f hf).1) (by simp) (by simp) (by simp)) (F3.M (by simp) (by simp) (by simp)))
  · have q_6 : (((aN a) : Nat) : Int) = ((10 : Nat) : Int) := (qi_eq (nI_Z _) (by first | exact nI_Z _ | (simp only [fa_lit, nI_add, pk_mul, nI_1]; exact nI_Z _)) (by omega) (by omega) (by omega) (by omega)).mp c_6
    refine vs_bipush (v := -104) dX10_comes_9 rfl rfl ?_
    exact vs_iretP dX10_comes_11 (mpost (v := -104) (a' := a) (if_pos (by omega)) rfl hM frM.rf)

theorem l_mseries {G : vv_G} {S : vs_S} {a : aS} {k b n : Nat} (hk : k < 4) (hb : b + n + 1 ≤ 60) (hn : n ≤ 40) (gP1 : 2 ≤ aP a) (gP2 : aP a ≤ 30011) {S0 : vs_S} (mP0 : S0.1 118 2 = nI (aP a)) (R30 : lR S0 122 (60 * k) 60 (aW a k)) {Pst : Option Value → vs_S → Prop} (K : ∀ S2 : vs_S, vs_fx S0 S2 [126] [] [] → aR S2 126 (n + 1) ((fun j => nn_m (aW a k (b + j)).toInt (aP a))) → vs_V G cX10_series (vs_MP yX10_series 5 (some .int) { frames := 2, locals := 45 } G Pst) 109 [(0, .ref (G.2.2.2 + 118)), (3, .int (nI n))] [] S2) : ∀ (d i : Nat) (S : vs_S), i + d = n + 1 → vs_fx S0 S [126] [] [] → aR S 126 i ((fun j => nn_m (aW a k (b + j)).toInt (aP a))) → vs_V G cX10_series (vs_MP yX10_series 5 (some .int) { frames := 2, locals := 45 } G Pst) 72 [(4, .int (nI i)), (0, .ref (G.2.2.2 + 118)), (1, .int (nI k)), (2, .int (nI b)), (3, .int (nI n))] [] S := by
  intro d
  induction d with
  | zero =>
    intro i S hi F A1
    obtain rfl : i = n + 1 := by omega
    have mP : S.1 118 2 = nI (aP a) := (F.2.1 _ _ (by simp <;> omega)).trans mP0
    have R3 : lR S 122 (60 * k) 60 (aW a k) := lR.fx R30 F (by simp <;> omega)
    refine vs_iload dX10_series_72 rfl 0 rfl ?_
    refine vs_iload_n 3 dX10_series_74 rfl rfl 4 rfl ?_
    refine vs_icmp_gt 109 dX10_series_75 rfl rfl (fun c_75 => ?_) (fun c_75 => ?_)
    · have q_75 : (((n + 1) : Nat) : Int) > ((n : Nat) : Int) := (qi_gt (nI_Z _) (nI_Z _) (by omega) (by omega) (by omega) (by omega)).mp c_75
      refine vs_pick (L2 := [(0, .ref (G.2.2.2 + 118)), (3, .int (nI n))]) [1, 4] rfl ?_
      exact K S F A1
    · have q_75 : ¬ (((n + 1) : Nat) : Int) > ((n : Nat) : Int) := fun hh => c_75 ((qi_gt (nI_Z _) (nI_Z _) (by omega) (by omega) (by omega) (by omega)).mpr hh)
      omega
  | succ d ih =>
    intro i S hi F A1
    have mP : S.1 118 2 = nI (aP a) := (F.2.1 _ _ (by simp <;> omega)).trans mP0
    have R3 : lR S 122 (60 * k) 60 (aW a k) := lR.fx R30 F (by simp <;> omega)
    refine vs_iload dX10_series_72 rfl 0 rfl ?_
    refine vs_iload_n 3 dX10_series_74 rfl rfl 4 rfl ?_
    refine vs_icmp_gt 109 dX10_series_75 rfl rfl (fun c_75 => ?_) (fun c_75 => ?_)
    · have q_75 : ((i : Nat) : Int) > ((n : Nat) : Int) := (qi_gt (nI_Z _) (nI_Z _) (by omega) (by omega) (by omega) (by omega)).mp c_75
      omega
    · have q_75 : ¬ ((i : Nat) : Int) > ((n : Nat) : Int) := fun hh => c_75 ((qi_gt (nI_Z _) (nI_Z _) (by omega) (by omega) (by omega) (by omega)).mpr hh)
      refine vs_aload_n 0 dX10_series_78 rfl rfl 1 rfl ?_
      refine vs_get (v := .ref (G.2.2.2 + 126)) lf_X10_32 rfl rfl dX10_series_79 rfl ?_
      refine vs_iload dX10_series_82 rfl 0 rfl ?_
      refine vs_aload_n 0 dX10_series_84 rfl rfl 1 rfl ?_
      refine vs_aload_n 0 dX10_series_85 rfl rfl 1 rfl ?_
      refine vs_get (v := .ref (G.2.2.2 + 122)) lf_X10_19 rfl rfl dX10_series_86 rfl ?_
      refine vs_bipush (v := 60) dX10_series_89 rfl rfl ?_
      refine vs_iload_n 1 dX10_series_91 rfl rfl 2 rfl ?_
      refine vs_imul dX10_series_92 rfl ?_
      refine vs_iload_n 2 dX10_series_93 rfl rfl 3 rfl ?_
      refine vs_iadd dX10_series_94 rfl ?_
      refine vs_iload dX10_series_95 rfl 0 rfl ?_
      refine vs_iadd dX10_series_97 rfl ?_
      refine vs_lald (k := (60 * k + (b + i))) rfl (by simp only [fa_lit, nI_add, pk_mul, Nat.add_assoc]) (by omega) rfl dX10_series_98 rfl ?_
      refine vs_topl (fun z1 e_z1 => ?_)
      have f_z1 : z1 = aW a k (b + i) := (by rw [e_z1]; exact R3 _ (by omega))
      subst f_z1
      clear e_z1
      refine vs_callV (st := [.int (nI i), .ref (G.2.2.2 + 126)]) (c_restZ (z := (aW a k (b + i)).toInt) rfl mP gP1 gP2) lk_X10_135 lm_X10_rest rfl rfl rfl rfl (Nat.le_of_ble_eq_true rfl) rfl ⟨rfl, rfl⟩ dX10_series_99 rfl ?_
      show vs_V _ _ _ _ _ (.int (nI (nn_m (aW a k (b + i)).toInt (aP a))) :: _) _
      refine vs_iast (k := i) rfl (by first | rfl | (simp only [fa_lit, nI_add, pk_mul, nI_1]; done) | omega) (by omega) rfl dX10_series_102 rfl ?_
      refine vs_gen (fun T1 e_T1 => ?_)
      have mP : T1.1 118 2 = nI (aP a) := by rw [e_T1]; repeat (first | exact mP | rw [vs_ia_ne (by omega)] | rw [vs_ia_1] | rw [vs_sc_ne (by omega)] | rw [vs_sc_nf (by omega)])
      have R3 : lR T1 122 (60 * k) 60 (aW a k) := by rw [e_T1]; exact R3
      have F : vs_fx S0 T1 [126] [] [] := by rw [e_T1]; repeat (first | exact F | refine vs_fx.ia ?_ (by simp <;> omega) | refine vs_fx.sc ?_ (by simp <;> omega) | refine vs_fx.la ?_ (by simp <;> omega))
      have A1 : aR T1 126 (i + 1) ((fun j => nn_m (aW a k (b + j)).toInt (aP a))) := (by rw [e_T1]; exact aR.push A1)
      clear e_T1
      refine vs_iinc (v := nI (i + 1)) [(4, .int (nI (i + 1))), (0, .ref (G.2.2.2 + 118)), (1, .int (nI k)), (2, .int (nI b)), (3, .int (nI n))] dX10_series_103 rfl 0 rfl (by first | exact nI_1 _ | (simp only [fa_lit, nI_add, pk_mul, nI_1]; rfl)) rfl rfl ?_
      refine vs_goto 72 dX10_series_106 rfl ?_
      refine vs_pick [0, 1, 2, 3, 4] rfl ?_
      exact ih (i + 1) _ (by omega) F A1

theorem M_series {G : vv_G} {S : vs_S} {a : aS} (hM : MSt S a) (hG : aG a) {s : Int} (hs1 : -2147483648 ≤ s) (hs2 : s < 2147483648) {b : Int} (hb1 : -2147483648 ≤ b) (hb2 : b < 2147483648) {n : Int} (hn1 : -2147483648 ≤ n) (hn2 : n < 2147483648) : vs_CP G yX10_series cX10_series 5 (some .int) { frames := 2, locals := 45 } [.ref (G.2.2.2 + 118), .int (nZ s), .int (nZ b), .int (nZ n)] S (fun r S2 => r = some (.int (nZ (sp_series a s b n).1)) ∧ MSt S2 (sp_series a s b n).2 ∧ frM S S2) := by
  refine vs_ofP [(0, .ref (G.2.2.2 + 118)), (1, .int (nZ s)), (2, .int (nZ b)), (3, .int (nZ n))] (by decide) rfl rfl ?_
  have hG0 := hG
  obtain ⟨⟨mP, mN, mH, mK0⟩, mK, mSh, mSe, ⟨mA, mB⟩, mX, mY⟩ := id hM
  obtain ⟨gP, gP2, gN, gH, gSe, gSh, gXY, gB31, gInj, gA, gB, gAz, gBz⟩ := hG
  have gP1 := gP.1
  refine vs_iload_n 1 dX10_series_0 rfl rfl 1 rfl ?_
  refine vs_callS (st := []) (c_isSheet hs1 hs2) lk_X10_126 lm_X10_isSheet rfl rfl (Nat.le_of_ble_eq_true rfl) rfl ⟨rfl, rfl⟩ dX10_series_1 rfl ?_
  show vs_V _ _ _ _ _ (.int ((if 0 ≤ s ∧ s ≤ 3 then 1 else 0)) :: _) _
  refine vs_if_ne 10 dX10_series_4 rfl rfl (fun c_4 => ?_) (fun c_4 => ?_)
  · rw [nn_is0, Classical.not_not] at c_4
    refine vs_iload_n 3 dX10_series_10 rfl rfl 3 rfl ?_
    refine vs_i2l dX10_series_11 rfl ?_
    refine vs_lconst (v := 0) dX10_series_12 rfl rfl ?_
    refine vs_ldc2 lc_X10_133 dX10_series_13 rfl ?_
    refine vs_callS (st := []) (c_inZ (z := n) (x := 0) (y := 40) (by rw [nn_i2l, nZ_i hn1 hn2]) rfl rfl) lk_X10_107 lm_X10_in rfl rfl (Nat.le_of_ble_eq_true rfl) rfl ⟨rfl, rfl⟩ dX10_series_16 rfl ?_
    show vs_V _ _ _ _ _ (.int ((if 0 ≤ n ∧ n ≤ 40 then 1 else 0)) :: _) _
    refine vs_if_ne 25 dX10_series_19 rfl rfl (fun c_19 => ?_) (fun c_19 => ?_)
    · rw [nn_is0, Classical.not_not] at c_19
      skip
      · obtain ⟨k, rfl⟩ : ∃ z0 : Nat, s = z0 := ⟨s.toNat, by omega⟩
        rw [nZ_n k]
        have hk : k < 4 := by omega
        obtain ⟨k1, k2, k3⟩ := mSh k hk
        obtain ⟨k5, k6, k7⟩ := gSh k hk
        by_cases lok : aLo a k = 0
        · have lnk : S.2.1 120 k = nI (aLn a k) := by rw [k1]; exact if_pos lok
          refine vs_aload_n 0 dX10_series_25 rfl rfl 0 rfl ?_
          refine vs_get (v := .ref (G.2.2.2 + 120)) lf_X10_13 rfl rfl dX10_series_26 rfl ?_
          refine vs_iload_n 1 dX10_series_29 rfl rfl 1 rfl ?_
          refine vs_iald (k := k) rfl rfl (by omega) rfl dX10_series_30 rfl ?_
          refine vs_topi (fun z1 e_z1 => ?_)
          have f_z1 : z1 = nI (aLn a k) := (by rw [e_z1]; exact lnk)
          subst f_z1
          clear e_z1
          refine vs_iconst (v := -1) dX10_series_31 rfl rfl ?_
          refine vs_icmp_ne 41 dX10_series_32 rfl rfl (fun c_32 => ?_) (fun c_32 => ?_)
          · have q_32 : ¬ (((aLn a k) : Nat) : Int) = (-1 : Int) := fun hh => c_32 ((qi_eq (nI_Z _) rfl (by omega) (by omega) (by omega) (by omega)).mpr hh)
            refine vs_iload_n 2 dX10_series_41 rfl rfl 2 rfl ?_
            refine vs_if_lt 63 dX10_series_42 rfl rfl (fun c_42 => ?_) (fun c_42 => ?_)
            · have q_42 : (b : Int) < ((0 : Nat) : Int) := (qi_lt rfl (by first | exact nI_Z _ | (simp only [fa_lit, nI_add, pk_mul, nI_1]; exact nI_Z _)) (by omega) (by omega) (by omega) (by omega)).mp c_42
              refine vs_aload_n 0 dX10_series_63 rfl rfl 0 rfl ?_
              refine vs_iconst (v := 2) dX10_series_64 rfl rfl ?_
              refine vs_callV (st := []) (c_meets (c := 2) (by decide) (by decide)) lk_X10_129 lm_X10_meets rfl rfl rfl rfl (Nat.le_of_ble_eq_true rfl) rfl ⟨rfl, rfl⟩ dX10_series_65 rfl ?_
              show vs_V _ _ _ _ _ (.int (nZ (-10 - ((2 : Nat) : Int))) :: _) _
              exact vs_iretP dX10_series_68 (mpost (v := -10 - ((2 : Nat) : Int)) (a' := s_cs a 2) (by unfold sp_series; (try simp only [Int.toNat_natCast]); (repeat (first | rw [if_pos (by omega)] | rw [if_pos trivial] | rw [if_neg (by omega)])); rfl) rfl (k_meets hM (by decide) (by decide)).1 (k_meets hM (by decide) (by decide)).2)
            · have q_42 : ¬ (b : Int) < ((0 : Nat) : Int) := fun hh => c_42 ((qi_lt rfl (by first | exact nI_Z _ | (simp only [fa_lit, nI_add, pk_mul, nI_1]; exact nI_Z _)) (by omega) (by omega) (by omega) (by omega)).mpr hh)
              refine vs_iload_n 2 dX10_series_45 rfl rfl 2 rfl ?_
              refine vs_i2l dX10_series_46 rfl ?_
              refine vs_iload_n 3 dX10_series_47 rfl rfl 3 rfl ?_
              refine vs_i2l dX10_series_48 rfl ?_
              refine vs_ladd dX10_series_49 rfl ?_
              refine vs_lconst (v := 1) dX10_series_50 rfl rfl ?_
              refine vs_ladd dX10_series_51 rfl ?_
              refine vs_aload_n 0 dX10_series_52 rfl rfl 0 rfl ?_
              refine vs_get (v := .ref (G.2.2.2 + 121)) lf_X10_16 rfl rfl dX10_series_53 rfl ?_
              refine vs_iload_n 1 dX10_series_56 rfl rfl 1 rfl ?_
              refine vs_iald (k := k) rfl rfl (by omega) rfl dX10_series_57 rfl ?_
              refine vs_topi (fun z2 e_z2 => ?_)
              have f_z2 : z2 = nI (aSz a k) := (by rw [e_z2]; exact k2)
              subst f_z2
              clear e_z2
              refine vs_i2l dX10_series_58 rfl ?_
              refine vs_lcmp dX10_series_59 rfl ?_
              refine vs_topi (fun z3 e_z3 => ?_)
              have f_z3 : z3 = nZ (zcmp (b + n + 1) (aSz a k)) := (by rw [e_z3, lg_z, nn_l3 (by omega) (by omega) (by omega) (by omega), nn_i2l, nI_i (by omega)])
              subst f_z3
              clear e_z3
              refine vs_if_le 69 dX10_series_60 rfl rfl (fun c_60 => ?_) (fun c_60 => ?_)
              · have q_60 : ((zcmp (b + n + 1) (aSz a k)) : Int) ≤ ((0 : Nat) : Int) := (qi_le rfl (by first | exact nI_Z _ | (simp only [fa_lit, nI_add, pk_mul, nI_1]; exact nI_Z _)) (by have := zcmp_b (b + n + 1) (aSz a k); omega) (by have := zcmp_b (b + n + 1) (aSz a k); omega) (by decide) (by decide)).mp c_60
                have hq1 := zcmp_le.mp q_60
                skip
                · obtain ⟨b, rfl⟩ : ∃ z0 : Nat, b = z0 := ⟨b.toNat, by omega⟩
                  obtain ⟨n, rfl⟩ : ∃ z0 : Nat, n = z0 := ⟨n.toNat, by omega⟩
                  rw [nZ_n b, nZ_n n]
                  refine vs_iconst (v := 0) dX10_series_69 rfl rfl ?_
                  refine vs_istore [(4, .int (0)), (0, .ref (G.2.2.2 + 118)), (1, .int (nI k)), (2, .int (nI b)), (3, .int (nI n))] dX10_series_70 rfl rfl rfl ?_
                  refine vs_pick (L2 := [(4, .int (nI 0)), (0, .ref (G.2.2.2 + 118)), (1, .int (nI k)), (2, .int (nI b)), (3, .int (nI n))]) [0, 1, 2, 3, 4] rfl ?_
                  refine l_mseries (S := S) (a := a) (k := k) (b := b) (n := n) hk (by omega) (by omega) gP1 gP2 (S0 := S) mP k3 (fun S2 F A1 => ?_) (n + 1) 0 S (by omega) vs_fx.rf aR_0
                  have hM1 : MSt S2 a := MSt.sr hM F (by simp [mcr]) (by simp) (by simp)
                  have hf1 : frM S S2 := F.M (by simp) (by simp) (by simp)
                  have hcm : aR S2 126 (n + 1) (rdk (aW a k) (aP a) b (n + 1)) := A1.c (fun j hj => (if_pos hj).symm)
                  refine vs_aload_n 0 dX10_series_109 rfl rfl 0 rfl ?_
                  refine vs_iload_n 3 dX10_series_110 rfl rfl 1 rfl ?_
                  refine vs_callVP (st := []) (k_comes hM1 hG0 (n := n) (by omega) (g := (rdk (aW a k) (aP a) b (n + 1))) hcm) lk_X10_139 lm_X10_comes rfl rfl rfl rfl (Nat.le_of_ble_eq_true rfl) rfl ⟨rfl, rfl⟩ dX10_series_111 rfl (fun rr S1 hh => ?_)
                  obtain ⟨rfl, hM2, hf2⟩ := hh
                  show vs_V _ _ _ _ _ (.int (nZ ((sp_kp a n ((rdk (aW a k) (aP a) b (n + 1)))).1)) :: _) _
                  exact vs_iretP dX10_series_114 (by rw [show sp_series a k b n = sp_kp a n ((rdk (aW a k) (aP a) b (n + 1))) from (by unfold sp_series; (try simp only [Int.toNat_natCast]); repeat (first | rw [if_pos (by omega)] | rw [if_pos trivial] | rw [if_neg (by omega)]))]; exact ⟨rfl, hM2, hf1.tr hf2⟩)
              · have q_60 : ¬ ((zcmp (b + n + 1) (aSz a k)) : Int) ≤ ((0 : Nat) : Int) := fun hh => c_60 ((qi_le rfl (by first | exact nI_Z _ | (simp only [fa_lit, nI_add, pk_mul, nI_1]; exact nI_Z _)) (by have := zcmp_b (b + n + 1) (aSz a k); omega) (by have := zcmp_b (b + n + 1) (aSz a k); omega) (by decide) (by decide)).mpr hh)
                have hq1 : ¬ b + n + 1 ≤ (aSz a k : Int) := fun e => q_60 (zcmp_le.mpr e)
                refine vs_aload_n 0 dX10_series_63 rfl rfl 0 rfl ?_
                refine vs_iconst (v := 2) dX10_series_64 rfl rfl ?_
                refine vs_callV (st := []) (c_meets (c := 2) (by decide) (by decide)) lk_X10_129 lm_X10_meets rfl rfl rfl rfl (Nat.le_of_ble_eq_true rfl) rfl ⟨rfl, rfl⟩ dX10_series_65 rfl ?_
                show vs_V _ _ _ _ _ (.int (nZ (-10 - ((2 : Nat) : Int))) :: _) _
                exact vs_iretP dX10_series_68 (mpost (v := -10 - ((2 : Nat) : Int)) (a' := s_cs a 2) (by unfold sp_series; (try simp only [Int.toNat_natCast]); (repeat (first | rw [if_pos (by omega)] | rw [if_pos trivial] | rw [if_neg (by omega)])); rfl) rfl (k_meets hM (by decide) (by decide)).1 (k_meets hM (by decide) (by decide)).2)
          · have q_32 : (((aLn a k) : Nat) : Int) = (-1 : Int) := (qi_eq (nI_Z _) rfl (by omega) (by omega) (by omega) (by omega)).mp c_32
            omega
        · have lnk : S.2.1 120 k = nZ (-1) := by rw [k1]; exact if_neg lok
          refine vs_aload_n 0 dX10_series_25 rfl rfl 0 rfl ?_
          refine vs_get (v := .ref (G.2.2.2 + 120)) lf_X10_13 rfl rfl dX10_series_26 rfl ?_
          refine vs_iload_n 1 dX10_series_29 rfl rfl 1 rfl ?_
          refine vs_iald (k := k) rfl rfl (by omega) rfl dX10_series_30 rfl ?_
          refine vs_topi (fun z4 e_z4 => ?_)
          have f_z4 : z4 = nZ (-1) := (by rw [e_z4]; exact lnk)
          subst f_z4
          clear e_z4
          refine vs_iconst (v := -1) dX10_series_31 rfl rfl ?_
          refine vs_icmp_ne 41 dX10_series_32 rfl rfl (fun c_32 => ?_) (fun c_32 => ?_)
          · have q_32 : ¬ ((-1) : Int) = (-1 : Int) := fun hh => c_32 ((qi_eq rfl rfl (by omega) (by omega) (by omega) (by omega)).mpr hh)
            omega
          · have q_32 : ((-1) : Int) = (-1 : Int) := (qi_eq rfl rfl (by omega) (by omega) (by omega) (by omega)).mp c_32
            refine vs_aload_n 0 dX10_series_35 rfl rfl 0 rfl ?_
            refine vs_iconst (v := 1) dX10_series_36 rfl rfl ?_
            refine vs_callV (st := []) (c_meets (c := 1) (by decide) (by decide)) lk_X10_129 lm_X10_meets rfl rfl rfl rfl (Nat.le_of_ble_eq_true rfl) rfl ⟨rfl, rfl⟩ dX10_series_37 rfl ?_
            show vs_V _ _ _ _ _ (.int (nZ (-10 - ((1 : Nat) : Int))) :: _) _
            exact vs_iretP dX10_series_40 (mpost (v := -10 - ((1 : Nat) : Int)) (a' := s_cs a 1) (by unfold sp_series; (try simp only [Int.toNat_natCast]); (repeat (first | rw [if_pos (by omega)] | rw [if_pos trivial] | rw [if_neg (by omega)])); rfl) rfl (k_meets hM (by decide) (by decide)).1 (k_meets hM (by decide) (by decide)).2)
    · rw [nn_is0] at c_19
      refine vs_bipush (v := -102) dX10_series_22 rfl rfl ?_
      exact vs_iretP dX10_series_24 (mpost (v := -102) (a' := a) (by unfold sp_series; (try simp only [Int.toNat_natCast]); repeat (first | rw [if_pos (by omega)] | rw [if_pos trivial] | rw [if_neg (by omega)])) rfl hM frM.rf)
  · rw [nn_is0] at c_4
    refine vs_bipush (v := -101) dX10_series_7 rfl rfl ?_
    exact vs_iretP dX10_series_9 (mpost (v := -101) (a' := a) (by unfold sp_series; (try simp only [Int.toNat_natCast]); repeat (first | rw [if_pos (by omega)] | rw [if_pos trivial] | rw [if_neg (by omega)])) rfl hM frM.rf)

theorem nn_l4 {x y z : Int} (h1 : 0 ≤ x) (h2 : x < 2147483648) (h3 : 0 ≤ y) (h4 : y < 2147483648) (h5 : 0 ≤ z) (h6 : z < 2147483648) : ((nZ x).toInt64 + (nZ y).toInt64 + (nZ z).toInt64 + 2).toInt = x + y + z + 2 := by
  rw [Int64.toInt_add, Int64.toInt_add, nn_l2 h1 h2 h3 h4, nn_i2l, nZ_i (by omega) h6, show (2 : Int64).toInt = 2 from rfl, nn_bmod (x := x + y + z) (by omega) (by omega), nn_bmod (by omega) (by omega)]
theorem l_mshare1 {G : vv_G} {S : vs_S} {a : aS} {k b l m n : Nat} (hk : k < 4) (hb : b + l + m + 2 ≤ 60) (hl : l ≤ 40) (hm : m ≤ 40) (gP1 : 2 ≤ aP a) (gP2 : aP a ≤ 30011) {S0 : vs_S} (mP0 : S0.1 118 2 = nI (aP a)) (R30 : lR S0 122 (60 * k) 60 (aW a k)) {Pst : Option Value → vs_S → Prop} (K : ∀ S2 : vs_S, vs_fx S0 S2 [127] [] [] → aR S2 127 90 (cut ((fun j => nn_m (aW a k (b + j)).toInt (aP a))) (l + 1)) → vs_V G cX10_share (vs_MP yX10_share 7 (some .int) { frames := 3, locals := 73 } G Pst) 145 [(0, .ref (G.2.2.2 + 118)), (1, .int (nI k)), (2, .int (nI b)), (3, .int (nI l)), (4, .int (nI m)), (5, .int (nI n))] [] S2) : ∀ (d i : Nat) (S : vs_S), i + d = l + 1 → vs_fx S0 S [127] [] [] → aR S 127 90 (cut ((fun j => nn_m (aW a k (b + j)).toInt (aP a))) i) → vs_V G cX10_share (vs_MP yX10_share 7 (some .int) { frames := 3, locals := 73 } G Pst) 108 [(6, .int (nI i)), (0, .ref (G.2.2.2 + 118)), (1, .int (nI k)), (2, .int (nI b)), (3, .int (nI l)), (4, .int (nI m)), (5, .int (nI n))] [] S := by
  intro d
  induction d with
  | zero =>
    intro i S hi F A1
    obtain rfl : i = l + 1 := by omega
    have mP : S.1 118 2 = nI (aP a) := (F.2.1 _ _ (by simp <;> omega)).trans mP0
    have R3 : lR S 122 (60 * k) 60 (aW a k) := lR.fx R30 F (by simp <;> omega)
    refine vs_iload dX10_share_108 rfl 0 rfl ?_
    refine vs_iload_n 3 dX10_share_110 rfl rfl 4 rfl ?_
    refine vs_icmp_gt 145 dX10_share_111 rfl rfl (fun c_111 => ?_) (fun c_111 => ?_)
    · have q_111 : (((l + 1) : Nat) : Int) > ((l : Nat) : Int) := (qi_gt (nI_Z _) (nI_Z _) (by omega) (by omega) (by omega) (by omega)).mp c_111
      refine vs_pick (L2 := [(0, .ref (G.2.2.2 + 118)), (1, .int (nI k)), (2, .int (nI b)), (3, .int (nI l)), (4, .int (nI m)), (5, .int (nI n))]) [1, 2, 3, 4, 5, 6] rfl ?_
      exact K S F A1
    · have q_111 : ¬ (((l + 1) : Nat) : Int) > ((l : Nat) : Int) := fun hh => c_111 ((qi_gt (nI_Z _) (nI_Z _) (by omega) (by omega) (by omega) (by omega)).mpr hh)
      omega
  | succ d ih =>
    intro i S hi F A1
    have mP : S.1 118 2 = nI (aP a) := (F.2.1 _ _ (by simp <;> omega)).trans mP0
    have R3 : lR S 122 (60 * k) 60 (aW a k) := lR.fx R30 F (by simp <;> omega)
    refine vs_iload dX10_share_108 rfl 0 rfl ?_
    refine vs_iload_n 3 dX10_share_110 rfl rfl 4 rfl ?_
    refine vs_icmp_gt 145 dX10_share_111 rfl rfl (fun c_111 => ?_) (fun c_111 => ?_)
    · have q_111 : ((i : Nat) : Int) > ((l : Nat) : Int) := (qi_gt (nI_Z _) (nI_Z _) (by omega) (by omega) (by omega) (by omega)).mp c_111
      omega
    · have q_111 : ¬ ((i : Nat) : Int) > ((l : Nat) : Int) := fun hh => c_111 ((qi_gt (nI_Z _) (nI_Z _) (by omega) (by omega) (by omega) (by omega)).mpr hh)
      refine vs_aload_n 0 dX10_share_114 rfl rfl 1 rfl ?_
      refine vs_get (v := .ref (G.2.2.2 + 127)) lf_X10_35 rfl rfl dX10_share_115 rfl ?_
      refine vs_iload dX10_share_118 rfl 0 rfl ?_
      refine vs_aload_n 0 dX10_share_120 rfl rfl 1 rfl ?_
      refine vs_aload_n 0 dX10_share_121 rfl rfl 1 rfl ?_
      refine vs_get (v := .ref (G.2.2.2 + 122)) lf_X10_19 rfl rfl dX10_share_122 rfl ?_
      refine vs_bipush (v := 60) dX10_share_125 rfl rfl ?_
      refine vs_iload_n 1 dX10_share_127 rfl rfl 2 rfl ?_
      refine vs_imul dX10_share_128 rfl ?_
      refine vs_iload_n 2 dX10_share_129 rfl rfl 3 rfl ?_
      refine vs_iadd dX10_share_130 rfl ?_
      refine vs_iload dX10_share_131 rfl 0 rfl ?_
      refine vs_iadd dX10_share_133 rfl ?_
      refine vs_lald (k := (60 * k + (b + i))) rfl (by simp only [fa_lit, nI_add, pk_mul, Nat.add_assoc]) (by omega) rfl dX10_share_134 rfl ?_
      refine vs_topl (fun z1 e_z1 => ?_)
      have f_z1 : z1 = aW a k (b + i) := (by rw [e_z1]; exact R3 _ (by omega))
      subst f_z1
      clear e_z1
      refine vs_callV (st := [.int (nI i), .ref (G.2.2.2 + 127)]) (c_restZ (z := (aW a k (b + i)).toInt) rfl mP gP1 gP2) lk_X10_135 lm_X10_rest rfl rfl rfl rfl (Nat.le_of_ble_eq_true rfl) rfl ⟨rfl, rfl⟩ dX10_share_135 rfl ?_
      show vs_V _ _ _ _ _ (.int (nI (nn_m (aW a k (b + i)).toInt (aP a))) :: _) _
      refine vs_iast (k := i) rfl (by first | rfl | (simp only [fa_lit, nI_add, pk_mul, nI_1]; done) | omega) (by omega) rfl dX10_share_138 rfl ?_
      refine vs_gen (fun T1 e_T1 => ?_)
      have mP : T1.1 118 2 = nI (aP a) := by rw [e_T1]; repeat (first | exact mP | rw [vs_ia_ne (by omega)] | rw [vs_ia_1] | rw [vs_sc_ne (by omega)] | rw [vs_sc_nf (by omega)])
      have R3 : lR T1 122 (60 * k) 60 (aW a k) := by rw [e_T1]; exact R3
      have F : vs_fx S0 T1 [127] [] [] := by rw [e_T1]; repeat (first | exact F | refine vs_fx.ia ?_ (by simp <;> omega) | refine vs_fx.sc ?_ (by simp <;> omega) | refine vs_fx.la ?_ (by simp <;> omega))
      have A1 : aR T1 127 90 (cut ((fun j => nn_m (aW a k (b + j)).toInt (aP a))) (i + 1)) := (by rw [e_T1, ← cut_s]; exact aR.put A1)
      clear e_T1
      refine vs_iinc (v := nI (i + 1)) [(6, .int (nI (i + 1))), (0, .ref (G.2.2.2 + 118)), (1, .int (nI k)), (2, .int (nI b)), (3, .int (nI l)), (4, .int (nI m)), (5, .int (nI n))] dX10_share_139 rfl 0 rfl (by first | exact nI_1 _ | (simp only [fa_lit, nI_add, pk_mul, nI_1]; rfl)) rfl rfl ?_
      refine vs_goto 108 dX10_share_142 rfl ?_
      refine vs_pick [0, 1, 2, 3, 4, 5, 6] rfl ?_
      exact ih (i + 1) _ (by omega) F A1

theorem l_mshare2 {G : vv_G} {S : vs_S} {a : aS} {k b l m n : Nat} (hk : k < 4) (hb : b + l + m + 2 ≤ 60) (hl : l ≤ 40) (hm : m ≤ 40) (gP1 : 2 ≤ aP a) (gP2 : aP a ≤ 30011) {S0 : vs_S} (mP0 : S0.1 118 2 = nI (aP a)) (R30 : lR S0 122 (60 * k) 60 (aW a k)) {Pst : Option Value → vs_S → Prop} (K : ∀ S2 : vs_S, vs_fx S0 S2 [128] [] [] → aR S2 128 90 (cut ((fun j => nn_m (aW a k (b + l + 1 + j)).toInt (aP a))) (m + 1)) → vs_V G cX10_share (vs_MP yX10_share 7 (some .int) { frames := 3, locals := 73 } G Pst) 190 [(0, .ref (G.2.2.2 + 118)), (1, .int (nI k)), (2, .int (nI b)), (3, .int (nI l)), (4, .int (nI m)), (5, .int (nI n))] [] S2) : ∀ (d i : Nat) (S : vs_S), i + d = m + 1 → vs_fx S0 S [128] [] [] → aR S 128 90 (cut ((fun j => nn_m (aW a k (b + l + 1 + j)).toInt (aP a))) i) → vs_V G cX10_share (vs_MP yX10_share 7 (some .int) { frames := 3, locals := 73 } G Pst) 148 [(6, .int (nI i)), (0, .ref (G.2.2.2 + 118)), (1, .int (nI k)), (2, .int (nI b)), (3, .int (nI l)), (4, .int (nI m)), (5, .int (nI n))] [] S := by
  intro d
  induction d with
  | zero =>
    intro i S hi F A1
    obtain rfl : i = m + 1 := by omega
    have mP : S.1 118 2 = nI (aP a) := (F.2.1 _ _ (by simp <;> omega)).trans mP0
    have R3 : lR S 122 (60 * k) 60 (aW a k) := lR.fx R30 F (by simp <;> omega)
    refine vs_iload dX10_share_148 rfl 0 rfl ?_
    refine vs_iload dX10_share_150 rfl 5 rfl ?_
    refine vs_icmp_gt 190 dX10_share_152 rfl rfl (fun c_152 => ?_) (fun c_152 => ?_)
    · have q_152 : (((m + 1) : Nat) : Int) > ((m : Nat) : Int) := (qi_gt (nI_Z _) (nI_Z _) (by omega) (by omega) (by omega) (by omega)).mp c_152
      refine vs_pick (L2 := [(0, .ref (G.2.2.2 + 118)), (1, .int (nI k)), (2, .int (nI b)), (3, .int (nI l)), (4, .int (nI m)), (5, .int (nI n))]) [1, 2, 3, 4, 5, 6] rfl ?_
      exact K S F A1
    · have q_152 : ¬ (((m + 1) : Nat) : Int) > ((m : Nat) : Int) := fun hh => c_152 ((qi_gt (nI_Z _) (nI_Z _) (by omega) (by omega) (by omega) (by omega)).mpr hh)
      omega
  | succ d ih =>
    intro i S hi F A1
    have mP : S.1 118 2 = nI (aP a) := (F.2.1 _ _ (by simp <;> omega)).trans mP0
    have R3 : lR S 122 (60 * k) 60 (aW a k) := lR.fx R30 F (by simp <;> omega)
    refine vs_iload dX10_share_148 rfl 0 rfl ?_
    refine vs_iload dX10_share_150 rfl 5 rfl ?_
    refine vs_icmp_gt 190 dX10_share_152 rfl rfl (fun c_152 => ?_) (fun c_152 => ?_)
    · have q_152 : ((i : Nat) : Int) > ((m : Nat) : Int) := (qi_gt (nI_Z _) (nI_Z _) (by omega) (by omega) (by omega) (by omega)).mp c_152
      omega
    · have q_152 : ¬ ((i : Nat) : Int) > ((m : Nat) : Int) := fun hh => c_152 ((qi_gt (nI_Z _) (nI_Z _) (by omega) (by omega) (by omega) (by omega)).mpr hh)
      refine vs_aload_n 0 dX10_share_155 rfl rfl 1 rfl ?_
      refine vs_get (v := .ref (G.2.2.2 + 128)) lf_X10_38 rfl rfl dX10_share_156 rfl ?_
      refine vs_iload dX10_share_159 rfl 0 rfl ?_
      refine vs_aload_n 0 dX10_share_161 rfl rfl 1 rfl ?_
      refine vs_aload_n 0 dX10_share_162 rfl rfl 1 rfl ?_
      refine vs_get (v := .ref (G.2.2.2 + 122)) lf_X10_19 rfl rfl dX10_share_163 rfl ?_
      refine vs_bipush (v := 60) dX10_share_166 rfl rfl ?_
      refine vs_iload_n 1 dX10_share_168 rfl rfl 2 rfl ?_
      refine vs_imul dX10_share_169 rfl ?_
      refine vs_iload_n 2 dX10_share_170 rfl rfl 3 rfl ?_
      refine vs_iadd dX10_share_171 rfl ?_
      refine vs_iload_n 3 dX10_share_172 rfl rfl 4 rfl ?_
      refine vs_iadd dX10_share_173 rfl ?_
      refine vs_iconst (v := 1) dX10_share_174 rfl rfl ?_
      refine vs_iadd dX10_share_175 rfl ?_
      refine vs_iload dX10_share_176 rfl 0 rfl ?_
      refine vs_iadd dX10_share_178 rfl ?_
      refine vs_lald (k := (60 * k + (b + l + 1 + i))) rfl (by simp only [fa_lit, nI_add, pk_mul, Nat.add_assoc]) (by omega) rfl dX10_share_179 rfl ?_
      refine vs_topl (fun z1 e_z1 => ?_)
      have f_z1 : z1 = aW a k (b + l + 1 + i) := (by rw [e_z1]; exact R3 _ (by omega))
      subst f_z1
      clear e_z1
      refine vs_callV (st := [.int (nI i), .ref (G.2.2.2 + 128)]) (c_restZ (z := (aW a k (b + l + 1 + i)).toInt) rfl mP gP1 gP2) lk_X10_135 lm_X10_rest rfl rfl rfl rfl (Nat.le_of_ble_eq_true rfl) rfl ⟨rfl, rfl⟩ dX10_share_180 rfl ?_
      show vs_V _ _ _ _ _ (.int (nI (nn_m (aW a k (b + l + 1 + i)).toInt (aP a))) :: _) _
      refine vs_iast (k := i) rfl (by first | rfl | (simp only [fa_lit, nI_add, pk_mul, nI_1]; done) | omega) (by omega) rfl dX10_share_183 rfl ?_
      refine vs_gen (fun T1 e_T1 => ?_)
      have mP : T1.1 118 2 = nI (aP a) := by rw [e_T1]; repeat (first | exact mP | rw [vs_ia_ne (by omega)] | rw [vs_ia_1] | rw [vs_sc_ne (by omega)] | rw [vs_sc_nf (by omega)])
      have R3 : lR T1 122 (60 * k) 60 (aW a k) := by rw [e_T1]; exact R3
      have F : vs_fx S0 T1 [128] [] [] := by rw [e_T1]; repeat (first | exact F | refine vs_fx.ia ?_ (by simp <;> omega) | refine vs_fx.sc ?_ (by simp <;> omega) | refine vs_fx.la ?_ (by simp <;> omega))
      have A1 : aR T1 128 90 (cut ((fun j => nn_m (aW a k (b + l + 1 + j)).toInt (aP a))) (i + 1)) := (by rw [e_T1, ← cut_s]; exact aR.put A1)
      clear e_T1
      refine vs_iinc (v := nI (i + 1)) [(6, .int (nI (i + 1))), (0, .ref (G.2.2.2 + 118)), (1, .int (nI k)), (2, .int (nI b)), (3, .int (nI l)), (4, .int (nI m)), (5, .int (nI n))] dX10_share_184 rfl 0 rfl (by first | exact nI_1 _ | (simp only [fa_lit, nI_add, pk_mul, nI_1]; rfl)) rfl rfl ?_
      refine vs_goto 148 dX10_share_187 rfl ?_
      refine vs_pick [0, 1, 2, 3, 4, 5, 6] rfl ?_
      exact ih (i + 1) _ (by omega) F A1

theorem M_share {G : vv_G} {S : vs_S} {a : aS} (hM : MSt S a) (hG : aG a) {s : Int} (hs1 : -2147483648 ≤ s) (hs2 : s < 2147483648) {b : Int} (hb1 : -2147483648 ≤ b) (hb2 : b < 2147483648) {l : Int} (hl1 : -2147483648 ≤ l) (hl2 : l < 2147483648) {m : Int} (hm1 : -2147483648 ≤ m) (hm2 : m < 2147483648) {n : Int} (hn1 : -2147483648 ≤ n) (hn2 : n < 2147483648) : vs_CP G yX10_share cX10_share 7 (some .int) { frames := 3, locals := 73 } [.ref (G.2.2.2 + 118), .int (nZ s), .int (nZ b), .int (nZ l), .int (nZ m), .int (nZ n)] S (fun r S2 => r = some (.int (nZ (sp_share a s b l m n).1)) ∧ MSt S2 (sp_share a s b l m n).2 ∧ frM S S2) := by
  refine vs_ofP [(0, .ref (G.2.2.2 + 118)), (1, .int (nZ s)), (2, .int (nZ b)), (3, .int (nZ l)), (4, .int (nZ m)), (5, .int (nZ n))] (by decide) rfl rfl ?_
  have hG0 := hG
  obtain ⟨⟨mP, mN, mH, mK0⟩, mK, mSh, mSe, ⟨mA, mB⟩, mX, mY⟩ := id hM
  obtain ⟨gP, gP2, gN, gH, gSe, gSh, gXY, gB31, gInj, gA, gB, gAz, gBz⟩ := hG
  have gP1 := gP.1
  refine vs_iload_n 1 dX10_share_0 rfl rfl 1 rfl ?_
  refine vs_callS (st := []) (c_isSheet hs1 hs2) lk_X10_126 lm_X10_isSheet rfl rfl (Nat.le_of_ble_eq_true rfl) rfl ⟨rfl, rfl⟩ dX10_share_1 rfl ?_
  show vs_V _ _ _ _ _ (.int ((if 0 ≤ s ∧ s ≤ 3 then 1 else 0)) :: _) _
  refine vs_if_ne 10 dX10_share_4 rfl rfl (fun c_4 => ?_) (fun c_4 => ?_)
  · rw [nn_is0, Classical.not_not] at c_4
    refine vs_iload_n 3 dX10_share_10 rfl rfl 3 rfl ?_
    refine vs_i2l dX10_share_11 rfl ?_
    refine vs_lconst (v := 0) dX10_share_12 rfl rfl ?_
    refine vs_ldc2 lc_X10_133 dX10_share_13 rfl ?_
    refine vs_callS (st := []) (c_inZ (z := l) (x := 0) (y := 40) (by rw [nn_i2l, nZ_i hl1 hl2]) rfl rfl) lk_X10_107 lm_X10_in rfl rfl (Nat.le_of_ble_eq_true rfl) rfl ⟨rfl, rfl⟩ dX10_share_16 rfl ?_
    show vs_V _ _ _ _ _ (.int ((if 0 ≤ l ∧ l ≤ 40 then 1 else 0)) :: _) _
    refine vs_if_eq 48 dX10_share_19 rfl rfl (fun c_19 => ?_) (fun c_19 => ?_)
    · rw [nn_is0] at c_19
      refine vs_bipush (v := -102) dX10_share_48 rfl rfl ?_
      exact vs_iretP dX10_share_50 (mpost (v := -102) (a' := a) (by unfold sp_share; (try simp only [Int.toNat_natCast]); repeat (first | rw [if_pos (by omega)] | rw [if_pos trivial] | rw [if_neg (by omega)])) rfl hM frM.rf)
    · rw [nn_is0, Classical.not_not] at c_19
      refine vs_iload dX10_share_22 rfl 4 rfl ?_
      refine vs_i2l dX10_share_24 rfl ?_
      refine vs_lconst (v := 0) dX10_share_25 rfl rfl ?_
      refine vs_ldc2 lc_X10_133 dX10_share_26 rfl ?_
      refine vs_callS (st := []) (c_inZ (z := m) (x := 0) (y := 40) (by rw [nn_i2l, nZ_i hm1 hm2]) rfl rfl) lk_X10_107 lm_X10_in rfl rfl (Nat.le_of_ble_eq_true rfl) rfl ⟨rfl, rfl⟩ dX10_share_29 rfl ?_
      show vs_V _ _ _ _ _ (.int ((if 0 ≤ m ∧ m ≤ 40 then 1 else 0)) :: _) _
      refine vs_if_eq 48 dX10_share_32 rfl rfl (fun c_32 => ?_) (fun c_32 => ?_)
      · rw [nn_is0] at c_32
        refine vs_bipush (v := -102) dX10_share_48 rfl rfl ?_
        exact vs_iretP dX10_share_50 (mpost (v := -102) (a' := a) (by unfold sp_share; (try simp only [Int.toNat_natCast]); repeat (first | rw [if_pos (by omega)] | rw [if_pos trivial] | rw [if_neg (by omega)])) rfl hM frM.rf)
      · rw [nn_is0, Classical.not_not] at c_32
        refine vs_iload dX10_share_35 rfl 5 rfl ?_
        refine vs_i2l dX10_share_37 rfl ?_
        refine vs_lconst (v := 0) dX10_share_38 rfl rfl ?_
        refine vs_ldc2 lc_X10_133 dX10_share_39 rfl ?_
        refine vs_callS (st := []) (c_inZ (z := n) (x := 0) (y := 40) (by rw [nn_i2l, nZ_i hn1 hn2]) rfl rfl) lk_X10_107 lm_X10_in rfl rfl (Nat.le_of_ble_eq_true rfl) rfl ⟨rfl, rfl⟩ dX10_share_42 rfl ?_
        show vs_V _ _ _ _ _ (.int ((if 0 ≤ n ∧ n ≤ 40 then 1 else 0)) :: _) _
        refine vs_if_ne 51 dX10_share_45 rfl rfl (fun c_45 => ?_) (fun c_45 => ?_)
        · rw [nn_is0, Classical.not_not] at c_45
          skip
          · obtain ⟨k, rfl⟩ : ∃ z0 : Nat, s = z0 := ⟨s.toNat, by omega⟩
            rw [nZ_n k]
            have hk : k < 4 := by omega
            obtain ⟨k1, k2, k3⟩ := mSh k hk
            obtain ⟨k5, k6, k7⟩ := gSh k hk
            by_cases lok : aLo a k = 0
            · have lnk : S.2.1 120 k = nI (aLn a k) := by rw [k1]; exact if_pos lok
              refine vs_aload_n 0 dX10_share_51 rfl rfl 0 rfl ?_
              refine vs_get (v := .ref (G.2.2.2 + 120)) lf_X10_13 rfl rfl dX10_share_52 rfl ?_
              refine vs_iload_n 1 dX10_share_55 rfl rfl 1 rfl ?_
              refine vs_iald (k := k) rfl rfl (by omega) rfl dX10_share_56 rfl ?_
              refine vs_topi (fun z1 e_z1 => ?_)
              have f_z1 : z1 = nI (aLn a k) := (by rw [e_z1]; exact lnk)
              subst f_z1
              clear e_z1
              refine vs_iconst (v := -1) dX10_share_57 rfl rfl ?_
              refine vs_icmp_ne 67 dX10_share_58 rfl rfl (fun c_58 => ?_) (fun c_58 => ?_)
              · have q_58 : ¬ (((aLn a k) : Nat) : Int) = (-1 : Int) := fun hh => c_58 ((qi_eq (nI_Z _) rfl (by omega) (by omega) (by omega) (by omega)).mpr hh)
                refine vs_iload_n 2 dX10_share_67 rfl rfl 2 rfl ?_
                refine vs_if_lt 95 dX10_share_68 rfl rfl (fun c_68 => ?_) (fun c_68 => ?_)
                · have q_68 : (b : Int) < ((0 : Nat) : Int) := (qi_lt rfl (by first | exact nI_Z _ | (simp only [fa_lit, nI_add, pk_mul, nI_1]; exact nI_Z _)) (by omega) (by omega) (by omega) (by omega)).mp c_68
                  refine vs_aload_n 0 dX10_share_95 rfl rfl 0 rfl ?_
                  refine vs_iconst (v := 2) dX10_share_96 rfl rfl ?_
                  refine vs_callV (st := []) (c_meets (c := 2) (by decide) (by decide)) lk_X10_129 lm_X10_meets rfl rfl rfl rfl (Nat.le_of_ble_eq_true rfl) rfl ⟨rfl, rfl⟩ dX10_share_97 rfl ?_
                  show vs_V _ _ _ _ _ (.int (nZ (-10 - ((2 : Nat) : Int))) :: _) _
                  exact vs_iretP dX10_share_100 (mpost (v := -10 - ((2 : Nat) : Int)) (a' := s_cs a 2) (by unfold sp_share; (try simp only [Int.toNat_natCast]); (repeat (first | rw [if_pos (by omega)] | rw [if_pos trivial] | rw [if_neg (by omega)])); rfl) rfl (k_meets hM (by decide) (by decide)).1 (k_meets hM (by decide) (by decide)).2)
                · have q_68 : ¬ (b : Int) < ((0 : Nat) : Int) := fun hh => c_68 ((qi_lt rfl (by first | exact nI_Z _ | (simp only [fa_lit, nI_add, pk_mul, nI_1]; exact nI_Z _)) (by omega) (by omega) (by omega) (by omega)).mpr hh)
                  refine vs_iload_n 2 dX10_share_71 rfl rfl 2 rfl ?_
                  refine vs_i2l dX10_share_72 rfl ?_
                  refine vs_iload_n 3 dX10_share_73 rfl rfl 3 rfl ?_
                  refine vs_i2l dX10_share_74 rfl ?_
                  refine vs_ladd dX10_share_75 rfl ?_
                  refine vs_iload dX10_share_76 rfl 4 rfl ?_
                  refine vs_i2l dX10_share_78 rfl ?_
                  refine vs_ladd dX10_share_79 rfl ?_
                  refine vs_ldc2 lc_X10_103 dX10_share_80 rfl ?_
                  refine vs_ladd dX10_share_83 rfl ?_
                  refine vs_aload_n 0 dX10_share_84 rfl rfl 0 rfl ?_
                  refine vs_get (v := .ref (G.2.2.2 + 121)) lf_X10_16 rfl rfl dX10_share_85 rfl ?_
                  refine vs_iload_n 1 dX10_share_88 rfl rfl 1 rfl ?_
                  refine vs_iald (k := k) rfl rfl (by omega) rfl dX10_share_89 rfl ?_
                  refine vs_topi (fun z2 e_z2 => ?_)
                  have f_z2 : z2 = nI (aSz a k) := (by rw [e_z2]; exact k2)
                  subst f_z2
                  clear e_z2
                  refine vs_i2l dX10_share_90 rfl ?_
                  refine vs_lcmp dX10_share_91 rfl ?_
                  refine vs_topi (fun z3 e_z3 => ?_)
                  have f_z3 : z3 = nZ (zcmp (b + l + m + 2) (aSz a k)) := (by rw [e_z3, lg_z, nn_l4 (by omega) (by omega) (by omega) (by omega) (by omega) (by omega), nn_i2l, nI_i (by omega)])
                  subst f_z3
                  clear e_z3
                  refine vs_if_le 101 dX10_share_92 rfl rfl (fun c_92 => ?_) (fun c_92 => ?_)
                  · have q_92 : ((zcmp (b + l + m + 2) (aSz a k)) : Int) ≤ ((0 : Nat) : Int) := (qi_le rfl (by first | exact nI_Z _ | (simp only [fa_lit, nI_add, pk_mul, nI_1]; exact nI_Z _)) (by have := zcmp_b (b + l + m + 2) (aSz a k); omega) (by have := zcmp_b (b + l + m + 2) (aSz a k); omega) (by decide) (by decide)).mp c_92
                    have hq1 := zcmp_le.mp q_92
                    skip
                    · obtain ⟨b, rfl⟩ : ∃ z0 : Nat, b = z0 := ⟨b.toNat, by omega⟩
                      obtain ⟨l, rfl⟩ : ∃ z0 : Nat, l = z0 := ⟨l.toNat, by omega⟩
                      obtain ⟨m, rfl⟩ : ∃ z0 : Nat, m = z0 := ⟨m.toNat, by omega⟩
                      obtain ⟨n, rfl⟩ : ∃ z0 : Nat, n = z0 := ⟨n.toNat, by omega⟩
                      rw [nZ_n b, nZ_n l, nZ_n m, nZ_n n]
                      refine vs_aload_n 0 dX10_share_101 rfl rfl 0 rfl ?_
                      refine vs_callVP (st := []) c_clearWork lk_X10_145 lm_X10_clearWork rfl rfl rfl rfl (Nat.le_of_ble_eq_true rfl) rfl ⟨rfl, rfl⟩ dX10_share_102 rfl (fun rr S1 hh => ?_)
                      obtain ⟨rfl, F, A0, B0⟩ := hh
                      show vs_V _ _ _ _ _ [] _
                      refine vs_iconst (v := 0) dX10_share_105 rfl rfl ?_
                      refine vs_istore [(6, .int (0)), (0, .ref (G.2.2.2 + 118)), (1, .int (nI k)), (2, .int (nI b)), (3, .int (nI l)), (4, .int (nI m)), (5, .int (nI n))] dX10_share_106 rfl rfl rfl ?_
                      refine vs_pick (L2 := [(6, .int (nI 0)), (0, .ref (G.2.2.2 + 118)), (1, .int (nI k)), (2, .int (nI b)), (3, .int (nI l)), (4, .int (nI m)), (5, .int (nI n))]) [0, 1, 2, 3, 4, 5, 6] rfl ?_
                      refine l_mshare1 (S := S) (a := a) (k := k) (b := b) (l := l) (m := m) (n := n) hk (by omega) (by omega) (by omega) gP1 gP2 (S0 := S1) ((F.2.1 _ _ (by simp)).trans mP) (lR.fx k3 F (by simp)) (fun S2 F2 A1 => ?_) (l + 1) 0 S1 (by omega) vs_fx.rf (A0.c (fun j hj => (if_neg (by omega)).symm))
                      refine vs_iconst (v := 0) dX10_share_145 rfl rfl ?_
                      refine vs_istore [(6, .int (0)), (0, .ref (G.2.2.2 + 118)), (1, .int (nI k)), (2, .int (nI b)), (3, .int (nI l)), (4, .int (nI m)), (5, .int (nI n))] dX10_share_146 rfl rfl rfl ?_
                      refine vs_pick (L2 := [(6, .int (nI 0)), (0, .ref (G.2.2.2 + 118)), (1, .int (nI k)), (2, .int (nI b)), (3, .int (nI l)), (4, .int (nI m)), (5, .int (nI n))]) [0, 1, 2, 3, 4, 5, 6] rfl ?_
                      refine l_mshare2 (S := S) (a := a) (k := k) (b := b) (l := l) (m := m) (n := n) hk (by omega) (by omega) (by omega) gP1 gP2 (S0 := S2) ((F2.2.1 _ _ (by simp)).trans ((F.2.1 _ _ (by simp)).trans mP)) (lR.fx (lR.fx k3 F (by simp)) F2 (by simp)) (fun S3 F3 B1 => ?_) (m + 1) 0 S2 (by omega) vs_fx.rf ((aR.fx B0 F2 (by simp)).c (fun j hj => (if_neg (by omega)).symm))
                      have F4 : vs_fx S S3 [127, 128, 126] [] [] := vs_fx.tr (vs_fx.tr (vs_fx.tr vs_fx.rf F (by simp) (by simp) (by simp)) F2 (by simp) (by simp) (by simp)) F3 (by simp) (by simp) (by simp)
                      have hp : aR S3 127 90 (rdk (aW a k) (aP a) b (l + 1)) := aR.fx A1 F3 (by simp)
                      have hq : aR S3 128 90 (rdk (aW a k) (aP a) (b + l + 1) (m + 1)) := B1
                      obtain ⟨p0, hp0⟩ : ∃ p0, p0 = (rdk (aW a k) (aP a) b (l + 1)) := ⟨_, rfl⟩
                      obtain ⟨q0, hq0⟩ : ∃ q0, q0 = (rdk (aW a k) (aP a) (b + l + 1) (m + 1)) := ⟨_, rfl⟩
                      have hsp : sp_share a k b l m n = sp_ku a p0 q0 n := by rw [hp0, hq0]; exact (by unfold sp_share; (try simp only [Int.toNat_natCast]); repeat (first | rw [if_pos (by omega)] | rw [if_pos trivial] | rw [if_neg (by omega)]))
                      have bp : ∀ j, p0 j < aP a := by rw [hp0]; exact rdk_b (by omega)
                      have bq : ∀ j, q0 j < aP a := by rw [hq0]; exact rdk_b (by omega)
                      rw [← hp0] at hp
                      rw [← hq0] at hq
                      have bq0 := bq 0
                      have mP3 : S3.1 118 2 = nI (aP a) := (F4.2.1 _ _ (by simp)).trans mP
                      have hM1 : MSt S3 a := MSt.sr hM F4 (by simp [mcr]) (by simp) (by simp)
                      have hf1 : frM S S3 := F4.M (by simp) (by simp) (by simp)
                      refine vs_aload_n 0 dX10_share_190 rfl rfl 0 rfl ?_
                      refine vs_get (v := .ref (G.2.2.2 + 128)) lf_X10_38 rfl rfl dX10_share_191 rfl ?_
                      refine vs_iconst (v := 0) dX10_share_194 rfl rfl ?_
                      refine vs_iald (k := 0) rfl rfl (by omega) rfl dX10_share_195 rfl ?_
                      refine vs_topi (fun z1 e_z1 => ?_)
                      have f_z1 : z1 = nI (q0 0) := (by rw [e_z1]; exact hq 0 (by omega))
                      subst f_z1
                      clear e_z1
                      refine vs_if_ne 205 dX10_share_196 rfl rfl (fun c_196 => ?_) (fun c_196 => ?_)
                      · have q_196 : ¬ (((q0 0) : Nat) : Int) = ((0 : Nat) : Int) := fun hh => c_196 ((qi_eq (nI_Z _) (by first | exact nI_Z _ | (simp only [fa_lit, nI_add, pk_mul, nI_1]; exact nI_Z _)) (by omega) (by omega) (by omega) (by omega)).mpr hh)
                        refine vs_aload_n 0 dX10_share_205 rfl rfl 0 rfl ?_
                        refine vs_aload_n 0 dX10_share_206 rfl rfl 0 rfl ?_
                        refine vs_get (v := .ref (G.2.2.2 + 126)) lf_X10_32 rfl rfl dX10_share_207 rfl ?_
                        refine vs_iload dX10_share_210 rfl 5 rfl ?_
                        refine vs_callVP (st := []) (c_unfoldTo (o := 126) (by omega) rfl gP1 gP2 bp bq (n := n) (by omega) mP3 hp hq) lk_X10_148 lm_X10_unfoldTo rfl rfl rfl rfl (Nat.le_of_ble_eq_true rfl) rfl ⟨rfl, rfl⟩ dX10_share_212 rfl (fun rr S1 hh => ?_)
                        obtain ⟨rfl, F5, hcm⟩ := hh
                        show vs_V _ _ _ _ _ [] _
                        have F6 : vs_fx S S1 [127, 128, 126] [] [] := vs_fx.tr F4 F5 (by simp) (by simp) (by simp)
                        have hM1 : MSt S1 a := MSt.sr hM F6 (by simp [mcr]) (by simp) (by simp)
                        have hf1 : frM S S1 := F6.M (by simp) (by simp) (by simp)
                        refine vs_aload_n 0 dX10_share_215 rfl rfl 0 rfl ?_
                        refine vs_iload dX10_share_216 rfl 5 rfl ?_
                        refine vs_callVP (st := []) (k_comes hM1 hG0 (n := n) (by omega) (g := (ufk p0 q0 (ipw (q0 0) (aP a)) (aP a) (n + 1))) hcm) lk_X10_139 lm_X10_comes rfl rfl rfl rfl (Nat.le_of_ble_eq_true rfl) rfl ⟨rfl, rfl⟩ dX10_share_218 rfl (fun rr S2 hh => ?_)
                        obtain ⟨rfl, hM2, hf2⟩ := hh
                        show vs_V _ _ _ _ _ (.int (nZ ((sp_kp a n (ufk p0 q0 (ipw (q0 0) (aP a)) (aP a) (n + 1))).1)) :: _) _
                        exact vs_iretP dX10_share_221 (by rw [hsp, show sp_ku a p0 q0 n = sp_kp a n (ufk p0 q0 (ipw (q0 0) (aP a)) (aP a) (n + 1)) from if_neg (by omega)]; exact ⟨rfl, hM2, hf1.tr hf2⟩)
                      · have q_196 : (((q0 0) : Nat) : Int) = ((0 : Nat) : Int) := (qi_eq (nI_Z _) (by first | exact nI_Z _ | (simp only [fa_lit, nI_add, pk_mul, nI_1]; exact nI_Z _)) (by omega) (by omega) (by omega) (by omega)).mp c_196
                        refine vs_aload_n 0 dX10_share_199 rfl rfl 0 rfl ?_
                        refine vs_iconst (v := 5) dX10_share_200 rfl rfl ?_
                        refine vs_callV (st := []) (c_meets (c := 5) (by decide) (by decide)) lk_X10_129 lm_X10_meets rfl rfl rfl rfl (Nat.le_of_ble_eq_true rfl) rfl ⟨rfl, rfl⟩ dX10_share_201 rfl ?_
                        show vs_V _ _ _ _ _ (.int (nZ (-10 - ((5 : Nat) : Int))) :: _) _
                        exact vs_iretP dX10_share_204 (by rw [hsp, show sp_ku a p0 q0 n = s_c a 5 from if_pos (by omega)]; exact ⟨rfl, (k_meets hM1 (by decide) (by decide)).1, hf1.tr (k_meets hM1 (by decide) (by decide)).2⟩)
                  · have q_92 : ¬ ((zcmp (b + l + m + 2) (aSz a k)) : Int) ≤ ((0 : Nat) : Int) := fun hh => c_92 ((qi_le rfl (by first | exact nI_Z _ | (simp only [fa_lit, nI_add, pk_mul, nI_1]; exact nI_Z _)) (by have := zcmp_b (b + l + m + 2) (aSz a k); omega) (by have := zcmp_b (b + l + m + 2) (aSz a k); omega) (by decide) (by decide)).mpr hh)
                    have hq1 : ¬ b + l + m + 2 ≤ (aSz a k : Int) := fun e => q_92 (zcmp_le.mpr e)
                    refine vs_aload_n 0 dX10_share_95 rfl rfl 0 rfl ?_
                    refine vs_iconst (v := 2) dX10_share_96 rfl rfl ?_
                    refine vs_callV (st := []) (c_meets (c := 2) (by decide) (by decide)) lk_X10_129 lm_X10_meets rfl rfl rfl rfl (Nat.le_of_ble_eq_true rfl) rfl ⟨rfl, rfl⟩ dX10_share_97 rfl ?_
                    show vs_V _ _ _ _ _ (.int (nZ (-10 - ((2 : Nat) : Int))) :: _) _
                    exact vs_iretP dX10_share_100 (mpost (v := -10 - ((2 : Nat) : Int)) (a' := s_cs a 2) (by unfold sp_share; (try simp only [Int.toNat_natCast]); (repeat (first | rw [if_pos (by omega)] | rw [if_pos trivial] | rw [if_neg (by omega)])); rfl) rfl (k_meets hM (by decide) (by decide)).1 (k_meets hM (by decide) (by decide)).2)
              · have q_58 : (((aLn a k) : Nat) : Int) = (-1 : Int) := (qi_eq (nI_Z _) rfl (by omega) (by omega) (by omega) (by omega)).mp c_58
                omega
            · have lnk : S.2.1 120 k = nZ (-1) := by rw [k1]; exact if_neg lok
              refine vs_aload_n 0 dX10_share_51 rfl rfl 0 rfl ?_
              refine vs_get (v := .ref (G.2.2.2 + 120)) lf_X10_13 rfl rfl dX10_share_52 rfl ?_
              refine vs_iload_n 1 dX10_share_55 rfl rfl 1 rfl ?_
              refine vs_iald (k := k) rfl rfl (by omega) rfl dX10_share_56 rfl ?_
              refine vs_topi (fun z4 e_z4 => ?_)
              have f_z4 : z4 = nZ (-1) := (by rw [e_z4]; exact lnk)
              subst f_z4
              clear e_z4
              refine vs_iconst (v := -1) dX10_share_57 rfl rfl ?_
              refine vs_icmp_ne 67 dX10_share_58 rfl rfl (fun c_58 => ?_) (fun c_58 => ?_)
              · have q_58 : ¬ ((-1) : Int) = (-1 : Int) := fun hh => c_58 ((qi_eq rfl rfl (by omega) (by omega) (by omega) (by omega)).mpr hh)
                omega
              · have q_58 : ((-1) : Int) = (-1 : Int) := (qi_eq rfl rfl (by omega) (by omega) (by omega) (by omega)).mp c_58
                refine vs_aload_n 0 dX10_share_61 rfl rfl 0 rfl ?_
                refine vs_iconst (v := 1) dX10_share_62 rfl rfl ?_
                refine vs_callV (st := []) (c_meets (c := 1) (by decide) (by decide)) lk_X10_129 lm_X10_meets rfl rfl rfl rfl (Nat.le_of_ble_eq_true rfl) rfl ⟨rfl, rfl⟩ dX10_share_63 rfl ?_
                show vs_V _ _ _ _ _ (.int (nZ (-10 - ((1 : Nat) : Int))) :: _) _
                exact vs_iretP dX10_share_66 (mpost (v := -10 - ((1 : Nat) : Int)) (a' := s_cs a 1) (by unfold sp_share; (try simp only [Int.toNat_natCast]); (repeat (first | rw [if_pos (by omega)] | rw [if_pos trivial] | rw [if_neg (by omega)])); rfl) rfl (k_meets hM (by decide) (by decide)).1 (k_meets hM (by decide) (by decide)).2)
        · rw [nn_is0] at c_45
          refine vs_bipush (v := -102) dX10_share_48 rfl rfl ?_
          exact vs_iretP dX10_share_50 (mpost (v := -102) (a' := a) (by unfold sp_share; (try simp only [Int.toNat_natCast]); repeat (first | rw [if_pos (by omega)] | rw [if_pos trivial] | rw [if_neg (by omega)])) rfl hM frM.rf)
  · rw [nn_is0] at c_4
    refine vs_bipush (v := -101) dX10_share_7 rfl rfl ?_
    exact vs_iretP dX10_share_9 (mpost (v := -101) (a' := a) (by unfold sp_share; (try simp only [Int.toNat_natCast]); repeat (first | rw [if_pos (by omega)] | rw [if_pos trivial] | rw [if_neg (by omega)])) rfl hM frM.rf)

theorem M_unfold {G : vv_G} {S : vs_S} {a : aS} (hM : MSt S a) (hG : aG a) {n : Int} (hn1 : -2147483648 ≤ n) (hn2 : n < 2147483648) : vs_CP G yX10_unfold cX10_unfold 2 (some .int) { frames := 3, locals := 73 } [.ref (G.2.2.2 + 118), .int (nZ n)] S (fun r S2 => r = some (.int (nZ (sp_unfold a n).1)) ∧ MSt S2 (sp_unfold a n).2 ∧ frM S S2) := by
  refine vs_ofP [(0, .ref (G.2.2.2 + 118)), (1, .int (nZ n))] (by decide) rfl rfl ?_
  have hG0 := hG
  obtain ⟨⟨mP, mN, mH, mK0⟩, mK, mSh, mSe, ⟨mA, mB⟩, mX, mY⟩ := id hM
  obtain ⟨gP, gP2, gN, gH, gSe, gSh, gXY, gB31, gInj, gA, gB, gAz, gBz⟩ := hG
  have gP1 := gP.1
  refine vs_iload_n 1 dX10_unfold_0 rfl rfl 1 rfl ?_
  refine vs_i2l dX10_unfold_1 rfl ?_
  refine vs_lconst (v := 0) dX10_unfold_2 rfl rfl ?_
  refine vs_ldc2 lc_X10_133 dX10_unfold_3 rfl ?_
  refine vs_callS (st := []) (c_inZ (z := n) (x := 0) (y := 40) (by rw [nn_i2l, nZ_i hn1 hn2]) rfl rfl) lk_X10_107 lm_X10_in rfl rfl (Nat.le_of_ble_eq_true rfl) rfl ⟨rfl, rfl⟩ dX10_unfold_6 rfl ?_
  show vs_V _ _ _ _ _ (.int ((if 0 ≤ n ∧ n ≤ 40 then 1 else 0)) :: _) _
  refine vs_if_ne 15 dX10_unfold_9 rfl rfl (fun c_9 => ?_) (fun c_9 => ?_)
  · rw [nn_is0, Classical.not_not] at c_9
    skip
    · obtain ⟨n, rfl⟩ : ∃ z0 : Nat, n = z0 := ⟨n.toNat, by omega⟩
      rw [nZ_n n]
      have b0 := gB 0
      have hsp : sp_unfold a n = sp_ku a (aA a) (aB a) n := (by unfold sp_unfold; (try simp only [Int.toNat_natCast]); repeat (first | rw [if_pos (by omega)] | rw [if_pos trivial] | rw [if_neg (by omega)]))
      refine vs_aload_n 0 dX10_unfold_15 rfl rfl 0 rfl ?_
      refine vs_get (v := .ref (G.2.2.2 + 133)) lf_X10_53 rfl rfl dX10_unfold_16 rfl ?_
      refine vs_iconst (v := 0) dX10_unfold_19 rfl rfl ?_
      refine vs_iald (k := 0) rfl rfl (by omega) rfl dX10_unfold_20 rfl ?_
      refine vs_topi (fun z1 e_z1 => ?_)
      have f_z1 : z1 = nI (aB a 0) := (by rw [e_z1]; exact mB 0 (by omega))
      subst f_z1
      clear e_z1
      refine vs_if_ne 30 dX10_unfold_21 rfl rfl (fun c_21 => ?_) (fun c_21 => ?_)
      · have q_21 : ¬ (((aB a 0) : Nat) : Int) = ((0 : Nat) : Int) := fun hh => c_21 ((qi_eq (nI_Z _) (by first | exact nI_Z _ | (simp only [fa_lit, nI_add, pk_mul, nI_1]; exact nI_Z _)) (by omega) (by omega) (by omega) (by omega)).mpr hh)
        refine vs_aload_n 0 dX10_unfold_30 rfl rfl 0 rfl ?_
        refine vs_callVP (st := []) (c_loadResult mA mB gAz gBz) lk_X10_152 lm_X10_loadResult rfl rfl rfl rfl (Nat.le_of_ble_eq_true rfl) rfl ⟨rfl, rfl⟩ dX10_unfold_31 rfl (fun rr S1 hh => ?_)
        obtain ⟨rfl, F, hp, hq⟩ := hh
        have mP1 : S1.1 118 2 = nI (aP a) := (F.2.1 _ _ (by simp)).trans mP
        show vs_V _ _ _ _ _ [] _
        refine vs_aload_n 0 dX10_unfold_34 rfl rfl 0 rfl ?_
        refine vs_aload_n 0 dX10_unfold_35 rfl rfl 0 rfl ?_
        refine vs_get (v := .ref (G.2.2.2 + 126)) lf_X10_32 rfl rfl dX10_unfold_36 rfl ?_
        refine vs_iload_n 1 dX10_unfold_39 rfl rfl 1 rfl ?_
        refine vs_callVP (st := []) (c_unfoldTo (o := 126) (by omega) rfl gP1 gP2 gA gB (n := n) (by omega) mP1 hp hq) lk_X10_148 lm_X10_unfoldTo rfl rfl rfl rfl (Nat.le_of_ble_eq_true rfl) rfl ⟨rfl, rfl⟩ dX10_unfold_40 rfl (fun rr S2 hh => ?_)
        obtain ⟨rfl, F5, hcm⟩ := hh
        show vs_V _ _ _ _ _ [] _
        have F6 : vs_fx S S2 [127, 128, 126] [] [] := vs_fx.tr (vs_fx.tr vs_fx.rf F (by simp) (by simp) (by simp)) F5 (by simp) (by simp) (by simp)
        have hM1 : MSt S2 a := MSt.sr hM F6 (by simp [mcr]) (by simp) (by simp)
        have hf1 : frM S S2 := F6.M (by simp) (by simp) (by simp)
        refine vs_aload_n 0 dX10_unfold_43 rfl rfl 0 rfl ?_
        refine vs_iload_n 1 dX10_unfold_44 rfl rfl 1 rfl ?_
        refine vs_callVP (st := []) (k_comes hM1 hG0 (n := n) (by omega) (g := (ufk (aA a) (aB a) (ipw (aB a 0) (aP a)) (aP a) (n + 1))) hcm) lk_X10_139 lm_X10_comes rfl rfl rfl rfl (Nat.le_of_ble_eq_true rfl) rfl ⟨rfl, rfl⟩ dX10_unfold_45 rfl (fun rr S3 hh => ?_)
        obtain ⟨rfl, hM2, hf2⟩ := hh
        show vs_V _ _ _ _ _ (.int (nZ ((sp_kp a n (ufk (aA a) (aB a) (ipw (aB a 0) (aP a)) (aP a) (n + 1))).1)) :: _) _
        exact vs_iretP dX10_unfold_48 (by rw [hsp, show sp_ku a (aA a) (aB a) n = sp_kp a n (ufk (aA a) (aB a) (ipw (aB a 0) (aP a)) (aP a) (n + 1)) from if_neg (by omega)]; exact ⟨rfl, hM2, hf1.tr hf2⟩)
      · have q_21 : (((aB a 0) : Nat) : Int) = ((0 : Nat) : Int) := (qi_eq (nI_Z _) (by first | exact nI_Z _ | (simp only [fa_lit, nI_add, pk_mul, nI_1]; exact nI_Z _)) (by omega) (by omega) (by omega) (by omega)).mp c_21
        refine vs_aload_n 0 dX10_unfold_24 rfl rfl 0 rfl ?_
        refine vs_iconst (v := 5) dX10_unfold_25 rfl rfl ?_
        refine vs_callV (st := []) (c_meets (c := 5) (by decide) (by decide)) lk_X10_129 lm_X10_meets rfl rfl rfl rfl (Nat.le_of_ble_eq_true rfl) rfl ⟨rfl, rfl⟩ dX10_unfold_26 rfl ?_
        show vs_V _ _ _ _ _ (.int (nZ (-10 - ((5 : Nat) : Int))) :: _) _
        exact vs_iretP dX10_unfold_29 (by rw [hsp, show sp_ku a (aA a) (aB a) n = s_c a 5 from if_pos (by omega)]; exact ⟨rfl, (k_meets hM (by decide) (by decide)).1, (k_meets hM (by decide) (by decide)).2⟩)
  · rw [nn_is0] at c_9
    refine vs_bipush (v := -102) dX10_unfold_12 rfl rfl ?_
    exact vs_iretP dX10_unfold_14 (mpost (v := -102) (a' := a) (by unfold sp_unfold; (try simp only [Int.toNat_natCast]); repeat (first | rw [if_pos (by omega)] | rw [if_pos trivial] | rw [if_neg (by omega)])) rfl hM frM.rf)

