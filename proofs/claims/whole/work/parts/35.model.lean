theorem fidx_hit {f : Nat → Nat} {x j : Nat} : ∀ d i, i ≤ j → j < i + d → f j = x → (∀ k, i ≤ k → k < j → f k ≠ x) → fidx f x d i = j
  | 0, i, h1, h2, _, _ => absurd h2 (by omega)
  | d + 1, i, h1, h2, h3, h4 => by
    unfold fidx
    by_cases e : i = j
    · rw [if_pos (by rw [e]; exact h3), e]
    · rw [if_neg (h4 i (Nat.le_refl _) (by omega))]
      exact fidx_hit d (i + 1) (by omega) (by omega) h3 (fun k hk => h4 k (by omega))
theorem fidx_no {f : Nat → Nat} {x : Nat} : ∀ d i, (∀ k, i ≤ k → k < i + d → f k ≠ x) → fidx f x d i = -1
  | 0, _, _ => rfl
  | d + 1, i, h => by
    unfold fidx
    rw [if_neg (h i (Nat.le_refl _) (by omega))]
    exact fidx_no d (i + 1) (fun k h1 h2 => h k (by omega) (by omega))
theorem mpt_x {S : vs_S} {h x : Nat} {g : Nat → Nat} {f : Nat → Int32} {v : Int32} (hg : aR S 144 h g) : aR (vs_sc (vs_ia (vs_ia S 144 (upd (S.2.1 144) h (nI x))) 145 f) 118 28 v) 144 (h + 1) (nu g h x) := fun k hk => by
  rw [vs_sc_2, vs_ia_ne (by omega), vs_ia_at]
  unfold upd nu
  by_cases e : k = h
  · rw [if_pos e, if_pos e]
  · rw [if_neg e, if_neg e]; exact hg k (by omega)
theorem mpt_y {S : vs_S} {h x : Nat} {g : Nat → Nat} {f : Nat → Int32} {v : Int32} (hg : aR S 145 h g) : aR (vs_sc (vs_ia (vs_ia S 144 f) 145 (upd (S.2.1 145) h (nI x))) 118 28 v) 145 (h + 1) (nu g h x) := fun k hk => by
  rw [vs_sc_2, vs_ia_at]
  unfold upd nu
  by_cases e : k = h
  · rw [if_pos e, if_pos e]
  · rw [if_neg e, if_neg e]; exact hg k (by omega)
theorem l_mpoint {G : vv_G} {S : vs_S} {a : aS} {x y : Int} (bx : nn_m x (aP a) < aP a) (by_ : nn_m y (aP a) < aP a) (gP2 : aP a ≤ 30011) (gH : aH a ≤ 20) (gB31 : ∀ k, aX a k < 2147483648 ∧ aY a k < 2147483648) (mH : S.1 118 28 = nI (aH a)) (mX : aR S 144 (aH a) (aX a)) (mY : aR S 145 (aH a) (aY a)) {Pst : Option Value → vs_S → Prop} (K : (∀ j, j < aH a → aX a j ≠ nn_m x (aP a)) → vs_V G cX10_point (vs_MP yX10_point 6 (some .int) { frames := 1, locals := 24 } G Pst) 66 [(4, .int (nI (nn_m y (aP a)))), (3, .int (nI (nn_m x (aP a)))), (0, .ref (G.2.2.2 + 118))] [] S) (K2 : ∀ j, j < aH a → aX a j = nn_m x (aP a) → (∀ i, i < j → aX a i ≠ nn_m x (aP a)) → Pst (some (.int (if aY a j = nn_m y (aP a) then nI (aH a) else -103))) S) : ∀ d k : Nat, k + d = aH a → (∀ i, i < k → aX a i ≠ nn_m x (aP a)) → vs_V G cX10_point (vs_MP yX10_point 6 (some .int) { frames := 1, locals := 24 } G Pst) 18 [(5, .int (nI k)), (4, .int (nI (nn_m y (aP a)))), (3, .int (nI (nn_m x (aP a)))), (0, .ref (G.2.2.2 + 118))] [] S := by
  intro d
  induction d with
  | zero =>
    intro k hk hno
    obtain rfl : k = aH a := by omega
    refine vs_iload dX10_point_18 rfl 0 rfl ?_
    refine vs_aload_n 0 dX10_point_20 rfl rfl 3 rfl ?_
    refine vs_get (v := .int (nI (aH a))) lf_X10_118 rfl (congrArg (fun z => some (Value.int z)) mH) dX10_point_21 rfl ?_
    refine vs_icmp_ge 66 dX10_point_24 rfl rfl (fun c_24 => ?_) (fun c_24 => ?_)
    · have q_24 : (((aH a) : Nat) : Int) ≥ (((aH a) : Nat) : Int) := (qi_ge (nI_Z _) (nI_Z _) (by omega) (by omega) (by omega) (by omega)).mp c_24
      refine vs_pick [1, 2, 3] rfl ?_
      exact K (fun j hj => hno j (by omega))
    · have q_24 : ¬ (((aH a) : Nat) : Int) ≥ (((aH a) : Nat) : Int) := fun hh => c_24 ((qi_ge (nI_Z _) (nI_Z _) (by omega) (by omega) (by omega) (by omega)).mpr hh)
      omega
  | succ d ih =>
    intro k hk hno
    have b1 := (gB31 k).1
    have b2 := (gB31 k).2
    refine vs_iload dX10_point_18 rfl 0 rfl ?_
    refine vs_aload_n 0 dX10_point_20 rfl rfl 3 rfl ?_
    refine vs_get (v := .int (nI (aH a))) lf_X10_118 rfl (congrArg (fun z => some (Value.int z)) mH) dX10_point_21 rfl ?_
    refine vs_icmp_ge 66 dX10_point_24 rfl rfl (fun c_24 => ?_) (fun c_24 => ?_)
    · have q_24 : ((k : Nat) : Int) ≥ (((aH a) : Nat) : Int) := (qi_ge (nI_Z _) (nI_Z _) (by omega) (by omega) (by omega) (by omega)).mp c_24
      omega
    · have q_24 : ¬ ((k : Nat) : Int) ≥ (((aH a) : Nat) : Int) := fun hh => c_24 ((qi_ge (nI_Z _) (nI_Z _) (by omega) (by omega) (by omega) (by omega)).mpr hh)
      refine vs_aload_n 0 dX10_point_27 rfl rfl 3 rfl ?_
      refine vs_get (v := .ref (G.2.2.2 + 144)) lf_X10_86 rfl rfl dX10_point_28 rfl ?_
      refine vs_iload dX10_point_31 rfl 0 rfl ?_
      refine vs_iald (k := k) rfl rfl (by omega) rfl dX10_point_33 rfl ?_
      refine vs_topi (fun z1 e_z1 => ?_)
      have f_z1 : z1 = nI (aX a k) := (by rw [e_z1]; exact mX k (by omega))
      subst f_z1
      clear e_z1
      refine vs_iload_n 3 dX10_point_34 rfl rfl 2 rfl ?_
      refine vs_icmp_ne 60 dX10_point_35 rfl rfl (fun c_35 => ?_) (fun c_35 => ?_)
      · have q_35 : ¬ (((aX a k) : Nat) : Int) = (((nn_m x (aP a)) : Nat) : Int) := fun hh => c_35 ((qi_eq (nI_Z _) (nI_Z _) (by omega) (by omega) (by omega) (by omega)).mpr hh)
        have hx : ¬ aX a k = nn_m x (aP a) := by omega
        refine vs_iinc (v := nI (k + 1)) [(5, .int (nI (k + 1))), (4, .int (nI (nn_m y (aP a)))), (3, .int (nI (nn_m x (aP a)))), (0, .ref (G.2.2.2 + 118))] dX10_point_60 rfl 0 rfl (by first | exact nI_1 _ | (simp only [fa_lit, nI_add, pk_mul, nI_1]; rfl)) rfl rfl ?_
        refine vs_goto 18 dX10_point_63 rfl ?_
        refine vs_pick [0, 1, 2, 3] rfl ?_
        exact ih (k + 1) (by omega) (fun i hi => by by_cases e : i = k; rw [e]; exact hx; exact hno i (by omega))
      · have q_35 : (((aX a k) : Nat) : Int) = (((nn_m x (aP a)) : Nat) : Int) := (qi_eq (nI_Z _) (nI_Z _) (by omega) (by omega) (by omega) (by omega)).mp c_35
        have hx : aX a k = nn_m x (aP a) := by omega
        have k2 := K2 k (by omega) hx hno
        refine vs_aload_n 0 dX10_point_38 rfl rfl 3 rfl ?_
        refine vs_get (v := .ref (G.2.2.2 + 145)) lf_X10_89 rfl rfl dX10_point_39 rfl ?_
        refine vs_iload dX10_point_42 rfl 0 rfl ?_
        refine vs_iald (k := k) rfl rfl (by omega) rfl dX10_point_44 rfl ?_
        refine vs_topi (fun z2 e_z2 => ?_)
        have f_z2 : z2 = nI (aY a k) := (by rw [e_z2]; exact mY k (by omega))
        subst f_z2
        clear e_z2
        refine vs_iload dX10_point_45 rfl 1 rfl ?_
        refine vs_icmp_ne 57 dX10_point_47 rfl rfl (fun c_47 => ?_) (fun c_47 => ?_)
        · have q_47 : ¬ (((aY a k) : Nat) : Int) = (((nn_m y (aP a)) : Nat) : Int) := fun hh => c_47 ((qi_eq (nI_Z _) (nI_Z _) (by omega) (by omega) (by omega) (by omega)).mpr hh)
          rw [if_neg (by omega)] at k2
          refine vs_bipush (v := -103) dX10_point_57 rfl rfl ?_
          exact vs_iretP dX10_point_59 k2
        · have q_47 : (((aY a k) : Nat) : Int) = (((nn_m y (aP a)) : Nat) : Int) := (qi_eq (nI_Z _) (nI_Z _) (by omega) (by omega) (by omega) (by omega)).mp c_47
          rw [if_pos (by omega)] at k2
          refine vs_aload_n 0 dX10_point_50 rfl rfl 3 rfl ?_
          refine vs_get (v := .int (nI (aH a))) lf_X10_118 rfl (congrArg (fun z => some (Value.int z)) mH) dX10_point_51 rfl ?_
          refine vs_goto 59 dX10_point_54 rfl ?_
          exact vs_iretP dX10_point_59 k2

theorem M_point {G : vv_G} {S : vs_S} {a : aS} (hM : MSt S a) (hG : aG a) {x : Int} (hx1 : -2147483648 ≤ x) (hx2 : x < 2147483648) {y : Int} (hy1 : -2147483648 ≤ y) (hy2 : y < 2147483648) : vs_CP G yX10_point cX10_point 6 (some .int) { frames := 1, locals := 24 } [.ref (G.2.2.2 + 118), .int (nZ x), .int (nZ y)] S (fun r S2 => r = some (.int (nZ (sp_point a x y).1)) ∧ MSt S2 (sp_point a x y).2 ∧ frM S S2) := by
  refine vs_ofP [(0, .ref (G.2.2.2 + 118)), (1, .int (nZ x)), (2, .int (nZ y))] (by decide) rfl rfl ?_
  obtain ⟨⟨mP, mN, mH, mK0⟩, mK, mSh, mSe, ⟨mA, mB⟩, mX, mY⟩ := id hM
  obtain ⟨gP, gP2, gN, gH, gSe, gSh, gXY, gB31, gInj, gA, gB, gAz, gBz⟩ := hG
  have gP1 := gP.1
  have bx := nn_m_lt (v := x) (show 0 < aP a by omega)
  have by_ := nn_m_lt (v := y) (show 0 < aP a by omega)
  refine vs_aload_n 0 dX10_point_0 rfl rfl 0 rfl ?_
  refine vs_iload_n 1 dX10_point_1 rfl rfl 1 rfl ?_
  refine vs_i2l dX10_point_2 rfl ?_
  refine vs_callV (st := []) (c_restZ (z := x) (by rw [nn_i2l, nZ_i hx1 hx2]) mP gP1 gP2) lk_X10_135 lm_X10_rest rfl rfl rfl rfl (Nat.le_of_ble_eq_true rfl) rfl ⟨rfl, rfl⟩ dX10_point_3 rfl ?_
  show vs_V _ _ _ _ _ (.int (nI (nn_m x (aP a))) :: _) _
  refine vs_istore_n 3 [(3, .int (nI (nn_m x (aP a)))), (0, .ref (G.2.2.2 + 118)), (1, .int (nZ x)), (2, .int (nZ y))] dX10_point_6 rfl rfl rfl rfl ?_
  refine vs_aload_n 0 dX10_point_7 rfl rfl 1 rfl ?_
  refine vs_iload_n 2 dX10_point_8 rfl rfl 3 rfl ?_
  refine vs_i2l dX10_point_9 rfl ?_
  refine vs_callV (st := []) (c_restZ (z := y) (by rw [nn_i2l, nZ_i hy1 hy2]) mP gP1 gP2) lk_X10_135 lm_X10_rest rfl rfl rfl rfl (Nat.le_of_ble_eq_true rfl) rfl ⟨rfl, rfl⟩ dX10_point_10 rfl ?_
  show vs_V _ _ _ _ _ (.int (nI (nn_m y (aP a))) :: _) _
  refine vs_istore [(4, .int (nI (nn_m y (aP a)))), (3, .int (nI (nn_m x (aP a)))), (0, .ref (G.2.2.2 + 118)), (1, .int (nZ x)), (2, .int (nZ y))] dX10_point_13 rfl rfl rfl ?_
  refine vs_iconst (v := 0) dX10_point_15 rfl rfl ?_
  refine vs_istore [(5, .int (0)), (4, .int (nI (nn_m y (aP a)))), (3, .int (nI (nn_m x (aP a)))), (0, .ref (G.2.2.2 + 118)), (1, .int (nZ x)), (2, .int (nZ y))] dX10_point_16 rfl rfl rfl ?_
  refine vs_pick (L2 := [(5, .int (nI 0)), (4, .int (nI (nn_m y (aP a)))), (3, .int (nI (nn_m x (aP a)))), (0, .ref (G.2.2.2 + 118))]) [0, 1, 2, 3] rfl ?_
  refine l_mpoint (S := S) (a := a) (x := x) (y := y) bx by_ gP2 gH gB31 mH mX mY (fun hno => ?_) (fun j hj hx hno => ?_) (aH a) 0 (by omega) (fun i hi => absurd hi (by omega))
  · have hz : fidx (aX a) (nn_m x (aP a)) (aH a) 0 = -1 := fidx_no _ _ (fun k _ hk => hno k (by omega))
    refine vs_aload_n 0 dX10_point_66 rfl rfl 2 rfl ?_
    refine vs_get (v := .int (nI (aH a))) lf_X10_118 rfl (congrArg (fun z => some (Value.int z)) mH) dX10_point_67 rfl ?_
    refine vs_bipush (v := 20) dX10_point_70 rfl rfl ?_
    refine vs_icmp_ne 78 dX10_point_72 rfl rfl (fun c_72 => ?_) (fun c_72 => ?_)
    · have q_72 : ¬ (((aH a) : Nat) : Int) = ((20 : Nat) : Int) := fun hh => c_72 ((qi_eq (nI_Z _) (by first | exact nI_Z _ | (simp only [fa_lit, nI_add, pk_mul, nI_1]; exact nI_Z _)) (by omega) (by omega) (by omega) (by omega)).mpr hh)
      refine vs_aload_n 0 dX10_point_78 rfl rfl 2 rfl ?_
      refine vs_get (v := .ref (G.2.2.2 + 144)) lf_X10_86 rfl rfl dX10_point_79 rfl ?_
      refine vs_aload_n 0 dX10_point_82 rfl rfl 2 rfl ?_
      refine vs_get (v := .int (nI (aH a))) lf_X10_118 rfl (congrArg (fun z => some (Value.int z)) mH) dX10_point_83 rfl ?_
      refine vs_iload_n 3 dX10_point_86 rfl rfl 1 rfl ?_
      refine vs_iast (k := (aH a)) rfl rfl (by omega) rfl dX10_point_87 rfl ?_
      refine vs_aload_n 0 dX10_point_88 rfl rfl 2 rfl ?_
      refine vs_get (v := .ref (G.2.2.2 + 145)) lf_X10_89 rfl rfl dX10_point_89 rfl ?_
      refine vs_aload_n 0 dX10_point_92 rfl rfl 2 rfl ?_
      refine vs_get (v := .int (nI (aH a))) lf_X10_118 rfl (congrArg (fun z => some (Value.int z)) mH) dX10_point_93 rfl ?_
      refine vs_iload dX10_point_96 rfl 0 rfl ?_
      refine vs_iast (k := (aH a)) rfl rfl (by omega) rfl dX10_point_98 rfl ?_
      refine vs_aload_n 0 dX10_point_99 rfl rfl 2 rfl ?_
      refine vs_dup dX10_point_100 rfl rfl ?_
      refine vs_get (v := .int (nI (aH a))) lf_X10_118 rfl (congrArg (fun z => some (Value.int z)) mH) dX10_point_101 rfl ?_
      refine vs_iconst (v := 1) dX10_point_104 rfl rfl ?_
      refine vs_iadd dX10_point_105 rfl ?_
      refine vs_topi (fun z1 e_z1 => ?_)
      have f_z1 : z1 = nI (aH a + 1) := (by rw [e_z1]; exact nI_1 _)
      subst f_z1
      clear e_z1
      refine vs_put lf_X10_118 rfl rfl rfl rfl dX10_point_106 rfl ?_
      have F : vs_fx S (vs_sc (vs_ia (vs_ia S 144 (upd (S.2.1 144) (aH a) (nI (nn_m x (aP a))))) 145 (upd (S.2.1 145) (aH a) (nI (nn_m y (aP a))))) 118 28 (nI (aH a + 1))) [144, 145] [(118, 28)] [] := vs_fx.sc (vs_fx.ia (vs_fx.ia vs_fx.rf (by simp)) (by simp)) (by simp)
      refine vs_aload_n 0 dX10_point_109 rfl rfl 2 rfl ?_
      refine vs_get (v := .int (nI (aH a + 1))) lf_X10_118 rfl (congrArg (fun z => some (Value.int z)) vs_sc_at) dX10_point_110 rfl ?_
      exact vs_iretP dX10_point_113 (mpost (v := (aH a : Int) + 1) (a' := s_pt a (nn_m x (aP a)) (nn_m y (aP a))) (by unfold sp_point; rw [hz, if_neg (by omega), if_neg (by omega)]) (by rw [nI_Z]; rfl) (MSt.pt hM F vs_sc_at (mpt_x mX) (mpt_y mY) (by simp) (by simp) (by simp)) (F.M (by simp) (by simp) (by simp)))
    · have q_72 : (((aH a) : Nat) : Int) = ((20 : Nat) : Int) := (qi_eq (nI_Z _) (by first | exact nI_Z _ | (simp only [fa_lit, nI_add, pk_mul, nI_1]; exact nI_Z _)) (by omega) (by omega) (by omega) (by omega)).mp c_72
      refine vs_bipush (v := -104) dX10_point_75 rfl rfl ?_
      exact vs_iretP dX10_point_77 (mpost (v := -104) (a' := a) (by unfold sp_point; rw [hz, if_neg (by omega), if_pos (by omega)]) rfl hM frM.rf)
  · have hz : fidx (aX a) (nn_m x (aP a)) (aH a) 0 = j := fidx_hit _ _ (by omega) (by omega) hx (fun k _ hk => hno k hk)
    by_cases e : aY a j = nn_m y (aP a)
    · rw [if_pos e]
      exact mpost (v := (aH a : Int)) (a' := a) (by unfold sp_point; rw [hz, if_pos (by omega), show ((j : Nat) : Int).toNat = j by omega, if_pos e]) (by rw [nZ_n]) hM frM.rf
    · rw [if_neg e]
      exact mpost (v := -103) (a' := a) (by unfold sp_point; rw [hz, if_pos (by omega), show ((j : Nat) : Int).toNat = j by omega, if_neg e]) rfl hM frM.rf

theorem M_wipe {G : vv_G} {S : vs_S} {a : aS} (hM : MSt S a) (hG : aG a) : vs_CP G yX10_wipe cX10_wipe 2 (some .int) { frames := 0, locals := 0 } [.ref (G.2.2.2 + 118)] S (fun r S2 => r = some (.int (nZ (sp_wipe a).1)) ∧ MSt S2 (sp_wipe a).2 ∧ frM S S2) := by
  refine vs_ofP [(0, .ref (G.2.2.2 + 118))] (by decide) rfl rfl ?_
  obtain ⟨⟨mP, mN, mH, mK0⟩, mK, mSh, mSe, ⟨mA, mB⟩, mX, mY⟩ := id hM
  obtain ⟨gP, gP2, gN, gH, gSe, gSh, gXY, gB31, gInj, gA, gB, gAz, gBz⟩ := hG
  have gP1 := gP.1
  refine vs_aload_n 0 dX10_wipe_0 rfl rfl 0 rfl ?_
  refine vs_get (v := .int (nI (aH a))) lf_X10_118 rfl (congrArg (fun z => some (Value.int z)) mH) dX10_wipe_1 rfl ?_
  refine vs_istore_n 1 [(1, .int (nI (aH a))), (0, .ref (G.2.2.2 + 118))] dX10_wipe_4 rfl rfl rfl rfl ?_
  refine vs_aload_n 0 dX10_wipe_5 rfl rfl 1 rfl ?_
  refine vs_iconst (v := 0) dX10_wipe_6 rfl rfl ?_
  refine vs_put lf_X10_118 rfl rfl rfl rfl dX10_wipe_7 rfl ?_
  have F : vs_fx S (vs_sc S 118 28 0) [] [(118, 28)] [] := vs_fx.sc vs_fx.rf (by simp)
  refine vs_iload_n 1 dX10_wipe_10 rfl rfl 0 rfl ?_
  exact vs_iretP dX10_wipe_11 (mpost (x := sp_wipe a) rfl (by rw [nZ_n]) (MSt.wi hM F vs_sc_at (by simp) (by simp) (by simp)) (F.M (by simp) (by simp) (by simp)))

theorem tp_skip {g : Nat → Nat} {n : Nat} (h : ∀ k, n ≤ k → g k = 0) : ∀ d, tp g (n + d) = tp g n
  | 0 => rfl
  | d + 1 => by
    show (if g (n + d) = 0 then tp g (n + d) else n + d + 1) = _
    rw [if_pos (h _ (by omega))]
    exact tp_skip h d
theorem M_degree {G : vv_G} {S : vs_S} {a : aS} (hM : MSt S a) (hG : aG a) {s : Int} (hs1 : -2147483648 ≤ s) (hs2 : s < 2147483648) : vs_CP G yX10_degree cX10_degree 2 (some .int) { frames := 1, locals := 25 } [.ref (G.2.2.2 + 118), .int (nZ s)] S (fun r S2 => r = some (.int (nZ (sp_degree a s).1)) ∧ MSt S2 (sp_degree a s).2 ∧ frM S S2) := by
  refine vs_ofP [(0, .ref (G.2.2.2 + 118)), (1, .int (nZ s))] (by decide) rfl rfl ?_
  obtain ⟨⟨mP, mN, mH, mK0⟩, mK, mSh, mSe, ⟨mA, mB⟩, mX, mY⟩ := id hM
  obtain ⟨gP, gP2, gN, gH, gSe, gSh, gXY, gB31, gInj, gA, gB, gAz, gBz⟩ := hG
  have gP1 := gP.1
  refine vs_iload_n 1 dX10_degree_0 rfl rfl 1 rfl ?_
  refine vs_i2l dX10_degree_1 rfl ?_
  refine vs_lconst (v := 0) dX10_degree_2 rfl rfl ?_
  refine vs_lconst (v := 1) dX10_degree_3 rfl rfl ?_
  refine vs_callS (st := []) (c_inZ (z := s) (x := 0) (y := 1) (by rw [nn_i2l, nZ_i hs1 hs2]) rfl rfl) lk_X10_107 lm_X10_in rfl rfl (Nat.le_of_ble_eq_true rfl) rfl ⟨rfl, rfl⟩ dX10_degree_4 rfl ?_
  show vs_V _ _ _ _ _ (.int ((if 0 ≤ s ∧ s ≤ 1 then 1 else 0)) :: _) _
  refine vs_if_ne 15 dX10_degree_7 rfl rfl (fun c_7 => ?_) (fun c_7 => ?_)
  · rw [nn_is0, Classical.not_not] at c_7
    refine vs_iload_n 1 dX10_degree_15 rfl rfl 1 rfl ?_
    refine vs_if_ne 31 dX10_degree_16 rfl rfl (fun c_16 => ?_) (fun c_16 => ?_)
    · have q_16 : ¬ (s : Int) = ((0 : Nat) : Int) := fun hh => c_16 ((qi_eq rfl (by first | exact nI_Z _ | (simp only [fa_lit, nI_add, pk_mul, nI_1]; exact nI_Z _)) (by omega) (by omega) (by omega) (by omega)).mpr hh)
      refine vs_aload_n 0 dX10_degree_31 rfl rfl 0 rfl ?_
      refine vs_get (v := .ref (G.2.2.2 + 133)) lf_X10_53 rfl rfl dX10_degree_32 rfl ?_
      refine vs_bipush (v := 45) dX10_degree_35 rfl rfl ?_
      refine vs_callS (st := []) (c_degreeOf (o := 133) (N := 46) (n := 45) (g := aB a) rfl (by decide) (by decide) mB (fun k => by have := gB k; omega)) lk_X10_167 lm_X10_degreeOf rfl rfl (Nat.le_of_ble_eq_true rfl) rfl ⟨rfl, rfl⟩ dX10_degree_37 rfl ?_
      rw [show (45 + 1) = 42 + 4 from rfl, tp_skip gBz 4]
      show vs_V _ _ _ _ _ (.int (nZ ((tp (aB a) 42 : Int) - 1)) :: _) _
      exact vs_iretP dX10_degree_40 (mpost (v := (tp (aB a) 42 : Int) - 1) (a' := a) (by unfold sp_degree; (try simp only [Int.toNat_natCast]); repeat (first | rw [if_pos (by omega)] | rw [if_pos trivial] | rw [if_neg (by omega)])) rfl hM frM.rf)
    · have q_16 : (s : Int) = ((0 : Nat) : Int) := (qi_eq rfl (by first | exact nI_Z _ | (simp only [fa_lit, nI_add, pk_mul, nI_1]; exact nI_Z _)) (by omega) (by omega) (by omega) (by omega)).mp c_16
      refine vs_aload_n 0 dX10_degree_19 rfl rfl 0 rfl ?_
      refine vs_get (v := .ref (G.2.2.2 + 132)) lf_X10_50 rfl rfl dX10_degree_20 rfl ?_
      refine vs_bipush (v := 45) dX10_degree_23 rfl rfl ?_
      refine vs_callS (st := []) (c_degreeOf (o := 132) (N := 46) (n := 45) (g := aA a) rfl (by decide) (by decide) mA (fun k => by have := gA k; omega)) lk_X10_167 lm_X10_degreeOf rfl rfl (Nat.le_of_ble_eq_true rfl) rfl ⟨rfl, rfl⟩ dX10_degree_25 rfl ?_
      rw [show (45 + 1) = 42 + 4 from rfl, tp_skip gAz 4]
      show vs_V _ _ _ _ _ (.int (nZ ((tp (aA a) 42 : Int) - 1)) :: _) _
      refine vs_goto 40 dX10_degree_28 rfl ?_
      exact vs_iretP dX10_degree_40 (mpost (v := (tp (aA a) 42 : Int) - 1) (a' := a) (by unfold sp_degree; (try simp only [Int.toNat_natCast]); repeat (first | rw [if_pos (by omega)] | rw [if_pos trivial] | rw [if_neg (by omega)])) rfl hM frM.rf)
  · rw [nn_is0] at c_7
    refine vs_bipush (v := -102) dX10_degree_10 rfl rfl ?_
    refine vs_goto 40 dX10_degree_12 rfl ?_
    exact vs_iretP dX10_degree_40 (mpost (v := -102) (a' := a) (by unfold sp_degree; (try simp only [Int.toNat_natCast]); repeat (first | rw [if_pos (by omega)] | rw [if_pos trivial] | rw [if_neg (by omega)])) rfl hM frM.rf)

theorem pz_out {g : Nat → Nat} {z : Int} (h : ∀ k, 42 ≤ k → g k = 0) (hz : ¬ (0 ≤ z ∧ z ≤ 45)) : pz g z = 0 := by
  unfold pz
  by_cases e : z < 0
  · rw [if_pos e]
  · rw [if_neg e]; exact h _ (by omega)
theorem M_term {G : vv_G} {S : vs_S} {a : aS} (hM : MSt S a) (hG : aG a) {s : Int} (hs1 : -2147483648 ≤ s) (hs2 : s < 2147483648) {k : Int} (hk1 : -2147483648 ≤ k) (hk2 : k < 2147483648) : vs_CP G yX10_term cX10_term 3 (some .int) { frames := 1, locals := 25 } [.ref (G.2.2.2 + 118), .int (nZ s), .int (nZ k)] S (fun r S2 => r = some (.int (nZ (sp_term a s k).1)) ∧ MSt S2 (sp_term a s k).2 ∧ frM S S2) := by
  refine vs_ofP [(0, .ref (G.2.2.2 + 118)), (1, .int (nZ s)), (2, .int (nZ k))] (by decide) rfl rfl ?_
  obtain ⟨⟨mP, mN, mH, mK0⟩, mK, mSh, mSe, ⟨mA, mB⟩, mX, mY⟩ := id hM
  obtain ⟨gP, gP2, gN, gH, gSe, gSh, gXY, gB31, gInj, gA, gB, gAz, gBz⟩ := hG
  have gP1 := gP.1
  refine vs_iload_n 1 dX10_term_0 rfl rfl 1 rfl ?_
  refine vs_i2l dX10_term_1 rfl ?_
  refine vs_lconst (v := 0) dX10_term_2 rfl rfl ?_
  refine vs_lconst (v := 1) dX10_term_3 rfl rfl ?_
  refine vs_callS (st := []) (c_inZ (z := s) (x := 0) (y := 1) (by rw [nn_i2l, nZ_i hs1 hs2]) rfl rfl) lk_X10_107 lm_X10_in rfl rfl (Nat.le_of_ble_eq_true rfl) rfl ⟨rfl, rfl⟩ dX10_term_4 rfl ?_
  show vs_V _ _ _ _ _ (.int ((if 0 ≤ s ∧ s ≤ 1 then 1 else 0)) :: _) _
  refine vs_if_ne 13 dX10_term_7 rfl rfl (fun c_7 => ?_) (fun c_7 => ?_)
  · rw [nn_is0, Classical.not_not] at c_7
    refine vs_iload_n 2 dX10_term_13 rfl rfl 2 rfl ?_
    refine vs_i2l dX10_term_14 rfl ?_
    refine vs_lconst (v := 0) dX10_term_15 rfl rfl ?_
    refine vs_ldc2 lc_X10_209 dX10_term_16 rfl ?_
    refine vs_callS (st := []) (c_inZ (z := k) (x := 0) (y := 45) (by rw [nn_i2l, nZ_i hk1 hk2]) rfl rfl) lk_X10_107 lm_X10_in rfl rfl (Nat.le_of_ble_eq_true rfl) rfl ⟨rfl, rfl⟩ dX10_term_19 rfl ?_
    show vs_V _ _ _ _ _ (.int ((if 0 ≤ k ∧ k ≤ 45 then 1 else 0)) :: _) _
    refine vs_if_ne 29 dX10_term_22 rfl rfl (fun c_22 => ?_) (fun c_22 => ?_)
    · rw [nn_is0, Classical.not_not] at c_22
      skip
      · obtain ⟨k, rfl⟩ : ∃ z0 : Nat, k = z0 := ⟨k.toNat, by omega⟩
        rw [nZ_n k]
        refine vs_iload_n 1 dX10_term_29 rfl rfl 1 rfl ?_
        refine vs_if_ne 42 dX10_term_30 rfl rfl (fun c_30 => ?_) (fun c_30 => ?_)
        · have q_30 : ¬ (s : Int) = ((0 : Nat) : Int) := fun hh => c_30 ((qi_eq rfl (by first | exact nI_Z _ | (simp only [fa_lit, nI_add, pk_mul, nI_1]; exact nI_Z _)) (by omega) (by omega) (by omega) (by omega)).mpr hh)
          refine vs_aload_n 0 dX10_term_42 rfl rfl 0 rfl ?_
          refine vs_get (v := .ref (G.2.2.2 + 133)) lf_X10_53 rfl rfl dX10_term_43 rfl ?_
          refine vs_iload_n 2 dX10_term_46 rfl rfl 2 rfl ?_
          refine vs_iald (k := k) rfl rfl (by omega) rfl dX10_term_47 rfl ?_
          refine vs_topi (fun z1 e_z1 => ?_)
          have f_z1 : z1 = nI (aB a k) := (by rw [e_z1]; exact mB k (by omega))
          subst f_z1
          clear e_z1
          exact vs_iretP dX10_term_48 (mpost (v := (aB a k : Int)) (a' := a) (by unfold sp_term; (try simp only [Int.toNat_natCast]); (repeat (first | rw [if_pos (by omega)] | rw [if_pos trivial] | rw [if_neg (by omega)])); rw [pz_n]) (by rw [nZ_n]) hM frM.rf)
        · have q_30 : (s : Int) = ((0 : Nat) : Int) := (qi_eq rfl (by first | exact nI_Z _ | (simp only [fa_lit, nI_add, pk_mul, nI_1]; exact nI_Z _)) (by omega) (by omega) (by omega) (by omega)).mp c_30
          refine vs_aload_n 0 dX10_term_33 rfl rfl 0 rfl ?_
          refine vs_get (v := .ref (G.2.2.2 + 132)) lf_X10_50 rfl rfl dX10_term_34 rfl ?_
          refine vs_iload_n 2 dX10_term_37 rfl rfl 2 rfl ?_
          refine vs_iald (k := k) rfl rfl (by omega) rfl dX10_term_38 rfl ?_
          refine vs_topi (fun z2 e_z2 => ?_)
          have f_z2 : z2 = nI (aA a k) := (by rw [e_z2]; exact mA k (by omega))
          subst f_z2
          clear e_z2
          refine vs_goto 48 dX10_term_39 rfl ?_
          exact vs_iretP dX10_term_48 (mpost (v := (aA a k : Int)) (a' := a) (by unfold sp_term; (try simp only [Int.toNat_natCast]); (repeat (first | rw [if_pos (by omega)] | rw [if_pos trivial] | rw [if_neg (by omega)])); rw [pz_n]) (by rw [nZ_n]) hM frM.rf)
    · rw [nn_is0] at c_22
      refine vs_iconst (v := 0) dX10_term_25 rfl rfl ?_
      refine vs_goto 48 dX10_term_26 rfl ?_
      exact vs_iretP dX10_term_48 (mpost (v := 0) (a' := a) (by unfold sp_term; by_cases s0 : s = 0; rw [if_pos s0, pz_out gAz (by omega)]; rfl; rw [if_neg s0, if_pos (by omega), pz_out gBz (by omega)]; rfl) rfl hM frM.rf)
  · rw [nn_is0] at c_7
    refine vs_bipush (v := -102) dX10_term_10 rfl rfl ?_
    exact vs_iretP dX10_term_12 (mpost (v := -102) (a' := a) (by unfold sp_term; (try simp only [Int.toNat_natCast]); repeat (first | rw [if_pos (by omega)] | rw [if_pos trivial] | rw [if_neg (by omega)])) rfl hM frM.rf)

theorem M_value {G : vv_G} {S : vs_S} {a : aS} (hM : MSt S a) (hG : aG a) {x : Int} (hx1 : -2147483648 ≤ x) (hx2 : x < 2147483648) : vs_CP G yX10_value cX10_value 4 (some .int) { frames := 2, locals := 48 } [.ref (G.2.2.2 + 118), .int (nZ x)] S (fun r S2 => r = some (.int (nZ (sp_value a x).1)) ∧ MSt S2 (sp_value a x).2 ∧ frM S S2) := by
  refine vs_ofP [(0, .ref (G.2.2.2 + 118)), (1, .int (nZ x))] (by decide) rfl rfl ?_
  obtain ⟨⟨mP, mN, mH, mK0⟩, mK, mSh, mSe, ⟨mA, mB⟩, mX, mY⟩ := id hM
  obtain ⟨gP, gP2, gN, gH, gSe, gSh, gXY, gB31, gInj, gA, gB, gAz, gBz⟩ := hG
  have gP1 := gP.1
  have bx := nn_m_lt (v := x) (show 0 < aP a by omega)
  have vb : hv_ (aB a) (nn_m x (aP a)) (aP a) 42 0 < aP a := hv_b (by omega) 42 0 (by omega)
  have va : hv_ (aA a) (nn_m x (aP a)) (aP a) 42 0 < aP a := hv_b (by omega) 42 0 (by omega)
  have vi := ipw_lt (a := hv_ (aB a) (nn_m x (aP a)) (aP a) 42 0) gP1
  refine vs_aload_n 0 dX10_value_0 rfl rfl 0 rfl ?_
  refine vs_iload_n 1 dX10_value_1 rfl rfl 1 rfl ?_
  refine vs_i2l dX10_value_2 rfl ?_
  refine vs_callV (st := []) (c_restZ (z := x) (by rw [nn_i2l, nZ_i hx1 hx2]) mP gP1 gP2) lk_X10_135 lm_X10_rest rfl rfl rfl rfl (Nat.le_of_ble_eq_true rfl) rfl ⟨rfl, rfl⟩ dX10_value_3 rfl ?_
  show vs_V _ _ _ _ _ (.int (nI (nn_m x (aP a))) :: _) _
  refine vs_istore_n 2 [(2, .int (nI (nn_m x (aP a)))), (0, .ref (G.2.2.2 + 118)), (1, .int (nZ x))] dX10_value_6 rfl rfl rfl rfl ?_
  refine vs_aload_n 0 dX10_value_7 rfl rfl 1 rfl ?_
  refine vs_aload_n 0 dX10_value_8 rfl rfl 1 rfl ?_
  refine vs_get (v := .ref (G.2.2.2 + 133)) lf_X10_53 rfl rfl dX10_value_9 rfl ?_
  refine vs_iload_n 2 dX10_value_12 rfl rfl 0 rfl ?_
  refine vs_callV (st := []) (c_valueOf (o := 133) rfl mB (x := nn_m x (aP a)) mP gP1 gP2 gB bx gBz) lk_X10_206 lm_X10_valueOf rfl rfl rfl rfl (Nat.le_of_ble_eq_true rfl) rfl ⟨rfl, rfl⟩ dX10_value_13 rfl ?_
  show vs_V _ _ _ _ _ (.int (nI (hv_ (aB a) (nn_m x (aP a)) (aP a) 42 0)) :: _) _
  refine vs_istore_n 3 [(3, .int (nI (hv_ (aB a) (nn_m x (aP a)) (aP a) 42 0))), (2, .int (nI (nn_m x (aP a)))), (0, .ref (G.2.2.2 + 118)), (1, .int (nZ x))] dX10_value_16 rfl rfl rfl rfl ?_
  refine vs_iload_n 3 dX10_value_17 rfl rfl 0 rfl ?_
  refine vs_if_ne 25 dX10_value_18 rfl rfl (fun c_18 => ?_) (fun c_18 => ?_)
  · have q_18 : ¬ (((hv_ (aB a) (nn_m x (aP a)) (aP a) 42 0) : Nat) : Int) = ((0 : Nat) : Int) := fun hh => c_18 ((qi_eq (nI_Z _) (by first | exact nI_Z _ | (simp only [fa_lit, nI_add, pk_mul, nI_1]; exact nI_Z _)) (by omega) (by omega) (by omega) (by omega)).mpr hh)
    refine vs_aload_n 0 dX10_value_25 rfl rfl 2 rfl ?_
    refine vs_aload_n 0 dX10_value_26 rfl rfl 2 rfl ?_
    refine vs_aload_n 0 dX10_value_27 rfl rfl 2 rfl ?_
    refine vs_get (v := .ref (G.2.2.2 + 132)) lf_X10_50 rfl rfl dX10_value_28 rfl ?_
    refine vs_iload_n 2 dX10_value_31 rfl rfl 1 rfl ?_
    refine vs_callV (st := [.ref (G.2.2.2 + 118)]) (c_valueOf (o := 132) rfl mA (x := nn_m x (aP a)) mP gP1 gP2 gA bx gAz) lk_X10_206 lm_X10_valueOf rfl rfl rfl rfl (Nat.le_of_ble_eq_true rfl) rfl ⟨rfl, rfl⟩ dX10_value_32 rfl ?_
    show vs_V _ _ _ _ _ (.int (nI (hv_ (aA a) (nn_m x (aP a)) (aP a) 42 0)) :: _) _
    refine vs_aload_n 0 dX10_value_35 rfl rfl 2 rfl ?_
    refine vs_iload_n 3 dX10_value_36 rfl rfl 0 rfl ?_
    refine vs_callV (st := [.int (nI (hv_ (aA a) (nn_m x (aP a)) (aP a) 42 0)), .ref (G.2.2.2 + 118)]) (c_minverse (a := hv_ (aB a) (nn_m x (aP a)) (aP a) 42 0) mP gP1 gP2 vb) lk_X10_142 lm_X10_inverse rfl rfl rfl rfl (Nat.le_of_ble_eq_true rfl) rfl ⟨rfl, rfl⟩ dX10_value_37 rfl ?_
    show vs_V _ _ _ _ _ (.int (nI (ipw (hv_ (aB a) (nn_m x (aP a)) (aP a) 42 0) (aP a))) :: _) _
    refine vs_callV (st := []) (c_product (x := hv_ (aA a) (nn_m x (aP a)) (aP a) 42 0) (y := ipw (hv_ (aB a) (nn_m x (aP a)) (aP a) 42 0) (aP a)) mP (by omega) (by omega) (by omega) (by omega)) lk_X10_99 lm_X10_product rfl rfl rfl rfl (Nat.le_of_ble_eq_true rfl) rfl ⟨rfl, rfl⟩ dX10_value_40 rfl ?_
    show vs_V _ _ _ _ _ (.int (nI (hv_ (aA a) (nn_m x (aP a)) (aP a) 42 0 * ipw (hv_ (aB a) (nn_m x (aP a)) (aP a) 42 0) (aP a) % aP a)) :: _) _
    exact vs_iretP dX10_value_43 (mpost (v := ((hv_ (aA a) (nn_m x (aP a)) (aP a) 42 0 * ipw (hv_ (aB a) (nn_m x (aP a)) (aP a) 42 0) (aP a) % aP a : Nat) : Int)) (a' := a) (by unfold sp_value; (try simp only [Int.toNat_natCast]); repeat (first | rw [if_pos (by omega)] | rw [if_pos trivial] | rw [if_neg (by omega)])) (by rw [nZ_n]) hM frM.rf)
  · have q_18 : (((hv_ (aB a) (nn_m x (aP a)) (aP a) 42 0) : Nat) : Int) = ((0 : Nat) : Int) := (qi_eq (nI_Z _) (by first | exact nI_Z _ | (simp only [fa_lit, nI_add, pk_mul, nI_1]; exact nI_Z _)) (by omega) (by omega) (by omega) (by omega)).mp c_18
    refine vs_iconst (v := -1) dX10_value_21 rfl rfl ?_
    refine vs_goto 43 dX10_value_22 rfl ?_
    exact vs_iretP dX10_value_43 (mpost (v := -1) (a' := a) (by unfold sp_value; (try simp only [Int.toNat_natCast]); repeat (first | rw [if_pos (by omega)] | rw [if_pos trivial] | rw [if_neg (by omega)])) rfl hM frM.rf)

theorem M_cause {G : vv_G} {S : vs_S} {a : aS} (hM : MSt S a) (hG : aG a) : vs_CP G yX10_cause cX10_cause 1 (some .int) { frames := 0, locals := 0 } [.ref (G.2.2.2 + 118)] S (fun r S2 => r = some (.int (nZ (sp_cause a).1)) ∧ MSt S2 (sp_cause a).2 ∧ frM S S2) := by
  refine vs_ofP [(0, .ref (G.2.2.2 + 118))] (by decide) rfl rfl ?_
  obtain ⟨⟨mP, mN, mH, mK0⟩, mK, mSh, mSe, ⟨mA, mB⟩, mX, mY⟩ := id hM
  obtain ⟨gP, gP2, gN, gH, gSe, gSh, gXY, gB31, gInj, gA, gB, gAz, gBz⟩ := hG
  have gP1 := gP.1
  refine vs_aload_n 0 dX10_cause_0 rfl rfl 0 rfl ?_
  refine vs_get (v := .int (aK a 0)) lf_X10_96 rfl (congrArg (fun z => some (Value.int z)) mK0) dX10_cause_1 rfl ?_
  exact vs_iretP dX10_cause_4 (mpost (x := sp_cause a) rfl (by rw [nZ_of]) hM frM.rf)

theorem M_causes {G : vv_G} {S : vs_S} {a : aS} (hM : MSt S a) (hG : aG a) {c : Int} (hc1 : -2147483648 ≤ c) (hc2 : c < 2147483648) : vs_CP G yX10_causes cX10_causes 2 (some .int) { frames := 1, locals := 25 } [.ref (G.2.2.2 + 118), .int (nZ c)] S (fun r S2 => r = some (.int (nZ (sp_causes a c).1)) ∧ MSt S2 (sp_causes a c).2 ∧ frM S S2) := by
  refine vs_ofP [(0, .ref (G.2.2.2 + 118)), (1, .int (nZ c))] (by decide) rfl rfl ?_
  obtain ⟨⟨mP, mN, mH, mK0⟩, mK, mSh, mSe, ⟨mA, mB⟩, mX, mY⟩ := id hM
  obtain ⟨gP, gP2, gN, gH, gSe, gSh, gXY, gB31, gInj, gA, gB, gAz, gBz⟩ := hG
  have gP1 := gP.1
  refine vs_iload_n 1 dX10_causes_0 rfl rfl 1 rfl ?_
  refine vs_i2l dX10_causes_1 rfl ?_
  refine vs_lconst (v := 1) dX10_causes_2 rfl rfl ?_
  refine vs_ldc2 lc_X10_211 dX10_causes_3 rfl ?_
  refine vs_callS (st := []) (c_inZ (z := c) (x := 1) (y := 5) (by rw [nn_i2l, nZ_i hc1 hc2]) rfl rfl) lk_X10_107 lm_X10_in rfl rfl (Nat.le_of_ble_eq_true rfl) rfl ⟨rfl, rfl⟩ dX10_causes_6 rfl ?_
  show vs_V _ _ _ _ _ (.int ((if 1 ≤ c ∧ c ≤ 5 then 1 else 0)) :: _) _
  refine vs_if_eq 21 dX10_causes_9 rfl rfl (fun c_9 => ?_) (fun c_9 => ?_)
  · rw [nn_is0] at c_9
    refine vs_bipush (v := -102) dX10_causes_21 rfl rfl ?_
    exact vs_iretP dX10_causes_23 (mpost (v := -102) (a' := a) (by unfold sp_causes; (try simp only [Int.toNat_natCast]); repeat (first | rw [if_pos (by omega)] | rw [if_pos trivial] | rw [if_neg (by omega)])) rfl hM frM.rf)
  · rw [nn_is0, Classical.not_not] at c_9
    skip
    · obtain ⟨c, rfl⟩ : ∃ z0 : Nat, c = z0 := ⟨c.toNat, by omega⟩
      rw [nZ_n c]
      refine vs_aload_n 0 dX10_causes_12 rfl rfl 0 rfl ?_
      refine vs_get (v := .ref (G.2.2.2 + 119)) lf_X10_7 rfl rfl dX10_causes_13 rfl ?_
      refine vs_iload_n 1 dX10_causes_16 rfl rfl 1 rfl ?_
      refine vs_iald (k := c) rfl rfl (by omega) rfl dX10_causes_17 rfl ?_
      refine vs_topi (fun z1 e_z1 => ?_)
      have f_z1 : z1 = aK a c := (by rw [e_z1]; exact mK c (by omega) (by omega))
      subst f_z1
      clear e_z1
      refine vs_goto 23 dX10_causes_18 rfl ?_
      exact vs_iretP dX10_causes_23 (mpost (v := (aK a c).toInt) (a' := a) (by unfold sp_causes; (try simp only [Int.toNat_natCast]); repeat (first | rw [if_pos (by omega)] | rw [if_pos trivial] | rw [if_neg (by omega)])) (by rw [nZ_of]) hM frM.rf)

theorem l_mcount {G : vv_G} {S : vs_S} {w : Int} {lo ln : Nat → Nat} (hl : ∀ s, s < 4 → S.2.1 120 s = mLn (lo s) (ln s)) (hln : ∀ s, s < 4 → ln s ≤ 3) {Pst : Option Value → vs_S → Prop} (K : vs_V G cX10_count (vs_MP yX10_count 4 (some .int) { frames := 0, locals := 0 } G Pst) 33 [(2, .int (nI (prs lo 4))), (0, .ref (G.2.2.2 + 118)), (1, .int (nZ w))] [] S) : ∀ d s : Nat, s + d = 4 → vs_V G cX10_count (vs_MP yX10_count 4 (some .int) { frames := 0, locals := 0 } G Pst) 4 [(3, .int (nI s)), (2, .int (nI (prs lo s))), (0, .ref (G.2.2.2 + 118)), (1, .int (nZ w))] [] S := by
  intro d
  induction d with
  | zero =>
    intro s hs
    obtain rfl : s = 4 := by omega
    refine vs_iload_n 3 dX10_count_4 rfl rfl 0 rfl ?_
    refine vs_iconst (v := 4) dX10_count_5 rfl rfl ?_
    refine vs_icmp_ge 33 dX10_count_6 rfl rfl (fun c_6 => ?_) (fun c_6 => ?_)
    · have q_6 : ((4 : Nat) : Int) ≥ ((4 : Nat) : Int) := (qi_ge (nI_Z _) (by first | exact nI_Z _ | (simp only [fa_lit, nI_add, pk_mul, nI_1]; exact nI_Z _)) (by omega) (by omega) (by omega) (by omega)).mp c_6
      refine vs_pick [1, 2, 3] rfl ?_
      exact K
    · have q_6 : ¬ ((4 : Nat) : Int) ≥ ((4 : Nat) : Int) := fun hh => c_6 ((qi_ge (nI_Z _) (by first | exact nI_Z _ | (simp only [fa_lit, nI_add, pk_mul, nI_1]; exact nI_Z _)) (by omega) (by omega) (by omega) (by omega)).mpr hh)
      omega
  | succ d ih =>
    intro s hs
    have h1 := hl s (by omega)
    have h2 := hln s (by omega)
    have h3 := prs_le lo s
    refine vs_iload_n 3 dX10_count_4 rfl rfl 0 rfl ?_
    refine vs_iconst (v := 4) dX10_count_5 rfl rfl ?_
    refine vs_icmp_ge 33 dX10_count_6 rfl rfl (fun c_6 => ?_) (fun c_6 => ?_)
    · have q_6 : ((s : Nat) : Int) ≥ ((4 : Nat) : Int) := (qi_ge (nI_Z _) (by first | exact nI_Z _ | (simp only [fa_lit, nI_add, pk_mul, nI_1]; exact nI_Z _)) (by omega) (by omega) (by omega) (by omega)).mp c_6
      omega
    · have q_6 : ¬ ((s : Nat) : Int) ≥ ((4 : Nat) : Int) := fun hh => c_6 ((qi_ge (nI_Z _) (by first | exact nI_Z _ | (simp only [fa_lit, nI_add, pk_mul, nI_1]; exact nI_Z _)) (by omega) (by omega) (by omega) (by omega)).mpr hh)
      by_cases e : lo s = 0
      · have e1 : prs lo (s + 1) = prs lo s + 1 := if_pos e
        have h4 : S.2.1 120 s = nI (ln s) := by rw [h1]; exact if_pos e
        refine vs_iload_n 2 dX10_count_9 rfl rfl 1 rfl ?_
        refine vs_aload_n 0 dX10_count_10 rfl rfl 2 rfl ?_
        refine vs_get (v := .ref (G.2.2.2 + 120)) lf_X10_13 rfl rfl dX10_count_11 rfl ?_
        refine vs_iload_n 3 dX10_count_14 rfl rfl 0 rfl ?_
        refine vs_iald (k := s) rfl rfl (by omega) rfl dX10_count_15 rfl ?_
        refine vs_topi (fun z1 e_z1 => ?_)
        have f_z1 : z1 = nI (ln s) := (by rw [e_z1]; exact h4)
        subst f_z1
        clear e_z1
        refine vs_iconst (v := -1) dX10_count_16 rfl rfl ?_
        refine vs_icmp_ne 24 dX10_count_17 rfl rfl (fun c_17 => ?_) (fun c_17 => ?_)
        · have q_17 : ¬ (((ln s) : Nat) : Int) = (-1 : Int) := fun hh => c_17 ((qi_eq (nI_Z _) rfl (by omega) (by omega) (by omega) (by omega)).mpr hh)
          refine vs_iconst (v := 1) dX10_count_24 rfl rfl ?_
          refine vs_iadd dX10_count_25 rfl ?_
          refine vs_topi (fun z2 e_z2 => ?_)
          have f_z2 : z2 = nI (prs lo s + 1) := (by rw [e_z2]; exact nI_1 _)
          subst f_z2
          clear e_z2
          refine vs_istore_n 2 [(2, .int (nI (prs lo s + 1))), (3, .int (nI s)), (0, .ref (G.2.2.2 + 118)), (1, .int (nZ w))] dX10_count_26 rfl rfl rfl rfl ?_
          refine vs_iinc (v := nI (s + 1)) [(3, .int (nI (s + 1))), (2, .int (nI (prs lo s + 1))), (0, .ref (G.2.2.2 + 118)), (1, .int (nZ w))] dX10_count_27 rfl 1 rfl (by first | exact nI_1 _ | (simp only [fa_lit, nI_add, pk_mul, nI_1]; rfl)) rfl rfl ?_
          refine vs_goto 4 dX10_count_30 rfl ?_
          refine vs_pick [0, 1, 2, 3] rfl ?_
          have := ih (s + 1) (by omega)
          rw [e1] at this
          exact this
        · have q_17 : (((ln s) : Nat) : Int) = (-1 : Int) := (qi_eq (nI_Z _) rfl (by omega) (by omega) (by omega) (by omega)).mp c_17
          omega
      · have e1 : prs lo (s + 1) = prs lo s := if_neg e
        have h4 : S.2.1 120 s = nZ (-1) := by rw [h1]; exact if_neg e
        refine vs_iload_n 2 dX10_count_9 rfl rfl 1 rfl ?_
        refine vs_aload_n 0 dX10_count_10 rfl rfl 2 rfl ?_
        refine vs_get (v := .ref (G.2.2.2 + 120)) lf_X10_13 rfl rfl dX10_count_11 rfl ?_
        refine vs_iload_n 3 dX10_count_14 rfl rfl 0 rfl ?_
        refine vs_iald (k := s) rfl rfl (by omega) rfl dX10_count_15 rfl ?_
        refine vs_topi (fun z3 e_z3 => ?_)
        have f_z3 : z3 = nZ (-1) := (by rw [e_z3]; exact h4)
        subst f_z3
        clear e_z3
        refine vs_iconst (v := -1) dX10_count_16 rfl rfl ?_
        refine vs_icmp_ne 24 dX10_count_17 rfl rfl (fun c_17 => ?_) (fun c_17 => ?_)
        · have q_17 : ¬ ((-1) : Int) = (-1 : Int) := fun hh => c_17 ((qi_eq rfl rfl (by omega) (by omega) (by omega) (by omega)).mpr hh)
          omega
        · have q_17 : ((-1) : Int) = (-1 : Int) := (qi_eq rfl rfl (by omega) (by omega) (by omega) (by omega)).mp c_17
          refine vs_iconst (v := 0) dX10_count_20 rfl rfl ?_
          refine vs_goto 25 dX10_count_21 rfl ?_
          refine vs_iadd dX10_count_25 rfl ?_
          refine vs_topi (fun z4 e_z4 => ?_)
          have f_z4 : z4 = nI (prs lo s) := (by rw [e_z4, show (0 : Int32) = nI 0 from rfl, nI_add, Nat.add_zero])
          subst f_z4
          clear e_z4
          refine vs_istore_n 2 [(2, .int (nI (prs lo s))), (3, .int (nI s)), (0, .ref (G.2.2.2 + 118)), (1, .int (nZ w))] dX10_count_26 rfl rfl rfl rfl ?_
          refine vs_iinc (v := nI (s + 1)) [(3, .int (nI (s + 1))), (2, .int (nI (prs lo s))), (0, .ref (G.2.2.2 + 118)), (1, .int (nZ w))] dX10_count_27 rfl 1 rfl (by first | exact nI_1 _ | (simp only [fa_lit, nI_add, pk_mul, nI_1]; rfl)) rfl rfl ?_
          refine vs_goto 4 dX10_count_30 rfl ?_
          refine vs_pick [0, 1, 2, 3] rfl ?_
          have := ih (s + 1) (by omega)
          rw [e1] at this
          exact this

theorem M_count {G : vv_G} {S : vs_S} {a : aS} (hM : MSt S a) (hG : aG a) {w : Int} (hw1 : -2147483648 ≤ w) (hw2 : w < 2147483648) : vs_CP G yX10_count cX10_count 4 (some .int) { frames := 0, locals := 0 } [.ref (G.2.2.2 + 118), .int (nZ w)] S (fun r S2 => r = some (.int (nZ (sp_count a w).1)) ∧ MSt S2 (sp_count a w).2 ∧ frM S S2) := by
  refine vs_ofP [(0, .ref (G.2.2.2 + 118)), (1, .int (nZ w))] (by decide) rfl rfl ?_
  obtain ⟨⟨mP, mN, mH, mK0⟩, mK, mSh, mSe, ⟨mA, mB⟩, mX, mY⟩ := id hM
  obtain ⟨gP, gP2, gN, gH, gSe, gSh, gXY, gB31, gInj, gA, gB, gAz, gBz⟩ := hG
  have gP1 := gP.1
  have pl := prs_le (aLo a) 4
  refine vs_iconst (v := 0) dX10_count_0 rfl rfl ?_
  refine vs_istore_n 2 [(2, .int (0)), (0, .ref (G.2.2.2 + 118)), (1, .int (nZ w))] dX10_count_1 rfl rfl rfl rfl ?_
  refine vs_iconst (v := 0) dX10_count_2 rfl rfl ?_
  refine vs_istore_n 3 [(3, .int (0)), (2, .int (0)), (0, .ref (G.2.2.2 + 118)), (1, .int (nZ w))] dX10_count_3 rfl rfl rfl rfl ?_
  refine vs_pick (L2 := [(3, .int (nI 0)), (2, .int (nI 0)), (0, .ref (G.2.2.2 + 118)), (1, .int (nZ w))]) [0, 1, 2, 3] rfl ?_
  refine l_mcount (lo := aLo a) (ln := aLn a) (fun s hs => (mSh s hs).1) (fun s hs => (gSh s hs).2.1) ?_ 4 0 rfl
  refine vs_iload_n 1 dX10_count_33 rfl rfl 2 rfl ?_
  refine vs_if_ne 44 dX10_count_34 rfl rfl (fun c_34 => ?_) (fun c_34 => ?_)
  · have q_34 : ¬ (w : Int) = ((0 : Nat) : Int) := fun hh => c_34 ((qi_eq rfl (by first | exact nI_Z _ | (simp only [fa_lit, nI_add, pk_mul, nI_1]; exact nI_Z _)) (by omega) (by omega) (by omega) (by omega)).mpr hh)
    refine vs_iload_n 1 dX10_count_44 rfl rfl 2 rfl ?_
    refine vs_iconst (v := 1) dX10_count_45 rfl rfl ?_
    refine vs_icmp_ne 56 dX10_count_46 rfl rfl (fun c_46 => ?_) (fun c_46 => ?_)
    · have q_46 : ¬ (w : Int) = ((1 : Nat) : Int) := fun hh => c_46 ((qi_eq rfl (by first | exact nI_Z _ | (simp only [fa_lit, nI_add, pk_mul, nI_1]; exact nI_Z _)) (by omega) (by omega) (by omega) (by omega)).mpr hh)
      refine vs_iload_n 1 dX10_count_56 rfl rfl 2 rfl ?_
      refine vs_iconst (v := 2) dX10_count_57 rfl rfl ?_
      refine vs_icmp_ne 68 dX10_count_58 rfl rfl (fun c_58 => ?_) (fun c_58 => ?_)
      · have q_58 : ¬ (w : Int) = ((2 : Nat) : Int) := fun hh => c_58 ((qi_eq rfl (by first | exact nI_Z _ | (simp only [fa_lit, nI_add, pk_mul, nI_1]; exact nI_Z _)) (by omega) (by omega) (by omega) (by omega)).mpr hh)
        refine vs_iload_n 1 dX10_count_68 rfl rfl 2 rfl ?_
        refine vs_iconst (v := 3) dX10_count_69 rfl rfl ?_
        refine vs_icmp_ne 77 dX10_count_70 rfl rfl (fun c_70 => ?_) (fun c_70 => ?_)
        · have q_70 : ¬ (w : Int) = ((3 : Nat) : Int) := fun hh => c_70 ((qi_eq rfl (by first | exact nI_Z _ | (simp only [fa_lit, nI_add, pk_mul, nI_1]; exact nI_Z _)) (by omega) (by omega) (by omega) (by omega)).mpr hh)
          refine vs_bipush (v := -102) dX10_count_77 rfl rfl ?_
          exact vs_iretP dX10_count_79 (mpost (v := -102) (a' := a) (by unfold sp_count; (try simp only [Int.toNat_natCast]); repeat (first | rw [if_pos (by omega)] | rw [if_pos trivial] | rw [if_neg (by omega)])) rfl hM frM.rf)
        · have q_70 : (w : Int) = ((3 : Nat) : Int) := (qi_eq rfl (by first | exact nI_Z _ | (simp only [fa_lit, nI_add, pk_mul, nI_1]; exact nI_Z _)) (by omega) (by omega) (by omega) (by omega)).mp c_70
          refine vs_iload_n 2 dX10_count_73 rfl rfl 0 rfl ?_
          refine vs_goto 79 dX10_count_74 rfl ?_
          exact vs_iretP dX10_count_79 (mpost (v := (prs (aLo a) 4 : Int)) (a' := a) (by unfold sp_count; (try simp only [Int.toNat_natCast]); repeat (first | rw [if_pos (by omega)] | rw [if_pos trivial] | rw [if_neg (by omega)])) (by rw [nZ_n]) hM frM.rf)
      · have q_58 : (w : Int) = ((2 : Nat) : Int) := (qi_eq rfl (by first | exact nI_Z _ | (simp only [fa_lit, nI_add, pk_mul, nI_1]; exact nI_Z _)) (by omega) (by omega) (by omega) (by omega)).mp c_58
        refine vs_aload_n 0 dX10_count_61 rfl rfl 1 rfl ?_
        refine vs_get (v := .int (nI (aH a))) lf_X10_118 rfl (congrArg (fun z => some (Value.int z)) mH) dX10_count_62 rfl ?_
        refine vs_goto 79 dX10_count_65 rfl ?_
        exact vs_iretP dX10_count_79 (mpost (v := (aH a : Int)) (a' := a) (by unfold sp_count; (try simp only [Int.toNat_natCast]); repeat (first | rw [if_pos (by omega)] | rw [if_pos trivial] | rw [if_neg (by omega)])) (by rw [nZ_n]) hM frM.rf)
    · have q_46 : (w : Int) = ((1 : Nat) : Int) := (qi_eq rfl (by first | exact nI_Z _ | (simp only [fa_lit, nI_add, pk_mul, nI_1]; exact nI_Z _)) (by omega) (by omega) (by omega) (by omega)).mp c_46
      refine vs_aload_n 0 dX10_count_49 rfl rfl 1 rfl ?_
      refine vs_get (v := .int (nI (aN a))) lf_X10_115 rfl (congrArg (fun z => some (Value.int z)) mN) dX10_count_50 rfl ?_
      refine vs_goto 79 dX10_count_53 rfl ?_
      exact vs_iretP dX10_count_79 (mpost (v := (aN a : Int)) (a' := a) (by unfold sp_count; (try simp only [Int.toNat_natCast]); repeat (first | rw [if_pos (by omega)] | rw [if_pos trivial] | rw [if_neg (by omega)])) (by rw [nZ_n]) hM frM.rf)
  · have q_34 : (w : Int) = ((0 : Nat) : Int) := (qi_eq rfl (by first | exact nI_Z _ | (simp only [fa_lit, nI_add, pk_mul, nI_1]; exact nI_Z _)) (by omega) (by omega) (by omega) (by omega)).mp c_34
    refine vs_aload_n 0 dX10_count_37 rfl rfl 1 rfl ?_
    refine vs_get (v := .int (nI (aP a))) lf_X10_92 rfl (congrArg (fun z => some (Value.int z)) mP) dX10_count_38 rfl ?_
    refine vs_goto 79 dX10_count_41 rfl ?_
    exact vs_iretP dX10_count_79 (mpost (v := (aP a : Int)) (a' := a) (by unfold sp_count; (try simp only [Int.toNat_natCast]); repeat (first | rw [if_pos (by omega)] | rw [if_pos trivial] | rw [if_neg (by omega)])) (by rw [nZ_n]) hM frM.rf)

theorem l_md5 {G : vv_G} {S : vs_S} {a : aS} (hM : MSt S a) (hG : aG a) {r : Option Value} {Sf : vs_S} (hr : r = some (.long (sp_digest a))) (hS : S = Sf) : ∀ d i : Nat, i + d = tp (aB a) 42 → vs_V G cX10_digest (vs_M yX10_digest 6 (some .long) { frames := 1, locals := 22 } G r Sf) 272 [(5, .int (nI i)), (4, .int (nZ ((tp (aB a) 42 : Int) - 1))), (1, .long (mx (fun k => (nI (aB a k)).toInt64) (mx (fun k => (nI (aA a k)).toInt64) (dgr a) (tp (aA a) 42)) i)), (0, .ref (G.2.2.2 + 118))] [] S := by
  obtain ⟨⟨mP, mN, mH, mK0⟩, mK, mSh, mSe, ⟨mA, mB⟩, mX, mY⟩ := id hM
  obtain ⟨gP, gP2, gN, gH, gSe, gSh, gXY, gB31, gInj, gA, gB, gAz, gBz⟩ := hG
  have gP1 := gP.1
  have t2 := tp_le (aB a) 42
  intro d
  induction d with
  | zero =>
    intro i hi
    obtain rfl : i = tp (aB a) 42 := by omega
    refine vs_iload dX10_digest_272 rfl 0 rfl ?_
    refine vs_iload dX10_digest_274 rfl 1 rfl ?_
    refine vs_icmp_gt 300 dX10_digest_276 rfl rfl (fun c_276 => ?_) (fun c_276 => ?_)
    · have q_276 : (((tp (aB a) 42) : Nat) : Int) > (((tp (aB a) 42 : Int) - 1) : Int) := (qi_gt (nI_Z _) rfl (by omega) (by omega) (by omega) (by omega)).mp c_276
      refine vs_lload_n 1 dX10_digest_300 rfl rfl 2 rfl ?_
      exact vs_lret dX10_digest_301 hr hS
    · have q_276 : ¬ (((tp (aB a) 42) : Nat) : Int) > (((tp (aB a) 42 : Int) - 1) : Int) := fun hh => c_276 ((qi_gt (nI_Z _) rfl (by omega) (by omega) (by omega) (by omega)).mpr hh)
      omega
  | succ d ih =>
    intro i hi
    refine vs_iload dX10_digest_272 rfl 0 rfl ?_
    refine vs_iload dX10_digest_274 rfl 1 rfl ?_
    refine vs_icmp_gt 300 dX10_digest_276 rfl rfl (fun c_276 => ?_) (fun c_276 => ?_)
    · have q_276 : ((i : Nat) : Int) > (((tp (aB a) 42 : Int) - 1) : Int) := (qi_gt (nI_Z _) rfl (by omega) (by omega) (by omega) (by omega)).mp c_276
      omega
    · have q_276 : ¬ ((i : Nat) : Int) > (((tp (aB a) 42 : Int) - 1) : Int) := fun hh => c_276 ((qi_gt (nI_Z _) rfl (by omega) (by omega) (by omega) (by omega)).mpr hh)
      refine vs_ldc2 lc_X10_215 dX10_digest_279 rfl ?_
      refine vs_lload_n 1 dX10_digest_282 rfl rfl 2 rfl ?_
      refine vs_lmul dX10_digest_283 rfl ?_
      refine vs_aload_n 0 dX10_digest_284 rfl rfl 3 rfl ?_
      refine vs_get (v := .ref (G.2.2.2 + 133)) lf_X10_53 rfl rfl dX10_digest_285 rfl ?_
      refine vs_iload dX10_digest_288 rfl 0 rfl ?_
      refine vs_iald (k := i) rfl rfl (by omega) rfl dX10_digest_290 rfl ?_
      refine vs_topi (fun z1 e_z1 => ?_)
      have f_z1 : z1 = nI (aB a i) := (by rw [e_z1]; exact mB i (by omega))
      subst f_z1
      clear e_z1
      refine vs_i2l dX10_digest_291 rfl ?_
      refine vs_ladd dX10_digest_292 rfl ?_
      refine vs_topl (fun z2 e_z2 => ?_)
      have f_z2 : z2 = mx (fun k => (nI (aB a k)).toInt64) (mx (fun k => (nI (aA a k)).toInt64) (dgr a) (tp (aA a) 42)) (i + 1) := (by rw [e_z2]; rfl)
      subst f_z2
      clear e_z2
      refine vs_topl (fun hh e_hh => ?_)
      have e2_hh : hh = mx (fun k => (nI (aB a k)).toInt64) (mx (fun k => (nI (aA a k)).toInt64) (dgr a) (tp (aA a) 42)) (i + 1) := e_hh
      clear e_hh
      subst e2_hh
      refine vs_lstore_n 1 [(1, .long (mx (fun k => (nI (aB a k)).toInt64) (mx (fun k => (nI (aA a k)).toInt64) (dgr a) (tp (aA a) 42)) (i + 1))), (5, .int (nI i)), (4, .int (nZ ((tp (aB a) 42 : Int) - 1))), (0, .ref (G.2.2.2 + 118))] dX10_digest_293 rfl rfl rfl rfl ?_
      refine vs_iinc (v := nI (i + 1)) [(5, .int (nI (i + 1))), (1, .long (mx (fun k => (nI (aB a k)).toInt64) (mx (fun k => (nI (aA a k)).toInt64) (dgr a) (tp (aA a) 42)) (i + 1))), (4, .int (nZ ((tp (aB a) 42 : Int) - 1))), (0, .ref (G.2.2.2 + 118))] dX10_digest_294 rfl 1 rfl (by first | exact nI_1 _ | (simp only [fa_lit, nI_add, pk_mul, nI_1]; rfl)) rfl rfl ?_
      refine vs_goto 272 dX10_digest_297 rfl ?_
      refine vs_pick [0, 2, 1, 3] rfl ?_
      exact ih (i + 1) (by omega)

theorem l_md4 {G : vv_G} {S : vs_S} {a : aS} (hM : MSt S a) (hG : aG a) {r : Option Value} {Sf : vs_S} (hr : r = some (.long (sp_digest a))) (hS : S = Sf) : ∀ d i : Nat, i + d = tp (aA a) 42 → vs_V G cX10_digest (vs_M yX10_digest 6 (some .long) { frames := 1, locals := 22 } G r Sf) 242 [(5, .int (nI i)), (4, .int (nZ ((tp (aB a) 42 : Int) - 1))), (3, .int (nZ ((tp (aA a) 42 : Int) - 1))), (1, .long (mx (fun k => (nI (aA a k)).toInt64) (dgr a) i)), (0, .ref (G.2.2.2 + 118))] [] S := by
  have hG0 := hG
  obtain ⟨⟨mP, mN, mH, mK0⟩, mK, mSh, mSe, ⟨mA, mB⟩, mX, mY⟩ := id hM
  obtain ⟨gP, gP2, gN, gH, gSe, gSh, gXY, gB31, gInj, gA, gB, gAz, gBz⟩ := hG
  have gP1 := gP.1
  have t2 := tp_le (aA a) 42
  intro d
  induction d with
  | zero =>
    intro i hi
    obtain rfl : i = tp (aA a) 42 := by omega
    refine vs_iload dX10_digest_242 rfl 0 rfl ?_
    refine vs_iload_n 3 dX10_digest_244 rfl rfl 2 rfl ?_
    refine vs_icmp_gt 269 dX10_digest_245 rfl rfl (fun c_245 => ?_) (fun c_245 => ?_)
    · have q_245 : (((tp (aA a) 42) : Nat) : Int) > (((tp (aA a) 42 : Int) - 1) : Int) := (qi_gt (nI_Z _) rfl (by omega) (by omega) (by omega) (by omega)).mp c_245
      refine vs_iconst (v := 0) dX10_digest_269 rfl rfl ?_
      refine vs_istore [(5, .int (0)), (4, .int (nZ ((tp (aB a) 42 : Int) - 1))), (3, .int (nZ ((tp (aA a) 42 : Int) - 1))), (1, .long (mx (fun k => (nI (aA a k)).toInt64) (dgr a) (tp (aA a) 42))), (0, .ref (G.2.2.2 + 118))] dX10_digest_270 rfl rfl rfl ?_
      refine vs_pick (L2 := [(5, .int (nI 0)), (4, .int (nZ ((tp (aB a) 42 : Int) - 1))), (1, .long (mx (fun k => (nI (aB a k)).toInt64) (mx (fun k => (nI (aA a k)).toInt64) (dgr a) (tp (aA a) 42)) 0)), (0, .ref (G.2.2.2 + 118))]) [0, 1, 3, 4] rfl ?_
      exact l_md5 hM hG0 hr hS (tp (aB a) 42) 0 (by omega)
    · have q_245 : ¬ (((tp (aA a) 42) : Nat) : Int) > (((tp (aA a) 42 : Int) - 1) : Int) := fun hh => c_245 ((qi_gt (nI_Z _) rfl (by omega) (by omega) (by omega) (by omega)).mpr hh)
      omega
  | succ d ih =>
    intro i hi
    refine vs_iload dX10_digest_242 rfl 0 rfl ?_
    refine vs_iload_n 3 dX10_digest_244 rfl rfl 2 rfl ?_
    refine vs_icmp_gt 269 dX10_digest_245 rfl rfl (fun c_245 => ?_) (fun c_245 => ?_)
    · have q_245 : ((i : Nat) : Int) > (((tp (aA a) 42 : Int) - 1) : Int) := (qi_gt (nI_Z _) rfl (by omega) (by omega) (by omega) (by omega)).mp c_245
      omega
    · have q_245 : ¬ ((i : Nat) : Int) > (((tp (aA a) 42 : Int) - 1) : Int) := fun hh => c_245 ((qi_gt (nI_Z _) rfl (by omega) (by omega) (by omega) (by omega)).mpr hh)
      refine vs_ldc2 lc_X10_215 dX10_digest_248 rfl ?_
      refine vs_lload_n 1 dX10_digest_251 rfl rfl 3 rfl ?_
      refine vs_lmul dX10_digest_252 rfl ?_
      refine vs_aload_n 0 dX10_digest_253 rfl rfl 4 rfl ?_
      refine vs_get (v := .ref (G.2.2.2 + 132)) lf_X10_50 rfl rfl dX10_digest_254 rfl ?_
      refine vs_iload dX10_digest_257 rfl 0 rfl ?_
      refine vs_iald (k := i) rfl rfl (by omega) rfl dX10_digest_259 rfl ?_
      refine vs_topi (fun z1 e_z1 => ?_)
      have f_z1 : z1 = nI (aA a i) := (by rw [e_z1]; exact mA i (by omega))
      subst f_z1
      clear e_z1
      refine vs_i2l dX10_digest_260 rfl ?_
      refine vs_ladd dX10_digest_261 rfl ?_
      refine vs_topl (fun z2 e_z2 => ?_)
      have f_z2 : z2 = mx (fun k => (nI (aA a k)).toInt64) (dgr a) (i + 1) := (by rw [e_z2]; rfl)
      subst f_z2
      clear e_z2
      refine vs_topl (fun hh e_hh => ?_)
      have e2_hh : hh = mx (fun k => (nI (aA a k)).toInt64) (dgr a) (i + 1) := e_hh
      clear e_hh
      subst e2_hh
      refine vs_lstore_n 1 [(1, .long (mx (fun k => (nI (aA a k)).toInt64) (dgr a) (i + 1))), (5, .int (nI i)), (4, .int (nZ ((tp (aB a) 42 : Int) - 1))), (3, .int (nZ ((tp (aA a) 42 : Int) - 1))), (0, .ref (G.2.2.2 + 118))] dX10_digest_262 rfl rfl rfl rfl ?_
      refine vs_iinc (v := nI (i + 1)) [(5, .int (nI (i + 1))), (1, .long (mx (fun k => (nI (aA a k)).toInt64) (dgr a) (i + 1))), (4, .int (nZ ((tp (aB a) 42 : Int) - 1))), (3, .int (nZ ((tp (aA a) 42 : Int) - 1))), (0, .ref (G.2.2.2 + 118))] dX10_digest_263 rfl 1 rfl (by first | exact nI_1 _ | (simp only [fa_lit, nI_add, pk_mul, nI_1]; rfl)) rfl rfl ?_
      refine vs_goto 242 dX10_digest_266 rfl ?_
      refine vs_pick [0, 2, 3, 1, 4] rfl ?_
      exact ih (i + 1) (by omega)

theorem l_md3 {G : vv_G} {S : vs_S} {a : aS} (hM : MSt S a) (hG : aG a) {r : Option Value} {Sf : vs_S} (hr : r = some (.long (sp_digest a))) (hS : S = Sf) : ∀ d i : Nat, i + d = aH a → vs_V G cX10_digest (vs_M yX10_digest 6 (some .long) { frames := 1, locals := 22 } G r Sf) 157 [(3, .int (nI i)), (1, .long (mx2 (fun k => (nI (aX a k)).toInt64) (fun k => (nI (aY a k)).toInt64) (dgf a (aN a)) i)), (0, .ref (G.2.2.2 + 118))] [] S := by
  have hG0 := hG
  obtain ⟨⟨mP, mN, mH, mK0⟩, mK, mSh, mSe, ⟨mA, mB⟩, mX, mY⟩ := id hM
  obtain ⟨gP, gP2, gN, gH, gSe, gSh, gXY, gB31, gInj, gA, gB, gAz, gBz⟩ := hG
  have gP1 := gP.1
  have t1 := tp_le (aA a) 42
  have t2 := tp_le (aB a) 42
  intro d
  induction d with
  | zero =>
    intro i hi
    obtain rfl : i = aH a := by omega
    refine vs_iload_n 3 dX10_digest_157 rfl rfl 0 rfl ?_
    refine vs_aload_n 0 dX10_digest_158 rfl rfl 2 rfl ?_
    refine vs_get (v := .int (nI (aH a))) lf_X10_118 rfl (congrArg (fun z => some (Value.int z)) mH) dX10_digest_159 rfl ?_
    refine vs_icmp_ge 199 dX10_digest_162 rfl rfl (fun c_162 => ?_) (fun c_162 => ?_)
    · have q_162 : (((aH a) : Nat) : Int) ≥ (((aH a) : Nat) : Int) := (qi_ge (nI_Z _) (nI_Z _) (by omega) (by omega) (by omega) (by omega)).mp c_162
      refine vs_aload_n 0 dX10_digest_199 rfl rfl 2 rfl ?_
      refine vs_get (v := .ref (G.2.2.2 + 132)) lf_X10_50 rfl rfl dX10_digest_200 rfl ?_
      refine vs_bipush (v := 45) dX10_digest_203 rfl rfl ?_
      refine vs_callS (st := []) (c_degreeOf (o := 132) (N := 46) (n := 45) (g := aA a) rfl (by decide) (by decide) mA (fun k => by have := gA k; omega)) lk_X10_167 lm_X10_degreeOf rfl rfl (Nat.le_of_ble_eq_true rfl) rfl ⟨rfl, rfl⟩ dX10_digest_205 rfl ?_
      rw [show (45 + 1) = 42 + 4 from rfl, tp_skip gAz 4]
      show vs_V _ _ _ _ _ (.int (nZ ((tp (aA a) 42 : Int) - 1)) :: _) _
      refine vs_topi (fun v3 e_v3 => ?_)
      have e2_v3 : v3 = nZ ((tp (aA a) 42 : Int) - 1) := e_v3
      clear e_v3
      subst e2_v3
      refine vs_istore_n 3 [(3, .int (nZ ((tp (aA a) 42 : Int) - 1))), (1, .long (mx2 (fun k => (nI (aX a k)).toInt64) (fun k => (nI (aY a k)).toInt64) (dgf a (aN a)) (aH a))), (0, .ref (G.2.2.2 + 118))] dX10_digest_208 rfl rfl rfl rfl ?_
      refine vs_aload_n 0 dX10_digest_209 rfl rfl 2 rfl ?_
      refine vs_get (v := .ref (G.2.2.2 + 133)) lf_X10_53 rfl rfl dX10_digest_210 rfl ?_
      refine vs_bipush (v := 45) dX10_digest_213 rfl rfl ?_
      refine vs_callS (st := []) (c_degreeOf (o := 133) (N := 46) (n := 45) (g := aB a) rfl (by decide) (by decide) mB (fun k => by have := gB k; omega)) lk_X10_167 lm_X10_degreeOf rfl rfl (Nat.le_of_ble_eq_true rfl) rfl ⟨rfl, rfl⟩ dX10_digest_215 rfl ?_
      rw [show (45 + 1) = 42 + 4 from rfl, tp_skip gBz 4]
      show vs_V _ _ _ _ _ (.int (nZ ((tp (aB a) 42 : Int) - 1)) :: _) _
      refine vs_topi (fun v4 e_v4 => ?_)
      have e2_v4 : v4 = nZ ((tp (aB a) 42 : Int) - 1) := e_v4
      clear e_v4
      subst e2_v4
      refine vs_istore [(4, .int (nZ ((tp (aB a) 42 : Int) - 1))), (3, .int (nZ ((tp (aA a) 42 : Int) - 1))), (1, .long (mx2 (fun k => (nI (aX a k)).toInt64) (fun k => (nI (aY a k)).toInt64) (dgf a (aN a)) (aH a))), (0, .ref (G.2.2.2 + 118))] dX10_digest_218 rfl rfl rfl ?_
      refine vs_ldc2 lc_X10_215 dX10_digest_220 rfl ?_
      refine vs_lload_n 1 dX10_digest_223 rfl rfl 2 rfl ?_
      refine vs_lmul dX10_digest_224 rfl ?_
      refine vs_iload_n 3 dX10_digest_225 rfl rfl 1 rfl ?_
      refine vs_i2l dX10_digest_226 rfl ?_
      refine vs_ladd dX10_digest_227 rfl ?_
      refine vs_topl (fun h1 e_h1 => ?_)
      refine vs_lstore_n 1 [(1, .long (h1)), (4, .int (nZ ((tp (aB a) 42 : Int) - 1))), (3, .int (nZ ((tp (aA a) 42 : Int) - 1))), (0, .ref (G.2.2.2 + 118))] dX10_digest_228 rfl rfl rfl rfl ?_
      refine vs_ldc2 lc_X10_215 dX10_digest_229 rfl ?_
      refine vs_lload_n 1 dX10_digest_232 rfl rfl 0 rfl ?_
      refine vs_lmul dX10_digest_233 rfl ?_
      refine vs_iload dX10_digest_234 rfl 1 rfl ?_
      refine vs_i2l dX10_digest_236 rfl ?_
      refine vs_ladd dX10_digest_237 rfl ?_
      refine vs_topl (fun h2 e_h2 => ?_)
      have e2_h2 : h2 = dgr a := (by rw [e_h2, e_h1]; rfl)
      clear e_h2
      subst e2_h2
      refine vs_lstore_n 1 [(1, .long (dgr a)), (4, .int (nZ ((tp (aB a) 42 : Int) - 1))), (3, .int (nZ ((tp (aA a) 42 : Int) - 1))), (0, .ref (G.2.2.2 + 118))] dX10_digest_238 rfl rfl rfl rfl ?_
      refine vs_iconst (v := 0) dX10_digest_239 rfl rfl ?_
      refine vs_istore [(5, .int (0)), (1, .long (dgr a)), (4, .int (nZ ((tp (aB a) 42 : Int) - 1))), (3, .int (nZ ((tp (aA a) 42 : Int) - 1))), (0, .ref (G.2.2.2 + 118))] dX10_digest_240 rfl rfl rfl ?_
      refine vs_pick (L2 := [(5, .int (nI 0)), (4, .int (nZ ((tp (aB a) 42 : Int) - 1))), (3, .int (nZ ((tp (aA a) 42 : Int) - 1))), (1, .long (mx (fun k => (nI (aA a k)).toInt64) (dgr a) 0)), (0, .ref (G.2.2.2 + 118))]) [0, 2, 3, 1, 4] rfl ?_
      exact l_md4 hM hG0 hr hS (tp (aA a) 42) 0 (by omega)
    · have q_162 : ¬ (((aH a) : Nat) : Int) ≥ (((aH a) : Nat) : Int) := fun hh => c_162 ((qi_ge (nI_Z _) (nI_Z _) (by omega) (by omega) (by omega) (by omega)).mpr hh)
      omega
  | succ d ih =>
    intro i hi
    refine vs_iload_n 3 dX10_digest_157 rfl rfl 0 rfl ?_
    refine vs_aload_n 0 dX10_digest_158 rfl rfl 2 rfl ?_
    refine vs_get (v := .int (nI (aH a))) lf_X10_118 rfl (congrArg (fun z => some (Value.int z)) mH) dX10_digest_159 rfl ?_
    refine vs_icmp_ge 199 dX10_digest_162 rfl rfl (fun c_162 => ?_) (fun c_162 => ?_)
    · have q_162 : ((i : Nat) : Int) ≥ (((aH a) : Nat) : Int) := (qi_ge (nI_Z _) (nI_Z _) (by omega) (by omega) (by omega) (by omega)).mp c_162
      omega
    · have q_162 : ¬ ((i : Nat) : Int) ≥ (((aH a) : Nat) : Int) := fun hh => c_162 ((qi_ge (nI_Z _) (nI_Z _) (by omega) (by omega) (by omega) (by omega)).mpr hh)
      refine vs_ldc2 lc_X10_215 dX10_digest_165 rfl ?_
      refine vs_lload_n 1 dX10_digest_168 rfl rfl 1 rfl ?_
      refine vs_lmul dX10_digest_169 rfl ?_
      refine vs_aload_n 0 dX10_digest_170 rfl rfl 2 rfl ?_
      refine vs_get (v := .ref (G.2.2.2 + 144)) lf_X10_86 rfl rfl dX10_digest_171 rfl ?_
      refine vs_iload_n 3 dX10_digest_174 rfl rfl 0 rfl ?_
      refine vs_iald (k := i) rfl rfl (by omega) rfl dX10_digest_175 rfl ?_
      refine vs_topi (fun z1 e_z1 => ?_)
      have f_z1 : z1 = nI (aX a i) := (by rw [e_z1]; exact mX i (by omega))
      subst f_z1
      clear e_z1
      refine vs_i2l dX10_digest_176 rfl ?_
      refine vs_ladd dX10_digest_177 rfl ?_
      refine vs_topl (fun h1 e_h1 => ?_)
      refine vs_lstore_n 1 [(1, .long (h1)), (3, .int (nI i)), (0, .ref (G.2.2.2 + 118))] dX10_digest_178 rfl rfl rfl rfl ?_
      refine vs_ldc2 lc_X10_215 dX10_digest_179 rfl ?_
      refine vs_lload_n 1 dX10_digest_182 rfl rfl 0 rfl ?_
      refine vs_lmul dX10_digest_183 rfl ?_
      refine vs_aload_n 0 dX10_digest_184 rfl rfl 2 rfl ?_
      refine vs_get (v := .ref (G.2.2.2 + 145)) lf_X10_89 rfl rfl dX10_digest_185 rfl ?_
      refine vs_iload_n 3 dX10_digest_188 rfl rfl 1 rfl ?_
      refine vs_iald (k := i) rfl rfl (by omega) rfl dX10_digest_189 rfl ?_
      refine vs_topi (fun z2 e_z2 => ?_)
      have f_z2 : z2 = nI (aY a i) := (by rw [e_z2]; exact mY i (by omega))
      subst f_z2
      clear e_z2
      refine vs_i2l dX10_digest_190 rfl ?_
      refine vs_ladd dX10_digest_191 rfl ?_
      refine vs_topl (fun h2 e_h2 => ?_)
      have e2_h2 : h2 = mx2 (fun k => (nI (aX a k)).toInt64) (fun k => (nI (aY a k)).toInt64) (dgf a (aN a)) (i + 1) := (by rw [e_h2, e_h1]; rfl)
      clear e_h2
      subst e2_h2
      refine vs_lstore_n 1 [(1, .long (mx2 (fun k => (nI (aX a k)).toInt64) (fun k => (nI (aY a k)).toInt64) (dgf a (aN a)) (i + 1))), (3, .int (nI i)), (0, .ref (G.2.2.2 + 118))] dX10_digest_192 rfl rfl rfl rfl ?_
      refine vs_iinc (v := nI (i + 1)) [(3, .int (nI (i + 1))), (1, .long (mx2 (fun k => (nI (aX a k)).toInt64) (fun k => (nI (aY a k)).toInt64) (dgf a (aN a)) (i + 1))), (0, .ref (G.2.2.2 + 118))] dX10_digest_193 rfl 1 rfl (by first | exact nI_1 _ | (simp only [fa_lit, nI_add, pk_mul, nI_1]; rfl)) rfl rfl ?_
      refine vs_goto 157 dX10_digest_196 rfl ?_
      refine vs_pick [0, 1, 2] rfl ?_
      exact ih (i + 1) (by omega)

theorem l_md2a {G : vv_G} {S : vs_S} {a : aS} (hM : MSt S a) (hG : aG a) {f : Nat} (hfN : f < aN a) (r : Option Value) (Sf : vs_S) (K : vs_V G cX10_digest (vs_M yX10_digest 6 (some .long) { frames := 1, locals := 22 } G r Sf) 149 [(3, .int (nI f)), (1, .long (dgf a (f + 1))), (0, .ref (G.2.2.2 + 118))] [] S) : ∀ d i : Nat, i + d = aLa a f + 1 → vs_V G cX10_digest (vs_M yX10_digest 6 (some .long) { frames := 1, locals := 22 } G r Sf) 117 [(4, .int (nI i)), (3, .int (nI f)), (1, .long (mx (fun k => (nI (aC a f k)).toInt64) (31 * dgf a f + (nI (aLa a f)).toInt64) i)), (0, .ref (G.2.2.2 + 118))] [] S := by
  obtain ⟨⟨mP, mN, mH, mK0⟩, mK, mSh, mSe, ⟨mA, mB⟩, mX, mY⟩ := id hM
  obtain ⟨gP, gP2, gN, gH, gSe, gSh, gXY, gB31, gInj, gA, gB, gAz, gBz⟩ := hG
  have gP1 := gP.1
  obtain ⟨f1, f2⟩ := mSe f hfN
  obtain ⟨f3, f4⟩ := gSe f hfN
  have hf : f < 10 := by omega
  intro d
  induction d with
  | zero =>
    intro i hi
    obtain rfl : i = aLa a f + 1 := by omega
    refine vs_iload dX10_digest_117 rfl 0 rfl ?_
    refine vs_aload_n 0 dX10_digest_119 rfl rfl 3 rfl ?_
    refine vs_get (v := .ref (G.2.2.2 + 124)) lf_X10_26 rfl rfl dX10_digest_120 rfl ?_
    refine vs_iload_n 3 dX10_digest_123 rfl rfl 1 rfl ?_
    refine vs_iald (k := f) rfl rfl (by omega) rfl dX10_digest_124 rfl ?_
    refine vs_topi (fun z1 e_z1 => ?_)
    have f_z1 : z1 = nI (aLa a f) := (by rw [e_z1]; exact f1)
    subst f_z1
    clear e_z1
    refine vs_icmp_gt 149 dX10_digest_125 rfl rfl (fun c_125 => ?_) (fun c_125 => ?_)
    · have q_125 : (((aLa a f + 1) : Nat) : Int) > (((aLa a f) : Nat) : Int) := (qi_gt (nI_Z _) (nI_Z _) (by omega) (by omega) (by omega) (by omega)).mp c_125
      refine vs_pick (L2 := [(3, .int (nI f)), (1, .long (dgf a (f + 1))), (0, .ref (G.2.2.2 + 118))]) [1, 2, 3] rfl ?_
      exact K
    · have q_125 : ¬ (((aLa a f + 1) : Nat) : Int) > (((aLa a f) : Nat) : Int) := fun hh => c_125 ((qi_gt (nI_Z _) (nI_Z _) (by omega) (by omega) (by omega) (by omega)).mpr hh)
      omega
  | succ d ih =>
    intro i hi
    refine vs_iload dX10_digest_117 rfl 0 rfl ?_
    refine vs_aload_n 0 dX10_digest_119 rfl rfl 3 rfl ?_
    refine vs_get (v := .ref (G.2.2.2 + 124)) lf_X10_26 rfl rfl dX10_digest_120 rfl ?_
    refine vs_iload_n 3 dX10_digest_123 rfl rfl 1 rfl ?_
    refine vs_iald (k := f) rfl rfl (by omega) rfl dX10_digest_124 rfl ?_
    refine vs_topi (fun z1 e_z1 => ?_)
    have f_z1 : z1 = nI (aLa a f) := (by rw [e_z1]; exact f1)
    subst f_z1
    clear e_z1
    refine vs_icmp_gt 149 dX10_digest_125 rfl rfl (fun c_125 => ?_) (fun c_125 => ?_)
    · have q_125 : ((i : Nat) : Int) > (((aLa a f) : Nat) : Int) := (qi_gt (nI_Z _) (nI_Z _) (by omega) (by omega) (by omega) (by omega)).mp c_125
      omega
    · have q_125 : ¬ ((i : Nat) : Int) > (((aLa a f) : Nat) : Int) := fun hh => c_125 ((qi_gt (nI_Z _) (nI_Z _) (by omega) (by omega) (by omega) (by omega)).mpr hh)
      refine vs_ldc2 lc_X10_215 dX10_digest_128 rfl ?_
      refine vs_lload_n 1 dX10_digest_131 rfl rfl 2 rfl ?_
      refine vs_lmul dX10_digest_132 rfl ?_
      refine vs_aload_n 0 dX10_digest_133 rfl rfl 3 rfl ?_
      refine vs_iload_n 3 dX10_digest_134 rfl rfl 1 rfl ?_
      refine vs_iload dX10_digest_135 rfl 0 rfl ?_
      refine vs_callV (st := [.long (((31) * mx (fun k => (nI (aC a f k)).toInt64) (31 * dgf a f + (nI (aLa a f)).toInt64) i))]) (c_mof (f := f) (k := i) (v := aC a f i) hf (by omega) (f2 i (by omega))) lk_X10_161 lm_X10_of rfl rfl rfl rfl (Nat.le_of_ble_eq_true rfl) rfl ⟨rfl, rfl⟩ dX10_digest_137 rfl ?_
      show vs_V _ _ _ _ _ (.int (nI (aC a f i)) :: _) _
      refine vs_i2l dX10_digest_140 rfl ?_
      refine vs_ladd dX10_digest_141 rfl ?_
      refine vs_topl (fun hh e_hh => ?_)
      have e2_hh : hh = mx (fun k => (nI (aC a f k)).toInt64) (31 * dgf a f + (nI (aLa a f)).toInt64) (i + 1) := (by rw [e_hh]; rfl)
      clear e_hh
      subst e2_hh
      refine vs_lstore_n 1 [(1, .long (mx (fun k => (nI (aC a f k)).toInt64) (31 * dgf a f + (nI (aLa a f)).toInt64) (i + 1))), (4, .int (nI i)), (3, .int (nI f)), (0, .ref (G.2.2.2 + 118))] dX10_digest_142 rfl rfl rfl rfl ?_
      refine vs_iinc (v := nI (i + 1)) [(4, .int (nI (i + 1))), (1, .long (mx (fun k => (nI (aC a f k)).toInt64) (31 * dgf a f + (nI (aLa a f)).toInt64) (i + 1))), (3, .int (nI f)), (0, .ref (G.2.2.2 + 118))] dX10_digest_143 rfl 1 rfl (by first | exact nI_1 _ | (simp only [fa_lit, nI_add, pk_mul, nI_1]; rfl)) rfl rfl ?_
      refine vs_goto 117 dX10_digest_146 rfl ?_
      refine vs_pick [0, 2, 1, 3] rfl ?_
      exact ih (i + 1) (by omega)

theorem l_md2 {G : vv_G} {S : vs_S} {a : aS} (hM : MSt S a) (hG : aG a) {r : Option Value} {Sf : vs_S} (hr : r = some (.long (sp_digest a))) (hS : S = Sf) : ∀ d f : Nat, f + d = aN a → vs_V G cX10_digest (vs_M yX10_digest 6 (some .long) { frames := 1, locals := 22 } G r Sf) 92 [(3, .int (nI f)), (1, .long (dgf a f)), (0, .ref (G.2.2.2 + 118))] [] S := by
  have hG0 := hG
  obtain ⟨⟨mP, mN, mH, mK0⟩, mK, mSh, mSe, ⟨mA, mB⟩, mX, mY⟩ := id hM
  obtain ⟨gP, gP2, gN, gH, gSe, gSh, gXY, gB31, gInj, gA, gB, gAz, gBz⟩ := hG
  have gP1 := gP.1
  intro d
  induction d with
  | zero =>
    intro f hfd
    obtain rfl : f = aN a := by omega
    refine vs_iload_n 3 dX10_digest_92 rfl rfl 0 rfl ?_
    refine vs_aload_n 0 dX10_digest_93 rfl rfl 2 rfl ?_
    refine vs_get (v := .int (nI (aN a))) lf_X10_115 rfl (congrArg (fun z => some (Value.int z)) mN) dX10_digest_94 rfl ?_
    refine vs_icmp_ge 155 dX10_digest_97 rfl rfl (fun c_97 => ?_) (fun c_97 => ?_)
    · have q_97 : (((aN a) : Nat) : Int) ≥ (((aN a) : Nat) : Int) := (qi_ge (nI_Z _) (nI_Z _) (by omega) (by omega) (by omega) (by omega)).mp c_97
      refine vs_iconst (v := 0) dX10_digest_155 rfl rfl ?_
      refine vs_istore_n 3 [(3, .int (0)), (1, .long (dgf a (aN a))), (0, .ref (G.2.2.2 + 118))] dX10_digest_156 rfl rfl rfl rfl ?_
      refine vs_pick (L2 := [(3, .int (nI 0)), (1, .long (mx2 (fun k => (nI (aX a k)).toInt64) (fun k => (nI (aY a k)).toInt64) (dgf a (aN a)) 0)), (0, .ref (G.2.2.2 + 118))]) [0, 1, 2] rfl ?_
      exact l_md3 hM hG0 hr hS (aH a) 0 (by omega)
    · have q_97 : ¬ (((aN a) : Nat) : Int) ≥ (((aN a) : Nat) : Int) := fun hh => c_97 ((qi_ge (nI_Z _) (nI_Z _) (by omega) (by omega) (by omega) (by omega)).mpr hh)
      omega
  | succ d ih =>
    intro f hfd
    obtain ⟨f1, f2⟩ := mSe f (by omega)
    obtain ⟨f3, f4⟩ := gSe f (by omega)
    refine vs_iload_n 3 dX10_digest_92 rfl rfl 0 rfl ?_
    refine vs_aload_n 0 dX10_digest_93 rfl rfl 2 rfl ?_
    refine vs_get (v := .int (nI (aN a))) lf_X10_115 rfl (congrArg (fun z => some (Value.int z)) mN) dX10_digest_94 rfl ?_
    refine vs_icmp_ge 155 dX10_digest_97 rfl rfl (fun c_97 => ?_) (fun c_97 => ?_)
    · have q_97 : ((f : Nat) : Int) ≥ (((aN a) : Nat) : Int) := (qi_ge (nI_Z _) (nI_Z _) (by omega) (by omega) (by omega) (by omega)).mp c_97
      omega
    · have q_97 : ¬ ((f : Nat) : Int) ≥ (((aN a) : Nat) : Int) := fun hh => c_97 ((qi_ge (nI_Z _) (nI_Z _) (by omega) (by omega) (by omega) (by omega)).mpr hh)
      refine vs_ldc2 lc_X10_215 dX10_digest_100 rfl ?_
      refine vs_lload_n 1 dX10_digest_103 rfl rfl 1 rfl ?_
      refine vs_lmul dX10_digest_104 rfl ?_
      refine vs_aload_n 0 dX10_digest_105 rfl rfl 2 rfl ?_
      refine vs_get (v := .ref (G.2.2.2 + 124)) lf_X10_26 rfl rfl dX10_digest_106 rfl ?_
      refine vs_iload_n 3 dX10_digest_109 rfl rfl 0 rfl ?_
      refine vs_iald (k := f) rfl rfl (by omega) rfl dX10_digest_110 rfl ?_
      refine vs_topi (fun z1 e_z1 => ?_)
      have f_z1 : z1 = nI (aLa a f) := (by rw [e_z1]; exact f1)
      subst f_z1
      clear e_z1
      refine vs_i2l dX10_digest_111 rfl ?_
      refine vs_ladd dX10_digest_112 rfl ?_
      refine vs_topl (fun hh e_hh => ?_)
      have e2_hh : hh = mx (fun k => (nI (aC a f k)).toInt64) (31 * dgf a f + (nI (aLa a f)).toInt64) 0 := (by rw [e_hh]; rfl)
      clear e_hh
      subst e2_hh
      refine vs_lstore_n 1 [(1, .long (mx (fun k => (nI (aC a f k)).toInt64) (31 * dgf a f + (nI (aLa a f)).toInt64) 0)), (3, .int (nI f)), (0, .ref (G.2.2.2 + 118))] dX10_digest_113 rfl rfl rfl rfl ?_
      refine vs_iconst (v := 0) dX10_digest_114 rfl rfl ?_
      refine vs_istore [(4, .int (0)), (1, .long (mx (fun k => (nI (aC a f k)).toInt64) (31 * dgf a f + (nI (aLa a f)).toInt64) 0)), (3, .int (nI f)), (0, .ref (G.2.2.2 + 118))] dX10_digest_115 rfl rfl rfl ?_
      refine vs_pick (L2 := [(4, .int (nI 0)), (3, .int (nI f)), (1, .long (mx (fun k => (nI (aC a f k)).toInt64) (31 * dgf a f + (nI (aLa a f)).toInt64) 0)), (0, .ref (G.2.2.2 + 118))]) [0, 2, 1, 3] rfl ?_
      refine l_md2a hM hG0 (show f < aN a by omega) r Sf ?_ (aLa a f + 1) 0 (by omega)
      refine vs_iinc (v := nI (f + 1)) [(3, .int (nI (f + 1))), (1, .long (dgf a (f + 1))), (0, .ref (G.2.2.2 + 118))] dX10_digest_149 rfl 0 rfl (by first | exact nI_1 _ | (simp only [fa_lit, nI_add, pk_mul, nI_1]; rfl)) rfl rfl ?_
      refine vs_goto 92 dX10_digest_152 rfl ?_
      refine vs_pick [0, 1, 2] rfl ?_
      exact ih (f + 1) (by omega)

theorem l_md1a {G : vv_G} {S : vs_S} {a : aS} (hM : MSt S a) (hG : aG a) {s : Nat} (hs : s < 4) (r : Option Value) (Sf : vs_S) (K : vs_V G cX10_digest (vs_M yX10_digest 6 (some .long) { frames := 1, locals := 22 } G r Sf) 84 [(3, .int (nI s)), (1, .long (mx (aW a s) (31 * dgs a s + (nI (aSz a s)).toInt64) (aSz a s))), (0, .ref (G.2.2.2 + 118))] [] S) : ∀ d i : Nat, i + d = aSz a s → vs_V G cX10_digest (vs_M yX10_digest 6 (some .long) { frames := 1, locals := 22 } G r Sf) 52 [(5, .int (nI i)), (4, .int (nI (aSz a s))), (3, .int (nI s)), (1, .long (mx (aW a s) (31 * dgs a s + (nI (aSz a s)).toInt64) i)), (0, .ref (G.2.2.2 + 118))] [] S := by
  obtain ⟨⟨mP, mN, mH, mK0⟩, mK, mSh, mSe, ⟨mA, mB⟩, mX, mY⟩ := id hM
  obtain ⟨gP, gP2, gN, gH, gSe, gSh, gXY, gB31, gInj, gA, gB, gAz, gBz⟩ := hG
  have gP1 := gP.1
  obtain ⟨d1, d2, d3⟩ := mSh s hs
  obtain ⟨e1, e2, e3⟩ := gSh s hs
  intro d
  induction d with
  | zero =>
    intro i hi
    obtain rfl : i = aSz a s := by omega
    refine vs_iload dX10_digest_52 rfl 0 rfl ?_
    refine vs_iload dX10_digest_54 rfl 1 rfl ?_
    refine vs_icmp_ge 84 dX10_digest_56 rfl rfl (fun c_56 => ?_) (fun c_56 => ?_)
    · have q_56 : (((aSz a s) : Nat) : Int) ≥ (((aSz a s) : Nat) : Int) := (qi_ge (nI_Z _) (nI_Z _) (by omega) (by omega) (by omega) (by omega)).mp c_56
      refine vs_pick [2, 3, 4] rfl ?_
      exact K
    · have q_56 : ¬ (((aSz a s) : Nat) : Int) ≥ (((aSz a s) : Nat) : Int) := fun hh => c_56 ((qi_ge (nI_Z _) (nI_Z _) (by omega) (by omega) (by omega) (by omega)).mpr hh)
      omega
  | succ d ih =>
    intro i hi
    refine vs_iload dX10_digest_52 rfl 0 rfl ?_
    refine vs_iload dX10_digest_54 rfl 1 rfl ?_
    refine vs_icmp_ge 84 dX10_digest_56 rfl rfl (fun c_56 => ?_) (fun c_56 => ?_)
    · have q_56 : ((i : Nat) : Int) ≥ (((aSz a s) : Nat) : Int) := (qi_ge (nI_Z _) (nI_Z _) (by omega) (by omega) (by omega) (by omega)).mp c_56
      omega
    · have q_56 : ¬ ((i : Nat) : Int) ≥ (((aSz a s) : Nat) : Int) := fun hh => c_56 ((qi_ge (nI_Z _) (nI_Z _) (by omega) (by omega) (by omega) (by omega)).mpr hh)
      refine vs_ldc2 lc_X10_215 dX10_digest_59 rfl ?_
      refine vs_lload_n 1 dX10_digest_62 rfl rfl 3 rfl ?_
      refine vs_lmul dX10_digest_63 rfl ?_
      refine vs_aload_n 0 dX10_digest_64 rfl rfl 4 rfl ?_
      refine vs_get (v := .ref (G.2.2.2 + 122)) lf_X10_19 rfl rfl dX10_digest_65 rfl ?_
      refine vs_bipush (v := 60) dX10_digest_68 rfl rfl ?_
      refine vs_iload_n 3 dX10_digest_70 rfl rfl 2 rfl ?_
      refine vs_imul dX10_digest_71 rfl ?_
      refine vs_iload dX10_digest_72 rfl 0 rfl ?_
      refine vs_iadd dX10_digest_74 rfl ?_
      refine vs_lald (k := (60 * s + i)) rfl (by simp only [fa_lit, nI_add, pk_mul]) (by omega) rfl dX10_digest_75 rfl ?_
      refine vs_topl (fun z1 e_z1 => ?_)
      have f_z1 : z1 = aW a s i := (by rw [e_z1]; exact d3 i (by omega))
      subst f_z1
      clear e_z1
      refine vs_ladd dX10_digest_76 rfl ?_
      refine vs_topl (fun hh e_hh => ?_)
      have e2_hh : hh = mx (aW a s) (31 * dgs a s + (nI (aSz a s)).toInt64) (i + 1) := (by rw [e_hh]; rfl)
      clear e_hh
      subst e2_hh
      refine vs_lstore_n 1 [(1, .long (mx (aW a s) (31 * dgs a s + (nI (aSz a s)).toInt64) (i + 1))), (5, .int (nI i)), (4, .int (nI (aSz a s))), (3, .int (nI s)), (0, .ref (G.2.2.2 + 118))] dX10_digest_77 rfl rfl rfl rfl ?_
      refine vs_iinc (v := nI (i + 1)) [(5, .int (nI (i + 1))), (1, .long (mx (aW a s) (31 * dgs a s + (nI (aSz a s)).toInt64) (i + 1))), (4, .int (nI (aSz a s))), (3, .int (nI s)), (0, .ref (G.2.2.2 + 118))] dX10_digest_78 rfl 1 rfl (by first | exact nI_1 _ | (simp only [fa_lit, nI_add, pk_mul, nI_1]; rfl)) rfl rfl ?_
      refine vs_goto 52 dX10_digest_81 rfl ?_
      refine vs_pick [0, 2, 3, 1, 4] rfl ?_
      exact ih (i + 1) (by omega)

theorem l_md1 {G : vv_G} {S : vs_S} {a : aS} (hM : MSt S a) (hG : aG a) {r : Option Value} {Sf : vs_S} (hr : r = some (.long (sp_digest a))) (hS : S = Sf) : ∀ d s : Nat, s + d = 4 → vs_V G cX10_digest (vs_M yX10_digest 6 (some .long) { frames := 1, locals := 22 } G r Sf) 12 [(3, .int (nI s)), (1, .long (dgs a s)), (0, .ref (G.2.2.2 + 118))] [] S := by
  have hG0 := hG
  obtain ⟨⟨mP, mN, mH, mK0⟩, mK, mSh, mSe, ⟨mA, mB⟩, mX, mY⟩ := id hM
  obtain ⟨gP, gP2, gN, gH, gSe, gSh, gXY, gB31, gInj, gA, gB, gAz, gBz⟩ := hG
  have gP1 := gP.1
  intro d
  induction d with
  | zero =>
    intro s hsd
    obtain rfl : s = 4 := by omega
    refine vs_iload_n 3 dX10_digest_12 rfl rfl 0 rfl ?_
    refine vs_iconst (v := 4) dX10_digest_13 rfl rfl ?_
    refine vs_icmp_ge 90 dX10_digest_14 rfl rfl (fun c_14 => ?_) (fun c_14 => ?_)
    · have q_14 : ((4 : Nat) : Int) ≥ ((4 : Nat) : Int) := (qi_ge (nI_Z _) (by first | exact nI_Z _ | (simp only [fa_lit, nI_add, pk_mul, nI_1]; exact nI_Z _)) (by omega) (by omega) (by omega) (by omega)).mp c_14
      refine vs_iconst (v := 0) dX10_digest_90 rfl rfl ?_
      refine vs_istore_n 3 [(3, .int (0)), (1, .long (dgs a 4)), (0, .ref (G.2.2.2 + 118))] dX10_digest_91 rfl rfl rfl rfl ?_
      refine vs_pick (L2 := [(3, .int (nI 0)), (1, .long (dgf a 0)), (0, .ref (G.2.2.2 + 118))]) [0, 1, 2] rfl ?_
      exact l_md2 hM hG0 hr hS (aN a) 0 (by omega)
    · have q_14 : ¬ ((4 : Nat) : Int) ≥ ((4 : Nat) : Int) := fun hh => c_14 ((qi_ge (nI_Z _) (by first | exact nI_Z _ | (simp only [fa_lit, nI_add, pk_mul, nI_1]; exact nI_Z _)) (by omega) (by omega) (by omega) (by omega)).mpr hh)
      omega
  | succ d ih =>
    intro s hsd
    have hs : s < 4 := by omega
    obtain ⟨d1, d2, d3⟩ := mSh s hs
    obtain ⟨e1, e2, e3⟩ := gSh s hs
    refine vs_iload_n 3 dX10_digest_12 rfl rfl 0 rfl ?_
    refine vs_iconst (v := 4) dX10_digest_13 rfl rfl ?_
    refine vs_icmp_ge 90 dX10_digest_14 rfl rfl (fun c_14 => ?_) (fun c_14 => ?_)
    · have q_14 : ((s : Nat) : Int) ≥ ((4 : Nat) : Int) := (qi_ge (nI_Z _) (by first | exact nI_Z _ | (simp only [fa_lit, nI_add, pk_mul, nI_1]; exact nI_Z _)) (by omega) (by omega) (by omega) (by omega)).mp c_14
      omega
    · have q_14 : ¬ ((s : Nat) : Int) ≥ ((4 : Nat) : Int) := fun hh => c_14 ((qi_ge (nI_Z _) (by first | exact nI_Z _ | (simp only [fa_lit, nI_add, pk_mul, nI_1]; exact nI_Z _)) (by omega) (by omega) (by omega) (by omega)).mpr hh)
      by_cases e : aLo a s = 0
      · have hd : dgs a (s + 1) = mx (aW a s) (31 * dgs a s + (nI (aSz a s)).toInt64) (aSz a s) := if_pos e
        have h4 : S.2.1 120 s = nI (aLn a s) := by rw [d1]; exact if_pos e
        refine vs_aload_n 0 dX10_digest_17 rfl rfl 2 rfl ?_
        refine vs_get (v := .ref (G.2.2.2 + 120)) lf_X10_13 rfl rfl dX10_digest_18 rfl ?_
        refine vs_iload_n 3 dX10_digest_21 rfl rfl 0 rfl ?_
        refine vs_iald (k := s) rfl rfl (by omega) rfl dX10_digest_22 rfl ?_
        refine vs_topi (fun z1 e_z1 => ?_)
        have f_z1 : z1 = nI (aLn a s) := (by rw [e_z1]; exact h4)
        subst f_z1
        clear e_z1
        refine vs_iconst (v := -1) dX10_digest_23 rfl rfl ?_
        refine vs_icmp_ne 31 dX10_digest_24 rfl rfl (fun c_24 => ?_) (fun c_24 => ?_)
        · have q_24 : ¬ (((aLn a s) : Nat) : Int) = (-1 : Int) := fun hh => c_24 ((qi_eq (nI_Z _) rfl (by omega) (by omega) (by omega) (by omega)).mpr hh)
          refine vs_aload_n 0 dX10_digest_31 rfl rfl 2 rfl ?_
          refine vs_get (v := .ref (G.2.2.2 + 121)) lf_X10_16 rfl rfl dX10_digest_32 rfl ?_
          refine vs_iload_n 3 dX10_digest_35 rfl rfl 0 rfl ?_
          refine vs_iald (k := s) rfl rfl (by omega) rfl dX10_digest_36 rfl ?_
          refine vs_topi (fun z2 e_z2 => ?_)
          have f_z2 : z2 = nI (aSz a s) := (by rw [e_z2]; exact d2)
          subst f_z2
          clear e_z2
          refine vs_istore [(4, .int (nI (aSz a s))), (3, .int (nI s)), (1, .long (dgs a s)), (0, .ref (G.2.2.2 + 118))] dX10_digest_37 rfl rfl rfl ?_
          refine vs_ldc2 lc_X10_215 dX10_digest_39 rfl ?_
          refine vs_lload_n 1 dX10_digest_42 rfl rfl 2 rfl ?_
          refine vs_lmul dX10_digest_43 rfl ?_
          refine vs_iload dX10_digest_44 rfl 0 rfl ?_
          refine vs_i2l dX10_digest_46 rfl ?_
          refine vs_ladd dX10_digest_47 rfl ?_
          refine vs_topl (fun hh e_hh => ?_)
          have e2_hh : hh = mx (aW a s) (31 * dgs a s + (nI (aSz a s)).toInt64) 0 := (by rw [e_hh]; rfl)
          clear e_hh
          subst e2_hh
          refine vs_lstore_n 1 [(1, .long (mx (aW a s) (31 * dgs a s + (nI (aSz a s)).toInt64) 0)), (4, .int (nI (aSz a s))), (3, .int (nI s)), (0, .ref (G.2.2.2 + 118))] dX10_digest_48 rfl rfl rfl rfl ?_
          refine vs_iconst (v := 0) dX10_digest_49 rfl rfl ?_
          refine vs_istore [(5, .int (0)), (1, .long (mx (aW a s) (31 * dgs a s + (nI (aSz a s)).toInt64) 0)), (4, .int (nI (aSz a s))), (3, .int (nI s)), (0, .ref (G.2.2.2 + 118))] dX10_digest_50 rfl rfl rfl ?_
          refine vs_pick (L2 := [(5, .int (nI 0)), (4, .int (nI (aSz a s))), (3, .int (nI s)), (1, .long (mx (aW a s) (31 * dgs a s + (nI (aSz a s)).toInt64) 0)), (0, .ref (G.2.2.2 + 118))]) [0, 2, 3, 1, 4] rfl ?_
          refine l_md1a hM hG0 hs r Sf ?_ (aSz a s) 0 (by omega)
          rw [← hd]
          refine vs_iinc (v := nI (s + 1)) [(3, .int (nI (s + 1))), (1, .long (dgs a (s + 1))), (0, .ref (G.2.2.2 + 118))] dX10_digest_84 rfl 0 rfl (by first | exact nI_1 _ | (simp only [fa_lit, nI_add, pk_mul, nI_1]; rfl)) rfl rfl ?_
          refine vs_goto 12 dX10_digest_87 rfl ?_
          refine vs_pick [0, 1, 2] rfl ?_
          exact ih (s + 1) (by omega)
        · have q_24 : (((aLn a s) : Nat) : Int) = (-1 : Int) := (qi_eq (nI_Z _) rfl (by omega) (by omega) (by omega) (by omega)).mp c_24
          omega
      · have hd : dgs a (s + 1) = 31 * dgs a s + (-1) := if_neg e
        have h4 : S.2.1 120 s = nZ (-1) := by rw [d1]; exact if_neg e
        refine vs_aload_n 0 dX10_digest_17 rfl rfl 2 rfl ?_
        refine vs_get (v := .ref (G.2.2.2 + 120)) lf_X10_13 rfl rfl dX10_digest_18 rfl ?_
        refine vs_iload_n 3 dX10_digest_21 rfl rfl 0 rfl ?_
        refine vs_iald (k := s) rfl rfl (by omega) rfl dX10_digest_22 rfl ?_
        refine vs_topi (fun z3 e_z3 => ?_)
        have f_z3 : z3 = nZ (-1) := (by rw [e_z3]; exact h4)
        subst f_z3
        clear e_z3
        refine vs_iconst (v := -1) dX10_digest_23 rfl rfl ?_
        refine vs_icmp_ne 31 dX10_digest_24 rfl rfl (fun c_24 => ?_) (fun c_24 => ?_)
        · have q_24 : ¬ ((-1) : Int) = (-1 : Int) := fun hh => c_24 ((qi_eq rfl rfl (by omega) (by omega) (by omega) (by omega)).mpr hh)
          omega
        · have q_24 : ((-1) : Int) = (-1 : Int) := (qi_eq rfl rfl (by omega) (by omega) (by omega) (by omega)).mp c_24
          refine vs_iconst (v := -1) dX10_digest_27 rfl rfl ?_
          refine vs_goto 37 dX10_digest_28 rfl ?_
          refine vs_topi (fun v4 e_v4 => ?_)
          have e2_v4 : v4 = nZ (-1) := (by rw [e_v4]; rfl)
          clear e_v4
          subst e2_v4
          refine vs_istore [(4, .int (nZ (-1))), (3, .int (nI s)), (1, .long (dgs a s)), (0, .ref (G.2.2.2 + 118))] dX10_digest_37 rfl rfl rfl ?_
          refine vs_ldc2 lc_X10_215 dX10_digest_39 rfl ?_
          refine vs_lload_n 1 dX10_digest_42 rfl rfl 2 rfl ?_
          refine vs_lmul dX10_digest_43 rfl ?_
          refine vs_iload dX10_digest_44 rfl 0 rfl ?_
          refine vs_i2l dX10_digest_46 rfl ?_
          refine vs_ladd dX10_digest_47 rfl ?_
          refine vs_topl (fun hh e_hh => ?_)
          have e2_hh : hh = dgs a (s + 1) := (by rw [e_hh, hd, show (nZ (-1)).toInt64 = -1 from by decide])
          clear e_hh
          subst e2_hh
          refine vs_lstore_n 1 [(1, .long (dgs a (s + 1))), (4, .int (nZ (-1))), (3, .int (nI s)), (0, .ref (G.2.2.2 + 118))] dX10_digest_48 rfl rfl rfl rfl ?_
          refine vs_iconst (v := 0) dX10_digest_49 rfl rfl ?_
          refine vs_istore [(5, .int (0)), (1, .long (dgs a (s + 1))), (4, .int (nZ (-1))), (3, .int (nI s)), (0, .ref (G.2.2.2 + 118))] dX10_digest_50 rfl rfl rfl ?_
          refine vs_iload dX10_digest_52 rfl 0 rfl ?_
          refine vs_iload dX10_digest_54 rfl 2 rfl ?_
          refine vs_icmp_ge 84 dX10_digest_56 rfl rfl (fun c_56 => ?_) (fun c_56 => ?_)
          · have q_56 : ((0 : Nat) : Int) ≥ ((-1) : Int) := (qi_ge (by first | exact nI_Z _ | (simp only [fa_lit, nI_add, pk_mul, nI_1]; exact nI_Z _)) rfl (by omega) (by omega) (by omega) (by omega)).mp c_56
            refine vs_pick [3, 1, 4] rfl ?_
            refine vs_iinc (v := nI (s + 1)) [(3, .int (nI (s + 1))), (1, .long (dgs a (s + 1))), (0, .ref (G.2.2.2 + 118))] dX10_digest_84 rfl 0 rfl (by first | exact nI_1 _ | (simp only [fa_lit, nI_add, pk_mul, nI_1]; rfl)) rfl rfl ?_
            refine vs_goto 12 dX10_digest_87 rfl ?_
            refine vs_pick [0, 1, 2] rfl ?_
            exact ih (s + 1) (by omega)
          · have q_56 : ¬ ((0 : Nat) : Int) ≥ ((-1) : Int) := fun hh => c_56 ((qi_ge (by first | exact nI_Z _ | (simp only [fa_lit, nI_add, pk_mul, nI_1]; exact nI_Z _)) rfl (by omega) (by omega) (by omega) (by omega)).mpr hh)
            omega

theorem M_digest {G : vv_G} {S : vs_S} {a : aS} (hM : MSt S a) (hG : aG a) : vs_C G yX10_digest cX10_digest 6 (some .long) { frames := 1, locals := 22 } [.ref (G.2.2.2 + 118)] S (some (.long (sp_digest a))) S := by
  refine vs_of [(0, .ref (G.2.2.2 + 118))] (by decide) rfl rfl ?_
  obtain ⟨⟨mP, mN, mH, mK0⟩, mK, mSh, mSe, ⟨mA, mB⟩, mX, mY⟩ := id hM
  refine vs_ldc2 lc_X10_213 dX10_digest_0 rfl ?_
  refine vs_aload_n 0 dX10_digest_3 rfl rfl 0 rfl ?_
  refine vs_get (v := .int (nI (aP a))) lf_X10_92 rfl (congrArg (fun z => some (Value.int z)) mP) dX10_digest_4 rfl ?_
  refine vs_i2l dX10_digest_7 rfl ?_
  refine vs_ladd dX10_digest_8 rfl ?_
  refine vs_topl (fun h1 e_h1 => ?_)
  have e2_h1 : h1 = dgs a 0 := (by rw [e_h1]; rfl)
  clear e_h1
  subst e2_h1
  refine vs_lstore_n 1 [(1, .long (dgs a 0)), (0, .ref (G.2.2.2 + 118))] dX10_digest_9 rfl rfl rfl rfl ?_
  refine vs_iconst (v := 0) dX10_digest_10 rfl rfl ?_
  refine vs_istore_n 3 [(3, .int (0)), (1, .long (dgs a 0)), (0, .ref (G.2.2.2 + 118))] dX10_digest_11 rfl rfl rfl rfl ?_
  refine vs_pick (L2 := [(3, .int (nI 0)), (1, .long (dgs a 0)), (0, .ref (G.2.2.2 + 118))]) [0, 1, 2] rfl ?_
  exact l_md1 hM hG rfl rfl 4 0 rfl

