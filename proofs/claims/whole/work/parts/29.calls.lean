theorem fidx_r {f : Nat → Nat} {x : Nat} : ∀ d i, fidx f x d i = -1 ∨ ((i : Int) ≤ fidx f x d i ∧ fidx f x d i < i + d)
  | 0, _ => Or.inl rfl
  | d + 1, i => by
    have := fidx_r (f := f) (x := x) d (i + 1)
    unfold fidx
    by_cases h : f i = x
    · rw [if_pos h]; omega
    · rw [if_neg h]; omega
def zcmp (x y : Int) : Int := if y < x then 1 else if x = y then 0 else -1
theorem lg_z (x y : Int64) : lg_cmp x y = nZ (zcmp x.toInt y.toInt) := by
  unfold lg_cmp zcmp
  by_cases h : y.toInt < x.toInt
  · rw [if_pos h, if_pos (show x > y from (fb_lt y x).mpr h)]; rfl
  · rw [if_neg h, if_neg (show ¬ x > y from fun z => h ((fb_lt y x).mp z))]
    by_cases e : x = y
    · rw [if_pos e, if_pos (by rw [e])]; rfl
    · rw [if_neg e, if_neg (fun z => e (Int64.toInt_inj.mp z))]; rfl
theorem zcmp_b (x y : Int) : -1 ≤ zcmp x y ∧ zcmp x y ≤ 1 := by
  unfold zcmp
  by_cases h : y < x
  · rw [if_pos h]; omega
  · rw [if_neg h]
    by_cases e : x = y
    · rw [if_pos e]; omega
    · rw [if_neg e]; omega
theorem zcmp_0 {x y : Int} : zcmp x y = 0 ↔ x = y := by
  unfold zcmp
  by_cases h : y < x
  · rw [if_pos h]; omega
  · rw [if_neg h]
    by_cases e : x = y
    · rw [if_pos e]; omega
    · rw [if_neg e]; omega
theorem nn_l3 {x y : Int} (h1 : 0 ≤ x) (h2 : x < 2147483648) (h3 : 0 ≤ y) (h4 : y < 2147483648) : ((nZ x).toInt64 + (nZ y).toInt64 + 1).toInt = x + y + 1 := by
  rw [Int64.toInt_add, Int64.toInt_add, nn_i2l, nn_i2l, nZ_i (by omega) h2, nZ_i (by omega) h4, show (1 : Int64).toInt = 1 from rfl, nn_bmod (x := x + y) (by omega) (by omega), nn_bmod (by omega) (by omega)]
theorem c_side0 {G : vv_G} {S : vs_S} {o : Nat} (hs : vs_Sh o) : vs_C G yX7_side cX7_side 2 (some (.object "SharesOfSeries$Polynomial")) { frames := 0, locals := 0 } [.ref (G.2.2.2 + o), .int (nZ 0)] S (some (.ref (G.2.2.2 + (o + 1)))) S := vs_cal (c_side hs) (by rw [if_pos (by decide)]) rfl
theorem c_side1 {G : vv_G} {S : vs_S} {o : Nat} (hs : vs_Sh o) : vs_C G yX7_side cX7_side 2 (some (.object "SharesOfSeries$Polynomial")) { frames := 0, locals := 0 } [.ref (G.2.2.2 + o), .int (nZ 1)] S (some (.ref (G.2.2.2 + (o + 3)))) S := vs_cal (c_side hs) (by rw [if_neg (by decide), if_pos (by decide)]) rfl
theorem c_sideN {G : vv_G} {S : vs_S} {o : Nat} (hs : vs_Sh o) {z : Int} (h1 : -2147483648 ≤ z) (h2 : z < 2147483648) (h3 : ¬ z = 0) (h4 : ¬ z = 1) : vs_C G yX7_side cX7_side 2 (some (.object "SharesOfSeries$Polynomial")) { frames := 0, locals := 0 } [.ref (G.2.2.2 + o), .int (nZ z)] S (some .null) S := vs_cal (c_side hs) (by rw [if_neg (fun e => h3 ((qi_eq (x := nZ z) (y := 0) rfl rfl h1 h2 (by decide) (by decide)).mp e)), if_neg (fun e => h4 ((qi_eq (x := nZ z) (y := 1) rfl rfl h1 h2 (by decide) (by decide)).mp e))]) rfl
def sp_point (a : aS) (x y : Int) : Int × aS := if 0 ≤ fidx (aX a) (nn_m x (aP a)) (aH a) 0 then (if aY a (fidx (aX a) (nn_m x (aP a)) (aH a) 0).toNat = nn_m y (aP a) then ((aH a : Int), a) else (-103, a)) else if 20 ≤ aH a then (-104, a) else ((aH a : Int) + 1, s_pt a (nn_m x (aP a)) (nn_m y (aP a)))
def sp_wipe (a : aS) : Int × aS := ((aH a : Int), s_wi a)
/-- the share through the points, as the class finds it -/
def jsh (a : aS) (l : Nat) : (Nat → Nat) × (Nat → Nat) := fsh (aP a) l (ipk (aX a) (aY a) (aP a) (aH a)).1 (ipk (aX a) (aY a) (aP a) (aH a)).2
def sp_join (a : aS) (l m : Int) : Int × aS := if l < 0 ∨ m < 0 then (-102, a) else if ¬ l + m + 1 = aH a then (-103, a) else if aon (jsh a l.toNat).1 (jsh a l.toNat).2 (aX a) (aY a) (aP a) (aH a) 0 = true then (1, s_re a (jsh a l.toNat).1 (jsh a l.toNat).2) else (0, a)
def sp_degree (a : aS) (s : Int) : Int × aS := if s = 0 then ((tp (aA a) 42 : Int) - 1, a) else if s = 1 then ((tp (aB a) 42 : Int) - 1, a) else (-102, a)
def sp_term (a : aS) (s k : Int) : Int × aS := if s = 0 then ((pz (aA a) k : Int), a) else if s = 1 then ((pz (aB a) k : Int), a) else (-102, a)
def sp_value (a : aS) (x : Int) : Int × aS := if hv_ (aB a) (nn_m x (aP a)) (aP a) 42 0 = 0 then (-1, a) else ((hv_ (aA a) (nn_m x (aP a)) (aP a) 42 0 * ipw (hv_ (aB a) (nn_m x (aP a)) (aP a) 42 0) (aP a) % aP a : Nat), a)
def sp_cause (a : aS) : Int × aS := ((aK a 0).toInt, a)
def sp_causes (a : aS) (c : Int) : Int × aS := if ¬ (1 ≤ c ∧ c ≤ 5) then (-102, a) else ((aK a c.toNat).toInt, a)
def sp_count (a : aS) (w : Int) : Int × aS := if w = 0 then ((aP a : Int), a) else if w = 1 then ((aN a : Int), a) else if w = 2 then ((aH a : Int), a) else if w = 3 then ((prs (aLo a) 4 : Int), a) else (-102, a)
theorem k_point {G : vv_G} {S : vs_S} {a : aS} (hC : CSt S a) (hG : aG a) {x : Int} (hx1 : -2147483648 ≤ x) (hx2 : x < 2147483648) {y : Int} (hy1 : -2147483648 ≤ y) (hy2 : y < 2147483648) : vs_CP G yX9_point cX9_point 6 (some .int) { frames := 1, locals := 24 } [.ref (G.2.2.2 + 0), .int (nZ x), .int (nZ y)] S (fun r S2 => r = some (.int (nZ (sp_point a x y).1)) ∧ CSt S2 (sp_point a x y).2 ∧ frC S S2) := by
  refine vs_ofP [(0, .ref (G.2.2.2 + 0)), (1, .int (nZ x)), (2, .int (nZ y))] (by decide) rfl rfl ?_
  obtain ⟨⟨cP, cN, cH⟩, ⟨cX, cY⟩, ⟨cA, cB⟩, cSe, cJs, cSh, ⟨cK0, cK⟩, ⟨cR1, cR2, cD⟩, cJ0⟩ := id hC
  obtain ⟨gP, gP2, gN, gH, gSe, gSh, gXY, gB31, gInj, gA, gB, gAz, gBz⟩ := hG
  have gP1 := gP.1
  have bx := nn_m_lt (v := x) (show 0 < aP a by omega)
  have by_ := nn_m_lt (v := y) (show 0 < aP a by omega)
  refine vs_aload_n 0 dX9_point_0 rfl rfl 0 rfl ?_
  refine vs_get (v := .ref (G.2.2.2 + 1)) lf_X9_12 rfl rfl dX9_point_1 rfl ?_
  refine vs_iload_n 1 dX9_point_4 rfl rfl 1 rfl ?_
  refine vs_i2l dX9_point_5 rfl ?_
  refine vs_callV (st := []) (c_ofZ (z := x) (by rw [nn_i2l, nZ_i hx1 hx2]) cP gP1 gP2) lk_X9_182 lm_X5_of rfl rfl rfl rfl (Nat.le_of_ble_eq_true rfl) rfl ⟨rfl, rfl⟩ dX9_point_6 rfl ?_
  show vs_V _ _ _ _ _ (.int (nI (nn_m x (aP a))) :: _) _
  refine vs_istore_n 3 [(3, .int (nI (nn_m x (aP a)))), (0, .ref (G.2.2.2 + 0)), (1, .int (nZ x)), (2, .int (nZ y))] dX9_point_9 rfl rfl rfl rfl ?_
  refine vs_aload_n 0 dX9_point_10 rfl rfl 1 rfl ?_
  refine vs_get (v := .ref (G.2.2.2 + 1)) lf_X9_12 rfl rfl dX9_point_11 rfl ?_
  refine vs_iload_n 2 dX9_point_14 rfl rfl 3 rfl ?_
  refine vs_i2l dX9_point_15 rfl ?_
  refine vs_callV (st := []) (c_ofZ (z := y) (by rw [nn_i2l, nZ_i hy1 hy2]) cP gP1 gP2) lk_X9_182 lm_X5_of rfl rfl rfl rfl (Nat.le_of_ble_eq_true rfl) rfl ⟨rfl, rfl⟩ dX9_point_16 rfl ?_
  show vs_V _ _ _ _ _ (.int (nI (nn_m y (aP a))) :: _) _
  refine vs_istore [(4, .int (nI (nn_m y (aP a)))), (3, .int (nI (nn_m x (aP a)))), (0, .ref (G.2.2.2 + 0)), (1, .int (nZ x)), (2, .int (nZ y))] dX9_point_19 rfl rfl rfl ?_
  refine vs_aload_n 0 dX9_point_21 rfl rfl 2 rfl ?_
  refine vs_get (v := .ref (G.2.2.2 + 4)) lf_X9_35 rfl rfl dX9_point_22 rfl ?_
  refine vs_iload_n 3 dX9_point_25 rfl rfl 1 rfl ?_
  refine vs_callV (st := []) (c_indexOf cH gH cX cY (x := nn_m x (aP a)) (by omega) (fun k => (gB31 k).1)) lk_X9_237 lm_X2_indexOf rfl rfl rfl rfl (Nat.le_of_ble_eq_true rfl) rfl ⟨rfl, rfl⟩ dX9_point_26 rfl ?_
  have hz := fidx_r (f := aX a) (x := nn_m x (aP a)) (aH a) 0
  generalize hzz : fidx (aX a) (nn_m x (aP a)) (aH a) 0 = z at hz ⊢
  show vs_V _ _ _ _ _ (.int (nZ z) :: _) _
  refine vs_topi (fun zz e_zz => ?_)
  have e2_zz : zz = nZ z := e_zz
  clear e_zz
  subst e2_zz
  refine vs_istore [(5, .int (nZ z)), (4, .int (nI (nn_m y (aP a)))), (3, .int (nI (nn_m x (aP a)))), (0, .ref (G.2.2.2 + 0)), (1, .int (nZ x)), (2, .int (nZ y))] dX9_point_29 rfl rfl rfl ?_
  refine vs_iload dX9_point_31 rfl 0 rfl ?_
  refine vs_if_lt 63 dX9_point_33 rfl rfl (fun c_33 => ?_) (fun c_33 => ?_)
  · have q_33 : (z : Int) < ((0 : Nat) : Int) := (qi_lt rfl (by first | exact nI_Z _ | (simp only [fa_lit, nI_add, pk_mul, nI_1]; exact nI_Z _)) (by omega) (by omega) (by omega) (by omega)).mp c_33
    refine vs_aload_n 0 dX9_point_63 rfl rfl 3 rfl ?_
    refine vs_get (v := .ref (G.2.2.2 + 4)) lf_X9_35 rfl rfl dX9_point_64 rfl ?_
    refine vs_get (v := .int (nI (aH a))) lf_X9_90 rfl (congrArg (fun z => some (Value.int z)) cH) dX9_point_67 rfl ?_
    refine vs_bipush (v := 20) dX9_point_70 rfl rfl ?_
    refine vs_icmp_lt 78 dX9_point_72 rfl rfl (fun c_72 => ?_) (fun c_72 => ?_)
    · have q_72 : (((aH a) : Nat) : Int) < ((20 : Nat) : Int) := (qi_lt (nI_Z _) (by first | exact nI_Z _ | (simp only [fa_lit, nI_add, pk_mul, nI_1]; exact nI_Z _)) (by omega) (by omega) (by omega) (by omega)).mp c_72
      refine vs_aload_n 0 dX9_point_78 rfl rfl 3 rfl ?_
      refine vs_get (v := .ref (G.2.2.2 + 4)) lf_X9_35 rfl rfl dX9_point_79 rfl ?_
      refine vs_iload_n 3 dX9_point_82 rfl rfl 2 rfl ?_
      refine vs_iload dX9_point_83 rfl 1 rfl ?_
      refine vs_callV (st := []) (c_add cH (by omega) cX cY (x := nn_m x (aP a)) (y := nn_m y (aP a))) lk_X9_243 lm_X2_add rfl rfl rfl rfl (Nat.le_of_ble_eq_true rfl) rfl ⟨rfl, rfl⟩ dX9_point_85 rfl ?_
      have F : vs_fx S (vs_sc (vs_ia (vs_ia S 5 (nA (nu (aX a) (aH a) (nn_m x (aP a))))) 6 (nA (nu (aY a) (aH a) (nn_m y (aP a))))) 4 2 (nI (aH a + 1))) [5, 6] [(4, 2)] [] := vs_fx.sc (vs_fx.ia (vs_fx.ia vs_fx.rf (by simp)) (by simp)) (by simp)
      refine vs_aload_n 0 dX9_point_88 rfl rfl 3 rfl ?_
      refine vs_get (v := .ref (G.2.2.2 + 4)) lf_X9_35 rfl rfl dX9_point_89 rfl ?_
      refine vs_get (v := .int (nI (aH a + 1))) lf_X9_90 rfl (congrArg (fun z => some (Value.int z)) vs_sc_at) dX9_point_92 rfl ?_
      exact vs_iretP dX9_point_95 (cpost (v := (aH a : Int) + 1) (a' := s_pt a (nn_m x (aP a)) (nn_m y (aP a))) (by unfold sp_point; rw [hzz, if_neg (by omega), if_neg (by omega)]) (by rw [nI_Z]; rfl) (CSt.pt hC F vs_sc_at (by rw [vs_sc_2, vs_ia_ne (by omega)]; exact vs_ia_at) vs_ia_at (by simp) (by simp) (by simp) (cJ.fx cJ0 F (by simp [scr]))) (F.C (by simp) (by simp) (by simp)))
    · have q_72 : ¬ (((aH a) : Nat) : Int) < ((20 : Nat) : Int) := fun hh => c_72 ((qi_lt (nI_Z _) (by first | exact nI_Z _ | (simp only [fa_lit, nI_add, pk_mul, nI_1]; exact nI_Z _)) (by omega) (by omega) (by omega) (by omega)).mpr hh)
      refine vs_bipush (v := -104) dX9_point_75 rfl rfl ?_
      exact vs_iretP dX9_point_77 (cpost (v := -104) (a' := a) (by unfold sp_point; rw [hzz]; (try simp only [Int.toNat_natCast]); repeat (first | rw [if_pos (by omega)] | rw [if_pos trivial] | rw [if_neg (by omega)])) rfl hC frC.rf)
  · have q_33 : ¬ (z : Int) < ((0 : Nat) : Int) := fun hh => c_33 ((qi_lt rfl (by first | exact nI_Z _ | (simp only [fa_lit, nI_add, pk_mul, nI_1]; exact nI_Z _)) (by omega) (by omega) (by omega) (by omega)).mpr hh)
    skip
    · obtain ⟨j, rfl⟩ : ∃ z0 : Nat, z = z0 := ⟨z.toNat, by omega⟩
      rw [nZ_n j]
      have bj := (gB31 j).2
      refine vs_aload_n 0 dX9_point_36 rfl rfl 3 rfl ?_
      refine vs_get (v := .ref (G.2.2.2 + 4)) lf_X9_35 rfl rfl dX9_point_37 rfl ?_
      refine vs_iload dX9_point_40 rfl 0 rfl ?_
      refine vs_callV (st := []) (c_heightAt cY (k := j) (by omega)) lk_X9_240 lm_X2_heightAt rfl rfl rfl rfl (Nat.le_of_ble_eq_true rfl) rfl ⟨rfl, rfl⟩ dX9_point_42 rfl ?_
      show vs_V _ _ _ _ _ (.int (nI (aY a j)) :: _) _
      refine vs_iload dX9_point_45 rfl 1 rfl ?_
      refine vs_icmp_ne 60 dX9_point_47 rfl rfl (fun c_47 => ?_) (fun c_47 => ?_)
      · have q_47 : ¬ (((aY a j) : Nat) : Int) = (((nn_m y (aP a)) : Nat) : Int) := fun hh => c_47 ((qi_eq (nI_Z _) (nI_Z _) (by omega) (by omega) (by omega) (by omega)).mpr hh)
        refine vs_bipush (v := -103) dX9_point_60 rfl rfl ?_
        exact vs_iretP dX9_point_62 (cpost (v := -103) (a' := a) (by unfold sp_point; rw [hzz, if_pos (by omega), show ((j : Nat) : Int).toNat = j by omega, if_neg (by omega)]) rfl hC frC.rf)
      · have q_47 : (((aY a j) : Nat) : Int) = (((nn_m y (aP a)) : Nat) : Int) := (qi_eq (nI_Z _) (nI_Z _) (by omega) (by omega) (by omega) (by omega)).mp c_47
        refine vs_aload_n 0 dX9_point_50 rfl rfl 3 rfl ?_
        refine vs_get (v := .ref (G.2.2.2 + 4)) lf_X9_35 rfl rfl dX9_point_51 rfl ?_
        refine vs_get (v := .int (nI (aH a))) lf_X9_90 rfl (congrArg (fun z => some (Value.int z)) cH) dX9_point_54 rfl ?_
        refine vs_goto 62 dX9_point_57 rfl ?_
        exact vs_iretP dX9_point_62 (cpost (v := (aH a : Int)) (a' := a) (by unfold sp_point; rw [hzz, if_pos (by omega), show ((j : Nat) : Int).toNat = j by omega, if_pos (by omega)]) (by rw [nZ_n]) hC frC.rf)

theorem k_wipe {G : vv_G} {S : vs_S} {a : aS} (hC : CSt S a) (hG : aG a) : vs_CP G yX9_wipe cX9_wipe 2 (some .int) { frames := 0, locals := 0 } [.ref (G.2.2.2 + 0)] S (fun r S2 => r = some (.int (nZ (sp_wipe a).1)) ∧ CSt S2 (sp_wipe a).2 ∧ frC S S2) := by
  refine vs_ofP [(0, .ref (G.2.2.2 + 0))] (by decide) rfl rfl ?_
  obtain ⟨⟨cP, cN, cH⟩, ⟨cX, cY⟩, ⟨cA, cB⟩, cSe, cJs, cSh, ⟨cK0, cK⟩, ⟨cR1, cR2, cD⟩, cJ0⟩ := id hC
  obtain ⟨gP, gP2, gN, gH, gSe, gSh, gXY, gB31, gInj, gA, gB, gAz, gBz⟩ := hG
  have gP1 := gP.1
  refine vs_aload_n 0 dX9_wipe_0 rfl rfl 0 rfl ?_
  refine vs_get (v := .ref (G.2.2.2 + 4)) lf_X9_35 rfl rfl dX9_wipe_1 rfl ?_
  refine vs_get (v := .int (nI (aH a))) lf_X9_90 rfl (congrArg (fun z => some (Value.int z)) cH) dX9_wipe_4 rfl ?_
  refine vs_istore_n 1 [(1, .int (nI (aH a))), (0, .ref (G.2.2.2 + 0))] dX9_wipe_7 rfl rfl rfl rfl ?_
  refine vs_aload_n 0 dX9_wipe_8 rfl rfl 1 rfl ?_
  refine vs_get (v := .ref (G.2.2.2 + 4)) lf_X9_35 rfl rfl dX9_wipe_9 rfl ?_
  refine vs_iconst (v := 0) dX9_wipe_12 rfl rfl ?_
  refine vs_put lf_X9_90 rfl rfl rfl rfl dX9_wipe_13 rfl ?_
  have F : vs_fx S (vs_sc S 4 2 0) [] [(4, 2)] [] := vs_fx.sc vs_fx.rf (by simp)
  refine vs_iload_n 1 dX9_wipe_16 rfl rfl 0 rfl ?_
  exact vs_iretP dX9_wipe_17 (cpost (x := sp_wipe a) rfl (by rw [nZ_n]) (CSt.wi hC F vs_sc_at (by simp) (by simp) (by simp) (cJ.fx cJ0 F (by simp))) (F.C (by simp) (by simp) (by simp)))

theorem k_join {G : vv_G} {S : vs_S} {a : aS} (hC : CSt S a) (hG : aG a) {l : Int} (hl1 : -2147483648 ≤ l) (hl2 : l < 2147483648) {m : Int} (hm1 : -2147483648 ≤ m) (hm2 : m < 2147483648) : vs_CP G yX9_join cX9_join 3 (some .int) { frames := 5, locals := 132 } [.ref (G.2.2.2 + 0), .int (nZ l), .int (nZ m)] S (fun r S2 => r = some (.int (nZ (sp_join a l m).1)) ∧ CSt S2 (sp_join a l m).2 ∧ frC S S2) := by
  refine vs_ofP [(0, .ref (G.2.2.2 + 0)), (1, .int (nZ l)), (2, .int (nZ m))] (by decide) rfl rfl ?_
  obtain ⟨⟨cP, cN, cH⟩, ⟨cX, cY⟩, ⟨cA, cB⟩, cSe, cJs, cSh, ⟨cK0, cK⟩, ⟨cR1, cR2, cD⟩, cJ0⟩ := id hC
  obtain ⟨gP, gP2, gN, gH, gSe, gSh, gXY, gB31, gInj, gA, gB, gAz, gBz⟩ := hG
  have gP1 := gP.1
  have j26 := cJ0 26 (by simp)
  have j71 := cJ0 71 (by simp)
  have j73 := cJ0 73 (by simp)
  have j75 := cJ0 75 (by simp)
  have j77 := cJ0 77 (by simp)
  obtain ⟨g13, h13⟩ := cJ0 13 (by simp)
  obtain ⟨g15, h15⟩ := cJ0 15 (by simp)
  obtain ⟨g18, h18⟩ := cJ0 18 (by simp)
  obtain ⟨g20, h20⟩ := cJ0 20 (by simp)
  obtain ⟨g22, h22⟩ := cJ0 22 (by simp)
  obtain ⟨g24, h24⟩ := cJ0 24 (by simp)
  have F : vs_fx S S [19, 21, 23, 25, 27, 14, 16, 9, 11] [] [] := vs_fx.rf
  have G0 : vs_fx S S [19, 21, 23, 25, 27, 14, 16] [] [] := vs_fx.rf
  refine vs_iload_n 1 dX9_join_0 rfl rfl 1 rfl ?_
  refine vs_if_lt 8 dX9_join_1 rfl rfl (fun c_1 => ?_) (fun c_1 => ?_)
  · have q_1 : (l : Int) < ((0 : Nat) : Int) := (qi_lt rfl (by first | exact nI_Z _ | (simp only [fa_lit, nI_add, pk_mul, nI_1]; exact nI_Z _)) (by omega) (by omega) (by omega) (by omega)).mp c_1
    refine vs_bipush (v := -102) dX9_join_8 rfl rfl ?_
    exact vs_iretP dX9_join_10 (cpost (v := -102) (a' := a) (by unfold sp_join; (try simp only [Int.toNat_natCast]); repeat (first | rw [if_pos (by omega)] | rw [if_pos trivial] | rw [if_neg (by omega)])) rfl hC frC.rf)
  · have q_1 : ¬ (l : Int) < ((0 : Nat) : Int) := fun hh => c_1 ((qi_lt rfl (by first | exact nI_Z _ | (simp only [fa_lit, nI_add, pk_mul, nI_1]; exact nI_Z _)) (by omega) (by omega) (by omega) (by omega)).mpr hh)
    refine vs_iload_n 2 dX9_join_4 rfl rfl 2 rfl ?_
    refine vs_if_ge 11 dX9_join_5 rfl rfl (fun c_5 => ?_) (fun c_5 => ?_)
    · have q_5 : (m : Int) ≥ ((0 : Nat) : Int) := (qi_ge rfl (by first | exact nI_Z _ | (simp only [fa_lit, nI_add, pk_mul, nI_1]; exact nI_Z _)) (by omega) (by omega) (by omega) (by omega)).mp c_5
      refine vs_iload_n 1 dX9_join_11 rfl rfl 1 rfl ?_
      refine vs_i2l dX9_join_12 rfl ?_
      refine vs_iload_n 2 dX9_join_13 rfl rfl 2 rfl ?_
      refine vs_i2l dX9_join_14 rfl ?_
      refine vs_ladd dX9_join_15 rfl ?_
      refine vs_lconst (v := 1) dX9_join_16 rfl rfl ?_
      refine vs_ladd dX9_join_17 rfl ?_
      refine vs_aload_n 0 dX9_join_18 rfl rfl 0 rfl ?_
      refine vs_get (v := .ref (G.2.2.2 + 4)) lf_X9_35 rfl rfl dX9_join_19 rfl ?_
      refine vs_get (v := .int (nI (aH a))) lf_X9_90 rfl (congrArg (fun z => some (Value.int z)) cH) dX9_join_22 rfl ?_
      refine vs_i2l dX9_join_25 rfl ?_
      refine vs_lcmp dX9_join_26 rfl ?_
      refine vs_topi (fun z1 e_z1 => ?_)
      have f_z1 : z1 = nZ (zcmp (l + m + 1) (aH a)) := (by rw [e_z1, lg_z, nn_l3 (by omega) (by omega) (by omega) (by omega), nn_i2l, nI_i (by omega)])
      subst f_z1
      clear e_z1
      refine vs_if_eq 33 dX9_join_27 rfl rfl (fun c_27 => ?_) (fun c_27 => ?_)
      · have q_27 : ((zcmp (l + m + 1) (aH a)) : Int) = ((0 : Nat) : Int) := (qi_eq rfl (by first | exact nI_Z _ | (simp only [fa_lit, nI_add, pk_mul, nI_1]; exact nI_Z _)) (by have := zcmp_b (l + m + 1) (aH a); omega) (by have := zcmp_b (l + m + 1) (aH a); omega) (by decide) (by decide)).mp c_27
        have hlm := zcmp_0.mp q_27
        skip
        · obtain ⟨l, rfl⟩ : ∃ z0 : Nat, l = z0 := ⟨l.toNat, by omega⟩
          obtain ⟨m, rfl⟩ : ∃ z0 : Nat, m = z0 := ⟨m.toNat, by omega⟩
          rw [nZ_n l, nZ_n m]
          obtain ⟨hb1, hb2⟩ := fsh_b (P := aP a) (l := l) (m := (ipk (aX a) (aY a) (aP a) (aH a)).1) (s := (ipk (aX a) (aY a) (aP a) (aH a)).2) (by omega)
          obtain ⟨ib1, ib2⟩ := ipk_b (px := aX a) (py := aY a) gP1 (aH a)
          obtain ⟨iz1, iz2⟩ := ipk_z (px := aX a) (py := aY a) (P := aP a) (aH a)
          refine vs_aload_n 0 dX9_join_33 rfl rfl 0 rfl ?_
          refine vs_get (v := .ref (G.2.2.2 + 4)) lf_X9_35 rfl rfl dX9_join_34 rfl ?_
          refine vs_aload_n 0 dX9_join_37 rfl rfl 0 rfl ?_
          refine vs_get (v := .ref (G.2.2.2 + 17)) lf_X9_52 rfl rfl dX9_join_38 rfl ?_
          refine vs_get (v := .ref (G.2.2.2 + 18)) lf_X9_246 rfl rfl dX9_join_41 rfl ?_
          refine vs_aload_n 0 dX9_join_44 rfl rfl 0 rfl ?_
          refine vs_get (v := .ref (G.2.2.2 + 17)) lf_X9_52 rfl rfl dX9_join_45 rfl ?_
          refine vs_get (v := .ref (G.2.2.2 + 20)) lf_X9_248 rfl rfl dX9_join_48 rfl ?_
          refine vs_aload_n 0 dX9_join_51 rfl rfl 0 rfl ?_
          refine vs_get (v := .ref (G.2.2.2 + 1)) lf_X9_12 rfl rfl dX9_join_52 rfl ?_
          refine vs_callV (st := []) (c_interpolate cH gH cX cY cP gP1 gP2 (fun k hk => (gXY k hk).1) (fun k hk => (gXY k hk).2) h18 h20) lk_X9_251 lm_X2_interpolate rfl rfl rfl rfl (Nat.le_of_ble_eq_true rfl) rfl ⟨rfl, rfl⟩ dX9_join_55 rfl ?_
          refine vs_gen (fun T1 e_T1 => ?_)
          have cP : T1.1 1 0 = nI (aP a) := by rw [e_T1]; repeat (first | exact cP | rw [vs_ia_ne (by omega)] | rw [vs_ia_1] | rw [vs_sc_ne (by omega)] | rw [vs_sc_nf (by omega)])
          have cN : T1.1 0 3 = nI (aN a) := by rw [e_T1]; repeat (first | exact cN | rw [vs_ia_ne (by omega)] | rw [vs_ia_1] | rw [vs_sc_ne (by omega)] | rw [vs_sc_nf (by omega)])
          have j26 : jk T1 26 := by obtain ⟨g, hg⟩ := j26; exact ⟨g, by rw [e_T1]; repeat (first | exact hg.1 | rw [vs_ia_ne (by omega)]), hg.2⟩
          have j71 : jk T1 71 := by obtain ⟨g, hg⟩ := j71; exact ⟨g, by rw [e_T1]; repeat (first | exact hg.1 | rw [vs_ia_ne (by omega)]), hg.2⟩
          have j73 : jk T1 73 := by obtain ⟨g, hg⟩ := j73; exact ⟨g, by rw [e_T1]; repeat (first | exact hg.1 | rw [vs_ia_ne (by omega)]), hg.2⟩
          have j75 : jk T1 75 := by obtain ⟨g, hg⟩ := j75; exact ⟨g, by rw [e_T1]; repeat (first | exact hg.1 | rw [vs_ia_ne (by omega)]), hg.2⟩
          have j77 : jk T1 77 := by obtain ⟨g, hg⟩ := j77; exact ⟨g, by rw [e_T1]; repeat (first | exact hg.1 | rw [vs_ia_ne (by omega)]), hg.2⟩
          have h13 : pR T1 13 g13 := ⟨by rw [e_T1]; repeat (first | exact h13.1 | rw [vs_ia_ne (by omega)]), h13.2⟩
          have h15 : pR T1 15 g15 := ⟨by rw [e_T1]; repeat (first | exact h15.1 | rw [vs_ia_ne (by omega)]), h15.2⟩
          have h22 : pR T1 22 g22 := ⟨by rw [e_T1]; repeat (first | exact h22.1 | rw [vs_ia_ne (by omega)]), h22.2⟩
          have h24 : pR T1 24 g24 := ⟨by rw [e_T1]; repeat (first | exact h24.1 | rw [vs_ia_ne (by omega)]), h24.2⟩
          have cA : pR T1 8 (aA a) := ⟨by rw [e_T1]; repeat (first | exact cA.1 | rw [vs_ia_ne (by omega)]), cA.2⟩
          have cB : pR T1 10 (aB a) := ⟨by rw [e_T1]; repeat (first | exact cB.1 | rw [vs_ia_ne (by omega)]), cB.2⟩
          have cX : T1.2.1 5 = nA (aX a) := by rw [e_T1]; repeat (first | exact cX | rw [vs_ia_ne (by omega)] | rw [vs_ia_1] | rw [vs_sc_ne (by omega)] | rw [vs_sc_nf (by omega)])
          have cY : T1.2.1 6 = nA (aY a) := by rw [e_T1]; repeat (first | exact cY | rw [vs_ia_ne (by omega)] | rw [vs_ia_1] | rw [vs_sc_ne (by omega)] | rw [vs_sc_nf (by omega)])
          have cH : T1.1 4 2 = nI (aH a) := by rw [e_T1]; repeat (first | exact cH | rw [vs_ia_ne (by omega)] | rw [vs_ia_1] | rw [vs_sc_ne (by omega)] | rw [vs_sc_nf (by omega)])
          have F : vs_fx S T1 [19, 21, 23, 25, 27, 14, 16, 9, 11] [] [] := by rw [e_T1]; repeat (first | exact F | refine vs_fx.ia ?_ (by simp <;> omega) | refine vs_fx.sc ?_ (by simp <;> omega) | refine vs_fx.la ?_ (by simp <;> omega))
          have G0 : vs_fx S T1 [19, 21, 23, 25, 27, 14, 16] [] [] := by rw [e_T1]; repeat (first | exact G0 | refine vs_fx.ia ?_ (by simp <;> omega) | refine vs_fx.sc ?_ (by simp <;> omega) | refine vs_fx.la ?_ (by simp <;> omega))
          have h18 : pR T1 18 (ipk (aX a) (aY a) (aP a) (aH a)).1 := ⟨by rw [e_T1]; repeat (first | exact vs_ia_at | rw [vs_ia_ne (by omega)]), iz1⟩
          have h20 : pR T1 20 (ipk (aX a) (aY a) (aP a) (aH a)).2 := ⟨by rw [e_T1]; repeat (first | exact vs_ia_at | rw [vs_ia_ne (by omega)]), iz2⟩
          clear e_T1
          refine vs_aload_n 0 dX9_join_58 rfl rfl 0 rfl ?_
          refine vs_get (v := .ref (G.2.2.2 + 17)) lf_X9_52 rfl rfl dX9_join_59 rfl ?_
          refine vs_iload_n 1 dX9_join_62 rfl rfl 1 rfl ?_
          refine vs_aload_n 0 dX9_join_63 rfl rfl 0 rfl ?_
          refine vs_get (v := .ref (G.2.2.2 + 12)) lf_X9_46 rfl rfl dX9_join_64 rfl ?_
          refine vs_aload_n 0 dX9_join_67 rfl rfl 0 rfl ?_
          refine vs_get (v := .ref (G.2.2.2 + 1)) lf_X9_12 rfl rfl dX9_join_68 rfl ?_
          refine vs_callVP (st := []) (c_findShare (o := 12) ⟨rfl, ⟨rfl, rfl⟩, ⟨rfl, rfl⟩⟩ (by omega) h18 h20 h13 h15 h22 h24 j26 cP gP1 gP2 ib1 ib2 (l := l) (by omega)) lk_X9_255 lm_X1_findShare rfl rfl rfl rfl (Nat.le_of_ble_eq_true rfl) rfl ⟨rfl, rfl⟩ dX9_join_71 rfl (fun rr S1 hh => ?_)
          obtain ⟨rfl, F2, e1, e2, j18, j20, j22, j24, j26⟩ := hh
          show vs_V _ _ _ _ _ [] _
          have cP : S1.1 1 0 = nI (aP a) := by rw [F2.1]; exact cP
          have cN : S1.1 0 3 = nI (aN a) := by rw [F2.1]; exact cN
          have j71 : jk S1 71 := by obtain ⟨g, hg⟩ := j71; exact ⟨g, F2.p (by simp <;> omega) hg⟩
          have j73 : jk S1 73 := by obtain ⟨g, hg⟩ := j73; exact ⟨g, F2.p (by simp <;> omega) hg⟩
          have j75 : jk S1 75 := by obtain ⟨g, hg⟩ := j75; exact ⟨g, F2.p (by simp <;> omega) hg⟩
          have j77 : jk S1 77 := by obtain ⟨g, hg⟩ := j77; exact ⟨g, F2.p (by simp <;> omega) hg⟩
          have cA : pR S1 8 (aA a) := F2.p (by simp <;> omega) cA
          have cB : pR S1 10 (aB a) := F2.p (by simp <;> omega) cB
          have cX : S1.2.1 5 = nA (aX a) := (F2.2.2 _ (by simp <;> omega)).trans cX
          have cY : S1.2.1 6 = nA (aY a) := (F2.2.2 _ (by simp <;> omega)).trans cY
          have cH : S1.1 4 2 = nI (aH a) := by rw [F2.1]; exact cH
          have F : vs_fx S S1 [19, 21, 23, 25, 27, 14, 16, 9, 11] [] [] := vs_fx.tr F F2.fx (by simp <;> omega) (by simp) (by simp)
          have G0 : vs_fx S S1 [19, 21, 23, 25, 27, 14, 16] [] [] := vs_fx.tr G0 F2.fx (by simp <;> omega) (by simp) (by simp)
          refine vs_aload_n 0 dX9_join_74 rfl rfl 0 rfl ?_
          refine vs_get (v := .ref (G.2.2.2 + 4)) lf_X9_35 rfl rfl dX9_join_75 rfl ?_
          refine vs_aload_n 0 dX9_join_78 rfl rfl 0 rfl ?_
          refine vs_get (v := .ref (G.2.2.2 + 12)) lf_X9_46 rfl rfl dX9_join_79 rfl ?_
          refine vs_aload_n 0 dX9_join_82 rfl rfl 0 rfl ?_
          refine vs_get (v := .ref (G.2.2.2 + 1)) lf_X9_12 rfl rfl dX9_join_83 rfl ?_
          refine vs_callV (st := []) (c_allOn (o := 12) ⟨rfl, ⟨rfl, rfl⟩, ⟨rfl, rfl⟩⟩ e1 e2 cH gH cX cY cP gP1 gP2 (fun k hk => (gXY k hk).1) (fun k hk => (gXY k hk).2) hb1 hb2) lk_X9_259 lm_X2_allOn rfl rfl rfl rfl (Nat.le_of_ble_eq_true rfl) rfl ⟨rfl, rfl⟩ dX9_join_86 rfl ?_
          show vs_V _ _ _ _ _ (.int ((if aon (jsh a l).1 (jsh a l).2 (aX a) (aY a) (aP a) (aH a) 0 = true then 1 else 0)) :: _) _
          refine vs_if_ne 94 dX9_join_89 rfl rfl (fun c_89 => ?_) (fun c_89 => ?_)
          · rw [nn_is0, Classical.not_not] at c_89
            refine vs_aload_n 0 dX9_join_94 rfl rfl 0 rfl ?_
            refine vs_get (v := .ref (G.2.2.2 + 7)) lf_X9_42 rfl rfl dX9_join_95 rfl ?_
            refine vs_aload_n 0 dX9_join_98 rfl rfl 0 rfl ?_
            refine vs_get (v := .ref (G.2.2.2 + 12)) lf_X9_46 rfl rfl dX9_join_99 rfl ?_
            refine vs_callV (st := []) (c_sbecome (o := 7) (p := 12) ⟨rfl, ⟨rfl, rfl⟩, ⟨rfl, rfl⟩⟩ cA cB ⟨rfl, ⟨rfl, rfl⟩, ⟨rfl, rfl⟩⟩ e1 e2 (by omega)) lk_X9_263 lm_X7_become rfl rfl rfl rfl (Nat.le_of_ble_eq_true rfl) rfl ⟨rfl, rfl⟩ dX9_join_102 rfl ?_
            refine vs_gen (fun T2 e_T2 => ?_)
            have cP : T2.1 1 0 = nI (aP a) := by rw [e_T2]; repeat (first | exact cP | rw [vs_ia_ne (by omega)] | rw [vs_ia_1] | rw [vs_sc_ne (by omega)] | rw [vs_sc_nf (by omega)])
            have cN : T2.1 0 3 = nI (aN a) := by rw [e_T2]; repeat (first | exact cN | rw [vs_ia_ne (by omega)] | rw [vs_ia_1] | rw [vs_sc_ne (by omega)] | rw [vs_sc_nf (by omega)])
            have j26 : jk T2 26 := by obtain ⟨g, hg⟩ := j26; exact ⟨g, by rw [e_T2]; repeat (first | exact hg.1 | rw [vs_ia_ne (by omega)]), hg.2⟩
            have j71 : jk T2 71 := by obtain ⟨g, hg⟩ := j71; exact ⟨g, by rw [e_T2]; repeat (first | exact hg.1 | rw [vs_ia_ne (by omega)]), hg.2⟩
            have j73 : jk T2 73 := by obtain ⟨g, hg⟩ := j73; exact ⟨g, by rw [e_T2]; repeat (first | exact hg.1 | rw [vs_ia_ne (by omega)]), hg.2⟩
            have j75 : jk T2 75 := by obtain ⟨g, hg⟩ := j75; exact ⟨g, by rw [e_T2]; repeat (first | exact hg.1 | rw [vs_ia_ne (by omega)]), hg.2⟩
            have j77 : jk T2 77 := by obtain ⟨g, hg⟩ := j77; exact ⟨g, by rw [e_T2]; repeat (first | exact hg.1 | rw [vs_ia_ne (by omega)]), hg.2⟩
            have cX : T2.2.1 5 = nA (aX a) := by rw [e_T2]; repeat (first | exact cX | rw [vs_ia_ne (by omega)] | rw [vs_ia_1] | rw [vs_sc_ne (by omega)] | rw [vs_sc_nf (by omega)])
            have cY : T2.2.1 6 = nA (aY a) := by rw [e_T2]; repeat (first | exact cY | rw [vs_ia_ne (by omega)] | rw [vs_ia_1] | rw [vs_sc_ne (by omega)] | rw [vs_sc_nf (by omega)])
            have cH : T2.1 4 2 = nI (aH a) := by rw [e_T2]; repeat (first | exact cH | rw [vs_ia_ne (by omega)] | rw [vs_ia_1] | rw [vs_sc_ne (by omega)] | rw [vs_sc_nf (by omega)])
            have F : vs_fx S T2 [19, 21, 23, 25, 27, 14, 16, 9, 11] [] [] := by rw [e_T2]; repeat (first | exact F | refine vs_fx.ia ?_ (by simp <;> omega) | refine vs_fx.sc ?_ (by simp <;> omega) | refine vs_fx.la ?_ (by simp <;> omega))
            have e1 : pR T2 13 (jsh a l).1 := ⟨by rw [e_T2]; repeat (first | exact e1.1 | rw [vs_ia_ne (by omega)]), e1.2⟩
            have e2 : pR T2 15 (jsh a l).2 := ⟨by rw [e_T2]; repeat (first | exact e2.1 | rw [vs_ia_ne (by omega)]), e2.2⟩
            have j18 : jk T2 18 := by obtain ⟨g, hg⟩ := j18; exact ⟨g, by rw [e_T2]; repeat (first | exact hg.1 | rw [vs_ia_ne (by omega)]), hg.2⟩
            have j20 : jk T2 20 := by obtain ⟨g, hg⟩ := j20; exact ⟨g, by rw [e_T2]; repeat (first | exact hg.1 | rw [vs_ia_ne (by omega)]), hg.2⟩
            have j22 : jk T2 22 := by obtain ⟨g, hg⟩ := j22; exact ⟨g, by rw [e_T2]; repeat (first | exact hg.1 | rw [vs_ia_ne (by omega)]), hg.2⟩
            have j24 : jk T2 24 := by obtain ⟨g, hg⟩ := j24; exact ⟨g, by rw [e_T2]; repeat (first | exact hg.1 | rw [vs_ia_ne (by omega)]), hg.2⟩
            have cA : pR T2 8 (jsh a l).1 := ⟨by rw [e_T2]; repeat (first | exact vs_ia_at | rw [vs_ia_ne (by omega)]), e1.2⟩
            have cB : pR T2 10 (jsh a l).2 := ⟨by rw [e_T2]; repeat (first | exact vs_ia_at | rw [vs_ia_ne (by omega)]), e2.2⟩
            clear e_T2
            refine vs_iconst (v := 1) dX9_join_105 rfl rfl ?_
            exact vs_iretP dX9_join_106 (cpost (v := 1) (a' := s_re a (jsh a l).1 (jsh a l).2) (by unfold sp_join; rw [if_neg (by omega), if_neg (by omega), show ((l : Nat) : Int).toNat = l by omega, if_pos c_89]) rfl (CSt.re hC F cA cB (by simp [scr]) (by simp) (by simp) (cJ_of ⟨_, e1⟩ ⟨_, e2⟩ j18 j20 j22 j24 j26 j71 j73 j75 j77)) (F.C (by simp) (by simp) (by simp)))
          · rw [nn_is0] at c_89
            refine vs_iconst (v := 0) dX9_join_92 rfl rfl ?_
            exact vs_iretP dX9_join_93 (cpost (v := 0) (a' := a) (by unfold sp_join; rw [if_neg (by omega), if_neg (by omega), show ((l : Nat) : Int).toNat = l by omega, if_neg c_89]) rfl (CSt.sr hC G0 (by simp [scr]) (by simp) (by simp) (cJ_of ⟨_, e1⟩ ⟨_, e2⟩ j18 j20 j22 j24 j26 j71 j73 j75 j77)) (F.C (by simp) (by simp) (by simp)))
      · have q_27 : ¬ ((zcmp (l + m + 1) (aH a)) : Int) = ((0 : Nat) : Int) := fun hh => c_27 ((qi_eq rfl (by first | exact nI_Z _ | (simp only [fa_lit, nI_add, pk_mul, nI_1]; exact nI_Z _)) (by have := zcmp_b (l + m + 1) (aH a); omega) (by have := zcmp_b (l + m + 1) (aH a); omega) (by decide) (by decide)).mpr hh)
        have hlm : ¬ l + m + 1 = (aH a : Int) := fun e => q_27 (zcmp_0.mpr e)
        refine vs_bipush (v := -103) dX9_join_30 rfl rfl ?_
        exact vs_iretP dX9_join_32 (cpost (v := -103) (a' := a) (by unfold sp_join; (try simp only [Int.toNat_natCast]); repeat (first | rw [if_pos (by omega)] | rw [if_pos trivial] | rw [if_neg (by omega)])) rfl hC frC.rf)
    · have q_5 : ¬ (m : Int) ≥ ((0 : Nat) : Int) := fun hh => c_5 ((qi_ge rfl (by first | exact nI_Z _ | (simp only [fa_lit, nI_add, pk_mul, nI_1]; exact nI_Z _)) (by omega) (by omega) (by omega) (by omega)).mpr hh)
      refine vs_bipush (v := -102) dX9_join_8 rfl rfl ?_
      exact vs_iretP dX9_join_10 (cpost (v := -102) (a' := a) (by unfold sp_join; (try simp only [Int.toNat_natCast]); repeat (first | rw [if_pos (by omega)] | rw [if_pos trivial] | rw [if_neg (by omega)])) rfl hC frC.rf)

theorem k_degree {G : vv_G} {S : vs_S} {a : aS} (hC : CSt S a) (hG : aG a) {s : Int} (hs1_ : -2147483648 ≤ s) (hs2_ : s < 2147483648) : vs_CP G yX9_degree cX9_degree 3 (some .int) { frames := 1, locals := 21 } [.ref (G.2.2.2 + 0), .int (nZ s)] S (fun r S2 => r = some (.int (nZ (sp_degree a s).1)) ∧ CSt S2 (sp_degree a s).2 ∧ frC S S2) := by
  refine vs_ofP [(0, .ref (G.2.2.2 + 0)), (1, .int (nZ s))] (by decide) rfl rfl ?_
  obtain ⟨⟨cP, cN, cH⟩, ⟨cX, cY⟩, ⟨cA, cB⟩, cSe, cJs, cSh, ⟨cK0, cK⟩, ⟨cR1, cR2, cD⟩, cJ0⟩ := id hC
  obtain ⟨gP, gP2, gN, gH, gSe, gSh, gXY, gB31, gInj, gA, gB, gAz, gBz⟩ := hG
  have gP1 := gP.1
  by_cases hs0 : s = 0
  · subst hs0
    refine vs_aload_n 0 dX9_degree_0 rfl rfl 0 rfl ?_
    refine vs_get (v := .ref (G.2.2.2 + 7)) lf_X9_42 rfl rfl dX9_degree_1 rfl ?_
    refine vs_iload_n 1 dX9_degree_4 rfl rfl 1 rfl ?_
    refine vs_callV (st := []) (c_side0 (o := 7) ⟨rfl, ⟨rfl, rfl⟩, ⟨rfl, rfl⟩⟩) lk_X9_266 lm_X7_side rfl rfl rfl rfl (Nat.le_of_ble_eq_true rfl) rfl ⟨rfl, rfl⟩ dX9_degree_5 rfl ?_
    show vs_V _ _ _ _ _ (.ref (G.2.2.2 + 8) :: _) _
    refine vs_astore_n 2 [(2, .ref (G.2.2.2 + 8)), (0, .ref (G.2.2.2 + 0)), (1, .int (nZ 0))] dX9_degree_8 rfl rfl rfl rfl ?_
    refine vs_aload_n 2 dX9_degree_9 rfl rfl 0 rfl ?_
    refine vs_ifnonnull 18 dX9_degree_10 rfl ?_
    refine vs_aload_n 2 dX9_degree_18 rfl rfl 0 rfl ?_
    refine vs_callV (st := []) (c_top (o := 8) ⟨rfl, rfl⟩ cA (fun k => by have := gA k; omega)) lk_X9_223 lm_X3_top rfl rfl rfl rfl (Nat.le_of_ble_eq_true rfl) rfl ⟨rfl, rfl⟩ dX9_degree_19 rfl ?_
    show vs_V _ _ _ _ _ (.int (nZ ((tp (aA a) 42 : Int) - 1)) :: _) _
    exact vs_iretP dX9_degree_22 (cpost (v := (tp (aA a) 42 : Int) - 1) (a' := a) (by unfold sp_degree; (try simp only [Int.toNat_natCast]); repeat (first | rw [if_pos (by omega)] | rw [if_pos trivial] | rw [if_neg (by omega)])) rfl hC frC.rf)
  · by_cases hs1 : s = 1
    · subst hs1
      refine vs_aload_n 0 dX9_degree_0 rfl rfl 0 rfl ?_
      refine vs_get (v := .ref (G.2.2.2 + 7)) lf_X9_42 rfl rfl dX9_degree_1 rfl ?_
      refine vs_iload_n 1 dX9_degree_4 rfl rfl 1 rfl ?_
      refine vs_callV (st := []) (c_side1 (o := 7) ⟨rfl, ⟨rfl, rfl⟩, ⟨rfl, rfl⟩⟩) lk_X9_266 lm_X7_side rfl rfl rfl rfl (Nat.le_of_ble_eq_true rfl) rfl ⟨rfl, rfl⟩ dX9_degree_5 rfl ?_
      show vs_V _ _ _ _ _ (.ref (G.2.2.2 + 10) :: _) _
      refine vs_astore_n 2 [(2, .ref (G.2.2.2 + 10)), (0, .ref (G.2.2.2 + 0)), (1, .int (nZ 1))] dX9_degree_8 rfl rfl rfl rfl ?_
      refine vs_aload_n 2 dX9_degree_9 rfl rfl 0 rfl ?_
      refine vs_ifnonnull 18 dX9_degree_10 rfl ?_
      refine vs_aload_n 2 dX9_degree_18 rfl rfl 0 rfl ?_
      refine vs_callV (st := []) (c_top (o := 10) ⟨rfl, rfl⟩ cB (fun k => by have := gB k; omega)) lk_X9_223 lm_X3_top rfl rfl rfl rfl (Nat.le_of_ble_eq_true rfl) rfl ⟨rfl, rfl⟩ dX9_degree_19 rfl ?_
      show vs_V _ _ _ _ _ (.int (nZ ((tp (aB a) 42 : Int) - 1)) :: _) _
      exact vs_iretP dX9_degree_22 (cpost (v := (tp (aB a) 42 : Int) - 1) (a' := a) (by unfold sp_degree; (try simp only [Int.toNat_natCast]); repeat (first | rw [if_pos (by omega)] | rw [if_pos trivial] | rw [if_neg (by omega)])) rfl hC frC.rf)
    · refine vs_aload_n 0 dX9_degree_0 rfl rfl 0 rfl ?_
      refine vs_get (v := .ref (G.2.2.2 + 7)) lf_X9_42 rfl rfl dX9_degree_1 rfl ?_
      refine vs_iload_n 1 dX9_degree_4 rfl rfl 1 rfl ?_
      refine vs_callV (st := []) (c_sideN (o := 7) ⟨rfl, ⟨rfl, rfl⟩, ⟨rfl, rfl⟩⟩ hs1_ hs2_ hs0 hs1) lk_X9_266 lm_X7_side rfl rfl rfl rfl (Nat.le_of_ble_eq_true rfl) rfl ⟨rfl, rfl⟩ dX9_degree_5 rfl ?_
      show vs_V _ _ _ _ _ (.null :: _) _
      refine vs_astore_nN 2 [(2, .null), (0, .ref (G.2.2.2 + 0)), (1, .int (nZ s))] dX9_degree_8 rfl rfl rfl rfl ?_
      refine vs_aload_nN 2 dX9_degree_9 rfl rfl 0 rfl ?_
      refine vs_ifnonnullN dX9_degree_10 rfl ?_
      refine vs_bipush (v := -102) dX9_degree_13 rfl rfl ?_
      refine vs_goto 22 dX9_degree_15 rfl ?_
      exact vs_iretP dX9_degree_22 (cpost (v := -102) (a' := a) (by unfold sp_degree; (try simp only [Int.toNat_natCast]); repeat (first | rw [if_pos (by omega)] | rw [if_pos trivial] | rw [if_neg (by omega)])) rfl hC frC.rf)

theorem k_term {G : vv_G} {S : vs_S} {a : aS} (hC : CSt S a) (hG : aG a) {s : Int} (hs1_ : -2147483648 ≤ s) (hs2_ : s < 2147483648) {k : Int} (hk1 : -2147483648 ≤ k) (hk2 : k < 2147483648) : vs_CP G yX9_term cX9_term 4 (some .int) { frames := 1, locals := 21 } [.ref (G.2.2.2 + 0), .int (nZ s), .int (nZ k)] S (fun r S2 => r = some (.int (nZ (sp_term a s k).1)) ∧ CSt S2 (sp_term a s k).2 ∧ frC S S2) := by
  refine vs_ofP [(0, .ref (G.2.2.2 + 0)), (1, .int (nZ s)), (2, .int (nZ k))] (by decide) rfl rfl ?_
  obtain ⟨⟨cP, cN, cH⟩, ⟨cX, cY⟩, ⟨cA, cB⟩, cSe, cJs, cSh, ⟨cK0, cK⟩, ⟨cR1, cR2, cD⟩, cJ0⟩ := id hC
  obtain ⟨gP, gP2, gN, gH, gSe, gSh, gXY, gB31, gInj, gA, gB, gAz, gBz⟩ := hG
  have gP1 := gP.1
  by_cases hs0 : s = 0
  · subst hs0
    refine vs_aload_n 0 dX9_term_0 rfl rfl 0 rfl ?_
    refine vs_get (v := .ref (G.2.2.2 + 7)) lf_X9_42 rfl rfl dX9_term_1 rfl ?_
    refine vs_iload_n 1 dX9_term_4 rfl rfl 1 rfl ?_
    refine vs_callV (st := []) (c_side0 (o := 7) ⟨rfl, ⟨rfl, rfl⟩, ⟨rfl, rfl⟩⟩) lk_X9_266 lm_X7_side rfl rfl rfl rfl (Nat.le_of_ble_eq_true rfl) rfl ⟨rfl, rfl⟩ dX9_term_5 rfl ?_
    show vs_V _ _ _ _ _ (.ref (G.2.2.2 + 8) :: _) _
    refine vs_astore_n 3 [(3, .ref (G.2.2.2 + 8)), (0, .ref (G.2.2.2 + 0)), (1, .int (nZ 0)), (2, .int (nZ k))] dX9_term_8 rfl rfl rfl rfl ?_
    refine vs_aload_n 3 dX9_term_9 rfl rfl 0 rfl ?_
    refine vs_ifnonnull 18 dX9_term_10 rfl ?_
    refine vs_aload_n 3 dX9_term_18 rfl rfl 0 rfl ?_
    refine vs_iload_n 2 dX9_term_19 rfl rfl 3 rfl ?_
    refine vs_callV (st := []) (c_at (o := 8) ⟨rfl, rfl⟩ cA (k := nZ k)) lk_X9_186 lm_X3_at rfl rfl rfl rfl (Nat.le_of_ble_eq_true rfl) rfl ⟨rfl, rfl⟩ dX9_term_20 rfl ?_
    rw [nZ_i hk1 hk2]
    show vs_V _ _ _ _ _ (.int (nI (pz (aA a) k)) :: _) _
    exact vs_iretP dX9_term_23 (cpost (v := (pz (aA a) k : Int)) (a' := a) (by unfold sp_term; (try simp only [Int.toNat_natCast]); repeat (first | rw [if_pos (by omega)] | rw [if_pos trivial] | rw [if_neg (by omega)])) (by rw [nZ_n]) hC frC.rf)
  · by_cases hs1 : s = 1
    · subst hs1
      refine vs_aload_n 0 dX9_term_0 rfl rfl 0 rfl ?_
      refine vs_get (v := .ref (G.2.2.2 + 7)) lf_X9_42 rfl rfl dX9_term_1 rfl ?_
      refine vs_iload_n 1 dX9_term_4 rfl rfl 1 rfl ?_
      refine vs_callV (st := []) (c_side1 (o := 7) ⟨rfl, ⟨rfl, rfl⟩, ⟨rfl, rfl⟩⟩) lk_X9_266 lm_X7_side rfl rfl rfl rfl (Nat.le_of_ble_eq_true rfl) rfl ⟨rfl, rfl⟩ dX9_term_5 rfl ?_
      show vs_V _ _ _ _ _ (.ref (G.2.2.2 + 10) :: _) _
      refine vs_astore_n 3 [(3, .ref (G.2.2.2 + 10)), (0, .ref (G.2.2.2 + 0)), (1, .int (nZ 1)), (2, .int (nZ k))] dX9_term_8 rfl rfl rfl rfl ?_
      refine vs_aload_n 3 dX9_term_9 rfl rfl 0 rfl ?_
      refine vs_ifnonnull 18 dX9_term_10 rfl ?_
      refine vs_aload_n 3 dX9_term_18 rfl rfl 0 rfl ?_
      refine vs_iload_n 2 dX9_term_19 rfl rfl 3 rfl ?_
      refine vs_callV (st := []) (c_at (o := 10) ⟨rfl, rfl⟩ cB (k := nZ k)) lk_X9_186 lm_X3_at rfl rfl rfl rfl (Nat.le_of_ble_eq_true rfl) rfl ⟨rfl, rfl⟩ dX9_term_20 rfl ?_
      rw [nZ_i hk1 hk2]
      show vs_V _ _ _ _ _ (.int (nI (pz (aB a) k)) :: _) _
      exact vs_iretP dX9_term_23 (cpost (v := (pz (aB a) k : Int)) (a' := a) (by unfold sp_term; (try simp only [Int.toNat_natCast]); repeat (first | rw [if_pos (by omega)] | rw [if_pos trivial] | rw [if_neg (by omega)])) (by rw [nZ_n]) hC frC.rf)
    · refine vs_aload_n 0 dX9_term_0 rfl rfl 0 rfl ?_
      refine vs_get (v := .ref (G.2.2.2 + 7)) lf_X9_42 rfl rfl dX9_term_1 rfl ?_
      refine vs_iload_n 1 dX9_term_4 rfl rfl 1 rfl ?_
      refine vs_callV (st := []) (c_sideN (o := 7) ⟨rfl, ⟨rfl, rfl⟩, ⟨rfl, rfl⟩⟩ hs1_ hs2_ hs0 hs1) lk_X9_266 lm_X7_side rfl rfl rfl rfl (Nat.le_of_ble_eq_true rfl) rfl ⟨rfl, rfl⟩ dX9_term_5 rfl ?_
      show vs_V _ _ _ _ _ (.null :: _) _
      refine vs_astore_nN 3 [(3, .null), (0, .ref (G.2.2.2 + 0)), (1, .int (nZ s)), (2, .int (nZ k))] dX9_term_8 rfl rfl rfl rfl ?_
      refine vs_aload_nN 3 dX9_term_9 rfl rfl 0 rfl ?_
      refine vs_ifnonnullN dX9_term_10 rfl ?_
      refine vs_bipush (v := -102) dX9_term_13 rfl rfl ?_
      refine vs_goto 23 dX9_term_15 rfl ?_
      exact vs_iretP dX9_term_23 (cpost (v := -102) (a' := a) (by unfold sp_term; (try simp only [Int.toNat_natCast]); repeat (first | rw [if_pos (by omega)] | rw [if_pos trivial] | rw [if_neg (by omega)])) rfl hC frC.rf)

theorem k_value {G : vv_G} {S : vs_S} {a : aS} (hC : CSt S a) (hG : aG a) {x : Int} (hx1 : -2147483648 ≤ x) (hx2 : x < 2147483648) : vs_CP G yX9_value cX9_value 4 (some .int) { frames := 2, locals := 49 } [.ref (G.2.2.2 + 0), .int (nZ x)] S (fun r S2 => r = some (.int (nZ (sp_value a x).1)) ∧ CSt S2 (sp_value a x).2 ∧ frC S S2) := by
  refine vs_ofP [(0, .ref (G.2.2.2 + 0)), (1, .int (nZ x))] (by decide) rfl rfl ?_
  obtain ⟨⟨cP, cN, cH⟩, ⟨cX, cY⟩, ⟨cA, cB⟩, cSe, cJs, cSh, ⟨cK0, cK⟩, ⟨cR1, cR2, cD⟩, cJ0⟩ := id hC
  obtain ⟨gP, gP2, gN, gH, gSe, gSh, gXY, gB31, gInj, gA, gB, gAz, gBz⟩ := hG
  have gP1 := gP.1
  have bx := nn_m_lt (v := x) (show 0 < aP a by omega)
  have vb : hv_ (aB a) (nn_m x (aP a)) (aP a) 42 0 < aP a := hv_b (by omega) 42 0 (by omega)
  have va : hv_ (aA a) (nn_m x (aP a)) (aP a) 42 0 < aP a := hv_b (by omega) 42 0 (by omega)
  have vi := ipw_lt (a := hv_ (aB a) (nn_m x (aP a)) (aP a) 42 0) gP1
  refine vs_aload_n 0 dX9_value_0 rfl rfl 0 rfl ?_
  refine vs_get (v := .ref (G.2.2.2 + 1)) lf_X9_12 rfl rfl dX9_value_1 rfl ?_
  refine vs_iload_n 1 dX9_value_4 rfl rfl 1 rfl ?_
  refine vs_i2l dX9_value_5 rfl ?_
  refine vs_callV (st := []) (c_ofZ (z := x) (by rw [nn_i2l, nZ_i hx1 hx2]) cP gP1 gP2) lk_X9_182 lm_X5_of rfl rfl rfl rfl (Nat.le_of_ble_eq_true rfl) rfl ⟨rfl, rfl⟩ dX9_value_6 rfl ?_
  show vs_V _ _ _ _ _ (.int (nI (nn_m x (aP a))) :: _) _
  refine vs_istore_n 2 [(2, .int (nI (nn_m x (aP a)))), (0, .ref (G.2.2.2 + 0)), (1, .int (nZ x))] dX9_value_9 rfl rfl rfl rfl ?_
  refine vs_aload_n 0 dX9_value_10 rfl rfl 1 rfl ?_
  refine vs_get (v := .ref (G.2.2.2 + 7)) lf_X9_42 rfl rfl dX9_value_11 rfl ?_
  refine vs_get (v := .ref (G.2.2.2 + 10)) lf_X9_163 rfl rfl dX9_value_14 rfl ?_
  refine vs_iload_n 2 dX9_value_17 rfl rfl 0 rfl ?_
  refine vs_aload_n 0 dX9_value_18 rfl rfl 1 rfl ?_
  refine vs_get (v := .ref (G.2.2.2 + 1)) lf_X9_12 rfl rfl dX9_value_19 rfl ?_
  refine vs_callV (st := []) (c_valueAt (o := 10) ⟨rfl, rfl⟩ cB (x := nn_m x (aP a)) cP gP1 gP2 gB bx) lk_X9_270 lm_X3_valueAt rfl rfl rfl rfl (Nat.le_of_ble_eq_true rfl) rfl ⟨rfl, rfl⟩ dX9_value_22 rfl ?_
  show vs_V _ _ _ _ _ (.int (nI (hv_ (aB a) (nn_m x (aP a)) (aP a) 42 0)) :: _) _
  refine vs_istore_n 3 [(3, .int (nI (hv_ (aB a) (nn_m x (aP a)) (aP a) 42 0))), (2, .int (nI (nn_m x (aP a)))), (0, .ref (G.2.2.2 + 0)), (1, .int (nZ x))] dX9_value_25 rfl rfl rfl rfl ?_
  refine vs_iload_n 3 dX9_value_26 rfl rfl 0 rfl ?_
  refine vs_if_ne 32 dX9_value_27 rfl rfl (fun c_27 => ?_) (fun c_27 => ?_)
  · have q_27 : ¬ (((hv_ (aB a) (nn_m x (aP a)) (aP a) 42 0) : Nat) : Int) = ((0 : Nat) : Int) := fun hh => c_27 ((qi_eq (nI_Z _) (by first | exact nI_Z _ | (simp only [fa_lit, nI_add, pk_mul, nI_1]; exact nI_Z _)) (by omega) (by omega) (by omega) (by omega)).mpr hh)
    refine vs_aload_n 0 dX9_value_32 rfl rfl 2 rfl ?_
    refine vs_get (v := .ref (G.2.2.2 + 1)) lf_X9_12 rfl rfl dX9_value_33 rfl ?_
    refine vs_aload_n 0 dX9_value_36 rfl rfl 2 rfl ?_
    refine vs_get (v := .ref (G.2.2.2 + 7)) lf_X9_42 rfl rfl dX9_value_37 rfl ?_
    refine vs_get (v := .ref (G.2.2.2 + 8)) lf_X9_160 rfl rfl dX9_value_40 rfl ?_
    refine vs_iload_n 2 dX9_value_43 rfl rfl 1 rfl ?_
    refine vs_aload_n 0 dX9_value_44 rfl rfl 2 rfl ?_
    refine vs_get (v := .ref (G.2.2.2 + 1)) lf_X9_12 rfl rfl dX9_value_45 rfl ?_
    refine vs_callV (st := [.ref (G.2.2.2 + 1)]) (c_valueAt (o := 8) ⟨rfl, rfl⟩ cA (x := nn_m x (aP a)) cP gP1 gP2 gA bx) lk_X9_270 lm_X3_valueAt rfl rfl rfl rfl (Nat.le_of_ble_eq_true rfl) rfl ⟨rfl, rfl⟩ dX9_value_48 rfl ?_
    show vs_V _ _ _ _ _ (.int (nI (hv_ (aA a) (nn_m x (aP a)) (aP a) 42 0)) :: _) _
    refine vs_aload_n 0 dX9_value_51 rfl rfl 2 rfl ?_
    refine vs_get (v := .ref (G.2.2.2 + 1)) lf_X9_12 rfl rfl dX9_value_52 rfl ?_
    refine vs_iload_n 3 dX9_value_55 rfl rfl 0 rfl ?_
    refine vs_callV (st := [.int (nI (hv_ (aA a) (nn_m x (aP a)) (aP a) 42 0)), .ref (G.2.2.2 + 1)]) (c_rinverse (a := hv_ (aB a) (nn_m x (aP a)) (aP a) 42 0) cP gP1 gP2 vb) lk_X9_273 lm_X5_inverse rfl rfl rfl rfl (Nat.le_of_ble_eq_true rfl) rfl ⟨rfl, rfl⟩ dX9_value_56 rfl ?_
    show vs_V _ _ _ _ _ (.int (nI (ipw (hv_ (aB a) (nn_m x (aP a)) (aP a) 42 0) (aP a))) :: _) _
    refine vs_callV (st := []) (c_rproduct (x := hv_ (aA a) (nn_m x (aP a)) (aP a) 42 0) (y := ipw (hv_ (aB a) (nn_m x (aP a)) (aP a) 42 0) (aP a)) cP gP1 (by omega) (by omega) (by omega)) lk_X9_200 lm_X5_product rfl rfl rfl rfl (Nat.le_of_ble_eq_true rfl) rfl ⟨rfl, rfl⟩ dX9_value_59 rfl ?_
    show vs_V _ _ _ _ _ (.int (nI (hv_ (aA a) (nn_m x (aP a)) (aP a) 42 0 * ipw (hv_ (aB a) (nn_m x (aP a)) (aP a) 42 0) (aP a) % aP a)) :: _) _
    exact vs_iretP dX9_value_62 (cpost (v := ((hv_ (aA a) (nn_m x (aP a)) (aP a) 42 0 * ipw (hv_ (aB a) (nn_m x (aP a)) (aP a) 42 0) (aP a) % aP a : Nat) : Int)) (a' := a) (by unfold sp_value; (try simp only [Int.toNat_natCast]); repeat (first | rw [if_pos (by omega)] | rw [if_pos trivial] | rw [if_neg (by omega)])) (by rw [nZ_n]) hC frC.rf)
  · have q_27 : (((hv_ (aB a) (nn_m x (aP a)) (aP a) 42 0) : Nat) : Int) = ((0 : Nat) : Int) := (qi_eq (nI_Z _) (by first | exact nI_Z _ | (simp only [fa_lit, nI_add, pk_mul, nI_1]; exact nI_Z _)) (by omega) (by omega) (by omega) (by omega)).mp c_27
    refine vs_iconst (v := -1) dX9_value_30 rfl rfl ?_
    exact vs_iretP dX9_value_31 (cpost (v := -1) (a' := a) (by unfold sp_value; (try simp only [Int.toNat_natCast]); repeat (first | rw [if_pos (by omega)] | rw [if_pos trivial] | rw [if_neg (by omega)])) rfl hC frC.rf)

theorem k_cause {G : vv_G} {S : vs_S} {a : aS} (hC : CSt S a) (hG : aG a) : vs_CP G yX9_cause cX9_cause 1 (some .int) { frames := 0, locals := 0 } [.ref (G.2.2.2 + 0)] S (fun r S2 => r = some (.int (nZ (sp_cause a).1)) ∧ CSt S2 (sp_cause a).2 ∧ frC S S2) := by
  refine vs_ofP [(0, .ref (G.2.2.2 + 0))] (by decide) rfl rfl ?_
  obtain ⟨⟨cP, cN, cH⟩, ⟨cX, cY⟩, ⟨cA, cB⟩, cSe, cJs, cSh, ⟨cK0, cK⟩, ⟨cR1, cR2, cD⟩, cJ0⟩ := id hC
  obtain ⟨gP, gP2, gN, gH, gSe, gSh, gXY, gB31, gInj, gA, gB, gAz, gBz⟩ := hG
  have gP1 := gP.1
  refine vs_aload_n 0 dX9_cause_0 rfl rfl 0 rfl ?_
  refine vs_get (v := .int (aK a 0)) lf_X9_81 rfl (congrArg (fun z => some (Value.int z)) cK0) dX9_cause_1 rfl ?_
  exact vs_iretP dX9_cause_4 (cpost (x := sp_cause a) rfl (by rw [nZ_of]) hC frC.rf)

theorem k_causes {G : vv_G} {S : vs_S} {a : aS} (hC : CSt S a) (hG : aG a) {c : Int} (hc1 : -2147483648 ≤ c) (hc2 : c < 2147483648) : vs_CP G yX9_causes cX9_causes 2 (some .int) { frames := 0, locals := 0 } [.ref (G.2.2.2 + 0), .int (nZ c)] S (fun r S2 => r = some (.int (nZ (sp_causes a c).1)) ∧ CSt S2 (sp_causes a c).2 ∧ frC S S2) := by
  refine vs_ofP [(0, .ref (G.2.2.2 + 0)), (1, .int (nZ c))] (by decide) rfl rfl ?_
  obtain ⟨⟨cP, cN, cH⟩, ⟨cX, cY⟩, ⟨cA, cB⟩, cSe, cJs, cSh, ⟨cK0, cK⟩, ⟨cR1, cR2, cD⟩, cJ0⟩ := id hC
  obtain ⟨gP, gP2, gN, gH, gSe, gSh, gXY, gB31, gInj, gA, gB, gAz, gBz⟩ := hG
  have gP1 := gP.1
  refine vs_iload_n 1 dX9_causes_0 rfl rfl 1 rfl ?_
  refine vs_iconst (v := 1) dX9_causes_1 rfl rfl ?_
  refine vs_icmp_lt 19 dX9_causes_2 rfl rfl (fun c_2 => ?_) (fun c_2 => ?_)
  · have q_2 : (c : Int) < ((1 : Nat) : Int) := (qi_lt rfl (by first | exact nI_Z _ | (simp only [fa_lit, nI_add, pk_mul, nI_1]; exact nI_Z _)) (by omega) (by omega) (by omega) (by omega)).mp c_2
    refine vs_bipush (v := -102) dX9_causes_19 rfl rfl ?_
    exact vs_iretP dX9_causes_21 (cpost (v := -102) (a' := a) (by unfold sp_causes; (try simp only [Int.toNat_natCast]); repeat (first | rw [if_pos (by omega)] | rw [if_pos trivial] | rw [if_neg (by omega)])) rfl hC frC.rf)
  · have q_2 : ¬ (c : Int) < ((1 : Nat) : Int) := fun hh => c_2 ((qi_lt rfl (by first | exact nI_Z _ | (simp only [fa_lit, nI_add, pk_mul, nI_1]; exact nI_Z _)) (by omega) (by omega) (by omega) (by omega)).mpr hh)
    refine vs_iload_n 1 dX9_causes_5 rfl rfl 1 rfl ?_
    refine vs_iconst (v := 5) dX9_causes_6 rfl rfl ?_
    refine vs_icmp_gt 19 dX9_causes_7 rfl rfl (fun c_7 => ?_) (fun c_7 => ?_)
    · have q_7 : (c : Int) > ((5 : Nat) : Int) := (qi_gt rfl (by first | exact nI_Z _ | (simp only [fa_lit, nI_add, pk_mul, nI_1]; exact nI_Z _)) (by omega) (by omega) (by omega) (by omega)).mp c_7
      refine vs_bipush (v := -102) dX9_causes_19 rfl rfl ?_
      exact vs_iretP dX9_causes_21 (cpost (v := -102) (a' := a) (by unfold sp_causes; (try simp only [Int.toNat_natCast]); repeat (first | rw [if_pos (by omega)] | rw [if_pos trivial] | rw [if_neg (by omega)])) rfl hC frC.rf)
    · have q_7 : ¬ (c : Int) > ((5 : Nat) : Int) := fun hh => c_7 ((qi_gt rfl (by first | exact nI_Z _ | (simp only [fa_lit, nI_add, pk_mul, nI_1]; exact nI_Z _)) (by omega) (by omega) (by omega) (by omega)).mpr hh)
      skip
      · obtain ⟨c, rfl⟩ : ∃ z0 : Nat, c = z0 := ⟨c.toNat, by omega⟩
        rw [nZ_n c]
        refine vs_aload_n 0 dX9_causes_10 rfl rfl 0 rfl ?_
        refine vs_get (v := .ref (G.2.2.2 + 79)) lf_X9_77 rfl rfl dX9_causes_11 rfl ?_
        refine vs_iload_n 1 dX9_causes_14 rfl rfl 1 rfl ?_
        refine vs_iald (k := c) rfl rfl (by omega) rfl dX9_causes_15 rfl ?_
        refine vs_topi (fun z1 e_z1 => ?_)
        have f_z1 : z1 = aK a c := (by rw [e_z1]; exact cK c (by omega) (by omega))
        subst f_z1
        clear e_z1
        refine vs_goto 21 dX9_causes_16 rfl ?_
        exact vs_iretP dX9_causes_21 (cpost (v := (aK a c).toInt) (a' := a) (by unfold sp_causes; (try simp only [Int.toNat_natCast]); repeat (first | rw [if_pos (by omega)] | rw [if_pos trivial] | rw [if_neg (by omega)])) (by rw [nZ_of]) hC frC.rf)

theorem k_count {G : vv_G} {S : vs_S} {a : aS} (hC : CSt S a) (hG : aG a) {w : Int} (hw1 : -2147483648 ≤ w) (hw2 : w < 2147483648) : vs_CP G yX9_count cX9_count 2 (some .int) { frames := 1, locals := 22 } [.ref (G.2.2.2 + 0), .int (nZ w)] S (fun r S2 => r = some (.int (nZ (sp_count a w).1)) ∧ CSt S2 (sp_count a w).2 ∧ frC S S2) := by
  refine vs_ofP [(0, .ref (G.2.2.2 + 0)), (1, .int (nZ w))] (by decide) rfl rfl ?_
  obtain ⟨⟨cP, cN, cH⟩, ⟨cX, cY⟩, ⟨cA, cB⟩, cSe, cJs, cSh, ⟨cK0, cK⟩, ⟨cR1, cR2, cD⟩, cJ0⟩ := id hC
  obtain ⟨gP, gP2, gN, gH, gSe, gSh, gXY, gB31, gInj, gA, gB, gAz, gBz⟩ := hG
  have gP1 := gP.1
  refine vs_iload_n 1 dX9_count_0 rfl rfl 1 rfl ?_
  by_cases hq0 : w = 0
  · subst hq0
    refine vs_tabIn 32 dX9_count_1 (by decide) (by decide) rfl rfl ?_
    refine vs_aload_n 0 dX9_count_32 rfl rfl 0 rfl ?_
    refine vs_get (v := .ref (G.2.2.2 + 1)) lf_X9_12 rfl rfl dX9_count_33 rfl ?_
    refine vs_get (v := .int (nI (aP a))) lf_X9_93 rfl (congrArg (fun z => some (Value.int z)) cP) dX9_count_36 rfl ?_
    exact vs_iretP dX9_count_39 (cpost (v := (aP a : Int)) (a' := a) (by unfold sp_count; (try simp only [Int.toNat_natCast]); repeat (first | rw [if_pos (by omega)] | rw [if_pos trivial] | rw [if_neg (by omega)])) (by rw [nZ_n]) hC frC.rf)
  · by_cases hq1 : w = 1
    · subst hq1
      refine vs_tabIn 40 dX9_count_1 (by decide) (by decide) rfl rfl ?_
      refine vs_aload_n 0 dX9_count_40 rfl rfl 0 rfl ?_
      refine vs_get (v := .int (nI (aN a))) lf_X9_28 rfl (congrArg (fun z => some (Value.int z)) cN) dX9_count_41 rfl ?_
      exact vs_iretP dX9_count_44 (cpost (v := (aN a : Int)) (a' := a) (by unfold sp_count; (try simp only [Int.toNat_natCast]); repeat (first | rw [if_pos (by omega)] | rw [if_pos trivial] | rw [if_neg (by omega)])) (by rw [nZ_n]) hC frC.rf)
    · by_cases hq2 : w = 2
      · subst hq2
        refine vs_tabIn 45 dX9_count_1 (by decide) (by decide) rfl rfl ?_
        refine vs_aload_n 0 dX9_count_45 rfl rfl 0 rfl ?_
        refine vs_get (v := .ref (G.2.2.2 + 4)) lf_X9_35 rfl rfl dX9_count_46 rfl ?_
        refine vs_get (v := .int (nI (aH a))) lf_X9_90 rfl (congrArg (fun z => some (Value.int z)) cH) dX9_count_49 rfl ?_
        exact vs_iretP dX9_count_52 (cpost (v := (aH a : Int)) (a' := a) (by unfold sp_count; (try simp only [Int.toNat_natCast]); repeat (first | rw [if_pos (by omega)] | rw [if_pos trivial] | rw [if_neg (by omega)])) (by rw [nZ_n]) hC frC.rf)
      · by_cases hq3 : w = 3
        · subst hq3
          refine vs_tabIn 53 dX9_count_1 (by decide) (by decide) rfl rfl ?_
          refine vs_aload_n 0 dX9_count_53 rfl rfl 0 rfl ?_
          refine vs_callV (st := []) (c_present (lo := aLo a) cR1 (fun s hs => (cSh s hs).1) (fun s hs => (gSh s hs).1)) lk_X9_276 lm_X9_presentSheets rfl rfl rfl rfl (Nat.le_of_ble_eq_true rfl) rfl ⟨rfl, rfl⟩ dX9_count_54 rfl ?_
          show vs_V _ _ _ _ _ (.int (nI (prs (aLo a) 4)) :: _) _
          exact vs_iretP dX9_count_57 (cpost (v := (prs (aLo a) 4 : Int)) (a' := a) (by unfold sp_count; (try simp only [Int.toNat_natCast]); repeat (first | rw [if_pos (by omega)] | rw [if_pos trivial] | rw [if_neg (by omega)])) (by rw [nZ_n]) hC frC.rf)
        · refine vs_tabOut 58 dX9_count_1 (by rw [nZ_i hw1 hw2]; omega) rfl ?_
          refine vs_bipush (v := -102) dX9_count_58 rfl rfl ?_
          exact vs_iretP dX9_count_60 (cpost (v := -102) (a' := a) (by unfold sp_count; (try simp only [Int.toNat_natCast]); repeat (first | rw [if_pos (by omega)] | rw [if_pos trivial] | rw [if_neg (by omega)])) rfl hC frC.rf)

theorem mx_c {f g : Nat → Int64} {h : Int64} : ∀ n, (∀ k, k < n → f k = g k) → mx f h n = mx g h n
  | 0, _ => rfl
  | n + 1, hh => by
    show 31 * mx f h n + f n = 31 * mx g h n + g n
    rw [mx_c n (fun k hk => hh k (by omega)), hh n (by omega)]
def dgs (a : aS) : Nat → Int64
  | 0 => 31 * 89 + (nI (aP a)).toInt64
  | s + 1 => if aLo a s = 0 then mx (aW a s) (31 * dgs a s + (nI (aSz a s)).toInt64) (aSz a s) else 31 * dgs a s + (-1)
def dgf (a : aS) : Nat → Int64
  | 0 => dgs a 4
  | f + 1 => mx (fun k => (nI (aC a f k)).toInt64) (31 * dgf a f + (nI (aLa a f)).toInt64) (aLa a f + 1)
def dgp (a : aS) : Int64 := mx2 (fun k => (nI (aX a k)).toInt64) (fun k => (nI (aY a k)).toInt64) (dgf a (aN a)) (aH a)
def dgr (a : aS) : Int64 := 31 * (31 * dgp a + (nZ ((tp (aA a) 42 : Int) - 1)).toInt64) + (nZ ((tp (aB a) 42 : Int) - 1)).toInt64
def sp_digest (a : aS) : Int64 := mx (fun k => (nI (aB a k)).toInt64) (mx (fun k => (nI (aA a k)).toInt64) (dgr a) (tp (aA a) 42)) (tp (aB a) 42)
theorem l_dig3 {G : vv_G} {S : vs_S} {a : aS} (hC : CSt S a) (hG : aG a) {r : Option Value} {Sf : vs_S} (hr : r = some (.long (sp_digest a))) (hS : S = Sf) : vs_V G cX9_digest (vs_M yX9_digest 5 (some .long) { frames := 2, locals := 49 } G r Sf) 99 [(1, .long (dgf a (aN a))), (0, .ref (G.2.2.2 + 0))] [] S := by
  obtain ⟨⟨cP, cN, cH⟩, ⟨cX, cY⟩, ⟨cA, cB⟩, cSe, cJs, cSh, ⟨cK0, cK⟩, ⟨cR1, cR2, cD⟩, cJ0⟩ := id hC
  obtain ⟨gP, gP2, gN, gH, gSe, gSh, gXY, gB31, gInj, gA, gB, gAz, gBz⟩ := hG
  have gP1 := gP.1
  have t1 := tp_le (aA a) 42
  have t2 := tp_le (aB a) 42
  refine vs_aload_n 0 dX9_digest_99 rfl rfl 1 rfl ?_
  refine vs_get (v := .ref (G.2.2.2 + 4)) lf_X9_35 rfl rfl dX9_digest_100 rfl ?_
  refine vs_lload_n 1 dX9_digest_103 rfl rfl 0 rfl ?_
  refine vs_callV (st := []) (c_ptmixedInto cH gH cX cY) lk_X9_292 lm_X2_mixedInto rfl rfl rfl rfl (Nat.le_of_ble_eq_true rfl) rfl ⟨rfl, rfl⟩ dX9_digest_104 rfl ?_
  show vs_V _ _ _ _ _ (.long ((dgp a)) :: _) _
  refine vs_topl (fun h1 e_h1 => ?_)
  have e2_h1 : h1 = dgp a := e_h1
  clear e_h1
  subst e2_h1
  refine vs_lstore_n 1 [(1, .long (dgp a)), (0, .ref (G.2.2.2 + 0))] dX9_digest_107 rfl rfl rfl rfl ?_
  refine vs_aload_n 0 dX9_digest_108 rfl rfl 1 rfl ?_
  refine vs_get (v := .ref (G.2.2.2 + 7)) lf_X9_42 rfl rfl dX9_digest_109 rfl ?_
  refine vs_get (v := .ref (G.2.2.2 + 8)) lf_X9_160 rfl rfl dX9_digest_112 rfl ?_
  refine vs_callV (st := []) (c_top (o := 8) ⟨rfl, rfl⟩ cA (fun k => by have := gA k; omega)) lk_X9_223 lm_X3_top rfl rfl rfl rfl (Nat.le_of_ble_eq_true rfl) rfl ⟨rfl, rfl⟩ dX9_digest_115 rfl ?_
  show vs_V _ _ _ _ _ (.int (nZ ((tp (aA a) 42 : Int) - 1)) :: _) _
  refine vs_topi (fun v3 e_v3 => ?_)
  have e2_v3 : v3 = nZ ((tp (aA a) 42 : Int) - 1) := e_v3
  clear e_v3
  subst e2_v3
  refine vs_istore_n 3 [(3, .int (nZ ((tp (aA a) 42 : Int) - 1))), (1, .long (dgp a)), (0, .ref (G.2.2.2 + 0))] dX9_digest_118 rfl rfl rfl rfl ?_
  refine vs_aload_n 0 dX9_digest_119 rfl rfl 2 rfl ?_
  refine vs_get (v := .ref (G.2.2.2 + 7)) lf_X9_42 rfl rfl dX9_digest_120 rfl ?_
  refine vs_get (v := .ref (G.2.2.2 + 10)) lf_X9_163 rfl rfl dX9_digest_123 rfl ?_
  refine vs_callV (st := []) (c_top (o := 10) ⟨rfl, rfl⟩ cB (fun k => by have := gB k; omega)) lk_X9_223 lm_X3_top rfl rfl rfl rfl (Nat.le_of_ble_eq_true rfl) rfl ⟨rfl, rfl⟩ dX9_digest_126 rfl ?_
  show vs_V _ _ _ _ _ (.int (nZ ((tp (aB a) 42 : Int) - 1)) :: _) _
  refine vs_topi (fun v4 e_v4 => ?_)
  have e2_v4 : v4 = nZ ((tp (aB a) 42 : Int) - 1) := e_v4
  clear e_v4
  subst e2_v4
  refine vs_istore [(4, .int (nZ ((tp (aB a) 42 : Int) - 1))), (3, .int (nZ ((tp (aA a) 42 : Int) - 1))), (1, .long (dgp a)), (0, .ref (G.2.2.2 + 0))] dX9_digest_129 rfl rfl rfl ?_
  refine vs_lload_n 1 dX9_digest_131 rfl rfl 2 rfl ?_
  refine vs_iload_n 3 dX9_digest_132 rfl rfl 1 rfl ?_
  refine vs_i2l dX9_digest_133 rfl ?_
  refine vs_callS (st := []) (c_mixed) lk_X9_281 lm_X9_mixed rfl rfl (Nat.le_of_ble_eq_true rfl) rfl ⟨rfl, rfl⟩ dX9_digest_134 rfl ?_
  show vs_V _ _ _ _ _ (.long ((31 * dgp a + (nZ ((tp (aA a) 42 : Int) - 1)).toInt64)) :: _) _
  refine vs_iload dX9_digest_137 rfl 0 rfl ?_
  refine vs_i2l dX9_digest_139 rfl ?_
  refine vs_callS (st := []) (c_mixed) lk_X9_281 lm_X9_mixed rfl rfl (Nat.le_of_ble_eq_true rfl) rfl ⟨rfl, rfl⟩ dX9_digest_140 rfl ?_
  show vs_V _ _ _ _ _ (.long ((dgr a)) :: _) _
  refine vs_topl (fun h2 e_h2 => ?_)
  have e2_h2 : h2 = dgr a := e_h2
  clear e_h2
  subst e2_h2
  refine vs_lstore_n 1 [(1, .long (dgr a)), (4, .int (nZ ((tp (aB a) 42 : Int) - 1))), (3, .int (nZ ((tp (aA a) 42 : Int) - 1))), (0, .ref (G.2.2.2 + 0))] dX9_digest_143 rfl rfl rfl rfl ?_
  refine vs_aload_n 0 dX9_digest_144 rfl rfl 3 rfl ?_
  refine vs_get (v := .ref (G.2.2.2 + 7)) lf_X9_42 rfl rfl dX9_digest_145 rfl ?_
  refine vs_get (v := .ref (G.2.2.2 + 8)) lf_X9_160 rfl rfl dX9_digest_148 rfl ?_
  refine vs_lload_n 1 dX9_digest_151 rfl rfl 0 rfl ?_
  refine vs_iload_n 3 dX9_digest_152 rfl rfl 2 rfl ?_
  refine vs_callV (st := []) (c_pmixedInto (o := 8) ⟨rfl, rfl⟩ cA (n := tp (aA a) 42) (by omega)) lk_X9_289 lm_X3_mixedInto rfl rfl rfl rfl (Nat.le_of_ble_eq_true rfl) rfl ⟨rfl, rfl⟩ dX9_digest_153 rfl ?_
  show vs_V _ _ _ _ _ (.long ((mx (fun k => (nI (aA a k)).toInt64) (dgr a) (tp (aA a) 42))) :: _) _
  refine vs_topl (fun h3 e_h3 => ?_)
  have e2_h3 : h3 = mx (fun k => (nI (aA a k)).toInt64) (dgr a) (tp (aA a) 42) := e_h3
  clear e_h3
  subst e2_h3
  refine vs_lstore_n 1 [(1, .long (mx (fun k => (nI (aA a k)).toInt64) (dgr a) (tp (aA a) 42))), (4, .int (nZ ((tp (aB a) 42 : Int) - 1))), (3, .int (nZ ((tp (aA a) 42 : Int) - 1))), (0, .ref (G.2.2.2 + 0))] dX9_digest_156 rfl rfl rfl rfl ?_
  refine vs_aload_n 0 dX9_digest_157 rfl rfl 3 rfl ?_
  refine vs_get (v := .ref (G.2.2.2 + 7)) lf_X9_42 rfl rfl dX9_digest_158 rfl ?_
  refine vs_get (v := .ref (G.2.2.2 + 10)) lf_X9_163 rfl rfl dX9_digest_161 rfl ?_
  refine vs_lload_n 1 dX9_digest_164 rfl rfl 0 rfl ?_
  refine vs_iload dX9_digest_165 rfl 1 rfl ?_
  refine vs_callV (st := []) (c_pmixedInto (o := 10) ⟨rfl, rfl⟩ cB (n := tp (aB a) 42) (by omega)) lk_X9_289 lm_X3_mixedInto rfl rfl rfl rfl (Nat.le_of_ble_eq_true rfl) rfl ⟨rfl, rfl⟩ dX9_digest_167 rfl ?_
  show vs_V _ _ _ _ _ (.long ((sp_digest a)) :: _) _
  exact vs_lret dX9_digest_170 hr hS

theorem l_dig2 {G : vv_G} {S : vs_S} {a : aS} (hC : CSt S a) (hG : aG a) {r : Option Value} {Sf : vs_S} (hr : r = some (.long (sp_digest a))) (hS : S = Sf) : ∀ d f : Nat, f + d = aN a → vs_V G cX9_digest (vs_M yX9_digest 5 (some .long) { frames := 2, locals := 49 } G r Sf) 41 [(3, .int (nI f)), (1, .long (dgf a f)), (0, .ref (G.2.2.2 + 0))] [] S := by
  have hG0 := hG
  obtain ⟨⟨cP, cN, cH⟩, ⟨cX, cY⟩, ⟨cA, cB⟩, cSe, cJs, cSh, ⟨cK0, cK⟩, ⟨cR1, cR2, cD⟩, cJ0⟩ := id hC
  obtain ⟨gP, gP2, gN, gH, gSe, gSh, gXY, gB31, gInj, gA, gB, gAz, gBz⟩ := hG
  have gP1 := gP.1
  intro d
  induction d with
  | zero =>
    intro f hfd
    obtain rfl : f = aN a := by omega
    refine vs_iload_n 3 dX9_digest_41 rfl rfl 0 rfl ?_
    refine vs_aload_n 0 dX9_digest_42 rfl rfl 2 rfl ?_
    refine vs_get (v := .int (nI (aN a))) lf_X9_28 rfl (congrArg (fun z => some (Value.int z)) cN) dX9_digest_43 rfl ?_
    refine vs_icmp_ge 99 dX9_digest_46 rfl rfl (fun c_46 => ?_) (fun c_46 => ?_)
    · have q_46 : (((aN a) : Nat) : Int) ≥ (((aN a) : Nat) : Int) := (qi_ge (nI_Z _) (nI_Z _) (by omega) (by omega) (by omega) (by omega)).mp c_46
      refine vs_pick [1, 2] rfl ?_
      exact l_dig3 hC hG0 hr hS
    · have q_46 : ¬ (((aN a) : Nat) : Int) ≥ (((aN a) : Nat) : Int) := fun hh => c_46 ((qi_ge (nI_Z _) (nI_Z _) (by omega) (by omega) (by omega) (by omega)).mpr hh)
      omega
  | succ d ih =>
    intro f hfd
    have hf : f < 10 := by omega
    obtain ⟨f1, f2⟩ := cSe f (by omega)
    obtain ⟨f3, f4⟩ := gSe f (by omega)
    refine vs_iload_n 3 dX9_digest_41 rfl rfl 0 rfl ?_
    refine vs_aload_n 0 dX9_digest_42 rfl rfl 2 rfl ?_
    refine vs_get (v := .int (nI (aN a))) lf_X9_28 rfl (congrArg (fun z => some (Value.int z)) cN) dX9_digest_43 rfl ?_
    refine vs_icmp_ge 99 dX9_digest_46 rfl rfl (fun c_46 => ?_) (fun c_46 => ?_)
    · have q_46 : ((f : Nat) : Int) ≥ (((aN a) : Nat) : Int) := (qi_ge (nI_Z _) (nI_Z _) (by omega) (by omega) (by omega) (by omega)).mp c_46
      omega
    · have q_46 : ¬ ((f : Nat) : Int) ≥ (((aN a) : Nat) : Int) := fun hh => c_46 ((qi_ge (nI_Z _) (nI_Z _) (by omega) (by omega) (by omega) (by omega)).mpr hh)
      refine vs_iload_n 3 dX9_digest_49 rfl rfl 0 rfl ?_
      refine vs_bipush (v := 10) dX9_digest_50 rfl rfl ?_
      refine vs_icmp_ge 99 dX9_digest_52 rfl rfl (fun c_52 => ?_) (fun c_52 => ?_)
      · have q_52 : ((f : Nat) : Int) ≥ ((10 : Nat) : Int) := (qi_ge (nI_Z _) (by first | exact nI_Z _ | (simp only [fa_lit, nI_add, pk_mul, nI_1]; exact nI_Z _)) (by omega) (by omega) (by omega) (by omega)).mp c_52
        omega
      · have q_52 : ¬ ((f : Nat) : Int) ≥ ((10 : Nat) : Int) := fun hh => c_52 ((qi_ge (nI_Z _) (by first | exact nI_Z _ | (simp only [fa_lit, nI_add, pk_mul, nI_1]; exact nI_Z _)) (by omega) (by omega) (by omega) (by omega)).mpr hh)
        refine vs_lload_n 1 dX9_digest_55 rfl rfl 1 rfl ?_
        refine vs_aload_n 0 dX9_digest_56 rfl rfl 2 rfl ?_
        refine vs_get (v := .ref (G.2.2.2 + 3)) lf_X9_24 rfl rfl dX9_digest_57 rfl ?_
        refine vs_iload_n 3 dX9_digest_60 rfl rfl 0 rfl ?_
        refine vs_aald (t := 1) (k := f) (a := 88 + 3 * f) rfl rfl rfl (by first | rfl | (simp only [fa_lit, nI_add, pk_mul, nI_1]; done) | omega) (by omega) rfl (cR2 f hf) dX9_digest_61 rfl ?_
        refine vs_get (v := .int (nI (aLa a f))) lf_X9_173 (vs_Se_k hf).1 (congrArg (fun z => some (Value.int z)) f1) dX9_digest_62 rfl ?_
        refine vs_i2l dX9_digest_65 rfl ?_
        refine vs_callS (st := []) (c_mixed) lk_X9_281 lm_X9_mixed rfl rfl (Nat.le_of_ble_eq_true rfl) rfl ⟨rfl, rfl⟩ dX9_digest_66 rfl ?_
        show vs_V _ _ _ _ _ (.long ((31 * dgf a f + (nI (aLa a f)).toInt64)) :: _) _
        refine vs_topl (fun h1 e_h1 => ?_)
        have e2_h1 : h1 = 31 * dgf a f + (nI (aLa a f)).toInt64 := e_h1
        clear e_h1
        subst e2_h1
        refine vs_lstore_n 1 [(1, .long (31 * dgf a f + (nI (aLa a f)).toInt64)), (3, .int (nI f)), (0, .ref (G.2.2.2 + 0))] dX9_digest_69 rfl rfl rfl rfl ?_
        refine vs_aload_n 0 dX9_digest_70 rfl rfl 2 rfl ?_
        refine vs_get (v := .ref (G.2.2.2 + 3)) lf_X9_24 rfl rfl dX9_digest_71 rfl ?_
        refine vs_iload_n 3 dX9_digest_74 rfl rfl 1 rfl ?_
        refine vs_aald (t := 1) (k := f) (a := 88 + 3 * f) rfl rfl rfl (by first | rfl | (simp only [fa_lit, nI_add, pk_mul, nI_1]; done) | omega) (by omega) rfl (cR2 f hf) dX9_digest_75 rfl ?_
        refine vs_get (v := .ref (G.2.2.2 + (88 + 3 * f + 1))) lf_X9_149 (vs_Se_k hf).1 rfl dX9_digest_76 rfl ?_
        refine vs_lload_n 1 dX9_digest_79 rfl rfl 0 rfl ?_
        refine vs_aload_n 0 dX9_digest_80 rfl rfl 2 rfl ?_
        refine vs_get (v := .ref (G.2.2.2 + 3)) lf_X9_24 rfl rfl dX9_digest_81 rfl ?_
        refine vs_iload_n 3 dX9_digest_84 rfl rfl 1 rfl ?_
        refine vs_aald (t := 1) (k := f) (a := 88 + 3 * f) rfl rfl rfl (by first | rfl | (simp only [fa_lit, nI_add, pk_mul, nI_1]; done) | omega) (by omega) rfl (cR2 f hf) dX9_digest_85 rfl ?_
        refine vs_get (v := .int (nI (aLa a f))) lf_X9_173 (vs_Se_k hf).1 (congrArg (fun z => some (Value.int z)) f1) dX9_digest_86 rfl ?_
        rw [show nI (aLa a f) = nZ (((aLa a f + 1 : Nat) : Int) - 1) from by rw [nI_Z]; congr 1; omega]
        refine vs_callV (st := []) (c_pmixedInto (vs_Se_k hf).2 f2 (n := aLa a f + 1) (by omega)) lk_X9_289 lm_X3_mixedInto rfl (vs_Se_k hf).2.1 rfl rfl (Nat.le_of_ble_eq_true rfl) rfl ⟨rfl, rfl⟩ dX9_digest_89 rfl ?_
        rw [← show nI (aLa a f) = nZ (((aLa a f + 1 : Nat) : Int) - 1) from by rw [nI_Z]; congr 1; omega]
        show vs_V _ _ _ _ _ (.long ((dgf a (f + 1))) :: _) _
        refine vs_topl (fun h2 e_h2 => ?_)
        have e2_h2 : h2 = dgf a (f + 1) := e_h2
        clear e_h2
        subst e2_h2
        refine vs_lstore_n 1 [(1, .long (dgf a (f + 1))), (3, .int (nI f)), (0, .ref (G.2.2.2 + 0))] dX9_digest_92 rfl rfl rfl rfl ?_
        refine vs_iinc (v := nI (f + 1)) [(3, .int (nI (f + 1))), (1, .long (dgf a (f + 1))), (0, .ref (G.2.2.2 + 0))] dX9_digest_93 rfl 1 rfl (by first | exact nI_1 _ | (simp only [fa_lit, nI_add, pk_mul, nI_1]; rfl)) rfl rfl ?_
        refine vs_goto 41 dX9_digest_96 rfl ?_
        refine vs_pick [0, 1, 2] rfl ?_
        exact ih (f + 1) (by omega)

theorem l_dig1 {G : vv_G} {S : vs_S} {a : aS} (hC : CSt S a) (hG : aG a) {r : Option Value} {Sf : vs_S} (hr : r = some (.long (sp_digest a))) (hS : S = Sf) : ∀ d s : Nat, s + d = 4 → vs_V G cX9_digest (vs_M yX9_digest 5 (some .long) { frames := 2, locals := 49 } G r Sf) 17 [(3, .int (nI s)), (1, .long (dgs a s)), (0, .ref (G.2.2.2 + 0))] [] S := by
  have hG0 := hG
  obtain ⟨⟨cP, cN, cH⟩, ⟨cX, cY⟩, ⟨cA, cB⟩, cSe, cJs, cSh, ⟨cK0, cK⟩, ⟨cR1, cR2, cD⟩, cJ0⟩ := id hC
  obtain ⟨gP, gP2, gN, gH, gSe, gSh, gXY, gB31, gInj, gA, gB, gAz, gBz⟩ := hG
  have gP1 := gP.1
  intro d
  induction d with
  | zero =>
    intro s hsd
    obtain rfl : s = 4 := by omega
    refine vs_iload_n 3 dX9_digest_17 rfl rfl 0 rfl ?_
    refine vs_iconst (v := 4) dX9_digest_18 rfl rfl ?_
    refine vs_icmp_ge 39 dX9_digest_19 rfl rfl (fun c_19 => ?_) (fun c_19 => ?_)
    · have q_19 : ((4 : Nat) : Int) ≥ ((4 : Nat) : Int) := (qi_ge (nI_Z _) (by first | exact nI_Z _ | (simp only [fa_lit, nI_add, pk_mul, nI_1]; exact nI_Z _)) (by omega) (by omega) (by omega) (by omega)).mp c_19
      refine vs_iconst (v := 0) dX9_digest_39 rfl rfl ?_
      refine vs_istore_n 3 [(3, .int (0)), (1, .long (dgs a 4)), (0, .ref (G.2.2.2 + 0))] dX9_digest_40 rfl rfl rfl rfl ?_
      refine vs_pick (L2 := [(3, .int (nI 0)), (1, .long (dgf a 0)), (0, .ref (G.2.2.2 + 0))]) [0, 1, 2] rfl ?_
      exact l_dig2 hC hG0 hr hS (aN a) 0 (by omega)
    · have q_19 : ¬ ((4 : Nat) : Int) ≥ ((4 : Nat) : Int) := fun hh => c_19 ((qi_ge (nI_Z _) (by first | exact nI_Z _ | (simp only [fa_lit, nI_add, pk_mul, nI_1]; exact nI_Z _)) (by omega) (by omega) (by omega) (by omega)).mpr hh)
      omega
  | succ d ih =>
    intro s hsd
    have hs : s < 4 := by omega
    obtain ⟨d1, d2, d3, d4⟩ := cSh s hs
    obtain ⟨e1, e2, e3⟩ := gSh s hs
    refine vs_iload_n 3 dX9_digest_17 rfl rfl 0 rfl ?_
    refine vs_iconst (v := 4) dX9_digest_18 rfl rfl ?_
    refine vs_icmp_ge 39 dX9_digest_19 rfl rfl (fun c_19 => ?_) (fun c_19 => ?_)
    · have q_19 : ((s : Nat) : Int) ≥ ((4 : Nat) : Int) := (qi_ge (nI_Z _) (by first | exact nI_Z _ | (simp only [fa_lit, nI_add, pk_mul, nI_1]; exact nI_Z _)) (by omega) (by omega) (by omega) (by omega)).mp c_19
      omega
    · have q_19 : ¬ ((s : Nat) : Int) ≥ ((4 : Nat) : Int) := fun hh => c_19 ((qi_ge (nI_Z _) (by first | exact nI_Z _ | (simp only [fa_lit, nI_add, pk_mul, nI_1]; exact nI_Z _)) (by omega) (by omega) (by omega) (by omega)).mpr hh)
      refine vs_aload_n 0 dX9_digest_22 rfl rfl 2 rfl ?_
      refine vs_get (v := .ref (G.2.2.2 + 2)) lf_X9_18 rfl rfl dX9_digest_23 rfl ?_
      refine vs_iload_n 3 dX9_digest_26 rfl rfl 0 rfl ?_
      refine vs_aald (t := 0) (k := s) (a := 80 + 2 * s) rfl rfl rfl (by first | rfl | (simp only [fa_lit, nI_add, pk_mul, nI_1]; done) | omega) (by omega) rfl (cR1 s hs) dX9_digest_27 rfl ?_
      refine vs_lload_n 1 dX9_digest_28 rfl rfl 1 rfl ?_
      refine vs_callV (st := []) (c_smixedInto (vs_St_k hs) d3 e3 d1 e1) lk_X9_285 lm_X8_mixedInto rfl (vs_St_k hs).1 rfl rfl (Nat.le_of_ble_eq_true rfl) rfl ⟨rfl, rfl⟩ dX9_digest_29 rfl ?_
      rw [mx_c (g := aW a s) _ (fun k hk => d4 k (by omega))]
      show vs_V _ _ _ _ _ (.long ((dgs a (s + 1))) :: _) _
      refine vs_topl (fun h2 e_h2 => ?_)
      have e2_h2 : h2 = dgs a (s + 1) := e_h2
      clear e_h2
      subst e2_h2
      refine vs_lstore_n 1 [(1, .long (dgs a (s + 1))), (3, .int (nI s)), (0, .ref (G.2.2.2 + 0))] dX9_digest_32 rfl rfl rfl rfl ?_
      refine vs_iinc (v := nI (s + 1)) [(3, .int (nI (s + 1))), (1, .long (dgs a (s + 1))), (0, .ref (G.2.2.2 + 0))] dX9_digest_33 rfl 1 rfl (by first | exact nI_1 _ | (simp only [fa_lit, nI_add, pk_mul, nI_1]; rfl)) rfl rfl ?_
      refine vs_goto 17 dX9_digest_36 rfl ?_
      refine vs_pick [0, 1, 2] rfl ?_
      exact ih (s + 1) (by omega)

theorem k_digest {G : vv_G} {S : vs_S} {a : aS} (hC : CSt S a) (hG : aG a) : vs_C G yX9_digest cX9_digest 5 (some .long) { frames := 2, locals := 49 } [.ref (G.2.2.2 + 0)] S (some (.long (sp_digest a))) S := by
  refine vs_of [(0, .ref (G.2.2.2 + 0))] (by decide) rfl rfl ?_
  obtain ⟨⟨cP, cN, cH⟩, ⟨cX, cY⟩, ⟨cA, cB⟩, cSe, cJs, cSh, ⟨cK0, cK⟩, ⟨cR1, cR2, cD⟩, cJ0⟩ := id hC
  refine vs_ldc2 lc_X9_279 dX9_digest_0 rfl ?_
  refine vs_aload_n 0 dX9_digest_3 rfl rfl 0 rfl ?_
  refine vs_get (v := .ref (G.2.2.2 + 1)) lf_X9_12 rfl rfl dX9_digest_4 rfl ?_
  refine vs_get (v := .int (nI (aP a))) lf_X9_93 rfl (congrArg (fun z => some (Value.int z)) cP) dX9_digest_7 rfl ?_
  refine vs_i2l dX9_digest_10 rfl ?_
  refine vs_callS (st := []) (c_mixed) lk_X9_281 lm_X9_mixed rfl rfl (Nat.le_of_ble_eq_true rfl) rfl ⟨rfl, rfl⟩ dX9_digest_11 rfl ?_
  show vs_V _ _ _ _ _ (.long ((dgs a 0)) :: _) _
  refine vs_topl (fun h1 e_h1 => ?_)
  have e2_h1 : h1 = dgs a 0 := e_h1
  clear e_h1
  subst e2_h1
  refine vs_lstore_n 1 [(1, .long (dgs a 0)), (0, .ref (G.2.2.2 + 0))] dX9_digest_14 rfl rfl rfl rfl ?_
  refine vs_iconst (v := 0) dX9_digest_15 rfl rfl ?_
  refine vs_istore_n 3 [(3, .int (0)), (1, .long (dgs a 0)), (0, .ref (G.2.2.2 + 0))] dX9_digest_16 rfl rfl rfl rfl ?_
  refine vs_pick (L2 := [(3, .int (nI 0)), (1, .long (dgs a 0)), (0, .ref (G.2.2.2 + 0))]) [0, 1, 2] rfl ?_
  exact l_dig1 hC hG rfl rfl 4 0 rfl

