/-- the model's numbers of a series -/
def sR (S : vs_S) (f n : Nat) (c : Nat → Nat) : Prop := ∀ k, k ≤ n → S.2.1 125 (41 * f + k) = nI (c k)
theorem sR.fx {S S' : vs_S} {il : List Nat} {sl : List (Nat × Nat)} {ll : List Nat} {f n : Nat} {c : Nat → Nat} (h : sR S f n c) (hf : vs_fx S S' il sl ll) (ho : 125 ∉ il) : sR S' f n c := fun k hk => by
  rw [hf.1 125 ho]; exact h k hk
theorem l_mplus {G : vv_G} {S : vs_S} {a : aS} {f g n : Nat} (hf : f < 10) (hg : g < 10) (hnf : n ≤ aLa a f) (hng : n ≤ aLa a g) (hn : n ≤ 40) (gP1 : 2 ≤ aP a) (gP2 : aP a ≤ 30011) (bf : ∀ k, aC a f k < aP a) (bg : ∀ k, aC a g k < aP a) {b : Int} (hb1 : -2147483648 ≤ b) (hb2 : b < 2147483648) {S0 : vs_S} (mP0 : S0.1 118 2 = nI (aP a)) (cf0 : ∀ k, k ≤ aLa a f → S0.2.1 125 (41 * f + k) = nI (aC a f k)) (cg0 : ∀ k, k ≤ aLa a g → S0.2.1 125 (41 * g + k) = nI (aC a g k)) {Pst : Option Value → vs_S → Prop} (K : ∀ S2 : vs_S, vs_fx S0 S2 [126] [] [] → aR S2 126 (n + 1) ((plF (aP a) (aC a f) (aC a g) (nn_m b (aP a)))) → vs_V G cX10_plus (vs_MP yX10_plus 6 (some .int) { frames := 2, locals := 46 } G Pst) 79 [(4, .int (nI n)), (0, .ref (G.2.2.2 + 118))] [] S2) : ∀ (d i : Nat) (S : vs_S), i + d = n + 1 → vs_fx S0 S [126] [] [] → aR S 126 i ((plF (aP a) (aC a f) (aC a g) (nn_m b (aP a)))) → vs_V G cX10_plus (vs_MP yX10_plus 6 (some .int) { frames := 2, locals := 46 } G Pst) 30 [(5, .int (nI i)), (4, .int (nI n)), (0, .ref (G.2.2.2 + 118)), (1, .int (nI f)), (2, .int (nI g)), (3, .int (nZ b))] [] S := by
  intro d
  induction d with
  | zero =>
    intro i S hi F A1
    obtain rfl : i = n + 1 := by omega
    have mP : S.1 118 2 = nI (aP a) := (F.2.1 _ _ (by simp <;> omega)).trans mP0
    have cf : ∀ k, k ≤ aLa a f → S.2.1 125 (41 * f + k) = nI (aC a f k) := by rw [F.1 _ (by simp <;> omega)]; exact cf0
    have cg : ∀ k, k ≤ aLa a g → S.2.1 125 (41 * g + k) = nI (aC a g k) := by rw [F.1 _ (by simp <;> omega)]; exact cg0
    refine vs_iload dX10_plus_30 rfl 0 rfl ?_
    refine vs_iload dX10_plus_32 rfl 1 rfl ?_
    refine vs_icmp_gt 79 dX10_plus_34 rfl rfl (fun c_34 => ?_) (fun c_34 => ?_)
    · have q_34 : (((n + 1) : Nat) : Int) > ((n : Nat) : Int) := (qi_gt (nI_Z _) (nI_Z _) (by omega) (by omega) (by omega) (by omega)).mp c_34
      refine vs_pick (L2 := [(4, .int (nI n)), (0, .ref (G.2.2.2 + 118))]) [1, 2] rfl ?_
      exact K S F A1
    · have q_34 : ¬ (((n + 1) : Nat) : Int) > ((n : Nat) : Int) := fun hh => c_34 ((qi_gt (nI_Z _) (nI_Z _) (by omega) (by omega) (by omega) (by omega)).mpr hh)
      omega
  | succ d ih =>
    intro i S hi F A1
    have mP : S.1 118 2 = nI (aP a) := (F.2.1 _ _ (by simp <;> omega)).trans mP0
    have cf : ∀ k, k ≤ aLa a f → S.2.1 125 (41 * f + k) = nI (aC a f k) := by rw [F.1 _ (by simp <;> omega)]; exact cf0
    have cg : ∀ k, k ≤ aLa a g → S.2.1 125 (41 * g + k) = nI (aC a g k) := by rw [F.1 _ (by simp <;> omega)]; exact cg0
    have b1 := bf i
    have b2 := bg i
    have b3 := nn_m_lt (v := b) (show 0 < aP a by omega)
    refine vs_iload dX10_plus_30 rfl 0 rfl ?_
    refine vs_iload dX10_plus_32 rfl 1 rfl ?_
    refine vs_icmp_gt 79 dX10_plus_34 rfl rfl (fun c_34 => ?_) (fun c_34 => ?_)
    · have q_34 : ((i : Nat) : Int) > ((n : Nat) : Int) := (qi_gt (nI_Z _) (nI_Z _) (by omega) (by omega) (by omega) (by omega)).mp c_34
      omega
    · have q_34 : ¬ ((i : Nat) : Int) > ((n : Nat) : Int) := fun hh => c_34 ((qi_gt (nI_Z _) (nI_Z _) (by omega) (by omega) (by omega) (by omega)).mpr hh)
      refine vs_aload_n 0 dX10_plus_37 rfl rfl 2 rfl ?_
      refine vs_get (v := .ref (G.2.2.2 + 126)) lf_X10_32 rfl rfl dX10_plus_38 rfl ?_
      refine vs_iload dX10_plus_41 rfl 0 rfl ?_
      refine vs_aload_n 0 dX10_plus_43 rfl rfl 2 rfl ?_
      refine vs_aload_n 0 dX10_plus_44 rfl rfl 2 rfl ?_
      refine vs_iload_n 1 dX10_plus_45 rfl rfl 3 rfl ?_
      refine vs_iload dX10_plus_46 rfl 0 rfl ?_
      refine vs_callV (st := [.ref (G.2.2.2 + 118), .int (nI i), .ref (G.2.2.2 + 126)]) (c_mof (f := f) (k := i) (v := aC a f i) hf (by omega) (cf _ (by omega))) lk_X10_161 lm_X10_of rfl rfl rfl rfl (Nat.le_of_ble_eq_true rfl) rfl ⟨rfl, rfl⟩ dX10_plus_48 rfl ?_
      show vs_V _ _ _ _ _ (.int (nI (aC a f i)) :: _) _
      refine vs_i2l dX10_plus_51 rfl ?_
      refine vs_aload_n 0 dX10_plus_52 rfl rfl 2 rfl ?_
      refine vs_iload_n 3 dX10_plus_53 rfl rfl 5 rfl ?_
      refine vs_i2l dX10_plus_54 rfl ?_
      refine vs_callV (st := [.long ((nI (aC a f i)).toInt64), .ref (G.2.2.2 + 118), .int (nI i), .ref (G.2.2.2 + 126)]) (c_restZ (z := b) (by rw [nn_i2l, nZ_i hb1 hb2]) mP gP1 gP2) lk_X10_135 lm_X10_rest rfl rfl rfl rfl (Nat.le_of_ble_eq_true rfl) rfl ⟨rfl, rfl⟩ dX10_plus_55 rfl ?_
      show vs_V _ _ _ _ _ (.int (nI (nn_m b (aP a))) :: _) _
      refine vs_i2l dX10_plus_58 rfl ?_
      refine vs_aload_n 0 dX10_plus_59 rfl rfl 2 rfl ?_
      refine vs_iload_n 2 dX10_plus_60 rfl rfl 4 rfl ?_
      refine vs_iload dX10_plus_61 rfl 0 rfl ?_
      refine vs_callV (st := [.long ((nI (nn_m b (aP a))).toInt64), .long ((nI (aC a f i)).toInt64), .ref (G.2.2.2 + 118), .int (nI i), .ref (G.2.2.2 + 126)]) (c_mof (f := g) (k := i) (v := aC a g i) hg (by omega) (cg _ (by omega))) lk_X10_161 lm_X10_of rfl rfl rfl rfl (Nat.le_of_ble_eq_true rfl) rfl ⟨rfl, rfl⟩ dX10_plus_63 rfl ?_
      show vs_V _ _ _ _ _ (.int (nI (aC a g i)) :: _) _
      refine vs_i2l dX10_plus_66 rfl ?_
      refine vs_lmul dX10_plus_67 rfl ?_
      refine vs_ladd dX10_plus_68 rfl ?_
      refine vs_callV (st := [.int (nI i), .ref (G.2.2.2 + 126)]) (c_restN (k := aC a f i + nn_m b (aP a) * aC a g i) (nn_mad2 (by omega) (by omega) (by omega)) mP gP1 gP2) lk_X10_135 lm_X10_rest rfl rfl rfl rfl (Nat.le_of_ble_eq_true rfl) rfl ⟨rfl, rfl⟩ dX10_plus_69 rfl ?_
      show vs_V _ _ _ _ _ (.int (nI ((plF (aP a) (aC a f) (aC a g) (nn_m b (aP a))) i)) :: _) _
      refine vs_iast (k := i) rfl (by first | rfl | (simp only [fa_lit, nI_add, pk_mul, nI_1]; done) | omega) (by omega) rfl dX10_plus_72 rfl ?_
      refine vs_gen (fun T1 e_T1 => ?_)
      have mP : T1.1 118 2 = nI (aP a) := by rw [e_T1]; repeat (first | exact mP | rw [vs_ia_ne (by omega)] | rw [vs_ia_1] | rw [vs_sc_ne (by omega)] | rw [vs_sc_nf (by omega)])
      have cf : ∀ k, k ≤ aLa a f → T1.2.1 125 (41 * f + k) = nI (aC a f k) := by rw [e_T1]; repeat (first | exact cf | rw [vs_ia_ne (by omega)] | rw [vs_ia_1] | rw [vs_sc_ne (by omega)] | rw [vs_sc_nf (by omega)])
      have cg : ∀ k, k ≤ aLa a g → T1.2.1 125 (41 * g + k) = nI (aC a g k) := by rw [e_T1]; repeat (first | exact cg | rw [vs_ia_ne (by omega)] | rw [vs_ia_1] | rw [vs_sc_ne (by omega)] | rw [vs_sc_nf (by omega)])
      have F : vs_fx S0 T1 [126] [] [] := by rw [e_T1]; repeat (first | exact F | refine vs_fx.ia ?_ (by simp <;> omega) | refine vs_fx.sc ?_ (by simp <;> omega) | refine vs_fx.la ?_ (by simp <;> omega))
      have A1 : aR T1 126 (i + 1) ((plF (aP a) (aC a f) (aC a g) (nn_m b (aP a)))) := (by rw [e_T1]; exact aR.push A1)
      clear e_T1
      refine vs_iinc (v := nI (i + 1)) [(5, .int (nI (i + 1))), (4, .int (nI n)), (0, .ref (G.2.2.2 + 118)), (1, .int (nI f)), (2, .int (nI g)), (3, .int (nZ b))] dX10_plus_73 rfl 0 rfl (by first | exact nI_1 _ | (simp only [fa_lit, nI_add, pk_mul, nI_1]; rfl)) rfl rfl ?_
      refine vs_goto 30 dX10_plus_76 rfl ?_
      refine vs_pick [0, 1, 2, 3, 4, 5] rfl ?_
      exact ih (i + 1) _ (by omega) F A1

theorem M_plus {G : vv_G} {S : vs_S} {a : aS} (hM : MSt S a) (hG : aG a) {f : Int} (hf1 : -2147483648 ≤ f) (hf2 : f < 2147483648) {g : Int} (hg1 : -2147483648 ≤ g) (hg2 : g < 2147483648) {b : Int} (hb1 : -2147483648 ≤ b) (hb2 : b < 2147483648) : vs_CP G yX10_plus cX10_plus 6 (some .int) { frames := 2, locals := 46 } [.ref (G.2.2.2 + 118), .int (nZ f), .int (nZ g), .int (nZ b)] S (fun r S2 => r = some (.int (nZ (sp_plus a f g b).1)) ∧ MSt S2 (sp_plus a f g b).2 ∧ frM S S2) := by
  refine vs_ofP [(0, .ref (G.2.2.2 + 118)), (1, .int (nZ f)), (2, .int (nZ g)), (3, .int (nZ b))] (by decide) rfl rfl ?_
  have hG0 := hG
  obtain ⟨⟨mP, mN, mH, mK0⟩, mK, mSh, mSe, ⟨mA, mB⟩, mX, mY⟩ := id hM
  obtain ⟨gP, gP2, gN, gH, gSe, gSh, gXY, gB31, gInj, gA, gB, gAz, gBz⟩ := hG
  have gP1 := gP.1
  refine vs_aload_n 0 dX10_plus_0 rfl rfl 0 rfl ?_
  refine vs_iload_n 1 dX10_plus_1 rfl rfl 1 rfl ?_
  refine vs_callV (st := []) (c_isSeries mN gN hf1 hf2) lk_X10_155 lm_X10_isSeries rfl rfl rfl rfl (Nat.le_of_ble_eq_true rfl) rfl ⟨rfl, rfl⟩ dX10_plus_2 rfl ?_
  show vs_V _ _ _ _ _ (.int ((if 0 ≤ f ∧ f ≤ (aN a : Int) - 1 then 1 else 0)) :: _) _
  refine vs_if_eq 16 dX10_plus_5 rfl rfl (fun c_5 => ?_) (fun c_5 => ?_)
  · rw [nn_is0] at c_5
    refine vs_bipush (v := -101) dX10_plus_16 rfl rfl ?_
    exact vs_iretP dX10_plus_18 (mpost (v := -101) (a' := a) (by unfold sp_plus; (try simp only [Int.toNat_natCast]); repeat (first | rw [if_pos (by omega)] | rw [if_pos trivial] | rw [if_neg (by omega)])) rfl hM frM.rf)
  · rw [nn_is0, Classical.not_not] at c_5
    refine vs_aload_n 0 dX10_plus_8 rfl rfl 0 rfl ?_
    refine vs_iload_n 2 dX10_plus_9 rfl rfl 2 rfl ?_
    refine vs_callV (st := []) (c_isSeries mN gN hg1 hg2) lk_X10_155 lm_X10_isSeries rfl rfl rfl rfl (Nat.le_of_ble_eq_true rfl) rfl ⟨rfl, rfl⟩ dX10_plus_10 rfl ?_
    show vs_V _ _ _ _ _ (.int ((if 0 ≤ g ∧ g ≤ (aN a : Int) - 1 then 1 else 0)) :: _) _
    refine vs_if_ne 19 dX10_plus_13 rfl rfl (fun c_13 => ?_) (fun c_13 => ?_)
    · rw [nn_is0, Classical.not_not] at c_13
      skip
      · obtain ⟨f, rfl⟩ : ∃ z0 : Nat, f = z0 := ⟨f.toNat, by omega⟩
        rw [nZ_n f]
        have hf : f < 10 := by omega
        have hfN : f < aN a := by omega
        obtain ⟨f1, f2⟩ := mSe f hfN
        obtain ⟨f3, f4⟩ := gSe f hfN
        obtain ⟨g, rfl⟩ : ∃ z0 : Nat, g = z0 := ⟨g.toNat, by omega⟩
        rw [nZ_n g]
        have hg : g < 10 := by omega
        have hgN : g < aN a := by omega
        obtain ⟨g1, g2⟩ := mSe g hgN
        obtain ⟨g3, g4⟩ := gSe g hgN
        obtain ⟨hm1, hm2⟩ := mnN_le (aLa a f) (aLa a g)
        refine vs_aload_n 0 dX10_plus_19 rfl rfl 0 rfl ?_
        refine vs_iload_n 1 dX10_plus_20 rfl rfl 1 rfl ?_
        refine vs_iload_n 2 dX10_plus_21 rfl rfl 2 rfl ?_
        refine vs_callV (st := []) (c_lesser hf hg f1 g1 f3 g3) lk_X10_158 lm_X10_lesser rfl rfl rfl rfl (Nat.le_of_ble_eq_true rfl) rfl ⟨rfl, rfl⟩ dX10_plus_22 rfl ?_
        show vs_V _ _ _ _ _ (.int (nI (mnN (aLa a f) (aLa a g))) :: _) _
        refine vs_istore [(4, .int (nI (mnN (aLa a f) (aLa a g)))), (0, .ref (G.2.2.2 + 118)), (1, .int (nI f)), (2, .int (nI g)), (3, .int (nZ b))] dX10_plus_25 rfl rfl rfl ?_
        refine vs_iconst (v := 0) dX10_plus_27 rfl rfl ?_
        refine vs_istore [(5, .int (0)), (4, .int (nI (mnN (aLa a f) (aLa a g)))), (0, .ref (G.2.2.2 + 118)), (1, .int (nI f)), (2, .int (nI g)), (3, .int (nZ b))] dX10_plus_28 rfl rfl rfl ?_
        refine vs_pick (L2 := [(5, .int (nI 0)), (4, .int (nI (mnN (aLa a f) (aLa a g)))), (0, .ref (G.2.2.2 + 118)), (1, .int (nI f)), (2, .int (nI g)), (3, .int (nZ b))]) [0, 1, 2, 3, 4, 5] rfl ?_
        refine l_mplus (S := S) (a := a) (f := f) (g := g) (n := mnN (aLa a f) (aLa a g)) hf hg hm1 hm2 (by omega) gP1 gP2 f4 g4 hb1 hb2 (S0 := S) mP f2 g2 (fun S2 F A1 => ?_) (mnN (aLa a f) (aLa a g) + 1) 0 S (by omega) vs_fx.rf aR_0
        have hM1 : MSt S2 a := MSt.sr hM F (by simp [mcr]) (by simp) (by simp)
        have hf1 : frM S S2 := F.M (by simp) (by simp) (by simp)
        have hcm : aR S2 126 (mnN (aLa a f) (aLa a g) + 1) (cut (plF (aP a) (aC a f) (aC a g) (nn_m b (aP a))) (mnN (aLa a f) (aLa a g) + 1)) := A1.c (fun j hj => (if_pos hj).symm)
        refine vs_aload_n 0 dX10_plus_79 rfl rfl 1 rfl ?_
        refine vs_iload dX10_plus_80 rfl 0 rfl ?_
        refine vs_callVP (st := []) (k_comes hM1 hG0 (n := mnN (aLa a f) (aLa a g)) (by omega) (g := (cut (plF (aP a) (aC a f) (aC a g) (nn_m b (aP a))) (mnN (aLa a f) (aLa a g) + 1))) hcm) lk_X10_139 lm_X10_comes rfl rfl rfl rfl (Nat.le_of_ble_eq_true rfl) rfl ⟨rfl, rfl⟩ dX10_plus_82 rfl (fun rr S1 hh => ?_)
        obtain ⟨rfl, hM2, hf2⟩ := hh
        show vs_V _ _ _ _ _ (.int (nZ ((sp_kp a (mnN (aLa a f) (aLa a g)) ((cut (plF (aP a) (aC a f) (aC a g) (nn_m b (aP a))) (mnN (aLa a f) (aLa a g) + 1)))).1)) :: _) _
        exact vs_iretP dX10_plus_85 (by rw [show sp_plus a f g b = sp_kp a (mnN (aLa a f) (aLa a g)) ((cut (plF (aP a) (aC a f) (aC a g) (nn_m b (aP a))) (mnN (aLa a f) (aLa a g) + 1))) from (by unfold sp_plus; (try simp only [Int.toNat_natCast]); repeat (first | rw [if_pos (by omega)] | rw [if_pos trivial] | rw [if_neg (by omega)]))]; exact ⟨rfl, hM2, hf1.tr hf2⟩)
    · rw [nn_is0] at c_13
      refine vs_bipush (v := -101) dX10_plus_16 rfl rfl ?_
      exact vs_iretP dX10_plus_18 (mpost (v := -101) (a' := a) (by unfold sp_plus; (try simp only [Int.toNat_natCast]); repeat (first | rw [if_pos (by omega)] | rw [if_pos trivial] | rw [if_neg (by omega)])) rfl hM frM.rf)

theorem l_mtimes1 {G : vv_G} {S : vs_S} {a : aS} {f g n : Nat} (hf : f < 10) (hg : g < 10) (hnf : n ≤ aLa a f) (hng : n ≤ aLa a g) (hn : n ≤ 40) (gP1 : 2 ≤ aP a) (gP2 : aP a ≤ 30011) (bf : ∀ k, aC a f k < aP a) (bg : ∀ k, aC a g k < aP a) {i : Nat} (hi : i ≤ n) (mP : S.1 118 2 = nI (aP a)) (cf : ∀ k, k ≤ aLa a f → S.2.1 125 (41 * f + k) = nI (aC a f k)) (cg : ∀ k, k ≤ aLa a g → S.2.1 125 (41 * g + k) = nI (aC a g k)) {Pst : Option Value → vs_S → Prop} (K : vs_V G cX10_times (vs_MP yX10_times 8 (some .int) { frames := 2, locals := 46 } G Pst) 79 [(5, .long (lN (fsm (aC a f) (aC a g) i (i + 1)))), (4, .int (nI i)), (3, .int (nI n)), (0, .ref (G.2.2.2 + 118)), (1, .int (nI f)), (2, .int (nI g))] [] S) : ∀ d j : Nat, j + d = i + 1 → vs_V G cX10_times (vs_MP yX10_times 8 (some .int) { frames := 2, locals := 46 } G Pst) 41 [(7, .int (nI j)), (5, .long (lN (fsm (aC a f) (aC a g) i j))), (4, .int (nI i)), (3, .int (nI n)), (0, .ref (G.2.2.2 + 118)), (1, .int (nI f)), (2, .int (nI g))] [] S := by
  intro d
  induction d with
  | zero =>
    intro j hj
    obtain rfl : j = i + 1 := by omega
    refine vs_iload dX10_times_41 rfl 0 rfl ?_
    refine vs_iload dX10_times_43 rfl 2 rfl ?_
    refine vs_icmp_gt 79 dX10_times_45 rfl rfl (fun c_45 => ?_) (fun c_45 => ?_)
    · have q_45 : (((i + 1) : Nat) : Int) > ((i : Nat) : Int) := (qi_gt (nI_Z _) (nI_Z _) (by omega) (by omega) (by omega) (by omega)).mp c_45
      refine vs_pick [1, 2, 3, 4, 5, 6] rfl ?_
      exact K
    · have q_45 : ¬ (((i + 1) : Nat) : Int) > ((i : Nat) : Int) := fun hh => c_45 ((qi_gt (nI_Z _) (nI_Z _) (by omega) (by omega) (by omega) (by omega)).mpr hh)
      omega
  | succ d ih =>
    intro j hj
    have b1 := bf j
    have b2 := bg (i - j)
    have e1 : fsm (aC a f) (aC a g) i (j + 1) = fsm (aC a f) (aC a g) i j + aC a f j * aC a g (i - j) := by show _ + aC a f j * pz (aC a g) ((i : Int) - j) = _; rw [show ((i : Int) - j) = ((i - j : Nat) : Int) by omega, pz_n]
    refine vs_iload dX10_times_41 rfl 0 rfl ?_
    refine vs_iload dX10_times_43 rfl 2 rfl ?_
    refine vs_icmp_gt 79 dX10_times_45 rfl rfl (fun c_45 => ?_) (fun c_45 => ?_)
    · have q_45 : ((j : Nat) : Int) > ((i : Nat) : Int) := (qi_gt (nI_Z _) (nI_Z _) (by omega) (by omega) (by omega) (by omega)).mp c_45
      omega
    · have q_45 : ¬ ((j : Nat) : Int) > ((i : Nat) : Int) := fun hh => c_45 ((qi_gt (nI_Z _) (nI_Z _) (by omega) (by omega) (by omega) (by omega)).mpr hh)
      refine vs_lload dX10_times_48 rfl 1 rfl ?_
      refine vs_aload_n 0 dX10_times_50 rfl rfl 4 rfl ?_
      refine vs_iload_n 1 dX10_times_51 rfl rfl 5 rfl ?_
      refine vs_iload dX10_times_52 rfl 0 rfl ?_
      refine vs_callV (st := [.long (lN (fsm (aC a f) (aC a g) i j))]) (c_mof (f := f) (k := j) (v := aC a f j) hf (by omega) (cf _ (by omega))) lk_X10_161 lm_X10_of rfl rfl rfl rfl (Nat.le_of_ble_eq_true rfl) rfl ⟨rfl, rfl⟩ dX10_times_54 rfl ?_
      show vs_V _ _ _ _ _ (.int (nI (aC a f j)) :: _) _
      refine vs_i2l dX10_times_57 rfl ?_
      refine vs_aload_n 0 dX10_times_58 rfl rfl 4 rfl ?_
      refine vs_iload_n 2 dX10_times_59 rfl rfl 6 rfl ?_
      refine vs_iload dX10_times_60 rfl 2 rfl ?_
      refine vs_iload dX10_times_62 rfl 0 rfl ?_
      refine vs_isub dX10_times_64 rfl ?_
      refine vs_topi (fun z1 e_z1 => ?_)
      have f_z1 : z1 = nI (i - j) := (by rw [e_z1]; exact pk_sub (by omega))
      subst f_z1
      clear e_z1
      refine vs_callV (st := [.long ((nI (aC a f j)).toInt64), .long (lN (fsm (aC a f) (aC a g) i j))]) (c_mof (f := g) (k := i - j) (v := aC a g (i - j)) hg (by omega) (cg _ (by omega))) lk_X10_161 lm_X10_of rfl rfl rfl rfl (Nat.le_of_ble_eq_true rfl) rfl ⟨rfl, rfl⟩ dX10_times_65 rfl ?_
      show vs_V _ _ _ _ _ (.int (nI (aC a g (i - j))) :: _) _
      refine vs_i2l dX10_times_68 rfl ?_
      refine vs_lmul dX10_times_69 rfl ?_
      refine vs_ladd dX10_times_70 rfl ?_
      refine vs_topl (fun z2 e_z2 => ?_)
      have f_z2 : z2 = lN (fsm (aC a f) (aC a g) i (j + 1)) := (by rw [e_z2, nn_mul (by omega) (by omega), lN_add, e1])
      subst f_z2
      clear e_z2
      refine vs_topl (fun ww e_ww => ?_)
      have e2_ww : ww = lN (fsm (aC a f) (aC a g) i (j + 1)) := e_ww
      clear e_ww
      subst e2_ww
      refine vs_lstore [(5, .long (lN (fsm (aC a f) (aC a g) i (j + 1)))), (7, .int (nI j)), (4, .int (nI i)), (3, .int (nI n)), (0, .ref (G.2.2.2 + 118)), (1, .int (nI f)), (2, .int (nI g))] dX10_times_71 rfl rfl rfl ?_
      refine vs_iinc (v := nI (j + 1)) [(7, .int (nI (j + 1))), (5, .long (lN (fsm (aC a f) (aC a g) i (j + 1)))), (4, .int (nI i)), (3, .int (nI n)), (0, .ref (G.2.2.2 + 118)), (1, .int (nI f)), (2, .int (nI g))] dX10_times_73 rfl 1 rfl (by first | exact nI_1 _ | (simp only [fa_lit, nI_add, pk_mul, nI_1]; rfl)) rfl rfl ?_
      refine vs_goto 41 dX10_times_76 rfl ?_
      refine vs_pick [0, 1, 2, 3, 4, 5, 6] rfl ?_
      exact ih (j + 1) (by omega)

theorem l_mtimes2 {G : vv_G} {S : vs_S} {a : aS} {f g n : Nat} (hf : f < 10) (hg : g < 10) (hnf : n ≤ aLa a f) (hng : n ≤ aLa a g) (hn : n ≤ 40) (gP1 : 2 ≤ aP a) (gP2 : aP a ≤ 30011) (bf : ∀ k, aC a f k < aP a) (bg : ∀ k, aC a g k < aP a) {S0 : vs_S} (mP0 : S0.1 118 2 = nI (aP a)) (cf0 : ∀ k, k ≤ aLa a f → S0.2.1 125 (41 * f + k) = nI (aC a f k)) (cg0 : ∀ k, k ≤ aLa a g → S0.2.1 125 (41 * g + k) = nI (aC a g k)) {Pst : Option Value → vs_S → Prop} (K : ∀ S2 : vs_S, vs_fx S0 S2 [126] [] [] → aR S2 126 (n + 1) (tmF (aP a) (aC a f) (aC a g)) → vs_V G cX10_times (vs_MP yX10_times 8 (some .int) { frames := 2, locals := 46 } G Pst) 98 [(3, .int (nI n)), (0, .ref (G.2.2.2 + 118))] [] S2) : ∀ (d i : Nat) (S : vs_S), i + d = n + 1 → vs_fx S0 S [126] [] [] → aR S 126 i (tmF (aP a) (aC a f) (aC a g)) → vs_V G cX10_times (vs_MP yX10_times 8 (some .int) { frames := 2, locals := 46 } G Pst) 29 [(4, .int (nI i)), (3, .int (nI n)), (0, .ref (G.2.2.2 + 118)), (1, .int (nI f)), (2, .int (nI g))] [] S := by
  intro d
  induction d with
  | zero =>
    intro i S hi F A1
    obtain rfl : i = n + 1 := by omega
    refine vs_iload dX10_times_29 rfl 0 rfl ?_
    refine vs_iload_n 3 dX10_times_31 rfl rfl 1 rfl ?_
    refine vs_icmp_gt 98 dX10_times_32 rfl rfl (fun c_32 => ?_) (fun c_32 => ?_)
    · have q_32 : (((n + 1) : Nat) : Int) > ((n : Nat) : Int) := (qi_gt (nI_Z _) (nI_Z _) (by omega) (by omega) (by omega) (by omega)).mp c_32
      refine vs_pick [1, 2] rfl ?_
      exact K S F A1
    · have q_32 : ¬ (((n + 1) : Nat) : Int) > ((n : Nat) : Int) := fun hh => c_32 ((qi_gt (nI_Z _) (nI_Z _) (by omega) (by omega) (by omega) (by omega)).mpr hh)
      omega
  | succ d ih =>
    intro i S hi F A1
    have mP : S.1 118 2 = nI (aP a) := (F.2.1 _ _ (by simp)).trans mP0
    have cf : ∀ k, k ≤ aLa a f → S.2.1 125 (41 * f + k) = nI (aC a f k) := by rw [F.1 _ (by simp)]; exact cf0
    have cg : ∀ k, k ≤ aLa a g → S.2.1 125 (41 * g + k) = nI (aC a g k) := by rw [F.1 _ (by simp)]; exact cg0
    have hb := fsm_63 (n := i + 1) (k := i) (show 0 < aP a by omega) gP2 bf bg (by omega)
    refine vs_iload dX10_times_29 rfl 0 rfl ?_
    refine vs_iload_n 3 dX10_times_31 rfl rfl 1 rfl ?_
    refine vs_icmp_gt 98 dX10_times_32 rfl rfl (fun c_32 => ?_) (fun c_32 => ?_)
    · have q_32 : ((i : Nat) : Int) > ((n : Nat) : Int) := (qi_gt (nI_Z _) (nI_Z _) (by omega) (by omega) (by omega) (by omega)).mp c_32
      omega
    · have q_32 : ¬ ((i : Nat) : Int) > ((n : Nat) : Int) := fun hh => c_32 ((qi_gt (nI_Z _) (nI_Z _) (by omega) (by omega) (by omega) (by omega)).mpr hh)
      refine vs_lconst (v := 0) dX10_times_35 rfl rfl ?_
      refine vs_lstore [(5, .long (0)), (4, .int (nI i)), (3, .int (nI n)), (0, .ref (G.2.2.2 + 118)), (1, .int (nI f)), (2, .int (nI g))] dX10_times_36 rfl rfl rfl ?_
      refine vs_iconst (v := 0) dX10_times_38 rfl rfl ?_
      refine vs_istore [(7, .int (0)), (5, .long (0)), (4, .int (nI i)), (3, .int (nI n)), (0, .ref (G.2.2.2 + 118)), (1, .int (nI f)), (2, .int (nI g))] dX10_times_39 rfl rfl rfl ?_
      refine vs_pick (L2 := [(7, .int (nI 0)), (5, .long (lN 0)), (4, .int (nI i)), (3, .int (nI n)), (0, .ref (G.2.2.2 + 118)), (1, .int (nI f)), (2, .int (nI g))]) [0, 1, 2, 3, 4, 5, 6] rfl ?_
      refine l_mtimes1 (S := S) (a := a) (f := f) (g := g) (n := n) hf hg hnf hng hn gP1 gP2 bf bg (show i ≤ n by omega) mP cf cg ?_ (i + 1) 0 (by omega)
      refine vs_aload_n 0 dX10_times_79 rfl rfl 3 rfl ?_
      refine vs_get (v := .ref (G.2.2.2 + 126)) lf_X10_32 rfl rfl dX10_times_80 rfl ?_
      refine vs_iload dX10_times_83 rfl 1 rfl ?_
      refine vs_aload_n 0 dX10_times_85 rfl rfl 3 rfl ?_
      refine vs_lload dX10_times_86 rfl 0 rfl ?_
      refine vs_callV (st := [.int (nI i), .ref (G.2.2.2 + 126)]) (c_restN (k := fsm (aC a f) (aC a g) i (i + 1)) (pk_lT (by omega)) mP gP1 gP2) lk_X10_135 lm_X10_rest rfl rfl rfl rfl (Nat.le_of_ble_eq_true rfl) rfl ⟨rfl, rfl⟩ dX10_times_88 rfl ?_
      show vs_V _ _ _ _ _ (.int (nI ((tmF (aP a) (aC a f) (aC a g)) i)) :: _) _
      refine vs_iast (k := i) rfl (by first | rfl | (simp only [fa_lit, nI_add, pk_mul, nI_1]; done) | omega) (by omega) rfl dX10_times_91 rfl ?_
      refine vs_gen (fun T1 e_T1 => ?_)
      have F : vs_fx S0 T1 [126] [] [] := by rw [e_T1]; repeat (first | exact F | refine vs_fx.ia ?_ (by simp <;> omega) | refine vs_fx.sc ?_ (by simp <;> omega) | refine vs_fx.la ?_ (by simp <;> omega))
      have A1 : aR T1 126 (i + 1) ((tmF (aP a) (aC a f) (aC a g))) := (by rw [e_T1]; exact aR.push A1)
      clear e_T1
      refine vs_iinc (v := nI (i + 1)) [(4, .int (nI (i + 1))), (5, .long (lN (fsm (aC a f) (aC a g) i (i + 1)))), (3, .int (nI n)), (0, .ref (G.2.2.2 + 118)), (1, .int (nI f)), (2, .int (nI g))] dX10_times_92 rfl 1 rfl (by first | exact nI_1 _ | (simp only [fa_lit, nI_add, pk_mul, nI_1]; rfl)) rfl rfl ?_
      refine vs_goto 29 dX10_times_95 rfl ?_
      refine vs_pick [0, 2, 3, 4, 5] rfl ?_
      exact ih (i + 1) _ (by omega) F A1

theorem M_times {G : vv_G} {S : vs_S} {a : aS} (hM : MSt S a) (hG : aG a) {f : Int} (hf1 : -2147483648 ≤ f) (hf2 : f < 2147483648) {g : Int} (hg1 : -2147483648 ≤ g) (hg2 : g < 2147483648) : vs_CP G yX10_times cX10_times 8 (some .int) { frames := 2, locals := 46 } [.ref (G.2.2.2 + 118), .int (nZ f), .int (nZ g)] S (fun r S2 => r = some (.int (nZ (sp_times a f g).1)) ∧ MSt S2 (sp_times a f g).2 ∧ frM S S2) := by
  refine vs_ofP [(0, .ref (G.2.2.2 + 118)), (1, .int (nZ f)), (2, .int (nZ g))] (by decide) rfl rfl ?_
  have hG0 := hG
  obtain ⟨⟨mP, mN, mH, mK0⟩, mK, mSh, mSe, ⟨mA, mB⟩, mX, mY⟩ := id hM
  obtain ⟨gP, gP2, gN, gH, gSe, gSh, gXY, gB31, gInj, gA, gB, gAz, gBz⟩ := hG
  have gP1 := gP.1
  refine vs_aload_n 0 dX10_times_0 rfl rfl 0 rfl ?_
  refine vs_iload_n 1 dX10_times_1 rfl rfl 1 rfl ?_
  refine vs_callV (st := []) (c_isSeries mN gN hf1 hf2) lk_X10_155 lm_X10_isSeries rfl rfl rfl rfl (Nat.le_of_ble_eq_true rfl) rfl ⟨rfl, rfl⟩ dX10_times_2 rfl ?_
  show vs_V _ _ _ _ _ (.int ((if 0 ≤ f ∧ f ≤ (aN a : Int) - 1 then 1 else 0)) :: _) _
  refine vs_if_eq 16 dX10_times_5 rfl rfl (fun c_5 => ?_) (fun c_5 => ?_)
  · rw [nn_is0] at c_5
    refine vs_bipush (v := -101) dX10_times_16 rfl rfl ?_
    exact vs_iretP dX10_times_18 (mpost (v := -101) (a' := a) (by unfold sp_times; (try simp only [Int.toNat_natCast]); repeat (first | rw [if_pos (by omega)] | rw [if_pos trivial] | rw [if_neg (by omega)])) rfl hM frM.rf)
  · rw [nn_is0, Classical.not_not] at c_5
    refine vs_aload_n 0 dX10_times_8 rfl rfl 0 rfl ?_
    refine vs_iload_n 2 dX10_times_9 rfl rfl 2 rfl ?_
    refine vs_callV (st := []) (c_isSeries mN gN hg1 hg2) lk_X10_155 lm_X10_isSeries rfl rfl rfl rfl (Nat.le_of_ble_eq_true rfl) rfl ⟨rfl, rfl⟩ dX10_times_10 rfl ?_
    show vs_V _ _ _ _ _ (.int ((if 0 ≤ g ∧ g ≤ (aN a : Int) - 1 then 1 else 0)) :: _) _
    refine vs_if_ne 19 dX10_times_13 rfl rfl (fun c_13 => ?_) (fun c_13 => ?_)
    · rw [nn_is0, Classical.not_not] at c_13
      skip
      · obtain ⟨f, rfl⟩ : ∃ z0 : Nat, f = z0 := ⟨f.toNat, by omega⟩
        rw [nZ_n f]
        have hf : f < 10 := by omega
        have hfN : f < aN a := by omega
        obtain ⟨f1, f2⟩ := mSe f hfN
        obtain ⟨f3, f4⟩ := gSe f hfN
        obtain ⟨g, rfl⟩ : ∃ z0 : Nat, g = z0 := ⟨g.toNat, by omega⟩
        rw [nZ_n g]
        have hg : g < 10 := by omega
        have hgN : g < aN a := by omega
        obtain ⟨g1, g2⟩ := mSe g hgN
        obtain ⟨g3, g4⟩ := gSe g hgN
        obtain ⟨hm1, hm2⟩ := mnN_le (aLa a f) (aLa a g)
        refine vs_aload_n 0 dX10_times_19 rfl rfl 0 rfl ?_
        refine vs_iload_n 1 dX10_times_20 rfl rfl 1 rfl ?_
        refine vs_iload_n 2 dX10_times_21 rfl rfl 2 rfl ?_
        refine vs_callV (st := []) (c_lesser hf hg f1 g1 f3 g3) lk_X10_158 lm_X10_lesser rfl rfl rfl rfl (Nat.le_of_ble_eq_true rfl) rfl ⟨rfl, rfl⟩ dX10_times_22 rfl ?_
        show vs_V _ _ _ _ _ (.int (nI (mnN (aLa a f) (aLa a g))) :: _) _
        refine vs_istore_n 3 [(3, .int (nI (mnN (aLa a f) (aLa a g)))), (0, .ref (G.2.2.2 + 118)), (1, .int (nI f)), (2, .int (nI g))] dX10_times_25 rfl rfl rfl rfl ?_
        refine vs_iconst (v := 0) dX10_times_26 rfl rfl ?_
        refine vs_istore [(4, .int (0)), (3, .int (nI (mnN (aLa a f) (aLa a g)))), (0, .ref (G.2.2.2 + 118)), (1, .int (nI f)), (2, .int (nI g))] dX10_times_27 rfl rfl rfl ?_
        refine vs_pick (L2 := [(4, .int (nI 0)), (3, .int (nI (mnN (aLa a f) (aLa a g)))), (0, .ref (G.2.2.2 + 118)), (1, .int (nI f)), (2, .int (nI g))]) [0, 1, 2, 3, 4] rfl ?_
        refine l_mtimes2 (S := S) (a := a) (f := f) (g := g) (n := mnN (aLa a f) (aLa a g)) hf hg hm1 hm2 (by omega) gP1 gP2 f4 g4 (S0 := S) mP f2 g2 (fun S2 F A1 => ?_) (mnN (aLa a f) (aLa a g) + 1) 0 S (by omega) vs_fx.rf aR_0
        have hM1 : MSt S2 a := MSt.sr hM F (by simp [mcr]) (by simp) (by simp)
        have hf1 : frM S S2 := F.M (by simp) (by simp) (by simp)
        have hcm : aR S2 126 (mnN (aLa a f) (aLa a g) + 1) (cut (tmF (aP a) (aC a f) (aC a g)) (mnN (aLa a f) (aLa a g) + 1)) := A1.c (fun j hj => (if_pos hj).symm)
        refine vs_aload_n 0 dX10_times_98 rfl rfl 1 rfl ?_
        refine vs_iload_n 3 dX10_times_99 rfl rfl 0 rfl ?_
        refine vs_callVP (st := []) (k_comes hM1 hG0 (n := mnN (aLa a f) (aLa a g)) (by omega) (g := (cut (tmF (aP a) (aC a f) (aC a g)) (mnN (aLa a f) (aLa a g) + 1))) hcm) lk_X10_139 lm_X10_comes rfl rfl rfl rfl (Nat.le_of_ble_eq_true rfl) rfl ⟨rfl, rfl⟩ dX10_times_100 rfl (fun rr S1 hh => ?_)
        obtain ⟨rfl, hM2, hf2⟩ := hh
        show vs_V _ _ _ _ _ (.int (nZ ((sp_kp a (mnN (aLa a f) (aLa a g)) ((cut (tmF (aP a) (aC a f) (aC a g)) (mnN (aLa a f) (aLa a g) + 1)))).1)) :: _) _
        exact vs_iretP dX10_times_103 (by rw [show sp_times a f g = sp_kp a (mnN (aLa a f) (aLa a g)) ((cut (tmF (aP a) (aC a f) (aC a g)) (mnN (aLa a f) (aLa a g) + 1))) from (by unfold sp_times; (try simp only [Int.toNat_natCast]); repeat (first | rw [if_pos (by omega)] | rw [if_pos trivial] | rw [if_neg (by omega)]))]; exact ⟨rfl, hM2, hf1.tr hf2⟩)
    · rw [nn_is0] at c_13
      refine vs_bipush (v := -101) dX10_times_16 rfl rfl ?_
      exact vs_iretP dX10_times_18 (mpost (v := -101) (a' := a) (by unfold sp_times; (try simp only [Int.toNat_natCast]); repeat (first | rw [if_pos (by omega)] | rw [if_pos trivial] | rw [if_neg (by omega)])) rfl hM frM.rf)

theorem ufk_c {a b a' b' : Nat → Nat} {inv P : Nat} : ∀ n, (∀ k, k < n → a k = a' k) → (∀ k, k < n → b k = b' k) → ufk a b inv P n = ufk a' b' inv P n
  | 0, _, _ => rfl
  | n + 1, ha, hb => by
    have ih := ufk_c (inv := inv) (P := P) n (fun k hk => ha k (by omega)) (fun k hk => hb k (by omega))
    show nu _ n (nn_m (isum a b _ n n) P * inv % P) = nu _ n (nn_m (isum a' b' _ n n) P * inv % P)
    rw [ih]
    have e : ∀ j, j ≤ n → isum a b (ufk a' b' inv P n) n j = isum a' b' (ufk a' b' inv P n) n j := by
      intro j
      induction j with
      | zero => intro _; show ((a n : Nat) : Int) = a' n; rw [ha n (by omega)]
      | succ j ih2 =>
        intro hj
        show isum a b _ n j - (b (j + 1) : Int) * _ = isum a' b' _ n j - (b' (j + 1) : Int) * _
        rw [ih2 (by omega), hb (j + 1) (by omega)]
    rw [e n (Nat.le_refl _)]
theorem l_munder {G : vv_G} {S : vs_S} {a : aS} {f n : Nat} (hf : f < 10) (hnf : n = aLa a f) (hn : n ≤ 40) {S0 : vs_S} (cf0 : ∀ k, k ≤ aLa a f → S0.2.1 125 (41 * f + k) = nI (aC a f k)) {Pst : Option Value → vs_S → Prop} (K : ∀ S2 : vs_S, vs_fx S0 S2 [128] [] [] → aR S2 128 90 (cut (aC a f) (n + 1)) → vs_V G cX10_under (vs_MP yX10_under 4 (some .int) { frames := 3, locals := 73 } G Pst) 69 [(2, .int (nI n)), (0, .ref (G.2.2.2 + 118))] [] S2) : ∀ (d i : Nat) (S : vs_S), i + d = n + 1 → vs_fx S0 S [128] [] [] → aR S 128 90 (cut (aC a f) i) → vs_V G cX10_under (vs_MP yX10_under 4 (some .int) { frames := 3, locals := 73 } G Pst) 46 [(3, .int (nI i)), (2, .int (nI n)), (0, .ref (G.2.2.2 + 118)), (1, .int (nI f))] [] S := by
  intro d
  induction d with
  | zero =>
    intro i S hi F A1
    obtain rfl : i = n + 1 := by omega
    have cf : ∀ k, k ≤ aLa a f → S.2.1 125 (41 * f + k) = nI (aC a f k) := by rw [F.1 _ (by simp <;> omega)]; exact cf0
    refine vs_iload_n 3 dX10_under_46 rfl rfl 0 rfl ?_
    refine vs_iload_n 2 dX10_under_47 rfl rfl 1 rfl ?_
    refine vs_icmp_gt 69 dX10_under_48 rfl rfl (fun c_48 => ?_) (fun c_48 => ?_)
    · have q_48 : (((n + 1) : Nat) : Int) > ((n : Nat) : Int) := (qi_gt (nI_Z _) (nI_Z _) (by omega) (by omega) (by omega) (by omega)).mp c_48
      refine vs_pick (L2 := [(2, .int (nI n)), (0, .ref (G.2.2.2 + 118))]) [1, 2] rfl ?_
      exact K S F A1
    · have q_48 : ¬ (((n + 1) : Nat) : Int) > ((n : Nat) : Int) := fun hh => c_48 ((qi_gt (nI_Z _) (nI_Z _) (by omega) (by omega) (by omega) (by omega)).mpr hh)
      omega
  | succ d ih =>
    intro i S hi F A1
    have cf : ∀ k, k ≤ aLa a f → S.2.1 125 (41 * f + k) = nI (aC a f k) := by rw [F.1 _ (by simp <;> omega)]; exact cf0
    refine vs_iload_n 3 dX10_under_46 rfl rfl 0 rfl ?_
    refine vs_iload_n 2 dX10_under_47 rfl rfl 1 rfl ?_
    refine vs_icmp_gt 69 dX10_under_48 rfl rfl (fun c_48 => ?_) (fun c_48 => ?_)
    · have q_48 : ((i : Nat) : Int) > ((n : Nat) : Int) := (qi_gt (nI_Z _) (nI_Z _) (by omega) (by omega) (by omega) (by omega)).mp c_48
      omega
    · have q_48 : ¬ ((i : Nat) : Int) > ((n : Nat) : Int) := fun hh => c_48 ((qi_gt (nI_Z _) (nI_Z _) (by omega) (by omega) (by omega) (by omega)).mpr hh)
      refine vs_aload_n 0 dX10_under_51 rfl rfl 2 rfl ?_
      refine vs_get (v := .ref (G.2.2.2 + 128)) lf_X10_38 rfl rfl dX10_under_52 rfl ?_
      refine vs_iload_n 3 dX10_under_55 rfl rfl 0 rfl ?_
      refine vs_aload_n 0 dX10_under_56 rfl rfl 2 rfl ?_
      refine vs_iload_n 1 dX10_under_57 rfl rfl 3 rfl ?_
      refine vs_iload_n 3 dX10_under_58 rfl rfl 0 rfl ?_
      refine vs_callV (st := [.int (nI i), .ref (G.2.2.2 + 128)]) (c_mof (f := f) (k := i) (v := aC a f i) hf (by omega) (cf _ (by omega))) lk_X10_161 lm_X10_of rfl rfl rfl rfl (Nat.le_of_ble_eq_true rfl) rfl ⟨rfl, rfl⟩ dX10_under_59 rfl ?_
      show vs_V _ _ _ _ _ (.int (nI (aC a f i)) :: _) _
      refine vs_iast (k := i) rfl (by first | rfl | (simp only [fa_lit, nI_add, pk_mul, nI_1]; done) | omega) (by omega) rfl dX10_under_62 rfl ?_
      refine vs_gen (fun T1 e_T1 => ?_)
      have cf : ∀ k, k ≤ aLa a f → T1.2.1 125 (41 * f + k) = nI (aC a f k) := by rw [e_T1]; repeat (first | exact cf | rw [vs_ia_ne (by omega)] | rw [vs_ia_1] | rw [vs_sc_ne (by omega)] | rw [vs_sc_nf (by omega)])
      have F : vs_fx S0 T1 [128] [] [] := by rw [e_T1]; repeat (first | exact F | refine vs_fx.ia ?_ (by simp <;> omega) | refine vs_fx.sc ?_ (by simp <;> omega) | refine vs_fx.la ?_ (by simp <;> omega))
      have A1 : aR T1 128 90 (cut (aC a f) (i + 1)) := (by rw [e_T1, ← cut_s]; exact aR.put A1)
      clear e_T1
      refine vs_iinc (v := nI (i + 1)) [(3, .int (nI (i + 1))), (2, .int (nI n)), (0, .ref (G.2.2.2 + 118)), (1, .int (nI f))] dX10_under_63 rfl 0 rfl (by first | exact nI_1 _ | (simp only [fa_lit, nI_add, pk_mul, nI_1]; rfl)) rfl rfl ?_
      refine vs_goto 46 dX10_under_66 rfl ?_
      refine vs_pick [0, 1, 2, 3] rfl ?_
      exact ih (i + 1) _ (by omega) F A1

theorem M_under {G : vv_G} {S : vs_S} {a : aS} (hM : MSt S a) (hG : aG a) {f : Int} (hf1 : -2147483648 ≤ f) (hf2 : f < 2147483648) : vs_CP G yX10_under cX10_under 4 (some .int) { frames := 3, locals := 73 } [.ref (G.2.2.2 + 118), .int (nZ f)] S (fun r S2 => r = some (.int (nZ (sp_under a f).1)) ∧ MSt S2 (sp_under a f).2 ∧ frM S S2) := by
  refine vs_ofP [(0, .ref (G.2.2.2 + 118)), (1, .int (nZ f))] (by decide) rfl rfl ?_
  have hG0 := hG
  obtain ⟨⟨mP, mN, mH, mK0⟩, mK, mSh, mSe, ⟨mA, mB⟩, mX, mY⟩ := id hM
  obtain ⟨gP, gP2, gN, gH, gSe, gSh, gXY, gB31, gInj, gA, gB, gAz, gBz⟩ := hG
  have gP1 := gP.1
  refine vs_aload_n 0 dX10_under_0 rfl rfl 0 rfl ?_
  refine vs_iload_n 1 dX10_under_1 rfl rfl 1 rfl ?_
  refine vs_callV (st := []) (c_isSeries mN gN hf1 hf2) lk_X10_155 lm_X10_isSeries rfl rfl rfl rfl (Nat.le_of_ble_eq_true rfl) rfl ⟨rfl, rfl⟩ dX10_under_2 rfl ?_
  show vs_V _ _ _ _ _ (.int ((if 0 ≤ f ∧ f ≤ (aN a : Int) - 1 then 1 else 0)) :: _) _
  refine vs_if_ne 11 dX10_under_5 rfl rfl (fun c_5 => ?_) (fun c_5 => ?_)
  · rw [nn_is0, Classical.not_not] at c_5
    skip
    · obtain ⟨f, rfl⟩ : ∃ z0 : Nat, f = z0 := ⟨f.toNat, by omega⟩
      rw [nZ_n f]
      have hf : f < 10 := by omega
      have hfN : f < aN a := by omega
      obtain ⟨f1, f2⟩ := mSe f hfN
      obtain ⟨f3, f4⟩ := gSe f hfN
      have b0 := f4 0
      have hsp : sp_under a f = sp_ku a (pcon 1) (aC a f) (aLa a f) := (by unfold sp_under; (try simp only [Int.toNat_natCast]); repeat (first | rw [if_pos (by omega)] | rw [if_pos trivial] | rw [if_neg (by omega)]))
      refine vs_aload_n 0 dX10_under_11 rfl rfl 0 rfl ?_
      refine vs_iload_n 1 dX10_under_12 rfl rfl 1 rfl ?_
      refine vs_iconst (v := 0) dX10_under_13 rfl rfl ?_
      refine vs_callV (st := []) (c_mof (f := f) (k := 0) (v := aC a f 0) hf (by omega) (f2 0 (by omega))) lk_X10_161 lm_X10_of rfl rfl rfl rfl (Nat.le_of_ble_eq_true rfl) rfl ⟨rfl, rfl⟩ dX10_under_14 rfl ?_
      show vs_V _ _ _ _ _ (.int (nI (aC a f 0)) :: _) _
      refine vs_if_ne 26 dX10_under_17 rfl rfl (fun c_17 => ?_) (fun c_17 => ?_)
      · have q_17 : ¬ (((aC a f 0) : Nat) : Int) = ((0 : Nat) : Int) := fun hh => c_17 ((qi_eq (nI_Z _) (by first | exact nI_Z _ | (simp only [fa_lit, nI_add, pk_mul, nI_1]; exact nI_Z _)) (by omega) (by omega) (by omega) (by omega)).mpr hh)
        refine vs_aload_n 0 dX10_under_26 rfl rfl 0 rfl ?_
        refine vs_get (v := .ref (G.2.2.2 + 124)) lf_X10_26 rfl rfl dX10_under_27 rfl ?_
        refine vs_iload_n 1 dX10_under_30 rfl rfl 1 rfl ?_
        refine vs_iald (k := f) rfl rfl (by omega) rfl dX10_under_31 rfl ?_
        refine vs_topi (fun z1 e_z1 => ?_)
        have f_z1 : z1 = nI (aLa a f) := (by rw [e_z1]; exact f1)
        subst f_z1
        clear e_z1
        refine vs_istore_n 2 [(2, .int (nI (aLa a f))), (0, .ref (G.2.2.2 + 118)), (1, .int (nI f))] dX10_under_32 rfl rfl rfl rfl ?_
        refine vs_aload_n 0 dX10_under_33 rfl rfl 1 rfl ?_
        refine vs_callVP (st := []) c_clearWork lk_X10_145 lm_X10_clearWork rfl rfl rfl rfl (Nat.le_of_ble_eq_true rfl) rfl ⟨rfl, rfl⟩ dX10_under_34 rfl (fun rr S1 hh => ?_)
        obtain ⟨rfl, F, A0, B0⟩ := hh
        show vs_V _ _ _ _ _ [] _
        refine vs_aload_n 0 dX10_under_37 rfl rfl 1 rfl ?_
        refine vs_get (v := .ref (G.2.2.2 + 127)) lf_X10_35 rfl rfl dX10_under_38 rfl ?_
        refine vs_iconst (v := 0) dX10_under_41 rfl rfl ?_
        refine vs_iconst (v := 1) dX10_under_42 rfl rfl ?_
        refine vs_iast (k := 0) rfl rfl (by omega) rfl dX10_under_43 rfl ?_
        refine vs_iconst (v := 0) dX10_under_44 rfl rfl ?_
        refine vs_istore_n 3 [(3, .int (0)), (2, .int (nI (aLa a f))), (0, .ref (G.2.2.2 + 118)), (1, .int (nI f))] dX10_under_45 rfl rfl rfl rfl ?_
        refine vs_pick (L2 := [(3, .int (nI 0)), (2, .int (nI (aLa a f))), (0, .ref (G.2.2.2 + 118)), (1, .int (nI f))]) [0, 1, 2, 3] rfl ?_
        obtain ⟨n, hn⟩ : ∃ n, n = aLa a f := ⟨_, rfl⟩
        rw [← hn] at f1 f3 ⊢
        have F1 : vs_fx S (vs_ia S1 127 (upd (S1.2.1 127) 0 1)) [127, 128] [] [] := vs_fx.ia F (by simp)
        have A1 : aR (vs_ia S1 127 (upd (S1.2.1 127) 0 1)) 127 90 (pcon 1) := (aR.put (x := 1) A0).c (fun k _ => by unfold nu pcon; by_cases h : k = 0 <;> simp [h])
        refine l_munder (S := S) (a := a) (f := f) (n := n) hf hn (by omega) (S0 := vs_ia S1 127 (upd (S1.2.1 127) 0 1)) (by rw [F1.1 125 (by simp)]; exact f2) (fun S2 F2 B1 => ?_) (n + 1) 0 _ (by omega) vs_fx.rf ((aR.ne B0 (by omega)).c (fun j hj => (if_neg (by omega)).symm))
        have F3 : vs_fx S S2 [127, 128, 126] [] [] := vs_fx.tr (vs_fx.tr vs_fx.rf F1 (by simp) (by simp) (by simp)) F2 (by simp) (by simp) (by simp)
        have hp : aR S2 127 90 (pcon 1) := aR.fx A1 F2 (by simp)
        have mP2 : S2.1 118 2 = nI (aP a) := (F3.2.1 _ _ (by simp)).trans mP
        have hU : ufk (pcon 1) (cut (aC a f) (n + 1)) (ipw (cut (aC a f) (n + 1) 0) (aP a)) (aP a) (n + 1) = (ufk (pcon 1) (aC a f) (ipw (aC a f 0) (aP a)) (aP a) (aLa a f + 1)) := by
          rw [show cut (aC a f) (n + 1) 0 = aC a f 0 from if_pos (by omega), ← hn]
          exact ufk_c _ (fun _ _ => rfl) (fun k hk => if_pos hk)
        refine vs_aload_n 0 dX10_under_69 rfl rfl 1 rfl ?_
        refine vs_aload_n 0 dX10_under_70 rfl rfl 1 rfl ?_
        refine vs_get (v := .ref (G.2.2.2 + 126)) lf_X10_32 rfl rfl dX10_under_71 rfl ?_
        refine vs_iload_n 2 dX10_under_74 rfl rfl 0 rfl ?_
        refine vs_callVP (st := []) (c_unfoldTo (o := 126) (by omega) rfl gP1 gP2 (pcon_b (by omega)) (cut_b (by omega) f4) (n := n) (by omega) mP2 hp B1) lk_X10_148 lm_X10_unfoldTo rfl rfl rfl rfl (Nat.le_of_ble_eq_true rfl) rfl ⟨rfl, rfl⟩ dX10_under_75 rfl (fun rr S1 hh => ?_)
        obtain ⟨rfl, F5, hcm⟩ := hh
        show vs_V _ _ _ _ _ [] _
        rw [hU] at hcm
        have F6 : vs_fx S S1 [127, 128, 126] [] [] := vs_fx.tr F3 F5 (by simp) (by simp) (by simp)
        have hM1 : MSt S1 a := MSt.sr hM F6 (by simp [mcr]) (by simp) (by simp)
        have hf1 : frM S S1 := F6.M (by simp) (by simp) (by simp)
        refine vs_aload_n 0 dX10_under_78 rfl rfl 1 rfl ?_
        refine vs_iload_n 2 dX10_under_79 rfl rfl 0 rfl ?_
        refine vs_callVP (st := []) (k_comes hM1 hG0 (n := n) (by omega) (g := (ufk (pcon 1) (aC a f) (ipw (aC a f 0) (aP a)) (aP a) (aLa a f + 1))) hcm) lk_X10_139 lm_X10_comes rfl rfl rfl rfl (Nat.le_of_ble_eq_true rfl) rfl ⟨rfl, rfl⟩ dX10_under_80 rfl (fun rr S2 hh => ?_)
        obtain ⟨rfl, hM2, hf2⟩ := hh
        show vs_V _ _ _ _ _ (.int (nZ ((sp_kp a n (ufk (pcon 1) (aC a f) (ipw (aC a f 0) (aP a)) (aP a) (aLa a f + 1))).1)) :: _) _
        exact vs_iretP dX10_under_83 (by rw [hsp, show sp_ku a (pcon 1) (aC a f) (aLa a f) = sp_kp a n (ufk (pcon 1) (aC a f) (ipw (aC a f 0) (aP a)) (aP a) (aLa a f + 1)) from by rw [hn]; exact if_neg (by omega)]; exact ⟨rfl, hM2, hf1.tr hf2⟩)
      · have q_17 : (((aC a f 0) : Nat) : Int) = ((0 : Nat) : Int) := (qi_eq (nI_Z _) (by first | exact nI_Z _ | (simp only [fa_lit, nI_add, pk_mul, nI_1]; exact nI_Z _)) (by omega) (by omega) (by omega) (by omega)).mp c_17
        refine vs_aload_n 0 dX10_under_20 rfl rfl 0 rfl ?_
        refine vs_iconst (v := 5) dX10_under_21 rfl rfl ?_
        refine vs_callV (st := []) (c_meets (c := 5) (by decide) (by decide)) lk_X10_129 lm_X10_meets rfl rfl rfl rfl (Nat.le_of_ble_eq_true rfl) rfl ⟨rfl, rfl⟩ dX10_under_22 rfl ?_
        show vs_V _ _ _ _ _ (.int (nZ (-10 - ((5 : Nat) : Int))) :: _) _
        exact vs_iretP dX10_under_25 (by rw [hsp, show sp_ku a (pcon 1) (aC a f) (aLa a f) = s_c a 5 from if_pos (by omega)]; exact ⟨rfl, (k_meets hM (by decide) (by decide)).1, (k_meets hM (by decide) (by decide)).2⟩)
  · rw [nn_is0] at c_5
    refine vs_bipush (v := -101) dX10_under_8 rfl rfl ?_
    exact vs_iretP dX10_under_10 (mpost (v := -101) (a' := a) (by unfold sp_under; (try simp only [Int.toNat_natCast]); repeat (first | rw [if_pos (by omega)] | rw [if_pos trivial] | rw [if_neg (by omega)])) rfl hM frM.rf)

def mvF (P : Nat) (c : Nat → Nat) (b k : Nat) : Nat → Nat := fun j => if j < k then 0 else c (j - k) * (b ^ (j - k) % P) % P
theorem l_mmoved {G : vv_G} {S : vs_S} {a : aS} {f n : Nat} (hf : f < 10) (hnf : n = aLa a f) (hn : n ≤ 40) {k : Nat} (hk : k ≤ 40) (gP1 : 2 ≤ aP a) (gP2 : aP a ≤ 30011) (bf : ∀ k, aC a f k < aP a) {x : Int} (hx1 : -2147483648 ≤ x) (hx2 : x < 2147483648) {S0 : vs_S} (mP0 : S0.1 118 2 = nI (aP a)) (cf0 : ∀ k, k ≤ aLa a f → S0.2.1 125 (41 * f + k) = nI (aC a f k)) {Pst : Option Value → vs_S → Prop} (K : ∀ S2 : vs_S, vs_fx S0 S2 [126] [] [] → aR S2 126 (n + 1) ((mvF (aP a) (aC a f) (nn_m x (aP a)) k)) → vs_V G cX10_moved (vs_MP yX10_moved 6 (some .int) { frames := 2, locals := 46 } G Pst) 94 [(4, .int (nI n)), (0, .ref (G.2.2.2 + 118))] [] S2) : ∀ (d i : Nat) (S : vs_S), i + d = n + 1 → vs_fx S0 S [126] [] [] → aR S 126 i ((mvF (aP a) (aC a f) (nn_m x (aP a)) k)) → vs_V G cX10_moved (vs_MP yX10_moved 6 (some .int) { frames := 2, locals := 46 } G Pst) 37 [(5, .int (nI i)), (4, .int (nI n)), (0, .ref (G.2.2.2 + 118)), (1, .int (nI f)), (2, .int (nZ x)), (3, .int (nI k))] [] S := by
  intro d
  induction d with
  | zero =>
    intro i S hi F A1
    obtain rfl : i = n + 1 := by omega
    have mP : S.1 118 2 = nI (aP a) := (F.2.1 _ _ (by simp <;> omega)).trans mP0
    have cf : ∀ k, k ≤ aLa a f → S.2.1 125 (41 * f + k) = nI (aC a f k) := by rw [F.1 _ (by simp <;> omega)]; exact cf0
    refine vs_iload dX10_moved_37 rfl 0 rfl ?_
    refine vs_iload dX10_moved_39 rfl 1 rfl ?_
    refine vs_icmp_gt 94 dX10_moved_41 rfl rfl (fun c_41 => ?_) (fun c_41 => ?_)
    · have q_41 : (((n + 1) : Nat) : Int) > ((n : Nat) : Int) := (qi_gt (nI_Z _) (nI_Z _) (by omega) (by omega) (by omega) (by omega)).mp c_41
      refine vs_pick (L2 := [(4, .int (nI n)), (0, .ref (G.2.2.2 + 118))]) [1, 2] rfl ?_
      exact K S F A1
    · have q_41 : ¬ (((n + 1) : Nat) : Int) > ((n : Nat) : Int) := fun hh => c_41 ((qi_gt (nI_Z _) (nI_Z _) (by omega) (by omega) (by omega) (by omega)).mpr hh)
      omega
  | succ d ih =>
    intro i S hi F A1
    have mP : S.1 118 2 = nI (aP a) := (F.2.1 _ _ (by simp <;> omega)).trans mP0
    have cf : ∀ k, k ≤ aLa a f → S.2.1 125 (41 * f + k) = nI (aC a f k) := by rw [F.1 _ (by simp <;> omega)]; exact cf0
    refine vs_iload dX10_moved_37 rfl 0 rfl ?_
    refine vs_iload dX10_moved_39 rfl 1 rfl ?_
    refine vs_icmp_gt 94 dX10_moved_41 rfl rfl (fun c_41 => ?_) (fun c_41 => ?_)
    · have q_41 : ((i : Nat) : Int) > ((n : Nat) : Int) := (qi_gt (nI_Z _) (nI_Z _) (by omega) (by omega) (by omega) (by omega)).mp c_41
      omega
    · have q_41 : ¬ ((i : Nat) : Int) > ((n : Nat) : Int) := fun hh => c_41 ((qi_gt (nI_Z _) (nI_Z _) (by omega) (by omega) (by omega) (by omega)).mpr hh)
      refine vs_aload_n 0 dX10_moved_44 rfl rfl 2 rfl ?_
      refine vs_get (v := .ref (G.2.2.2 + 126)) lf_X10_32 rfl rfl dX10_moved_45 rfl ?_
      refine vs_iload dX10_moved_48 rfl 0 rfl ?_
      refine vs_iload dX10_moved_50 rfl 0 rfl ?_
      refine vs_iload_n 3 dX10_moved_52 rfl rfl 5 rfl ?_
      refine vs_icmp_ge 60 dX10_moved_53 rfl rfl (fun c_53 => ?_) (fun c_53 => ?_)
      · have q_53 : ((i : Nat) : Int) ≥ ((k : Nat) : Int) := (qi_ge (nI_Z _) (nI_Z _) (by omega) (by omega) (by omega) (by omega)).mp c_53
        have e1 : (mvF (aP a) (aC a f) (nn_m x (aP a)) k) i = aC a f (i - k) * (nn_m x (aP a) ^ (i - k) % aP a) % aP a := if_neg (by omega)
        have b1 := bf (i - k)
        have b2 := Nat.mod_lt (nn_m x (aP a) ^ (i - k)) (show aP a > 0 by omega)
        refine vs_aload_n 0 dX10_moved_60 rfl rfl 2 rfl ?_
        refine vs_aload_n 0 dX10_moved_61 rfl rfl 2 rfl ?_
        refine vs_iload_n 1 dX10_moved_62 rfl rfl 3 rfl ?_
        refine vs_iload dX10_moved_63 rfl 0 rfl ?_
        refine vs_iload_n 3 dX10_moved_65 rfl rfl 5 rfl ?_
        refine vs_isub dX10_moved_66 rfl ?_
        refine vs_topi (fun z1 e_z1 => ?_)
        have f_z1 : z1 = nI (i - k) := (by rw [e_z1]; exact pk_sub (by omega))
        subst f_z1
        clear e_z1
        refine vs_callV (st := [.ref (G.2.2.2 + 118), .int (nI i), .ref (G.2.2.2 + 126)]) (c_mof (f := f) (k := i - k) (v := aC a f (i - k)) hf (by omega) (cf _ (by omega))) lk_X10_161 lm_X10_of rfl rfl rfl rfl (Nat.le_of_ble_eq_true rfl) rfl ⟨rfl, rfl⟩ dX10_moved_67 rfl ?_
        show vs_V _ _ _ _ _ (.int (nI (aC a f (i - k))) :: _) _
        refine vs_aload_n 0 dX10_moved_70 rfl rfl 2 rfl ?_
        refine vs_aload_n 0 dX10_moved_71 rfl rfl 2 rfl ?_
        refine vs_iload_n 2 dX10_moved_72 rfl rfl 4 rfl ?_
        refine vs_i2l dX10_moved_73 rfl ?_
        refine vs_callV (st := [.ref (G.2.2.2 + 118), .int (nI (aC a f (i - k))), .ref (G.2.2.2 + 118), .int (nI i), .ref (G.2.2.2 + 126)]) (c_restZ (z := x) (by rw [nn_i2l, nZ_i hx1 hx2]) mP gP1 gP2) lk_X10_135 lm_X10_rest rfl rfl rfl rfl (Nat.le_of_ble_eq_true rfl) rfl ⟨rfl, rfl⟩ dX10_moved_74 rfl ?_
        show vs_V _ _ _ _ _ (.int (nI (nn_m x (aP a))) :: _) _
        refine vs_iload dX10_moved_77 rfl 0 rfl ?_
        refine vs_iload_n 3 dX10_moved_79 rfl rfl 5 rfl ?_
        refine vs_isub dX10_moved_80 rfl ?_
        refine vs_topi (fun z2 e_z2 => ?_)
        have f_z2 : z2 = nI (i - k) := (by rw [e_z2]; exact pk_sub (by omega))
        subst f_z2
        clear e_z2
        refine vs_callV (st := [.int (nI (aC a f (i - k))), .ref (G.2.2.2 + 118), .int (nI i), .ref (G.2.2.2 + 126)]) (c_power (b := nn_m x (aP a)) (n := i - k) mP gP1 gP2 (nn_m_lt (by omega)) (by omega)) lk_X10_164 lm_X10_power rfl rfl rfl rfl (Nat.le_of_ble_eq_true rfl) rfl ⟨rfl, rfl⟩ dX10_moved_81 rfl ?_
        show vs_V _ _ _ _ _ (.int (nI (nn_m x (aP a) ^ (i - k) % aP a)) :: _) _
        refine vs_callV (st := [.int (nI i), .ref (G.2.2.2 + 126)]) (c_product (x := aC a f (i - k)) (y := nn_m x (aP a) ^ (i - k) % aP a) mP (by omega) (by omega) (by omega) (by omega)) lk_X10_99 lm_X10_product rfl rfl rfl rfl (Nat.le_of_ble_eq_true rfl) rfl ⟨rfl, rfl⟩ dX10_moved_84 rfl ?_
        show vs_V _ _ _ _ _ (.int (nI (aC a f (i - k) * (nn_m x (aP a) ^ (i - k) % aP a) % aP a)) :: _) _
        refine vs_iast (k := i) rfl (by first | rfl | (simp only [fa_lit, nI_add, pk_mul, nI_1]; done) | omega) (by omega) rfl dX10_moved_87 rfl ?_
        refine vs_gen (fun T1 e_T1 => ?_)
        have mP : T1.1 118 2 = nI (aP a) := by rw [e_T1]; repeat (first | exact mP | rw [vs_ia_ne (by omega)] | rw [vs_ia_1] | rw [vs_sc_ne (by omega)] | rw [vs_sc_nf (by omega)])
        have cf : ∀ k, k ≤ aLa a f → T1.2.1 125 (41 * f + k) = nI (aC a f k) := by rw [e_T1]; repeat (first | exact cf | rw [vs_ia_ne (by omega)] | rw [vs_ia_1] | rw [vs_sc_ne (by omega)] | rw [vs_sc_nf (by omega)])
        have F : vs_fx S0 T1 [126] [] [] := by rw [e_T1]; repeat (first | exact F | refine vs_fx.ia ?_ (by simp <;> omega) | refine vs_fx.sc ?_ (by simp <;> omega) | refine vs_fx.la ?_ (by simp <;> omega))
        have A1 : aR T1 126 (i + 1) (mvF (aP a) (aC a f) (nn_m x (aP a)) k) := (by rw [e_T1]; have := aR.push A1; rw [e1] at this; exact this)
        clear e_T1
        refine vs_iinc (v := nI (i + 1)) [(5, .int (nI (i + 1))), (4, .int (nI n)), (0, .ref (G.2.2.2 + 118)), (1, .int (nI f)), (2, .int (nZ x)), (3, .int (nI k))] dX10_moved_88 rfl 0 rfl (by first | exact nI_1 _ | (simp only [fa_lit, nI_add, pk_mul, nI_1]; rfl)) rfl rfl ?_
        refine vs_goto 37 dX10_moved_91 rfl ?_
        refine vs_pick [0, 1, 2, 3, 4, 5] rfl ?_
        exact ih (i + 1) _ (by omega) F A1
      · have q_53 : ¬ ((i : Nat) : Int) ≥ ((k : Nat) : Int) := fun hh => c_53 ((qi_ge (nI_Z _) (nI_Z _) (by omega) (by omega) (by omega) (by omega)).mpr hh)
        have e1 : (mvF (aP a) (aC a f) (nn_m x (aP a)) k) i = 0 := if_pos (by omega)
        refine vs_iconst (v := 0) dX10_moved_56 rfl rfl ?_
        refine vs_goto 87 dX10_moved_57 rfl ?_
        refine vs_iast (k := i) rfl (by first | rfl | (simp only [fa_lit, nI_add, pk_mul, nI_1]; done) | omega) (by omega) rfl dX10_moved_87 rfl ?_
        refine vs_gen (fun T2 e_T2 => ?_)
        have mP : T2.1 118 2 = nI (aP a) := by rw [e_T2]; repeat (first | exact mP | rw [vs_ia_ne (by omega)] | rw [vs_ia_1] | rw [vs_sc_ne (by omega)] | rw [vs_sc_nf (by omega)])
        have cf : ∀ k, k ≤ aLa a f → T2.2.1 125 (41 * f + k) = nI (aC a f k) := by rw [e_T2]; repeat (first | exact cf | rw [vs_ia_ne (by omega)] | rw [vs_ia_1] | rw [vs_sc_ne (by omega)] | rw [vs_sc_nf (by omega)])
        have F : vs_fx S0 T2 [126] [] [] := by rw [e_T2]; repeat (first | exact F | refine vs_fx.ia ?_ (by simp <;> omega) | refine vs_fx.sc ?_ (by simp <;> omega) | refine vs_fx.la ?_ (by simp <;> omega))
        have A1 : aR T2 126 (i + 1) (mvF (aP a) (aC a f) (nn_m x (aP a)) k) := (by rw [e_T2]; have := aR.push A1; rw [e1] at this; exact this)
        clear e_T2
        refine vs_iinc (v := nI (i + 1)) [(5, .int (nI (i + 1))), (4, .int (nI n)), (0, .ref (G.2.2.2 + 118)), (1, .int (nI f)), (2, .int (nZ x)), (3, .int (nI k))] dX10_moved_88 rfl 0 rfl (by first | exact nI_1 _ | (simp only [fa_lit, nI_add, pk_mul, nI_1]; rfl)) rfl rfl ?_
        refine vs_goto 37 dX10_moved_91 rfl ?_
        refine vs_pick [0, 1, 2, 3, 4, 5] rfl ?_
        exact ih (i + 1) _ (by omega) F A1

theorem M_moved {G : vv_G} {S : vs_S} {a : aS} (hM : MSt S a) (hG : aG a) {f : Int} (hf1 : -2147483648 ≤ f) (hf2 : f < 2147483648) {x : Int} (hx1 : -2147483648 ≤ x) (hx2 : x < 2147483648) {k : Int} (hk1 : -2147483648 ≤ k) (hk2 : k < 2147483648) : vs_CP G yX10_moved cX10_moved 6 (some .int) { frames := 2, locals := 46 } [.ref (G.2.2.2 + 118), .int (nZ f), .int (nZ x), .int (nZ k)] S (fun r S2 => r = some (.int (nZ (sp_moved a f x k).1)) ∧ MSt S2 (sp_moved a f x k).2 ∧ frM S S2) := by
  refine vs_ofP [(0, .ref (G.2.2.2 + 118)), (1, .int (nZ f)), (2, .int (nZ x)), (3, .int (nZ k))] (by decide) rfl rfl ?_
  have hG0 := hG
  obtain ⟨⟨mP, mN, mH, mK0⟩, mK, mSh, mSe, ⟨mA, mB⟩, mX, mY⟩ := id hM
  obtain ⟨gP, gP2, gN, gH, gSe, gSh, gXY, gB31, gInj, gA, gB, gAz, gBz⟩ := hG
  have gP1 := gP.1
  refine vs_aload_n 0 dX10_moved_0 rfl rfl 0 rfl ?_
  refine vs_iload_n 1 dX10_moved_1 rfl rfl 1 rfl ?_
  refine vs_callV (st := []) (c_isSeries mN gN hf1 hf2) lk_X10_155 lm_X10_isSeries rfl rfl rfl rfl (Nat.le_of_ble_eq_true rfl) rfl ⟨rfl, rfl⟩ dX10_moved_2 rfl ?_
  show vs_V _ _ _ _ _ (.int ((if 0 ≤ f ∧ f ≤ (aN a : Int) - 1 then 1 else 0)) :: _) _
  refine vs_if_ne 11 dX10_moved_5 rfl rfl (fun c_5 => ?_) (fun c_5 => ?_)
  · rw [nn_is0, Classical.not_not] at c_5
    refine vs_iload_n 3 dX10_moved_11 rfl rfl 3 rfl ?_
    refine vs_i2l dX10_moved_12 rfl ?_
    refine vs_lconst (v := 0) dX10_moved_13 rfl rfl ?_
    refine vs_ldc2 lc_X10_133 dX10_moved_14 rfl ?_
    refine vs_callS (st := []) (c_inZ (z := k) (x := 0) (y := 40) (by rw [nn_i2l, nZ_i hk1 hk2]) rfl rfl) lk_X10_107 lm_X10_in rfl rfl (Nat.le_of_ble_eq_true rfl) rfl ⟨rfl, rfl⟩ dX10_moved_17 rfl ?_
    show vs_V _ _ _ _ _ (.int ((if 0 ≤ k ∧ k ≤ 40 then 1 else 0)) :: _) _
    refine vs_if_ne 26 dX10_moved_20 rfl rfl (fun c_20 => ?_) (fun c_20 => ?_)
    · rw [nn_is0, Classical.not_not] at c_20
      skip
      · obtain ⟨f, rfl⟩ : ∃ z0 : Nat, f = z0 := ⟨f.toNat, by omega⟩
        rw [nZ_n f]
        have hf : f < 10 := by omega
        have hfN : f < aN a := by omega
        obtain ⟨f1, f2⟩ := mSe f hfN
        obtain ⟨f3, f4⟩ := gSe f hfN
        obtain ⟨k, rfl⟩ : ∃ z0 : Nat, k = z0 := ⟨k.toNat, by omega⟩
        rw [nZ_n k]
        refine vs_aload_n 0 dX10_moved_26 rfl rfl 0 rfl ?_
        refine vs_get (v := .ref (G.2.2.2 + 124)) lf_X10_26 rfl rfl dX10_moved_27 rfl ?_
        refine vs_iload_n 1 dX10_moved_30 rfl rfl 1 rfl ?_
        refine vs_iald (k := f) rfl rfl (by omega) rfl dX10_moved_31 rfl ?_
        refine vs_topi (fun z1 e_z1 => ?_)
        have f_z1 : z1 = nI (aLa a f) := (by rw [e_z1]; exact f1)
        subst f_z1
        clear e_z1
        refine vs_istore [(4, .int (nI (aLa a f))), (0, .ref (G.2.2.2 + 118)), (1, .int (nI f)), (2, .int (nZ x)), (3, .int (nI k))] dX10_moved_32 rfl rfl rfl ?_
        refine vs_iconst (v := 0) dX10_moved_34 rfl rfl ?_
        refine vs_istore [(5, .int (0)), (4, .int (nI (aLa a f))), (0, .ref (G.2.2.2 + 118)), (1, .int (nI f)), (2, .int (nZ x)), (3, .int (nI k))] dX10_moved_35 rfl rfl rfl ?_
        refine vs_pick (L2 := [(5, .int (nI 0)), (4, .int (nI (aLa a f))), (0, .ref (G.2.2.2 + 118)), (1, .int (nI f)), (2, .int (nZ x)), (3, .int (nI k))]) [0, 1, 2, 3, 4, 5] rfl ?_
        refine l_mmoved (S := S) (a := a) (f := f) (n := aLa a f) hf rfl (by omega) (k := k) (by omega) gP1 gP2 f4 hx1 hx2 (S0 := S) mP f2 (fun S2 F A1 => ?_) (aLa a f + 1) 0 S (by omega) vs_fx.rf aR_0
        have hM1 : MSt S2 a := MSt.sr hM F (by simp [mcr]) (by simp) (by simp)
        have hf1 : frM S S2 := F.M (by simp) (by simp) (by simp)
        have hcm : aR S2 126 (aLa a f + 1) (mvk (aP a) (aC a f) (nn_m x (aP a)) k (aLa a f + 1 - k)) := A1.c (fun j hj => by
          unfold mvk
          by_cases e : j < k
          · rw [if_neg (by omega)]; exact if_pos e
          · rw [if_pos (by omega), Nat.mul_comm (_ ^ _ % _)]; exact if_neg e)
        refine vs_aload_n 0 dX10_moved_94 rfl rfl 1 rfl ?_
        refine vs_iload dX10_moved_95 rfl 0 rfl ?_
        refine vs_callVP (st := []) (k_comes hM1 hG0 (n := aLa a f) (by omega) (g := (mvk (aP a) (aC a f) (nn_m x (aP a)) k (aLa a f + 1 - k))) hcm) lk_X10_139 lm_X10_comes rfl rfl rfl rfl (Nat.le_of_ble_eq_true rfl) rfl ⟨rfl, rfl⟩ dX10_moved_97 rfl (fun rr S1 hh => ?_)
        obtain ⟨rfl, hM2, hf2⟩ := hh
        show vs_V _ _ _ _ _ (.int (nZ ((sp_kp a (aLa a f) ((mvk (aP a) (aC a f) (nn_m x (aP a)) k (aLa a f + 1 - k)))).1)) :: _) _
        exact vs_iretP dX10_moved_100 (by rw [show sp_moved a f x k = sp_kp a (aLa a f) ((mvk (aP a) (aC a f) (nn_m x (aP a)) k (aLa a f + 1 - k))) from (by unfold sp_moved; (try simp only [Int.toNat_natCast]); repeat (first | rw [if_pos (by omega)] | rw [if_pos trivial] | rw [if_neg (by omega)]))]; exact ⟨rfl, hM2, hf1.tr hf2⟩)
    · rw [nn_is0] at c_20
      refine vs_bipush (v := -102) dX10_moved_23 rfl rfl ?_
      exact vs_iretP dX10_moved_25 (mpost (v := -102) (a' := a) (by unfold sp_moved; (try simp only [Int.toNat_natCast]); repeat (first | rw [if_pos (by omega)] | rw [if_pos trivial] | rw [if_neg (by omega)])) rfl hM frM.rf)
  · rw [nn_is0] at c_5
    refine vs_bipush (v := -101) dX10_moved_8 rfl rfl ?_
    exact vs_iretP dX10_moved_10 (mpost (v := -101) (a' := a) (by unfold sp_moved; (try simp only [Int.toNat_natCast]); repeat (first | rw [if_pos (by omega)] | rw [if_pos trivial] | rw [if_neg (by omega)])) rfl hM frM.rf)

theorem M_number {G : vv_G} {S : vs_S} {a : aS} (hM : MSt S a) (hG : aG a) {f : Int} (hf1 : -2147483648 ≤ f) (hf2 : f < 2147483648) {k : Int} (hk1 : -2147483648 ≤ k) (hk2 : k < 2147483648) : vs_CP G yX10_number cX10_number 3 (some .int) { frames := 2, locals := 46 } [.ref (G.2.2.2 + 118), .int (nZ f), .int (nZ k)] S (fun r S2 => r = some (.int (nZ (sp_number a f k).1)) ∧ MSt S2 (sp_number a f k).2 ∧ frM S S2) := by
  refine vs_ofP [(0, .ref (G.2.2.2 + 118)), (1, .int (nZ f)), (2, .int (nZ k))] (by decide) rfl rfl ?_
  obtain ⟨⟨mP, mN, mH, mK0⟩, mK, mSh, mSe, ⟨mA, mB⟩, mX, mY⟩ := id hM
  obtain ⟨gP, gP2, gN, gH, gSe, gSh, gXY, gB31, gInj, gA, gB, gAz, gBz⟩ := hG
  have gP1 := gP.1
  refine vs_aload_n 0 dX10_number_0 rfl rfl 0 rfl ?_
  refine vs_iload_n 1 dX10_number_1 rfl rfl 1 rfl ?_
  refine vs_callV (st := []) (c_isSeries mN gN hf1 hf2) lk_X10_155 lm_X10_isSeries rfl rfl rfl rfl (Nat.le_of_ble_eq_true rfl) rfl ⟨rfl, rfl⟩ dX10_number_2 rfl ?_
  show vs_V _ _ _ _ _ (.int ((if 0 ≤ f ∧ f ≤ (aN a : Int) - 1 then 1 else 0)) :: _) _
  refine vs_if_ne 13 dX10_number_5 rfl rfl (fun c_5 => ?_) (fun c_5 => ?_)
  · rw [nn_is0, Classical.not_not] at c_5
    skip
    · obtain ⟨f, rfl⟩ : ∃ z0 : Nat, f = z0 := ⟨f.toNat, by omega⟩
      rw [nZ_n f]
      have hf : f < 10 := by omega
      have hfN : f < aN a := by omega
      obtain ⟨f1, f2⟩ := mSe f hfN
      obtain ⟨f3, f4⟩ := gSe f hfN
      refine vs_iload_n 2 dX10_number_13 rfl rfl 2 rfl ?_
      refine vs_i2l dX10_number_14 rfl ?_
      refine vs_lconst (v := 0) dX10_number_15 rfl rfl ?_
      refine vs_aload_n 0 dX10_number_16 rfl rfl 0 rfl ?_
      refine vs_get (v := .ref (G.2.2.2 + 124)) lf_X10_26 rfl rfl dX10_number_17 rfl ?_
      refine vs_iload_n 1 dX10_number_20 rfl rfl 1 rfl ?_
      refine vs_iald (k := f) rfl rfl (by omega) rfl dX10_number_21 rfl ?_
      refine vs_topi (fun z1 e_z1 => ?_)
      have f_z1 : z1 = nI (aLa a f) := (by rw [e_z1]; exact f1)
      subst f_z1
      clear e_z1
      refine vs_i2l dX10_number_22 rfl ?_
      refine vs_callS (st := []) (c_inZ (z := k) (x := 0) (y := (aLa a f : Int)) (by rw [nn_i2l, nZ_i hk1 hk2]) rfl (by rw [nn_i2l, nI_i (by omega)])) lk_X10_107 lm_X10_in rfl rfl (Nat.le_of_ble_eq_true rfl) rfl ⟨rfl, rfl⟩ dX10_number_23 rfl ?_
      show vs_V _ _ _ _ _ (.int ((if 0 ≤ k ∧ k ≤ (aLa a f : Int) then 1 else 0)) :: _) _
      refine vs_if_eq 38 dX10_number_26 rfl rfl (fun c_26 => ?_) (fun c_26 => ?_)
      · rw [nn_is0] at c_26
        refine vs_iconst (v := -1) dX10_number_38 rfl rfl ?_
        exact vs_iretP dX10_number_39 (mpost (v := -1) (a' := a) (by unfold sp_number; (try simp only [Int.toNat_natCast]); repeat (first | rw [if_pos (by omega)] | rw [if_pos trivial] | rw [if_neg (by omega)])) rfl hM frM.rf)
      · rw [nn_is0, Classical.not_not] at c_26
        skip
        · obtain ⟨k, rfl⟩ : ∃ z0 : Nat, k = z0 := ⟨k.toNat, by omega⟩
          rw [nZ_n k]
          refine vs_aload_n 0 dX10_number_29 rfl rfl 0 rfl ?_
          refine vs_iload_n 1 dX10_number_30 rfl rfl 1 rfl ?_
          refine vs_iload_n 2 dX10_number_31 rfl rfl 2 rfl ?_
          refine vs_callV (st := []) (c_mof (f := f) (k := k) (v := aC a f k) hf (by omega) (f2 k (by omega))) lk_X10_161 lm_X10_of rfl rfl rfl rfl (Nat.le_of_ble_eq_true rfl) rfl ⟨rfl, rfl⟩ dX10_number_32 rfl ?_
          show vs_V _ _ _ _ _ (.int (nI (aC a f k)) :: _) _
          refine vs_goto 39 dX10_number_35 rfl ?_
          exact vs_iretP dX10_number_39 (mpost (v := (aC a f k : Int)) (a' := a) (by unfold sp_number; (try simp only [Int.toNat_natCast]); repeat (first | rw [if_pos (by omega)] | rw [if_pos trivial] | rw [if_neg (by omega)])) (by rw [nZ_n]) hM frM.rf)
  · rw [nn_is0] at c_5
    refine vs_bipush (v := -101) dX10_number_8 rfl rfl ?_
    refine vs_goto 39 dX10_number_10 rfl ?_
    exact vs_iretP dX10_number_39 (mpost (v := -101) (a' := a) (by unfold sp_number; (try simp only [Int.toNat_natCast]); repeat (first | rw [if_pos (by omega)] | rw [if_pos trivial] | rw [if_neg (by omega)])) rfl hM frM.rf)

theorem M_length {G : vv_G} {S : vs_S} {a : aS} (hM : MSt S a) (hG : aG a) {f : Int} (hf1 : -2147483648 ≤ f) (hf2 : f < 2147483648) : vs_CP G yX10_length cX10_length 2 (some .int) { frames := 2, locals := 46 } [.ref (G.2.2.2 + 118), .int (nZ f)] S (fun r S2 => r = some (.int (nZ (sp_length a f).1)) ∧ MSt S2 (sp_length a f).2 ∧ frM S S2) := by
  refine vs_ofP [(0, .ref (G.2.2.2 + 118)), (1, .int (nZ f))] (by decide) rfl rfl ?_
  obtain ⟨⟨mP, mN, mH, mK0⟩, mK, mSh, mSe, ⟨mA, mB⟩, mX, mY⟩ := id hM
  obtain ⟨gP, gP2, gN, gH, gSe, gSh, gXY, gB31, gInj, gA, gB, gAz, gBz⟩ := hG
  have gP1 := gP.1
  refine vs_aload_n 0 dX10_length_0 rfl rfl 0 rfl ?_
  refine vs_iload_n 1 dX10_length_1 rfl rfl 1 rfl ?_
  refine vs_callV (st := []) (c_isSeries mN gN hf1 hf2) lk_X10_155 lm_X10_isSeries rfl rfl rfl rfl (Nat.le_of_ble_eq_true rfl) rfl ⟨rfl, rfl⟩ dX10_length_2 rfl ?_
  show vs_V _ _ _ _ _ (.int ((if 0 ≤ f ∧ f ≤ (aN a : Int) - 1 then 1 else 0)) :: _) _
  refine vs_if_eq 17 dX10_length_5 rfl rfl (fun c_5 => ?_) (fun c_5 => ?_)
  · rw [nn_is0] at c_5
    refine vs_bipush (v := -101) dX10_length_17 rfl rfl ?_
    exact vs_iretP dX10_length_19 (mpost (v := -101) (a' := a) (by unfold sp_length; (try simp only [Int.toNat_natCast]); repeat (first | rw [if_pos (by omega)] | rw [if_pos trivial] | rw [if_neg (by omega)])) rfl hM frM.rf)
  · rw [nn_is0, Classical.not_not] at c_5
    skip
    · obtain ⟨f, rfl⟩ : ∃ z0 : Nat, f = z0 := ⟨f.toNat, by omega⟩
      rw [nZ_n f]
      have hf : f < 10 := by omega
      have hfN : f < aN a := by omega
      obtain ⟨f1, f2⟩ := mSe f hfN
      obtain ⟨f3, f4⟩ := gSe f hfN
      refine vs_aload_n 0 dX10_length_8 rfl rfl 0 rfl ?_
      refine vs_get (v := .ref (G.2.2.2 + 124)) lf_X10_26 rfl rfl dX10_length_9 rfl ?_
      refine vs_iload_n 1 dX10_length_12 rfl rfl 1 rfl ?_
      refine vs_iald (k := f) rfl rfl (by omega) rfl dX10_length_13 rfl ?_
      refine vs_topi (fun z1 e_z1 => ?_)
      have f_z1 : z1 = nI (aLa a f) := (by rw [e_z1]; exact f1)
      subst f_z1
      clear e_z1
      refine vs_goto 19 dX10_length_14 rfl ?_
      exact vs_iretP dX10_length_19 (mpost (v := (aLa a f : Int)) (a' := a) (by unfold sp_length; (try simp only [Int.toNat_natCast]); repeat (first | rw [if_pos (by omega)] | rw [if_pos trivial] | rw [if_neg (by omega)])) (by rw [nZ_n]) hM frM.rf)

theorem M_clear {G : vv_G} {S : vs_S} {a : aS} (hM : MSt S a) (hG : aG a) : vs_CP G yX10_clear cX10_clear 2 (some .int) { frames := 0, locals := 0 } [.ref (G.2.2.2 + 118)] S (fun r S2 => r = some (.int (nZ (sp_clear a).1)) ∧ MSt S2 (sp_clear a).2 ∧ frM S S2) := by
  refine vs_ofP [(0, .ref (G.2.2.2 + 118))] (by decide) rfl rfl ?_
  obtain ⟨⟨mP, mN, mH, mK0⟩, mK, mSh, mSe, ⟨mA, mB⟩, mX, mY⟩ := id hM
  obtain ⟨gP, gP2, gN, gH, gSe, gSh, gXY, gB31, gInj, gA, gB, gAz, gBz⟩ := hG
  have gP1 := gP.1
  refine vs_aload_n 0 dX10_clear_0 rfl rfl 0 rfl ?_
  refine vs_get (v := .int (nI (aN a))) lf_X10_115 rfl (congrArg (fun z => some (Value.int z)) mN) dX10_clear_1 rfl ?_
  refine vs_istore_n 1 [(1, .int (nI (aN a))), (0, .ref (G.2.2.2 + 118))] dX10_clear_4 rfl rfl rfl rfl ?_
  refine vs_aload_n 0 dX10_clear_5 rfl rfl 1 rfl ?_
  refine vs_iconst (v := 0) dX10_clear_6 rfl rfl ?_
  refine vs_put lf_X10_115 rfl rfl rfl rfl dX10_clear_7 rfl ?_
  have F : vs_fx S (vs_sc S 118 7 0) [] [(118, 7)] [] := vs_fx.sc vs_fx.rf (by simp)
  refine vs_iload_n 1 dX10_clear_10 rfl rfl 0 rfl ?_
  exact vs_iretP dX10_clear_11 (mpost (x := sp_clear a) rfl (by rw [nZ_n]) (MSt.cl hM F vs_sc_at (by simp) (by simp) (by simp)) (F.M (by simp) (by simp) (by simp)))

theorem l_magrees {G : vv_G} {S : vs_S} {f la : Nat} (hf : f < 10) (hla2 : la ≤ 40) {c u : Nat → Nat} {P : Nat} (hP2 : P ≤ 30011) (bc : ∀ k, c k < P) (bu : ∀ k, u k < P) (hla : S.2.1 124 f = nI la) (hc : ∀ k, k ≤ la → S.2.1 125 (41 * f + k) = nI (c k)) (hu : aR S 136 (la + 1) u) {Pst : Option Value → vs_S → Prop} : ∀ d k : Nat, k + d = la + 1 → Pst (some (.int (nI (agr u c d k)))) S → vs_V G cX10_agrees (vs_MP yX10_agrees 3 (some .int) { frames := 3, locals := 73 } G Pst) 20 [(2, .int (nI k)), (0, .ref (G.2.2.2 + 118)), (1, .int (nI f))] [] S := by
  intro d
  induction d with
  | zero =>
    intro k hk hr
    obtain rfl : k = la + 1 := by omega
    refine vs_iload_n 2 dX10_agrees_20 rfl rfl 0 rfl ?_
    refine vs_aload_n 0 dX10_agrees_21 rfl rfl 1 rfl ?_
    refine vs_get (v := .ref (G.2.2.2 + 124)) lf_X10_26 rfl rfl dX10_agrees_22 rfl ?_
    refine vs_iload_n 1 dX10_agrees_25 rfl rfl 2 rfl ?_
    refine vs_iald (k := f) rfl rfl (by omega) rfl dX10_agrees_26 rfl ?_
    refine vs_topi (fun z1 e_z1 => ?_)
    have f_z1 : z1 = nI la := (by rw [e_z1]; exact hla)
    subst f_z1
    clear e_z1
    refine vs_icmp_gt 51 dX10_agrees_27 rfl rfl (fun c_27 => ?_) (fun c_27 => ?_)
    · have q_27 : (((la + 1) : Nat) : Int) > ((la : Nat) : Int) := (qi_gt (nI_Z _) (nI_Z _) (by omega) (by omega) (by omega) (by omega)).mp c_27
      refine vs_iload_n 2 dX10_agrees_51 rfl rfl 0 rfl ?_
      exact vs_iretP dX10_agrees_52 hr
    · have q_27 : ¬ (((la + 1) : Nat) : Int) > ((la : Nat) : Int) := fun hh => c_27 ((qi_gt (nI_Z _) (nI_Z _) (by omega) (by omega) (by omega) (by omega)).mpr hh)
      omega
  | succ d ih =>
    intro k hk hr
    have b1 := bc k
    have b2 := bu k
    refine vs_iload_n 2 dX10_agrees_20 rfl rfl 0 rfl ?_
    refine vs_aload_n 0 dX10_agrees_21 rfl rfl 1 rfl ?_
    refine vs_get (v := .ref (G.2.2.2 + 124)) lf_X10_26 rfl rfl dX10_agrees_22 rfl ?_
    refine vs_iload_n 1 dX10_agrees_25 rfl rfl 2 rfl ?_
    refine vs_iald (k := f) rfl rfl (by omega) rfl dX10_agrees_26 rfl ?_
    refine vs_topi (fun z1 e_z1 => ?_)
    have f_z1 : z1 = nI la := (by rw [e_z1]; exact hla)
    subst f_z1
    clear e_z1
    refine vs_icmp_gt 51 dX10_agrees_27 rfl rfl (fun c_27 => ?_) (fun c_27 => ?_)
    · have q_27 : ((k : Nat) : Int) > ((la : Nat) : Int) := (qi_gt (nI_Z _) (nI_Z _) (by omega) (by omega) (by omega) (by omega)).mp c_27
      omega
    · have q_27 : ¬ ((k : Nat) : Int) > ((la : Nat) : Int) := fun hh => c_27 ((qi_gt (nI_Z _) (nI_Z _) (by omega) (by omega) (by omega) (by omega)).mpr hh)
      refine vs_aload_n 0 dX10_agrees_30 rfl rfl 1 rfl ?_
      refine vs_get (v := .ref (G.2.2.2 + 136)) lf_X10_62 rfl rfl dX10_agrees_31 rfl ?_
      refine vs_iload_n 2 dX10_agrees_34 rfl rfl 0 rfl ?_
      refine vs_iald (k := k) rfl rfl (by omega) rfl dX10_agrees_35 rfl ?_
      refine vs_topi (fun z2 e_z2 => ?_)
      have f_z2 : z2 = nI (u k) := (by rw [e_z2]; exact hu k (by omega))
      subst f_z2
      clear e_z2
      refine vs_aload_n 0 dX10_agrees_36 rfl rfl 1 rfl ?_
      refine vs_iload_n 1 dX10_agrees_37 rfl rfl 2 rfl ?_
      refine vs_iload_n 2 dX10_agrees_38 rfl rfl 0 rfl ?_
      refine vs_callV (st := [.int (nI (u k))]) (c_mof (f := f) (k := k) (v := c k) hf (by omega) (hc k (by omega))) lk_X10_161 lm_X10_of rfl rfl rfl rfl (Nat.le_of_ble_eq_true rfl) rfl ⟨rfl, rfl⟩ dX10_agrees_39 rfl ?_
      show vs_V _ _ _ _ _ (.int (nI (c k)) :: _) _
      refine vs_icmp_ne 51 dX10_agrees_42 rfl rfl (fun c_42 => ?_) (fun c_42 => ?_)
      · have q_42 : ¬ (((u k) : Nat) : Int) = (((c k) : Nat) : Int) := fun hh => c_42 ((qi_eq (nI_Z _) (nI_Z _) (by omega) (by omega) (by omega) (by omega)).mpr hh)
        rw [show agr u c (d + 1) k = k from if_neg (by omega)] at hr
        refine vs_iload_n 2 dX10_agrees_51 rfl rfl 0 rfl ?_
        exact vs_iretP dX10_agrees_52 hr
      · have q_42 : (((u k) : Nat) : Int) = (((c k) : Nat) : Int) := (qi_eq (nI_Z _) (nI_Z _) (by omega) (by omega) (by omega) (by omega)).mp c_42
        rw [show agr u c (d + 1) k = agr u c d (k + 1) from if_pos (by omega)] at hr
        refine vs_iinc (v := nI (k + 1)) [(2, .int (nI (k + 1))), (0, .ref (G.2.2.2 + 118)), (1, .int (nI f))] dX10_agrees_45 rfl 0 rfl (by first | exact nI_1 _ | (simp only [fa_lit, nI_add, pk_mul, nI_1]; rfl)) rfl rfl ?_
        refine vs_goto 20 dX10_agrees_48 rfl ?_
        refine vs_pick [0, 1, 2] rfl ?_
        exact ih (k + 1) (by omega) hr

theorem c_agrees {G : vv_G} {S : vs_S} {f la : Nat} (hf : f < 10) (hla2 : la ≤ 40) {c p q : Nat → Nat} {P : Nat} (hP1 : 2 ≤ P) (hP2 : P ≤ 30011) (bc : ∀ k, c k < P) (hla : S.2.1 124 f = nI la) (hc : ∀ k, k ≤ la → S.2.1 125 (41 * f + k) = nI (c k)) (hP : S.1 118 2 = nI P) (hp : aR S 132 46 p) (hq : aR S 133 46 q) (bp : ∀ k, p k < P) (bq : ∀ k, q k < P) (zp : ∀ k, 42 ≤ k → p k = 0) (zq : ∀ k, 42 ≤ k → q k = 0) : vs_CP G yX10_agrees cX10_agrees 3 (some .int) { frames := 3, locals := 73 } [.ref (G.2.2.2 + 118), .int (nI f)] S (fun r S2 => r = some (.int (nI (agr (ufk p q (ipw (q 0) P) P (la + 1)) c (la + 1) 0))) ∧ vs_fx S S2 [127, 128, 136] [] []) := by
  refine vs_ofP [(0, .ref (G.2.2.2 + 118)), (1, .int (nI f))] (by decide) rfl rfl ?_
  refine vs_aload_n 0 dX10_agrees_0 rfl rfl 0 rfl ?_
  refine vs_callVP (st := []) (c_loadResult hp hq zp zq) lk_X10_152 lm_X10_loadResult rfl rfl rfl rfl (Nat.le_of_ble_eq_true rfl) rfl ⟨rfl, rfl⟩ dX10_agrees_1 rfl (fun rr S1 hh => ?_)
  obtain ⟨rfl, F, A1, A2⟩ := hh
  show vs_V _ _ _ _ _ [] _
  refine vs_aload_n 0 dX10_agrees_4 rfl rfl 0 rfl ?_
  refine vs_aload_n 0 dX10_agrees_5 rfl rfl 0 rfl ?_
  refine vs_get (v := .ref (G.2.2.2 + 136)) lf_X10_62 rfl rfl dX10_agrees_6 rfl ?_
  refine vs_aload_n 0 dX10_agrees_9 rfl rfl 0 rfl ?_
  refine vs_get (v := .ref (G.2.2.2 + 124)) lf_X10_26 rfl rfl dX10_agrees_10 rfl ?_
  refine vs_iload_n 1 dX10_agrees_13 rfl rfl 1 rfl ?_
  refine vs_iald (k := f) rfl rfl (by omega) rfl dX10_agrees_14 rfl ?_
  refine vs_topi (fun z1 e_z1 => ?_)
  have f_z1 : z1 = nI la := (by rw [e_z1, F.1 124 (by simp)]; exact hla)
  subst f_z1
  clear e_z1
  refine vs_callVP (st := []) (c_unfoldTo (o := 136) (by omega) rfl hP1 hP2 bp bq (n := la) (by omega) ((F.2.1 _ _ (by simp)).trans hP) A1 A2) lk_X10_148 lm_X10_unfoldTo rfl rfl rfl rfl (Nat.le_of_ble_eq_true rfl) rfl ⟨rfl, rfl⟩ dX10_agrees_15 rfl (fun rr S2 hh => ?_)
  obtain ⟨rfl, F2, A3⟩ := hh
  show vs_V _ _ _ _ _ [] _
  refine vs_iconst (v := 0) dX10_agrees_18 rfl rfl ?_
  refine vs_istore_n 2 [(2, .int (0)), (0, .ref (G.2.2.2 + 118)), (1, .int (nI f))] dX10_agrees_19 rfl rfl rfl rfl ?_
  refine vs_pick (L2 := [(2, .int (nI 0)), (0, .ref (G.2.2.2 + 118)), (1, .int (nI f))]) [0, 1, 2] rfl ?_
  have F3 : vs_fx S S2 [127, 128, 136] [] [] := vs_fx.tr (vs_fx.tr vs_fx.rf F (by simp) (by simp) (by simp)) F2 (by simp) (by simp) (by simp)
  exact l_magrees (S := S2) hf hla2 hP2 bc (ufk_b (by omega) _) (by rw [F3.1 124 (by simp)]; exact hla) (by rw [F3.1 125 (by simp)]; exact hc) A3 (la + 1) 0 (by omega) ⟨rfl, F3⟩

