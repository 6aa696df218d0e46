def mnN (x y : Nat) : Nat := if y < x then y else x
theorem mnN_le (x y : Nat) : mnN x y ≤ x ∧ mnN x y ≤ y := by
  unfold mnN
  by_cases h : y < x
  · rw [if_pos h]; omega
  · rw [if_neg h]; omega
theorem mnN_I {x y : Nat} (hx : x < 2147483648) (hy : y < 2147483648) : (if nI y < nI x then nI y else nI x) = nI (mnN x y) := by
  unfold mnN
  by_cases h : y < x
  · rw [if_pos h, if_pos ((nI_ltI hy hx).mpr h)]
  · rw [if_neg h, if_neg (fun z => h ((nI_ltI hy hx).mp z))]
def plF (P : Nat) (cf cg : Nat → Nat) (b : Nat) : Nat → Nat := fun k => (cf k + b * cg k) % P
def tmF (P : Nat) (cf cg : Nat → Nat) : Nat → Nat := fun k => fsm cf cg k (k + 1) % P
def mvk (P : Nat) (c : Nat → Nat) (b k i : Nat) : Nat → Nat := fun j => if k ≤ j ∧ j < k + i then b ^ (j - k) % P * c (j - k) % P else 0
theorem mvk_s {P : Nat} {c : Nat → Nat} {b k i : Nat} : nu (mvk P c b k i) (i + k) (b ^ i % P * c i % P) = mvk P c b k (i + 1) := by
  funext j
  unfold nu mvk
  by_cases h : j = i + k
  · rw [if_pos h, if_pos (by omega), h, show i + k - k = i by omega]
  · rw [if_neg h]
    by_cases h2 : k ≤ j ∧ j < k + i
    · rw [if_pos h2, if_pos (by omega)]
    · rw [if_neg h2, if_neg (by omega)]
theorem mvk_0 {P : Nat} {c : Nat → Nat} {b k : Nat} : mvk P c b k 0 = pcon 0 := by
  funext j
  unfold mvk pcon
  rw [if_neg (by omega)]
  by_cases h : j = 0 <;> simp [h]
theorem mvk_z {P : Nat} {c : Nat → Nat} {b k i : Nat} (h : k + i ≤ 42) : ∀ j, 42 ≤ j → mvk P c b k i j = 0 := fun j hj => if_neg (by omega)
def sp_plus (a : aS) (f g b : Int) : Int × aS := if ¬ (0 ≤ f ∧ f < aN a) ∨ ¬ (0 ≤ g ∧ g < aN a) then (-101, a) else sp_kp a (mnN (aLa a f.toNat) (aLa a g.toNat)) (cut (plF (aP a) (aC a f.toNat) (aC a g.toNat) (nn_m b (aP a))) (mnN (aLa a f.toNat) (aLa a g.toNat) + 1))
def sp_times (a : aS) (f g : Int) : Int × aS := if ¬ (0 ≤ f ∧ f < aN a) ∨ ¬ (0 ≤ g ∧ g < aN a) then (-101, a) else sp_kp a (mnN (aLa a f.toNat) (aLa a g.toNat)) (cut (tmF (aP a) (aC a f.toNat) (aC a g.toNat)) (mnN (aLa a f.toNat) (aLa a g.toNat) + 1))
def sp_under (a : aS) (f : Int) : Int × aS := if ¬ (0 ≤ f ∧ f < aN a) then (-101, a) else sp_ku a (pcon 1) (aC a f.toNat) (aLa a f.toNat)
def sp_moved (a : aS) (f x k : Int) : Int × aS := if ¬ (0 ≤ f ∧ f < aN a) then (-101, a) else if ¬ (0 ≤ k ∧ k ≤ 40) then (-102, a) else sp_kp a (aLa a f.toNat) (mvk (aP a) (aC a f.toNat) (nn_m x (aP a)) k.toNat (aLa a f.toNat + 1 - k.toNat))
def sp_number (a : aS) (f k : Int) : Int × aS := if ¬ (0 ≤ f ∧ f < aN a) then (-101, a) else if ¬ (0 ≤ k ∧ k ≤ aLa a f.toNat) then (-1, a) else ((aC a f.toNat k.toNat : Int), a)
def sp_length (a : aS) (f : Int) : Int × aS := if ¬ (0 ≤ f ∧ f < aN a) then (-101, a) else ((aLa a f.toNat : Int), a)
def sp_clear (a : aS) : Int × aS := ((aN a : Int), s_cl a)
theorem l_plus {G : vv_G} {S : vs_S} {N : Nat} (hN : N < 10) {f g : Nat} (hfN : f < N) (hgN : g < N) {cf cg : Nat → Nat} (hf2 : pR S (88 + 3 * f + 1) cf) (hg2 : pR S (88 + 3 * g + 1) cg) {P n : Nat} (cP : S.1 1 0 = nI P) (gP1 : 2 ≤ P) (gP2 : P ≤ 30011) (bf : ∀ k, cf k < P) (bg : ∀ k, cg k < P) (hlast : S.1 (88 + 3 * N) 1 = nI n) (hn : n ≤ 40) {Pst : Option Value → vs_S → Prop} {b : Nat} (hb : b < P) (K : vs_V G cX9_plus (vs_MP yX9_plus 11 (some .int) { frames := 3, locals := 66 } G Pst) 132 [(0, .ref (G.2.2.2 + 0))] [] (vs_ia S (88 + 3 * N + 1 + 1) (nA (cut (plF P cf cg b) (n + 1))))) : ∀ d k : Nat, k + d = n + 1 → vs_V G cX9_plus (vs_MP yX9_plus 11 (some .int) { frames := 3, locals := 66 } G Pst) 68 [(8, .int (nI k)), (7, .int (nI b)), (6, .ref (G.2.2.2 + (88 + 3 * N))), (5, .ref (G.2.2.2 + (88 + 3 * g))), (4, .ref (G.2.2.2 + (88 + 3 * f))), (0, .ref (G.2.2.2 + 0))] [] (vs_ia S (88 + 3 * N + 1 + 1) (nA (cut (plF P cf cg b) k))) := by
  intro d
  induction d with
  | zero =>
    intro k hk
    obtain rfl : k = n + 1 := by omega
    refine vs_iload dX9_plus_68 rfl 0 rfl ?_
    refine vs_aload dX9_plus_70 rfl 2 rfl ?_
    refine vs_get (v := .int (nI n)) lf_X9_173 (vs_Se_k hN).1 (congrArg (fun z => some (Value.int z)) hlast) dX9_plus_72 rfl ?_
    refine vs_icmp_gt 132 dX9_plus_75 rfl rfl (fun c_75 => ?_) (fun c_75 => ?_)
    · have q_75 : (((n + 1) : Nat) : Int) > ((n : Nat) : Int) := (qi_gt (nI_Z _) (nI_Z _) (by omega) (by omega) (by omega) (by omega)).mp c_75
      refine vs_pick [5] rfl ?_
      exact K
    · have q_75 : ¬ (((n + 1) : Nat) : Int) > ((n : Nat) : Int) := fun hh => c_75 ((qi_gt (nI_Z _) (nI_Z _) (by omega) (by omega) (by omega) (by omega)).mpr hh)
      omega
  | succ d ih =>
    intro k hk
    have p1 : pR (vs_ia S (88 + 3 * N + 1 + 1) (nA (cut (plF P cf cg b) k))) (88 + 3 * f + 1) cf := ⟨(vs_ia_ne (by omega)).trans hf2.1, hf2.2⟩
    have p2 : pR (vs_ia S (88 + 3 * N + 1 + 1) (nA (cut (plF P cf cg b) k))) (88 + 3 * g + 1) cg := ⟨(vs_ia_ne (by omega)).trans hg2.1, hg2.2⟩
    have p3 : pR (vs_ia S (88 + 3 * N + 1 + 1) (nA (cut (plF P cf cg b) k))) (88 + 3 * N + 1) (cut (plF P cf cg b) k) := ⟨vs_ia_at, cut_z (by omega)⟩
    have b1 := bf k
    have b2 := bg k
    refine vs_iload dX9_plus_68 rfl 0 rfl ?_
    refine vs_aload dX9_plus_70 rfl 2 rfl ?_
    refine vs_get (v := .int (nI n)) lf_X9_173 (vs_Se_k hN).1 (congrArg (fun z => some (Value.int z)) hlast) dX9_plus_72 rfl ?_
    refine vs_icmp_gt 132 dX9_plus_75 rfl rfl (fun c_75 => ?_) (fun c_75 => ?_)
    · have q_75 : ((k : Nat) : Int) > ((n : Nat) : Int) := (qi_gt (nI_Z _) (nI_Z _) (by omega) (by omega) (by omega) (by omega)).mp c_75
      omega
    · have q_75 : ¬ ((k : Nat) : Int) > ((n : Nat) : Int) := fun hh => c_75 ((qi_gt (nI_Z _) (nI_Z _) (by omega) (by omega) (by omega) (by omega)).mpr hh)
      refine vs_aload dX9_plus_78 rfl 4 rfl ?_
      refine vs_get (v := .ref (G.2.2.2 + (88 + 3 * f + 1))) lf_X9_149 (vs_Se_k (show f < 10 by omega)).1 rfl dX9_plus_80 rfl ?_
      refine vs_iload dX9_plus_83 rfl 0 rfl ?_
      refine vs_callV (st := []) (c_atN (vs_Se_k (show f < 10 by omega)).2 p1 (k := k) (by omega)) lk_X9_186 lm_X3_at rfl (vs_Se_k (show f < 10 by omega)).2.1 rfl rfl (Nat.le_of_ble_eq_true rfl) rfl ⟨rfl, rfl⟩ dX9_plus_85 rfl ?_
      show vs_V _ _ _ _ _ (.int (nI (cf k)) :: _) _
      refine vs_i2l dX9_plus_88 rfl ?_
      refine vs_iload dX9_plus_89 rfl 1 rfl ?_
      refine vs_i2l dX9_plus_91 rfl ?_
      refine vs_aload dX9_plus_92 rfl 3 rfl ?_
      refine vs_get (v := .ref (G.2.2.2 + (88 + 3 * g + 1))) lf_X9_149 (vs_Se_k (show g < 10 by omega)).1 rfl dX9_plus_94 rfl ?_
      refine vs_iload dX9_plus_97 rfl 0 rfl ?_
      refine vs_callV (st := [.long ((nI b).toInt64), .long ((nI (cf k)).toInt64)]) (c_atN (vs_Se_k (show g < 10 by omega)).2 p2 (k := k) (by omega)) lk_X9_186 lm_X3_at rfl (vs_Se_k (show g < 10 by omega)).2.1 rfl rfl (Nat.le_of_ble_eq_true rfl) rfl ⟨rfl, rfl⟩ dX9_plus_99 rfl ?_
      show vs_V _ _ _ _ _ (.int (nI (cg k)) :: _) _
      refine vs_i2l dX9_plus_102 rfl ?_
      refine vs_lmul dX9_plus_103 rfl ?_
      refine vs_ladd dX9_plus_104 rfl ?_
      refine vs_topl (fun sm e_sm => ?_)
      refine vs_lstore [(9, .long (sm)), (8, .int (nI k)), (7, .int (nI b)), (6, .ref (G.2.2.2 + (88 + 3 * N))), (5, .ref (G.2.2.2 + (88 + 3 * g))), (4, .ref (G.2.2.2 + (88 + 3 * f))), (0, .ref (G.2.2.2 + 0))] dX9_plus_105 rfl rfl rfl ?_
      refine vs_aload dX9_plus_107 rfl 3 rfl ?_
      refine vs_get (v := .ref (G.2.2.2 + (88 + 3 * N + 1))) lf_X9_149 (vs_Se_k hN).1 rfl dX9_plus_109 rfl ?_
      refine vs_iload dX9_plus_112 rfl 1 rfl ?_
      refine vs_aload_n 0 dX9_plus_114 rfl rfl 6 rfl ?_
      refine vs_get (v := .ref (G.2.2.2 + 1)) lf_X9_12 rfl rfl dX9_plus_115 rfl ?_
      refine vs_lload dX9_plus_118 rfl 0 rfl ?_
      refine vs_callV (st := [.int (nI k), .ref (G.2.2.2 + (88 + 3 * N + 1))]) (c_ofN (k := cf k + b * cg k) (by rw [e_sm]; exact nn_mad2 (by omega) (by omega) (by omega)) cP gP1 gP2) lk_X9_182 lm_X5_of rfl rfl rfl rfl (Nat.le_of_ble_eq_true rfl) rfl ⟨rfl, rfl⟩ dX9_plus_120 rfl ?_
      show vs_V _ _ _ _ _ (.int (nI (plF P cf cg b k)) :: _) _
      refine vs_callV (st := []) (c_setN (vs_Se_k hN).2 p3 (k := k) (by omega)) lk_X9_189 lm_X3_set rfl (vs_Se_k hN).2.1 rfl rfl (Nat.le_of_ble_eq_true rfl) rfl ⟨rfl, rfl⟩ dX9_plus_123 rfl ?_
      refine vs_eq (S2 := (vs_ia S (88 + 3 * N + 1 + 1) (nA (cut (plF P cf cg b) (k + 1))))) (by rw [vs_ia_ia, cut_s]) ?_
      refine vs_iinc (v := nI (k + 1)) [(8, .int (nI (k + 1))), (9, .long (sm)), (7, .int (nI b)), (6, .ref (G.2.2.2 + (88 + 3 * N))), (5, .ref (G.2.2.2 + (88 + 3 * g))), (4, .ref (G.2.2.2 + (88 + 3 * f))), (0, .ref (G.2.2.2 + 0))] dX9_plus_126 rfl 1 rfl (by first | exact nI_1 _ | (simp only [fa_lit, nI_add, pk_mul, nI_1]; rfl)) rfl rfl ?_
      refine vs_goto 68 dX9_plus_129 rfl ?_
      refine vs_pick [0, 2, 3, 4, 5, 6] rfl ?_
      exact ih (k + 1) (by omega)

theorem k_plus {G : vv_G} {S : vs_S} {a : aS} (hC : CSt S a) (hG : aG a) {f : Int} (hf1 : -2147483648 ≤ f) (hf2 : f < 2147483648) {g : Int} (hg1 : -2147483648 ≤ g) (hg2 : g < 2147483648) {b : Int} (hb1 : -2147483648 ≤ b) (hb2 : b < 2147483648) : vs_CP G yX9_plus cX9_plus 11 (some .int) { frames := 3, locals := 66 } [.ref (G.2.2.2 + 0), .int (nZ f), .int (nZ g), .int (nZ b)] S (fun r S2 => r = some (.int (nZ (sp_plus a f g b).1)) ∧ CSt S2 (sp_plus a f g b).2 ∧ frC S S2) := by
  refine vs_ofP [(0, .ref (G.2.2.2 + 0)), (1, .int (nZ f)), (2, .int (nZ g)), (3, .int (nZ b))] (by decide) rfl rfl ?_
  obtain ⟨⟨cP, cN, cH⟩, ⟨cX, cY⟩, ⟨cA, cB⟩, cSe, cJs, cSh, ⟨cK0, cK⟩, ⟨cR1, cR2, cD⟩, cJ0⟩ := id hC
  obtain ⟨gP, gP2, gN, gH, gSe, gSh, gXY, gB31, gInj, gA, gB, gAz, gBz⟩ := hG
  have gP1 := gP.1
  have F : vs_fx S S [88 + 3 * aN a + 1 + 1] [(0, 3), (88 + 3 * aN a, 1)] [] := vs_fx.rf
  by_cases hfs : 0 ≤ f ∧ f < aN a
  · obtain ⟨f, rfl⟩ : ∃ z0 : Nat, f = z0 := ⟨f.toNat, by omega⟩
    rw [nZ_n f]
    have hf : f < 10 := by omega
    have hfN : f < aN a := by omega
    obtain ⟨f1, f2⟩ := cSe f hfN
    obtain ⟨f3, f4⟩ := gSe f hfN
    refine vs_aload_n 0 dX9_plus_0 rfl rfl 0 rfl ?_
    refine vs_iload_n 1 dX9_plus_1 rfl rfl 1 rfl ?_
    refine vs_callV (st := []) (c_seriesNo cN gN hfN (cR2 f hf)) lk_X9_170 lm_X9_seriesNumbered rfl rfl rfl rfl (Nat.le_of_ble_eq_true rfl) rfl ⟨rfl, rfl⟩ dX9_plus_2 rfl ?_
    show vs_V _ _ _ _ _ (.ref (G.2.2.2 + (88 + 3 * f)) :: _) _
    refine vs_astore [(4, .ref (G.2.2.2 + (88 + 3 * f))), (0, .ref (G.2.2.2 + 0)), (1, .int (nI f)), (2, .int (nZ g)), (3, .int (nZ b))] dX9_plus_5 rfl rfl rfl ?_
    by_cases hgs : 0 ≤ g ∧ g < aN a
    · obtain ⟨g, rfl⟩ : ∃ z0 : Nat, g = z0 := ⟨g.toNat, by omega⟩
      rw [nZ_n g]
      have hg : g < 10 := by omega
      have hgN : g < aN a := by omega
      obtain ⟨g1, g2⟩ := cSe g hgN
      obtain ⟨g3, g4⟩ := gSe g hgN
      refine vs_aload_n 0 dX9_plus_7 rfl rfl 1 rfl ?_
      refine vs_iload_n 2 dX9_plus_8 rfl rfl 3 rfl ?_
      refine vs_callV (st := []) (c_seriesNo cN gN hgN (cR2 g hg)) lk_X9_170 lm_X9_seriesNumbered rfl rfl rfl rfl (Nat.le_of_ble_eq_true rfl) rfl ⟨rfl, rfl⟩ dX9_plus_9 rfl ?_
      show vs_V _ _ _ _ _ (.ref (G.2.2.2 + (88 + 3 * g)) :: _) _
      refine vs_astore [(5, .ref (G.2.2.2 + (88 + 3 * g))), (4, .ref (G.2.2.2 + (88 + 3 * f))), (0, .ref (G.2.2.2 + 0)), (1, .int (nI f)), (2, .int (nI g)), (3, .int (nZ b))] dX9_plus_12 rfl rfl rfl ?_
      refine vs_aload dX9_plus_14 rfl 1 rfl ?_
      refine vs_ifnull dX9_plus_16 rfl ?_
      refine vs_aload dX9_plus_19 rfl 0 rfl ?_
      refine vs_ifnonnull 27 dX9_plus_21 rfl ?_
      by_cases hN : aN a < 10
      · obtain ⟨gn, hgn⟩ := cJs (aN a) hN
        obtain ⟨hm1, hm2⟩ := mnN_le (aLa a f) (aLa a g)
        refine vs_aload_n 0 dX9_plus_27 rfl rfl 2 rfl ?_
        refine vs_aload dX9_plus_28 rfl 1 rfl ?_
        refine vs_get (v := .int (nI (aLa a f))) lf_X9_173 (vs_Se_k hf).1 (congrArg (fun z => some (Value.int z)) f1) dX9_plus_30 rfl ?_
        refine vs_aload dX9_plus_33 rfl 0 rfl ?_
        refine vs_get (v := .int (nI (aLa a g))) lf_X9_173 (vs_Se_k hg).1 (congrArg (fun z => some (Value.int z)) g1) dX9_plus_35 rfl ?_
        refine vs_min (st := [.ref (G.2.2.2 + 0)]) vc_mk_X9_176 rfl rfl dX9_plus_38 rfl ?_
        refine vs_topi (fun z1 e_z1 => ?_)
        have f_z1 : z1 = nI (mnN (aLa a f) (aLa a g)) := (by rw [e_z1]; exact mnN_I (by omega) (by omega))
        subst f_z1
        clear e_z1
        refine vs_callV (st := []) (c_fresh cN hN (cR2 (aN a) hN) hgn) lk_X9_145 lm_X9_freshSeries rfl rfl rfl rfl (Nat.le_of_ble_eq_true rfl) rfl ⟨rfl, rfl⟩ dX9_plus_41 rfl ?_
        show vs_V _ _ _ _ _ (.ref (G.2.2.2 + (88 + 3 * aN a)) :: _) _
        refine vs_gen (fun T1 e_T1 => ?_)
        have cP : T1.1 1 0 = nI (aP a) := by rw [e_T1]; repeat (first | exact cP | rw [vs_ia_ne (by omega)] | rw [vs_ia_1] | rw [vs_sc_ne (by omega)] | rw [vs_sc_nf (by omega)])
        have cN : T1.1 0 3 = nI (aN a) := by rw [e_T1]; repeat (first | exact cN | rw [vs_ia_ne (by omega)] | rw [vs_ia_1] | rw [vs_sc_ne (by omega)] | rw [vs_sc_nf (by omega)])
        have F : vs_fx S T1 [88 + 3 * aN a + 1 + 1] [(0, 3), (88 + 3 * aN a, 1)] [] := by rw [e_T1]; repeat (first | exact F | refine vs_fx.ia ?_ (by simp <;> omega) | refine vs_fx.sc ?_ (by simp <;> omega) | refine vs_fx.la ?_ (by simp <;> omega))
        have f1 : T1.1 (88 + 3 * f) 1 = nI (aLa a f) := by rw [e_T1]; repeat (first | exact f1 | rw [vs_ia_ne (by omega)] | rw [vs_ia_1] | rw [vs_sc_ne (by omega)] | rw [vs_sc_nf (by omega)])
        have f2 : pR T1 (88 + 3 * f + 1) (aC a f) := ⟨by rw [e_T1]; repeat (first | exact f2.1 | rw [vs_ia_ne (by omega)]), f2.2⟩
        have g1 : T1.1 (88 + 3 * g) 1 = nI (aLa a g) := by rw [e_T1]; repeat (first | exact g1 | rw [vs_ia_ne (by omega)] | rw [vs_ia_1] | rw [vs_sc_ne (by omega)] | rw [vs_sc_nf (by omega)])
        have g2 : pR T1 (88 + 3 * g + 1) (aC a g) := ⟨by rw [e_T1]; repeat (first | exact g2.1 | rw [vs_ia_ne (by omega)]), g2.2⟩
        have hnum : pR T1 (88 + 3 * aN a + 1) (pcon 0) := ⟨by rw [e_T1]; repeat (first | exact vs_ia_at | rw [vs_ia_ne (by omega)]), (pcon_z 0)⟩
        have hlast : T1.1 (88 + 3 * aN a) 1 = nI (mnN (aLa a f) (aLa a g)) := by rw [e_T1]; repeat (first | exact vs_ia_at | exact vs_sc_at | rw [vs_ia_ne (by omega)] | rw [vs_ia_1] | rw [vs_sc_ne (by omega)] | rw [vs_sc_nf (by omega)])
        clear e_T1
        refine vs_astore [(6, .ref (G.2.2.2 + (88 + 3 * aN a))), (5, .ref (G.2.2.2 + (88 + 3 * g))), (4, .ref (G.2.2.2 + (88 + 3 * f))), (0, .ref (G.2.2.2 + 0)), (1, .int (nI f)), (2, .int (nI g)), (3, .int (nZ b))] dX9_plus_44 rfl rfl rfl ?_
        refine vs_aload dX9_plus_46 rfl 0 rfl ?_
        refine vs_ifnonnull 54 dX9_plus_48 rfl ?_
        refine vs_aload_n 0 dX9_plus_54 rfl rfl 3 rfl ?_
        refine vs_get (v := .ref (G.2.2.2 + 1)) lf_X9_12 rfl rfl dX9_plus_55 rfl ?_
        refine vs_iload_n 3 dX9_plus_58 rfl rfl 6 rfl ?_
        refine vs_i2l dX9_plus_59 rfl ?_
        refine vs_callV (st := []) (c_ofZ (z := b) (by rw [nn_i2l, nZ_i hb1 hb2]) cP gP1 gP2) lk_X9_182 lm_X5_of rfl rfl rfl rfl (Nat.le_of_ble_eq_true rfl) rfl ⟨rfl, rfl⟩ dX9_plus_60 rfl ?_
        show vs_V _ _ _ _ _ (.int (nI (nn_m b (aP a))) :: _) _
        refine vs_istore [(7, .int (nI (nn_m b (aP a)))), (6, .ref (G.2.2.2 + (88 + 3 * aN a))), (5, .ref (G.2.2.2 + (88 + 3 * g))), (4, .ref (G.2.2.2 + (88 + 3 * f))), (0, .ref (G.2.2.2 + 0)), (1, .int (nI f)), (2, .int (nI g)), (3, .int (nZ b))] dX9_plus_63 rfl rfl rfl ?_
        refine vs_iconst (v := 0) dX9_plus_65 rfl rfl ?_
        refine vs_istore [(8, .int (0)), (7, .int (nI (nn_m b (aP a)))), (6, .ref (G.2.2.2 + (88 + 3 * aN a))), (5, .ref (G.2.2.2 + (88 + 3 * g))), (4, .ref (G.2.2.2 + (88 + 3 * f))), (0, .ref (G.2.2.2 + 0)), (1, .int (nI f)), (2, .int (nI g)), (3, .int (nZ b))] dX9_plus_66 rfl rfl rfl ?_
        refine vs_pick (L2 := [(8, .int (nI 0)), (7, .int (nI (nn_m b (aP a)))), (6, .ref (G.2.2.2 + (88 + 3 * aN a))), (5, .ref (G.2.2.2 + (88 + 3 * g))), (4, .ref (G.2.2.2 + (88 + 3 * f))), (0, .ref (G.2.2.2 + 0))]) [0, 1, 2, 3, 4, 5] rfl ?_
        refine vs_eq (S2 := vs_ia T1 (88 + 3 * aN a + 1 + 1) (nA (cut (plF (aP a) (aC a f) (aC a g) (nn_m b (aP a))) 0))) (by rw [cut_0]; exact vs_ia_same hnum.1) ?_
        refine l_plus hN hfN hgN f2 g2 cP gP1 gP2 f4 g4 hlast (show mnN (aLa a f) (aLa a g) ≤ 40 by omega) (nn_m_lt (by omega)) ?_ (mnN (aLa a f) (aLa a g) + 1) 0 (by omega)
        refine vs_gen (fun T2 e_T2 => ?_)
        have cP : T2.1 1 0 = nI (aP a) := by rw [e_T2]; repeat (first | exact cP | rw [vs_ia_ne (by omega)] | rw [vs_ia_1] | rw [vs_sc_ne (by omega)] | rw [vs_sc_nf (by omega)])
        have cN : T2.1 0 3 = nI (aN a) := by rw [e_T2]; repeat (first | exact cN | rw [vs_ia_ne (by omega)] | rw [vs_ia_1] | rw [vs_sc_ne (by omega)] | rw [vs_sc_nf (by omega)])
        have F : vs_fx S T2 [88 + 3 * aN a + 1 + 1] [(0, 3), (88 + 3 * aN a, 1)] [] := by rw [e_T2]; repeat (first | exact F | refine vs_fx.ia ?_ (by simp <;> omega) | refine vs_fx.sc ?_ (by simp <;> omega) | refine vs_fx.la ?_ (by simp <;> omega))
        have f1 : T2.1 (88 + 3 * f) 1 = nI (aLa a f) := by rw [e_T2]; repeat (first | exact f1 | rw [vs_ia_ne (by omega)] | rw [vs_ia_1] | rw [vs_sc_ne (by omega)] | rw [vs_sc_nf (by omega)])
        have f2 : pR T2 (88 + 3 * f + 1) (aC a f) := ⟨by rw [e_T2]; repeat (first | exact f2.1 | rw [vs_ia_ne (by omega)]), f2.2⟩
        have g1 : T2.1 (88 + 3 * g) 1 = nI (aLa a g) := by rw [e_T2]; repeat (first | exact g1 | rw [vs_ia_ne (by omega)] | rw [vs_ia_1] | rw [vs_sc_ne (by omega)] | rw [vs_sc_nf (by omega)])
        have g2 : pR T2 (88 + 3 * g + 1) (aC a g) := ⟨by rw [e_T2]; repeat (first | exact g2.1 | rw [vs_ia_ne (by omega)]), g2.2⟩
        have hlast : T2.1 (88 + 3 * aN a) 1 = nI (mnN (aLa a f) (aLa a g)) := by rw [e_T2]; repeat (first | exact hlast | rw [vs_ia_ne (by omega)] | rw [vs_ia_1] | rw [vs_sc_ne (by omega)] | rw [vs_sc_nf (by omega)])
        have hnum : pR T2 (88 + 3 * aN a + 1) (cut (plF (aP a) (aC a f) (aC a g) (nn_m b (aP a))) (mnN (aLa a f) (aLa a g) + 1)) := ⟨by rw [e_T2]; repeat (first | exact vs_ia_at | rw [vs_ia_ne (by omega)]), (cut_z (by omega))⟩
        clear e_T2
        refine vs_aload_n 0 dX9_plus_132 rfl rfl 0 rfl ?_
        refine vs_callV (st := []) (c_keepFresh cN (by omega)) lk_X9_156 lm_X9_keepFresh rfl rfl rfl rfl (Nat.le_of_ble_eq_true rfl) rfl ⟨rfl, rfl⟩ dX9_plus_133 rfl ?_
        show vs_V _ _ _ _ _ (.int (nI (aN a)) :: _) _
        refine vs_gen (fun T3 e_T3 => ?_)
        have cP : T3.1 1 0 = nI (aP a) := by rw [e_T3]; repeat (first | exact cP | rw [vs_ia_ne (by omega)] | rw [vs_ia_1] | rw [vs_sc_ne (by omega)] | rw [vs_sc_nf (by omega)])
        have F : vs_fx S T3 [88 + 3 * aN a + 1 + 1] [(0, 3), (88 + 3 * aN a, 1)] [] := by rw [e_T3]; repeat (first | exact F | refine vs_fx.ia ?_ (by simp <;> omega) | refine vs_fx.sc ?_ (by simp <;> omega) | refine vs_fx.la ?_ (by simp <;> omega))
        have f1 : T3.1 (88 + 3 * f) 1 = nI (aLa a f) := by rw [e_T3]; repeat (first | exact f1 | rw [vs_ia_ne (by omega)] | rw [vs_ia_1] | rw [vs_sc_ne (by omega)] | rw [vs_sc_nf (by omega)])
        have f2 : pR T3 (88 + 3 * f + 1) (aC a f) := ⟨by rw [e_T3]; repeat (first | exact f2.1 | rw [vs_ia_ne (by omega)]), f2.2⟩
        have g1 : T3.1 (88 + 3 * g) 1 = nI (aLa a g) := by rw [e_T3]; repeat (first | exact g1 | rw [vs_ia_ne (by omega)] | rw [vs_ia_1] | rw [vs_sc_ne (by omega)] | rw [vs_sc_nf (by omega)])
        have g2 : pR T3 (88 + 3 * g + 1) (aC a g) := ⟨by rw [e_T3]; repeat (first | exact g2.1 | rw [vs_ia_ne (by omega)]), g2.2⟩
        have hnum : pR T3 (88 + 3 * aN a + 1) (cut (plF (aP a) (aC a f) (aC a g) (nn_m b (aP a))) (mnN (aLa a f) (aLa a g) + 1)) := ⟨by rw [e_T3]; repeat (first | exact hnum.1 | rw [vs_ia_ne (by omega)]), hnum.2⟩
        have hlast : T3.1 (88 + 3 * aN a) 1 = nI (mnN (aLa a f) (aLa a g)) := by rw [e_T3]; repeat (first | exact hlast | rw [vs_ia_ne (by omega)] | rw [vs_ia_1] | rw [vs_sc_ne (by omega)] | rw [vs_sc_nf (by omega)])
        have cN : T3.1 0 3 = nI (aN a + 1) := by rw [e_T3]; repeat (first | exact vs_ia_at | exact vs_sc_at | rw [vs_ia_ne (by omega)] | rw [vs_ia_1] | rw [vs_sc_ne (by omega)] | rw [vs_sc_nf (by omega)])
        clear e_T3
        exact vs_iretP dX9_plus_136 (cpost (v := (aN a : Int)) (a' := s_se a (mnN (aLa a f) (aLa a g)) ((cut (plF (aP a) (aC a f) (aC a g) (nn_m b (aP a))) (mnN (aLa a f) (aLa a g) + 1)))) (by unfold sp_plus sp_kp; (try simp only [Int.toNat_natCast]); repeat (first | rw [if_pos (by omega)] | rw [if_neg (by omega)])) (by rw [nZ_n]) (CSt.se hC F hN cN hlast hnum (by simp <;> omega) (by simp) (by simp) (cJ.fx cJ0 F (by simp [scr] <;> omega))) (F.C (by simp <;> omega) (by simp <;> omega) (by simp)))
      · have hN10 : aN a = 10 := by omega
        rw [hN10] at cN
        obtain ⟨hm1, hm2⟩ := mnN_le (aLa a f) (aLa a g)
        refine vs_aload_n 0 dX9_plus_27 rfl rfl 2 rfl ?_
        refine vs_aload dX9_plus_28 rfl 1 rfl ?_
        refine vs_get (v := .int (nI (aLa a f))) lf_X9_173 (vs_Se_k hf).1 (congrArg (fun z => some (Value.int z)) f1) dX9_plus_30 rfl ?_
        refine vs_aload dX9_plus_33 rfl 0 rfl ?_
        refine vs_get (v := .int (nI (aLa a g))) lf_X9_173 (vs_Se_k hg).1 (congrArg (fun z => some (Value.int z)) g1) dX9_plus_35 rfl ?_
        refine vs_min (st := [.ref (G.2.2.2 + 0)]) vc_mk_X9_176 rfl rfl dX9_plus_38 rfl ?_
        refine vs_topi (fun z2 e_z2 => ?_)
        have f_z2 : z2 = nI (mnN (aLa a f) (aLa a g)) := (by rw [e_z2]; exact mnN_I (by omega) (by omega))
        subst f_z2
        clear e_z2
        refine vs_callV (st := []) (c_freshNull cN) lk_X9_145 lm_X9_freshSeries rfl rfl rfl rfl (Nat.le_of_ble_eq_true rfl) rfl ⟨rfl, rfl⟩ dX9_plus_41 rfl ?_
        show vs_V _ _ _ _ _ (.null :: _) _
        refine vs_astoreN [(6, .null), (5, .ref (G.2.2.2 + (88 + 3 * g))), (4, .ref (G.2.2.2 + (88 + 3 * f))), (0, .ref (G.2.2.2 + 0)), (1, .int (nI f)), (2, .int (nI g)), (3, .int (nZ b))] dX9_plus_44 rfl rfl rfl ?_
        refine vs_aloadN dX9_plus_46 rfl 0 rfl ?_
        refine vs_ifnonnullN dX9_plus_48 rfl ?_
        refine vs_bipush (v := -104) dX9_plus_51 rfl rfl ?_
        exact vs_iretP dX9_plus_53 (cpost (v := -104) (a' := a) (by unfold sp_plus sp_kp; (try simp only [Int.toNat_natCast]); repeat (first | rw [if_pos (by omega)] | rw [if_neg (by omega)])) rfl hC frC.rf)
    · refine vs_aload_n 0 dX9_plus_7 rfl rfl 1 rfl ?_
      refine vs_iload_n 2 dX9_plus_8 rfl rfl 3 rfl ?_
      refine vs_callV (st := []) (c_seriesNull cN gN hg1 hg2 hgs) lk_X9_170 lm_X9_seriesNumbered rfl rfl rfl rfl (Nat.le_of_ble_eq_true rfl) rfl ⟨rfl, rfl⟩ dX9_plus_9 rfl ?_
      show vs_V _ _ _ _ _ (.null :: _) _
      refine vs_astoreN [(5, .null), (4, .ref (G.2.2.2 + (88 + 3 * f))), (0, .ref (G.2.2.2 + 0)), (1, .int (nI f)), (2, .int (nZ g)), (3, .int (nZ b))] dX9_plus_12 rfl rfl rfl ?_
      refine vs_aload dX9_plus_14 rfl 1 rfl ?_
      refine vs_ifnull dX9_plus_16 rfl ?_
      refine vs_aloadN dX9_plus_19 rfl 0 rfl ?_
      refine vs_ifnonnullN dX9_plus_21 rfl ?_
      refine vs_bipush (v := -101) dX9_plus_24 rfl rfl ?_
      exact vs_iretP dX9_plus_26 (cpost (v := -101) (a' := a) (by unfold sp_plus; (try simp only [Int.toNat_natCast]); repeat (first | rw [if_pos (by omega)] | rw [if_neg (by omega)])) rfl hC frC.rf)
  · refine vs_aload_n 0 dX9_plus_0 rfl rfl 0 rfl ?_
    refine vs_iload_n 1 dX9_plus_1 rfl rfl 1 rfl ?_
    refine vs_callV (st := []) (c_seriesNull cN gN hf1 hf2 hfs) lk_X9_170 lm_X9_seriesNumbered rfl rfl rfl rfl (Nat.le_of_ble_eq_true rfl) rfl ⟨rfl, rfl⟩ dX9_plus_2 rfl ?_
    show vs_V _ _ _ _ _ (.null :: _) _
    refine vs_astoreN [(4, .null), (0, .ref (G.2.2.2 + 0)), (1, .int (nZ f)), (2, .int (nZ g)), (3, .int (nZ b))] dX9_plus_5 rfl rfl rfl ?_
    by_cases hgs : 0 ≤ g ∧ g < aN a
    · obtain ⟨g, rfl⟩ : ∃ z0 : Nat, g = z0 := ⟨g.toNat, by omega⟩
      rw [nZ_n g]
      have hg : g < 10 := by omega
      have hgN : g < aN a := by omega
      obtain ⟨g1, g2⟩ := cSe g hgN
      obtain ⟨g3, g4⟩ := gSe g hgN
      refine vs_aload_n 0 dX9_plus_7 rfl rfl 1 rfl ?_
      refine vs_iload_n 2 dX9_plus_8 rfl rfl 3 rfl ?_
      refine vs_callV (st := []) (c_seriesNo cN gN hgN (cR2 g hg)) lk_X9_170 lm_X9_seriesNumbered rfl rfl rfl rfl (Nat.le_of_ble_eq_true rfl) rfl ⟨rfl, rfl⟩ dX9_plus_9 rfl ?_
      show vs_V _ _ _ _ _ (.ref (G.2.2.2 + (88 + 3 * g)) :: _) _
      refine vs_astore [(5, .ref (G.2.2.2 + (88 + 3 * g))), (4, .null), (0, .ref (G.2.2.2 + 0)), (1, .int (nZ f)), (2, .int (nI g)), (3, .int (nZ b))] dX9_plus_12 rfl rfl rfl ?_
      refine vs_aloadN dX9_plus_14 rfl 1 rfl ?_
      refine vs_ifnullN 24 dX9_plus_16 rfl ?_
      refine vs_bipush (v := -101) dX9_plus_24 rfl rfl ?_
      exact vs_iretP dX9_plus_26 (cpost (v := -101) (a' := a) (by unfold sp_plus; (try simp only [Int.toNat_natCast]); repeat (first | rw [if_pos (by omega)] | rw [if_neg (by omega)])) rfl hC frC.rf)
    · refine vs_aload_n 0 dX9_plus_7 rfl rfl 1 rfl ?_
      refine vs_iload_n 2 dX9_plus_8 rfl rfl 3 rfl ?_
      refine vs_callV (st := []) (c_seriesNull cN gN hg1 hg2 hgs) lk_X9_170 lm_X9_seriesNumbered rfl rfl rfl rfl (Nat.le_of_ble_eq_true rfl) rfl ⟨rfl, rfl⟩ dX9_plus_9 rfl ?_
      show vs_V _ _ _ _ _ (.null :: _) _
      refine vs_astoreN [(5, .null), (4, .null), (0, .ref (G.2.2.2 + 0)), (1, .int (nZ f)), (2, .int (nZ g)), (3, .int (nZ b))] dX9_plus_12 rfl rfl rfl ?_
      refine vs_aloadN dX9_plus_14 rfl 1 rfl ?_
      refine vs_ifnullN 24 dX9_plus_16 rfl ?_
      refine vs_bipush (v := -101) dX9_plus_24 rfl rfl ?_
      exact vs_iretP dX9_plus_26 (cpost (v := -101) (a' := a) (by unfold sp_plus; (try simp only [Int.toNat_natCast]); repeat (first | rw [if_pos (by omega)] | rw [if_neg (by omega)])) rfl hC frC.rf)

theorem l_times1 {G : vv_G} {S : vs_S} {N : Nat} (hN : N < 10) {f g : Nat} (hfN : f < N) (hgN : g < N) {cf cg : Nat → Nat} (hf2 : pR S (88 + 3 * f + 1) cf) (hg2 : pR S (88 + 3 * g + 1) cg) {P n : Nat} (cP : S.1 1 0 = nI P) (gP1 : 2 ≤ P) (gP2 : P ≤ 30011) (bf : ∀ k, cf k < P) (bg : ∀ k, cg k < P) (hlast : S.1 (88 + 3 * N) 1 = nI n) (hn : n ≤ 40) {Pst : Option Value → vs_S → Prop} {k : Nat} (hk : k ≤ 40) (K : vs_V G cX9_times (vs_MP yX9_times 10 (some .int) { frames := 3, locals := 66 } G Pst) 113 [(7, .long (lN (fsm cf cg k (k + 1)))), (6, .int (nI k)), (5, .ref (G.2.2.2 + (88 + 3 * N))), (4, .ref (G.2.2.2 + (88 + 3 * g))), (3, .ref (G.2.2.2 + (88 + 3 * f))), (0, .ref (G.2.2.2 + 0))] [] S) : ∀ d j : Nat, j + d = k + 1 → vs_V G cX9_times (vs_MP yX9_times 10 (some .int) { frames := 3, locals := 66 } G Pst) 70 [(9, .int (nI j)), (7, .long (lN (fsm cf cg k j))), (6, .int (nI k)), (5, .ref (G.2.2.2 + (88 + 3 * N))), (4, .ref (G.2.2.2 + (88 + 3 * g))), (3, .ref (G.2.2.2 + (88 + 3 * f))), (0, .ref (G.2.2.2 + 0))] [] S := by
  intro d
  induction d with
  | zero =>
    intro j hj
    obtain rfl : j = k + 1 := by omega
    refine vs_iload dX9_times_70 rfl 0 rfl ?_
    refine vs_iload dX9_times_72 rfl 2 rfl ?_
    refine vs_icmp_gt 113 dX9_times_74 rfl rfl (fun c_74 => ?_) (fun c_74 => ?_)
    · have q_74 : (((k + 1) : Nat) : Int) > ((k : Nat) : Int) := (qi_gt (nI_Z _) (nI_Z _) (by omega) (by omega) (by omega) (by omega)).mp c_74
      refine vs_pick [1, 2, 3, 4, 5, 6] rfl ?_
      exact K
    · have q_74 : ¬ (((k + 1) : Nat) : Int) > ((k : Nat) : Int) := fun hh => c_74 ((qi_gt (nI_Z _) (nI_Z _) (by omega) (by omega) (by omega) (by omega)).mpr hh)
      omega
  | succ d ih =>
    intro j hj
    have b1 := bf j
    have b2 := pz_lt (z := (k : Int) - j) (show 0 < P by omega) bg
    refine vs_iload dX9_times_70 rfl 0 rfl ?_
    refine vs_iload dX9_times_72 rfl 2 rfl ?_
    refine vs_icmp_gt 113 dX9_times_74 rfl rfl (fun c_74 => ?_) (fun c_74 => ?_)
    · have q_74 : ((j : Nat) : Int) > ((k : Nat) : Int) := (qi_gt (nI_Z _) (nI_Z _) (by omega) (by omega) (by omega) (by omega)).mp c_74
      omega
    · have q_74 : ¬ ((j : Nat) : Int) > ((k : Nat) : Int) := fun hh => c_74 ((qi_gt (nI_Z _) (nI_Z _) (by omega) (by omega) (by omega) (by omega)).mpr hh)
      refine vs_lload dX9_times_77 rfl 1 rfl ?_
      refine vs_aload_n 3 dX9_times_79 rfl rfl 5 rfl ?_
      refine vs_get (v := .ref (G.2.2.2 + (88 + 3 * f + 1))) lf_X9_149 (vs_Se_k (show f < 10 by omega)).1 rfl dX9_times_80 rfl ?_
      refine vs_iload dX9_times_83 rfl 0 rfl ?_
      refine vs_callV (st := [.long (lN (fsm cf cg k j))]) (c_atN (vs_Se_k (show f < 10 by omega)).2 hf2 (k := j) (by omega)) lk_X9_186 lm_X3_at rfl (vs_Se_k (show f < 10 by omega)).2.1 rfl rfl (Nat.le_of_ble_eq_true rfl) rfl ⟨rfl, rfl⟩ dX9_times_85 rfl ?_
      show vs_V _ _ _ _ _ (.int (nI (cf j)) :: _) _
      refine vs_i2l dX9_times_88 rfl ?_
      refine vs_aload dX9_times_89 rfl 4 rfl ?_
      refine vs_get (v := .ref (G.2.2.2 + (88 + 3 * g + 1))) lf_X9_149 (vs_Se_k (show g < 10 by omega)).1 rfl dX9_times_91 rfl ?_
      refine vs_iload dX9_times_94 rfl 2 rfl ?_
      refine vs_iload dX9_times_96 rfl 0 rfl ?_
      refine vs_isub dX9_times_98 rfl ?_
      refine vs_topi (fun z1 e_z1 => ?_)
      have f_z1 : z1 = nZ ((k : Int) - j) := (by rw [e_z1]; simp only [nI_Z, nZ_sub])
      subst f_z1
      clear e_z1
      refine vs_callV (st := [.long ((nI (cf j)).toInt64), .long (lN (fsm cf cg k j))]) (c_at (vs_Se_k (show g < 10 by omega)).2 hg2 (k := nZ ((k : Int) - j))) lk_X9_186 lm_X3_at rfl (vs_Se_k (show g < 10 by omega)).2.1 rfl rfl (Nat.le_of_ble_eq_true rfl) rfl ⟨rfl, rfl⟩ dX9_times_99 rfl ?_
      rw [nZ_i (by omega) (by omega)]
      show vs_V _ _ _ _ _ (.int (nI (pz cg ((k : Int) - j))) :: _) _
      refine vs_i2l dX9_times_102 rfl ?_
      refine vs_lmul dX9_times_103 rfl ?_
      refine vs_ladd dX9_times_104 rfl ?_
      refine vs_topl (fun z2 e_z2 => ?_)
      have f_z2 : z2 = lN (fsm cf cg k (j + 1)) := (by rw [e_z2, nn_mul (by omega) (by omega), lN_add]; rfl)
      subst f_z2
      clear e_z2
      refine vs_topl (fun ww e_ww => ?_)
      have e2_ww : ww = lN (fsm cf cg k (j + 1)) := e_ww
      clear e_ww
      subst e2_ww
      refine vs_lstore [(7, .long (lN (fsm cf cg k (j + 1)))), (9, .int (nI j)), (6, .int (nI k)), (5, .ref (G.2.2.2 + (88 + 3 * N))), (4, .ref (G.2.2.2 + (88 + 3 * g))), (3, .ref (G.2.2.2 + (88 + 3 * f))), (0, .ref (G.2.2.2 + 0))] dX9_times_105 rfl rfl rfl ?_
      refine vs_iinc (v := nI (j + 1)) [(9, .int (nI (j + 1))), (7, .long (lN (fsm cf cg k (j + 1)))), (6, .int (nI k)), (5, .ref (G.2.2.2 + (88 + 3 * N))), (4, .ref (G.2.2.2 + (88 + 3 * g))), (3, .ref (G.2.2.2 + (88 + 3 * f))), (0, .ref (G.2.2.2 + 0))] dX9_times_107 rfl 1 rfl (by first | exact nI_1 _ | (simp only [fa_lit, nI_add, pk_mul, nI_1]; rfl)) rfl rfl ?_
      refine vs_goto 70 dX9_times_110 rfl ?_
      refine vs_pick [0, 1, 2, 3, 4, 5, 6] rfl ?_
      exact ih (j + 1) (by omega)

theorem l_times2 {G : vv_G} {S : vs_S} {N : Nat} (hN : N < 10) {f g : Nat} (hfN : f < N) (hgN : g < N) {cf cg : Nat → Nat} (hf2 : pR S (88 + 3 * f + 1) cf) (hg2 : pR S (88 + 3 * g + 1) cg) {P n : Nat} (cP : S.1 1 0 = nI P) (gP1 : 2 ≤ P) (gP2 : P ≤ 30011) (bf : ∀ k, cf k < P) (bg : ∀ k, cg k < P) (hlast : S.1 (88 + 3 * N) 1 = nI n) (hn : n ≤ 40) {Pst : Option Value → vs_S → Prop} (K : vs_V G cX9_times (vs_MP yX9_times 10 (some .int) { frames := 3, locals := 66 } G Pst) 138 [(0, .ref (G.2.2.2 + 0))] [] (vs_ia S (88 + 3 * N + 1 + 1) (nA (cut (tmF P cf cg) (n + 1))))) : ∀ d k : Nat, k + d = n + 1 → vs_V G cX9_times (vs_MP yX9_times 10 (some .int) { frames := 3, locals := 66 } G Pst) 54 [(6, .int (nI k)), (5, .ref (G.2.2.2 + (88 + 3 * N))), (4, .ref (G.2.2.2 + (88 + 3 * g))), (3, .ref (G.2.2.2 + (88 + 3 * f))), (0, .ref (G.2.2.2 + 0))] [] (vs_ia S (88 + 3 * N + 1 + 1) (nA (cut (tmF P cf cg) k))) := by
  intro d
  induction d with
  | zero =>
    intro k hk
    obtain rfl : k = n + 1 := by omega
    refine vs_iload dX9_times_54 rfl 0 rfl ?_
    refine vs_aload dX9_times_56 rfl 1 rfl ?_
    refine vs_get (v := .int (nI n)) lf_X9_173 (vs_Se_k hN).1 (congrArg (fun z => some (Value.int z)) hlast) dX9_times_58 rfl ?_
    refine vs_icmp_gt 138 dX9_times_61 rfl rfl (fun c_61 => ?_) (fun c_61 => ?_)
    · have q_61 : (((n + 1) : Nat) : Int) > ((n : Nat) : Int) := (qi_gt (nI_Z _) (nI_Z _) (by omega) (by omega) (by omega) (by omega)).mp c_61
      refine vs_pick [4] rfl ?_
      exact K
    · have q_61 : ¬ (((n + 1) : Nat) : Int) > ((n : Nat) : Int) := fun hh => c_61 ((qi_gt (nI_Z _) (nI_Z _) (by omega) (by omega) (by omega) (by omega)).mpr hh)
      omega
  | succ d ih =>
    intro k hk
    have p1 : pR (vs_ia S (88 + 3 * N + 1 + 1) (nA (cut (tmF P cf cg) k))) (88 + 3 * f + 1) cf := ⟨(vs_ia_ne (by omega)).trans hf2.1, hf2.2⟩
    have p2 : pR (vs_ia S (88 + 3 * N + 1 + 1) (nA (cut (tmF P cf cg) k))) (88 + 3 * g + 1) cg := ⟨(vs_ia_ne (by omega)).trans hg2.1, hg2.2⟩
    have p3 : pR (vs_ia S (88 + 3 * N + 1 + 1) (nA (cut (tmF P cf cg) k))) (88 + 3 * N + 1) (cut (tmF P cf cg) k) := ⟨vs_ia_at, cut_z (by omega)⟩
    have hb := fsm_63 (n := k + 1) (k := k) (show 0 < P by omega) gP2 bf bg (by omega)
    refine vs_iload dX9_times_54 rfl 0 rfl ?_
    refine vs_aload dX9_times_56 rfl 1 rfl ?_
    refine vs_get (v := .int (nI n)) lf_X9_173 (vs_Se_k hN).1 (congrArg (fun z => some (Value.int z)) hlast) dX9_times_58 rfl ?_
    refine vs_icmp_gt 138 dX9_times_61 rfl rfl (fun c_61 => ?_) (fun c_61 => ?_)
    · have q_61 : ((k : Nat) : Int) > ((n : Nat) : Int) := (qi_gt (nI_Z _) (nI_Z _) (by omega) (by omega) (by omega) (by omega)).mp c_61
      omega
    · have q_61 : ¬ ((k : Nat) : Int) > ((n : Nat) : Int) := fun hh => c_61 ((qi_gt (nI_Z _) (nI_Z _) (by omega) (by omega) (by omega) (by omega)).mpr hh)
      refine vs_lconst (v := 0) dX9_times_64 rfl rfl ?_
      refine vs_lstore [(7, .long (0)), (6, .int (nI k)), (5, .ref (G.2.2.2 + (88 + 3 * N))), (4, .ref (G.2.2.2 + (88 + 3 * g))), (3, .ref (G.2.2.2 + (88 + 3 * f))), (0, .ref (G.2.2.2 + 0))] dX9_times_65 rfl rfl rfl ?_
      refine vs_iconst (v := 0) dX9_times_67 rfl rfl ?_
      refine vs_istore [(9, .int (0)), (7, .long (0)), (6, .int (nI k)), (5, .ref (G.2.2.2 + (88 + 3 * N))), (4, .ref (G.2.2.2 + (88 + 3 * g))), (3, .ref (G.2.2.2 + (88 + 3 * f))), (0, .ref (G.2.2.2 + 0))] dX9_times_68 rfl rfl rfl ?_
      refine vs_pick (L2 := [(9, .int (nI 0)), (7, .long (lN 0)), (6, .int (nI k)), (5, .ref (G.2.2.2 + (88 + 3 * N))), (4, .ref (G.2.2.2 + (88 + 3 * g))), (3, .ref (G.2.2.2 + (88 + 3 * f))), (0, .ref (G.2.2.2 + 0))]) [0, 1, 2, 3, 4, 5, 6] rfl ?_
      refine l_times1 (S := (vs_ia S (88 + 3 * N + 1 + 1) (nA (cut (tmF P cf cg) k)))) hN hfN hgN p1 p2 cP gP1 gP2 bf bg hlast hn (show k ≤ 40 by omega) ?_ (k + 1) 0 (by omega)
      refine vs_aload dX9_times_113 rfl 2 rfl ?_
      refine vs_get (v := .ref (G.2.2.2 + (88 + 3 * N + 1))) lf_X9_149 (vs_Se_k hN).1 rfl dX9_times_115 rfl ?_
      refine vs_iload dX9_times_118 rfl 1 rfl ?_
      refine vs_aload_n 0 dX9_times_120 rfl rfl 5 rfl ?_
      refine vs_get (v := .ref (G.2.2.2 + 1)) lf_X9_12 rfl rfl dX9_times_121 rfl ?_
      refine vs_lload dX9_times_124 rfl 0 rfl ?_
      refine vs_callV (st := [.int (nI k), .ref (G.2.2.2 + (88 + 3 * N + 1))]) (c_ofN (k := fsm cf cg k (k + 1)) (pk_lT (by omega)) cP gP1 gP2) lk_X9_182 lm_X5_of rfl rfl rfl rfl (Nat.le_of_ble_eq_true rfl) rfl ⟨rfl, rfl⟩ dX9_times_126 rfl ?_
      show vs_V _ _ _ _ _ (.int (nI (tmF P cf cg k)) :: _) _
      refine vs_callV (st := []) (c_setN (vs_Se_k hN).2 p3 (k := k) (by omega)) lk_X9_189 lm_X3_set rfl (vs_Se_k hN).2.1 rfl rfl (Nat.le_of_ble_eq_true rfl) rfl ⟨rfl, rfl⟩ dX9_times_129 rfl ?_
      refine vs_eq (S2 := (vs_ia S (88 + 3 * N + 1 + 1) (nA (cut (tmF P cf cg) (k + 1))))) (by rw [vs_ia_ia, cut_s]) ?_
      refine vs_iinc (v := nI (k + 1)) [(6, .int (nI (k + 1))), (7, .long (lN (fsm cf cg k (k + 1)))), (5, .ref (G.2.2.2 + (88 + 3 * N))), (4, .ref (G.2.2.2 + (88 + 3 * g))), (3, .ref (G.2.2.2 + (88 + 3 * f))), (0, .ref (G.2.2.2 + 0))] dX9_times_132 rfl 1 rfl (by first | exact nI_1 _ | (simp only [fa_lit, nI_add, pk_mul, nI_1]; rfl)) rfl rfl ?_
      refine vs_goto 54 dX9_times_135 rfl ?_
      refine vs_pick [0, 2, 3, 4, 5] rfl ?_
      exact ih (k + 1) (by omega)

theorem k_times {G : vv_G} {S : vs_S} {a : aS} (hC : CSt S a) (hG : aG a) {f : Int} (hf1 : -2147483648 ≤ f) (hf2 : f < 2147483648) {g : Int} (hg1 : -2147483648 ≤ g) (hg2 : g < 2147483648) : vs_CP G yX9_times cX9_times 10 (some .int) { frames := 3, locals := 66 } [.ref (G.2.2.2 + 0), .int (nZ f), .int (nZ g)] S (fun r S2 => r = some (.int (nZ (sp_times a f g).1)) ∧ CSt S2 (sp_times a f g).2 ∧ frC S S2) := by
  refine vs_ofP [(0, .ref (G.2.2.2 + 0)), (1, .int (nZ f)), (2, .int (nZ g))] (by decide) rfl rfl ?_
  obtain ⟨⟨cP, cN, cH⟩, ⟨cX, cY⟩, ⟨cA, cB⟩, cSe, cJs, cSh, ⟨cK0, cK⟩, ⟨cR1, cR2, cD⟩, cJ0⟩ := id hC
  obtain ⟨gP, gP2, gN, gH, gSe, gSh, gXY, gB31, gInj, gA, gB, gAz, gBz⟩ := hG
  have gP1 := gP.1
  have F : vs_fx S S [88 + 3 * aN a + 1 + 1] [(0, 3), (88 + 3 * aN a, 1)] [] := vs_fx.rf
  by_cases hfs : 0 ≤ f ∧ f < aN a
  · obtain ⟨f, rfl⟩ : ∃ z0 : Nat, f = z0 := ⟨f.toNat, by omega⟩
    rw [nZ_n f]
    have hf : f < 10 := by omega
    have hfN : f < aN a := by omega
    obtain ⟨f1, f2⟩ := cSe f hfN
    obtain ⟨f3, f4⟩ := gSe f hfN
    refine vs_aload_n 0 dX9_times_0 rfl rfl 0 rfl ?_
    refine vs_iload_n 1 dX9_times_1 rfl rfl 1 rfl ?_
    refine vs_callV (st := []) (c_seriesNo cN gN hfN (cR2 f hf)) lk_X9_170 lm_X9_seriesNumbered rfl rfl rfl rfl (Nat.le_of_ble_eq_true rfl) rfl ⟨rfl, rfl⟩ dX9_times_2 rfl ?_
    show vs_V _ _ _ _ _ (.ref (G.2.2.2 + (88 + 3 * f)) :: _) _
    refine vs_astore_n 3 [(3, .ref (G.2.2.2 + (88 + 3 * f))), (0, .ref (G.2.2.2 + 0)), (1, .int (nI f)), (2, .int (nZ g))] dX9_times_5 rfl rfl rfl rfl ?_
    by_cases hgs : 0 ≤ g ∧ g < aN a
    · obtain ⟨g, rfl⟩ : ∃ z0 : Nat, g = z0 := ⟨g.toNat, by omega⟩
      rw [nZ_n g]
      have hg : g < 10 := by omega
      have hgN : g < aN a := by omega
      obtain ⟨g1, g2⟩ := cSe g hgN
      obtain ⟨g3, g4⟩ := gSe g hgN
      refine vs_aload_n 0 dX9_times_6 rfl rfl 1 rfl ?_
      refine vs_iload_n 2 dX9_times_7 rfl rfl 3 rfl ?_
      refine vs_callV (st := []) (c_seriesNo cN gN hgN (cR2 g hg)) lk_X9_170 lm_X9_seriesNumbered rfl rfl rfl rfl (Nat.le_of_ble_eq_true rfl) rfl ⟨rfl, rfl⟩ dX9_times_8 rfl ?_
      show vs_V _ _ _ _ _ (.ref (G.2.2.2 + (88 + 3 * g)) :: _) _
      refine vs_astore [(4, .ref (G.2.2.2 + (88 + 3 * g))), (3, .ref (G.2.2.2 + (88 + 3 * f))), (0, .ref (G.2.2.2 + 0)), (1, .int (nI f)), (2, .int (nI g))] dX9_times_11 rfl rfl rfl ?_
      refine vs_aload_n 3 dX9_times_13 rfl rfl 1 rfl ?_
      refine vs_ifnull dX9_times_14 rfl ?_
      refine vs_aload dX9_times_17 rfl 0 rfl ?_
      refine vs_ifnonnull 25 dX9_times_19 rfl ?_
      by_cases hN : aN a < 10
      · obtain ⟨gn, hgn⟩ := cJs (aN a) hN
        obtain ⟨hm1, hm2⟩ := mnN_le (aLa a f) (aLa a g)
        refine vs_aload_n 0 dX9_times_25 rfl rfl 2 rfl ?_
        refine vs_aload_n 3 dX9_times_26 rfl rfl 1 rfl ?_
        refine vs_get (v := .int (nI (aLa a f))) lf_X9_173 (vs_Se_k hf).1 (congrArg (fun z => some (Value.int z)) f1) dX9_times_27 rfl ?_
        refine vs_aload dX9_times_30 rfl 0 rfl ?_
        refine vs_get (v := .int (nI (aLa a g))) lf_X9_173 (vs_Se_k hg).1 (congrArg (fun z => some (Value.int z)) g1) dX9_times_32 rfl ?_
        refine vs_min (st := [.ref (G.2.2.2 + 0)]) vc_mk_X9_176 rfl rfl dX9_times_35 rfl ?_
        refine vs_topi (fun z1 e_z1 => ?_)
        have f_z1 : z1 = nI (mnN (aLa a f) (aLa a g)) := (by rw [e_z1]; exact mnN_I (by omega) (by omega))
        subst f_z1
        clear e_z1
        refine vs_callV (st := []) (c_fresh cN hN (cR2 (aN a) hN) hgn) lk_X9_145 lm_X9_freshSeries rfl rfl rfl rfl (Nat.le_of_ble_eq_true rfl) rfl ⟨rfl, rfl⟩ dX9_times_38 rfl ?_
        show vs_V _ _ _ _ _ (.ref (G.2.2.2 + (88 + 3 * aN a)) :: _) _
        refine vs_gen (fun T1 e_T1 => ?_)
        have cP : T1.1 1 0 = nI (aP a) := by rw [e_T1]; repeat (first | exact cP | rw [vs_ia_ne (by omega)] | rw [vs_ia_1] | rw [vs_sc_ne (by omega)] | rw [vs_sc_nf (by omega)])
        have cN : T1.1 0 3 = nI (aN a) := by rw [e_T1]; repeat (first | exact cN | rw [vs_ia_ne (by omega)] | rw [vs_ia_1] | rw [vs_sc_ne (by omega)] | rw [vs_sc_nf (by omega)])
        have F : vs_fx S T1 [88 + 3 * aN a + 1 + 1] [(0, 3), (88 + 3 * aN a, 1)] [] := by rw [e_T1]; repeat (first | exact F | refine vs_fx.ia ?_ (by simp <;> omega) | refine vs_fx.sc ?_ (by simp <;> omega) | refine vs_fx.la ?_ (by simp <;> omega))
        have f1 : T1.1 (88 + 3 * f) 1 = nI (aLa a f) := by rw [e_T1]; repeat (first | exact f1 | rw [vs_ia_ne (by omega)] | rw [vs_ia_1] | rw [vs_sc_ne (by omega)] | rw [vs_sc_nf (by omega)])
        have f2 : pR T1 (88 + 3 * f + 1) (aC a f) := ⟨by rw [e_T1]; repeat (first | exact f2.1 | rw [vs_ia_ne (by omega)]), f2.2⟩
        have g1 : T1.1 (88 + 3 * g) 1 = nI (aLa a g) := by rw [e_T1]; repeat (first | exact g1 | rw [vs_ia_ne (by omega)] | rw [vs_ia_1] | rw [vs_sc_ne (by omega)] | rw [vs_sc_nf (by omega)])
        have g2 : pR T1 (88 + 3 * g + 1) (aC a g) := ⟨by rw [e_T1]; repeat (first | exact g2.1 | rw [vs_ia_ne (by omega)]), g2.2⟩
        have hnum : pR T1 (88 + 3 * aN a + 1) (pcon 0) := ⟨by rw [e_T1]; repeat (first | exact vs_ia_at | rw [vs_ia_ne (by omega)]), (pcon_z 0)⟩
        have hlast : T1.1 (88 + 3 * aN a) 1 = nI (mnN (aLa a f) (aLa a g)) := by rw [e_T1]; repeat (first | exact vs_ia_at | exact vs_sc_at | rw [vs_ia_ne (by omega)] | rw [vs_ia_1] | rw [vs_sc_ne (by omega)] | rw [vs_sc_nf (by omega)])
        clear e_T1
        refine vs_astore [(5, .ref (G.2.2.2 + (88 + 3 * aN a))), (4, .ref (G.2.2.2 + (88 + 3 * g))), (3, .ref (G.2.2.2 + (88 + 3 * f))), (0, .ref (G.2.2.2 + 0)), (1, .int (nI f)), (2, .int (nI g))] dX9_times_41 rfl rfl rfl ?_
        refine vs_aload dX9_times_43 rfl 0 rfl ?_
        refine vs_ifnonnull 51 dX9_times_45 rfl ?_
        refine vs_iconst (v := 0) dX9_times_51 rfl rfl ?_
        refine vs_istore [(6, .int (0)), (5, .ref (G.2.2.2 + (88 + 3 * aN a))), (4, .ref (G.2.2.2 + (88 + 3 * g))), (3, .ref (G.2.2.2 + (88 + 3 * f))), (0, .ref (G.2.2.2 + 0)), (1, .int (nI f)), (2, .int (nI g))] dX9_times_52 rfl rfl rfl ?_
        refine vs_pick (L2 := [(6, .int (nI 0)), (5, .ref (G.2.2.2 + (88 + 3 * aN a))), (4, .ref (G.2.2.2 + (88 + 3 * g))), (3, .ref (G.2.2.2 + (88 + 3 * f))), (0, .ref (G.2.2.2 + 0))]) [0, 1, 2, 3, 4] rfl ?_
        refine vs_eq (S2 := vs_ia T1 (88 + 3 * aN a + 1 + 1) (nA (cut (tmF (aP a) (aC a f) (aC a g)) 0))) (by rw [cut_0]; exact vs_ia_same hnum.1) ?_
        refine l_times2 hN hfN hgN f2 g2 cP gP1 gP2 f4 g4 hlast (show mnN (aLa a f) (aLa a g) ≤ 40 by omega) ?_ (mnN (aLa a f) (aLa a g) + 1) 0 (by omega)
        refine vs_gen (fun T2 e_T2 => ?_)
        have cP : T2.1 1 0 = nI (aP a) := by rw [e_T2]; repeat (first | exact cP | rw [vs_ia_ne (by omega)] | rw [vs_ia_1] | rw [vs_sc_ne (by omega)] | rw [vs_sc_nf (by omega)])
        have cN : T2.1 0 3 = nI (aN a) := by rw [e_T2]; repeat (first | exact cN | rw [vs_ia_ne (by omega)] | rw [vs_ia_1] | rw [vs_sc_ne (by omega)] | rw [vs_sc_nf (by omega)])
        have F : vs_fx S T2 [88 + 3 * aN a + 1 + 1] [(0, 3), (88 + 3 * aN a, 1)] [] := by rw [e_T2]; repeat (first | exact F | refine vs_fx.ia ?_ (by simp <;> omega) | refine vs_fx.sc ?_ (by simp <;> omega) | refine vs_fx.la ?_ (by simp <;> omega))
        have f1 : T2.1 (88 + 3 * f) 1 = nI (aLa a f) := by rw [e_T2]; repeat (first | exact f1 | rw [vs_ia_ne (by omega)] | rw [vs_ia_1] | rw [vs_sc_ne (by omega)] | rw [vs_sc_nf (by omega)])
        have f2 : pR T2 (88 + 3 * f + 1) (aC a f) := ⟨by rw [e_T2]; repeat (first | exact f2.1 | rw [vs_ia_ne (by omega)]), f2.2⟩
        have g1 : T2.1 (88 + 3 * g) 1 = nI (aLa a g) := by rw [e_T2]; repeat (first | exact g1 | rw [vs_ia_ne (by omega)] | rw [vs_ia_1] | rw [vs_sc_ne (by omega)] | rw [vs_sc_nf (by omega)])
        have g2 : pR T2 (88 + 3 * g + 1) (aC a g) := ⟨by rw [e_T2]; repeat (first | exact g2.1 | rw [vs_ia_ne (by omega)]), g2.2⟩
        have hlast : T2.1 (88 + 3 * aN a) 1 = nI (mnN (aLa a f) (aLa a g)) := by rw [e_T2]; repeat (first | exact hlast | rw [vs_ia_ne (by omega)] | rw [vs_ia_1] | rw [vs_sc_ne (by omega)] | rw [vs_sc_nf (by omega)])
        have hnum : pR T2 (88 + 3 * aN a + 1) (cut (tmF (aP a) (aC a f) (aC a g)) (mnN (aLa a f) (aLa a g) + 1)) := ⟨by rw [e_T2]; repeat (first | exact vs_ia_at | rw [vs_ia_ne (by omega)]), (cut_z (by omega))⟩
        clear e_T2
        refine vs_aload_n 0 dX9_times_138 rfl rfl 0 rfl ?_
        refine vs_callV (st := []) (c_keepFresh cN (by omega)) lk_X9_156 lm_X9_keepFresh rfl rfl rfl rfl (Nat.le_of_ble_eq_true rfl) rfl ⟨rfl, rfl⟩ dX9_times_139 rfl ?_
        show vs_V _ _ _ _ _ (.int (nI (aN a)) :: _) _
        refine vs_gen (fun T3 e_T3 => ?_)
        have cP : T3.1 1 0 = nI (aP a) := by rw [e_T3]; repeat (first | exact cP | rw [vs_ia_ne (by omega)] | rw [vs_ia_1] | rw [vs_sc_ne (by omega)] | rw [vs_sc_nf (by omega)])
        have F : vs_fx S T3 [88 + 3 * aN a + 1 + 1] [(0, 3), (88 + 3 * aN a, 1)] [] := by rw [e_T3]; repeat (first | exact F | refine vs_fx.ia ?_ (by simp <;> omega) | refine vs_fx.sc ?_ (by simp <;> omega) | refine vs_fx.la ?_ (by simp <;> omega))
        have f1 : T3.1 (88 + 3 * f) 1 = nI (aLa a f) := by rw [e_T3]; repeat (first | exact f1 | rw [vs_ia_ne (by omega)] | rw [vs_ia_1] | rw [vs_sc_ne (by omega)] | rw [vs_sc_nf (by omega)])
        have f2 : pR T3 (88 + 3 * f + 1) (aC a f) := ⟨by rw [e_T3]; repeat (first | exact f2.1 | rw [vs_ia_ne (by omega)]), f2.2⟩
        have g1 : T3.1 (88 + 3 * g) 1 = nI (aLa a g) := by rw [e_T3]; repeat (first | exact g1 | rw [vs_ia_ne (by omega)] | rw [vs_ia_1] | rw [vs_sc_ne (by omega)] | rw [vs_sc_nf (by omega)])
        have g2 : pR T3 (88 + 3 * g + 1) (aC a g) := ⟨by rw [e_T3]; repeat (first | exact g2.1 | rw [vs_ia_ne (by omega)]), g2.2⟩
        have hnum : pR T3 (88 + 3 * aN a + 1) (cut (tmF (aP a) (aC a f) (aC a g)) (mnN (aLa a f) (aLa a g) + 1)) := ⟨by rw [e_T3]; repeat (first | exact hnum.1 | rw [vs_ia_ne (by omega)]), hnum.2⟩
        have hlast : T3.1 (88 + 3 * aN a) 1 = nI (mnN (aLa a f) (aLa a g)) := by rw [e_T3]; repeat (first | exact hlast | rw [vs_ia_ne (by omega)] | rw [vs_ia_1] | rw [vs_sc_ne (by omega)] | rw [vs_sc_nf (by omega)])
        have cN : T3.1 0 3 = nI (aN a + 1) := by rw [e_T3]; repeat (first | exact vs_ia_at | exact vs_sc_at | rw [vs_ia_ne (by omega)] | rw [vs_ia_1] | rw [vs_sc_ne (by omega)] | rw [vs_sc_nf (by omega)])
        clear e_T3
        exact vs_iretP dX9_times_142 (cpost (v := (aN a : Int)) (a' := s_se a (mnN (aLa a f) (aLa a g)) ((cut (tmF (aP a) (aC a f) (aC a g)) (mnN (aLa a f) (aLa a g) + 1)))) (by unfold sp_times sp_kp; (try simp only [Int.toNat_natCast]); repeat (first | rw [if_pos (by omega)] | rw [if_neg (by omega)])) (by rw [nZ_n]) (CSt.se hC F hN cN hlast hnum (by simp <;> omega) (by simp) (by simp) (cJ.fx cJ0 F (by simp [scr] <;> omega))) (F.C (by simp <;> omega) (by simp <;> omega) (by simp)))
      · have hN10 : aN a = 10 := by omega
        rw [hN10] at cN
        obtain ⟨hm1, hm2⟩ := mnN_le (aLa a f) (aLa a g)
        refine vs_aload_n 0 dX9_times_25 rfl rfl 2 rfl ?_
        refine vs_aload_n 3 dX9_times_26 rfl rfl 1 rfl ?_
        refine vs_get (v := .int (nI (aLa a f))) lf_X9_173 (vs_Se_k hf).1 (congrArg (fun z => some (Value.int z)) f1) dX9_times_27 rfl ?_
        refine vs_aload dX9_times_30 rfl 0 rfl ?_
        refine vs_get (v := .int (nI (aLa a g))) lf_X9_173 (vs_Se_k hg).1 (congrArg (fun z => some (Value.int z)) g1) dX9_times_32 rfl ?_
        refine vs_min (st := [.ref (G.2.2.2 + 0)]) vc_mk_X9_176 rfl rfl dX9_times_35 rfl ?_
        refine vs_topi (fun z2 e_z2 => ?_)
        have f_z2 : z2 = nI (mnN (aLa a f) (aLa a g)) := (by rw [e_z2]; exact mnN_I (by omega) (by omega))
        subst f_z2
        clear e_z2
        refine vs_callV (st := []) (c_freshNull cN) lk_X9_145 lm_X9_freshSeries rfl rfl rfl rfl (Nat.le_of_ble_eq_true rfl) rfl ⟨rfl, rfl⟩ dX9_times_38 rfl ?_
        show vs_V _ _ _ _ _ (.null :: _) _
        refine vs_astoreN [(5, .null), (4, .ref (G.2.2.2 + (88 + 3 * g))), (3, .ref (G.2.2.2 + (88 + 3 * f))), (0, .ref (G.2.2.2 + 0)), (1, .int (nI f)), (2, .int (nI g))] dX9_times_41 rfl rfl rfl ?_
        refine vs_aloadN dX9_times_43 rfl 0 rfl ?_
        refine vs_ifnonnullN dX9_times_45 rfl ?_
        refine vs_bipush (v := -104) dX9_times_48 rfl rfl ?_
        exact vs_iretP dX9_times_50 (cpost (v := -104) (a' := a) (by unfold sp_times sp_kp; (try simp only [Int.toNat_natCast]); repeat (first | rw [if_pos (by omega)] | rw [if_neg (by omega)])) rfl hC frC.rf)
    · refine vs_aload_n 0 dX9_times_6 rfl rfl 1 rfl ?_
      refine vs_iload_n 2 dX9_times_7 rfl rfl 3 rfl ?_
      refine vs_callV (st := []) (c_seriesNull cN gN hg1 hg2 hgs) lk_X9_170 lm_X9_seriesNumbered rfl rfl rfl rfl (Nat.le_of_ble_eq_true rfl) rfl ⟨rfl, rfl⟩ dX9_times_8 rfl ?_
      show vs_V _ _ _ _ _ (.null :: _) _
      refine vs_astoreN [(4, .null), (3, .ref (G.2.2.2 + (88 + 3 * f))), (0, .ref (G.2.2.2 + 0)), (1, .int (nI f)), (2, .int (nZ g))] dX9_times_11 rfl rfl rfl ?_
      refine vs_aload_n 3 dX9_times_13 rfl rfl 1 rfl ?_
      refine vs_ifnull dX9_times_14 rfl ?_
      refine vs_aloadN dX9_times_17 rfl 0 rfl ?_
      refine vs_ifnonnullN dX9_times_19 rfl ?_
      refine vs_bipush (v := -101) dX9_times_22 rfl rfl ?_
      exact vs_iretP dX9_times_24 (cpost (v := -101) (a' := a) (by unfold sp_times; (try simp only [Int.toNat_natCast]); repeat (first | rw [if_pos (by omega)] | rw [if_neg (by omega)])) rfl hC frC.rf)
  · refine vs_aload_n 0 dX9_times_0 rfl rfl 0 rfl ?_
    refine vs_iload_n 1 dX9_times_1 rfl rfl 1 rfl ?_
    refine vs_callV (st := []) (c_seriesNull cN gN hf1 hf2 hfs) lk_X9_170 lm_X9_seriesNumbered rfl rfl rfl rfl (Nat.le_of_ble_eq_true rfl) rfl ⟨rfl, rfl⟩ dX9_times_2 rfl ?_
    show vs_V _ _ _ _ _ (.null :: _) _
    refine vs_astore_nN 3 [(3, .null), (0, .ref (G.2.2.2 + 0)), (1, .int (nZ f)), (2, .int (nZ g))] dX9_times_5 rfl rfl rfl rfl ?_
    by_cases hgs : 0 ≤ g ∧ g < aN a
    · obtain ⟨g, rfl⟩ : ∃ z0 : Nat, g = z0 := ⟨g.toNat, by omega⟩
      rw [nZ_n g]
      have hg : g < 10 := by omega
      have hgN : g < aN a := by omega
      obtain ⟨g1, g2⟩ := cSe g hgN
      obtain ⟨g3, g4⟩ := gSe g hgN
      refine vs_aload_n 0 dX9_times_6 rfl rfl 1 rfl ?_
      refine vs_iload_n 2 dX9_times_7 rfl rfl 3 rfl ?_
      refine vs_callV (st := []) (c_seriesNo cN gN hgN (cR2 g hg)) lk_X9_170 lm_X9_seriesNumbered rfl rfl rfl rfl (Nat.le_of_ble_eq_true rfl) rfl ⟨rfl, rfl⟩ dX9_times_8 rfl ?_
      show vs_V _ _ _ _ _ (.ref (G.2.2.2 + (88 + 3 * g)) :: _) _
      refine vs_astore [(4, .ref (G.2.2.2 + (88 + 3 * g))), (3, .null), (0, .ref (G.2.2.2 + 0)), (1, .int (nZ f)), (2, .int (nI g))] dX9_times_11 rfl rfl rfl ?_
      refine vs_aload_nN 3 dX9_times_13 rfl rfl 1 rfl ?_
      refine vs_ifnullN 22 dX9_times_14 rfl ?_
      refine vs_bipush (v := -101) dX9_times_22 rfl rfl ?_
      exact vs_iretP dX9_times_24 (cpost (v := -101) (a' := a) (by unfold sp_times; (try simp only [Int.toNat_natCast]); repeat (first | rw [if_pos (by omega)] | rw [if_neg (by omega)])) rfl hC frC.rf)
    · refine vs_aload_n 0 dX9_times_6 rfl rfl 1 rfl ?_
      refine vs_iload_n 2 dX9_times_7 rfl rfl 3 rfl ?_
      refine vs_callV (st := []) (c_seriesNull cN gN hg1 hg2 hgs) lk_X9_170 lm_X9_seriesNumbered rfl rfl rfl rfl (Nat.le_of_ble_eq_true rfl) rfl ⟨rfl, rfl⟩ dX9_times_8 rfl ?_
      show vs_V _ _ _ _ _ (.null :: _) _
      refine vs_astoreN [(4, .null), (3, .null), (0, .ref (G.2.2.2 + 0)), (1, .int (nZ f)), (2, .int (nZ g))] dX9_times_11 rfl rfl rfl ?_
      refine vs_aload_nN 3 dX9_times_13 rfl rfl 1 rfl ?_
      refine vs_ifnullN 22 dX9_times_14 rfl ?_
      refine vs_bipush (v := -101) dX9_times_22 rfl rfl ?_
      exact vs_iretP dX9_times_24 (cpost (v := -101) (a' := a) (by unfold sp_times; (try simp only [Int.toNat_natCast]); repeat (first | rw [if_pos (by omega)] | rw [if_neg (by omega)])) rfl hC frC.rf)

theorem k_under {G : vv_G} {S : vs_S} {a : aS} (hC : CSt S a) (hG : aG a) {f : Int} (hf1 : -2147483648 ≤ f) (hf2 : f < 2147483648) : vs_CP G yX9_under cX9_under 3 (some .int) { frames := 4, locals := 100 } [.ref (G.2.2.2 + 0), .int (nZ f)] S (fun r S2 => r = some (.int (nZ (sp_under a f).1)) ∧ CSt S2 (sp_under a f).2 ∧ frC S S2) := by
  refine vs_ofP [(0, .ref (G.2.2.2 + 0)), (1, .int (nZ f))] (by decide) rfl rfl ?_
  have hG0 := hG
  obtain ⟨⟨cP, cN, cH⟩, ⟨cX, cY⟩, ⟨cA, cB⟩, cSe, cJs, cSh, ⟨cK0, cK⟩, ⟨cR1, cR2, cD⟩, cJ0⟩ := id hC
  obtain ⟨gP, gP2, gN, gH, gSe, gSh, gXY, gB31, gInj, gA, gB, gAz, gBz⟩ := hG
  have gP1 := gP.1
  obtain ⟨g13, h13⟩ := cJ0 13 (by simp)
  obtain ⟨g15, h15⟩ := cJ0 15 (by simp)
  have F : vs_fx S S [14, 16] [] [] := vs_fx.rf
  by_cases hfs : 0 ≤ f ∧ f < aN a
  · obtain ⟨f, rfl⟩ : ∃ z0 : Nat, f = z0 := ⟨f.toNat, by omega⟩
    rw [nZ_n f]
    have hf : f < 10 := by omega
    have hfN : f < aN a := by omega
    obtain ⟨f1, f2⟩ := cSe f hfN
    obtain ⟨f3, f4⟩ := gSe f hfN
    refine vs_aload_n 0 dX9_under_0 rfl rfl 0 rfl ?_
    refine vs_iload_n 1 dX9_under_1 rfl rfl 1 rfl ?_
    refine vs_callV (st := []) (c_seriesNo cN gN hfN (cR2 f hf)) lk_X9_170 lm_X9_seriesNumbered rfl rfl rfl rfl (Nat.le_of_ble_eq_true rfl) rfl ⟨rfl, rfl⟩ dX9_under_2 rfl ?_
    show vs_V _ _ _ _ _ (.ref (G.2.2.2 + (88 + 3 * f)) :: _) _
    refine vs_astore_n 2 [(2, .ref (G.2.2.2 + (88 + 3 * f))), (0, .ref (G.2.2.2 + 0)), (1, .int (nI f))] dX9_under_5 rfl rfl rfl rfl ?_
    refine vs_aload_n 2 dX9_under_6 rfl rfl 0 rfl ?_
    refine vs_ifnonnull 13 dX9_under_7 rfl ?_
    refine vs_aload_n 0 dX9_under_13 rfl rfl 1 rfl ?_
    refine vs_get (v := .ref (G.2.2.2 + 12)) lf_X9_46 rfl rfl dX9_under_14 rfl ?_
    refine vs_get (v := .ref (G.2.2.2 + 13)) lf_X9_160 rfl rfl dX9_under_17 rfl ?_
    refine vs_iconst (v := 1) dX9_under_20 rfl rfl ?_
    refine vs_callV (st := []) (c_becomeNumber (o := 13) ⟨rfl, rfl⟩ h13 (x := 1)) lk_X9_192 lm_X3_becomeNumber rfl rfl rfl rfl (Nat.le_of_ble_eq_true rfl) rfl ⟨rfl, rfl⟩ dX9_under_21 rfl ?_
    refine vs_gen (fun T1 e_T1 => ?_)
    have cP : T1.1 1 0 = nI (aP a) := by rw [e_T1]; repeat (first | exact cP | rw [vs_ia_ne (by omega)] | rw [vs_ia_1] | rw [vs_sc_ne (by omega)] | rw [vs_sc_nf (by omega)])
    have h15 : pR T1 15 g15 := ⟨by rw [e_T1]; repeat (first | exact h15.1 | rw [vs_ia_ne (by omega)]), h15.2⟩
    have F : vs_fx S T1 [14, 16] [] [] := by rw [e_T1]; repeat (first | exact F | refine vs_fx.ia ?_ (by simp <;> omega) | refine vs_fx.sc ?_ (by simp <;> omega) | refine vs_fx.la ?_ (by simp <;> omega))
    have f1 : T1.1 (88 + 3 * f) 1 = nI (aLa a f) := by rw [e_T1]; repeat (first | exact f1 | rw [vs_ia_ne (by omega)] | rw [vs_ia_1] | rw [vs_sc_ne (by omega)] | rw [vs_sc_nf (by omega)])
    have f2 : pR T1 (88 + 3 * f + 1) (aC a f) := ⟨by rw [e_T1]; repeat (first | exact f2.1 | rw [vs_ia_ne (by omega)]), f2.2⟩
    have h13 : pR T1 13 (pcon 1) := ⟨by rw [e_T1]; repeat (first | exact vs_ia_at | rw [vs_ia_ne (by omega)]), (pcon_z 1)⟩
    clear e_T1
    refine vs_aload_n 0 dX9_under_24 rfl rfl 1 rfl ?_
    refine vs_get (v := .ref (G.2.2.2 + 12)) lf_X9_46 rfl rfl dX9_under_25 rfl ?_
    refine vs_get (v := .ref (G.2.2.2 + 15)) lf_X9_163 rfl rfl dX9_under_28 rfl ?_
    refine vs_aload_n 2 dX9_under_31 rfl rfl 0 rfl ?_
    refine vs_get (v := .ref (G.2.2.2 + (88 + 3 * f + 1))) lf_X9_149 (vs_Se_k hf).1 rfl dX9_under_32 rfl ?_
    refine vs_callV (st := []) (c_become (o := 15) ⟨rfl, rfl⟩ h15 (vs_Se_k hf).2 f2) lk_X9_196 lm_X3_become rfl rfl rfl rfl (Nat.le_of_ble_eq_true rfl) rfl ⟨rfl, rfl⟩ dX9_under_35 rfl ?_
    refine vs_gen (fun T2 e_T2 => ?_)
    have cP : T2.1 1 0 = nI (aP a) := by rw [e_T2]; repeat (first | exact cP | rw [vs_ia_ne (by omega)] | rw [vs_ia_1] | rw [vs_sc_ne (by omega)] | rw [vs_sc_nf (by omega)])
    have h13 : pR T2 13 (pcon 1) := ⟨by rw [e_T2]; repeat (first | exact h13.1 | rw [vs_ia_ne (by omega)]), h13.2⟩
    have F : vs_fx S T2 [14, 16] [] [] := by rw [e_T2]; repeat (first | exact F | refine vs_fx.ia ?_ (by simp <;> omega) | refine vs_fx.sc ?_ (by simp <;> omega) | refine vs_fx.la ?_ (by simp <;> omega))
    have f1 : T2.1 (88 + 3 * f) 1 = nI (aLa a f) := by rw [e_T2]; repeat (first | exact f1 | rw [vs_ia_ne (by omega)] | rw [vs_ia_1] | rw [vs_sc_ne (by omega)] | rw [vs_sc_nf (by omega)])
    have f2 : pR T2 (88 + 3 * f + 1) (aC a f) := ⟨by rw [e_T2]; repeat (first | exact f2.1 | rw [vs_ia_ne (by omega)]), f2.2⟩
    have h15 : pR T2 15 (aC a f) := ⟨by rw [e_T2]; repeat (first | exact vs_ia_at | rw [vs_ia_ne (by omega)]), f2.2⟩
    clear e_T2
    have hC1 : CSt T2 a := CSt.sr hC F (by simp [scr]) (by simp) (by simp) (fun o ho => by simp at ho; rcases ho with rfl | rfl | ho; exact ⟨_, h13⟩; exact ⟨_, h15⟩; exact F.j (by simp <;> omega) (cJ0 o (by simp; omega)))
    have hf1 : frC S T2 := F.C (by simp) (by simp) (by simp)
    refine vs_aload_n 0 dX9_under_38 rfl rfl 1 rfl ?_
    refine vs_aload_n 0 dX9_under_39 rfl rfl 1 rfl ?_
    refine vs_get (v := .ref (G.2.2.2 + 12)) lf_X9_46 rfl rfl dX9_under_40 rfl ?_
    refine vs_aload_n 2 dX9_under_43 rfl rfl 0 rfl ?_
    refine vs_get (v := .int (nI (aLa a f))) lf_X9_173 (vs_Se_k hf).1 (congrArg (fun z => some (Value.int z)) f1) dX9_under_44 rfl ?_
    refine vs_callVP (st := []) (k_ku (o := 12) hC1 hG0 ⟨rfl, ⟨rfl, rfl⟩, ⟨rfl, rfl⟩⟩ (by decide) h13 h15 (pcon_b (by omega)) f4 (n := aLa a f) (by omega)) lk_X9_166 lm_X9_keepUnfolded rfl rfl rfl rfl (Nat.le_of_ble_eq_true rfl) rfl ⟨rfl, rfl⟩ dX9_under_47 rfl (fun rr S1 hh => ?_)
    obtain ⟨rfl, hC2, hf2⟩ := hh
    show vs_V _ _ _ _ _ (.int (nZ ((sp_ku a (pcon 1) (aC a f) (aLa a f)).1)) :: _) _
    have hsp : sp_under a f = sp_ku a (pcon 1) (aC a f) (aLa a f) := (by unfold sp_under; (try simp only [Int.toNat_natCast]); repeat (first | rw [if_pos (by omega)] | rw [if_neg (by omega)]))
    exact vs_iretP dX9_under_50 (by rw [hsp]; exact ⟨rfl, hC2, hf1.tr hf2⟩)
  · refine vs_aload_n 0 dX9_under_0 rfl rfl 0 rfl ?_
    refine vs_iload_n 1 dX9_under_1 rfl rfl 1 rfl ?_
    refine vs_callV (st := []) (c_seriesNull cN gN hf1 hf2 hfs) lk_X9_170 lm_X9_seriesNumbered rfl rfl rfl rfl (Nat.le_of_ble_eq_true rfl) rfl ⟨rfl, rfl⟩ dX9_under_2 rfl ?_
    show vs_V _ _ _ _ _ (.null :: _) _
    refine vs_astore_nN 2 [(2, .null), (0, .ref (G.2.2.2 + 0)), (1, .int (nZ f))] dX9_under_5 rfl rfl rfl rfl ?_
    refine vs_aload_nN 2 dX9_under_6 rfl rfl 0 rfl ?_
    refine vs_ifnonnullN dX9_under_7 rfl ?_
    refine vs_bipush (v := -101) dX9_under_10 rfl rfl ?_
    exact vs_iretP dX9_under_12 (cpost (v := -101) (a' := a) (by unfold sp_under; (try simp only [Int.toNat_natCast]); repeat (first | rw [if_pos (by omega)] | rw [if_neg (by omega)])) rfl hC frC.rf)

theorem l_moved {G : vv_G} {S : vs_S} {N : Nat} (hN : N < 10) {f : Nat} (hfN : f < N) {cf : Nat → Nat} (hf2 : pR S (88 + 3 * f + 1) cf) {P n : Nat} (cP : S.1 1 0 = nI P) (gP1 : 2 ≤ P) (gP2 : P ≤ 30011) (bf : ∀ k, cf k < P) (hlast : S.1 (88 + 3 * N) 1 = nI n) (hn : n ≤ 40) {Pst : Option Value → vs_S → Prop} {b k : Nat} (hb : b < P) (hk : k ≤ 40) (K : vs_V G cX9_moved (vs_MP yX9_moved 9 (some .int) { frames := 3, locals := 66 } G Pst) 123 [(0, .ref (G.2.2.2 + 0))] [] (vs_ia S (88 + 3 * N + 1 + 1) (nA (mvk P cf b k (n + 1 - k))))) : ∀ d i : Nat, i + d = n + 1 - k → vs_V G cX9_moved (vs_MP yX9_moved 9 (some .int) { frames := 3, locals := 66 } G Pst) 61 [(8, .int (nI i)), (7, .int (nI (b ^ i % P))), (6, .int (nI b)), (5, .ref (G.2.2.2 + (88 + 3 * N))), (4, .ref (G.2.2.2 + (88 + 3 * f))), (0, .ref (G.2.2.2 + 0)), (3, .int (nI k))] [] (vs_ia S (88 + 3 * N + 1 + 1) (nA (mvk P cf b k i))) := by
  intro d
  induction d with
  | zero =>
    intro i hi
    obtain rfl : i = n + 1 - k := by omega
    refine vs_iload dX9_moved_61 rfl 0 rfl ?_
    refine vs_iload_n 3 dX9_moved_63 rfl rfl 6 rfl ?_
    refine vs_iadd dX9_moved_64 rfl ?_
    refine vs_aload dX9_moved_65 rfl 3 rfl ?_
    refine vs_get (v := .int (nI n)) lf_X9_173 (vs_Se_k hN).1 (congrArg (fun z => some (Value.int z)) hlast) dX9_moved_67 rfl ?_
    refine vs_icmp_gt 123 dX9_moved_70 rfl rfl (fun c_70 => ?_) (fun c_70 => ?_)
    · have q_70 : ((((n + 1 - k) + k) : Nat) : Int) > ((n : Nat) : Int) := (qi_gt (by first | exact nI_Z _ | (simp only [fa_lit, nI_add, pk_mul, nI_1]; exact nI_Z _)) (nI_Z _) (by omega) (by omega) (by omega) (by omega)).mp c_70
      refine vs_pick [5] rfl ?_
      exact K
    · have q_70 : ¬ ((((n + 1 - k) + k) : Nat) : Int) > ((n : Nat) : Int) := fun hh => c_70 ((qi_gt (by first | exact nI_Z _ | (simp only [fa_lit, nI_add, pk_mul, nI_1]; exact nI_Z _)) (nI_Z _) (by omega) (by omega) (by omega) (by omega)).mpr hh)
      omega
  | succ d ih =>
    intro i hi
    have p1 : pR (vs_ia S (88 + 3 * N + 1 + 1) (nA (mvk P cf b k i))) (88 + 3 * f + 1) cf := ⟨(vs_ia_ne (by omega)).trans hf2.1, hf2.2⟩
    have p3 : pR (vs_ia S (88 + 3 * N + 1 + 1) (nA (mvk P cf b k i))) (88 + 3 * N + 1) (mvk P cf b k i) := ⟨vs_ia_at, mvk_z (by omega)⟩
    have b1 := bf i
    have b2 := Nat.mod_lt (b ^ i) (show P > 0 by omega)
    refine vs_iload dX9_moved_61 rfl 0 rfl ?_
    refine vs_iload_n 3 dX9_moved_63 rfl rfl 6 rfl ?_
    refine vs_iadd dX9_moved_64 rfl ?_
    refine vs_aload dX9_moved_65 rfl 3 rfl ?_
    refine vs_get (v := .int (nI n)) lf_X9_173 (vs_Se_k hN).1 (congrArg (fun z => some (Value.int z)) hlast) dX9_moved_67 rfl ?_
    refine vs_icmp_gt 123 dX9_moved_70 rfl rfl (fun c_70 => ?_) (fun c_70 => ?_)
    · have q_70 : (((i + k) : Nat) : Int) > ((n : Nat) : Int) := (qi_gt (by first | exact nI_Z _ | (simp only [fa_lit, nI_add, pk_mul, nI_1]; exact nI_Z _)) (nI_Z _) (by omega) (by omega) (by omega) (by omega)).mp c_70
      omega
    · have q_70 : ¬ (((i + k) : Nat) : Int) > ((n : Nat) : Int) := fun hh => c_70 ((qi_gt (by first | exact nI_Z _ | (simp only [fa_lit, nI_add, pk_mul, nI_1]; exact nI_Z _)) (nI_Z _) (by omega) (by omega) (by omega) (by omega)).mpr hh)
      refine vs_aload dX9_moved_73 rfl 3 rfl ?_
      refine vs_get (v := .ref (G.2.2.2 + (88 + 3 * N + 1))) lf_X9_149 (vs_Se_k hN).1 rfl dX9_moved_75 rfl ?_
      refine vs_iload dX9_moved_78 rfl 0 rfl ?_
      refine vs_iload_n 3 dX9_moved_80 rfl rfl 6 rfl ?_
      refine vs_iadd dX9_moved_81 rfl ?_
      refine vs_topi (fun z1 e_z1 => ?_)
      have f_z1 : z1 = nI (i + k) := (by rw [e_z1]; exact nI_add _ _)
      subst f_z1
      clear e_z1
      refine vs_aload_n 0 dX9_moved_82 rfl rfl 5 rfl ?_
      refine vs_get (v := .ref (G.2.2.2 + 1)) lf_X9_12 rfl rfl dX9_moved_83 rfl ?_
      refine vs_iload dX9_moved_86 rfl 1 rfl ?_
      refine vs_aload dX9_moved_88 rfl 4 rfl ?_
      refine vs_get (v := .ref (G.2.2.2 + (88 + 3 * f + 1))) lf_X9_149 (vs_Se_k (show f < 10 by omega)).1 rfl dX9_moved_90 rfl ?_
      refine vs_iload dX9_moved_93 rfl 0 rfl ?_
      refine vs_callV (st := [.int (nI (b ^ i % P)), .ref (G.2.2.2 + 1), .int (nI (i + k)), .ref (G.2.2.2 + (88 + 3 * N + 1))]) (c_atN (vs_Se_k (show f < 10 by omega)).2 p1 (k := i) (by omega)) lk_X9_186 lm_X3_at rfl (vs_Se_k (show f < 10 by omega)).2.1 rfl rfl (Nat.le_of_ble_eq_true rfl) rfl ⟨rfl, rfl⟩ dX9_moved_95 rfl ?_
      show vs_V _ _ _ _ _ (.int (nI (cf i)) :: _) _
      refine vs_callV (st := [.int (nI (i + k)), .ref (G.2.2.2 + (88 + 3 * N + 1))]) (c_rproduct (x := b ^ i % P) (y := cf i) cP gP1 (by omega) (by omega) (by omega)) lk_X9_200 lm_X5_product rfl rfl rfl rfl (Nat.le_of_ble_eq_true rfl) rfl ⟨rfl, rfl⟩ dX9_moved_98 rfl ?_
      show vs_V _ _ _ _ _ (.int (nI (b ^ i % P * cf i % P)) :: _) _
      refine vs_callV (st := []) (c_setN (vs_Se_k hN).2 p3 (k := i + k) (by omega)) lk_X9_189 lm_X3_set rfl (vs_Se_k hN).2.1 rfl rfl (Nat.le_of_ble_eq_true rfl) rfl ⟨rfl, rfl⟩ dX9_moved_101 rfl ?_
      refine vs_eq (S2 := (vs_ia S (88 + 3 * N + 1 + 1) (nA (mvk P cf b k (i + 1))))) (by rw [vs_ia_ia, mvk_s]) ?_
      refine vs_aload_n 0 dX9_moved_104 rfl rfl 5 rfl ?_
      refine vs_get (v := .ref (G.2.2.2 + 1)) lf_X9_12 rfl rfl dX9_moved_105 rfl ?_
      refine vs_iload dX9_moved_108 rfl 1 rfl ?_
      refine vs_iload dX9_moved_110 rfl 2 rfl ?_
      refine vs_callV (st := []) (c_rproduct (x := b ^ i % P) (y := b) cP gP1 (by omega) (by omega) (by omega)) lk_X9_200 lm_X5_product rfl rfl rfl rfl (Nat.le_of_ble_eq_true rfl) rfl ⟨rfl, rfl⟩ dX9_moved_112 rfl ?_
      rw [show b ^ i % P * b % P = b ^ (i + 1) % P by rw [Nat.mod_mul_mod, Nat.pow_succ]]
      show vs_V _ _ _ _ _ (.int (nI (b ^ (i + 1) % P)) :: _) _
      refine vs_istore [(7, .int (nI (b ^ (i + 1) % P))), (8, .int (nI i)), (6, .int (nI b)), (5, .ref (G.2.2.2 + (88 + 3 * N))), (4, .ref (G.2.2.2 + (88 + 3 * f))), (0, .ref (G.2.2.2 + 0)), (3, .int (nI k))] dX9_moved_115 rfl rfl rfl ?_
      refine vs_iinc (v := nI (i + 1)) [(8, .int (nI (i + 1))), (7, .int (nI (b ^ (i + 1) % P))), (6, .int (nI b)), (5, .ref (G.2.2.2 + (88 + 3 * N))), (4, .ref (G.2.2.2 + (88 + 3 * f))), (0, .ref (G.2.2.2 + 0)), (3, .int (nI k))] dX9_moved_117 rfl 1 rfl (by first | exact nI_1 _ | (simp only [fa_lit, nI_add, pk_mul, nI_1]; rfl)) rfl rfl ?_
      refine vs_goto 61 dX9_moved_120 rfl ?_
      refine vs_pick [0, 1, 2, 3, 4, 5, 6] rfl ?_
      exact ih (i + 1) (by omega)

theorem k_moved {G : vv_G} {S : vs_S} {a : aS} (hC : CSt S a) (hG : aG a) {f : Int} (hf1 : -2147483648 ≤ f) (hf2 : f < 2147483648) {x : Int} (hx1 : -2147483648 ≤ x) (hx2 : x < 2147483648) {k : Int} (hk1 : -2147483648 ≤ k) (hk2 : k < 2147483648) : vs_CP G yX9_moved cX9_moved 9 (some .int) { frames := 3, locals := 66 } [.ref (G.2.2.2 + 0), .int (nZ f), .int (nZ x), .int (nZ k)] S (fun r S2 => r = some (.int (nZ (sp_moved a f x k).1)) ∧ CSt S2 (sp_moved a f x k).2 ∧ frC S S2) := by
  refine vs_ofP [(0, .ref (G.2.2.2 + 0)), (1, .int (nZ f)), (2, .int (nZ x)), (3, .int (nZ k))] (by decide) rfl rfl ?_
  obtain ⟨⟨cP, cN, cH⟩, ⟨cX, cY⟩, ⟨cA, cB⟩, cSe, cJs, cSh, ⟨cK0, cK⟩, ⟨cR1, cR2, cD⟩, cJ0⟩ := id hC
  obtain ⟨gP, gP2, gN, gH, gSe, gSh, gXY, gB31, gInj, gA, gB, gAz, gBz⟩ := hG
  have gP1 := gP.1
  have F : vs_fx S S [88 + 3 * aN a + 1 + 1] [(0, 3), (88 + 3 * aN a, 1)] [] := vs_fx.rf
  by_cases hfs : 0 ≤ f ∧ f < aN a
  · obtain ⟨f, rfl⟩ : ∃ z0 : Nat, f = z0 := ⟨f.toNat, by omega⟩
    rw [nZ_n f]
    have hf : f < 10 := by omega
    have hfN : f < aN a := by omega
    obtain ⟨f1, f2⟩ := cSe f hfN
    obtain ⟨f3, f4⟩ := gSe f hfN
    refine vs_aload_n 0 dX9_moved_0 rfl rfl 0 rfl ?_
    refine vs_iload_n 1 dX9_moved_1 rfl rfl 1 rfl ?_
    refine vs_callV (st := []) (c_seriesNo cN gN hfN (cR2 f hf)) lk_X9_170 lm_X9_seriesNumbered rfl rfl rfl rfl (Nat.le_of_ble_eq_true rfl) rfl ⟨rfl, rfl⟩ dX9_moved_2 rfl ?_
    show vs_V _ _ _ _ _ (.ref (G.2.2.2 + (88 + 3 * f)) :: _) _
    refine vs_astore [(4, .ref (G.2.2.2 + (88 + 3 * f))), (0, .ref (G.2.2.2 + 0)), (1, .int (nI f)), (2, .int (nZ x)), (3, .int (nZ k))] dX9_moved_5 rfl rfl rfl ?_
    refine vs_aload dX9_moved_7 rfl 0 rfl ?_
    refine vs_ifnonnull 15 dX9_moved_9 rfl ?_
    refine vs_iload_n 3 dX9_moved_15 rfl rfl 4 rfl ?_
    refine vs_callS (st := []) (c_isLength hk1 hk2) lk_X9_142 lm_X9_isLength rfl rfl (Nat.le_of_ble_eq_true rfl) rfl ⟨rfl, rfl⟩ dX9_moved_16 rfl ?_
    show vs_V _ _ _ _ _ (.int ((if 0 ≤ k ∧ k ≤ 40 then 1 else 0)) :: _) _
    refine vs_if_ne 25 dX9_moved_19 rfl rfl (fun c_19 => ?_) (fun c_19 => ?_)
    · rw [nn_is0, Classical.not_not] at c_19
      by_cases hN : aN a < 10
      · obtain ⟨gn, hgn⟩ := cJs (aN a) hN
        obtain ⟨k, rfl⟩ : ∃ z0 : Nat, k = z0 := ⟨k.toNat, by omega⟩
        rw [nZ_n k]
        refine vs_aload_n 0 dX9_moved_25 rfl rfl 1 rfl ?_
        refine vs_aload dX9_moved_26 rfl 0 rfl ?_
        refine vs_get (v := .int (nI (aLa a f))) lf_X9_173 (vs_Se_k hf).1 (congrArg (fun z => some (Value.int z)) f1) dX9_moved_28 rfl ?_
        refine vs_callV (st := []) (c_fresh cN hN (cR2 (aN a) hN) hgn) lk_X9_145 lm_X9_freshSeries rfl rfl rfl rfl (Nat.le_of_ble_eq_true rfl) rfl ⟨rfl, rfl⟩ dX9_moved_31 rfl ?_
        show vs_V _ _ _ _ _ (.ref (G.2.2.2 + (88 + 3 * aN a)) :: _) _
        refine vs_gen (fun T1 e_T1 => ?_)
        have cP : T1.1 1 0 = nI (aP a) := by rw [e_T1]; repeat (first | exact cP | rw [vs_ia_ne (by omega)] | rw [vs_ia_1] | rw [vs_sc_ne (by omega)] | rw [vs_sc_nf (by omega)])
        have cN : T1.1 0 3 = nI (aN a) := by rw [e_T1]; repeat (first | exact cN | rw [vs_ia_ne (by omega)] | rw [vs_ia_1] | rw [vs_sc_ne (by omega)] | rw [vs_sc_nf (by omega)])
        have F : vs_fx S T1 [88 + 3 * aN a + 1 + 1] [(0, 3), (88 + 3 * aN a, 1)] [] := by rw [e_T1]; repeat (first | exact F | refine vs_fx.ia ?_ (by simp <;> omega) | refine vs_fx.sc ?_ (by simp <;> omega) | refine vs_fx.la ?_ (by simp <;> omega))
        have f1 : T1.1 (88 + 3 * f) 1 = nI (aLa a f) := by rw [e_T1]; repeat (first | exact f1 | rw [vs_ia_ne (by omega)] | rw [vs_ia_1] | rw [vs_sc_ne (by omega)] | rw [vs_sc_nf (by omega)])
        have f2 : pR T1 (88 + 3 * f + 1) (aC a f) := ⟨by rw [e_T1]; repeat (first | exact f2.1 | rw [vs_ia_ne (by omega)]), f2.2⟩
        have hnum : pR T1 (88 + 3 * aN a + 1) (pcon 0) := ⟨by rw [e_T1]; repeat (first | exact vs_ia_at | rw [vs_ia_ne (by omega)]), (pcon_z 0)⟩
        have hlast : T1.1 (88 + 3 * aN a) 1 = nI (aLa a f) := by rw [e_T1]; repeat (first | exact vs_ia_at | exact vs_sc_at | rw [vs_ia_ne (by omega)] | rw [vs_ia_1] | rw [vs_sc_ne (by omega)] | rw [vs_sc_nf (by omega)])
        clear e_T1
        refine vs_astore [(5, .ref (G.2.2.2 + (88 + 3 * aN a))), (4, .ref (G.2.2.2 + (88 + 3 * f))), (0, .ref (G.2.2.2 + 0)), (1, .int (nI f)), (2, .int (nZ x)), (3, .int (nZ k))] dX9_moved_34 rfl rfl rfl ?_
        refine vs_aload dX9_moved_36 rfl 0 rfl ?_
        refine vs_ifnonnull 44 dX9_moved_38 rfl ?_
        refine vs_aload_n 0 dX9_moved_44 rfl rfl 2 rfl ?_
        refine vs_get (v := .ref (G.2.2.2 + 1)) lf_X9_12 rfl rfl dX9_moved_45 rfl ?_
        refine vs_iload_n 2 dX9_moved_48 rfl rfl 4 rfl ?_
        refine vs_i2l dX9_moved_49 rfl ?_
        refine vs_callV (st := []) (c_ofZ (z := x) (by rw [nn_i2l, nZ_i hx1 hx2]) cP gP1 gP2) lk_X9_182 lm_X5_of rfl rfl rfl rfl (Nat.le_of_ble_eq_true rfl) rfl ⟨rfl, rfl⟩ dX9_moved_50 rfl ?_
        show vs_V _ _ _ _ _ (.int (nI (nn_m x (aP a))) :: _) _
        refine vs_istore [(6, .int (nI (nn_m x (aP a)))), (5, .ref (G.2.2.2 + (88 + 3 * aN a))), (4, .ref (G.2.2.2 + (88 + 3 * f))), (0, .ref (G.2.2.2 + 0)), (1, .int (nI f)), (2, .int (nZ x)), (3, .int (nZ k))] dX9_moved_53 rfl rfl rfl ?_
        refine vs_iconst (v := 1) dX9_moved_55 rfl rfl ?_
        refine vs_istore [(7, .int (1)), (6, .int (nI (nn_m x (aP a)))), (5, .ref (G.2.2.2 + (88 + 3 * aN a))), (4, .ref (G.2.2.2 + (88 + 3 * f))), (0, .ref (G.2.2.2 + 0)), (1, .int (nI f)), (2, .int (nZ x)), (3, .int (nZ k))] dX9_moved_56 rfl rfl rfl ?_
        refine vs_iconst (v := 0) dX9_moved_58 rfl rfl ?_
        refine vs_istore [(8, .int (0)), (7, .int (1)), (6, .int (nI (nn_m x (aP a)))), (5, .ref (G.2.2.2 + (88 + 3 * aN a))), (4, .ref (G.2.2.2 + (88 + 3 * f))), (0, .ref (G.2.2.2 + 0)), (1, .int (nI f)), (2, .int (nZ x)), (3, .int (nZ k))] dX9_moved_59 rfl rfl rfl ?_
        refine vs_pick (L2 := [(8, .int (nI 0)), (7, .int (nI (nn_m x (aP a) ^ 0 % aP a))), (6, .int (nI (nn_m x (aP a)))), (5, .ref (G.2.2.2 + (88 + 3 * aN a))), (4, .ref (G.2.2.2 + (88 + 3 * f))), (0, .ref (G.2.2.2 + 0)), (3, .int (nI k))]) [0, 1, 2, 3, 4, 5, 8] (by rw [Nat.pow_zero, Nat.mod_eq_of_lt (show 1 < aP a by omega)]; rfl) ?_
        refine vs_eq (S2 := vs_ia T1 (88 + 3 * aN a + 1 + 1) (nA (mvk (aP a) (aC a f) (nn_m x (aP a)) k 0))) (by rw [mvk_0]; exact vs_ia_same hnum.1) ?_
        refine l_moved hN hfN f2 cP gP1 gP2 f4 hlast (show aLa a f ≤ 40 by omega) (b := nn_m x (aP a)) (k := k) (nn_m_lt (by omega)) (by omega) ?_ (aLa a f + 1 - k) 0 (by omega)
        refine vs_gen (fun T2 e_T2 => ?_)
        have cP : T2.1 1 0 = nI (aP a) := by rw [e_T2]; repeat (first | exact cP | rw [vs_ia_ne (by omega)] | rw [vs_ia_1] | rw [vs_sc_ne (by omega)] | rw [vs_sc_nf (by omega)])
        have cN : T2.1 0 3 = nI (aN a) := by rw [e_T2]; repeat (first | exact cN | rw [vs_ia_ne (by omega)] | rw [vs_ia_1] | rw [vs_sc_ne (by omega)] | rw [vs_sc_nf (by omega)])
        have F : vs_fx S T2 [88 + 3 * aN a + 1 + 1] [(0, 3), (88 + 3 * aN a, 1)] [] := by rw [e_T2]; repeat (first | exact F | refine vs_fx.ia ?_ (by simp <;> omega) | refine vs_fx.sc ?_ (by simp <;> omega) | refine vs_fx.la ?_ (by simp <;> omega))
        have f1 : T2.1 (88 + 3 * f) 1 = nI (aLa a f) := by rw [e_T2]; repeat (first | exact f1 | rw [vs_ia_ne (by omega)] | rw [vs_ia_1] | rw [vs_sc_ne (by omega)] | rw [vs_sc_nf (by omega)])
        have f2 : pR T2 (88 + 3 * f + 1) (aC a f) := ⟨by rw [e_T2]; repeat (first | exact f2.1 | rw [vs_ia_ne (by omega)]), f2.2⟩
        have hlast : T2.1 (88 + 3 * aN a) 1 = nI (aLa a f) := by rw [e_T2]; repeat (first | exact hlast | rw [vs_ia_ne (by omega)] | rw [vs_ia_1] | rw [vs_sc_ne (by omega)] | rw [vs_sc_nf (by omega)])
        have hnum : pR T2 (88 + 3 * aN a + 1) (mvk (aP a) (aC a f) (nn_m x (aP a)) k (aLa a f + 1 - k)) := ⟨by rw [e_T2]; repeat (first | exact vs_ia_at | rw [vs_ia_ne (by omega)]), (mvk_z (by omega))⟩
        clear e_T2
        refine vs_aload_n 0 dX9_moved_123 rfl rfl 0 rfl ?_
        refine vs_callV (st := []) (c_keepFresh cN (by omega)) lk_X9_156 lm_X9_keepFresh rfl rfl rfl rfl (Nat.le_of_ble_eq_true rfl) rfl ⟨rfl, rfl⟩ dX9_moved_124 rfl ?_
        show vs_V _ _ _ _ _ (.int (nI (aN a)) :: _) _
        refine vs_gen (fun T3 e_T3 => ?_)
        have cP : T3.1 1 0 = nI (aP a) := by rw [e_T3]; repeat (first | exact cP | rw [vs_ia_ne (by omega)] | rw [vs_ia_1] | rw [vs_sc_ne (by omega)] | rw [vs_sc_nf (by omega)])
        have F : vs_fx S T3 [88 + 3 * aN a + 1 + 1] [(0, 3), (88 + 3 * aN a, 1)] [] := by rw [e_T3]; repeat (first | exact F | refine vs_fx.ia ?_ (by simp <;> omega) | refine vs_fx.sc ?_ (by simp <;> omega) | refine vs_fx.la ?_ (by simp <;> omega))
        have f1 : T3.1 (88 + 3 * f) 1 = nI (aLa a f) := by rw [e_T3]; repeat (first | exact f1 | rw [vs_ia_ne (by omega)] | rw [vs_ia_1] | rw [vs_sc_ne (by omega)] | rw [vs_sc_nf (by omega)])
        have f2 : pR T3 (88 + 3 * f + 1) (aC a f) := ⟨by rw [e_T3]; repeat (first | exact f2.1 | rw [vs_ia_ne (by omega)]), f2.2⟩
        have hnum : pR T3 (88 + 3 * aN a + 1) (mvk (aP a) (aC a f) (nn_m x (aP a)) k (aLa a f + 1 - k)) := ⟨by rw [e_T3]; repeat (first | exact hnum.1 | rw [vs_ia_ne (by omega)]), hnum.2⟩
        have hlast : T3.1 (88 + 3 * aN a) 1 = nI (aLa a f) := by rw [e_T3]; repeat (first | exact hlast | rw [vs_ia_ne (by omega)] | rw [vs_ia_1] | rw [vs_sc_ne (by omega)] | rw [vs_sc_nf (by omega)])
        have cN : T3.1 0 3 = nI (aN a + 1) := by rw [e_T3]; repeat (first | exact vs_ia_at | exact vs_sc_at | rw [vs_ia_ne (by omega)] | rw [vs_ia_1] | rw [vs_sc_ne (by omega)] | rw [vs_sc_nf (by omega)])
        clear e_T3
        exact vs_iretP dX9_moved_127 (cpost (v := (aN a : Int)) (a' := s_se a (aLa a f) ((mvk (aP a) (aC a f) (nn_m x (aP a)) k (aLa a f + 1 - k)))) (by unfold sp_moved sp_kp; (try simp only [Int.toNat_natCast]); repeat (first | rw [if_pos (by omega)] | rw [if_neg (by omega)])) (by rw [nZ_n]) (CSt.se hC F hN cN hlast hnum (by simp <;> omega) (by simp) (by simp) (cJ.fx cJ0 F (by simp [scr] <;> omega))) (F.C (by simp <;> omega) (by simp <;> omega) (by simp)))
      · have hN10 : aN a = 10 := by omega
        rw [hN10] at cN
        obtain ⟨k, rfl⟩ : ∃ z0 : Nat, k = z0 := ⟨k.toNat, by omega⟩
        rw [nZ_n k]
        refine vs_aload_n 0 dX9_moved_25 rfl rfl 1 rfl ?_
        refine vs_aload dX9_moved_26 rfl 0 rfl ?_
        refine vs_get (v := .int (nI (aLa a f))) lf_X9_173 (vs_Se_k hf).1 (congrArg (fun z => some (Value.int z)) f1) dX9_moved_28 rfl ?_
        refine vs_callV (st := []) (c_freshNull cN) lk_X9_145 lm_X9_freshSeries rfl rfl rfl rfl (Nat.le_of_ble_eq_true rfl) rfl ⟨rfl, rfl⟩ dX9_moved_31 rfl ?_
        show vs_V _ _ _ _ _ (.null :: _) _
        refine vs_astoreN [(5, .null), (4, .ref (G.2.2.2 + (88 + 3 * f))), (0, .ref (G.2.2.2 + 0)), (1, .int (nI f)), (2, .int (nZ x)), (3, .int (nZ k))] dX9_moved_34 rfl rfl rfl ?_
        refine vs_aloadN dX9_moved_36 rfl 0 rfl ?_
        refine vs_ifnonnullN dX9_moved_38 rfl ?_
        refine vs_bipush (v := -104) dX9_moved_41 rfl rfl ?_
        exact vs_iretP dX9_moved_43 (cpost (v := -104) (a' := a) (by unfold sp_moved sp_kp; (try simp only [Int.toNat_natCast]); repeat (first | rw [if_pos (by omega)] | rw [if_neg (by omega)])) rfl hC frC.rf)
    · rw [nn_is0] at c_19
      refine vs_bipush (v := -102) dX9_moved_22 rfl rfl ?_
      exact vs_iretP dX9_moved_24 (cpost (v := -102) (a' := a) (by unfold sp_moved; (try simp only [Int.toNat_natCast]); repeat (first | rw [if_pos (by omega)] | rw [if_neg (by omega)])) rfl hC frC.rf)
  · refine vs_aload_n 0 dX9_moved_0 rfl rfl 0 rfl ?_
    refine vs_iload_n 1 dX9_moved_1 rfl rfl 1 rfl ?_
    refine vs_callV (st := []) (c_seriesNull cN gN hf1 hf2 hfs) lk_X9_170 lm_X9_seriesNumbered rfl rfl rfl rfl (Nat.le_of_ble_eq_true rfl) rfl ⟨rfl, rfl⟩ dX9_moved_2 rfl ?_
    show vs_V _ _ _ _ _ (.null :: _) _
    refine vs_astoreN [(4, .null), (0, .ref (G.2.2.2 + 0)), (1, .int (nZ f)), (2, .int (nZ x)), (3, .int (nZ k))] dX9_moved_5 rfl rfl rfl ?_
    refine vs_aloadN dX9_moved_7 rfl 0 rfl ?_
    refine vs_ifnonnullN dX9_moved_9 rfl ?_
    refine vs_bipush (v := -101) dX9_moved_12 rfl rfl ?_
    exact vs_iretP dX9_moved_14 (cpost (v := -101) (a' := a) (by unfold sp_moved; (try simp only [Int.toNat_natCast]); repeat (first | rw [if_pos (by omega)] | rw [if_neg (by omega)])) rfl hC frC.rf)

theorem k_number {G : vv_G} {S : vs_S} {a : aS} (hC : CSt S a) (hG : aG a) {f : Int} (hf1 : -2147483648 ≤ f) (hf2 : f < 2147483648) {k : Int} (hk1 : -2147483648 ≤ k) (hk2 : k < 2147483648) : vs_CP G yX9_number cX9_number 4 (some .int) { frames := 1, locals := 21 } [.ref (G.2.2.2 + 0), .int (nZ f), .int (nZ k)] S (fun r S2 => r = some (.int (nZ (sp_number a f k).1)) ∧ CSt S2 (sp_number a f k).2 ∧ frC S S2) := by
  refine vs_ofP [(0, .ref (G.2.2.2 + 0)), (1, .int (nZ f)), (2, .int (nZ k))] (by decide) rfl rfl ?_
  obtain ⟨⟨cP, cN, cH⟩, ⟨cX, cY⟩, ⟨cA, cB⟩, cSe, cJs, cSh, ⟨cK0, cK⟩, ⟨cR1, cR2, cD⟩, cJ0⟩ := id hC
  obtain ⟨gP, gP2, gN, gH, gSe, gSh, gXY, gB31, gInj, gA, gB, gAz, gBz⟩ := hG
  have gP1 := gP.1
  by_cases hfs : 0 ≤ f ∧ f < aN a
  · obtain ⟨f, rfl⟩ : ∃ z0 : Nat, f = z0 := ⟨f.toNat, by omega⟩
    rw [nZ_n f]
    have hf : f < 10 := by omega
    have hfN : f < aN a := by omega
    obtain ⟨f1, f2⟩ := cSe f hfN
    obtain ⟨f3, f4⟩ := gSe f hfN
    refine vs_aload_n 0 dX9_number_0 rfl rfl 0 rfl ?_
    refine vs_iload_n 1 dX9_number_1 rfl rfl 1 rfl ?_
    refine vs_callV (st := []) (c_seriesNo cN gN hfN (cR2 f hf)) lk_X9_170 lm_X9_seriesNumbered rfl rfl rfl rfl (Nat.le_of_ble_eq_true rfl) rfl ⟨rfl, rfl⟩ dX9_number_2 rfl ?_
    show vs_V _ _ _ _ _ (.ref (G.2.2.2 + (88 + 3 * f)) :: _) _
    refine vs_astore_n 3 [(3, .ref (G.2.2.2 + (88 + 3 * f))), (0, .ref (G.2.2.2 + 0)), (1, .int (nI f)), (2, .int (nZ k))] dX9_number_5 rfl rfl rfl rfl ?_
    refine vs_aload_n 3 dX9_number_6 rfl rfl 0 rfl ?_
    refine vs_ifnonnull 13 dX9_number_7 rfl ?_
    refine vs_iload_n 2 dX9_number_13 rfl rfl 3 rfl ?_
    refine vs_if_lt 36 dX9_number_14 rfl rfl (fun c_14 => ?_) (fun c_14 => ?_)
    · have q_14 : (k : Int) < ((0 : Nat) : Int) := (qi_lt rfl (by first | exact nI_Z _ | (simp only [fa_lit, nI_add, pk_mul, nI_1]; exact nI_Z _)) (by omega) (by omega) (by omega) (by omega)).mp c_14
      refine vs_iconst (v := -1) dX9_number_36 rfl rfl ?_
      skip
      · exact vs_iretP dX9_number_37 (cpost (v := -1) (a' := a) (by unfold sp_number; (try simp only [Int.toNat_natCast]); repeat (first | rw [if_pos (by omega)] | rw [if_neg (by omega)])) rfl hC frC.rf)
    · have q_14 : ¬ (k : Int) < ((0 : Nat) : Int) := fun hh => c_14 ((qi_lt rfl (by first | exact nI_Z _ | (simp only [fa_lit, nI_add, pk_mul, nI_1]; exact nI_Z _)) (by omega) (by omega) (by omega) (by omega)).mpr hh)
      refine vs_iload_n 2 dX9_number_17 rfl rfl 3 rfl ?_
      refine vs_aload_n 3 dX9_number_18 rfl rfl 0 rfl ?_
      refine vs_get (v := .int (nI (aLa a f))) lf_X9_173 (vs_Se_k hf).1 (congrArg (fun z => some (Value.int z)) f1) dX9_number_19 rfl ?_
      refine vs_icmp_gt 36 dX9_number_22 rfl rfl (fun c_22 => ?_) (fun c_22 => ?_)
      · have q_22 : (k : Int) > (((aLa a f) : Nat) : Int) := (qi_gt rfl (nI_Z _) (by omega) (by omega) (by omega) (by omega)).mp c_22
        refine vs_iconst (v := -1) dX9_number_36 rfl rfl ?_
        skip
        · exact vs_iretP dX9_number_37 (cpost (v := -1) (a' := a) (by unfold sp_number; (try simp only [Int.toNat_natCast]); repeat (first | rw [if_pos (by omega)] | rw [if_neg (by omega)])) rfl hC frC.rf)
      · have q_22 : ¬ (k : Int) > (((aLa a f) : Nat) : Int) := fun hh => c_22 ((qi_gt rfl (nI_Z _) (by omega) (by omega) (by omega) (by omega)).mpr hh)
        refine vs_aload_n 3 dX9_number_25 rfl rfl 0 rfl ?_
        refine vs_get (v := .ref (G.2.2.2 + (88 + 3 * f + 1))) lf_X9_149 (vs_Se_k hf).1 rfl dX9_number_26 rfl ?_
        refine vs_iload_n 2 dX9_number_29 rfl rfl 3 rfl ?_
        refine vs_callV (st := []) (c_at (vs_Se_k hf).2 f2 (k := nZ k)) lk_X9_186 lm_X3_at rfl (vs_Se_k hf).2.1 rfl rfl (Nat.le_of_ble_eq_true rfl) rfl ⟨rfl, rfl⟩ dX9_number_30 rfl ?_
        rw [nZ_i (by omega) (by omega), nI_Z]
        show vs_V _ _ _ _ _ (.int (nZ ((pz (aC a f) k : Int))) :: _) _
        refine vs_goto 37 dX9_number_33 rfl ?_
        skip
        · exact vs_iretP dX9_number_37 (cpost (v := (pz (aC a f) k : Int)) (a' := a) (by unfold sp_number; (try simp only [Int.toNat_natCast]); rw [if_neg (by omega), if_neg (by omega)]; congr 1; unfold pz; rw [if_neg (by omega)]) rfl hC frC.rf)
  · refine vs_aload_n 0 dX9_number_0 rfl rfl 0 rfl ?_
    refine vs_iload_n 1 dX9_number_1 rfl rfl 1 rfl ?_
    refine vs_callV (st := []) (c_seriesNull cN gN hf1 hf2 hfs) lk_X9_170 lm_X9_seriesNumbered rfl rfl rfl rfl (Nat.le_of_ble_eq_true rfl) rfl ⟨rfl, rfl⟩ dX9_number_2 rfl ?_
    show vs_V _ _ _ _ _ (.null :: _) _
    refine vs_astore_nN 3 [(3, .null), (0, .ref (G.2.2.2 + 0)), (1, .int (nZ f)), (2, .int (nZ k))] dX9_number_5 rfl rfl rfl rfl ?_
    refine vs_aload_nN 3 dX9_number_6 rfl rfl 0 rfl ?_
    refine vs_ifnonnullN dX9_number_7 rfl ?_
    refine vs_bipush (v := -101) dX9_number_10 rfl rfl ?_
    exact vs_iretP dX9_number_12 (cpost (v := -101) (a' := a) (by unfold sp_number; (try simp only [Int.toNat_natCast]); repeat (first | rw [if_pos (by omega)] | rw [if_neg (by omega)])) rfl hC frC.rf)

theorem k_length {G : vv_G} {S : vs_S} {a : aS} (hC : CSt S a) (hG : aG a) {f : Int} (hf1 : -2147483648 ≤ f) (hf2 : f < 2147483648) : vs_CP G yX9_length cX9_length 3 (some .int) { frames := 1, locals := 21 } [.ref (G.2.2.2 + 0), .int (nZ f)] S (fun r S2 => r = some (.int (nZ (sp_length a f).1)) ∧ CSt S2 (sp_length a f).2 ∧ frC S S2) := by
  refine vs_ofP [(0, .ref (G.2.2.2 + 0)), (1, .int (nZ f))] (by decide) rfl rfl ?_
  obtain ⟨⟨cP, cN, cH⟩, ⟨cX, cY⟩, ⟨cA, cB⟩, cSe, cJs, cSh, ⟨cK0, cK⟩, ⟨cR1, cR2, cD⟩, cJ0⟩ := id hC
  obtain ⟨gP, gP2, gN, gH, gSe, gSh, gXY, gB31, gInj, gA, gB, gAz, gBz⟩ := hG
  have gP1 := gP.1
  by_cases hfs : 0 ≤ f ∧ f < aN a
  · obtain ⟨f, rfl⟩ : ∃ z0 : Nat, f = z0 := ⟨f.toNat, by omega⟩
    rw [nZ_n f]
    have hf : f < 10 := by omega
    have hfN : f < aN a := by omega
    obtain ⟨f1, f2⟩ := cSe f hfN
    obtain ⟨f3, f4⟩ := gSe f hfN
    refine vs_aload_n 0 dX9_length_0 rfl rfl 0 rfl ?_
    refine vs_iload_n 1 dX9_length_1 rfl rfl 1 rfl ?_
    refine vs_callV (st := []) (c_seriesNo cN gN hfN (cR2 f hf)) lk_X9_170 lm_X9_seriesNumbered rfl rfl rfl rfl (Nat.le_of_ble_eq_true rfl) rfl ⟨rfl, rfl⟩ dX9_length_2 rfl ?_
    show vs_V _ _ _ _ _ (.ref (G.2.2.2 + (88 + 3 * f)) :: _) _
    refine vs_astore_n 2 [(2, .ref (G.2.2.2 + (88 + 3 * f))), (0, .ref (G.2.2.2 + 0)), (1, .int (nI f))] dX9_length_5 rfl rfl rfl rfl ?_
    refine vs_aload_n 2 dX9_length_6 rfl rfl 0 rfl ?_
    refine vs_ifnonnull 15 dX9_length_7 rfl ?_
    refine vs_aload_n 2 dX9_length_15 rfl rfl 0 rfl ?_
    refine vs_get (v := .int (nI (aLa a f))) lf_X9_173 (vs_Se_k hf).1 (congrArg (fun z => some (Value.int z)) f1) dX9_length_16 rfl ?_
    exact vs_iretP dX9_length_19 (cpost (v := (aLa a f : Int)) (a' := a) (by unfold sp_length; (try simp only [Int.toNat_natCast]); repeat (first | rw [if_pos (by omega)] | rw [if_neg (by omega)])) (by rw [nZ_n]) hC frC.rf)
  · refine vs_aload_n 0 dX9_length_0 rfl rfl 0 rfl ?_
    refine vs_iload_n 1 dX9_length_1 rfl rfl 1 rfl ?_
    refine vs_callV (st := []) (c_seriesNull cN gN hf1 hf2 hfs) lk_X9_170 lm_X9_seriesNumbered rfl rfl rfl rfl (Nat.le_of_ble_eq_true rfl) rfl ⟨rfl, rfl⟩ dX9_length_2 rfl ?_
    show vs_V _ _ _ _ _ (.null :: _) _
    refine vs_astore_nN 2 [(2, .null), (0, .ref (G.2.2.2 + 0)), (1, .int (nZ f))] dX9_length_5 rfl rfl rfl rfl ?_
    refine vs_aload_nN 2 dX9_length_6 rfl rfl 0 rfl ?_
    refine vs_ifnonnullN dX9_length_7 rfl ?_
    refine vs_bipush (v := -101) dX9_length_10 rfl rfl ?_
    refine vs_goto 19 dX9_length_12 rfl ?_
    exact vs_iretP dX9_length_19 (cpost (v := -101) (a' := a) (by unfold sp_length; (try simp only [Int.toNat_natCast]); repeat (first | rw [if_pos (by omega)] | rw [if_neg (by omega)])) rfl hC frC.rf)

theorem k_clear {G : vv_G} {S : vs_S} {a : aS} (hC : CSt S a) (hG : aG a) : vs_CP G yX9_clear cX9_clear 2 (some .int) { frames := 0, locals := 0 } [.ref (G.2.2.2 + 0)] S (fun r S2 => r = some (.int (nZ (sp_clear a).1)) ∧ CSt S2 (sp_clear a).2 ∧ frC S S2) := by
  refine vs_ofP [(0, .ref (G.2.2.2 + 0))] (by decide) rfl rfl ?_
  obtain ⟨⟨cP, cN, cH⟩, ⟨cX, cY⟩, ⟨cA, cB⟩, cSe, cJs, cSh, ⟨cK0, cK⟩, ⟨cR1, cR2, cD⟩, cJ0⟩ := id hC
  obtain ⟨gP, gP2, gN, gH, gSe, gSh, gXY, gB31, gInj, gA, gB, gAz, gBz⟩ := hG
  have gP1 := gP.1
  refine vs_aload_n 0 dX9_clear_0 rfl rfl 0 rfl ?_
  refine vs_get (v := .int (nI (aN a))) lf_X9_28 rfl (congrArg (fun z => some (Value.int z)) cN) dX9_clear_1 rfl ?_
  refine vs_istore_n 1 [(1, .int (nI (aN a))), (0, .ref (G.2.2.2 + 0))] dX9_clear_4 rfl rfl rfl rfl ?_
  refine vs_aload_n 0 dX9_clear_5 rfl rfl 1 rfl ?_
  refine vs_iconst (v := 0) dX9_clear_6 rfl rfl ?_
  refine vs_put lf_X9_28 rfl rfl rfl rfl dX9_clear_7 rfl ?_
  have F : vs_fx S (vs_sc S 0 3 0) [] [(0, 3)] [] := vs_fx.sc vs_fx.rf (by simp)
  refine vs_iload_n 1 dX9_clear_10 rfl rfl 0 rfl ?_
  exact vs_iretP dX9_clear_11 (cpost (x := sp_clear a) rfl (by rw [nZ_n]) (CSt.cl hC F vs_sc_at (by simp) (by simp) (by simp) (cJ.fx cJ0 F (by simp))) (F.C (by simp) (by simp) (by simp)))

