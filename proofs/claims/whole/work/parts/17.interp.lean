theorem vs_P18 : vs_P 18 := ⟨rfl, rfl⟩
theorem vs_P20 : vs_P 20 := ⟨rfl, rfl⟩
theorem vs_P22 : vs_P 22 := ⟨rfl, rfl⟩
theorem vs_P24 : vs_P 24 := ⟨rfl, rfl⟩
theorem vs_P26 : vs_P 26 := ⟨rfl, rfl⟩
theorem pcon_z (x : Nat) : ∀ k, 42 ≤ k → pcon x k = 0 := fun k hk => if_neg (by omega)
theorem pcon_b {x P : Nat} (h : x < P) : ∀ k, pcon x k < P := fun k => by
  unfold pcon
  by_cases h1 : k = 0
  · rw [if_pos h1]; exact h
  · rw [if_neg h1]; omega
theorem hv_b {g : Nat → Nat} {x P : Nat} (h0 : 0 < P) : ∀ j s, s < P → hv_ g x P j s < P
  | 0, s, h => h
  | j + 1, s, _ => hv_b h0 j _ (Nat.mod_lt _ h0)
/-- the points' polynomials, as the class makes them: (all roots, through all) -/
def ipk (px py : Nat → Nat) (P : Nat) : Nat → (Nat → Nat) × (Nat → Nat)
  | 0 => (pcon 1, pcon 0)
  | i + 1 => (ark (ipk px py P i).1 (px i) P 0, amk (ipk px py P i).2 (ipk px py P i).1 (nn_m ((py i : Int) - hv_ (ipk px py P i).2 (px i) P 42 0) P * ipw (hv_ (ipk px py P i).1 (px i) P 42 0) P % P) 0 P 42)
theorem ipk_z {px py : Nat → Nat} {P : Nat} : ∀ i, (∀ k, 42 ≤ k → (ipk px py P i).1 k = 0) ∧ (∀ k, 42 ≤ k → (ipk px py P i).2 k = 0)
  | 0 => ⟨pcon_z 1, pcon_z 0⟩
  | i + 1 => ⟨ark_z (ipk_z i).1, amk_z (ipk_z i).2 (Nat.le_refl _)⟩
theorem ipk_b {px py : Nat → Nat} {P : Nat} (h : 2 ≤ P) : ∀ i, (∀ k, (ipk px py P i).1 k < P) ∧ (∀ k, (ipk px py P i).2 k < P)
  | 0 => ⟨pcon_b (by omega), pcon_b (by omega)⟩
  | i + 1 => ⟨ark_b (by omega) (ipk_b h i).1, amk_b (by omega) (ipk_b h i).2⟩
theorem nn_sub2 {a b : Nat} (ha : a < 2147483648) (hb : b < 2147483648) : ((nI a).toInt64 - (nI b).toInt64).toInt = (a : Int) - b := by
  rw [Int64.toInt_sub, nn_i2l, nn_i2l, nI_i ha, nI_i hb]
  exact nn_bmod (by omega) (by omega)
theorem l_interp {G : vv_G} {S : vs_S} {n : Nat} {px py : Nat → Nat} (hn : S.1 4 2 = nI n) (hn2 : n ≤ 20) (hx : S.2.1 5 = nA px) (hy : S.2.1 6 = nA py) {P : Nat} (hP : S.1 1 0 = nI P) (hP1 : 2 ≤ P) (hP2 : P ≤ 30011) (hxb : ∀ k, k < n → px k < P) (hyb : ∀ k, k < n → py k < P) {r : Option Value} {Sf : vs_S} (hr : r = none) (hS : vs_ia (vs_ia S 19 (nA (ipk px py P n).1)) 21 (nA (ipk px py P n).2) = Sf) : ∀ d i : Nat, i + d = n → vs_V G cX2_interpolate (vs_M yX2_interpolate 7 none { frames := 2, locals := 49 } G r Sf) 13 [(4, .int (nI i)), (0, .ref (G.2.2.2 + 4)), (1, .ref (G.2.2.2 + 18)), (2, .ref (G.2.2.2 + 20)), (3, .ref (G.2.2.2 + 1))] [] (vs_ia (vs_ia S 19 (nA (ipk px py P i).1)) 21 (nA (ipk px py P i).2)) := by
  intro d
  induction d with
  | zero =>
    intro i hi
    obtain rfl : i = n := by omega
    refine vs_iload dX2_interpolate_13 rfl 0 rfl ?_
    refine vs_aload_n 0 dX2_interpolate_15 rfl rfl 1 rfl ?_
    refine vs_get (v := .int (nI i)) lf_X2_18 rfl (congrArg (fun z => some (Value.int z)) hn) dX2_interpolate_16 rfl ?_
    refine vs_icmp_ge 108 dX2_interpolate_19 rfl rfl (fun c_19 => ?_) (fun c_19 => ?_)
    · exact vs_vret dX2_interpolate_108 hr hS
    · exact absurd (nI_le (Nat.le_refl _) (by omega)) c_19
  | succ d ih =>
    intro i hi
    have hxi := hxb i (by omega)
    have hyi := hyb i (by omega)
    obtain ⟨bR, bT⟩ := ipk_b (px := px) (py := py) hP1 i
    obtain ⟨zR, zT⟩ := ipk_z (px := px) (py := py) (P := P) i
    have hv1 : hv_ ((ipk px py P i).2) (px i) P 42 0 < P := hv_b (by omega) 42 0 (by omega)
    have hv2 : hv_ ((ipk px py P i).1) (px i) P 42 0 < P := hv_b (by omega) 42 0 (by omega)
    generalize hR : (ipk px py P i).1 = gR at *
    generalize hT : (ipk px py P i).2 = gT at *
    have pr : pR (vs_ia (vs_ia S 19 (nA gR)) 21 (nA gT)) 18 gR := ⟨(vs_ia_ne (by decide)).trans vs_ia_at, zR⟩
    have pt : pR (vs_ia (vs_ia S 19 (nA gR)) 21 (nA gT)) 20 gT := ⟨vs_ia_at, zT⟩
    have hx3 : (vs_ia (vs_ia S 19 (nA gR)) 21 (nA gT)).2.1 5 = nA px := hx
    have hy3 : (vs_ia (vs_ia S 19 (nA gR)) 21 (nA gT)).2.1 6 = nA py := hy
    have hms := nn_m_lt (v := (py i : Int) - hv_ gT (px i) P 42 0) (P := P) (by omega)
    have hiv := ipw_lt (a := hv_ gR (px i) P 42 0) hP1
    have hpr : nn_m ((py i : Int) - hv_ gT (px i) P 42 0) P * ipw (hv_ gR (px i) P 42 0) P % P < P := Nat.mod_lt _ (by omega)
    have pr2 : pR (vs_ia (vs_ia S 19 (nA gR)) 21 (nA (amk gT gR (nn_m ((py i : Int) - hv_ gT (px i) P 42 0) P * ipw (hv_ gR (px i) P 42 0) P % P) 0 P 42))) 18 gR := ⟨(vs_ia_ne (by decide)).trans vs_ia_at, zR⟩
    refine vs_iload dX2_interpolate_13 rfl 0 rfl ?_
    refine vs_aload_n 0 dX2_interpolate_15 rfl rfl 1 rfl ?_
    refine vs_get (v := .int (nI n)) lf_X2_18 rfl (congrArg (fun z => some (Value.int z)) hn) dX2_interpolate_16 rfl ?_
    refine vs_icmp_ge 108 dX2_interpolate_19 rfl rfl (fun c_19 => ?_) (fun c_19 => ?_)
    · exact absurd c_19 (nI_ge (by omega) (by omega))
    · refine vs_iload dX2_interpolate_22 rfl 0 rfl ?_
      refine vs_bipush (v := 20) dX2_interpolate_24 rfl rfl ?_
      refine vs_icmp_ge 108 dX2_interpolate_26 rfl rfl (fun c_26 => ?_) (fun c_26 => ?_)
      · exact absurd c_26 (nI_ge (show i < 20 by omega) (by decide))
      · refine vs_aload_n 3 dX2_interpolate_29 rfl rfl 4 rfl ?_
        refine vs_aload_n 0 dX2_interpolate_30 rfl rfl 1 rfl ?_
        refine vs_get (v := .ref (G.2.2.2 + 6)) lf_X2_15 rfl rfl dX2_interpolate_31 rfl ?_
        refine vs_iload dX2_interpolate_34 rfl 0 rfl ?_
        refine vs_ialdN (g := py) (k := i) hy3 rfl (by first | rfl | (simp only [fa_lit, nI_add, pk_mul, nI_1]; done) | omega) (by omega) rfl dX2_interpolate_36 rfl ?_
        refine vs_i2l dX2_interpolate_37 rfl ?_
        refine vs_aload_n 2 dX2_interpolate_38 rfl rfl 3 rfl ?_
        refine vs_aload_n 0 dX2_interpolate_39 rfl rfl 1 rfl ?_
        refine vs_get (v := .ref (G.2.2.2 + 5)) lf_X2_9 rfl rfl dX2_interpolate_40 rfl ?_
        refine vs_iload dX2_interpolate_43 rfl 0 rfl ?_
        refine vs_ialdN (g := px) (k := i) hx3 rfl (by first | rfl | (simp only [fa_lit, nI_add, pk_mul, nI_1]; done) | omega) (by omega) rfl dX2_interpolate_45 rfl ?_
        refine vs_aload_n 3 dX2_interpolate_46 rfl rfl 4 rfl ?_
        refine vs_callV (st := [.long ((nI (py i)).toInt64), .ref (G.2.2.2 + 1)]) (c_valueAt vs_P20 pt (x := px i) hP hP1 hP2 bT hxi) lk_X2_28 lm_X3_valueAt rfl rfl rfl rfl (Nat.le_of_ble_eq_true rfl) rfl ⟨rfl, rfl⟩ dX2_interpolate_47 rfl ?_
        show vs_V _ _ _ _ _ (.int (nI (hv_ gT (px i) P 42 0)) :: _) _
        refine vs_i2l dX2_interpolate_50 rfl ?_
        refine vs_lsub dX2_interpolate_51 rfl ?_
        refine vs_callV (st := []) (c_ofZ (nn_sub2 (a := py i) (b := hv_ gT (px i) P 42 0) (by omega) (by omega)) hP hP1 hP2) lk_X2_32 lm_X5_of rfl rfl rfl rfl (Nat.le_of_ble_eq_true rfl) rfl ⟨rfl, rfl⟩ dX2_interpolate_52 rfl ?_
        show vs_V _ _ _ _ _ (.int (nI (nn_m ((py i : Int) - hv_ gT (px i) P 42 0) P)) :: _) _
        refine vs_istore [(5, .int (nI (nn_m ((py i : Int) - hv_ gT (px i) P 42 0) P))), (4, .int (nI i)), (0, .ref (G.2.2.2 + 4)), (1, .ref (G.2.2.2 + 18)), (2, .ref (G.2.2.2 + 20)), (3, .ref (G.2.2.2 + 1))] dX2_interpolate_55 rfl rfl rfl ?_
        refine vs_aload_n 3 dX2_interpolate_57 rfl rfl 5 rfl ?_
        refine vs_aload_n 1 dX2_interpolate_58 rfl rfl 3 rfl ?_
        refine vs_aload_n 0 dX2_interpolate_59 rfl rfl 2 rfl ?_
        refine vs_get (v := .ref (G.2.2.2 + 5)) lf_X2_9 rfl rfl dX2_interpolate_60 rfl ?_
        refine vs_iload dX2_interpolate_63 rfl 1 rfl ?_
        refine vs_ialdN (g := px) (k := i) hx3 rfl (by first | rfl | (simp only [fa_lit, nI_add, pk_mul, nI_1]; done) | omega) (by omega) rfl dX2_interpolate_65 rfl ?_
        refine vs_aload_n 3 dX2_interpolate_66 rfl rfl 5 rfl ?_
        refine vs_callV (st := [.ref (G.2.2.2 + 1)]) (c_valueAt vs_P18 pr (x := px i) hP hP1 hP2 bR hxi) lk_X2_28 lm_X3_valueAt rfl rfl rfl rfl (Nat.le_of_ble_eq_true rfl) rfl ⟨rfl, rfl⟩ dX2_interpolate_67 rfl ?_
        show vs_V _ _ _ _ _ (.int (nI (hv_ gR (px i) P 42 0)) :: _) _
        refine vs_callV (st := []) (c_rinverse (a := hv_ gR (px i) P 42 0) hP hP1 hP2 hv2) lk_X2_38 lm_X5_inverse rfl rfl rfl rfl (Nat.le_of_ble_eq_true rfl) rfl ⟨rfl, rfl⟩ dX2_interpolate_70 rfl ?_
        show vs_V _ _ _ _ _ (.int (nI (ipw (hv_ gR (px i) P 42 0) P)) :: _) _
        refine vs_istore [(6, .int (nI (ipw (hv_ gR (px i) P 42 0) P))), (5, .int (nI (nn_m ((py i : Int) - hv_ gT (px i) P 42 0) P))), (4, .int (nI i)), (0, .ref (G.2.2.2 + 4)), (1, .ref (G.2.2.2 + 18)), (2, .ref (G.2.2.2 + 20)), (3, .ref (G.2.2.2 + 1))] dX2_interpolate_73 rfl rfl rfl ?_
        refine vs_aload_n 2 dX2_interpolate_75 rfl rfl 5 rfl ?_
        refine vs_aload_n 1 dX2_interpolate_76 rfl rfl 4 rfl ?_
        refine vs_aload_n 3 dX2_interpolate_77 rfl rfl 6 rfl ?_
        refine vs_iload dX2_interpolate_78 rfl 1 rfl ?_
        refine vs_iload dX2_interpolate_80 rfl 0 rfl ?_
        refine vs_callV (st := [.ref (G.2.2.2 + 18), .ref (G.2.2.2 + 20)]) (c_rproduct (x := nn_m ((py i : Int) - hv_ gT (px i) P 42 0) P) (y := ipw (hv_ gR (px i) P 42 0) P) hP hP1 (by omega) (by omega) (by omega)) lk_X2_42 lm_X5_product rfl rfl rfl rfl (Nat.le_of_ble_eq_true rfl) rfl ⟨rfl, rfl⟩ dX2_interpolate_82 rfl ?_
        show vs_V _ _ _ _ _ (.int (nI (nn_m ((py i : Int) - hv_ gT (px i) P 42 0) P * ipw (hv_ gR (px i) P 42 0) P % P)) :: _) _
        refine vs_iconst (v := 0) dX2_interpolate_85 rfl rfl ?_
        refine vs_aload_n 3 dX2_interpolate_86 rfl rfl 6 rfl ?_
        refine vs_callV (st := []) (c_addMultiple vs_P20 pt vs_P18 pr (by decide) (x := nn_m ((py i : Int) - hv_ gT (px i) P 42 0) P * ipw (hv_ gR (px i) P 42 0) P % P) (sh := 0) hP hP1 hP2 bT bR hpr (by decide)) lk_X2_46 lm_X3_addMultiple rfl rfl rfl rfl (Nat.le_of_ble_eq_true rfl) rfl ⟨rfl, rfl⟩ dX2_interpolate_87 rfl ?_
        refine vs_eq (S2 := vs_ia (vs_ia S 19 (nA gR)) 21 (nA (amk gT gR (nn_m ((py i : Int) - hv_ gT (px i) P 42 0) P * ipw (hv_ gR (px i) P 42 0) P % P) 0 P 42))) (by rw [vs_ia_ia]) ?_
        refine vs_aload_n 1 dX2_interpolate_90 rfl rfl 4 rfl ?_
        refine vs_aload_n 0 dX2_interpolate_91 rfl rfl 3 rfl ?_
        refine vs_get (v := .ref (G.2.2.2 + 5)) lf_X2_9 rfl rfl dX2_interpolate_92 rfl ?_
        refine vs_iload dX2_interpolate_95 rfl 2 rfl ?_
        refine vs_ialdN (g := px) (k := i) hx rfl (by first | rfl | (simp only [fa_lit, nI_add, pk_mul, nI_1]; done) | omega) (by omega) rfl dX2_interpolate_97 rfl ?_
        refine vs_aload_n 3 dX2_interpolate_98 rfl rfl 6 rfl ?_
        refine vs_callV (st := []) (c_addRoot vs_P18 pr2 (x := px i) hP hP1 hP2 bR hxi) lk_X2_50 lm_X3_addRoot rfl rfl rfl rfl (Nat.le_of_ble_eq_true rfl) rfl ⟨rfl, rfl⟩ dX2_interpolate_99 rfl ?_
        refine vs_eq (S2 := vs_ia (vs_ia S 19 (nA (ipk px py P (i + 1)).1)) 21 (nA (ipk px py P (i + 1)).2)) (by rw [vs_ia_c (by decide), vs_ia_ia]; unfold ipk; rw [hR, hT]) ?_
        refine vs_iinc (v := nI (i + 1)) [(4, .int (nI (i + 1))), (6, .int (nI (ipw (hv_ gR (px i) P 42 0) P))), (5, .int (nI (nn_m ((py i : Int) - hv_ gT (px i) P 42 0) P))), (0, .ref (G.2.2.2 + 4)), (1, .ref (G.2.2.2 + 18)), (2, .ref (G.2.2.2 + 20)), (3, .ref (G.2.2.2 + 1))] dX2_interpolate_102 rfl 2 rfl (by first | exact nI_1 _ | (simp only [fa_lit, nI_add, pk_mul, nI_1]; rfl)) rfl rfl ?_
        refine vs_goto 13 dX2_interpolate_105 rfl ?_
        refine vs_pick [0, 3, 4, 5, 6] rfl ?_
        exact ih (i + 1) (by omega)

theorem c_interpolate {G : vv_G} {S : vs_S} {n : Nat} {px py : Nat → Nat} (hn : S.1 4 2 = nI n) (hn2 : n ≤ 20) (hx : S.2.1 5 = nA px) (hy : S.2.1 6 = nA py) {P : Nat} (hP : S.1 1 0 = nI P) (hP1 : 2 ≤ P) (hP2 : P ≤ 30011) (hxb : ∀ k, k < n → px k < P) (hyb : ∀ k, k < n → py k < P) {g0 g1 : Nat → Nat} (hg0 : pR S 18 g0) (hg1 : pR S 20 g1) : vs_C G yX2_interpolate cX2_interpolate 7 none { frames := 2, locals := 49 } [.ref (G.2.2.2 + 4), .ref (G.2.2.2 + 18), .ref (G.2.2.2 + 20), .ref (G.2.2.2 + 1)] S none (vs_ia (vs_ia S 19 (nA (ipk px py P n).1)) 21 (nA (ipk px py P n).2)) := by
  refine vs_of [(0, .ref (G.2.2.2 + 4)), (1, .ref (G.2.2.2 + 18)), (2, .ref (G.2.2.2 + 20)), (3, .ref (G.2.2.2 + 1))] (by decide) rfl rfl ?_
  refine vs_aload_n 1 dX2_interpolate_0 rfl rfl 1 rfl ?_
  refine vs_iconst (v := 1) dX2_interpolate_1 rfl rfl ?_
  refine vs_callV (st := []) (c_becomeNumber vs_P18 hg0 (x := 1)) lk_X2_22 lm_X3_becomeNumber rfl rfl rfl rfl (Nat.le_of_ble_eq_true rfl) rfl ⟨rfl, rfl⟩ dX2_interpolate_2 rfl ?_
  refine vs_aload_n 2 dX2_interpolate_5 rfl rfl 2 rfl ?_
  refine vs_iconst (v := 0) dX2_interpolate_6 rfl rfl ?_
  refine vs_callV (st := []) (c_becomeNumber vs_P20 (⟨(vs_ia_ne (by decide)).trans hg1.1, hg1.2⟩ : pR _ 20 g1) (x := 0)) lk_X2_22 lm_X3_becomeNumber rfl rfl rfl rfl (Nat.le_of_ble_eq_true rfl) rfl ⟨rfl, rfl⟩ dX2_interpolate_7 rfl ?_
  refine vs_iconst (v := 0) dX2_interpolate_10 rfl rfl ?_
  refine vs_istore [(4, .int (0)), (0, .ref (G.2.2.2 + 4)), (1, .ref (G.2.2.2 + 18)), (2, .ref (G.2.2.2 + 20)), (3, .ref (G.2.2.2 + 1))] dX2_interpolate_11 rfl rfl rfl ?_
  refine vs_pick (L2 := [(4, .int (nI 0)), (0, .ref (G.2.2.2 + 4)), (1, .ref (G.2.2.2 + 18)), (2, .ref (G.2.2.2 + 20)), (3, .ref (G.2.2.2 + 1))]) [0, 1, 2, 3, 4] rfl ?_
  exact l_interp hn hn2 hx hy hP hP1 hP2 hxb hyb rfl rfl n 0 (by omega)

def aon (a b px py : Nat → Nat) (P : Nat) : Nat → Nat → Bool
  | 0, _ => true
  | d + 1, i => if hv_ b (px i) P 42 0 = 0 then false else if hv_ a (px i) P 42 0 = py i * hv_ b (px i) P 42 0 % P then aon a b px py P d (i + 1) else false
theorem l_allOn {G : vv_G} {S : vs_S} {o : Nat} {a b : Nat → Nat} (hs : vs_Sh o) (ha : pR S (o + 1) a) (hb : pR S (o + 3) b) {n : Nat} {px py : Nat → Nat} (hn : S.1 4 2 = nI n) (hn2 : n ≤ 20) (hx : S.2.1 5 = nA px) (hy : S.2.1 6 = nA py) {P : Nat} (hP : S.1 1 0 = nI P) (hP1 : 2 ≤ P) (hP2 : P ≤ 30011) (hxb : ∀ k, k < n → px k < P) (hyb : ∀ k, k < n → py k < P) (hab : ∀ k, a k < P) (hbb : ∀ k, b k < P) {r : Option Value} {Sf : vs_S} (hS : S = Sf) : ∀ d i : Nat, i + d = n → r = some (.int (if aon a b px py P d i = true then 1 else 0)) → vs_V G cX2_allOn (vs_M yX2_allOn 6 (some .boolean) { frames := 2, locals := 48 } G r Sf) 2 [(3, .int (nI i)), (0, .ref (G.2.2.2 + 4)), (1, .ref (G.2.2.2 + o)), (2, .ref (G.2.2.2 + 1))] [] S := by
  intro d
  induction d with
  | zero =>
    intro i hi hr
    obtain rfl : i = n := by omega
    refine vs_iload_n 3 dX2_allOn_2 rfl rfl 0 rfl ?_
    refine vs_aload_n 0 dX2_allOn_3 rfl rfl 1 rfl ?_
    refine vs_get (v := .int (nI i)) lf_X2_18 rfl (congrArg (fun z => some (Value.int z)) hn) dX2_allOn_4 rfl ?_
    refine vs_icmp_ge 78 dX2_allOn_7 rfl rfl (fun c_7 => ?_) (fun c_7 => ?_)
    · refine vs_iconst (v := 1) dX2_allOn_78 rfl rfl ?_
      exact vs_zret dX2_allOn_79 (by first | exact Or.inl rfl | exact Or.inr rfl) hr hS
    · exact absurd (nI_le (Nat.le_refl _) (by omega)) c_7
  | succ d ih =>
    intro i hi hr
    have hxi := hxb i (by omega)
    have hyi := hyb i (by omega)
    have hv1 : hv_ b (px i) P 42 0 < P := hv_b (by omega) 42 0 (by omega)
    have hv2 : hv_ a (px i) P 42 0 < P := hv_b (by omega) 42 0 (by omega)
    have hv3 : py i * hv_ b (px i) P 42 0 % P < P := Nat.mod_lt _ (by omega)
    refine vs_iload_n 3 dX2_allOn_2 rfl rfl 0 rfl ?_
    refine vs_aload_n 0 dX2_allOn_3 rfl rfl 1 rfl ?_
    refine vs_get (v := .int (nI n)) lf_X2_18 rfl (congrArg (fun z => some (Value.int z)) hn) dX2_allOn_4 rfl ?_
    refine vs_icmp_ge 78 dX2_allOn_7 rfl rfl (fun c_7 => ?_) (fun c_7 => ?_)
    · exact absurd c_7 (nI_ge (by omega) (by omega))
    · refine vs_iload_n 3 dX2_allOn_10 rfl rfl 0 rfl ?_
      refine vs_bipush (v := 20) dX2_allOn_11 rfl rfl ?_
      refine vs_icmp_ge 78 dX2_allOn_13 rfl rfl (fun c_13 => ?_) (fun c_13 => ?_)
      · exact absurd c_13 (nI_ge (show i < 20 by omega) (by decide))
      · refine vs_aload_n 1 dX2_allOn_16 rfl rfl 2 rfl ?_
        refine vs_get (v := .ref (G.2.2.2 + (o + 3))) lf_X2_54 hs.1 rfl dX2_allOn_17 rfl ?_
        refine vs_aload_n 0 dX2_allOn_20 rfl rfl 1 rfl ?_
        refine vs_get (v := .ref (G.2.2.2 + 5)) lf_X2_9 rfl rfl dX2_allOn_21 rfl ?_
        refine vs_iload_n 3 dX2_allOn_24 rfl rfl 0 rfl ?_
        refine vs_ialdN (g := px) (k := i) hx rfl (by first | rfl | (simp only [fa_lit, nI_add, pk_mul, nI_1]; done) | omega) (by omega) rfl dX2_allOn_25 rfl ?_
        refine vs_aload_n 2 dX2_allOn_26 rfl rfl 3 rfl ?_
        refine vs_callV (st := []) (c_valueAt hs.2.2 hb (x := px i) hP hP1 hP2 hbb hxi) lk_X2_28 lm_X3_valueAt rfl hs.2.2.1 rfl rfl (Nat.le_of_ble_eq_true rfl) rfl ⟨rfl, rfl⟩ dX2_allOn_27 rfl ?_
        show vs_V _ _ _ _ _ (.int (nI (hv_ b (px i) P 42 0)) :: _) _
        refine vs_istore [(4, .int (nI (hv_ b (px i) P 42 0))), (3, .int (nI i)), (0, .ref (G.2.2.2 + 4)), (1, .ref (G.2.2.2 + o)), (2, .ref (G.2.2.2 + 1))] dX2_allOn_30 rfl rfl rfl ?_
        refine vs_aload_n 2 dX2_allOn_32 rfl rfl 4 rfl ?_
        refine vs_aload_n 0 dX2_allOn_33 rfl rfl 2 rfl ?_
        refine vs_get (v := .ref (G.2.2.2 + 6)) lf_X2_15 rfl rfl dX2_allOn_34 rfl ?_
        refine vs_iload_n 3 dX2_allOn_37 rfl rfl 1 rfl ?_
        refine vs_ialdN (g := py) (k := i) hy rfl (by first | rfl | (simp only [fa_lit, nI_add, pk_mul, nI_1]; done) | omega) (by omega) rfl dX2_allOn_38 rfl ?_
        refine vs_iload dX2_allOn_39 rfl 0 rfl ?_
        refine vs_callV (st := []) (c_rproduct (x := py i) (y := hv_ b (px i) P 42 0) hP hP1 (by omega) (by omega) (by omega)) lk_X2_42 lm_X5_product rfl rfl rfl rfl (Nat.le_of_ble_eq_true rfl) rfl ⟨rfl, rfl⟩ dX2_allOn_41 rfl ?_
        show vs_V _ _ _ _ _ (.int (nI (py i * hv_ b (px i) P 42 0 % P)) :: _) _
        refine vs_istore [(5, .int (nI (py i * hv_ b (px i) P 42 0 % P))), (4, .int (nI (hv_ b (px i) P 42 0))), (3, .int (nI i)), (0, .ref (G.2.2.2 + 4)), (1, .ref (G.2.2.2 + o)), (2, .ref (G.2.2.2 + 1))] dX2_allOn_44 rfl rfl rfl ?_
        refine vs_iload dX2_allOn_46 rfl 1 rfl ?_
        refine vs_if_eq 70 dX2_allOn_48 rfl rfl (fun c_48 => ?_) (fun c_48 => ?_)
        · have hz : hv_ b (px i) P 42 0 = 0 := (nI_n0 (by omega)).mp c_48
          have hf : aon a b px py P (d + 1) i = false := if_pos hz
          refine vs_iconst (v := 0) dX2_allOn_70 rfl rfl ?_
          exact vs_zret dX2_allOn_71 (by first | exact Or.inl rfl | exact Or.inr rfl) (by rw [hr, hf]; rfl) hS
        · have hz : ¬ hv_ b (px i) P 42 0 = 0 := fun e => c_48 (by rw [e]; rfl)
          refine vs_aload_n 1 dX2_allOn_51 rfl rfl 4 rfl ?_
          refine vs_get (v := .ref (G.2.2.2 + (o + 1))) lf_X2_60 hs.1 rfl dX2_allOn_52 rfl ?_
          refine vs_aload_n 0 dX2_allOn_55 rfl rfl 3 rfl ?_
          refine vs_get (v := .ref (G.2.2.2 + 5)) lf_X2_9 rfl rfl dX2_allOn_56 rfl ?_
          refine vs_iload_n 3 dX2_allOn_59 rfl rfl 2 rfl ?_
          refine vs_ialdN (g := px) (k := i) hx rfl (by first | rfl | (simp only [fa_lit, nI_add, pk_mul, nI_1]; done) | omega) (by omega) rfl dX2_allOn_60 rfl ?_
          refine vs_aload_n 2 dX2_allOn_61 rfl rfl 5 rfl ?_
          refine vs_callV (st := []) (c_valueAt hs.2.1 ha (x := px i) hP hP1 hP2 hab hxi) lk_X2_28 lm_X3_valueAt rfl hs.2.1.1 rfl rfl (Nat.le_of_ble_eq_true rfl) rfl ⟨rfl, rfl⟩ dX2_allOn_62 rfl ?_
          show vs_V _ _ _ _ _ (.int (nI (hv_ a (px i) P 42 0)) :: _) _
          refine vs_iload dX2_allOn_65 rfl 0 rfl ?_
          refine vs_icmp_eq 72 dX2_allOn_67 rfl rfl (fun c_67 => ?_) (fun c_67 => ?_)
          · have hf : aon a b px py P (d + 1) i = aon a b px py P d (i + 1) := (if_neg hz).trans (if_pos ((nI_eq (by omega) (by omega)).mp c_67))
            refine vs_iinc (v := nI (i + 1)) [(3, .int (nI (i + 1))), (5, .int (nI (py i * hv_ b (px i) P 42 0 % P))), (4, .int (nI (hv_ b (px i) P 42 0))), (0, .ref (G.2.2.2 + 4)), (1, .ref (G.2.2.2 + o)), (2, .ref (G.2.2.2 + 1))] dX2_allOn_72 rfl 2 rfl (by first | exact nI_1 _ | (simp only [fa_lit, nI_add, pk_mul, nI_1]; rfl)) rfl rfl ?_
            refine vs_goto 2 dX2_allOn_75 rfl ?_
            refine vs_pick [0, 3, 4, 5] rfl ?_
            exact ih (i + 1) (by omega) (by rw [hr, hf])
          · have hf : aon a b px py P (d + 1) i = false := (if_neg hz).trans (if_neg (fun e => c_67 (by rw [e])))
            refine vs_iconst (v := 0) dX2_allOn_70 rfl rfl ?_
            exact vs_zret dX2_allOn_71 (by first | exact Or.inl rfl | exact Or.inr rfl) (by rw [hr, hf]; rfl) hS

theorem c_allOn {G : vv_G} {S : vs_S} {o : Nat} {a b : Nat → Nat} (hs : vs_Sh o) (ha : pR S (o + 1) a) (hb : pR S (o + 3) b) {n : Nat} {px py : Nat → Nat} (hn : S.1 4 2 = nI n) (hn2 : n ≤ 20) (hx : S.2.1 5 = nA px) (hy : S.2.1 6 = nA py) {P : Nat} (hP : S.1 1 0 = nI P) (hP1 : 2 ≤ P) (hP2 : P ≤ 30011) (hxb : ∀ k, k < n → px k < P) (hyb : ∀ k, k < n → py k < P) (hab : ∀ k, a k < P) (hbb : ∀ k, b k < P) : vs_C G yX2_allOn cX2_allOn 6 (some .boolean) { frames := 2, locals := 48 } [.ref (G.2.2.2 + 4), .ref (G.2.2.2 + o), .ref (G.2.2.2 + 1)] S (some (.int (if aon a b px py P n 0 = true then 1 else 0))) S := by
  refine vs_of [(0, .ref (G.2.2.2 + 4)), (1, .ref (G.2.2.2 + o)), (2, .ref (G.2.2.2 + 1))] (by decide) rfl rfl ?_
  refine vs_iconst (v := 0) dX2_allOn_0 rfl rfl ?_
  refine vs_istore_n 3 [(3, .int (0)), (0, .ref (G.2.2.2 + 4)), (1, .ref (G.2.2.2 + o)), (2, .ref (G.2.2.2 + 1))] dX2_allOn_1 rfl rfl rfl rfl ?_
  refine vs_pick (L2 := [(3, .int (nI 0)), (0, .ref (G.2.2.2 + 4)), (1, .ref (G.2.2.2 + o)), (2, .ref (G.2.2.2 + 1))]) [0, 1, 2, 3] rfl ?_
  exact l_allOn hs ha hb hn hn2 hx hy hP hP1 hP2 hxb hyb hab hbb rfl n 0 (by omega) rfl

