theorem nn_take2 {r b x P : Nat} (h0 : 0 < P) : nn_m ((r : Int) - (b : Int) * x) P = (r + nn_m (-(b : Int)) P * x) % P := by
  have h1 := nn_m_int (v := -(b : Int)) h0
  rw [← nn_m_nat]
  apply nn_m_c
  rw [Int.natCast_add, Int.natCast_mul, h1, Int.add_emod, Int.mul_emod, Int.emod_emod_of_dvd _ (Int.dvd_refl _), ← Int.mul_emod, ← Int.add_emod]
  congr 1
  rw [Int.neg_mul]
  omega
theorem amk_cut {g b : Nat → Nat} {c sh P low N : Nat} (hz : ∀ k, low < k → b k = 0) (hg : ∀ k, g k < P) (hN : sh + low < N) : amk g b c sh P (sh + (low + 1)) = amk g b c sh P N := by
  funext k
  unfold amk
  by_cases e : sh ≤ k ∧ k < sh + (low + 1)
  · rw [if_pos e, if_pos (by omega)]
  · rw [if_neg e]
    by_cases e2 : sh ≤ k ∧ k < N
    · rw [if_pos e2, hz (k - sh) (by omega), Nat.mul_zero, Nat.add_zero, Nat.mod_eq_of_lt (hg k)]
    · rw [if_neg e2]
theorem tp_hi {N : Nat} {g : Nat → Nat} (hz : ∀ k, N ≤ k → g k = 0) (h0 : 0 < tp g N) : ∀ k, tp g N - 1 < k → g k = 0 := fun k hk => by
  by_cases e : N ≤ k
  · exact hz k e
  · exact (tp_1 N h0).2 k (by omega) (by omega)
theorem l_rd1 {G : vv_G} {S : vs_S} {oa ob : Nat} (hTa : vs_T[oa]? = some (.inl (0, 90))) (hTb : vs_T[ob]? = some (.inl (0, 90))) (hab : oa ≠ ob) {b : Nat → Nat} {P : Nat} (gP1 : 2 ≤ P) (gP2 : P ≤ 30011) (bb : ∀ k, b k < P) {low inv : Nat} (hlow : low < 90) (hinv : inv < P) (hz : ∀ k, low < k → b k = 0) {g : Nat → Nat} (bg : ∀ k, g k < P) {d v : Nat} (hd : low + d < 90) (hv : v < P) {S0 : vs_S} (mP0 : S0.1 118 2 = nI P) (hb0 : aR S0 ob 90 b) {Pst : Option Value → vs_S → Prop} (K : ∀ S2 : vs_S, vs_fx S0 S2 [oa] [] [] → aR S2 oa 90 (amk g b (nn_m (-(v : Int)) P) d P (d + (low + 1))) → vs_V G cX10_reduce (vs_MP yX10_reduce 8 none { frames := 2, locals := 46 } G Pst) 83 [(5, .int (nI (low + d))), (4, .int (nI inv)), (0, .ref (G.2.2.2 + 118)), (1, .ref (G.2.2.2 + oa)), (2, .ref (G.2.2.2 + ob)), (3, .int (nI low))] [] S2) : ∀ (e i : Nat) (S : vs_S), i + e = low + 1 → vs_fx S0 S [oa] [] [] → aR S oa 90 (amk g b (nn_m (-(v : Int)) P) d P (d + i)) → vs_V G cX10_reduce (vs_MP yX10_reduce 8 none { frames := 2, locals := 46 } G Pst) 38 [(7, .int (nI i)), (6, .int (nI v)), (5, .int (nI (low + d))), (4, .int (nI inv)), (0, .ref (G.2.2.2 + 118)), (1, .ref (G.2.2.2 + oa)), (2, .ref (G.2.2.2 + ob)), (3, .int (nI low))] [] S := by
  intro e
  induction e with
  | zero =>
    intro i S hi F A1
    obtain rfl : low + 1 = i := by omega
    refine vs_iload dX10_reduce_38 rfl 0 rfl ?_
    refine vs_iload_n 3 dX10_reduce_40 rfl rfl 7 rfl ?_
    refine vs_icmp_gt 83 dX10_reduce_41 rfl rfl (fun c_41 => ?_) (fun c_41 => ?_)
    · have q_41 : (((low + 1) : Nat) : Int) > ((low : Nat) : Int) := (qi_gt (nI_Z _) (nI_Z _) (by omega) (by omega) (by omega) (by omega)).mp c_41
      refine vs_pick [2, 3, 4, 5, 6, 7] rfl ?_
      exact K S F A1
    · have q_41 : ¬ (((low + 1) : Nat) : Int) > ((low : Nat) : Int) := fun hh => c_41 ((qi_gt (nI_Z _) (nI_Z _) (by omega) (by omega) (by omega) (by omega)).mpr hh)
      omega
  | succ e ih =>
    intro i S hi F A1
    have mP : S.1 118 2 = nI P := (F.2.1 _ _ (by simp)).trans mP0
    have hb := aR.fx hb0 F (by simp <;> omega)
    have e0 : (amk g b (nn_m (-(v : Int)) P) d P (d + i)) (d + i) = g (d + i) := if_neg (by omega)
    have b1 := bg (d + i)
    have b2 := bb i
    have e2 : nn_m ((g (d + i) : Int) - (v : Int) * b i) P = (g (d + i) + nn_m (-(v : Int)) P * b (d + i - d)) % P := by rw [nn_take2 (by omega), show d + i - d = i by omega]
    refine vs_iload dX10_reduce_38 rfl 0 rfl ?_
    refine vs_iload_n 3 dX10_reduce_40 rfl rfl 7 rfl ?_
    refine vs_icmp_gt 83 dX10_reduce_41 rfl rfl (fun c_41 => ?_) (fun c_41 => ?_)
    · have q_41 : ((i : Nat) : Int) > ((low : Nat) : Int) := (qi_gt (nI_Z _) (nI_Z _) (by omega) (by omega) (by omega) (by omega)).mp c_41
      omega
    · have q_41 : ¬ ((i : Nat) : Int) > ((low : Nat) : Int) := fun hh => c_41 ((qi_gt (nI_Z _) (nI_Z _) (by omega) (by omega) (by omega) (by omega)).mpr hh)
      refine vs_aload_n 1 dX10_reduce_44 rfl rfl 5 rfl ?_
      refine vs_iload dX10_reduce_45 rfl 2 rfl ?_
      refine vs_iload_n 3 dX10_reduce_47 rfl rfl 7 rfl ?_
      refine vs_isub dX10_reduce_48 rfl ?_
      refine vs_topi (fun z1 e_z1 => ?_)
      have f_z1 : z1 = nI d := (by rw [e_z1, pk_sub (by omega)]; congr 1; omega)
      subst f_z1
      clear e_z1
      refine vs_iload dX10_reduce_49 rfl 0 rfl ?_
      refine vs_iadd dX10_reduce_51 rfl ?_
      refine vs_topi (fun z2 e_z2 => ?_)
      have f_z2 : z2 = nI (d + i) := (by rw [e_z2]; exact nI_add _ _)
      subst f_z2
      clear e_z2
      refine vs_aload_n 0 dX10_reduce_52 rfl rfl 4 rfl ?_
      refine vs_aload_n 1 dX10_reduce_53 rfl rfl 5 rfl ?_
      refine vs_iload dX10_reduce_54 rfl 2 rfl ?_
      refine vs_iload_n 3 dX10_reduce_56 rfl rfl 7 rfl ?_
      refine vs_isub dX10_reduce_57 rfl ?_
      refine vs_topi (fun z3 e_z3 => ?_)
      have f_z3 : z3 = nI d := (by rw [e_z3, pk_sub (by omega)]; congr 1; omega)
      subst f_z3
      clear e_z3
      refine vs_iload dX10_reduce_58 rfl 0 rfl ?_
      refine vs_iadd dX10_reduce_60 rfl ?_
      refine vs_topi (fun z4 e_z4 => ?_)
      have f_z4 : z4 = nI (d + i) := (by rw [e_z4]; exact nI_add _ _)
      subst f_z4
      clear e_z4
      refine vs_iald (k := (d + i)) hTa rfl (by omega) rfl dX10_reduce_61 rfl ?_
      refine vs_topi (fun z5 e_z5 => ?_)
      have f_z5 : z5 = nI (g (d + i)) := (by rw [e_z5, A1 _ (by omega), e0])
      subst f_z5
      clear e_z5
      refine vs_i2l dX10_reduce_62 rfl ?_
      refine vs_iload dX10_reduce_63 rfl 1 rfl ?_
      refine vs_i2l dX10_reduce_65 rfl ?_
      refine vs_aload_n 2 dX10_reduce_66 rfl rfl 6 rfl ?_
      refine vs_iload dX10_reduce_67 rfl 0 rfl ?_
      refine vs_iald (k := i) hTb rfl (by omega) rfl dX10_reduce_69 rfl ?_
      refine vs_topi (fun z6 e_z6 => ?_)
      have f_z6 : z6 = nI (b i) := (by rw [e_z6]; exact hb i (by omega))
      subst f_z6
      clear e_z6
      refine vs_i2l dX10_reduce_70 rfl ?_
      refine vs_lmul dX10_reduce_71 rfl ?_
      refine vs_lsub dX10_reduce_72 rfl ?_
      refine vs_callV (st := [.int (nI (d + i)), .ref (G.2.2.2 + oa)]) (c_restZ (z := (g (d + i) : Int) - (v : Int) * b i) (nn_msub2 hv b2 b1 gP2) mP gP1 gP2) lk_X10_135 lm_X10_rest rfl rfl rfl rfl (Nat.le_of_ble_eq_true rfl) rfl ⟨rfl, rfl⟩ dX10_reduce_73 rfl ?_
      show vs_V _ _ _ _ _ (.int (nI (nn_m ((g (d + i) : Int) - (v : Int) * b i) P)) :: _) _
      refine vs_iast (k := (d + i)) hTa rfl (by omega) rfl dX10_reduce_76 rfl ?_
      refine vs_iinc (v := nI (i + 1)) [(7, .int (nI (i + 1))), (6, .int (nI v)), (5, .int (nI (low + d))), (4, .int (nI inv)), (0, .ref (G.2.2.2 + 118)), (1, .ref (G.2.2.2 + oa)), (2, .ref (G.2.2.2 + ob)), (3, .int (nI low))] dX10_reduce_77 rfl 0 rfl (by first | exact nI_1 _ | (simp only [fa_lit, nI_add, pk_mul, nI_1]; rfl)) rfl rfl ?_
      refine vs_goto 38 dX10_reduce_80 rfl ?_
      refine vs_pick [0, 1, 2, 3, 4, 5, 6, 7] rfl ?_
      have A2 := aR.put (j := d + i) (x := nn_m ((g (d + i) : Int) - (v : Int) * b i) P) A1
      rw [e2, amk_s (by omega), show d + i + 1 = d + (i + 1) by omega] at A2
      rw [e2]
      exact ih (i + 1) _ (by omega) (vs_fx.ia F (by simp)) A2

theorem l_rd2 {G : vv_G} {S : vs_S} {oa ob : Nat} (hTa : vs_T[oa]? = some (.inl (0, 90))) (hTb : vs_T[ob]? = some (.inl (0, 90))) (hab : oa ≠ ob) {b : Nat → Nat} {P : Nat} (gP1 : 2 ≤ P) (gP2 : P ≤ 30011) (bb : ∀ k, b k < P) {low inv : Nat} (hlow : low < 90) (hinv : inv < P) (hz : ∀ k, low < k → b k = 0) {S0 : vs_S} (mP0 : S0.1 118 2 = nI P) (hb0 : aR S0 ob 90 b) {Pst : Option Value → vs_S → Prop} : ∀ (d : Nat) (z : Int) (Q g : Nat → Nat) (S : vs_S), -1 ≤ z → z < 90 → (d = 0 → z < low) → (0 < d → z = low + d - 1) → (∀ k, g k < P) → vs_fx S0 S [oa] [] [] → aR S oa 90 g → (∀ S2 : vs_S, vs_fx S0 S2 [oa] [] [] → aR S2 oa 90 (dvn 90 b low inv P d (Q, g)).2 → Pst none S2) → vs_V G cX10_reduce (vs_MP yX10_reduce 8 none { frames := 2, locals := 46 } G Pst) 17 [(5, .int (nZ z)), (4, .int (nI inv)), (0, .ref (G.2.2.2 + 118)), (1, .ref (G.2.2.2 + oa)), (2, .ref (G.2.2.2 + ob)), (3, .int (nI low))] [] S := by
  intro d
  induction d with
  | zero =>
    intro z Q g S hz1 hz2 hz3 hz4 bg F A1 K
    have := hz3 rfl
    refine vs_iload dX10_reduce_17 rfl 0 rfl ?_
    refine vs_iload_n 3 dX10_reduce_19 rfl rfl 5 rfl ?_
    refine vs_icmp_lt 89 dX10_reduce_20 rfl rfl (fun c_20 => ?_) (fun c_20 => ?_)
    · have q_20 : (z : Int) < ((low : Nat) : Int) := (qi_lt rfl (nI_Z _) (by omega) (by omega) (by omega) (by omega)).mp c_20
      exact vs_vretP dX10_reduce_89 (K S F A1)
    · have q_20 : ¬ (z : Int) < ((low : Nat) : Int) := fun hh => c_20 ((qi_lt rfl (nI_Z _) (by omega) (by omega) (by omega) (by omega)).mpr hh)
      omega
  | succ d ih =>
    intro z Q g S hz1 hz2 hz3 hz4 bg F A1 K
    have mP : S.1 118 2 = nI P := (F.2.1 _ _ (by simp)).trans mP0
    obtain rfl : z = ((low + d : Nat) : Int) := by have := hz4 (by omega); omega
    rw [nZ_n]
    have b1 := bg (low + d)
    obtain ⟨v, hv⟩ : ∃ v, v = g (low + d) * inv % P := ⟨_, rfl⟩
    have bv : v < P := by rw [hv]; exact Nat.mod_lt _ (by omega)
    refine vs_iload dX10_reduce_17 rfl 0 rfl ?_
    refine vs_iload_n 3 dX10_reduce_19 rfl rfl 5 rfl ?_
    refine vs_icmp_lt 89 dX10_reduce_20 rfl rfl (fun c_20 => ?_) (fun c_20 => ?_)
    · have q_20 : (((low + d) : Nat) : Int) < ((low : Nat) : Int) := (qi_lt (nI_Z _) (nI_Z _) (by omega) (by omega) (by omega) (by omega)).mp c_20
      omega
    · have q_20 : ¬ (((low + d) : Nat) : Int) < ((low : Nat) : Int) := fun hh => c_20 ((qi_lt (nI_Z _) (nI_Z _) (by omega) (by omega) (by omega) (by omega)).mpr hh)
      refine vs_aload_n 0 dX10_reduce_23 rfl rfl 2 rfl ?_
      refine vs_aload_n 1 dX10_reduce_24 rfl rfl 3 rfl ?_
      refine vs_iload dX10_reduce_25 rfl 0 rfl ?_
      refine vs_iald (k := (low + d)) hTa rfl (by omega) rfl dX10_reduce_27 rfl ?_
      refine vs_topi (fun z1 e_z1 => ?_)
      have f_z1 : z1 = nI (g (low + d)) := (by rw [e_z1]; exact A1 _ (by omega))
      subst f_z1
      clear e_z1
      refine vs_iload dX10_reduce_28 rfl 1 rfl ?_
      refine vs_callV (st := []) (c_product (x := g (low + d)) (y := inv) mP (by omega) (by omega) (by omega) (by omega)) lk_X10_99 lm_X10_product rfl rfl rfl rfl (Nat.le_of_ble_eq_true rfl) rfl ⟨rfl, rfl⟩ dX10_reduce_30 rfl ?_
      rw [← hv]
      show vs_V _ _ _ _ _ (.int (nI v) :: _) _
      refine vs_istore [(6, .int (nI v)), (5, .int (nI (low + d))), (4, .int (nI inv)), (0, .ref (G.2.2.2 + 118)), (1, .ref (G.2.2.2 + oa)), (2, .ref (G.2.2.2 + ob)), (3, .int (nI low))] dX10_reduce_33 rfl rfl rfl ?_
      refine vs_iconst (v := 0) dX10_reduce_35 rfl rfl ?_
      refine vs_istore [(7, .int (0)), (6, .int (nI v)), (5, .int (nI (low + d))), (4, .int (nI inv)), (0, .ref (G.2.2.2 + 118)), (1, .ref (G.2.2.2 + oa)), (2, .ref (G.2.2.2 + ob)), (3, .int (nI low))] dX10_reduce_36 rfl rfl rfl ?_
      refine vs_pick (L2 := [(7, .int (nI 0)), (6, .int (nI v)), (5, .int (nI (low + d))), (4, .int (nI inv)), (0, .ref (G.2.2.2 + 118)), (1, .ref (G.2.2.2 + oa)), (2, .ref (G.2.2.2 + ob)), (3, .int (nI low))]) [0, 1, 2, 3, 4, 5, 6, 7] rfl ?_
      refine l_rd1 (S := S) hTa hTb hab gP1 gP2 bb hlow hinv hz bg (d := d) (v := v) (by omega) bv mP0 hb0 (fun S2 F2 A2 => ?_) (low + 1) 0 S (by omega) F (A1.c (fun k _ => by rw [Nat.add_zero, amk_0]))
      rw [amk_cut hz bg (show d + low < 90 by omega)] at A2
      refine vs_iinc (v := nZ (((low + d : Nat) : Int) - 1)) [(5, .int (nZ (((low + d : Nat) : Int) - 1))), (4, .int (nI inv)), (0, .ref (G.2.2.2 + 118)), (1, .ref (G.2.2.2 + oa)), (2, .ref (G.2.2.2 + ob)), (3, .int (nI low))] dX10_reduce_83 rfl 0 rfl (by rw [nI_Z]; exact nZ_add _ _) rfl rfl ?_
      refine vs_goto 17 dX10_reduce_86 rfl ?_
      refine vs_pick [0, 1, 2, 3, 4, 5] rfl ?_
      exact ih _ (nu Q d v) _ S2 (by omega) (by omega) (by omega) (by omega) (amk_b (by omega) bg) F2 A2 (fun S3 F3 A3 => K S3 F3 (by rw [hv] at A3; exact A3))

theorem c_reduce {G : vv_G} {S : vs_S} {oa ob : Nat} (hTa : vs_T[oa]? = some (.inl (0, 90))) (hTb : vs_T[ob]? = some (.inl (0, 90))) (hab : oa ≠ ob) {g b : Nat → Nat} {P : Nat} (gP1 : 2 ≤ P) (gP2 : P ≤ 30011) (hg : q_pl P 90 g) (hb : q_pl P 90 b) (h0 : 0 < tp b 90) (mP : S.1 118 2 = nI P) (A1 : aR S oa 90 g) (A2 : aR S ob 90 b) : vs_CP G yX10_reduce cX10_reduce 8 none { frames := 2, locals := 46 } [.ref (G.2.2.2 + 118), .ref (G.2.2.2 + oa), .ref (G.2.2.2 + ob), .int (nI (tp b 90 - 1))] S (fun r S2 => r = none ∧ vs_fx S S2 [oa] [] [] ∧ aR S2 oa 90 (dvp 90 g b P).2) := by
  refine vs_ofP [(0, .ref (G.2.2.2 + 118)), (1, .ref (G.2.2.2 + oa)), (2, .ref (G.2.2.2 + ob)), (3, .int (nI (tp b 90 - 1)))] (by decide) rfl rfl ?_
  have hl := tp_le b 90
  have hl2 := tp_le g 90
  have hbz := tp_hi hb.2 h0
  have b1 := hb.1 (tp b 90 - 1)
  refine vs_aload_n 0 dX10_reduce_0 rfl rfl 0 rfl ?_
  refine vs_aload_n 2 dX10_reduce_1 rfl rfl 2 rfl ?_
  refine vs_iload_n 3 dX10_reduce_2 rfl rfl 3 rfl ?_
  refine vs_iald (k := (tp b 90 - 1)) hTb rfl (by omega) rfl dX10_reduce_3 rfl ?_
  refine vs_topi (fun z1 e_z1 => ?_)
  have f_z1 : z1 = nI (b (tp b 90 - 1)) := (by rw [e_z1]; exact A2 _ (by omega))
  subst f_z1
  clear e_z1
  refine vs_callV (st := []) (c_minverse (a := b (tp b 90 - 1)) mP gP1 gP2 b1) lk_X10_142 lm_X10_inverse rfl rfl rfl rfl (Nat.le_of_ble_eq_true rfl) rfl ⟨rfl, rfl⟩ dX10_reduce_4 rfl ?_
  show vs_V _ _ _ _ _ (.int (nI (ipw (b (tp b 90 - 1)) P)) :: _) _
  refine vs_istore [(4, .int (nI (ipw (b (tp b 90 - 1)) P))), (0, .ref (G.2.2.2 + 118)), (1, .ref (G.2.2.2 + oa)), (2, .ref (G.2.2.2 + ob)), (3, .int (nI (tp b 90 - 1)))] dX10_reduce_7 rfl rfl rfl ?_
  refine vs_aload_n 1 dX10_reduce_9 rfl rfl 2 rfl ?_
  refine vs_bipush (v := 89) dX10_reduce_10 rfl rfl ?_
  refine vs_callS (st := []) (c_degreeOf (N := 90) (n := 89) hTa (by decide) (by decide) A1 (fun k => by have := hg.1 k; omega)) lk_X10_167 lm_X10_degreeOf rfl rfl (Nat.le_of_ble_eq_true rfl) rfl ⟨rfl, rfl⟩ dX10_reduce_12 rfl ?_
  show vs_V _ _ _ _ _ (.int (nZ ((tp g 90 : Int) - 1)) :: _) _
  refine vs_topi (fun v5 e_v5 => ?_)
  have e2_v5 : v5 = nZ ((tp g 90 : Int) - 1) := e_v5
  clear e_v5
  subst e2_v5
  refine vs_istore [(5, .int (nZ ((tp g 90 : Int) - 1))), (4, .int (nI (ipw (b (tp b 90 - 1)) P))), (0, .ref (G.2.2.2 + 118)), (1, .ref (G.2.2.2 + oa)), (2, .ref (G.2.2.2 + ob)), (3, .int (nI (tp b 90 - 1)))] dX10_reduce_15 rfl rfl rfl ?_
  refine vs_pick (L2 := [(5, .int (nZ ((tp g 90 : Int) - 1))), (4, .int (nI (ipw (b (tp b 90 - 1)) P))), (0, .ref (G.2.2.2 + 118)), (1, .ref (G.2.2.2 + oa)), (2, .ref (G.2.2.2 + ob)), (3, .int (nI (tp b 90 - 1)))]) [0, 1, 2, 3, 4, 5] rfl ?_
  exact l_rd2 (S := S) hTa hTb hab gP1 gP2 hb.1 (show tp b 90 - 1 < 90 by omega) (ipw_lt gP1) hbz (S0 := S) mP A2 (tp g 90 - (tp b 90 - 1)) _ (fun _ => 0) g S (by omega) (by omega) (by omega) (by omega) hg.1 vs_fx.rf A1 (fun S2 F A3 => ⟨rfl, F, A3⟩)

/-- remainder's places below n, the quotient's from there on -/
def dA (low n : Nat) (R Q : Nat → Nat) : Nat → Nat := fun j => if j < n then R j else Q (j - low)
theorem l_dd1 {G : vv_G} {S : vs_S} {oa ob : Nat} (hTa : vs_T[oa]? = some (.inl (0, 90))) (hTb : vs_T[ob]? = some (.inl (0, 90))) (hab : oa ≠ ob) {b : Nat → Nat} {P : Nat} (gP1 : 2 ≤ P) (gP2 : P ≤ 30011) (bb : ∀ k, b k < P) {low inv : Nat} (hlow : low < 90) (hinv : inv < P) (hz : ∀ k, low < k → b k = 0) {tz : Int} {g Q : Nat → Nat} (bg : ∀ k, g k < P) {d v : Nat} (hd : low + d < 90) (hv : v < P) {S0 : vs_S} (mP0 : S0.1 118 2 = nI P) (hb0 : aR S0 ob 90 b) {Pst : Option Value → vs_S → Prop} (K : ∀ S2 : vs_S, vs_fx S0 S2 [oa] [] [] → aR S2 oa 90 (fun j => if j < low + d then amk g b (nn_m (-(v : Int)) P) d P (d + low) j else dA low (low + d + 1) g Q j) → vs_V G cX10_divide (vs_MP yX10_divide 9 none { frames := 2, locals := 46 } G Pst) 94 [(7, .int (nI v)), (6, .int (nI (low + d))), (5, .int (nZ tz)), (4, .int (nI inv)), (3, .int (nI low)), (0, .ref (G.2.2.2 + 118)), (1, .ref (G.2.2.2 + oa)), (2, .ref (G.2.2.2 + ob))] [] S2) : ∀ (e i : Nat) (S : vs_S), i + e = low → vs_fx S0 S [oa] [] [] → aR S oa 90 (fun j => if j < low + d then amk g b (nn_m (-(v : Int)) P) d P (d + i) j else dA low (low + d + 1) g Q j) → vs_V G cX10_divide (vs_MP yX10_divide 9 none { frames := 2, locals := 46 } G Pst) 49 [(8, .int (nI i)), (7, .int (nI v)), (6, .int (nI (low + d))), (5, .int (nZ tz)), (4, .int (nI inv)), (3, .int (nI low)), (0, .ref (G.2.2.2 + 118)), (1, .ref (G.2.2.2 + oa)), (2, .ref (G.2.2.2 + ob))] [] S := by
  intro e
  induction e with
  | zero =>
    intro i S hi F A1
    obtain rfl : i = low := by omega
    refine vs_iload dX10_divide_49 rfl 0 rfl ?_
    refine vs_iload_n 3 dX10_divide_51 rfl rfl 5 rfl ?_
    refine vs_icmp_ge 94 dX10_divide_52 rfl rfl (fun c_52 => ?_) (fun c_52 => ?_)
    · have q_52 : ((i : Nat) : Int) ≥ ((i : Nat) : Int) := (qi_ge (nI_Z _) (nI_Z _) (by omega) (by omega) (by omega) (by omega)).mp c_52
      refine vs_pick [1, 2, 3, 4, 5, 6, 7, 8] rfl ?_
      exact K S F A1
    · have q_52 : ¬ ((i : Nat) : Int) ≥ ((i : Nat) : Int) := fun hh => c_52 ((qi_ge (nI_Z _) (nI_Z _) (by omega) (by omega) (by omega) (by omega)).mpr hh)
      omega
  | succ e ih =>
    intro i S hi F A1
    have mP : S.1 118 2 = nI P := (F.2.1 _ _ (by simp)).trans mP0
    have hb := aR.fx hb0 F (by simp <;> omega)
    have e0 : (fun j => if j < low + d then amk g b (nn_m (-(v : Int)) P) d P (d + i) j else dA low (low + d + 1) g Q j) (d + i) = g (d + i) := by show (if d + i < low + d then _ else _) = _; rw [if_pos (by omega)]; exact if_neg (by omega)
    have b1 := bg (d + i)
    have b2 := bb i
    have e2 : nn_m ((g (d + i) : Int) - (v : Int) * b i) P = (g (d + i) + nn_m (-(v : Int)) P * b (d + i - d)) % P := by rw [nn_take2 (by omega), show d + i - d = i by omega]
    refine vs_iload dX10_divide_49 rfl 0 rfl ?_
    refine vs_iload_n 3 dX10_divide_51 rfl rfl 5 rfl ?_
    refine vs_icmp_ge 94 dX10_divide_52 rfl rfl (fun c_52 => ?_) (fun c_52 => ?_)
    · have q_52 : ((i : Nat) : Int) ≥ ((low : Nat) : Int) := (qi_ge (nI_Z _) (nI_Z _) (by omega) (by omega) (by omega) (by omega)).mp c_52
      omega
    · have q_52 : ¬ ((i : Nat) : Int) ≥ ((low : Nat) : Int) := fun hh => c_52 ((qi_ge (nI_Z _) (nI_Z _) (by omega) (by omega) (by omega) (by omega)).mpr hh)
      refine vs_aload_n 1 dX10_divide_55 rfl rfl 7 rfl ?_
      refine vs_iload dX10_divide_56 rfl 2 rfl ?_
      refine vs_iload_n 3 dX10_divide_58 rfl rfl 5 rfl ?_
      refine vs_isub dX10_divide_59 rfl ?_
      refine vs_topi (fun z1 e_z1 => ?_)
      have f_z1 : z1 = nI d := (by rw [e_z1, pk_sub (by omega)]; congr 1; omega)
      subst f_z1
      clear e_z1
      refine vs_iload dX10_divide_60 rfl 0 rfl ?_
      refine vs_iadd dX10_divide_62 rfl ?_
      refine vs_topi (fun z2 e_z2 => ?_)
      have f_z2 : z2 = nI (d + i) := (by rw [e_z2]; exact nI_add _ _)
      subst f_z2
      clear e_z2
      refine vs_aload_n 0 dX10_divide_63 rfl rfl 6 rfl ?_
      refine vs_aload_n 1 dX10_divide_64 rfl rfl 7 rfl ?_
      refine vs_iload dX10_divide_65 rfl 2 rfl ?_
      refine vs_iload_n 3 dX10_divide_67 rfl rfl 5 rfl ?_
      refine vs_isub dX10_divide_68 rfl ?_
      refine vs_topi (fun z3 e_z3 => ?_)
      have f_z3 : z3 = nI d := (by rw [e_z3, pk_sub (by omega)]; congr 1; omega)
      subst f_z3
      clear e_z3
      refine vs_iload dX10_divide_69 rfl 0 rfl ?_
      refine vs_iadd dX10_divide_71 rfl ?_
      refine vs_topi (fun z4 e_z4 => ?_)
      have f_z4 : z4 = nI (d + i) := (by rw [e_z4]; exact nI_add _ _)
      subst f_z4
      clear e_z4
      refine vs_iald (k := (d + i)) hTa rfl (by omega) rfl dX10_divide_72 rfl ?_
      refine vs_topi (fun z5 e_z5 => ?_)
      have f_z5 : z5 = nI (g (d + i)) := (by rw [e_z5, A1 _ (by omega), e0])
      subst f_z5
      clear e_z5
      refine vs_i2l dX10_divide_73 rfl ?_
      refine vs_iload dX10_divide_74 rfl 1 rfl ?_
      refine vs_i2l dX10_divide_76 rfl ?_
      refine vs_aload_n 2 dX10_divide_77 rfl rfl 8 rfl ?_
      refine vs_iload dX10_divide_78 rfl 0 rfl ?_
      refine vs_iald (k := i) hTb rfl (by omega) rfl dX10_divide_80 rfl ?_
      refine vs_topi (fun z6 e_z6 => ?_)
      have f_z6 : z6 = nI (b i) := (by rw [e_z6]; exact hb i (by omega))
      subst f_z6
      clear e_z6
      refine vs_i2l dX10_divide_81 rfl ?_
      refine vs_lmul dX10_divide_82 rfl ?_
      refine vs_lsub dX10_divide_83 rfl ?_
      refine vs_callV (st := [.int (nI (d + i)), .ref (G.2.2.2 + oa)]) (c_restZ (z := (g (d + i) : Int) - (v : Int) * b i) (nn_msub2 hv b2 b1 gP2) mP gP1 gP2) lk_X10_135 lm_X10_rest rfl rfl rfl rfl (Nat.le_of_ble_eq_true rfl) rfl ⟨rfl, rfl⟩ dX10_divide_84 rfl ?_
      show vs_V _ _ _ _ _ (.int (nI (nn_m ((g (d + i) : Int) - (v : Int) * b i) P)) :: _) _
      refine vs_iast (k := (d + i)) hTa rfl (by omega) rfl dX10_divide_87 rfl ?_
      refine vs_iinc (v := nI (i + 1)) [(8, .int (nI (i + 1))), (7, .int (nI v)), (6, .int (nI (low + d))), (5, .int (nZ tz)), (4, .int (nI inv)), (3, .int (nI low)), (0, .ref (G.2.2.2 + 118)), (1, .ref (G.2.2.2 + oa)), (2, .ref (G.2.2.2 + ob))] dX10_divide_88 rfl 0 rfl (by first | exact nI_1 _ | (simp only [fa_lit, nI_add, pk_mul, nI_1]; rfl)) rfl rfl ?_
      refine vs_goto 49 dX10_divide_91 rfl ?_
      refine vs_pick [0, 1, 2, 3, 4, 5, 6, 7, 8] rfl ?_
      have A2 := aR.put (j := d + i) (x := nn_m ((g (d + i) : Int) - (v : Int) * b i) P) A1
      refine ih (i + 1) _ (by omega) (vs_fx.ia F (by simp)) (A2.c (fun j hj => ?_))
      rw [e2, show d + (i + 1) = d + i + 1 by omega, ← amk_s (by omega)]
      unfold nu
      dsimp only
      by_cases e : j = d + i
      · rw [if_pos e, if_pos (by omega), if_pos e]
      · rw [if_neg e]
        by_cases e3 : j < low + d
        · rw [if_pos e3, if_pos e3, if_neg e]
        · rw [if_neg e3, if_neg e3]

theorem l_dd2 {G : vv_G} {S : vs_S} {oa ob : Nat} (hTa : vs_T[oa]? = some (.inl (0, 90))) (hTb : vs_T[ob]? = some (.inl (0, 90))) (hab : oa ≠ ob) {b : Nat → Nat} {P : Nat} (gP1 : 2 ≤ P) (gP2 : P ≤ 30011) (bb : ∀ k, b k < P) {low inv : Nat} (hlow : low < 90) (hinv : inv < P) (hz : ∀ k, low < k → b k = 0) {tz : Int} {S0 : vs_S} (mP0 : S0.1 118 2 = nI P) (hb0 : aR S0 ob 90 b) {Pst : Option Value → vs_S → Prop} : ∀ (d : Nat) (z : Int) (Q g : Nat → Nat) (S : vs_S), -1 ≤ z → z < 90 → (d = 0 → z < low) → (0 < d → z = low + d - 1) → (∀ k, g k < P) → vs_fx S0 S [oa] [] [] → aR S oa 90 (dA low (low + d) g Q) → (∀ S2 : vs_S, vs_fx S0 S2 [oa] [] [] → aR S2 oa 90 (dA low low (dvn 90 b low inv P d (Q, g)).2 (dvn 90 b low inv P d (Q, g)).1) → vs_V G cX10_divide (vs_MP yX10_divide 9 none { frames := 2, locals := 46 } G Pst) 106 [(5, .int (nZ tz)), (3, .int (nI low)), (0, .ref (G.2.2.2 + 118)), (1, .ref (G.2.2.2 + oa))] [] S2) → vs_V G cX10_divide (vs_MP yX10_divide 9 none { frames := 2, locals := 46 } G Pst) 28 [(6, .int (nZ z)), (5, .int (nZ tz)), (4, .int (nI inv)), (3, .int (nI low)), (0, .ref (G.2.2.2 + 118)), (1, .ref (G.2.2.2 + oa)), (2, .ref (G.2.2.2 + ob))] [] S := by
  intro d
  induction d with
  | zero =>
    intro z Q g S hz1 hz2 hz3 hz4 bg F A1 K
    have := hz3 rfl
    refine vs_iload dX10_divide_28 rfl 0 rfl ?_
    refine vs_iload_n 3 dX10_divide_30 rfl rfl 3 rfl ?_
    refine vs_icmp_lt 106 dX10_divide_31 rfl rfl (fun c_31 => ?_) (fun c_31 => ?_)
    · have q_31 : (z : Int) < ((low : Nat) : Int) := (qi_lt rfl (nI_Z _) (by omega) (by omega) (by omega) (by omega)).mp c_31
      refine vs_pick [1, 3, 4, 5] rfl ?_
      exact K S F A1
    · have q_31 : ¬ (z : Int) < ((low : Nat) : Int) := fun hh => c_31 ((qi_lt rfl (nI_Z _) (by omega) (by omega) (by omega) (by omega)).mpr hh)
      omega
  | succ d ih =>
    intro z Q g S hz1 hz2 hz3 hz4 bg F A1 K
    have mP : S.1 118 2 = nI P := (F.2.1 _ _ (by simp)).trans mP0
    obtain rfl : z = ((low + d : Nat) : Int) := by have := hz4 (by omega); omega
    rw [nZ_n]
    have b1 := bg (low + d)
    obtain ⟨v, hv⟩ : ∃ v, v = g (low + d) * inv % P := ⟨_, rfl⟩
    have bv : v < P := by rw [hv]; exact Nat.mod_lt _ (by omega)
    have e0 : dA low (low + (d + 1)) g Q (low + d) = g (low + d) := if_pos (by omega)
    refine vs_iload dX10_divide_28 rfl 0 rfl ?_
    refine vs_iload_n 3 dX10_divide_30 rfl rfl 3 rfl ?_
    refine vs_icmp_lt 106 dX10_divide_31 rfl rfl (fun c_31 => ?_) (fun c_31 => ?_)
    · have q_31 : (((low + d) : Nat) : Int) < ((low : Nat) : Int) := (qi_lt (nI_Z _) (nI_Z _) (by omega) (by omega) (by omega) (by omega)).mp c_31
      omega
    · have q_31 : ¬ (((low + d) : Nat) : Int) < ((low : Nat) : Int) := fun hh => c_31 ((qi_lt (nI_Z _) (nI_Z _) (by omega) (by omega) (by omega) (by omega)).mpr hh)
      refine vs_aload_n 0 dX10_divide_34 rfl rfl 4 rfl ?_
      refine vs_aload_n 1 dX10_divide_35 rfl rfl 5 rfl ?_
      refine vs_iload dX10_divide_36 rfl 0 rfl ?_
      refine vs_iald (k := (low + d)) hTa rfl (by omega) rfl dX10_divide_38 rfl ?_
      refine vs_topi (fun z1 e_z1 => ?_)
      have f_z1 : z1 = nI (g (low + d)) := (by rw [e_z1, A1 _ (by omega), e0])
      subst f_z1
      clear e_z1
      refine vs_iload dX10_divide_39 rfl 2 rfl ?_
      refine vs_callV (st := []) (c_product (x := g (low + d)) (y := inv) mP (by omega) (by omega) (by omega) (by omega)) lk_X10_99 lm_X10_product rfl rfl rfl rfl (Nat.le_of_ble_eq_true rfl) rfl ⟨rfl, rfl⟩ dX10_divide_41 rfl ?_
      rw [← hv]
      show vs_V _ _ _ _ _ (.int (nI v) :: _) _
      refine vs_istore [(7, .int (nI v)), (6, .int (nI (low + d))), (5, .int (nZ tz)), (4, .int (nI inv)), (3, .int (nI low)), (0, .ref (G.2.2.2 + 118)), (1, .ref (G.2.2.2 + oa)), (2, .ref (G.2.2.2 + ob))] dX10_divide_44 rfl rfl rfl ?_
      refine vs_iconst (v := 0) dX10_divide_46 rfl rfl ?_
      refine vs_istore [(8, .int (0)), (7, .int (nI v)), (6, .int (nI (low + d))), (5, .int (nZ tz)), (4, .int (nI inv)), (3, .int (nI low)), (0, .ref (G.2.2.2 + 118)), (1, .ref (G.2.2.2 + oa)), (2, .ref (G.2.2.2 + ob))] dX10_divide_47 rfl rfl rfl ?_
      refine vs_pick (L2 := [(8, .int (nI 0)), (7, .int (nI v)), (6, .int (nI (low + d))), (5, .int (nZ tz)), (4, .int (nI inv)), (3, .int (nI low)), (0, .ref (G.2.2.2 + 118)), (1, .ref (G.2.2.2 + oa)), (2, .ref (G.2.2.2 + ob))]) [0, 1, 2, 3, 4, 5, 6, 7, 8] rfl ?_
      refine l_dd1 (S := S) (Q := Q) hTa hTb hab gP1 gP2 bb hlow hinv hz bg (d := d) (v := v) (by omega) bv mP0 hb0 (fun S2 F2 A2 => ?_) low 0 S (by omega) F (A1.c (fun k _ => ?_))
      rotate_left
      · show dA low (low + (d + 1)) g Q k = if k < low + d then _ else _
        by_cases e : k < low + d
        · rw [if_pos e, show amk g b (nn_m (-(v : Int)) P) d P (d + 0) = g from amk_0]; exact if_pos (by omega)
        · rw [if_neg e]; rfl
      refine vs_aload_n 1 dX10_divide_94 rfl rfl 6 rfl ?_
      refine vs_iload dX10_divide_95 rfl 1 rfl ?_
      refine vs_iload dX10_divide_97 rfl 0 rfl ?_
      refine vs_iast (k := (low + d)) hTa rfl (by omega) rfl dX10_divide_99 rfl ?_
      refine vs_iinc (v := nZ (((low + d : Nat) : Int) - 1)) [(6, .int (nZ (((low + d : Nat) : Int) - 1))), (7, .int (nI v)), (5, .int (nZ tz)), (4, .int (nI inv)), (3, .int (nI low)), (0, .ref (G.2.2.2 + 118)), (1, .ref (G.2.2.2 + oa)), (2, .ref (G.2.2.2 + ob))] dX10_divide_100 rfl 1 rfl (by rw [nI_Z]; exact nZ_add _ _) rfl rfl ?_
      refine vs_goto 28 dX10_divide_103 rfl ?_
      refine vs_pick [0, 2, 3, 4, 5, 6, 7] rfl ?_
      refine ih _ (nu Q d v) (amk g b (nn_m (-(v : Int)) P) d P 90) _ (by omega) (by omega) (by omega) (by omega) (amk_b (by omega) bg) (vs_fx.ia F2 (by simp)) ((aR.put (j := low + d) (x := v) A2).c (fun j hj => ?_)) (fun S3 F3 A3 => K S3 F3 (by rw [hv] at A3; exact A3))
      unfold nu dA
      dsimp only
      by_cases e : j = low + d
      · rw [if_pos e, if_neg (by omega), if_pos (by omega)]
      · rw [if_neg e]
        by_cases e2 : j < low + d
        · rw [if_pos e2, if_pos e2]
          unfold amk
          by_cases e3 : d ≤ j
          · rw [if_pos ⟨e3, by omega⟩, if_pos ⟨e3, by omega⟩]
          · rw [if_neg (fun z => e3 z.1), if_neg (fun z => e3 z.1)]
        · rw [if_neg e2, if_neg e2, if_neg (by omega), if_neg (by omega)]

theorem l_dd3 {G : vv_G} {S : vs_S} {oa : Nat} (hTa : vs_T[oa]? = some (.inl (0, 90))) {low ta : Nat} {R Q : Nat → Nat} (hlow : low < 90) (hta : ta ≤ 90) (hQ : ∀ k, ta ≤ k + low → Q k = 0) {S0 : vs_S} {Pst : Option Value → vs_S → Prop} (K : ∀ S2 : vs_S, vs_fx S0 S2 [oa] [] [] → aR S2 oa 90 (fun j => if j < 90 then Q j else dA low low R Q j) → Pst none S2) : ∀ (e i : Nat) (S : vs_S), i + e = 90 → vs_fx S0 S [oa] [] [] → aR S oa 90 (fun j => if j < i then Q j else dA low low R Q j) → vs_V G cX10_divide (vs_MP yX10_divide 9 none { frames := 2, locals := 46 } G Pst) 109 [(6, .int (nI i)), (5, .int (nZ ((ta : Int) - 1))), (3, .int (nI low)), (0, .ref (G.2.2.2 + 118)), (1, .ref (G.2.2.2 + oa))] [] S := by
  intro e
  induction e with
  | zero =>
    intro i S hi F A1
    obtain rfl : i = 90 := by omega
    refine vs_iload dX10_divide_109 rfl 0 rfl ?_
    refine vs_bipush (v := 89) dX10_divide_111 rfl rfl ?_
    refine vs_icmp_gt 145 dX10_divide_113 rfl rfl (fun c_113 => ?_) (fun c_113 => ?_)
    · have q_113 : ((90 : Nat) : Int) > ((89 : Nat) : Int) := (qi_gt (nI_Z _) (by first | exact nI_Z _ | (simp only [fa_lit, nI_add, pk_mul, nI_1]; exact nI_Z _)) (by omega) (by omega) (by omega) (by omega)).mp c_113
      exact vs_vretP dX10_divide_145 (K S F A1)
    · have q_113 : ¬ ((90 : Nat) : Int) > ((89 : Nat) : Int) := fun hh => c_113 ((qi_gt (nI_Z _) (by first | exact nI_Z _ | (simp only [fa_lit, nI_add, pk_mul, nI_1]; exact nI_Z _)) (by omega) (by omega) (by omega) (by omega)).mpr hh)
      omega
  | succ e ih =>
    intro i S hi F A1
    refine vs_iload dX10_divide_109 rfl 0 rfl ?_
    refine vs_bipush (v := 89) dX10_divide_111 rfl rfl ?_
    refine vs_icmp_gt 145 dX10_divide_113 rfl rfl (fun c_113 => ?_) (fun c_113 => ?_)
    · have q_113 : ((i : Nat) : Int) > ((89 : Nat) : Int) := (qi_gt (nI_Z _) (by first | exact nI_Z _ | (simp only [fa_lit, nI_add, pk_mul, nI_1]; exact nI_Z _)) (by omega) (by omega) (by omega) (by omega)).mp c_113
      omega
    · have q_113 : ¬ ((i : Nat) : Int) > ((89 : Nat) : Int) := fun hh => c_113 ((qi_gt (nI_Z _) (by first | exact nI_Z _ | (simp only [fa_lit, nI_add, pk_mul, nI_1]; exact nI_Z _)) (by omega) (by omega) (by omega) (by omega)).mpr hh)
      refine vs_aload_n 1 dX10_divide_116 rfl rfl 4 rfl ?_
      refine vs_iload dX10_divide_117 rfl 0 rfl ?_
      refine vs_iload dX10_divide_119 rfl 0 rfl ?_
      refine vs_iload_n 3 dX10_divide_121 rfl rfl 2 rfl ?_
      refine vs_iadd dX10_divide_122 rfl ?_
      refine vs_iload dX10_divide_123 rfl 1 rfl ?_
      refine vs_icmp_gt 137 dX10_divide_125 rfl rfl (fun c_125 => ?_) (fun c_125 => ?_)
      · have q_125 : (((i + low) : Nat) : Int) > (((ta : Int) - 1) : Int) := (qi_gt (by first | exact nI_Z _ | (simp only [fa_lit, nI_add, pk_mul, nI_1]; exact nI_Z _)) rfl (by omega) (by omega) (by omega) (by omega)).mp c_125
        have e1 : Q i = 0 := hQ i (by omega)
        refine vs_iconst (v := 0) dX10_divide_137 rfl rfl ?_
        refine vs_iast (k := i) hTa rfl (by omega) rfl dX10_divide_138 rfl ?_
        refine vs_iinc (v := nI (i + 1)) [(6, .int (nI (i + 1))), (5, .int (nZ ((ta : Int) - 1))), (3, .int (nI low)), (0, .ref (G.2.2.2 + 118)), (1, .ref (G.2.2.2 + oa))] dX10_divide_139 rfl 0 rfl (by first | exact nI_1 _ | (simp only [fa_lit, nI_add, pk_mul, nI_1]; rfl)) rfl rfl ?_
        refine vs_goto 109 dX10_divide_142 rfl ?_
        refine vs_pick [0, 1, 2, 3, 4] rfl ?_
        have A2 := aR.put (j := i) (x := Q i) A1
        rw [e1] at A2
        refine ih (i + 1) _ (by omega) (vs_fx.ia F (by simp)) (A2.c (fun j hj => ?_))
        unfold nu
        dsimp only
        by_cases e : j = i
        · rw [if_pos e, if_pos (by omega), e] <;> exact e1.symm
        · rw [if_neg e]
          by_cases e2 : j < i
          · rw [if_pos e2, if_pos (by omega)]
          · rw [if_neg e2, if_neg (by omega)]
      · have q_125 : ¬ (((i + low) : Nat) : Int) > (((ta : Int) - 1) : Int) := fun hh => c_125 ((qi_gt (by first | exact nI_Z _ | (simp only [fa_lit, nI_add, pk_mul, nI_1]; exact nI_Z _)) rfl (by omega) (by omega) (by omega) (by omega)).mpr hh)
        have e0 : (fun j => if j < i then Q j else dA low low R Q j) (i + low) = Q i := by
          show (if i + low < i then _ else _) = _
          rw [if_neg (by omega)]
          show dA low low R Q (i + low) = _
          unfold dA
          rw [if_neg (by omega), show i + low - low = i by omega]
        have e1 : Q i = Q i := rfl
        refine vs_aload_n 1 dX10_divide_128 rfl rfl 4 rfl ?_
        refine vs_iload dX10_divide_129 rfl 0 rfl ?_
        refine vs_iload_n 3 dX10_divide_131 rfl rfl 2 rfl ?_
        refine vs_iadd dX10_divide_132 rfl ?_
        refine vs_iald (k := (i + low)) hTa (nI_add _ _) (by omega) rfl dX10_divide_133 rfl ?_
        refine vs_topi (fun z1 e_z1 => ?_)
        have f_z1 : z1 = nI (Q i) := (by rw [e_z1, A1 _ (by omega), e0])
        subst f_z1
        clear e_z1
        refine vs_goto 138 dX10_divide_134 rfl ?_
        refine vs_iast (k := i) hTa rfl (by omega) rfl dX10_divide_138 rfl ?_
        refine vs_iinc (v := nI (i + 1)) [(6, .int (nI (i + 1))), (5, .int (nZ ((ta : Int) - 1))), (3, .int (nI low)), (0, .ref (G.2.2.2 + 118)), (1, .ref (G.2.2.2 + oa))] dX10_divide_139 rfl 0 rfl (by first | exact nI_1 _ | (simp only [fa_lit, nI_add, pk_mul, nI_1]; rfl)) rfl rfl ?_
        refine vs_goto 109 dX10_divide_142 rfl ?_
        refine vs_pick [0, 1, 2, 3, 4] rfl ?_
        have A2 := aR.put (j := i) (x := Q i) A1
        rw [e1] at A2
        refine ih (i + 1) _ (by omega) (vs_fx.ia F (by simp)) (A2.c (fun j hj => ?_))
        unfold nu
        dsimp only
        by_cases e : j = i
        · rw [if_pos e, if_pos (by omega), e] <;> exact e1.symm
        · rw [if_neg e]
          by_cases e2 : j < i
          · rw [if_pos e2, if_pos (by omega)]
          · rw [if_neg e2, if_neg (by omega)]

theorem c_divideM {G : vv_G} {S : vs_S} {oa ob : Nat} (hTa : vs_T[oa]? = some (.inl (0, 90))) (hTb : vs_T[ob]? = some (.inl (0, 90))) (hab : oa ≠ ob) {g b : Nat → Nat} {P : Nat} (hp : q_pr P) (gP1 : 2 ≤ P) (gP2 : P ≤ 30011) (hg : q_pl P 90 g) (hb : q_pl P 90 b) (h0 : 0 < tp b 90) (mP : S.1 118 2 = nI P) (A1 : aR S oa 90 g) (A2 : aR S ob 90 b) : vs_CP G yX10_divide cX10_divide 9 none { frames := 2, locals := 46 } [.ref (G.2.2.2 + 118), .ref (G.2.2.2 + oa), .ref (G.2.2.2 + ob)] S (fun r S2 => r = none ∧ vs_fx S S2 [oa] [] [] ∧ aR S2 oa 90 (dvp 90 g b P).1) := by
  refine vs_ofP [(0, .ref (G.2.2.2 + 118)), (1, .ref (G.2.2.2 + oa)), (2, .ref (G.2.2.2 + ob))] (by decide) rfl rfl ?_
  have hl := tp_le b 90
  have hl2 := tp_le g 90
  have hbz := tp_hi hb.2 h0
  have b1 := hb.1 (tp b 90 - 1)
  obtain ⟨s1, s2, s3, s4, s5⟩ := dvp_s hp hg hb h0
  refine vs_aload_n 2 dX10_divide_0 rfl rfl 2 rfl ?_
  refine vs_bipush (v := 89) dX10_divide_1 rfl rfl ?_
  refine vs_callS (st := []) (c_degreeOf (N := 90) (n := 89) hTb (by decide) (by decide) A2 (fun k => by have := hb.1 k; omega)) lk_X10_167 lm_X10_degreeOf rfl rfl (Nat.le_of_ble_eq_true rfl) rfl ⟨rfl, rfl⟩ dX10_divide_3 rfl ?_
  rw [show (89 + 1) = 90 from rfl, show nZ ((tp b 90 : Int) - 1) = nI (tp b 90 - 1) from by rw [nI_Z]; congr 1; omega]
  show vs_V _ _ _ _ _ (.int (nI (tp b 90 - 1)) :: _) _
  refine vs_istore_n 3 [(3, .int (nI (tp b 90 - 1))), (0, .ref (G.2.2.2 + 118)), (1, .ref (G.2.2.2 + oa)), (2, .ref (G.2.2.2 + ob))] dX10_divide_6 rfl rfl rfl rfl ?_
  refine vs_aload_n 0 dX10_divide_7 rfl rfl 1 rfl ?_
  refine vs_aload_n 2 dX10_divide_8 rfl rfl 3 rfl ?_
  refine vs_iload_n 3 dX10_divide_9 rfl rfl 0 rfl ?_
  refine vs_iald (k := (tp b 90 - 1)) hTb rfl (by omega) rfl dX10_divide_10 rfl ?_
  refine vs_topi (fun z1 e_z1 => ?_)
  have f_z1 : z1 = nI (b (tp b 90 - 1)) := (by rw [e_z1]; exact A2 _ (by omega))
  subst f_z1
  clear e_z1
  refine vs_callV (st := []) (c_minverse (a := b (tp b 90 - 1)) mP gP1 gP2 b1) lk_X10_142 lm_X10_inverse rfl rfl rfl rfl (Nat.le_of_ble_eq_true rfl) rfl ⟨rfl, rfl⟩ dX10_divide_11 rfl ?_
  show vs_V _ _ _ _ _ (.int (nI (ipw (b (tp b 90 - 1)) P)) :: _) _
  refine vs_istore [(4, .int (nI (ipw (b (tp b 90 - 1)) P))), (3, .int (nI (tp b 90 - 1))), (0, .ref (G.2.2.2 + 118)), (1, .ref (G.2.2.2 + oa)), (2, .ref (G.2.2.2 + ob))] dX10_divide_14 rfl rfl rfl ?_
  refine vs_aload_n 1 dX10_divide_16 rfl rfl 3 rfl ?_
  refine vs_bipush (v := 89) dX10_divide_17 rfl rfl ?_
  refine vs_callS (st := []) (c_degreeOf (N := 90) (n := 89) hTa (by decide) (by decide) A1 (fun k => by have := hg.1 k; omega)) lk_X10_167 lm_X10_degreeOf rfl rfl (Nat.le_of_ble_eq_true rfl) rfl ⟨rfl, rfl⟩ dX10_divide_19 rfl ?_
  show vs_V _ _ _ _ _ (.int (nZ ((tp g 90 : Int) - 1)) :: _) _
  refine vs_topi (fun v5 e_v5 => ?_)
  have e2_v5 : v5 = nZ ((tp g 90 : Int) - 1) := e_v5
  clear e_v5
  subst e2_v5
  refine vs_istore [(5, .int (nZ ((tp g 90 : Int) - 1))), (4, .int (nI (ipw (b (tp b 90 - 1)) P))), (3, .int (nI (tp b 90 - 1))), (0, .ref (G.2.2.2 + 118)), (1, .ref (G.2.2.2 + oa)), (2, .ref (G.2.2.2 + ob))] dX10_divide_22 rfl rfl rfl ?_
  refine vs_iload dX10_divide_24 rfl 0 rfl ?_
  refine vs_topi (fun v6 e_v6 => ?_)
  have e2_v6 : v6 = nZ ((tp g 90 : Int) - 1) := e_v6
  clear e_v6
  subst e2_v6
  refine vs_istore [(6, .int (nZ ((tp g 90 : Int) - 1))), (5, .int (nZ ((tp g 90 : Int) - 1))), (4, .int (nI (ipw (b (tp b 90 - 1)) P))), (3, .int (nI (tp b 90 - 1))), (0, .ref (G.2.2.2 + 118)), (1, .ref (G.2.2.2 + oa)), (2, .ref (G.2.2.2 + ob))] dX10_divide_26 rfl rfl rfl ?_
  refine vs_pick (L2 := [(6, .int (nZ ((tp g 90 : Int) - 1))), (5, .int (nZ ((tp g 90 : Int) - 1))), (4, .int (nI (ipw (b (tp b 90 - 1)) P))), (3, .int (nI (tp b 90 - 1))), (0, .ref (G.2.2.2 + 118)), (1, .ref (G.2.2.2 + oa)), (2, .ref (G.2.2.2 + ob))]) [0, 1, 2, 3, 4, 5, 6] rfl ?_
  refine l_dd2 (S := S) hTa hTb hab gP1 gP2 hb.1 (show tp b 90 - 1 < 90 by omega) (ipw_lt gP1) hbz (S0 := S) mP A2 (tp g 90 - (tp b 90 - 1)) _ (fun _ => 0) g S (by omega) (by omega) (by omega) (by omega) hg.1 vs_fx.rf (A1.c (fun j _ => ?_)) (fun S2 F A3 => ?_)
  · unfold dA
    by_cases e : j < tp b 90 - 1 + (tp g 90 - (tp b 90 - 1))
    · rw [if_pos e]
    · rw [if_neg e]
      by_cases e2 : 90 ≤ j
      · exact hg.2 j e2
      · by_cases e3 : tp g 90 = 0
        · exact tp_0 90 e3 j (by omega)
        · exact (tp_1 90 (by omega)).2 j (by omega) (by omega)
  have hQz : ∀ k, tp g 90 ≤ k + (tp b 90 - 1) → (dvp 90 g b P).1 k = 0 := fun k hk => q_dvd0 (s4.1 k) (s3 k (by omega))
  refine vs_iconst (v := 0) dX10_divide_106 rfl rfl ?_
  refine vs_istore [(6, .int (0)), (5, .int (nZ ((tp g 90 : Int) - 1))), (3, .int (nI (tp b 90 - 1))), (0, .ref (G.2.2.2 + 118)), (1, .ref (G.2.2.2 + oa))] dX10_divide_107 rfl rfl rfl ?_
  refine vs_pick (L2 := [(6, .int (nI 0)), (5, .int (nZ ((tp g 90 : Int) - 1))), (3, .int (nI (tp b 90 - 1))), (0, .ref (G.2.2.2 + 118)), (1, .ref (G.2.2.2 + oa))]) [0, 1, 2, 3, 4] rfl ?_
  exact l_dd3 (S := S) (R := (dvp 90 g b P).2) (Q := (dvp 90 g b P).1) hTa (low := tp b 90 - 1) (ta := tp g 90) (by omega) hl2 hQz (S0 := S2) (fun S3 F3 A4 => ⟨rfl, vs_fx.tr F F3 (by simp) (by simp) (by simp), A4.c (fun j hj => if_pos hj)⟩) 90 0 S2 (by omega) vs_fx.rf (A3.c (fun j _ => (if_neg (by omega)).symm))

