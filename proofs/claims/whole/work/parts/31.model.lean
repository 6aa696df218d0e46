theorem zcmp_le {x y : Int} : zcmp x y ≤ 0 ↔ x ≤ y := by
  unfold zcmp
  by_cases h : y < x
  · rw [if_pos h]; omega
  · rw [if_neg h]
    by_cases e : x = y
    · rw [if_pos e]; omega
    · rw [if_neg e]; omega
theorem zcmp_gt {x y : Int} : zcmp x y > 0 ↔ y < x := by
  unfold zcmp
  by_cases h : y < x
  · rw [if_pos h]; omega
  · rw [if_neg h]
    by_cases e : x = y
    · rw [if_pos e]; omega
    · rw [if_neg e]; omega
theorem aR_0 {S : vs_S} {o : Nat} {g : Nat → Nat} : aR S o 0 g := fun k hk => absurd hk (by omega)
theorem cut_all {h : Nat → Nat} {n m : Nat} (hz : ∀ k, n ≤ k → h k = 0) (hm : n ≤ m) : cut h m = h := by
  funext k
  unfold cut
  by_cases e : k < m
  · rw [if_pos e]
  · rw [if_neg e, hz k (by omega)]
theorem l_clearWork {G : vv_G} {S : vs_S}  {S0 : vs_S}  {Pst : Option Value → vs_S → Prop} (K : ∀ S2 : vs_S, vs_fx S0 S2 [127, 128] [] [] → aR S2 127 90 ((fun _ => 0)) → aR S2 128 90 ((fun _ => 0)) → vs_V G cX10_clearWork (vs_MP yX10_clearWork 2 none { frames := 0, locals := 0 } G Pst) 28 [(0, .ref (G.2.2.2 + 118))] [] S2) : ∀ (d i : Nat) (S : vs_S), i + d = 90 → vs_fx S0 S [127, 128] [] [] → aR S 127 i ((fun _ => 0)) → aR S 128 i ((fun _ => 0)) → vs_V G cX10_clearWork (vs_MP yX10_clearWork 2 none { frames := 0, locals := 0 } G Pst) 2 [(1, .int (nI i)), (0, .ref (G.2.2.2 + 118))] [] S := by
  intro d
  induction d with
  | zero =>
    intro i S hi F A1 A2
    obtain rfl : i = 90 := by omega
    refine vs_iload_n 1 dX10_clearWork_2 rfl rfl 0 rfl ?_
    refine vs_bipush (v := 90) dX10_clearWork_3 rfl rfl ?_
    refine vs_icmp_ge 28 dX10_clearWork_5 rfl rfl (fun c_5 => ?_) (fun c_5 => ?_)
    · have q_5 : ((90 : Nat) : Int) ≥ ((90 : Nat) : Int) := (qi_ge (nI_Z _) (by first | exact nI_Z _ | (simp only [fa_lit, nI_add, pk_mul, nI_1]; exact nI_Z _)) (by omega) (by omega) (by omega) (by omega)).mp c_5
      refine vs_pick (L2 := [(0, .ref (G.2.2.2 + 118))]) [1] rfl ?_
      exact K S F A1 A2
    · have q_5 : ¬ ((90 : Nat) : Int) ≥ ((90 : Nat) : Int) := fun hh => c_5 ((qi_ge (nI_Z _) (by first | exact nI_Z _ | (simp only [fa_lit, nI_add, pk_mul, nI_1]; exact nI_Z _)) (by omega) (by omega) (by omega) (by omega)).mpr hh)
      omega
  | succ d ih =>
    intro i S hi F A1 A2
    refine vs_iload_n 1 dX10_clearWork_2 rfl rfl 0 rfl ?_
    refine vs_bipush (v := 90) dX10_clearWork_3 rfl rfl ?_
    refine vs_icmp_ge 28 dX10_clearWork_5 rfl rfl (fun c_5 => ?_) (fun c_5 => ?_)
    · have q_5 : ((i : Nat) : Int) ≥ ((90 : Nat) : Int) := (qi_ge (nI_Z _) (by first | exact nI_Z _ | (simp only [fa_lit, nI_add, pk_mul, nI_1]; exact nI_Z _)) (by omega) (by omega) (by omega) (by omega)).mp c_5
      omega
    · have q_5 : ¬ ((i : Nat) : Int) ≥ ((90 : Nat) : Int) := fun hh => c_5 ((qi_ge (nI_Z _) (by first | exact nI_Z _ | (simp only [fa_lit, nI_add, pk_mul, nI_1]; exact nI_Z _)) (by omega) (by omega) (by omega) (by omega)).mpr hh)
      refine vs_aload_n 0 dX10_clearWork_8 rfl rfl 1 rfl ?_
      refine vs_get (v := .ref (G.2.2.2 + 127)) lf_X10_35 rfl rfl dX10_clearWork_9 rfl ?_
      refine vs_iload_n 1 dX10_clearWork_12 rfl rfl 0 rfl ?_
      refine vs_iconst (v := 0) dX10_clearWork_13 rfl rfl ?_
      refine vs_iast (k := i) rfl (by first | rfl | (simp only [fa_lit, nI_add, pk_mul, nI_1]; done) | omega) (by omega) rfl dX10_clearWork_14 rfl ?_
      refine vs_gen (fun T1 e_T1 => ?_)
      have F : vs_fx S0 T1 [127, 128] [] [] := by rw [e_T1]; repeat (first | exact F | refine vs_fx.ia ?_ (by simp <;> omega) | refine vs_fx.sc ?_ (by simp <;> omega) | refine vs_fx.la ?_ (by simp <;> omega))
      have A2 : aR T1 128 i ((fun _ => 0)) := by rw [e_T1]; repeat (first | exact A2 | refine aR.ne ?_ (by omega))
      have A1 : aR T1 127 (i + 1) ((fun _ => 0)) := (by rw [e_T1]; exact aR.push A1)
      clear e_T1
      refine vs_aload_n 0 dX10_clearWork_15 rfl rfl 1 rfl ?_
      refine vs_get (v := .ref (G.2.2.2 + 128)) lf_X10_38 rfl rfl dX10_clearWork_16 rfl ?_
      refine vs_iload_n 1 dX10_clearWork_19 rfl rfl 0 rfl ?_
      refine vs_iconst (v := 0) dX10_clearWork_20 rfl rfl ?_
      refine vs_iast (k := i) rfl (by first | rfl | (simp only [fa_lit, nI_add, pk_mul, nI_1]; done) | omega) (by omega) rfl dX10_clearWork_21 rfl ?_
      refine vs_gen (fun T2 e_T2 => ?_)
      have F : vs_fx S0 T2 [127, 128] [] [] := by rw [e_T2]; repeat (first | exact F | refine vs_fx.ia ?_ (by simp <;> omega) | refine vs_fx.sc ?_ (by simp <;> omega) | refine vs_fx.la ?_ (by simp <;> omega))
      have A1 : aR T2 127 (i + 1) ((fun _ => 0)) := by rw [e_T2]; repeat (first | exact A1 | refine aR.ne ?_ (by omega))
      have A2 : aR T2 128 (i + 1) ((fun _ => 0)) := (by rw [e_T2]; exact aR.push A2)
      clear e_T2
      refine vs_iinc (v := nI (i + 1)) [(1, .int (nI (i + 1))), (0, .ref (G.2.2.2 + 118))] dX10_clearWork_22 rfl 0 rfl (by first | exact nI_1 _ | (simp only [fa_lit, nI_add, pk_mul, nI_1]; rfl)) rfl rfl ?_
      refine vs_goto 2 dX10_clearWork_25 rfl ?_
      refine vs_pick [0, 1] rfl ?_
      exact ih (i + 1) _ (by omega) F A1 A2

theorem c_clearWork {G : vv_G} {S : vs_S}  : vs_CP G yX10_clearWork cX10_clearWork 2 none { frames := 0, locals := 0 } [.ref (G.2.2.2 + 118)] S (fun r S2 => r = none ∧ vs_fx S S2 [127, 128] [] [] ∧ aR S2 127 90 (fun _ => 0) ∧ aR S2 128 90 (fun _ => 0)) := by
  refine vs_ofP [(0, .ref (G.2.2.2 + 118))] (by decide) rfl rfl ?_
  refine vs_iconst (v := 0) dX10_clearWork_0 rfl rfl ?_
  refine vs_istore_n 1 [(1, .int (0)), (0, .ref (G.2.2.2 + 118))] dX10_clearWork_1 rfl rfl rfl rfl ?_
  refine vs_pick (L2 := [(1, .int (nI 0)), (0, .ref (G.2.2.2 + 118))]) [0, 1] rfl ?_
  refine l_clearWork (S := S) (S0 := S) (fun S2 F A1 A2 => ?_) 90 0 S rfl vs_fx.rf aR_0 aR_0
  exact vs_vretP dX10_clearWork_28 ⟨rfl, F, A1, A2⟩

theorem l_clearResult {G : vv_G} {S : vs_S}  {S0 : vs_S}  {Pst : Option Value → vs_S → Prop} (K : ∀ S2 : vs_S, vs_fx S0 S2 [132, 133] [] [] → aR S2 132 46 ((fun _ => 0)) → aR S2 133 46 ((fun _ => 0)) → vs_V G cX10_clearResult (vs_MP yX10_clearResult 2 none { frames := 0, locals := 0 } G Pst) 28 [(0, .ref (G.2.2.2 + 118))] [] S2) : ∀ (d i : Nat) (S : vs_S), i + d = 46 → vs_fx S0 S [132, 133] [] [] → aR S 132 i ((fun _ => 0)) → aR S 133 i ((fun _ => 0)) → vs_V G cX10_clearResult (vs_MP yX10_clearResult 2 none { frames := 0, locals := 0 } G Pst) 2 [(1, .int (nI i)), (0, .ref (G.2.2.2 + 118))] [] S := by
  intro d
  induction d with
  | zero =>
    intro i S hi F A1 A2
    obtain rfl : i = 46 := by omega
    refine vs_iload_n 1 dX10_clearResult_2 rfl rfl 0 rfl ?_
    refine vs_bipush (v := 46) dX10_clearResult_3 rfl rfl ?_
    refine vs_icmp_ge 28 dX10_clearResult_5 rfl rfl (fun c_5 => ?_) (fun c_5 => ?_)
    · have q_5 : ((46 : Nat) : Int) ≥ ((46 : Nat) : Int) := (qi_ge (nI_Z _) (by first | exact nI_Z _ | (simp only [fa_lit, nI_add, pk_mul, nI_1]; exact nI_Z _)) (by omega) (by omega) (by omega) (by omega)).mp c_5
      refine vs_pick (L2 := [(0, .ref (G.2.2.2 + 118))]) [1] rfl ?_
      exact K S F A1 A2
    · have q_5 : ¬ ((46 : Nat) : Int) ≥ ((46 : Nat) : Int) := fun hh => c_5 ((qi_ge (nI_Z _) (by first | exact nI_Z _ | (simp only [fa_lit, nI_add, pk_mul, nI_1]; exact nI_Z _)) (by omega) (by omega) (by omega) (by omega)).mpr hh)
      omega
  | succ d ih =>
    intro i S hi F A1 A2
    refine vs_iload_n 1 dX10_clearResult_2 rfl rfl 0 rfl ?_
    refine vs_bipush (v := 46) dX10_clearResult_3 rfl rfl ?_
    refine vs_icmp_ge 28 dX10_clearResult_5 rfl rfl (fun c_5 => ?_) (fun c_5 => ?_)
    · have q_5 : ((i : Nat) : Int) ≥ ((46 : Nat) : Int) := (qi_ge (nI_Z _) (by first | exact nI_Z _ | (simp only [fa_lit, nI_add, pk_mul, nI_1]; exact nI_Z _)) (by omega) (by omega) (by omega) (by omega)).mp c_5
      omega
    · have q_5 : ¬ ((i : Nat) : Int) ≥ ((46 : Nat) : Int) := fun hh => c_5 ((qi_ge (nI_Z _) (by first | exact nI_Z _ | (simp only [fa_lit, nI_add, pk_mul, nI_1]; exact nI_Z _)) (by omega) (by omega) (by omega) (by omega)).mpr hh)
      refine vs_aload_n 0 dX10_clearResult_8 rfl rfl 1 rfl ?_
      refine vs_get (v := .ref (G.2.2.2 + 132)) lf_X10_50 rfl rfl dX10_clearResult_9 rfl ?_
      refine vs_iload_n 1 dX10_clearResult_12 rfl rfl 0 rfl ?_
      refine vs_iconst (v := 0) dX10_clearResult_13 rfl rfl ?_
      refine vs_iast (k := i) rfl (by first | rfl | (simp only [fa_lit, nI_add, pk_mul, nI_1]; done) | omega) (by omega) rfl dX10_clearResult_14 rfl ?_
      refine vs_gen (fun T1 e_T1 => ?_)
      have F : vs_fx S0 T1 [132, 133] [] [] := by rw [e_T1]; repeat (first | exact F | refine vs_fx.ia ?_ (by simp <;> omega) | refine vs_fx.sc ?_ (by simp <;> omega) | refine vs_fx.la ?_ (by simp <;> omega))
      have A2 : aR T1 133 i ((fun _ => 0)) := by rw [e_T1]; repeat (first | exact A2 | refine aR.ne ?_ (by omega))
      have A1 : aR T1 132 (i + 1) ((fun _ => 0)) := (by rw [e_T1]; exact aR.push A1)
      clear e_T1
      refine vs_aload_n 0 dX10_clearResult_15 rfl rfl 1 rfl ?_
      refine vs_get (v := .ref (G.2.2.2 + 133)) lf_X10_53 rfl rfl dX10_clearResult_16 rfl ?_
      refine vs_iload_n 1 dX10_clearResult_19 rfl rfl 0 rfl ?_
      refine vs_iconst (v := 0) dX10_clearResult_20 rfl rfl ?_
      refine vs_iast (k := i) rfl (by first | rfl | (simp only [fa_lit, nI_add, pk_mul, nI_1]; done) | omega) (by omega) rfl dX10_clearResult_21 rfl ?_
      refine vs_gen (fun T2 e_T2 => ?_)
      have F : vs_fx S0 T2 [132, 133] [] [] := by rw [e_T2]; repeat (first | exact F | refine vs_fx.ia ?_ (by simp <;> omega) | refine vs_fx.sc ?_ (by simp <;> omega) | refine vs_fx.la ?_ (by simp <;> omega))
      have A1 : aR T2 132 (i + 1) ((fun _ => 0)) := by rw [e_T2]; repeat (first | exact A1 | refine aR.ne ?_ (by omega))
      have A2 : aR T2 133 (i + 1) ((fun _ => 0)) := (by rw [e_T2]; exact aR.push A2)
      clear e_T2
      refine vs_iinc (v := nI (i + 1)) [(1, .int (nI (i + 1))), (0, .ref (G.2.2.2 + 118))] dX10_clearResult_22 rfl 0 rfl (by first | exact nI_1 _ | (simp only [fa_lit, nI_add, pk_mul, nI_1]; rfl)) rfl rfl ?_
      refine vs_goto 2 dX10_clearResult_25 rfl ?_
      refine vs_pick [0, 1] rfl ?_
      exact ih (i + 1) _ (by omega) F A1 A2

theorem c_clearResult {G : vv_G} {S : vs_S}  : vs_CP G yX10_clearResult cX10_clearResult 2 none { frames := 0, locals := 0 } [.ref (G.2.2.2 + 118)] S (fun r S2 => r = none ∧ vs_fx S S2 [132, 133] [] [] ∧ aR S2 132 46 (pcon 0) ∧ aR S2 133 46 (pcon 1)) := by
  refine vs_ofP [(0, .ref (G.2.2.2 + 118))] (by decide) rfl rfl ?_
  refine vs_iconst (v := 0) dX10_clearResult_0 rfl rfl ?_
  refine vs_istore_n 1 [(1, .int (0)), (0, .ref (G.2.2.2 + 118))] dX10_clearResult_1 rfl rfl rfl rfl ?_
  refine vs_pick (L2 := [(1, .int (nI 0)), (0, .ref (G.2.2.2 + 118))]) [0, 1] rfl ?_
  refine l_clearResult (S := S) (S0 := S) (fun S2 F A1 A2 => ?_) 46 0 S rfl vs_fx.rf aR_0 aR_0
  refine vs_aload_n 0 dX10_clearResult_28 rfl rfl 0 rfl ?_
  refine vs_get (v := .ref (G.2.2.2 + 133)) lf_X10_53 rfl rfl dX10_clearResult_29 rfl ?_
  refine vs_iconst (v := 0) dX10_clearResult_32 rfl rfl ?_
  refine vs_iconst (v := 1) dX10_clearResult_33 rfl rfl ?_
  refine vs_iast (k := 0) rfl rfl (by omega) rfl dX10_clearResult_34 rfl ?_
  exact vs_vretP dX10_clearResult_35 ⟨rfl, vs_fx.ia F (by simp), aR.ne (A1.c (fun k _ => by unfold pcon; by_cases h : k = 0 <;> simp [h])) (by omega), (aR.put (x := 1) A2).c (fun k _ => by unfold nu pcon; by_cases h : k = 0 <;> simp [h])⟩

theorem l_loadResult {G : vv_G} {S : vs_S} {p q : Nat → Nat} {S0 : vs_S} (hA0 : aR S0 132 46 p) (hB0 : aR S0 133 46 q) {Pst : Option Value → vs_S → Prop} (K : ∀ S2 : vs_S, vs_fx S0 S2 [127, 128] [] [] → aR S2 127 90 (cut p 46) → aR S2 128 90 (cut q 46) → vs_V G cX10_loadResult (vs_MP yX10_loadResult 2 none { frames := 1, locals := 21 } G Pst) 42 [(0, .ref (G.2.2.2 + 118))] [] S2) : ∀ (d i : Nat) (S : vs_S), i + d = 46 → vs_fx S0 S [127, 128] [] [] → aR S 127 90 (cut p i) → aR S 128 90 (cut q i) → vs_V G cX10_loadResult (vs_MP yX10_loadResult 2 none { frames := 1, locals := 21 } G Pst) 6 [(1, .int (nI i)), (0, .ref (G.2.2.2 + 118))] [] S := by
  intro d
  induction d with
  | zero =>
    intro i S hi F A1 A2
    obtain rfl : i = 46 := by omega
    have hA : aR S 132 46 p := aR.fx hA0 F (by simp <;> omega)
    have hB : aR S 133 46 q := aR.fx hB0 F (by simp <;> omega)
    refine vs_iload_n 1 dX10_loadResult_6 rfl rfl 0 rfl ?_
    refine vs_bipush (v := 45) dX10_loadResult_7 rfl rfl ?_
    refine vs_icmp_gt 42 dX10_loadResult_9 rfl rfl (fun c_9 => ?_) (fun c_9 => ?_)
    · have q_9 : ((46 : Nat) : Int) > ((45 : Nat) : Int) := (qi_gt (nI_Z _) (by first | exact nI_Z _ | (simp only [fa_lit, nI_add, pk_mul, nI_1]; exact nI_Z _)) (by omega) (by omega) (by omega) (by omega)).mp c_9
      refine vs_pick (L2 := [(0, .ref (G.2.2.2 + 118))]) [1] rfl ?_
      exact K S F A1 A2
    · have q_9 : ¬ ((46 : Nat) : Int) > ((45 : Nat) : Int) := fun hh => c_9 ((qi_gt (nI_Z _) (by first | exact nI_Z _ | (simp only [fa_lit, nI_add, pk_mul, nI_1]; exact nI_Z _)) (by omega) (by omega) (by omega) (by omega)).mpr hh)
      omega
  | succ d ih =>
    intro i S hi F A1 A2
    have hA : aR S 132 46 p := aR.fx hA0 F (by simp <;> omega)
    have hB : aR S 133 46 q := aR.fx hB0 F (by simp <;> omega)
    refine vs_iload_n 1 dX10_loadResult_6 rfl rfl 0 rfl ?_
    refine vs_bipush (v := 45) dX10_loadResult_7 rfl rfl ?_
    refine vs_icmp_gt 42 dX10_loadResult_9 rfl rfl (fun c_9 => ?_) (fun c_9 => ?_)
    · have q_9 : ((i : Nat) : Int) > ((45 : Nat) : Int) := (qi_gt (nI_Z _) (by first | exact nI_Z _ | (simp only [fa_lit, nI_add, pk_mul, nI_1]; exact nI_Z _)) (by omega) (by omega) (by omega) (by omega)).mp c_9
      omega
    · have q_9 : ¬ ((i : Nat) : Int) > ((45 : Nat) : Int) := fun hh => c_9 ((qi_gt (nI_Z _) (by first | exact nI_Z _ | (simp only [fa_lit, nI_add, pk_mul, nI_1]; exact nI_Z _)) (by omega) (by omega) (by omega) (by omega)).mpr hh)
      refine vs_aload_n 0 dX10_loadResult_12 rfl rfl 1 rfl ?_
      refine vs_get (v := .ref (G.2.2.2 + 127)) lf_X10_35 rfl rfl dX10_loadResult_13 rfl ?_
      refine vs_iload_n 1 dX10_loadResult_16 rfl rfl 0 rfl ?_
      refine vs_aload_n 0 dX10_loadResult_17 rfl rfl 1 rfl ?_
      refine vs_get (v := .ref (G.2.2.2 + 132)) lf_X10_50 rfl rfl dX10_loadResult_18 rfl ?_
      refine vs_iload_n 1 dX10_loadResult_21 rfl rfl 0 rfl ?_
      refine vs_iald (k := i) rfl rfl (by omega) rfl dX10_loadResult_22 rfl ?_
      refine vs_topi (fun z1 e_z1 => ?_)
      have f_z1 : z1 = nI (p i) := (by rw [e_z1]; exact hA i (by omega))
      subst f_z1
      clear e_z1
      refine vs_iast (k := i) rfl (by first | rfl | (simp only [fa_lit, nI_add, pk_mul, nI_1]; done) | omega) (by omega) rfl dX10_loadResult_23 rfl ?_
      refine vs_gen (fun T1 e_T1 => ?_)
      have hA : aR T1 132 46 p := by rw [e_T1]; repeat (first | exact hA | refine aR.ne ?_ (by omega))
      have hB : aR T1 133 46 q := by rw [e_T1]; repeat (first | exact hB | refine aR.ne ?_ (by omega))
      have F : vs_fx S0 T1 [127, 128] [] [] := by rw [e_T1]; repeat (first | exact F | refine vs_fx.ia ?_ (by simp <;> omega) | refine vs_fx.sc ?_ (by simp <;> omega) | refine vs_fx.la ?_ (by simp <;> omega))
      have A2 : aR T1 128 90 (cut q i) := by rw [e_T1]; repeat (first | exact A2 | refine aR.ne ?_ (by omega))
      have A1 : aR T1 127 90 (cut p (i + 1)) := (by rw [e_T1, ← cut_s]; exact aR.put A1)
      clear e_T1
      refine vs_aload_n 0 dX10_loadResult_24 rfl rfl 1 rfl ?_
      refine vs_get (v := .ref (G.2.2.2 + 128)) lf_X10_38 rfl rfl dX10_loadResult_25 rfl ?_
      refine vs_iload_n 1 dX10_loadResult_28 rfl rfl 0 rfl ?_
      refine vs_aload_n 0 dX10_loadResult_29 rfl rfl 1 rfl ?_
      refine vs_get (v := .ref (G.2.2.2 + 133)) lf_X10_53 rfl rfl dX10_loadResult_30 rfl ?_
      refine vs_iload_n 1 dX10_loadResult_33 rfl rfl 0 rfl ?_
      refine vs_iald (k := i) rfl rfl (by omega) rfl dX10_loadResult_34 rfl ?_
      refine vs_topi (fun z2 e_z2 => ?_)
      have f_z2 : z2 = nI (q i) := (by rw [e_z2]; exact hB i (by omega))
      subst f_z2
      clear e_z2
      refine vs_iast (k := i) rfl (by first | rfl | (simp only [fa_lit, nI_add, pk_mul, nI_1]; done) | omega) (by omega) rfl dX10_loadResult_35 rfl ?_
      refine vs_gen (fun T2 e_T2 => ?_)
      have hA : aR T2 132 46 p := by rw [e_T2]; repeat (first | exact hA | refine aR.ne ?_ (by omega))
      have hB : aR T2 133 46 q := by rw [e_T2]; repeat (first | exact hB | refine aR.ne ?_ (by omega))
      have F : vs_fx S0 T2 [127, 128] [] [] := by rw [e_T2]; repeat (first | exact F | refine vs_fx.ia ?_ (by simp <;> omega) | refine vs_fx.sc ?_ (by simp <;> omega) | refine vs_fx.la ?_ (by simp <;> omega))
      have A1 : aR T2 127 90 (cut p (i + 1)) := by rw [e_T2]; repeat (first | exact A1 | refine aR.ne ?_ (by omega))
      have A2 : aR T2 128 90 (cut q (i + 1)) := (by rw [e_T2, ← cut_s]; exact aR.put A2)
      clear e_T2
      refine vs_iinc (v := nI (i + 1)) [(1, .int (nI (i + 1))), (0, .ref (G.2.2.2 + 118))] dX10_loadResult_36 rfl 0 rfl (by first | exact nI_1 _ | (simp only [fa_lit, nI_add, pk_mul, nI_1]; rfl)) rfl rfl ?_
      refine vs_goto 6 dX10_loadResult_39 rfl ?_
      refine vs_pick [0, 1] rfl ?_
      exact ih (i + 1) _ (by omega) F A1 A2

theorem c_loadResult {G : vv_G} {S : vs_S} {p q : Nat → Nat} (hA : aR S 132 46 p) (hB : aR S 133 46 q) (zp : ∀ k, 42 ≤ k → p k = 0) (zq : ∀ k, 42 ≤ k → q k = 0) : vs_CP G yX10_loadResult cX10_loadResult 2 none { frames := 1, locals := 21 } [.ref (G.2.2.2 + 118)] S (fun r S2 => r = none ∧ vs_fx S S2 [127, 128] [] [] ∧ aR S2 127 90 p ∧ aR S2 128 90 q) := by
  refine vs_ofP [(0, .ref (G.2.2.2 + 118))] (by decide) rfl rfl ?_
  refine vs_aload_n 0 dX10_loadResult_0 rfl rfl 0 rfl ?_
  refine vs_callVP (st := []) c_clearWork lk_X10_145 lm_X10_clearWork rfl rfl rfl rfl (Nat.le_of_ble_eq_true rfl) rfl ⟨rfl, rfl⟩ dX10_loadResult_1 rfl (fun rr S1 hh => ?_)
  obtain ⟨rfl, F, A1, A2⟩ := hh
  show vs_V _ _ _ _ _ [] _
  refine vs_iconst (v := 0) dX10_loadResult_4 rfl rfl ?_
  refine vs_istore_n 1 [(1, .int (0)), (0, .ref (G.2.2.2 + 118))] dX10_loadResult_5 rfl rfl rfl rfl ?_
  refine vs_pick (L2 := [(1, .int (nI 0)), (0, .ref (G.2.2.2 + 118))]) [0, 1] rfl ?_
  refine l_loadResult (S := S) (S0 := S) hA hB (fun S2 F2 B1 B2 => ?_) 46 0 S1 rfl F (A1.c (fun k _ => (if_neg (by omega)).symm)) (A2.c (fun k _ => (if_neg (by omega)).symm))
  rw [cut_all zp (by omega)] at B1
  rw [cut_all zq (by omega)] at B2
  exact vs_vretP dX10_loadResult_42 ⟨rfl, F2, B1, B2⟩

theorem l_keepResult {G : vv_G} {S : vs_S} {p q : Nat → Nat} {S0 : vs_S} (hA0 : aR S0 132 46 p) (hB0 : aR S0 133 46 q) {Pst : Option Value → vs_S → Prop} (K : ∀ S2 : vs_S, vs_fx S0 S2 [137, 138] [] [] → aR S2 137 46 p → aR S2 138 46 q → vs_V G cX10_keepResult (vs_MP yX10_keepResult 2 none { frames := 0, locals := 0 } G Pst) 38 [(0, .ref (G.2.2.2 + 118))] [] S2) : ∀ (d i : Nat) (S : vs_S), i + d = 46 → vs_fx S0 S [137, 138] [] [] → aR S 137 i p → aR S 138 i q → vs_V G cX10_keepResult (vs_MP yX10_keepResult 2 none { frames := 0, locals := 0 } G Pst) 2 [(1, .int (nI i)), (0, .ref (G.2.2.2 + 118))] [] S := by
  intro d
  induction d with
  | zero =>
    intro i S hi F A1 A2
    obtain rfl : i = 46 := by omega
    have hA : aR S 132 46 p := aR.fx hA0 F (by simp <;> omega)
    have hB : aR S 133 46 q := aR.fx hB0 F (by simp <;> omega)
    refine vs_iload_n 1 dX10_keepResult_2 rfl rfl 0 rfl ?_
    refine vs_bipush (v := 46) dX10_keepResult_3 rfl rfl ?_
    refine vs_icmp_ge 38 dX10_keepResult_5 rfl rfl (fun c_5 => ?_) (fun c_5 => ?_)
    · have q_5 : ((46 : Nat) : Int) ≥ ((46 : Nat) : Int) := (qi_ge (nI_Z _) (by first | exact nI_Z _ | (simp only [fa_lit, nI_add, pk_mul, nI_1]; exact nI_Z _)) (by omega) (by omega) (by omega) (by omega)).mp c_5
      refine vs_pick (L2 := [(0, .ref (G.2.2.2 + 118))]) [1] rfl ?_
      exact K S F A1 A2
    · have q_5 : ¬ ((46 : Nat) : Int) ≥ ((46 : Nat) : Int) := fun hh => c_5 ((qi_ge (nI_Z _) (by first | exact nI_Z _ | (simp only [fa_lit, nI_add, pk_mul, nI_1]; exact nI_Z _)) (by omega) (by omega) (by omega) (by omega)).mpr hh)
      omega
  | succ d ih =>
    intro i S hi F A1 A2
    have hA : aR S 132 46 p := aR.fx hA0 F (by simp <;> omega)
    have hB : aR S 133 46 q := aR.fx hB0 F (by simp <;> omega)
    refine vs_iload_n 1 dX10_keepResult_2 rfl rfl 0 rfl ?_
    refine vs_bipush (v := 46) dX10_keepResult_3 rfl rfl ?_
    refine vs_icmp_ge 38 dX10_keepResult_5 rfl rfl (fun c_5 => ?_) (fun c_5 => ?_)
    · have q_5 : ((i : Nat) : Int) ≥ ((46 : Nat) : Int) := (qi_ge (nI_Z _) (by first | exact nI_Z _ | (simp only [fa_lit, nI_add, pk_mul, nI_1]; exact nI_Z _)) (by omega) (by omega) (by omega) (by omega)).mp c_5
      omega
    · have q_5 : ¬ ((i : Nat) : Int) ≥ ((46 : Nat) : Int) := fun hh => c_5 ((qi_ge (nI_Z _) (by first | exact nI_Z _ | (simp only [fa_lit, nI_add, pk_mul, nI_1]; exact nI_Z _)) (by omega) (by omega) (by omega) (by omega)).mpr hh)
      refine vs_aload_n 0 dX10_keepResult_8 rfl rfl 1 rfl ?_
      refine vs_get (v := .ref (G.2.2.2 + 137)) lf_X10_65 rfl rfl dX10_keepResult_9 rfl ?_
      refine vs_iload_n 1 dX10_keepResult_12 rfl rfl 0 rfl ?_
      refine vs_aload_n 0 dX10_keepResult_13 rfl rfl 1 rfl ?_
      refine vs_get (v := .ref (G.2.2.2 + 132)) lf_X10_50 rfl rfl dX10_keepResult_14 rfl ?_
      refine vs_iload_n 1 dX10_keepResult_17 rfl rfl 0 rfl ?_
      refine vs_iald (k := i) rfl rfl (by omega) rfl dX10_keepResult_18 rfl ?_
      refine vs_topi (fun z1 e_z1 => ?_)
      have f_z1 : z1 = nI (p i) := (by rw [e_z1]; exact hA i (by omega))
      subst f_z1
      clear e_z1
      refine vs_iast (k := i) rfl (by first | rfl | (simp only [fa_lit, nI_add, pk_mul, nI_1]; done) | omega) (by omega) rfl dX10_keepResult_19 rfl ?_
      refine vs_gen (fun T1 e_T1 => ?_)
      have hA : aR T1 132 46 p := by rw [e_T1]; repeat (first | exact hA | refine aR.ne ?_ (by omega))
      have hB : aR T1 133 46 q := by rw [e_T1]; repeat (first | exact hB | refine aR.ne ?_ (by omega))
      have F : vs_fx S0 T1 [137, 138] [] [] := by rw [e_T1]; repeat (first | exact F | refine vs_fx.ia ?_ (by simp <;> omega) | refine vs_fx.sc ?_ (by simp <;> omega) | refine vs_fx.la ?_ (by simp <;> omega))
      have A2 : aR T1 138 i q := by rw [e_T1]; repeat (first | exact A2 | refine aR.ne ?_ (by omega))
      have A1 : aR T1 137 (i + 1) p := (by rw [e_T1]; exact aR.push A1)
      clear e_T1
      refine vs_aload_n 0 dX10_keepResult_20 rfl rfl 1 rfl ?_
      refine vs_get (v := .ref (G.2.2.2 + 138)) lf_X10_68 rfl rfl dX10_keepResult_21 rfl ?_
      refine vs_iload_n 1 dX10_keepResult_24 rfl rfl 0 rfl ?_
      refine vs_aload_n 0 dX10_keepResult_25 rfl rfl 1 rfl ?_
      refine vs_get (v := .ref (G.2.2.2 + 133)) lf_X10_53 rfl rfl dX10_keepResult_26 rfl ?_
      refine vs_iload_n 1 dX10_keepResult_29 rfl rfl 0 rfl ?_
      refine vs_iald (k := i) rfl rfl (by omega) rfl dX10_keepResult_30 rfl ?_
      refine vs_topi (fun z2 e_z2 => ?_)
      have f_z2 : z2 = nI (q i) := (by rw [e_z2]; exact hB i (by omega))
      subst f_z2
      clear e_z2
      refine vs_iast (k := i) rfl (by first | rfl | (simp only [fa_lit, nI_add, pk_mul, nI_1]; done) | omega) (by omega) rfl dX10_keepResult_31 rfl ?_
      refine vs_gen (fun T2 e_T2 => ?_)
      have hA : aR T2 132 46 p := by rw [e_T2]; repeat (first | exact hA | refine aR.ne ?_ (by omega))
      have hB : aR T2 133 46 q := by rw [e_T2]; repeat (first | exact hB | refine aR.ne ?_ (by omega))
      have F : vs_fx S0 T2 [137, 138] [] [] := by rw [e_T2]; repeat (first | exact F | refine vs_fx.ia ?_ (by simp <;> omega) | refine vs_fx.sc ?_ (by simp <;> omega) | refine vs_fx.la ?_ (by simp <;> omega))
      have A1 : aR T2 137 (i + 1) p := by rw [e_T2]; repeat (first | exact A1 | refine aR.ne ?_ (by omega))
      have A2 : aR T2 138 (i + 1) q := (by rw [e_T2]; exact aR.push A2)
      clear e_T2
      refine vs_iinc (v := nI (i + 1)) [(1, .int (nI (i + 1))), (0, .ref (G.2.2.2 + 118))] dX10_keepResult_32 rfl 0 rfl (by first | exact nI_1 _ | (simp only [fa_lit, nI_add, pk_mul, nI_1]; rfl)) rfl rfl ?_
      refine vs_goto 2 dX10_keepResult_35 rfl ?_
      refine vs_pick [0, 1] rfl ?_
      exact ih (i + 1) _ (by omega) F A1 A2

theorem c_keepResult {G : vv_G} {S : vs_S} {p q : Nat → Nat} (hA : aR S 132 46 p) (hB : aR S 133 46 q) : vs_CP G yX10_keepResult cX10_keepResult 2 none { frames := 0, locals := 0 } [.ref (G.2.2.2 + 118)] S (fun r S2 => r = none ∧ vs_fx S S2 [137, 138] [] [] ∧ aR S2 137 46 p ∧ aR S2 138 46 q) := by
  refine vs_ofP [(0, .ref (G.2.2.2 + 118))] (by decide) rfl rfl ?_
  refine vs_iconst (v := 0) dX10_keepResult_0 rfl rfl ?_
  refine vs_istore_n 1 [(1, .int (0)), (0, .ref (G.2.2.2 + 118))] dX10_keepResult_1 rfl rfl rfl rfl ?_
  refine vs_pick (L2 := [(1, .int (nI 0)), (0, .ref (G.2.2.2 + 118))]) [0, 1] rfl ?_
  refine l_keepResult (S := S) (S0 := S) hA hB (fun S2 F A1 A2 => ?_) 46 0 S rfl vs_fx.rf aR_0 aR_0
  exact vs_vretP dX10_keepResult_38 ⟨rfl, F, A1, A2⟩

theorem l_resultBack {G : vv_G} {S : vs_S} {p q : Nat → Nat} {S0 : vs_S} (hA0 : aR S0 137 46 p) (hB0 : aR S0 138 46 q) {Pst : Option Value → vs_S → Prop} (K : ∀ S2 : vs_S, vs_fx S0 S2 [132, 133] [] [] → aR S2 132 46 p → aR S2 133 46 q → vs_V G cX10_resultBack (vs_MP yX10_resultBack 2 none { frames := 0, locals := 0 } G Pst) 38 [(0, .ref (G.2.2.2 + 118))] [] S2) : ∀ (d i : Nat) (S : vs_S), i + d = 46 → vs_fx S0 S [132, 133] [] [] → aR S 132 i p → aR S 133 i q → vs_V G cX10_resultBack (vs_MP yX10_resultBack 2 none { frames := 0, locals := 0 } G Pst) 2 [(1, .int (nI i)), (0, .ref (G.2.2.2 + 118))] [] S := by
  intro d
  induction d with
  | zero =>
    intro i S hi F A1 A2
    obtain rfl : i = 46 := by omega
    have hA : aR S 137 46 p := aR.fx hA0 F (by simp <;> omega)
    have hB : aR S 138 46 q := aR.fx hB0 F (by simp <;> omega)
    refine vs_iload_n 1 dX10_resultBack_2 rfl rfl 0 rfl ?_
    refine vs_bipush (v := 46) dX10_resultBack_3 rfl rfl ?_
    refine vs_icmp_ge 38 dX10_resultBack_5 rfl rfl (fun c_5 => ?_) (fun c_5 => ?_)
    · have q_5 : ((46 : Nat) : Int) ≥ ((46 : Nat) : Int) := (qi_ge (nI_Z _) (by first | exact nI_Z _ | (simp only [fa_lit, nI_add, pk_mul, nI_1]; exact nI_Z _)) (by omega) (by omega) (by omega) (by omega)).mp c_5
      refine vs_pick (L2 := [(0, .ref (G.2.2.2 + 118))]) [1] rfl ?_
      exact K S F A1 A2
    · have q_5 : ¬ ((46 : Nat) : Int) ≥ ((46 : Nat) : Int) := fun hh => c_5 ((qi_ge (nI_Z _) (by first | exact nI_Z _ | (simp only [fa_lit, nI_add, pk_mul, nI_1]; exact nI_Z _)) (by omega) (by omega) (by omega) (by omega)).mpr hh)
      omega
  | succ d ih =>
    intro i S hi F A1 A2
    have hA : aR S 137 46 p := aR.fx hA0 F (by simp <;> omega)
    have hB : aR S 138 46 q := aR.fx hB0 F (by simp <;> omega)
    refine vs_iload_n 1 dX10_resultBack_2 rfl rfl 0 rfl ?_
    refine vs_bipush (v := 46) dX10_resultBack_3 rfl rfl ?_
    refine vs_icmp_ge 38 dX10_resultBack_5 rfl rfl (fun c_5 => ?_) (fun c_5 => ?_)
    · have q_5 : ((i : Nat) : Int) ≥ ((46 : Nat) : Int) := (qi_ge (nI_Z _) (by first | exact nI_Z _ | (simp only [fa_lit, nI_add, pk_mul, nI_1]; exact nI_Z _)) (by omega) (by omega) (by omega) (by omega)).mp c_5
      omega
    · have q_5 : ¬ ((i : Nat) : Int) ≥ ((46 : Nat) : Int) := fun hh => c_5 ((qi_ge (nI_Z _) (by first | exact nI_Z _ | (simp only [fa_lit, nI_add, pk_mul, nI_1]; exact nI_Z _)) (by omega) (by omega) (by omega) (by omega)).mpr hh)
      refine vs_aload_n 0 dX10_resultBack_8 rfl rfl 1 rfl ?_
      refine vs_get (v := .ref (G.2.2.2 + 132)) lf_X10_50 rfl rfl dX10_resultBack_9 rfl ?_
      refine vs_iload_n 1 dX10_resultBack_12 rfl rfl 0 rfl ?_
      refine vs_aload_n 0 dX10_resultBack_13 rfl rfl 1 rfl ?_
      refine vs_get (v := .ref (G.2.2.2 + 137)) lf_X10_65 rfl rfl dX10_resultBack_14 rfl ?_
      refine vs_iload_n 1 dX10_resultBack_17 rfl rfl 0 rfl ?_
      refine vs_iald (k := i) rfl rfl (by omega) rfl dX10_resultBack_18 rfl ?_
      refine vs_topi (fun z1 e_z1 => ?_)
      have f_z1 : z1 = nI (p i) := (by rw [e_z1]; exact hA i (by omega))
      subst f_z1
      clear e_z1
      refine vs_iast (k := i) rfl (by first | rfl | (simp only [fa_lit, nI_add, pk_mul, nI_1]; done) | omega) (by omega) rfl dX10_resultBack_19 rfl ?_
      refine vs_gen (fun T1 e_T1 => ?_)
      have hA : aR T1 137 46 p := by rw [e_T1]; repeat (first | exact hA | refine aR.ne ?_ (by omega))
      have hB : aR T1 138 46 q := by rw [e_T1]; repeat (first | exact hB | refine aR.ne ?_ (by omega))
      have F : vs_fx S0 T1 [132, 133] [] [] := by rw [e_T1]; repeat (first | exact F | refine vs_fx.ia ?_ (by simp <;> omega) | refine vs_fx.sc ?_ (by simp <;> omega) | refine vs_fx.la ?_ (by simp <;> omega))
      have A2 : aR T1 133 i q := by rw [e_T1]; repeat (first | exact A2 | refine aR.ne ?_ (by omega))
      have A1 : aR T1 132 (i + 1) p := (by rw [e_T1]; exact aR.push A1)
      clear e_T1
      refine vs_aload_n 0 dX10_resultBack_20 rfl rfl 1 rfl ?_
      refine vs_get (v := .ref (G.2.2.2 + 133)) lf_X10_53 rfl rfl dX10_resultBack_21 rfl ?_
      refine vs_iload_n 1 dX10_resultBack_24 rfl rfl 0 rfl ?_
      refine vs_aload_n 0 dX10_resultBack_25 rfl rfl 1 rfl ?_
      refine vs_get (v := .ref (G.2.2.2 + 138)) lf_X10_68 rfl rfl dX10_resultBack_26 rfl ?_
      refine vs_iload_n 1 dX10_resultBack_29 rfl rfl 0 rfl ?_
      refine vs_iald (k := i) rfl rfl (by omega) rfl dX10_resultBack_30 rfl ?_
      refine vs_topi (fun z2 e_z2 => ?_)
      have f_z2 : z2 = nI (q i) := (by rw [e_z2]; exact hB i (by omega))
      subst f_z2
      clear e_z2
      refine vs_iast (k := i) rfl (by first | rfl | (simp only [fa_lit, nI_add, pk_mul, nI_1]; done) | omega) (by omega) rfl dX10_resultBack_31 rfl ?_
      refine vs_gen (fun T2 e_T2 => ?_)
      have hA : aR T2 137 46 p := by rw [e_T2]; repeat (first | exact hA | refine aR.ne ?_ (by omega))
      have hB : aR T2 138 46 q := by rw [e_T2]; repeat (first | exact hB | refine aR.ne ?_ (by omega))
      have F : vs_fx S0 T2 [132, 133] [] [] := by rw [e_T2]; repeat (first | exact F | refine vs_fx.ia ?_ (by simp <;> omega) | refine vs_fx.sc ?_ (by simp <;> omega) | refine vs_fx.la ?_ (by simp <;> omega))
      have A1 : aR T2 132 (i + 1) p := by rw [e_T2]; repeat (first | exact A1 | refine aR.ne ?_ (by omega))
      have A2 : aR T2 133 (i + 1) q := (by rw [e_T2]; exact aR.push A2)
      clear e_T2
      refine vs_iinc (v := nI (i + 1)) [(1, .int (nI (i + 1))), (0, .ref (G.2.2.2 + 118))] dX10_resultBack_32 rfl 0 rfl (by first | exact nI_1 _ | (simp only [fa_lit, nI_add, pk_mul, nI_1]; rfl)) rfl rfl ?_
      refine vs_goto 2 dX10_resultBack_35 rfl ?_
      refine vs_pick [0, 1] rfl ?_
      exact ih (i + 1) _ (by omega) F A1 A2

theorem c_resultBack {G : vv_G} {S : vs_S} {p q : Nat → Nat} (hA : aR S 137 46 p) (hB : aR S 138 46 q) : vs_CP G yX10_resultBack cX10_resultBack 2 none { frames := 0, locals := 0 } [.ref (G.2.2.2 + 118)] S (fun r S2 => r = none ∧ vs_fx S S2 [132, 133] [] [] ∧ aR S2 132 46 p ∧ aR S2 133 46 q) := by
  refine vs_ofP [(0, .ref (G.2.2.2 + 118))] (by decide) rfl rfl ?_
  refine vs_iconst (v := 0) dX10_resultBack_0 rfl rfl ?_
  refine vs_istore_n 1 [(1, .int (0)), (0, .ref (G.2.2.2 + 118))] dX10_resultBack_1 rfl rfl rfl rfl ?_
  refine vs_pick (L2 := [(1, .int (nI 0)), (0, .ref (G.2.2.2 + 118))]) [0, 1] rfl ?_
  refine l_resultBack (S := S) (S0 := S) hA hB (fun S2 F A1 A2 => ?_) 46 0 S rfl vs_fx.rf aR_0 aR_0
  exact vs_vretP dX10_resultBack_38 ⟨rfl, F, A1, A2⟩

theorem l_degreeOf {G : vv_G} {S : vs_S} {o N n : Nat} {g : Nat → Nat} (hT : vs_T[o]? = some (.inl (0, N))) (hN : N ≤ 100) (hn : n ≤ N) (hg : aR S o n g) (hb : ∀ k, g k < 2147483648) {r : Option Value} {Sf : vs_S} (hS : S = Sf) : ∀ j : Nat, j ≤ n → r = some (.int (nZ ((tp g j : Int) - 1))) → vs_V G cX10_degreeOf (vs_M yX10_degreeOf 3 (some .int) { frames := 0, locals := 0 } G r Sf) 2 [(2, .int (nZ ((j : Int) - 1))), (0, .ref (G.2.2.2 + o))] [] S := by
  intro j
  induction j with
  | zero =>
    intro _ hr
    refine vs_iload_n 2 dX10_degreeOf_2 rfl rfl 0 rfl ?_
    refine vs_if_lt 18 dX10_degreeOf_3 rfl rfl (fun c_3 => ?_) (fun c_3 => ?_)
    · have q_3 : ((((0 : Nat) : Int) - 1) : Int) < ((0 : Nat) : Int) := (qi_lt rfl (by first | exact nI_Z _ | (simp only [fa_lit, nI_add, pk_mul, nI_1]; exact nI_Z _)) (by omega) (by omega) (by omega) (by omega)).mp c_3
      refine vs_iload_n 2 dX10_degreeOf_18 rfl rfl 0 rfl ?_
      exact vs_iret dX10_degreeOf_19 hr hS
    · have q_3 : ¬ ((((0 : Nat) : Int) - 1) : Int) < ((0 : Nat) : Int) := fun hh => c_3 ((qi_lt rfl (by first | exact nI_Z _ | (simp only [fa_lit, nI_add, pk_mul, nI_1]; exact nI_Z _)) (by omega) (by omega) (by omega) (by omega)).mpr hh)
      omega
  | succ j ih =>
    intro hj hr
    have b1 := hb j
    have e1 : nZ (((j + 1 : Nat) : Int) - 1) = nI j := by rw [nI_Z]; congr 1; omega
    rw [e1]
    refine vs_iload_n 2 dX10_degreeOf_2 rfl rfl 0 rfl ?_
    refine vs_if_lt 18 dX10_degreeOf_3 rfl rfl (fun c_3 => ?_) (fun c_3 => ?_)
    · have q_3 : ((j : Nat) : Int) < ((0 : Nat) : Int) := (qi_lt (nI_Z _) (by first | exact nI_Z _ | (simp only [fa_lit, nI_add, pk_mul, nI_1]; exact nI_Z _)) (by omega) (by omega) (by omega) (by omega)).mp c_3
      omega
    · have q_3 : ¬ ((j : Nat) : Int) < ((0 : Nat) : Int) := fun hh => c_3 ((qi_lt (nI_Z _) (by first | exact nI_Z _ | (simp only [fa_lit, nI_add, pk_mul, nI_1]; exact nI_Z _)) (by omega) (by omega) (by omega) (by omega)).mpr hh)
      refine vs_aload_n 0 dX10_degreeOf_6 rfl rfl 1 rfl ?_
      refine vs_iload_n 2 dX10_degreeOf_7 rfl rfl 0 rfl ?_
      refine vs_iald (k := j) hT rfl (by omega) (Nat.ble_eq_true_of_le (by omega)) dX10_degreeOf_8 rfl ?_
      refine vs_topi (fun z1 e_z1 => ?_)
      have f_z1 : z1 = nI (g j) := (by rw [e_z1]; exact hg j (by omega))
      subst f_z1
      clear e_z1
      refine vs_if_ne 18 dX10_degreeOf_9 rfl rfl (fun c_9 => ?_) (fun c_9 => ?_)
      · have q_9 : ¬ (((g j) : Nat) : Int) = ((0 : Nat) : Int) := fun hh => c_9 ((qi_eq (nI_Z _) (by first | exact nI_Z _ | (simp only [fa_lit, nI_add, pk_mul, nI_1]; exact nI_Z _)) (by omega) (by omega) (by omega) (by omega)).mpr hh)
        rw [show tp g (j + 1) = j + 1 from if_neg (by omega), e1] at hr
        refine vs_iload_n 2 dX10_degreeOf_18 rfl rfl 0 rfl ?_
        exact vs_iret dX10_degreeOf_19 hr hS
      · have q_9 : (((g j) : Nat) : Int) = ((0 : Nat) : Int) := (qi_eq (nI_Z _) (by first | exact nI_Z _ | (simp only [fa_lit, nI_add, pk_mul, nI_1]; exact nI_Z _)) (by omega) (by omega) (by omega) (by omega)).mp c_9
        rw [show tp g (j + 1) = tp g j from if_pos (by omega)] at hr
        refine vs_iinc (v := nZ ((j : Int) - 1)) [(2, .int (nZ ((j : Int) - 1))), (0, .ref (G.2.2.2 + o))] dX10_degreeOf_12 rfl 0 rfl (by rw [nI_Z]; exact nZ_add _ _) rfl rfl ?_
        refine vs_goto 2 dX10_degreeOf_15 rfl ?_
        refine vs_pick [0, 1] rfl ?_
        exact ih (by omega) hr

theorem c_degreeOf {G : vv_G} {S : vs_S} {o N n : Nat} {g : Nat → Nat} (hT : vs_T[o]? = some (.inl (0, N))) (hN : N ≤ 100) (hn : n + 1 ≤ N) (hg : aR S o (n + 1) g) (hb : ∀ k, g k < 2147483648) : vs_C G yX10_degreeOf cX10_degreeOf 3 (some .int) { frames := 0, locals := 0 } [.ref (G.2.2.2 + o), .int (nI n)] S (some (.int (nZ ((tp g (n + 1) : Int) - 1)))) S := by
  refine vs_of [(0, .ref (G.2.2.2 + o)), (1, .int (nI n))] (by decide) rfl rfl ?_
  refine vs_iload_n 1 dX10_degreeOf_0 rfl rfl 1 rfl ?_
  refine vs_istore_n 2 [(2, .int (nI n)), (0, .ref (G.2.2.2 + o)), (1, .int (nI n))] dX10_degreeOf_1 rfl rfl rfl rfl ?_
  refine vs_pick (L2 := [(2, .int (nZ (((n + 1 : Nat) : Int) - 1))), (0, .ref (G.2.2.2 + o))]) [0, 1] (by rw [show nZ (((n + 1 : Nat) : Int) - 1) = nI n from by rw [nI_Z]; congr 1; omega]; rfl) ?_
  exact l_degreeOf hT hN hn hg hb rfl (n + 1) (Nat.le_refl _) rfl

theorem hv_skip {g : Nat → Nat} {x P n : Nat} (h : ∀ k, n ≤ k → g k = 0) : ∀ d, hv_ g x P (n + d) 0 = hv_ g x P n 0
  | 0 => rfl
  | d + 1 => by
    show hv_ g x P (n + d) ((0 * x + g (n + d)) % P) = _
    rw [h _ (by omega), Nat.zero_mul, Nat.add_zero, Nat.zero_mod]
    exact hv_skip h d
theorem l_valueOf {G : vv_G} {S : vs_S} {o : Nat} {g : Nat → Nat} (hT : vs_T[o]? = some (.inl (0, 46))) (hg : aR S o 46 g) {x : Nat} {P : Nat} (hP : S.1 118 2 = nI P) (hP1 : 2 ≤ P) (hP2 : P ≤ 30011) (hb : ∀ k, g k < P) (hx : x < P) {r : Option Value} {Sf : vs_S} (hS : S = Sf) : ∀ j s : Nat, j ≤ 46 → s < P → r = some (.int (nI (hv_ g x P j s))) → vs_V G cX10_valueOf (vs_M yX10_valueOf 5 (some .int) { frames := 1, locals := 24 } G r Sf) 6 [(4, .int (nZ ((j : Int) - 1))), (3, .int (nI s)), (0, .ref (G.2.2.2 + 118)), (1, .ref (G.2.2.2 + o)), (2, .int (nI x))] [] S := by
  intro j
  induction j with
  | zero =>
    intro s _ hs hr
    refine vs_iload dX10_valueOf_6 rfl 0 rfl ?_
    refine vs_if_lt 33 dX10_valueOf_8 rfl rfl (fun c_8 => ?_) (fun c_8 => ?_)
    · have q_8 : ((((0 : Nat) : Int) - 1) : Int) < ((0 : Nat) : Int) := (qi_lt rfl (by first | exact nI_Z _ | (simp only [fa_lit, nI_add, pk_mul, nI_1]; exact nI_Z _)) (by omega) (by omega) (by omega) (by omega)).mp c_8
      refine vs_iload_n 3 dX10_valueOf_33 rfl rfl 1 rfl ?_
      exact vs_iret dX10_valueOf_34 hr hS
    · have q_8 : ¬ ((((0 : Nat) : Int) - 1) : Int) < ((0 : Nat) : Int) := fun hh => c_8 ((qi_lt rfl (by first | exact nI_Z _ | (simp only [fa_lit, nI_add, pk_mul, nI_1]; exact nI_Z _)) (by omega) (by omega) (by omega) (by omega)).mpr hh)
      omega
  | succ j ih =>
    intro s hj hs hr
    have hgj := hb j
    have e1 : nZ (((j + 1 : Nat) : Int) - 1) = nI j := by rw [nI_Z]; congr 1; omega
    rw [e1]
    refine vs_iload dX10_valueOf_6 rfl 0 rfl ?_
    refine vs_if_lt 33 dX10_valueOf_8 rfl rfl (fun c_8 => ?_) (fun c_8 => ?_)
    · have q_8 : ((j : Nat) : Int) < ((0 : Nat) : Int) := (qi_lt (nI_Z _) (by first | exact nI_Z _ | (simp only [fa_lit, nI_add, pk_mul, nI_1]; exact nI_Z _)) (by omega) (by omega) (by omega) (by omega)).mp c_8
      omega
    · have q_8 : ¬ ((j : Nat) : Int) < ((0 : Nat) : Int) := fun hh => c_8 ((qi_lt (nI_Z _) (by first | exact nI_Z _ | (simp only [fa_lit, nI_add, pk_mul, nI_1]; exact nI_Z _)) (by omega) (by omega) (by omega) (by omega)).mpr hh)
      refine vs_aload_n 0 dX10_valueOf_11 rfl rfl 2 rfl ?_
      refine vs_iload_n 3 dX10_valueOf_12 rfl rfl 1 rfl ?_
      refine vs_i2l dX10_valueOf_13 rfl ?_
      refine vs_iload_n 2 dX10_valueOf_14 rfl rfl 4 rfl ?_
      refine vs_i2l dX10_valueOf_15 rfl ?_
      refine vs_lmul dX10_valueOf_16 rfl ?_
      refine vs_aload_n 1 dX10_valueOf_17 rfl rfl 3 rfl ?_
      refine vs_iload dX10_valueOf_18 rfl 0 rfl ?_
      refine vs_iald (k := j) hT rfl (by omega) rfl dX10_valueOf_20 rfl ?_
      refine vs_topi (fun z1 e_z1 => ?_)
      have f_z1 : z1 = nI (g j) := (by rw [e_z1]; exact hg j (by omega))
      subst f_z1
      clear e_z1
      refine vs_i2l dX10_valueOf_21 rfl ?_
      refine vs_ladd dX10_valueOf_22 rfl ?_
      refine vs_callV (st := []) (c_restN (k := s * x + g j) (nn_mad (by omega) (by omega) (by omega)) hP hP1 hP2) lk_X10_135 lm_X10_rest rfl rfl rfl rfl (Nat.le_of_ble_eq_true rfl) rfl ⟨rfl, rfl⟩ dX10_valueOf_23 rfl ?_
      show vs_V _ _ _ _ _ (.int (nI ((s * x + g j) % P)) :: _) _
      refine vs_istore_n 3 [(3, .int (nI ((s * x + g j) % P))), (4, .int (nI j)), (0, .ref (G.2.2.2 + 118)), (1, .ref (G.2.2.2 + o)), (2, .int (nI x))] dX10_valueOf_26 rfl rfl rfl rfl ?_
      refine vs_iinc (v := nZ ((j : Int) - 1)) [(4, .int (nZ ((j : Int) - 1))), (3, .int (nI ((s * x + g j) % P))), (0, .ref (G.2.2.2 + 118)), (1, .ref (G.2.2.2 + o)), (2, .int (nI x))] dX10_valueOf_27 rfl 1 rfl (by rw [nI_Z]; exact nZ_add _ _) rfl rfl ?_
      refine vs_goto 6 dX10_valueOf_30 rfl ?_
      refine vs_pick [0, 1, 2, 3, 4] rfl ?_
      exact ih _ (by omega) (Nat.mod_lt _ (by omega)) hr

theorem c_valueOf {G : vv_G} {S : vs_S} {o : Nat} {g : Nat → Nat} (hT : vs_T[o]? = some (.inl (0, 46))) (hg : aR S o 46 g) {x : Nat} {P : Nat} (hP : S.1 118 2 = nI P) (hP1 : 2 ≤ P) (hP2 : P ≤ 30011) (hb : ∀ k, g k < P) (hx : x < P) (hz : ∀ k, 42 ≤ k → g k = 0) : vs_C G yX10_valueOf cX10_valueOf 5 (some .int) { frames := 1, locals := 24 } [.ref (G.2.2.2 + 118), .ref (G.2.2.2 + o), .int (nI x)] S (some (.int (nI (hv_ g x P 42 0)))) S := by
  refine vs_of [(0, .ref (G.2.2.2 + 118)), (1, .ref (G.2.2.2 + o)), (2, .int (nI x))] (by decide) rfl rfl ?_
  refine vs_iconst (v := 0) dX10_valueOf_0 rfl rfl ?_
  refine vs_istore_n 3 [(3, .int (0)), (0, .ref (G.2.2.2 + 118)), (1, .ref (G.2.2.2 + o)), (2, .int (nI x))] dX10_valueOf_1 rfl rfl rfl rfl ?_
  refine vs_bipush (v := 45) dX10_valueOf_2 rfl rfl ?_
  refine vs_istore [(4, .int (45)), (3, .int (0)), (0, .ref (G.2.2.2 + 118)), (1, .ref (G.2.2.2 + o)), (2, .int (nI x))] dX10_valueOf_4 rfl rfl rfl ?_
  refine vs_pick (L2 := [(4, .int (nI 45)), (3, .int (nI 0)), (0, .ref (G.2.2.2 + 118)), (1, .ref (G.2.2.2 + o)), (2, .int (nI x))]) [0, 1, 2, 3, 4] rfl ?_
  exact l_valueOf hT hg hP hP1 hP2 hb hx rfl 46 0 (Nat.le_refl _) (by omega) (by rw [← hv_skip hz 4])

theorem nn_l2 {x y : Int} (h1 : 0 ≤ x) (h2 : x < 2147483648) (h3 : 0 ≤ y) (h4 : y < 2147483648) : ((nZ x).toInt64 + (nZ y).toInt64).toInt = x + y := by
  rw [Int64.toInt_add, nn_i2l, nn_i2l, nZ_i (by omega) h2, nZ_i (by omega) h4, nn_bmod (by omega) (by omega)]
theorem c_isPair {G : vv_G} {S : vs_S} {f la : Nat} (hf : f < 10) (hla : S.2.1 124 f = nI la) (hla2 : la ≤ 40) {l : Int} (hl1 : -2147483648 ≤ l) (hl2 : l < 2147483648) {m : Int} (hm1 : -2147483648 ≤ m) (hm2 : m < 2147483648) : vs_C G yX10_isPair cX10_isPair 4 (some .boolean) { frames := 0, locals := 0 } [.ref (G.2.2.2 + 118), .int (nI f), .int (nZ l), .int (nZ m)] S (some (.int (if 0 ≤ l ∧ 0 ≤ m ∧ l + m ≤ la then 1 else 0))) S := by
  refine vs_of [(0, .ref (G.2.2.2 + 118)), (1, .int (nI f)), (2, .int (nZ l)), (3, .int (nZ m))] (by decide) rfl rfl ?_
  refine vs_iload_n 2 dX10_isPair_0 rfl rfl 2 rfl ?_
  refine vs_if_lt 28 dX10_isPair_1 rfl rfl (fun c_1 => ?_) (fun c_1 => ?_)
  · have q_1 : (l : Int) < ((0 : Nat) : Int) := (qi_lt rfl (by first | exact nI_Z _ | (simp only [fa_lit, nI_add, pk_mul, nI_1]; exact nI_Z _)) (by omega) (by omega) (by omega) (by omega)).mp c_1
    refine vs_iconst (v := 0) dX10_isPair_28 rfl rfl ?_
    exact vs_zret dX10_isPair_29 (by first | exact Or.inl rfl | exact Or.inr rfl) (by first | rw [if_pos (by omega)] | rw [if_neg (by omega)]) rfl
  · have q_1 : ¬ (l : Int) < ((0 : Nat) : Int) := fun hh => c_1 ((qi_lt rfl (by first | exact nI_Z _ | (simp only [fa_lit, nI_add, pk_mul, nI_1]; exact nI_Z _)) (by omega) (by omega) (by omega) (by omega)).mpr hh)
    refine vs_iload_n 3 dX10_isPair_4 rfl rfl 3 rfl ?_
    refine vs_if_lt 28 dX10_isPair_5 rfl rfl (fun c_5 => ?_) (fun c_5 => ?_)
    · have q_5 : (m : Int) < ((0 : Nat) : Int) := (qi_lt rfl (by first | exact nI_Z _ | (simp only [fa_lit, nI_add, pk_mul, nI_1]; exact nI_Z _)) (by omega) (by omega) (by omega) (by omega)).mp c_5
      refine vs_iconst (v := 0) dX10_isPair_28 rfl rfl ?_
      exact vs_zret dX10_isPair_29 (by first | exact Or.inl rfl | exact Or.inr rfl) (by first | rw [if_pos (by omega)] | rw [if_neg (by omega)]) rfl
    · have q_5 : ¬ (m : Int) < ((0 : Nat) : Int) := fun hh => c_5 ((qi_lt rfl (by first | exact nI_Z _ | (simp only [fa_lit, nI_add, pk_mul, nI_1]; exact nI_Z _)) (by omega) (by omega) (by omega) (by omega)).mpr hh)
      refine vs_iload_n 2 dX10_isPair_8 rfl rfl 2 rfl ?_
      refine vs_i2l dX10_isPair_9 rfl ?_
      refine vs_iload_n 3 dX10_isPair_10 rfl rfl 3 rfl ?_
      refine vs_i2l dX10_isPair_11 rfl ?_
      refine vs_ladd dX10_isPair_12 rfl ?_
      refine vs_aload_n 0 dX10_isPair_13 rfl rfl 0 rfl ?_
      refine vs_get (v := .ref (G.2.2.2 + 124)) lf_X10_26 rfl rfl dX10_isPair_14 rfl ?_
      refine vs_iload_n 1 dX10_isPair_17 rfl rfl 1 rfl ?_
      refine vs_iald (k := f) rfl rfl (by omega) rfl dX10_isPair_18 rfl ?_
      refine vs_topi (fun z1 e_z1 => ?_)
      have f_z1 : z1 = nI la := (by rw [e_z1]; exact hla)
      subst f_z1
      clear e_z1
      refine vs_i2l dX10_isPair_19 rfl ?_
      refine vs_lcmp dX10_isPair_20 rfl ?_
      refine vs_topi (fun z2 e_z2 => ?_)
      have f_z2 : z2 = nZ (zcmp (l + m) la) := (by rw [e_z2, lg_z, nn_l2 (by omega) (by omega) (by omega) (by omega), nn_i2l, nI_i (by omega)])
      subst f_z2
      clear e_z2
      refine vs_if_gt 28 dX10_isPair_21 rfl rfl (fun c_21 => ?_) (fun c_21 => ?_)
      · have q_21 : ((zcmp (l + m) la) : Int) > ((0 : Nat) : Int) := (qi_gt rfl (by first | exact nI_Z _ | (simp only [fa_lit, nI_add, pk_mul, nI_1]; exact nI_Z _)) (by have := zcmp_b (l + m) la; omega) (by have := zcmp_b (l + m) la; omega) (by decide) (by decide)).mp c_21
        have hq := zcmp_gt.mp q_21
        refine vs_iconst (v := 0) dX10_isPair_28 rfl rfl ?_
        exact vs_zret dX10_isPair_29 (by first | exact Or.inl rfl | exact Or.inr rfl) (by first | rw [if_pos (by omega)] | rw [if_neg (by omega)]) rfl
      · have q_21 : ¬ ((zcmp (l + m) la) : Int) > ((0 : Nat) : Int) := fun hh => c_21 ((qi_gt rfl (by first | exact nI_Z _ | (simp only [fa_lit, nI_add, pk_mul, nI_1]; exact nI_Z _)) (by have := zcmp_b (l + m) la; omega) (by have := zcmp_b (l + m) la; omega) (by decide) (by decide)).mpr hh)
        have hq : ¬ (la : Int) < l + m := fun e => q_21 (zcmp_gt.mpr e)
        refine vs_iconst (v := 1) dX10_isPair_24 rfl rfl ?_
        refine vs_goto 29 dX10_isPair_25 rfl ?_
        exact vs_zret dX10_isPair_29 (by first | exact Or.inl rfl | exact Or.inr rfl) (by first | rw [if_pos (by omega)] | rw [if_neg (by omega)]) rfl

/-- the model's sum: residues taken at each step -/
def msm (p q t : Nat → Nat) (P k : Nat) : Nat → Int
  | 0 => p k
  | j + 1 => msm p q t P k j - ((q (j + 1) * t (k - (j + 1)) % P : Nat) : Int)
theorem msm_e {p q t : Nat → Nat} {P k : Nat} : ∀ j, (msm p q t P k j) % (P : Int) = (isum p q t k j) % (P : Int)
  | 0 => rfl
  | j + 1 => by
    have ih := msm_e (p := p) (q := q) (t := t) (P := P) (k := k) j
    show (msm p q t P k j - _) % (P : Int) = (isum p q t k j - _) % (P : Int)
    rw [Int.sub_emod, ih, Int.natCast_emod, Int.natCast_mul, Int.emod_emod_of_dvd _ (Int.dvd_refl _), ← Int.sub_emod]
theorem msm_b {p q t : Nat → Nat} {P k : Nat} (h0 : 0 < P) (hp : p k < P) : ∀ j : Nat, -((j : Int) * P) ≤ msm p q t P k j ∧ msm p q t P k j < P
  | 0 => ⟨by show _ ≤ ((p k : Nat) : Int); omega, by show ((p k : Nat) : Int) < _; omega⟩
  | j + 1 => by
    have ih := msm_b (q := q) (t := t) h0 hp j
    have := Nat.mod_lt (q (j + 1) * t (k - (j + 1))) h0
    have e : (((j + 1 : Nat) : Int)) * P = (j : Int) * P + P := by rw [Int.natCast_add, Int.add_mul]; simp
    show _ ≤ msm p q t P k j - ((_ : Nat) : Int) ∧ msm p q t P k j - ((_ : Nat) : Int) < P
    omega
theorem isum_c {a b t t' : Nat → Nat} {k : Nat} (h : ∀ i, i < k → t i = t' i) : ∀ j, j ≤ k → isum a b t k j = isum a b t' k j
  | 0, _ => rfl
  | j + 1, hj => by
    show isum a b t k j - _ = isum a b t' k j - _
    rw [isum_c h j (by omega), h (k - (j + 1)) (by omega)]
theorem ufk_st {a b : Nat → Nat} {inv P : Nat} {k : Nat} : ∀ d i, i < k → ufk a b inv P (k + d) i = ufk a b inv P k i
  | 0, i, _ => rfl
  | d + 1, i, h => by
    show nu _ (k + d) _ i = _
    rw [nu_n (by omega)]
    exact ufk_st d i h
theorem ufk_at {a b : Nat → Nat} {inv P : Nat} {n k : Nat} (h : k < n) : ufk a b inv P n k = nn_m (isum a b (ufk a b inv P n) k k) P * inv % P := by
  obtain ⟨d, rfl⟩ : ∃ d, n = (k + 1) + d := ⟨n - (k + 1), by omega⟩
  rw [ufk_st d k (by omega)]
  show nu _ k _ k = _
  rw [nu_s, isum_c (t' := ufk a b inv P (k + 1 + d)) (fun i hi => ?_) k (Nat.le_refl _)]
  rw [show k + 1 + d = k + (d + 1) by omega, ufk_st (d + 1) i hi]
theorem nn_m_c {x y : Int} {P : Nat} (h : x % (P : Int) = y % (P : Int)) : nn_m x P = nn_m y P := by unfold nn_m; rw [h]
theorem nn_prl {x y P : Nat} (hx : x < 2 ^ 31) (hy : y < 2 ^ 31) (h0 : 0 < P) (hP : P < 2 ^ 31) : ((nI x).toInt64 * (nI y).toInt64 - (nI x).toInt64 * (nI y).toInt64 / (nI P).toInt64 * (nI P).toInt64).toInt = ((x * y % P : Nat) : Int) := by
  have := Nat.mod_lt (x * y) h0
  rw [nn_mul hx hy, nI_l hP, pk_lRem (Nat.lt_of_lt_of_le (Nat.mul_lt_mul'' hx hy) (by decide)) h0 (by omega), pk_lT (by omega)]
theorem l_unf1 {G : vv_G} {S : vs_S} {o : Nat} (ho : o = 126 ∨ o = 136 ∨ o = 140) (hT : vs_T[o]? = some (.inl (0, 41))) {p q : Nat → Nat} {P : Nat} (hP1 : 2 ≤ P) (hP2 : P ≤ 30011) (bp : ∀ k, p k < P) (bq : ∀ k, q k < P) {n : Nat} (hn : n ≤ 40) {k : Nat} (hk : k ≤ n) (hP : S.1 118 2 = nI P) (hq : aR S 128 90 q) (hU : aR S o k (ufk p q (ipw (q 0) P) P (n + 1))) {Pst : Option Value → vs_S → Prop} (K : ∀ x : Int64, x.toInt = msm p q (ufk p q (ipw (q 0) P) P (n + 1)) P k k → vs_V G cX10_unfoldTo (vs_MP yX10_unfoldTo 8 none { frames := 2, locals := 46 } G Pst) 74 [(5, .long (x)), (4, .int (nI k)), (3, .int (nI (ipw (q 0) P))), (0, .ref (G.2.2.2 + 118)), (1, .ref (G.2.2.2 + o)), (2, .int (nI n))] [] S) : ∀ (d j : Nat) (x : Int64), j + d = k → x.toInt = msm p q (ufk p q (ipw (q 0) P) P (n + 1)) P k j → vs_V G cX10_unfoldTo (vs_MP yX10_unfoldTo 8 none { frames := 2, locals := 46 } G Pst) 33 [(7, .int (nI (j + 1))), (5, .long (x)), (4, .int (nI k)), (3, .int (nI (ipw (q 0) P))), (0, .ref (G.2.2.2 + 118)), (1, .ref (G.2.2.2 + o)), (2, .int (nI n))] [] S := by
  intro d
  induction d with
  | zero =>
    intro j x hj hx
    obtain rfl : j = k := by omega
    refine vs_iload dX10_unfoldTo_33 rfl 0 rfl ?_
    refine vs_iload dX10_unfoldTo_35 rfl 2 rfl ?_
    refine vs_icmp_gt 74 dX10_unfoldTo_37 rfl rfl (fun c_37 => ?_) (fun c_37 => ?_)
    · have q_37 : (((j + 1) : Nat) : Int) > ((j : Nat) : Int) := (qi_gt (nI_Z _) (nI_Z _) (by omega) (by omega) (by omega) (by omega)).mp c_37
      refine vs_pick (L2 := [(5, .long (x)), (4, .int (nI j)), (3, .int (nI (ipw (q 0) P))), (0, .ref (G.2.2.2 + 118)), (1, .ref (G.2.2.2 + o)), (2, .int (nI n))]) [1, 2, 3, 4, 5, 6] rfl ?_
      exact K x hx
    · have q_37 : ¬ (((j + 1) : Nat) : Int) > ((j : Nat) : Int) := fun hh => c_37 ((qi_gt (nI_Z _) (nI_Z _) (by omega) (by omega) (by omega) (by omega)).mpr hh)
      omega
  | succ d ih =>
    intro j x hj hx
    have b1 := bq (j + 1)
    have b2 : (ufk p q (ipw (q 0) P) P (n + 1)) (k - (j + 1)) < P := ufk_b (by omega) _ _
    have b3 := msm_b (q := q) (t := (ufk p q (ipw (q 0) P) P (n + 1))) (show 0 < P by omega) (bp k) j
    have b4 := Nat.mod_lt (q (j + 1) * (ufk p q (ipw (q 0) P) P (n + 1)) (k - (j + 1))) (show P > 0 by omega)
    have b5 : (j : Int) * P ≤ 40 * 30011 := Int.mul_le_mul (by omega) (by omega) (by omega) (by omega)
    refine vs_iload dX10_unfoldTo_33 rfl 0 rfl ?_
    refine vs_iload dX10_unfoldTo_35 rfl 2 rfl ?_
    refine vs_icmp_gt 74 dX10_unfoldTo_37 rfl rfl (fun c_37 => ?_) (fun c_37 => ?_)
    · have q_37 : (((j + 1) : Nat) : Int) > ((k : Nat) : Int) := (qi_gt (nI_Z _) (nI_Z _) (by omega) (by omega) (by omega) (by omega)).mp c_37
      omega
    · have q_37 : ¬ (((j + 1) : Nat) : Int) > ((k : Nat) : Int) := fun hh => c_37 ((qi_gt (nI_Z _) (nI_Z _) (by omega) (by omega) (by omega) (by omega)).mpr hh)
      refine vs_lload dX10_unfoldTo_40 rfl 1 rfl ?_
      refine vs_aload_n 0 dX10_unfoldTo_42 rfl rfl 4 rfl ?_
      refine vs_get (v := .ref (G.2.2.2 + 128)) lf_X10_38 rfl rfl dX10_unfoldTo_43 rfl ?_
      refine vs_iload dX10_unfoldTo_46 rfl 0 rfl ?_
      refine vs_iald (k := (j + 1)) rfl rfl (by omega) rfl dX10_unfoldTo_48 rfl ?_
      refine vs_topi (fun z1 e_z1 => ?_)
      have f_z1 : z1 = nI (q (j + 1)) := (by rw [e_z1]; exact hq _ (by omega))
      subst f_z1
      clear e_z1
      refine vs_i2l dX10_unfoldTo_49 rfl ?_
      refine vs_aload_n 1 dX10_unfoldTo_50 rfl rfl 5 rfl ?_
      refine vs_iload dX10_unfoldTo_51 rfl 2 rfl ?_
      refine vs_iload dX10_unfoldTo_53 rfl 0 rfl ?_
      refine vs_isub dX10_unfoldTo_55 rfl ?_
      refine vs_topi (fun z2 e_z2 => ?_)
      have f_z2 : z2 = nI (k - (j + 1)) := (by rw [e_z2]; exact pk_sub (by omega))
      subst f_z2
      clear e_z2
      refine vs_iald (k := (k - (j + 1))) hT rfl (by omega) rfl dX10_unfoldTo_56 rfl ?_
      refine vs_topi (fun z3 e_z3 => ?_)
      have f_z3 : z3 = nI ((ufk p q (ipw (q 0) P) P (n + 1)) (k - (j + 1))) := (by rw [e_z3]; exact hU _ (by omega))
      subst f_z3
      clear e_z3
      refine vs_i2l dX10_unfoldTo_57 rfl ?_
      refine vs_lmul dX10_unfoldTo_58 rfl ?_
      refine vs_aload_n 0 dX10_unfoldTo_59 rfl rfl 4 rfl ?_
      refine vs_get (v := .int (nI P)) lf_X10_92 rfl (congrArg (fun z => some (Value.int z)) hP) dX10_unfoldTo_60 rfl ?_
      refine vs_i2l dX10_unfoldTo_63 rfl ?_
      refine vs_lrem dX10_unfoldTo_64 rfl (nn_ne0 (by omega) (by omega)) ?_
      refine vs_lsub dX10_unfoldTo_65 rfl ?_
      refine vs_topl (fun y e_y => ?_)
      refine vs_lstore [(5, .long (y)), (7, .int (nI (j + 1))), (4, .int (nI k)), (3, .int (nI (ipw (q 0) P))), (0, .ref (G.2.2.2 + 118)), (1, .ref (G.2.2.2 + o)), (2, .int (nI n))] dX10_unfoldTo_66 rfl rfl rfl ?_
      refine vs_iinc (v := nI ((j + 1) + 1)) [(7, .int (nI ((j + 1) + 1))), (5, .long (y)), (4, .int (nI k)), (3, .int (nI (ipw (q 0) P))), (0, .ref (G.2.2.2 + 118)), (1, .ref (G.2.2.2 + o)), (2, .int (nI n))] dX10_unfoldTo_68 rfl 1 rfl (by first | exact nI_1 _ | (simp only [fa_lit, nI_add, pk_mul, nI_1]; rfl)) rfl rfl ?_
      refine vs_goto 33 dX10_unfoldTo_71 rfl ?_
      refine vs_pick [0, 1, 2, 3, 4, 5, 6] rfl ?_
      exact ih (j + 1) y (by omega) (by rw [e_y, Int64.toInt_sub, nn_prl (by omega) (by omega) (by omega) (by omega), hx]; exact nn_bmod (by omega) (by omega))

theorem l_unf2 {G : vv_G} {S : vs_S} {o : Nat} (ho : o = 126 ∨ o = 136 ∨ o = 140) (hT : vs_T[o]? = some (.inl (0, 41))) {p q : Nat → Nat} {P : Nat} (hP1 : 2 ≤ P) (hP2 : P ≤ 30011) (bp : ∀ k, p k < P) (bq : ∀ k, q k < P) {n : Nat} (hn : n ≤ 40) {S0 : vs_S} (hP0 : S0.1 118 2 = nI P) (hp0 : aR S0 127 90 p) (hq0 : aR S0 128 90 q) {Pst : Option Value → vs_S → Prop} (K : ∀ S2 : vs_S, vs_fx S0 S2 [o] [] [] → aR S2 o (n + 1) (ufk p q (ipw (q 0) P) P (n + 1)) → Pst none S2) : ∀ (d k : Nat) (S : vs_S), k + d = n + 1 → vs_fx S0 S [o] [] [] → aR S o k (ufk p q (ipw (q 0) P) P (n + 1)) → vs_V G cX10_unfoldTo (vs_MP yX10_unfoldTo 8 none { frames := 2, locals := 46 } G Pst) 14 [(4, .int (nI k)), (3, .int (nI (ipw (q 0) P))), (0, .ref (G.2.2.2 + 118)), (1, .ref (G.2.2.2 + o)), (2, .int (nI n))] [] S := by
  intro d
  induction d with
  | zero =>
    intro k S hk F A1
    obtain rfl : k = n + 1 := by omega
    refine vs_iload dX10_unfoldTo_14 rfl 0 rfl ?_
    refine vs_iload_n 2 dX10_unfoldTo_16 rfl rfl 4 rfl ?_
    refine vs_icmp_gt 95 dX10_unfoldTo_17 rfl rfl (fun c_17 => ?_) (fun c_17 => ?_)
    · have q_17 : (((n + 1) : Nat) : Int) > ((n : Nat) : Int) := (qi_gt (nI_Z _) (nI_Z _) (by omega) (by omega) (by omega) (by omega)).mp c_17
      exact vs_vretP dX10_unfoldTo_95 (K S F A1)
    · have q_17 : ¬ (((n + 1) : Nat) : Int) > ((n : Nat) : Int) := fun hh => c_17 ((qi_gt (nI_Z _) (nI_Z _) (by omega) (by omega) (by omega) (by omega)).mpr hh)
      omega
  | succ d ih =>
    intro k S hk F A1
    have hP : S.1 118 2 = nI P := (F.2.1 _ _ (by simp)).trans hP0
    have hp := aR.fx hp0 F (by simp <;> omega)
    have hq := aR.fx hq0 F (by simp <;> omega)
    have b1 := bp k
    have b2 := ipw_lt (a := q 0) hP1
    refine vs_iload dX10_unfoldTo_14 rfl 0 rfl ?_
    refine vs_iload_n 2 dX10_unfoldTo_16 rfl rfl 4 rfl ?_
    refine vs_icmp_gt 95 dX10_unfoldTo_17 rfl rfl (fun c_17 => ?_) (fun c_17 => ?_)
    · have q_17 : ((k : Nat) : Int) > ((n : Nat) : Int) := (qi_gt (nI_Z _) (nI_Z _) (by omega) (by omega) (by omega) (by omega)).mp c_17
      omega
    · have q_17 : ¬ ((k : Nat) : Int) > ((n : Nat) : Int) := fun hh => c_17 ((qi_gt (nI_Z _) (nI_Z _) (by omega) (by omega) (by omega) (by omega)).mpr hh)
      refine vs_aload_n 0 dX10_unfoldTo_20 rfl rfl 2 rfl ?_
      refine vs_get (v := .ref (G.2.2.2 + 127)) lf_X10_35 rfl rfl dX10_unfoldTo_21 rfl ?_
      refine vs_iload dX10_unfoldTo_24 rfl 0 rfl ?_
      refine vs_iald (k := k) rfl rfl (by omega) rfl dX10_unfoldTo_26 rfl ?_
      refine vs_topi (fun z1 e_z1 => ?_)
      have f_z1 : z1 = nI (p k) := (by rw [e_z1]; exact hp k (by omega))
      subst f_z1
      clear e_z1
      refine vs_i2l dX10_unfoldTo_27 rfl ?_
      refine vs_topl (fun x0 e_x0 => ?_)
      refine vs_lstore [(5, .long (x0)), (4, .int (nI k)), (3, .int (nI (ipw (q 0) P))), (0, .ref (G.2.2.2 + 118)), (1, .ref (G.2.2.2 + o)), (2, .int (nI n))] dX10_unfoldTo_28 rfl rfl rfl ?_
      refine vs_iconst (v := 1) dX10_unfoldTo_30 rfl rfl ?_
      refine vs_istore [(7, .int (1)), (5, .long (x0)), (4, .int (nI k)), (3, .int (nI (ipw (q 0) P))), (0, .ref (G.2.2.2 + 118)), (1, .ref (G.2.2.2 + o)), (2, .int (nI n))] dX10_unfoldTo_31 rfl rfl rfl ?_
      refine vs_pick (L2 := [(7, .int (nI (0 + 1))), (5, .long (x0)), (4, .int (nI k)), (3, .int (nI (ipw (q 0) P))), (0, .ref (G.2.2.2 + 118)), (1, .ref (G.2.2.2 + o)), (2, .int (nI n))]) [0, 1, 2, 3, 4, 5, 6] rfl ?_
      refine l_unf1 ho hT hP1 hP2 bp bq hn (show k ≤ n by omega) hP hq A1 (fun x hx => ?_) k 0 x0 (by omega) (by rw [e_x0, nn_i2l, nI_i (by omega)]; rfl)
      have hU : (ufk p q (ipw (q 0) P) P (n + 1)) k = nn_m (msm p q (ufk p q (ipw (q 0) P) P (n + 1)) P k k) P * ipw (q 0) P % P := by rw [ufk_at (by omega), nn_m_c (msm_e k)]
      have b3 := nn_m_lt (v := msm p q (ufk p q (ipw (q 0) P) P (n + 1)) P k k) (show 0 < P by omega)
      refine vs_aload_n 1 dX10_unfoldTo_74 rfl rfl 4 rfl ?_
      refine vs_iload dX10_unfoldTo_75 rfl 1 rfl ?_
      refine vs_aload_n 0 dX10_unfoldTo_77 rfl rfl 3 rfl ?_
      refine vs_aload_n 0 dX10_unfoldTo_78 rfl rfl 3 rfl ?_
      refine vs_lload dX10_unfoldTo_79 rfl 0 rfl ?_
      refine vs_callV (st := [.ref (G.2.2.2 + 118), .int (nI k), .ref (G.2.2.2 + o)]) (c_restZ (z := msm p q (ufk p q (ipw (q 0) P) P (n + 1)) P k k) hx hP hP1 hP2) lk_X10_135 lm_X10_rest rfl rfl rfl rfl (Nat.le_of_ble_eq_true rfl) rfl ⟨rfl, rfl⟩ dX10_unfoldTo_81 rfl ?_
      show vs_V _ _ _ _ _ (.int (nI (nn_m (msm p q (ufk p q (ipw (q 0) P) P (n + 1)) P k k) P)) :: _) _
      refine vs_iload_n 3 dX10_unfoldTo_84 rfl rfl 2 rfl ?_
      refine vs_callV (st := [.int (nI k), .ref (G.2.2.2 + o)]) (c_product (x := nn_m (msm p q (ufk p q (ipw (q 0) P) P (n + 1)) P k k) P) (y := ipw (q 0) P) hP (by omega) (by omega) (by omega) (by omega)) lk_X10_99 lm_X10_product rfl rfl rfl rfl (Nat.le_of_ble_eq_true rfl) rfl ⟨rfl, rfl⟩ dX10_unfoldTo_85 rfl ?_
      rw [← hU]
      show vs_V _ _ _ _ _ (.int (nI ((ufk p q (ipw (q 0) P) P (n + 1)) k)) :: _) _
      refine vs_iast (k := k) hT rfl (by omega) rfl dX10_unfoldTo_88 rfl ?_
      refine vs_gen (fun T1 e_T1 => ?_)
      have F : vs_fx S0 T1 [o] [] [] := by rw [e_T1]; repeat (first | exact F | refine vs_fx.ia ?_ (by simp <;> omega) | refine vs_fx.sc ?_ (by simp <;> omega) | refine vs_fx.la ?_ (by simp <;> omega))
      have A1 : aR T1 o (k + 1) (ufk p q (ipw (q 0) P) P (n + 1)) := (by rw [e_T1]; exact aR.push A1)
      clear e_T1
      refine vs_iinc (v := nI (k + 1)) [(4, .int (nI (k + 1))), (5, .long (x)), (3, .int (nI (ipw (q 0) P))), (0, .ref (G.2.2.2 + 118)), (1, .ref (G.2.2.2 + o)), (2, .int (nI n))] dX10_unfoldTo_89 rfl 1 rfl (by first | exact nI_1 _ | (simp only [fa_lit, nI_add, pk_mul, nI_1]; rfl)) rfl rfl ?_
      refine vs_goto 14 dX10_unfoldTo_92 rfl ?_
      refine vs_pick [0, 2, 3, 4, 5] rfl ?_
      exact ih (k + 1) _ (by omega) F A1

theorem c_unfoldTo {G : vv_G} {S : vs_S} {o : Nat} (ho : o = 126 ∨ o = 136 ∨ o = 140) (hT : vs_T[o]? = some (.inl (0, 41))) {p q : Nat → Nat} {P : Nat} (hP1 : 2 ≤ P) (hP2 : P ≤ 30011) (bp : ∀ k, p k < P) (bq : ∀ k, q k < P) {n : Nat} (hn : n ≤ 40) (hP : S.1 118 2 = nI P) (hp : aR S 127 90 p) (hq : aR S 128 90 q) : vs_CP G yX10_unfoldTo cX10_unfoldTo 8 none { frames := 2, locals := 46 } [.ref (G.2.2.2 + 118), .ref (G.2.2.2 + o), .int (nI n)] S (fun r S2 => r = none ∧ vs_fx S S2 [o] [] [] ∧ aR S2 o (n + 1) (ufk p q (ipw (q 0) P) P (n + 1))) := by
  refine vs_ofP [(0, .ref (G.2.2.2 + 118)), (1, .ref (G.2.2.2 + o)), (2, .int (nI n))] (by decide) rfl rfl ?_
  refine vs_aload_n 0 dX10_unfoldTo_0 rfl rfl 0 rfl ?_
  refine vs_aload_n 0 dX10_unfoldTo_1 rfl rfl 0 rfl ?_
  refine vs_get (v := .ref (G.2.2.2 + 128)) lf_X10_38 rfl rfl dX10_unfoldTo_2 rfl ?_
  refine vs_iconst (v := 0) dX10_unfoldTo_5 rfl rfl ?_
  refine vs_iald (k := 0) rfl rfl (by omega) rfl dX10_unfoldTo_6 rfl ?_
  refine vs_topi (fun z1 e_z1 => ?_)
  have f_z1 : z1 = nI (q 0) := (by rw [e_z1]; exact hq 0 (by omega))
  subst f_z1
  clear e_z1
  refine vs_callV (st := []) (c_minverse (a := q 0) hP hP1 hP2 (bq 0)) lk_X10_142 lm_X10_inverse rfl rfl rfl rfl (Nat.le_of_ble_eq_true rfl) rfl ⟨rfl, rfl⟩ dX10_unfoldTo_7 rfl ?_
  show vs_V _ _ _ _ _ (.int (nI (ipw (q 0) P)) :: _) _
  refine vs_istore_n 3 [(3, .int (nI (ipw (q 0) P))), (0, .ref (G.2.2.2 + 118)), (1, .ref (G.2.2.2 + o)), (2, .int (nI n))] dX10_unfoldTo_10 rfl rfl rfl rfl ?_
  refine vs_iconst (v := 0) dX10_unfoldTo_11 rfl rfl ?_
  refine vs_istore [(4, .int (0)), (3, .int (nI (ipw (q 0) P))), (0, .ref (G.2.2.2 + 118)), (1, .ref (G.2.2.2 + o)), (2, .int (nI n))] dX10_unfoldTo_12 rfl rfl rfl ?_
  refine vs_pick (L2 := [(4, .int (nI 0)), (3, .int (nI (ipw (q 0) P))), (0, .ref (G.2.2.2 + 118)), (1, .ref (G.2.2.2 + o)), (2, .int (nI n))]) [0, 1, 2, 3, 4] rfl ?_
  exact l_unf2 (S := S) (S0 := S) ho hT hP1 hP2 bp bq hn hP hp hq (fun S2 F A1 => ⟨rfl, F, A1⟩) (n + 1) 0 S (by omega) vs_fx.rf aR_0

