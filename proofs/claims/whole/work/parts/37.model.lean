theorem l_mst1 {G : vv_G} {S : vs_S} {f n k : Nat} {c : Nat → Nat} (hf : f < 10) (hn : n ≤ 40) {S0 : vs_S} (cf0 : ∀ k, k ≤ n → S0.2.1 125 (41 * f + k) = nI (c k)) {Pst : Option Value → vs_S → Prop} (K : ∀ S2 : vs_S, vs_fx S0 S2 [139] [] [] → aR S2 139 n ((fun j => c (j + 1))) → vs_V G cX10_stair (vs_MP yX10_stair 7 (some .int) { frames := 3, locals := 73 } G Pst) 74 [(3, .int (nI n)), (0, .ref (G.2.2.2 + 118)), (1, .int (nI f)), (2, .int (nI k))] [] S2) : ∀ (d i : Nat) (S : vs_S), i + d = n → vs_fx S0 S [139] [] [] → aR S 139 i ((fun j => c (j + 1))) → vs_V G cX10_stair (vs_MP yX10_stair 7 (some .int) { frames := 3, locals := 73 } G Pst) 46 [(4, .int (nI i)), (3, .int (nI n)), (0, .ref (G.2.2.2 + 118)), (1, .int (nI f)), (2, .int (nI k))] [] S := by
  intro d
  induction d with
  | zero =>
    intro i S hi F A1
    obtain rfl : n = i := by omega
    have cf : ∀ k, k ≤ n → S.2.1 125 (41 * f + k) = nI (c k) := by rw [F.1 _ (by simp <;> omega)]; exact cf0
    refine vs_iload dX10_stair_46 rfl 0 rfl ?_
    refine vs_iload_n 3 dX10_stair_48 rfl rfl 1 rfl ?_
    refine vs_icmp_ge 74 dX10_stair_49 rfl rfl (fun c_49 => ?_) (fun c_49 => ?_)
    · have q_49 : ((n : Nat) : Int) ≥ ((n : Nat) : Int) := (qi_ge (nI_Z _) (nI_Z _) (by omega) (by omega) (by omega) (by omega)).mp c_49
      refine vs_pick (L2 := [(3, .int (nI n)), (0, .ref (G.2.2.2 + 118)), (1, .int (nI f)), (2, .int (nI k))]) [1, 2, 3, 4] rfl ?_
      exact K S F A1
    · have q_49 : ¬ ((n : Nat) : Int) ≥ ((n : Nat) : Int) := fun hh => c_49 ((qi_ge (nI_Z _) (nI_Z _) (by omega) (by omega) (by omega) (by omega)).mpr hh)
      omega
  | succ d ih =>
    intro i S hi F A1
    have cf : ∀ k, k ≤ n → S.2.1 125 (41 * f + k) = nI (c k) := by rw [F.1 _ (by simp <;> omega)]; exact cf0
    refine vs_iload dX10_stair_46 rfl 0 rfl ?_
    refine vs_iload_n 3 dX10_stair_48 rfl rfl 1 rfl ?_
    refine vs_icmp_ge 74 dX10_stair_49 rfl rfl (fun c_49 => ?_) (fun c_49 => ?_)
    · have q_49 : ((i : Nat) : Int) ≥ ((n : Nat) : Int) := (qi_ge (nI_Z _) (nI_Z _) (by omega) (by omega) (by omega) (by omega)).mp c_49
      omega
    · have q_49 : ¬ ((i : Nat) : Int) ≥ ((n : Nat) : Int) := fun hh => c_49 ((qi_ge (nI_Z _) (nI_Z _) (by omega) (by omega) (by omega) (by omega)).mpr hh)
      refine vs_aload_n 0 dX10_stair_52 rfl rfl 2 rfl ?_
      refine vs_get (v := .ref (G.2.2.2 + 139)) lf_X10_71 rfl rfl dX10_stair_53 rfl ?_
      refine vs_iload dX10_stair_56 rfl 0 rfl ?_
      refine vs_aload_n 0 dX10_stair_58 rfl rfl 2 rfl ?_
      refine vs_iload_n 1 dX10_stair_59 rfl rfl 3 rfl ?_
      refine vs_iload dX10_stair_60 rfl 0 rfl ?_
      refine vs_iconst (v := 1) dX10_stair_62 rfl rfl ?_
      refine vs_iadd dX10_stair_63 rfl ?_
      refine vs_topi (fun z1 e_z1 => ?_)
      have f_z1 : z1 = nI (i + 1) := (by rw [e_z1]; exact nI_1 _)
      subst f_z1
      clear e_z1
      refine vs_callV (st := [.int (nI i), .ref (G.2.2.2 + 139)]) (c_mof (f := f) (k := i + 1) (v := c (i + 1)) hf (by omega) (cf _ (by omega))) lk_X10_161 lm_X10_of rfl rfl rfl rfl (Nat.le_of_ble_eq_true rfl) rfl ⟨rfl, rfl⟩ dX10_stair_64 rfl ?_
      show vs_V _ _ _ _ _ (.int (nI (c (i + 1))) :: _) _
      refine vs_iast (k := i) rfl (by first | rfl | (simp only [fa_lit, nI_add, pk_mul, nI_1]; done) | omega) (by omega) rfl dX10_stair_67 rfl ?_
      refine vs_gen (fun T1 e_T1 => ?_)
      have cf : ∀ k, k ≤ n → T1.2.1 125 (41 * f + k) = nI (c k) := by rw [e_T1]; repeat (first | exact cf | rw [vs_ia_ne (by omega)] | rw [vs_ia_1] | rw [vs_sc_ne (by omega)] | rw [vs_sc_nf (by omega)])
      have F : vs_fx S0 T1 [139] [] [] := by rw [e_T1]; repeat (first | exact F | refine vs_fx.ia ?_ (by simp <;> omega) | refine vs_fx.sc ?_ (by simp <;> omega) | refine vs_fx.la ?_ (by simp <;> omega))
      have A1 : aR T1 139 (i + 1) ((fun j => c (j + 1))) := (by rw [e_T1]; exact aR.push A1)
      clear e_T1
      refine vs_iinc (v := nI (i + 1)) [(4, .int (nI (i + 1))), (3, .int (nI n)), (0, .ref (G.2.2.2 + 118)), (1, .int (nI f)), (2, .int (nI k))] dX10_stair_68 rfl 0 rfl (by first | exact nI_1 _ | (simp only [fa_lit, nI_add, pk_mul, nI_1]; rfl)) rfl rfl ?_
      refine vs_goto 46 dX10_stair_71 rfl ?_
      refine vs_pick [0, 1, 2, 3, 4] rfl ?_
      exact ih (i + 1) _ (by omega) F A1

theorem l_mst2 {G : vv_G} {S : vs_S} {n k s z : Nat} {g : Nat → Nat} (hz : z ≤ 40) {S0 : vs_S} (hg0 : aR S0 139 z g) {Pst : Option Value → vs_S → Prop} (K : ∀ S2 : vs_S, vs_fx S0 S2 [128] [] [] → aR S2 128 90 (cut g z) → vs_V G cX10_stair (vs_MP yX10_stair 7 (some .int) { frames := 3, locals := 73 } G Pst) 152 [(5, .int (nI z)), (4, .int (nI s)), (3, .int (nI n)), (0, .ref (G.2.2.2 + 118)), (2, .int (nI k))] [] S2) : ∀ (d i : Nat) (S : vs_S), i + d = z → vs_fx S0 S [128] [] [] → aR S 128 90 (cut g i) → vs_V G cX10_stair (vs_MP yX10_stair 7 (some .int) { frames := 3, locals := 73 } G Pst) 125 [(6, .int (nI i)), (5, .int (nI z)), (4, .int (nI s)), (3, .int (nI n)), (0, .ref (G.2.2.2 + 118)), (2, .int (nI k))] [] S := by
  intro d
  induction d with
  | zero =>
    intro i S hi F A1
    obtain rfl : z = i := by omega
    have hg : aR S 139 z g := aR.fx hg0 F (by simp <;> omega)
    refine vs_iload dX10_stair_125 rfl 0 rfl ?_
    refine vs_iload dX10_stair_127 rfl 1 rfl ?_
    refine vs_icmp_ge 152 dX10_stair_129 rfl rfl (fun c_129 => ?_) (fun c_129 => ?_)
    · have q_129 : ((z : Nat) : Int) ≥ ((z : Nat) : Int) := (qi_ge (nI_Z _) (nI_Z _) (by omega) (by omega) (by omega) (by omega)).mp c_129
      refine vs_pick (L2 := [(5, .int (nI z)), (4, .int (nI s)), (3, .int (nI n)), (0, .ref (G.2.2.2 + 118)), (2, .int (nI k))]) [1, 2, 3, 4, 5] rfl ?_
      exact K S F A1
    · have q_129 : ¬ ((z : Nat) : Int) ≥ ((z : Nat) : Int) := fun hh => c_129 ((qi_ge (nI_Z _) (nI_Z _) (by omega) (by omega) (by omega) (by omega)).mpr hh)
      omega
  | succ d ih =>
    intro i S hi F A1
    have hg : aR S 139 z g := aR.fx hg0 F (by simp <;> omega)
    refine vs_iload dX10_stair_125 rfl 0 rfl ?_
    refine vs_iload dX10_stair_127 rfl 1 rfl ?_
    refine vs_icmp_ge 152 dX10_stair_129 rfl rfl (fun c_129 => ?_) (fun c_129 => ?_)
    · have q_129 : ((i : Nat) : Int) ≥ ((z : Nat) : Int) := (qi_ge (nI_Z _) (nI_Z _) (by omega) (by omega) (by omega) (by omega)).mp c_129
      omega
    · have q_129 : ¬ ((i : Nat) : Int) ≥ ((z : Nat) : Int) := fun hh => c_129 ((qi_ge (nI_Z _) (nI_Z _) (by omega) (by omega) (by omega) (by omega)).mpr hh)
      refine vs_aload_n 0 dX10_stair_132 rfl rfl 4 rfl ?_
      refine vs_get (v := .ref (G.2.2.2 + 128)) lf_X10_38 rfl rfl dX10_stair_133 rfl ?_
      refine vs_iload dX10_stair_136 rfl 0 rfl ?_
      refine vs_aload_n 0 dX10_stair_138 rfl rfl 4 rfl ?_
      refine vs_get (v := .ref (G.2.2.2 + 139)) lf_X10_71 rfl rfl dX10_stair_139 rfl ?_
      refine vs_iload dX10_stair_142 rfl 0 rfl ?_
      refine vs_iald (k := i) rfl rfl (by omega) rfl dX10_stair_144 rfl ?_
      refine vs_topi (fun z1 e_z1 => ?_)
      have f_z1 : z1 = nI (g i) := (by rw [e_z1]; exact hg i (by omega))
      subst f_z1
      clear e_z1
      refine vs_iast (k := i) rfl (by first | rfl | (simp only [fa_lit, nI_add, pk_mul, nI_1]; done) | omega) (by omega) rfl dX10_stair_145 rfl ?_
      refine vs_gen (fun T1 e_T1 => ?_)
      have hg : aR T1 139 z g := by rw [e_T1]; repeat (first | exact hg | refine aR.ne ?_ (by omega))
      have F : vs_fx S0 T1 [128] [] [] := by rw [e_T1]; repeat (first | exact F | refine vs_fx.ia ?_ (by simp <;> omega) | refine vs_fx.sc ?_ (by simp <;> omega) | refine vs_fx.la ?_ (by simp <;> omega))
      have A1 : aR T1 128 90 (cut g (i + 1)) := (by rw [e_T1, ← cut_s]; exact aR.put A1)
      clear e_T1
      refine vs_iinc (v := nI (i + 1)) [(6, .int (nI (i + 1))), (5, .int (nI z)), (4, .int (nI s)), (3, .int (nI n)), (0, .ref (G.2.2.2 + 118)), (2, .int (nI k))] dX10_stair_146 rfl 0 rfl (by first | exact nI_1 _ | (simp only [fa_lit, nI_add, pk_mul, nI_1]; rfl)) rfl rfl ?_
      refine vs_goto 125 dX10_stair_149 rfl ?_
      refine vs_pick [0, 1, 2, 3, 4, 5] rfl ?_
      exact ih (i + 1) _ (by omega) F A1

theorem l_mst3 {G : vv_G} {S : vs_S} {n k s z : Nat} {u : Nat → Nat} (hz : z ≤ 40) (hz1 : 1 ≤ z) {S0 : vs_S} (hu0 : aR S0 140 z u) {Pst : Option Value → vs_S → Prop} (K : ∀ S2 : vs_S, vs_fx S0 S2 [139] [] [] → aR S2 139 (z - 1) ((fun j => u (j + 1))) → vs_V G cX10_stair (vs_MP yX10_stair 7 (some .int) { frames := 3, locals := 73 } G Pst) 198 [(4, .int (nI s)), (3, .int (nI n)), (0, .ref (G.2.2.2 + 118)), (2, .int (nI k))] [] S2) : ∀ (d i : Nat) (S : vs_S), i + d = z - 1 → vs_fx S0 S [139] [] [] → aR S 139 i ((fun j => u (j + 1))) → vs_V G cX10_stair (vs_MP yX10_stair 7 (some .int) { frames := 3, locals := 73 } G Pst) 167 [(6, .int (nI i)), (5, .int (nI z)), (4, .int (nI s)), (3, .int (nI n)), (0, .ref (G.2.2.2 + 118)), (2, .int (nI k))] [] S := by
  intro d
  induction d with
  | zero =>
    intro i S hi F A1
    obtain rfl : z - 1 = i := by omega
    have hu : aR S 140 z u := aR.fx hu0 F (by simp <;> omega)
    refine vs_iload dX10_stair_167 rfl 0 rfl ?_
    refine vs_iconst (v := 1) dX10_stair_169 rfl rfl ?_
    refine vs_iadd dX10_stair_170 rfl ?_
    refine vs_iload dX10_stair_171 rfl 1 rfl ?_
    refine vs_icmp_ge 198 dX10_stair_173 rfl rfl (fun c_173 => ?_) (fun c_173 => ?_)
    · have q_173 : ((((z - 1) + 1) : Nat) : Int) ≥ ((z : Nat) : Int) := (qi_ge (by first | exact nI_Z _ | (simp only [fa_lit, nI_add, pk_mul, nI_1]; exact nI_Z _)) (nI_Z _) (by omega) (by omega) (by omega) (by omega)).mp c_173
      refine vs_pick (L2 := [(4, .int (nI s)), (3, .int (nI n)), (0, .ref (G.2.2.2 + 118)), (2, .int (nI k))]) [2, 3, 4, 5] rfl ?_
      exact K S F A1
    · have q_173 : ¬ ((((z - 1) + 1) : Nat) : Int) ≥ ((z : Nat) : Int) := fun hh => c_173 ((qi_ge (by first | exact nI_Z _ | (simp only [fa_lit, nI_add, pk_mul, nI_1]; exact nI_Z _)) (nI_Z _) (by omega) (by omega) (by omega) (by omega)).mpr hh)
      omega
  | succ d ih =>
    intro i S hi F A1
    have hu : aR S 140 z u := aR.fx hu0 F (by simp <;> omega)
    refine vs_iload dX10_stair_167 rfl 0 rfl ?_
    refine vs_iconst (v := 1) dX10_stair_169 rfl rfl ?_
    refine vs_iadd dX10_stair_170 rfl ?_
    refine vs_iload dX10_stair_171 rfl 1 rfl ?_
    refine vs_icmp_ge 198 dX10_stair_173 rfl rfl (fun c_173 => ?_) (fun c_173 => ?_)
    · have q_173 : (((i + 1) : Nat) : Int) ≥ ((z : Nat) : Int) := (qi_ge (by first | exact nI_Z _ | (simp only [fa_lit, nI_add, pk_mul, nI_1]; exact nI_Z _)) (nI_Z _) (by omega) (by omega) (by omega) (by omega)).mp c_173
      omega
    · have q_173 : ¬ (((i + 1) : Nat) : Int) ≥ ((z : Nat) : Int) := fun hh => c_173 ((qi_ge (by first | exact nI_Z _ | (simp only [fa_lit, nI_add, pk_mul, nI_1]; exact nI_Z _)) (nI_Z _) (by omega) (by omega) (by omega) (by omega)).mpr hh)
      refine vs_aload_n 0 dX10_stair_176 rfl rfl 4 rfl ?_
      refine vs_get (v := .ref (G.2.2.2 + 139)) lf_X10_71 rfl rfl dX10_stair_177 rfl ?_
      refine vs_iload dX10_stair_180 rfl 0 rfl ?_
      refine vs_aload_n 0 dX10_stair_182 rfl rfl 4 rfl ?_
      refine vs_get (v := .ref (G.2.2.2 + 140)) lf_X10_74 rfl rfl dX10_stair_183 rfl ?_
      refine vs_iload dX10_stair_186 rfl 0 rfl ?_
      refine vs_iconst (v := 1) dX10_stair_188 rfl rfl ?_
      refine vs_iadd dX10_stair_189 rfl ?_
      refine vs_iald (k := ((i + 1))) rfl (by first | rfl | (simp only [fa_lit, nI_add, pk_mul, nI_1]; done) | omega) (by omega) rfl dX10_stair_190 rfl ?_
      refine vs_topi (fun z1 e_z1 => ?_)
      have f_z1 : z1 = nI (u (i + 1)) := (by rw [e_z1]; exact hu (i + 1) (by omega))
      subst f_z1
      clear e_z1
      refine vs_iast (k := i) rfl (by first | rfl | (simp only [fa_lit, nI_add, pk_mul, nI_1]; done) | omega) (by omega) rfl dX10_stair_191 rfl ?_
      refine vs_gen (fun T1 e_T1 => ?_)
      have hu : aR T1 140 z u := by rw [e_T1]; repeat (first | exact hu | refine aR.ne ?_ (by omega))
      have F : vs_fx S0 T1 [139] [] [] := by rw [e_T1]; repeat (first | exact F | refine vs_fx.ia ?_ (by simp <;> omega) | refine vs_fx.sc ?_ (by simp <;> omega) | refine vs_fx.la ?_ (by simp <;> omega))
      have A1 : aR T1 139 (i + 1) ((fun j => u (j + 1))) := (by rw [e_T1]; exact aR.push A1)
      clear e_T1
      refine vs_iinc (v := nI (i + 1)) [(6, .int (nI (i + 1))), (5, .int (nI z)), (4, .int (nI s)), (3, .int (nI n)), (0, .ref (G.2.2.2 + 118)), (2, .int (nI k))] dX10_stair_192 rfl 0 rfl (by first | exact nI_1 _ | (simp only [fa_lit, nI_add, pk_mul, nI_1]; rfl)) rfl rfl ?_
      refine vs_goto 167 dX10_stair_195 rfl ?_
      refine vs_pick [0, 1, 2, 3, 4, 5] rfl ?_
      exact ih (i + 1) _ (by omega) F A1

theorem l_mst4 {G : vv_G} {S : vs_S} {P : Nat} (gP1 : 2 ≤ P) (gP2 : P ≤ 30011) {la k : Nat} (hla : la ≤ 40) (hk : k ≤ la) {S0 : vs_S} (mP0 : S0.1 118 2 = nI P) {Pst : Option Value → vs_S → Prop} : ∀ (d s : Nat) (g : Nat → Nat) (S : vs_S), s + d = k → 1 ≤ s → (∀ j, g j < P) → vs_fx S0 S [127, 128, 139, 140] [] [] → aR S 139 (la - s + 1) g → (∀ S2 : vs_S, vs_fx S0 S2 [127, 128, 139, 140] [] [] → (∀ v, stk P la d s g = some v → Pst (some (.int (nI v))) S2) ∧ (stk P la d s g = none → Pst (some (.int (nZ (-15)))) (vs_ia (vs_sc S2 118 0 (nI 5)) 119 (upd (S2.2.1 119) 5 (S2.2.1 119 5 + 1))))) → vs_V G cX10_stair (vs_MP yX10_stair 7 (some .int) { frames := 3, locals := 73 } G Pst) 77 [(4, .int (nI s)), (3, .int (nI la)), (0, .ref (G.2.2.2 + 118)), (2, .int (nI k))] [] S := by
  intro d
  induction d with
  | zero =>
    intro s g S hs hs1 hb F hg K
    obtain rfl : s = k := by omega
    have K2 := (K S F).1 (g 0) rfl
    refine vs_iload dX10_stair_77 rfl 0 rfl ?_
    refine vs_iload_n 2 dX10_stair_79 rfl rfl 3 rfl ?_
    refine vs_icmp_ge 204 dX10_stair_80 rfl rfl (fun c_80 => ?_) (fun c_80 => ?_)
    · have q_80 : ((s : Nat) : Int) ≥ ((s : Nat) : Int) := (qi_ge (nI_Z _) (nI_Z _) (by omega) (by omega) (by omega) (by omega)).mp c_80
      refine vs_aload_n 0 dX10_stair_204 rfl rfl 2 rfl ?_
      refine vs_get (v := .ref (G.2.2.2 + 139)) lf_X10_71 rfl rfl dX10_stair_205 rfl ?_
      refine vs_iconst (v := 0) dX10_stair_208 rfl rfl ?_
      refine vs_iald (k := 0) rfl rfl (by omega) rfl dX10_stair_209 rfl ?_
      refine vs_topi (fun z1 e_z1 => ?_)
      have f_z1 : z1 = nI (g 0) := (by rw [e_z1]; exact hg 0 (by omega))
      subst f_z1
      clear e_z1
      exact vs_iretP dX10_stair_210 K2
    · have q_80 : ¬ ((s : Nat) : Int) ≥ ((s : Nat) : Int) := fun hh => c_80 ((qi_ge (nI_Z _) (nI_Z _) (by omega) (by omega) (by omega) (by omega)).mpr hh)
      omega
  | succ d ih =>
    intro s g S hs hs1 hb F hg K
    have b0 := hb 0
    refine vs_iload dX10_stair_77 rfl 0 rfl ?_
    refine vs_iload_n 2 dX10_stair_79 rfl rfl 3 rfl ?_
    refine vs_icmp_ge 204 dX10_stair_80 rfl rfl (fun c_80 => ?_) (fun c_80 => ?_)
    · have q_80 : ((s : Nat) : Int) ≥ ((k : Nat) : Int) := (qi_ge (nI_Z _) (nI_Z _) (by omega) (by omega) (by omega) (by omega)).mp c_80
      omega
    · have q_80 : ¬ ((s : Nat) : Int) ≥ ((k : Nat) : Int) := fun hh => c_80 ((qi_ge (nI_Z _) (nI_Z _) (by omega) (by omega) (by omega) (by omega)).mpr hh)
      refine vs_iload_n 3 dX10_stair_83 rfl rfl 1 rfl ?_
      refine vs_iload dX10_stair_84 rfl 0 rfl ?_
      refine vs_isub dX10_stair_86 rfl ?_
      refine vs_iconst (v := 1) dX10_stair_87 rfl rfl ?_
      refine vs_iadd dX10_stair_88 rfl ?_
      refine vs_topi (fun z1 e_z1 => ?_)
      have f_z1 : z1 = nI (la - s + 1) := (by rw [e_z1, pk_sub (by omega)]; exact nI_1 _)
      subst f_z1
      clear e_z1
      refine vs_istore [(5, .int (nI (la - s + 1))), (4, .int (nI s)), (3, .int (nI la)), (0, .ref (G.2.2.2 + 118)), (2, .int (nI k))] dX10_stair_89 rfl rfl rfl ?_
      refine vs_aload_n 0 dX10_stair_91 rfl rfl 3 rfl ?_
      refine vs_get (v := .ref (G.2.2.2 + 139)) lf_X10_71 rfl rfl dX10_stair_92 rfl ?_
      refine vs_iconst (v := 0) dX10_stair_95 rfl rfl ?_
      refine vs_iald (k := 0) rfl rfl (by omega) rfl dX10_stair_96 rfl ?_
      refine vs_topi (fun z2 e_z2 => ?_)
      have f_z2 : z2 = nI (g 0) := (by rw [e_z2]; exact hg 0 (by omega))
      subst f_z2
      clear e_z2
      refine vs_if_ne 106 dX10_stair_97 rfl rfl (fun c_97 => ?_) (fun c_97 => ?_)
      · have q_97 : ¬ (((g 0) : Nat) : Int) = ((0 : Nat) : Int) := fun hh => c_97 ((qi_eq (nI_Z _) (by first | exact nI_Z _ | (simp only [fa_lit, nI_add, pk_mul, nI_1]; exact nI_Z _)) (by omega) (by omega) (by omega) (by omega)).mpr hh)
        have hst : stk P la (d + 1) s g = stk P la d (s + 1) (stn P g (la - s)) := if_neg (by omega)
        refine vs_aload_n 0 dX10_stair_106 rfl rfl 3 rfl ?_
        refine vs_callVP (st := []) c_clearWork lk_X10_145 lm_X10_clearWork rfl rfl rfl rfl (Nat.le_of_ble_eq_true rfl) rfl ⟨rfl, rfl⟩ dX10_stair_107 rfl (fun rr S1 hh => ?_)
        obtain ⟨rfl, Fc, A0, B0⟩ := hh
        show vs_V _ _ _ _ _ [] _
        refine vs_aload_n 0 dX10_stair_110 rfl rfl 3 rfl ?_
        refine vs_get (v := .ref (G.2.2.2 + 127)) lf_X10_35 rfl rfl dX10_stair_111 rfl ?_
        refine vs_iconst (v := 0) dX10_stair_114 rfl rfl ?_
        refine vs_aload_n 0 dX10_stair_115 rfl rfl 3 rfl ?_
        refine vs_get (v := .ref (G.2.2.2 + 139)) lf_X10_71 rfl rfl dX10_stair_116 rfl ?_
        refine vs_iconst (v := 0) dX10_stair_119 rfl rfl ?_
        refine vs_iald (k := 0) rfl rfl (by omega) rfl dX10_stair_120 rfl ?_
        refine vs_topi (fun z3 e_z3 => ?_)
        have f_z3 : z3 = nI (g 0) := (by rw [e_z3, Fc.1 139 (by simp)]; exact hg 0 (by omega))
        subst f_z3
        clear e_z3
        refine vs_iast (k := 0) rfl rfl (by omega) rfl dX10_stair_121 rfl ?_
        refine vs_iconst (v := 0) dX10_stair_122 rfl rfl ?_
        refine vs_istore [(6, .int (0)), (5, .int (nI (la - s + 1))), (4, .int (nI s)), (3, .int (nI la)), (0, .ref (G.2.2.2 + 118)), (2, .int (nI k))] dX10_stair_123 rfl rfl rfl ?_
        refine vs_pick (L2 := [(6, .int (nI 0)), (5, .int (nI (la - s + 1))), (4, .int (nI s)), (3, .int (nI la)), (0, .ref (G.2.2.2 + 118)), (2, .int (nI k))]) [0, 1, 2, 3, 4, 5] rfl ?_
        have F1 : vs_fx S (vs_ia S1 127 (upd (S1.2.1 127) 0 (nI (g 0)))) [127, 128] [] [] := vs_fx.ia Fc (by simp)
        have A1 : aR (vs_ia S1 127 (upd (S1.2.1 127) 0 (nI (g 0)))) 127 90 (pcon (g 0)) := (aR.put (x := g 0) A0).c (fun k _ => by unfold nu pcon; by_cases h : k = 0 <;> simp [h])
        refine l_mst2 (S := S) (n := la) (k := k) (s := s) (z := la - s + 1) (g := g) (by omega) (S0 := vs_ia S1 127 (upd (S1.2.1 127) 0 (nI (g 0)))) (aR.fx hg F1 (by simp)) (fun S2 F2 B1 => ?_) (la - s + 1) 0 _ (by omega) vs_fx.rf ((aR.ne B0 (by omega)).c (fun j hj => (if_neg (by omega)).symm))
        have hp : aR S2 127 90 (pcon (g 0)) := aR.fx A1 F2 (by simp)
        have F3 : vs_fx S0 S2 [127, 128, 139, 140] [] [] := vs_fx.tr (vs_fx.tr F F1 (by simp) (by simp) (by simp)) F2 (by simp) (by simp) (by simp)
        have mP2 : S2.1 118 2 = nI P := (F3.2.1 _ _ (by simp)).trans mP0
        have hU : ufk (pcon (g 0)) (cut g (la - s + 1)) (ipw (cut g (la - s + 1) 0) P) P (la - s + 1) = (ufk (pcon (g 0)) g (ipw (g 0) P) P (la - s + 1)) := by
          rw [show cut g (la - s + 1) 0 = g 0 from if_pos (by omega)]
          exact ufk_c _ (fun _ _ => rfl) (fun k hk => if_pos hk)
        refine vs_aload_n 0 dX10_stair_152 rfl rfl 3 rfl ?_
        refine vs_aload_n 0 dX10_stair_153 rfl rfl 3 rfl ?_
        refine vs_get (v := .ref (G.2.2.2 + 140)) lf_X10_74 rfl rfl dX10_stair_154 rfl ?_
        refine vs_iload dX10_stair_157 rfl 0 rfl ?_
        refine vs_iconst (v := 1) dX10_stair_159 rfl rfl ?_
        refine vs_isub dX10_stair_160 rfl ?_
        refine vs_topi (fun z1 e_z1 => ?_)
        have f_z1 : z1 = nI (la - s) := (by rw [e_z1]; exact nI_pred _)
        subst f_z1
        clear e_z1
        refine vs_callVP (st := []) (c_unfoldTo (o := 140) (by omega) rfl gP1 gP2 (pcon_b b0) (cut_b (by omega) hb) (n := la - s) (by omega) mP2 hp B1) lk_X10_148 lm_X10_unfoldTo rfl rfl rfl rfl (Nat.le_of_ble_eq_true rfl) rfl ⟨rfl, rfl⟩ dX10_stair_161 rfl (fun rr S1 hh => ?_)
        obtain ⟨rfl, F4, A3⟩ := hh
        show vs_V _ _ _ _ _ [] _
        refine vs_iconst (v := 0) dX10_stair_164 rfl rfl ?_
        refine vs_istore [(6, .int (0)), (5, .int (nI (la - s + 1))), (4, .int (nI s)), (3, .int (nI la)), (0, .ref (G.2.2.2 + 118)), (2, .int (nI k))] dX10_stair_165 rfl rfl rfl ?_
        refine vs_pick (L2 := [(6, .int (nI 0)), (5, .int (nI (la - s + 1))), (4, .int (nI s)), (3, .int (nI la)), (0, .ref (G.2.2.2 + 118)), (2, .int (nI k))]) [0, 1, 2, 3, 4, 5] rfl ?_
        rw [hU] at A3
        refine l_mst3 (S := S) (n := la) (k := k) (s := s) (z := la - s + 1) (u := (ufk (pcon (g 0)) g (ipw (g 0) P) P (la - s + 1))) (by omega) (by omega) (S0 := S1) A3 (fun S3 F5 A4 => ?_) (la - s + 1 - 1) 0 S1 (by omega) vs_fx.rf aR_0
        have F6 : vs_fx S0 S3 [127, 128, 139, 140] [] [] := vs_fx.tr (vs_fx.tr F3 F4 (by simp) (by simp) (by simp)) F5 (by simp) (by simp) (by simp)
        refine vs_iinc (v := nI (s + 1)) [(4, .int (nI (s + 1))), (3, .int (nI la)), (0, .ref (G.2.2.2 + 118)), (2, .int (nI k))] dX10_stair_198 rfl 0 rfl (by first | exact nI_1 _ | (simp only [fa_lit, nI_add, pk_mul, nI_1]; rfl)) rfl rfl ?_
        refine vs_goto 77 dX10_stair_201 rfl ?_
        refine vs_pick [0, 1, 2, 3] rfl ?_
        rw [hst] at K
        exact ih (s + 1) (stn P g (la - s)) S3 (by omega) (by omega) (stn_b (by omega)) F6 (A4.sub (by omega)) K
      · have q_97 : (((g 0) : Nat) : Int) = ((0 : Nat) : Int) := (qi_eq (nI_Z _) (by first | exact nI_Z _ | (simp only [fa_lit, nI_add, pk_mul, nI_1]; exact nI_Z _)) (by omega) (by omega) (by omega) (by omega)).mp c_97
        have K2 := (K S F).2 (if_pos (by omega))
        refine vs_aload_n 0 dX10_stair_100 rfl rfl 3 rfl ?_
        refine vs_iconst (v := 5) dX10_stair_101 rfl rfl ?_
        refine vs_callV (st := []) (c_meets (c := 5) (by decide) (by decide)) lk_X10_129 lm_X10_meets rfl rfl rfl rfl (Nat.le_of_ble_eq_true rfl) rfl ⟨rfl, rfl⟩ dX10_stair_102 rfl ?_
        show vs_V _ _ _ _ _ (.int (nZ (-10 - ((5 : Nat) : Int))) :: _) _
        exact vs_iretP dX10_stair_105 K2

theorem M_stair {G : vv_G} {S : vs_S} {a : aS} (hM : MSt S a) (hG : aG a) {f : Int} (hf1 : -2147483648 ≤ f) (hf2 : f < 2147483648) {k : Int} (hk1 : -2147483648 ≤ k) (hk2 : k < 2147483648) : vs_CP G yX10_stair cX10_stair 7 (some .int) { frames := 3, locals := 73 } [.ref (G.2.2.2 + 118), .int (nZ f), .int (nZ k)] S (fun r S2 => r = some (.int (nZ (sp_stair a f k).1)) ∧ MSt S2 (sp_stair a f k).2 ∧ frM S S2) := by
  refine vs_ofP [(0, .ref (G.2.2.2 + 118)), (1, .int (nZ f)), (2, .int (nZ k))] (by decide) rfl rfl ?_
  obtain ⟨⟨mP, mN, mH, mK0⟩, mK, mSh, mSe, ⟨mA, mB⟩, mX, mY⟩ := id hM
  obtain ⟨gP, gP2, gN, gH, gSe, gSh, gXY, gB31, gInj, gA, gB, gAz, gBz⟩ := hG
  have gP1 := gP.1
  refine vs_aload_n 0 dX10_stair_0 rfl rfl 0 rfl ?_
  refine vs_iload_n 1 dX10_stair_1 rfl rfl 1 rfl ?_
  refine vs_callV (st := []) (c_isSeries mN gN hf1 hf2) lk_X10_155 lm_X10_isSeries rfl rfl rfl rfl (Nat.le_of_ble_eq_true rfl) rfl ⟨rfl, rfl⟩ dX10_stair_2 rfl ?_
  show vs_V _ _ _ _ _ (.int ((if 0 ≤ f ∧ f ≤ (aN a : Int) - 1 then 1 else 0)) :: _) _
  refine vs_if_ne 11 dX10_stair_5 rfl rfl (fun c_5 => ?_) (fun c_5 => ?_)
  · rw [nn_is0, Classical.not_not] at c_5
    skip
    · obtain ⟨f, rfl⟩ : ∃ z0 : Nat, f = z0 := ⟨f.toNat, by omega⟩
      rw [nZ_n f]
      have hf : f < 10 := by omega
      have hfN : f < aN a := by omega
      obtain ⟨f1, f2⟩ := mSe f hfN
      obtain ⟨f3, f4⟩ := gSe f hfN
      refine vs_aload_n 0 dX10_stair_11 rfl rfl 0 rfl ?_
      refine vs_get (v := .ref (G.2.2.2 + 124)) lf_X10_26 rfl rfl dX10_stair_12 rfl ?_
      refine vs_iload_n 1 dX10_stair_15 rfl rfl 1 rfl ?_
      refine vs_iald (k := f) rfl rfl (by omega) rfl dX10_stair_16 rfl ?_
      refine vs_topi (fun z1 e_z1 => ?_)
      have f_z1 : z1 = nI (aLa a f) := (by rw [e_z1]; exact f1)
      subst f_z1
      clear e_z1
      refine vs_istore_n 3 [(3, .int (nI (aLa a f))), (0, .ref (G.2.2.2 + 118)), (1, .int (nI f)), (2, .int (nZ k))] dX10_stair_17 rfl rfl rfl rfl ?_
      refine vs_iload_n 2 dX10_stair_18 rfl rfl 3 rfl ?_
      refine vs_i2l dX10_stair_19 rfl ?_
      refine vs_lconst (v := 0) dX10_stair_20 rfl rfl ?_
      refine vs_iload_n 3 dX10_stair_21 rfl rfl 0 rfl ?_
      refine vs_i2l dX10_stair_22 rfl ?_
      refine vs_callS (st := []) (c_inZ (z := k) (x := 0) (y := (aLa a f : Int)) (by rw [nn_i2l, nZ_i hk1 hk2]) rfl (by rw [nn_i2l, nI_i (by omega)])) lk_X10_107 lm_X10_in rfl rfl (Nat.le_of_ble_eq_true rfl) rfl ⟨rfl, rfl⟩ dX10_stair_23 rfl ?_
      show vs_V _ _ _ _ _ (.int ((if 0 ≤ k ∧ k ≤ (aLa a f : Int) then 1 else 0)) :: _) _
      refine vs_if_ne 32 dX10_stair_26 rfl rfl (fun c_26 => ?_) (fun c_26 => ?_)
      · rw [nn_is0, Classical.not_not] at c_26
        skip
        · obtain ⟨k, rfl⟩ : ∃ z0 : Nat, k = z0 := ⟨k.toNat, by omega⟩
          rw [nZ_n k]
          refine vs_iload_n 2 dX10_stair_32 rfl rfl 3 rfl ?_
          refine vs_if_ne 43 dX10_stair_33 rfl rfl (fun c_33 => ?_) (fun c_33 => ?_)
          · have q_33 : ¬ ((k : Nat) : Int) = ((0 : Nat) : Int) := fun hh => c_33 ((qi_eq (nI_Z _) (by first | exact nI_Z _ | (simp only [fa_lit, nI_add, pk_mul, nI_1]; exact nI_Z _)) (by omega) (by omega) (by omega) (by omega)).mpr hh)
            refine vs_iconst (v := 0) dX10_stair_43 rfl rfl ?_
            refine vs_istore [(4, .int (0)), (3, .int (nI (aLa a f))), (0, .ref (G.2.2.2 + 118)), (1, .int (nI f)), (2, .int (nI k))] dX10_stair_44 rfl rfl rfl ?_
            refine vs_pick (L2 := [(4, .int (nI 0)), (3, .int (nI (aLa a f))), (0, .ref (G.2.2.2 + 118)), (1, .int (nI f)), (2, .int (nI k))]) [0, 1, 2, 3, 4] rfl ?_
            refine l_mst1 (S := S) (f := f) (n := aLa a f) (k := k) (c := aC a f) hf (by omega) (S0 := S) f2 (fun S2 F A1 => ?_) (aLa a f) 0 S (by omega) vs_fx.rf aR_0
            have mP2 : S2.1 118 2 = nI (aP a) := (F.2.1 _ _ (by simp)).trans mP
            refine vs_iconst (v := 1) dX10_stair_74 rfl rfl ?_
            refine vs_istore [(4, .int (1)), (3, .int (nI (aLa a f))), (0, .ref (G.2.2.2 + 118)), (1, .int (nI f)), (2, .int (nI k))] dX10_stair_75 rfl rfl rfl ?_
            refine vs_pick (L2 := [(4, .int (nI 1)), (3, .int (nI (aLa a f))), (0, .ref (G.2.2.2 + 118)), (2, .int (nI k))]) [0, 1, 2, 4] rfl ?_
            refine l_mst4 (S := S) (P := aP a) gP1 gP2 (la := aLa a f) (k := k) f3 (by omega) (S0 := S2) mP2 (k - 1) 1 (fun j => aC a f (j + 1)) S2 (by omega) (by omega) (fun j => f4 (j + 1)) vs_fx.rf (A1.sub (by omega)) (fun S3 F3 => ?_)
            have F4 : vs_fx S S3 [127, 128, 139, 140] [] [] := vs_fx.tr (vs_fx.tr vs_fx.rf F (by simp) (by simp) (by simp)) F3 (by simp) (by simp) (by simp)
            have hM3 : MSt S3 a := MSt.sr hM F4 (by simp [mcr]) (by simp) (by simp)
            have hf3 : frM S S3 := F4.M (by simp) (by simp) (by simp)
            refine ⟨fun v hv => ?_, fun hv => ?_⟩
            · exact mpost (v := (v : Int)) (a' := a) (by unfold sp_stair; (try simp only [Int.toNat_natCast]); (repeat (first | rw [if_pos (by omega)] | rw [if_pos trivial] | rw [if_neg (by omega)])); rw [hv]) (by rw [nZ_n]) hM3 hf3
            · exact mpost (v := -10 - ((5 : Nat) : Int)) (a' := s_cs a 5) (by unfold sp_stair; (try simp only [Int.toNat_natCast]); (repeat (first | rw [if_pos (by omega)] | rw [if_pos trivial] | rw [if_neg (by omega)])); rw [hv]; rfl) rfl (k_meets hM3 (by decide) (by decide)).1 (hf3.tr (k_meets hM3 (by decide) (by decide)).2)
          · have q_33 : ((k : Nat) : Int) = ((0 : Nat) : Int) := (qi_eq (nI_Z _) (by first | exact nI_Z _ | (simp only [fa_lit, nI_add, pk_mul, nI_1]; exact nI_Z _)) (by omega) (by omega) (by omega) (by omega)).mp c_33
            refine vs_aload_n 0 dX10_stair_36 rfl rfl 1 rfl ?_
            refine vs_iload_n 1 dX10_stair_37 rfl rfl 2 rfl ?_
            refine vs_iconst (v := 0) dX10_stair_38 rfl rfl ?_
            refine vs_callV (st := []) (c_mof (f := f) (k := 0) (v := aC a f 0) hf (by omega) (f2 0 (by omega))) lk_X10_161 lm_X10_of rfl rfl rfl rfl (Nat.le_of_ble_eq_true rfl) rfl ⟨rfl, rfl⟩ dX10_stair_39 rfl ?_
            show vs_V _ _ _ _ _ (.int (nI (aC a f 0)) :: _) _
            exact vs_iretP dX10_stair_42 (mpost (v := (aC a f 0 : Int)) (a' := a) (by unfold sp_stair; (try simp only [Int.toNat_natCast]); repeat (first | rw [if_pos (by omega)] | rw [if_pos trivial] | rw [if_neg (by omega)])) (by rw [nZ_n]) hM frM.rf)
      · rw [nn_is0] at c_26
        refine vs_bipush (v := -102) dX10_stair_29 rfl rfl ?_
        exact vs_iretP dX10_stair_31 (mpost (v := -102) (a' := a) (by unfold sp_stair; (try simp only [Int.toNat_natCast]); repeat (first | rw [if_pos (by omega)] | rw [if_pos trivial] | rw [if_neg (by omega)])) rfl hM frM.rf)
  · rw [nn_is0] at c_5
    refine vs_bipush (v := -101) dX10_stair_8 rfl rfl ?_
    exact vs_iretP dX10_stair_10 (mpost (v := -101) (a' := a) (by unfold sp_stair; (try simp only [Int.toNat_natCast]); repeat (first | rw [if_pos (by omega)] | rw [if_pos trivial] | rw [if_neg (by omega)])) rfl hM frM.rf)

