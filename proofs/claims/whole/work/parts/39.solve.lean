def gS (P : Nat) (T : Nat → Nat → Nat) (r b j0 : Nat) : Nat → Nat → Nat := fun i j => if i = r ∧ j < j0 then T r j * b % P else T i j
theorem gS_s {P : Nat} {T : Nat → Nat → Nat} {r b j : Nat} : mu (gS P T r b j) r j (T r j * b % P) = gS P T r b (j + 1) := by
  funext a c
  unfold mu gS
  by_cases e : a = r ∧ c = j
  · rw [if_pos e, if_pos (by omega), e.2]
  · rw [if_neg e]
    by_cases e2 : a = r ∧ c < j
    · rw [if_pos e2, if_pos (by omega)]
    · rw [if_neg e2, if_neg (by omega)]
def gE (P : Nat) (T : Nat → Nat → Nat) (r k i0 j0 : Nat) : Nat → Nat → Nat := fun i j => if i ≠ r ∧ (i < i0 ∨ (i = i0 ∧ j < j0)) then nn_m ((T i j : Int) - (T i k : Int) * T r j) P else T i j
theorem gE_s {P : Nat} {T : Nat → Nat → Nat} {r k i j : Nat} (h : i ≠ r) : mu (gE P T r k i j) i j (nn_m ((T i j : Int) - (T i k : Int) * T r j) P) = gE P T r k i (j + 1) := by
  funext a c
  unfold mu gE
  by_cases e : a = i ∧ c = j
  · rw [if_pos e, if_pos (by omega), e.1, e.2]
  · rw [if_neg e]
    by_cases e2 : a ≠ r ∧ (a < i ∨ (a = i ∧ c < j))
    · rw [if_pos e2, if_pos (by omega)]
    · rw [if_neg e2, if_neg (by omega)]
theorem gE_p {P : Nat} {T : Nat → Nat → Nat} {r k i0 j0 i j : Nat} (h : i = r ∨ i0 < i ∨ (i = i0 ∧ j0 ≤ j)) : gE P T r k i0 j0 i j = T i j := by
  unfold gE
  rw [if_neg (by omega)]
theorem l_sv1 {G : vv_G} {S : vs_S} {n : Nat} (hn : n ≤ 40) {T : Nat → Nat → Nat} {P : Nat} (gP1 : 2 ≤ P) (gP2 : P ≤ 30011) (hb : ∀ i j, i < n → j < n + 1 → T i j < P) {k : Nat} (hk : k < n + 1) {r : Nat} {fz : Int} (hT : tR S n (n + 1) T) {Pst : Option Value → vs_S → Prop} (K : ∀ p : Nat, r ≤ p → p ≤ n → (∀ i, r ≤ i → i < p → T i k = 0) → (p < n → T p k ≠ 0) → vs_V G cX10_solve (vs_MP yX10_solve 11 none { frames := 2, locals := 46 } G Pst) 49 [(6, .int (nI p)), (5, .int (nI k)), (4, .int (nZ fz)), (3, .int (nI r)), (2, .int (nI (n + 1))), (0, .ref (G.2.2.2 + 118)), (1, .int (nI n))] [] S) : ∀ d p : Nat, p + d = n → r ≤ p → (∀ i, r ≤ i → i < p → T i k = 0) → vs_V G cX10_solve (vs_MP yX10_solve 11 none { frames := 2, locals := 46 } G Pst) 21 [(6, .int (nI p)), (5, .int (nI k)), (4, .int (nZ fz)), (3, .int (nI r)), (2, .int (nI (n + 1))), (0, .ref (G.2.2.2 + 118)), (1, .int (nI n))] [] S := by
  intro d
  induction d with
  | zero =>
    intro p hp hr hz
    obtain rfl : n = p := by omega
    refine vs_iload dX10_solve_21 rfl 0 rfl ?_
    refine vs_iload_n 1 dX10_solve_23 rfl rfl 6 rfl ?_
    refine vs_icmp_ge 49 dX10_solve_24 rfl rfl (fun c_24 => ?_) (fun c_24 => ?_)
    · have q_24 : ((n : Nat) : Int) ≥ ((n : Nat) : Int) := (qi_ge (nI_Z _) (nI_Z _) (by omega) (by omega) (by omega) (by omega)).mp c_24
      refine vs_pick [0, 1, 2, 3, 4, 5, 6] rfl ?_
      exact K n hr (Nat.le_refl _) hz (fun h => absurd h (by omega))
    · have q_24 : ¬ ((n : Nat) : Int) ≥ ((n : Nat) : Int) := fun hh => c_24 ((qi_ge (nI_Z _) (nI_Z _) (by omega) (by omega) (by omega) (by omega)).mpr hh)
      omega
  | succ d ih =>
    intro p hp hr hz
    have b1 := hb p k (by omega) hk
    refine vs_iload dX10_solve_21 rfl 0 rfl ?_
    refine vs_iload_n 1 dX10_solve_23 rfl rfl 6 rfl ?_
    refine vs_icmp_ge 49 dX10_solve_24 rfl rfl (fun c_24 => ?_) (fun c_24 => ?_)
    · have q_24 : ((p : Nat) : Int) ≥ ((n : Nat) : Int) := (qi_ge (nI_Z _) (nI_Z _) (by omega) (by omega) (by omega) (by omega)).mp c_24
      omega
    · have q_24 : ¬ ((p : Nat) : Int) ≥ ((n : Nat) : Int) := fun hh => c_24 ((qi_ge (nI_Z _) (nI_Z _) (by omega) (by omega) (by omega) (by omega)).mpr hh)
      refine vs_aload_n 0 dX10_solve_27 rfl rfl 5 rfl ?_
      refine vs_get (v := .ref (G.2.2.2 + 129)) lf_X10_41 rfl rfl dX10_solve_28 rfl ?_
      refine vs_bipush (v := 44) dX10_solve_31 rfl rfl ?_
      refine vs_iload dX10_solve_33 rfl 0 rfl ?_
      refine vs_imul dX10_solve_35 rfl ?_
      refine vs_iload dX10_solve_36 rfl 1 rfl ?_
      refine vs_iadd dX10_solve_38 rfl ?_
      refine vs_iald (k := (44 * p + k)) rfl (by simp only [fa_lit, nI_add, pk_mul]) (by omega) rfl dX10_solve_39 rfl ?_
      refine vs_topi (fun z1 e_z1 => ?_)
      have f_z1 : z1 = nI (T p k) := (by rw [e_z1]; exact hT p k (by omega) hk)
      subst f_z1
      clear e_z1
      refine vs_if_ne 49 dX10_solve_40 rfl rfl (fun c_40 => ?_) (fun c_40 => ?_)
      · have q_40 : ¬ (((T p k) : Nat) : Int) = ((0 : Nat) : Int) := fun hh => c_40 ((qi_eq (nI_Z _) (by first | exact nI_Z _ | (simp only [fa_lit, nI_add, pk_mul, nI_1]; exact nI_Z _)) (by omega) (by omega) (by omega) (by omega)).mpr hh)
        refine vs_pick [0, 1, 2, 3, 4, 5, 6] rfl ?_
        exact K p hr (by omega) hz (fun _ => by omega)
      · have q_40 : (((T p k) : Nat) : Int) = ((0 : Nat) : Int) := (qi_eq (nI_Z _) (by first | exact nI_Z _ | (simp only [fa_lit, nI_add, pk_mul, nI_1]; exact nI_Z _)) (by omega) (by omega) (by omega) (by omega)).mp c_40
        refine vs_iinc (v := nI (p + 1)) [(6, .int (nI (p + 1))), (5, .int (nI k)), (4, .int (nZ fz)), (3, .int (nI r)), (2, .int (nI (n + 1))), (0, .ref (G.2.2.2 + 118)), (1, .int (nI n))] dX10_solve_43 rfl 0 rfl (by first | exact nI_1 _ | (simp only [fa_lit, nI_add, pk_mul, nI_1]; rfl)) rfl rfl ?_
        refine vs_goto 21 dX10_solve_46 rfl ?_
        refine vs_pick [0, 1, 2, 3, 4, 5, 6] rfl ?_
        exact ih (p + 1) (by omega) (by omega) (fun i h1 h2 => by by_cases e : i = p; rw [e]; omega; exact hz i h1 (by omega))

theorem l_sv2 {G : vv_G} {S : vs_S} {n : Nat} (hn : n ≤ 40) {T : Nat → Nat → Nat} {P : Nat} (gP1 : 2 ≤ P) (gP2 : P ≤ 30011) (hb : ∀ i j, i < n → j < n + 1 → T i j < P) {k : Nat} (hk : k < n + 1) {r : Nat} {fz : Int} {p : Nat} (hp : p < n) (hr : r < n) {S0 : vs_S} {Pst : Option Value → vs_S → Prop} (K : ∀ S2 : vs_S, vs_fx S0 S2 [129] [] [] → tR S2 n (n + 1) (gT1 T p r) → vs_V G cX10_solve (vs_MP yX10_solve 11 none { frames := 2, locals := 46 } G Pst) 139 [(5, .int (nI k)), (4, .int (nZ fz)), (3, .int (nI r)), (2, .int (nI (n + 1))), (0, .ref (G.2.2.2 + 118)), (1, .int (nI n))] [] S2) : ∀ (d j : Nat) (S : vs_S), j + d = n + 1 → vs_fx S0 S [129] [] [] → tR S n (n + 1) (swj T p r j) → vs_V G cX10_solve (vs_MP yX10_solve 11 none { frames := 2, locals := 46 } G Pst) 73 [(7, .int (nI j)), (6, .int (nI p)), (5, .int (nI k)), (4, .int (nZ fz)), (3, .int (nI r)), (2, .int (nI (n + 1))), (0, .ref (G.2.2.2 + 118)), (1, .int (nI n))] [] S := by
  intro d
  induction d with
  | zero =>
    intro j S hj F B
    obtain rfl : n + 1 = j := by omega
    refine vs_iload dX10_solve_73 rfl 0 rfl ?_
    refine vs_iload_n 2 dX10_solve_75 rfl rfl 5 rfl ?_
    refine vs_icmp_ge 139 dX10_solve_76 rfl rfl (fun c_76 => ?_) (fun c_76 => ?_)
    · have q_76 : (((n + 1) : Nat) : Int) ≥ (((n + 1) : Nat) : Int) := (qi_ge (nI_Z _) (nI_Z _) (by omega) (by omega) (by omega) (by omega)).mp c_76
      refine vs_pick [2, 3, 4, 5, 6, 7] rfl ?_
      exact K S F (B.of (fun a b _ hb => if_pos hb))
    · have q_76 : ¬ (((n + 1) : Nat) : Int) ≥ (((n + 1) : Nat) : Int) := fun hh => c_76 ((qi_ge (nI_Z _) (nI_Z _) (by omega) (by omega) (by omega) (by omega)).mpr hh)
      omega
  | succ d ih =>
    intro j S hj F B
    have B1 := B p j hp (by omega)
    have B2 := B r j hr (by omega)
    rw [swj_p] at B1 B2
    have b1 := hb p j hp (by omega)
    have b2 := hb r j hr (by omega)
    refine vs_iload dX10_solve_73 rfl 0 rfl ?_
    refine vs_iload_n 2 dX10_solve_75 rfl rfl 5 rfl ?_
    refine vs_icmp_ge 139 dX10_solve_76 rfl rfl (fun c_76 => ?_) (fun c_76 => ?_)
    · have q_76 : ((j : Nat) : Int) ≥ (((n + 1) : Nat) : Int) := (qi_ge (nI_Z _) (nI_Z _) (by omega) (by omega) (by omega) (by omega)).mp c_76
      omega
    · have q_76 : ¬ ((j : Nat) : Int) ≥ (((n + 1) : Nat) : Int) := fun hh => c_76 ((qi_ge (nI_Z _) (nI_Z _) (by omega) (by omega) (by omega) (by omega)).mpr hh)
      refine vs_aload_n 0 dX10_solve_79 rfl rfl 6 rfl ?_
      refine vs_get (v := .ref (G.2.2.2 + 129)) lf_X10_41 rfl rfl dX10_solve_80 rfl ?_
      refine vs_bipush (v := 44) dX10_solve_83 rfl rfl ?_
      refine vs_iload dX10_solve_85 rfl 1 rfl ?_
      refine vs_imul dX10_solve_87 rfl ?_
      refine vs_iload dX10_solve_88 rfl 0 rfl ?_
      refine vs_iadd dX10_solve_90 rfl ?_
      refine vs_iald (k := (44 * p + j)) rfl (by simp only [fa_lit, nI_add, pk_mul]) (by omega) rfl dX10_solve_91 rfl ?_
      refine vs_topi (fun z1 e_z1 => ?_)
      have f_z1 : z1 = nI (T p j) := (by rw [e_z1]; exact B1)
      subst f_z1
      clear e_z1
      refine vs_istore [(8, .int (nI (T p j))), (7, .int (nI j)), (6, .int (nI p)), (5, .int (nI k)), (4, .int (nZ fz)), (3, .int (nI r)), (2, .int (nI (n + 1))), (0, .ref (G.2.2.2 + 118)), (1, .int (nI n))] dX10_solve_92 rfl rfl rfl ?_
      refine vs_aload_n 0 dX10_solve_94 rfl rfl 7 rfl ?_
      refine vs_get (v := .ref (G.2.2.2 + 129)) lf_X10_41 rfl rfl dX10_solve_95 rfl ?_
      refine vs_bipush (v := 44) dX10_solve_98 rfl rfl ?_
      refine vs_iload dX10_solve_100 rfl 2 rfl ?_
      refine vs_imul dX10_solve_102 rfl ?_
      refine vs_iload dX10_solve_103 rfl 1 rfl ?_
      refine vs_iadd dX10_solve_105 rfl ?_
      refine vs_aload_n 0 dX10_solve_106 rfl rfl 7 rfl ?_
      refine vs_get (v := .ref (G.2.2.2 + 129)) lf_X10_41 rfl rfl dX10_solve_107 rfl ?_
      refine vs_bipush (v := 44) dX10_solve_110 rfl rfl ?_
      refine vs_iload_n 3 dX10_solve_112 rfl rfl 5 rfl ?_
      refine vs_imul dX10_solve_113 rfl ?_
      refine vs_iload dX10_solve_114 rfl 1 rfl ?_
      refine vs_iadd dX10_solve_116 rfl ?_
      refine vs_iald (k := (44 * r + j)) rfl (by simp only [fa_lit, nI_add, pk_mul]) (by omega) rfl dX10_solve_117 rfl ?_
      refine vs_topi (fun z2 e_z2 => ?_)
      have f_z2 : z2 = nI (T r j) := (by rw [e_z2]; exact B2)
      subst f_z2
      clear e_z2
      refine vs_iast (k := (44 * p + j)) rfl (by simp only [fa_lit, nI_add, pk_mul]) (by omega) rfl dX10_solve_118 rfl ?_
      refine vs_aload_n 0 dX10_solve_119 rfl rfl 7 rfl ?_
      refine vs_get (v := .ref (G.2.2.2 + 129)) lf_X10_41 rfl rfl dX10_solve_120 rfl ?_
      refine vs_bipush (v := 44) dX10_solve_123 rfl rfl ?_
      refine vs_iload_n 3 dX10_solve_125 rfl rfl 5 rfl ?_
      refine vs_imul dX10_solve_126 rfl ?_
      refine vs_iload dX10_solve_127 rfl 1 rfl ?_
      refine vs_iadd dX10_solve_129 rfl ?_
      refine vs_iload dX10_solve_130 rfl 0 rfl ?_
      refine vs_iast (k := (44 * r + j)) rfl (by simp only [fa_lit, nI_add, pk_mul]) (by omega) rfl dX10_solve_132 rfl ?_
      refine vs_iinc (v := nI (j + 1)) [(7, .int (nI (j + 1))), (8, .int (nI (T p j))), (6, .int (nI p)), (5, .int (nI k)), (4, .int (nZ fz)), (3, .int (nI r)), (2, .int (nI (n + 1))), (0, .ref (G.2.2.2 + 118)), (1, .int (nI n))] dX10_solve_133 rfl 1 rfl (by first | exact nI_1 _ | (simp only [fa_lit, nI_add, pk_mul, nI_1]; rfl)) rfl rfl ?_
      refine vs_goto 73 dX10_solve_136 rfl ?_
      refine vs_pick [0, 2, 3, 4, 5, 6, 7, 8] rfl ?_
      have B3 := tR.put (i := r) (x := T p j) (tR.put (i := p) (x := T r j) B (by omega) (show j < n + 1 by omega)) (by omega) (show j < n + 1 by omega)
      rw [swj_s] at B3
      exact ih (j + 1) _ (by omega) (vs_fx.ia (vs_fx.ia F (by simp)) (by simp)) B3

theorem l_sv3 {G : vv_G} {S : vs_S} {n : Nat} (hn : n ≤ 40) {T : Nat → Nat → Nat} {P : Nat} (gP1 : 2 ≤ P) (gP2 : P ≤ 30011) (hb : ∀ i j, i < n → j < n + 1 → T i j < P) {k : Nat} (hk : k < n + 1) {r : Nat} {fz : Int} {b : Nat} (hbp : b < P) (hr : r < n) {S0 : vs_S} (mP0 : S0.1 118 2 = nI P) {Pst : Option Value → vs_S → Prop} (K : ∀ S2 : vs_S, vs_fx S0 S2 [129] [] [] → tR S2 n (n + 1) (gS P T r b (n + 1)) → vs_V G cX10_solve (vs_MP yX10_solve 11 none { frames := 2, locals := 46 } G Pst) 202 [(5, .int (nI k)), (4, .int (nZ fz)), (3, .int (nI r)), (2, .int (nI (n + 1))), (0, .ref (G.2.2.2 + 118)), (1, .int (nI n))] [] S2) : ∀ (d j : Nat) (S : vs_S), j + d = n + 1 → vs_fx S0 S [129] [] [] → tR S n (n + 1) (gS P T r b j) → vs_V G cX10_solve (vs_MP yX10_solve 11 none { frames := 2, locals := 46 } G Pst) 160 [(8, .int (nI j)), (7, .int (nI b)), (5, .int (nI k)), (4, .int (nZ fz)), (3, .int (nI r)), (2, .int (nI (n + 1))), (0, .ref (G.2.2.2 + 118)), (1, .int (nI n))] [] S := by
  intro d
  induction d with
  | zero =>
    intro j S hj F B
    obtain rfl : n + 1 = j := by omega
    refine vs_iload dX10_solve_160 rfl 0 rfl ?_
    refine vs_iload_n 2 dX10_solve_162 rfl rfl 5 rfl ?_
    refine vs_icmp_ge 202 dX10_solve_163 rfl rfl (fun c_163 => ?_) (fun c_163 => ?_)
    · have q_163 : (((n + 1) : Nat) : Int) ≥ (((n + 1) : Nat) : Int) := (qi_ge (nI_Z _) (nI_Z _) (by omega) (by omega) (by omega) (by omega)).mp c_163
      refine vs_pick [2, 3, 4, 5, 6, 7] rfl ?_
      exact K S F B
    · have q_163 : ¬ (((n + 1) : Nat) : Int) ≥ (((n + 1) : Nat) : Int) := fun hh => c_163 ((qi_ge (nI_Z _) (nI_Z _) (by omega) (by omega) (by omega) (by omega)).mpr hh)
      omega
  | succ d ih =>
    intro j S hj F B
    have mP : S.1 118 2 = nI P := (F.2.1 _ _ (by simp)).trans mP0
    have B1 := B r j hr (by omega)
    rw [show gS P T r b j r j = T r j from if_neg (by omega)] at B1
    have b1 := hb r j hr (by omega)
    refine vs_iload dX10_solve_160 rfl 0 rfl ?_
    refine vs_iload_n 2 dX10_solve_162 rfl rfl 5 rfl ?_
    refine vs_icmp_ge 202 dX10_solve_163 rfl rfl (fun c_163 => ?_) (fun c_163 => ?_)
    · have q_163 : ((j : Nat) : Int) ≥ (((n + 1) : Nat) : Int) := (qi_ge (nI_Z _) (nI_Z _) (by omega) (by omega) (by omega) (by omega)).mp c_163
      omega
    · have q_163 : ¬ ((j : Nat) : Int) ≥ (((n + 1) : Nat) : Int) := fun hh => c_163 ((qi_ge (nI_Z _) (nI_Z _) (by omega) (by omega) (by omega) (by omega)).mpr hh)
      refine vs_aload_n 0 dX10_solve_166 rfl rfl 6 rfl ?_
      refine vs_get (v := .ref (G.2.2.2 + 129)) lf_X10_41 rfl rfl dX10_solve_167 rfl ?_
      refine vs_bipush (v := 44) dX10_solve_170 rfl rfl ?_
      refine vs_iload_n 3 dX10_solve_172 rfl rfl 4 rfl ?_
      refine vs_imul dX10_solve_173 rfl ?_
      refine vs_iload dX10_solve_174 rfl 0 rfl ?_
      refine vs_iadd dX10_solve_176 rfl ?_
      refine vs_aload_n 0 dX10_solve_177 rfl rfl 6 rfl ?_
      refine vs_aload_n 0 dX10_solve_178 rfl rfl 6 rfl ?_
      refine vs_get (v := .ref (G.2.2.2 + 129)) lf_X10_41 rfl rfl dX10_solve_179 rfl ?_
      refine vs_bipush (v := 44) dX10_solve_182 rfl rfl ?_
      refine vs_iload_n 3 dX10_solve_184 rfl rfl 4 rfl ?_
      refine vs_imul dX10_solve_185 rfl ?_
      refine vs_iload dX10_solve_186 rfl 0 rfl ?_
      refine vs_iadd dX10_solve_188 rfl ?_
      refine vs_iald (k := (44 * r + j)) rfl (by simp only [fa_lit, nI_add, pk_mul]) (by omega) rfl dX10_solve_189 rfl ?_
      refine vs_topi (fun z1 e_z1 => ?_)
      have f_z1 : z1 = nI (T r j) := (by rw [e_z1]; exact B1)
      subst f_z1
      clear e_z1
      refine vs_iload dX10_solve_190 rfl 1 rfl ?_
      refine vs_callV (st := [.int (((44 * nI r) + nI j)), .ref (G.2.2.2 + 129)]) (c_product (x := T r j) (y := b) mP (by omega) (by omega) (by omega) (by omega)) lk_X10_99 lm_X10_product rfl rfl rfl rfl (Nat.le_of_ble_eq_true rfl) rfl ⟨rfl, rfl⟩ dX10_solve_192 rfl ?_
      show vs_V _ _ _ _ _ (.int (nI (T r j * b % P)) :: _) _
      refine vs_iast (k := (44 * r + j)) rfl (by simp only [fa_lit, nI_add, pk_mul]) (by omega) rfl dX10_solve_195 rfl ?_
      refine vs_iinc (v := nI (j + 1)) [(8, .int (nI (j + 1))), (7, .int (nI b)), (5, .int (nI k)), (4, .int (nZ fz)), (3, .int (nI r)), (2, .int (nI (n + 1))), (0, .ref (G.2.2.2 + 118)), (1, .int (nI n))] dX10_solve_196 rfl 0 rfl (by first | exact nI_1 _ | (simp only [fa_lit, nI_add, pk_mul, nI_1]; rfl)) rfl rfl ?_
      refine vs_goto 160 dX10_solve_199 rfl ?_
      refine vs_pick [0, 1, 2, 3, 4, 5, 6, 7] rfl ?_
      have B3 := tR.put (i := r) (x := T r j * b % P) B (by omega) (show j < n + 1 by omega)
      rw [gS_s] at B3
      exact ih (j + 1) _ (by omega) (vs_fx.ia F (by simp)) B3

theorem l_sv4 {G : vv_G} {S : vs_S} {n : Nat} (hn : n ≤ 40) {T : Nat → Nat → Nat} {P : Nat} (gP1 : 2 ≤ P) (gP2 : P ≤ 30011) (hb : ∀ i j, i < n → j < n + 1 → T i j < P) {k : Nat} (hk : k < n + 1) {r : Nat} {fz : Int} {i : Nat} (hi : i < n) (hr : r < n) (hir : i ≠ r) (hv : T i k ≠ 0) {S0 : vs_S} (mP0 : S0.1 118 2 = nI P) {Pst : Option Value → vs_S → Prop} (K : ∀ S2 : vs_S, vs_fx S0 S2 [129] [] [] → tR S2 n (n + 1) (gE P T r k i (n + 1)) → vs_V G cX10_solve (vs_MP yX10_solve 11 none { frames := 2, locals := 46 } G Pst) 301 [(8, .int (nI i)), (5, .int (nI k)), (4, .int (nZ fz)), (3, .int (nI r)), (2, .int (nI (n + 1))), (0, .ref (G.2.2.2 + 118)), (1, .int (nI n))] [] S2) : ∀ (d j : Nat) (S : vs_S), j + d = n + 1 → vs_fx S0 S [129] [] [] → tR S n (n + 1) (gE P T r k i j) → vs_V G cX10_solve (vs_MP yX10_solve 11 none { frames := 2, locals := 46 } G Pst) 229 [(10, .int (nI j)), (9, .int (nI (T i k))), (8, .int (nI i)), (5, .int (nI k)), (4, .int (nZ fz)), (3, .int (nI r)), (2, .int (nI (n + 1))), (0, .ref (G.2.2.2 + 118)), (1, .int (nI n))] [] S := by
  have b0 := hb i k hi hk
  intro d
  induction d with
  | zero =>
    intro j S hj F B
    obtain rfl : n + 1 = j := by omega
    refine vs_iload dX10_solve_229 rfl 0 rfl ?_
    refine vs_iload_n 2 dX10_solve_231 rfl rfl 6 rfl ?_
    refine vs_icmp_ge 301 dX10_solve_232 rfl rfl (fun c_232 => ?_) (fun c_232 => ?_)
    · have q_232 : (((n + 1) : Nat) : Int) ≥ (((n + 1) : Nat) : Int) := (qi_ge (nI_Z _) (nI_Z _) (by omega) (by omega) (by omega) (by omega)).mp c_232
      refine vs_pick [2, 3, 4, 5, 6, 7, 8] rfl ?_
      exact K S F B
    · have q_232 : ¬ (((n + 1) : Nat) : Int) ≥ (((n + 1) : Nat) : Int) := fun hh => c_232 ((qi_ge (nI_Z _) (nI_Z _) (by omega) (by omega) (by omega) (by omega)).mpr hh)
      omega
  | succ d ih =>
    intro j S hj F B
    have mP : S.1 118 2 = nI P := (F.2.1 _ _ (by simp)).trans mP0
    have B1 := B i j hi (by omega)
    have B2 := B r j hr (by omega)
    rw [gE_p (by omega)] at B1
    rw [gE_p (by omega)] at B2
    have b1 := hb i j hi (by omega)
    have b2 := hb r j hr (by omega)
    refine vs_iload dX10_solve_229 rfl 0 rfl ?_
    refine vs_iload_n 2 dX10_solve_231 rfl rfl 6 rfl ?_
    refine vs_icmp_ge 301 dX10_solve_232 rfl rfl (fun c_232 => ?_) (fun c_232 => ?_)
    · have q_232 : ((j : Nat) : Int) ≥ (((n + 1) : Nat) : Int) := (qi_ge (nI_Z _) (nI_Z _) (by omega) (by omega) (by omega) (by omega)).mp c_232
      omega
    · have q_232 : ¬ ((j : Nat) : Int) ≥ (((n + 1) : Nat) : Int) := fun hh => c_232 ((qi_ge (nI_Z _) (nI_Z _) (by omega) (by omega) (by omega) (by omega)).mpr hh)
      refine vs_iload dX10_solve_235 rfl 2 rfl ?_
      refine vs_iload_n 3 dX10_solve_237 rfl rfl 5 rfl ?_
      refine vs_icmp_eq 301 dX10_solve_238 rfl rfl (fun c_238 => ?_) (fun c_238 => ?_)
      · have q_238 : ((i : Nat) : Int) = ((r : Nat) : Int) := (qi_eq (nI_Z _) (nI_Z _) (by omega) (by omega) (by omega) (by omega)).mp c_238
        omega
      · have q_238 : ¬ ((i : Nat) : Int) = ((r : Nat) : Int) := fun hh => c_238 ((qi_eq (nI_Z _) (nI_Z _) (by omega) (by omega) (by omega) (by omega)).mpr hh)
        refine vs_iload dX10_solve_241 rfl 1 rfl ?_
        refine vs_if_eq 301 dX10_solve_243 rfl rfl (fun c_243 => ?_) (fun c_243 => ?_)
        · have q_243 : (((T i k) : Nat) : Int) = ((0 : Nat) : Int) := (qi_eq (nI_Z _) (by first | exact nI_Z _ | (simp only [fa_lit, nI_add, pk_mul, nI_1]; exact nI_Z _)) (by omega) (by omega) (by omega) (by omega)).mp c_243
          omega
        · have q_243 : ¬ (((T i k) : Nat) : Int) = ((0 : Nat) : Int) := fun hh => c_243 ((qi_eq (nI_Z _) (by first | exact nI_Z _ | (simp only [fa_lit, nI_add, pk_mul, nI_1]; exact nI_Z _)) (by omega) (by omega) (by omega) (by omega)).mpr hh)
          refine vs_aload_n 0 dX10_solve_246 rfl rfl 7 rfl ?_
          refine vs_get (v := .ref (G.2.2.2 + 129)) lf_X10_41 rfl rfl dX10_solve_247 rfl ?_
          refine vs_bipush (v := 44) dX10_solve_250 rfl rfl ?_
          refine vs_iload dX10_solve_252 rfl 2 rfl ?_
          refine vs_imul dX10_solve_254 rfl ?_
          refine vs_iload dX10_solve_255 rfl 0 rfl ?_
          refine vs_iadd dX10_solve_257 rfl ?_
          refine vs_aload_n 0 dX10_solve_258 rfl rfl 7 rfl ?_
          refine vs_aload_n 0 dX10_solve_259 rfl rfl 7 rfl ?_
          refine vs_get (v := .ref (G.2.2.2 + 129)) lf_X10_41 rfl rfl dX10_solve_260 rfl ?_
          refine vs_bipush (v := 44) dX10_solve_263 rfl rfl ?_
          refine vs_iload dX10_solve_265 rfl 2 rfl ?_
          refine vs_imul dX10_solve_267 rfl ?_
          refine vs_iload dX10_solve_268 rfl 0 rfl ?_
          refine vs_iadd dX10_solve_270 rfl ?_
          refine vs_iald (k := (44 * i + j)) rfl (by simp only [fa_lit, nI_add, pk_mul]) (by omega) rfl dX10_solve_271 rfl ?_
          refine vs_topi (fun z1 e_z1 => ?_)
          have f_z1 : z1 = nI (T i j) := (by rw [e_z1]; exact B1)
          subst f_z1
          clear e_z1
          refine vs_i2l dX10_solve_272 rfl ?_
          refine vs_iload dX10_solve_273 rfl 1 rfl ?_
          refine vs_i2l dX10_solve_275 rfl ?_
          refine vs_aload_n 0 dX10_solve_276 rfl rfl 7 rfl ?_
          refine vs_get (v := .ref (G.2.2.2 + 129)) lf_X10_41 rfl rfl dX10_solve_277 rfl ?_
          refine vs_bipush (v := 44) dX10_solve_280 rfl rfl ?_
          refine vs_iload_n 3 dX10_solve_282 rfl rfl 5 rfl ?_
          refine vs_imul dX10_solve_283 rfl ?_
          refine vs_iload dX10_solve_284 rfl 0 rfl ?_
          refine vs_iadd dX10_solve_286 rfl ?_
          refine vs_iald (k := (44 * r + j)) rfl (by simp only [fa_lit, nI_add, pk_mul]) (by omega) rfl dX10_solve_287 rfl ?_
          refine vs_topi (fun z2 e_z2 => ?_)
          have f_z2 : z2 = nI (T r j) := (by rw [e_z2]; exact B2)
          subst f_z2
          clear e_z2
          refine vs_i2l dX10_solve_288 rfl ?_
          refine vs_lmul dX10_solve_289 rfl ?_
          refine vs_lsub dX10_solve_290 rfl ?_
          refine vs_callV (st := [.int (((44 * nI i) + nI j)), .ref (G.2.2.2 + 129)]) (c_restZ (z := (T i j : Int) - (T i k : Int) * T r j) (nn_msub2 b0 b2 b1 gP2) mP gP1 gP2) lk_X10_135 lm_X10_rest rfl rfl rfl rfl (Nat.le_of_ble_eq_true rfl) rfl ⟨rfl, rfl⟩ dX10_solve_291 rfl ?_
          show vs_V _ _ _ _ _ (.int (nI (nn_m ((T i j : Int) - (T i k : Int) * T r j) P)) :: _) _
          refine vs_iast (k := (44 * i + j)) rfl (by simp only [fa_lit, nI_add, pk_mul]) (by omega) rfl dX10_solve_294 rfl ?_
          refine vs_iinc (v := nI (j + 1)) [(10, .int (nI (j + 1))), (9, .int (nI (T i k))), (8, .int (nI i)), (5, .int (nI k)), (4, .int (nZ fz)), (3, .int (nI r)), (2, .int (nI (n + 1))), (0, .ref (G.2.2.2 + 118)), (1, .int (nI n))] dX10_solve_295 rfl 0 rfl (by first | exact nI_1 _ | (simp only [fa_lit, nI_add, pk_mul, nI_1]; rfl)) rfl rfl ?_
          refine vs_goto 229 dX10_solve_298 rfl ?_
          refine vs_pick [0, 1, 2, 3, 4, 5, 6, 7, 8] rfl ?_
          have B3 := tR.put (i := i) (x := nn_m ((T i j : Int) - (T i k : Int) * T r j) P) B (by omega) (show j < n + 1 by omega)
          rw [gE_s hir] at B3
          exact ih (j + 1) _ (by omega) (vs_fx.ia F (by simp)) B3

theorem l_sv5 {G : vv_G} {S : vs_S} {n : Nat} (hn : n ≤ 40) {T : Nat → Nat → Nat} {P : Nat} (gP1 : 2 ≤ P) (gP2 : P ≤ 30011) (hb : ∀ i j, i < n → j < n + 1 → T i j < P) {k : Nat} (hk : k < n + 1) {r : Nat} {fz : Int} (hr : r < n) {S0 : vs_S} (mP0 : S0.1 118 2 = nI P) {Pst : Option Value → vs_S → Prop} (K : ∀ S2 : vs_S, vs_fx S0 S2 [129] [] [] → tR S2 n (n + 1) (gE P T r k n 0) → vs_V G cX10_solve (vs_MP yX10_solve 11 none { frames := 2, locals := 46 } G Pst) 307 [(5, .int (nI k)), (4, .int (nZ fz)), (3, .int (nI r)), (2, .int (nI (n + 1))), (0, .ref (G.2.2.2 + 118)), (1, .int (nI n))] [] S2) : ∀ (d i : Nat) (S : vs_S), i + d = n → vs_fx S0 S [129] [] [] → tR S n (n + 1) (gE P T r k i 0) → vs_V G cX10_solve (vs_MP yX10_solve 11 none { frames := 2, locals := 46 } G Pst) 205 [(8, .int (nI i)), (5, .int (nI k)), (4, .int (nZ fz)), (3, .int (nI r)), (2, .int (nI (n + 1))), (0, .ref (G.2.2.2 + 118)), (1, .int (nI n))] [] S := by
  intro d
  induction d with
  | zero =>
    intro i S hi F B
    obtain rfl : n = i := by omega
    refine vs_iload dX10_solve_205 rfl 0 rfl ?_
    refine vs_iload_n 1 dX10_solve_207 rfl rfl 6 rfl ?_
    refine vs_icmp_ge 307 dX10_solve_208 rfl rfl (fun c_208 => ?_) (fun c_208 => ?_)
    · have q_208 : ((n : Nat) : Int) ≥ ((n : Nat) : Int) := (qi_ge (nI_Z _) (nI_Z _) (by omega) (by omega) (by omega) (by omega)).mp c_208
      refine vs_pick [1, 2, 3, 4, 5, 6] rfl ?_
      exact K S F B
    · have q_208 : ¬ ((n : Nat) : Int) ≥ ((n : Nat) : Int) := fun hh => c_208 ((qi_ge (nI_Z _) (nI_Z _) (by omega) (by omega) (by omega) (by omega)).mpr hh)
      omega
  | succ d ih =>
    intro i S hi F B
    have mP : S.1 118 2 = nI P := (F.2.1 _ _ (by simp)).trans mP0
    have B1 := B i k (by omega) hk
    rw [gE_p (by omega)] at B1
    have b1 := hb i k (by omega) hk
    refine vs_iload dX10_solve_205 rfl 0 rfl ?_
    refine vs_iload_n 1 dX10_solve_207 rfl rfl 6 rfl ?_
    refine vs_icmp_ge 307 dX10_solve_208 rfl rfl (fun c_208 => ?_) (fun c_208 => ?_)
    · have q_208 : ((i : Nat) : Int) ≥ ((n : Nat) : Int) := (qi_ge (nI_Z _) (nI_Z _) (by omega) (by omega) (by omega) (by omega)).mp c_208
      omega
    · have q_208 : ¬ ((i : Nat) : Int) ≥ ((n : Nat) : Int) := fun hh => c_208 ((qi_ge (nI_Z _) (nI_Z _) (by omega) (by omega) (by omega) (by omega)).mpr hh)
      refine vs_aload_n 0 dX10_solve_211 rfl rfl 5 rfl ?_
      refine vs_get (v := .ref (G.2.2.2 + 129)) lf_X10_41 rfl rfl dX10_solve_212 rfl ?_
      refine vs_bipush (v := 44) dX10_solve_215 rfl rfl ?_
      refine vs_iload dX10_solve_217 rfl 0 rfl ?_
      refine vs_imul dX10_solve_219 rfl ?_
      refine vs_iload dX10_solve_220 rfl 1 rfl ?_
      refine vs_iadd dX10_solve_222 rfl ?_
      refine vs_iald (k := (44 * i + k)) rfl (by simp only [fa_lit, nI_add, pk_mul]) (by omega) rfl dX10_solve_223 rfl ?_
      refine vs_topi (fun z1 e_z1 => ?_)
      have f_z1 : z1 = nI (T i k) := (by rw [e_z1]; exact B1)
      subst f_z1
      clear e_z1
      refine vs_istore [(9, .int (nI (T i k))), (8, .int (nI i)), (5, .int (nI k)), (4, .int (nZ fz)), (3, .int (nI r)), (2, .int (nI (n + 1))), (0, .ref (G.2.2.2 + 118)), (1, .int (nI n))] dX10_solve_224 rfl rfl rfl ?_
      refine vs_iconst (v := 0) dX10_solve_226 rfl rfl ?_
      refine vs_istore [(10, .int (0)), (9, .int (nI (T i k))), (8, .int (nI i)), (5, .int (nI k)), (4, .int (nZ fz)), (3, .int (nI r)), (2, .int (nI (n + 1))), (0, .ref (G.2.2.2 + 118)), (1, .int (nI n))] dX10_solve_227 rfl rfl rfl ?_
      refine vs_pick (L2 := [(10, .int (nI 0)), (9, .int (nI (T i k))), (8, .int (nI i)), (5, .int (nI k)), (4, .int (nZ fz)), (3, .int (nI r)), (2, .int (nI (n + 1))), (0, .ref (G.2.2.2 + 118)), (1, .int (nI n))]) [0, 1, 2, 3, 4, 5, 6, 7, 8] rfl ?_
      by_cases hir : i = r
      · refine vs_iload dX10_solve_229 rfl 0 rfl ?_
        refine vs_iload_n 2 dX10_solve_231 rfl rfl 6 rfl ?_
        refine vs_icmp_ge 301 dX10_solve_232 rfl rfl (fun c_232 => ?_) (fun c_232 => ?_)
        · have q_232 : ((0 : Nat) : Int) ≥ (((n + 1) : Nat) : Int) := (qi_ge (nI_Z _) (nI_Z _) (by omega) (by omega) (by omega) (by omega)).mp c_232
          omega
        · have q_232 : ¬ ((0 : Nat) : Int) ≥ (((n + 1) : Nat) : Int) := fun hh => c_232 ((qi_ge (nI_Z _) (nI_Z _) (by omega) (by omega) (by omega) (by omega)).mpr hh)
          refine vs_iload dX10_solve_235 rfl 2 rfl ?_
          refine vs_iload_n 3 dX10_solve_237 rfl rfl 5 rfl ?_
          refine vs_icmp_eq 301 dX10_solve_238 rfl rfl (fun c_238 => ?_) (fun c_238 => ?_)
          · have q_238 : ((i : Nat) : Int) = ((r : Nat) : Int) := (qi_eq (nI_Z _) (nI_Z _) (by omega) (by omega) (by omega) (by omega)).mp c_238
            refine vs_pick [2, 3, 4, 5, 6, 7, 8] rfl ?_
            refine vs_iinc (v := nI (i + 1)) [(8, .int (nI (i + 1))), (5, .int (nI k)), (4, .int (nZ fz)), (3, .int (nI r)), (2, .int (nI (n + 1))), (0, .ref (G.2.2.2 + 118)), (1, .int (nI n))] dX10_solve_301 rfl 0 rfl (by first | exact nI_1 _ | (simp only [fa_lit, nI_add, pk_mul, nI_1]; rfl)) rfl rfl ?_
            refine vs_goto 205 dX10_solve_304 rfl ?_
            refine vs_pick [0, 1, 2, 3, 4, 5, 6] rfl ?_
            exact ih (i + 1) S (by omega) F (B.of (fun a c ha hc => by
              unfold gE
              by_cases e : a ≠ r ∧ (a < i ∨ (a = i ∧ c < 0))
              · rw [if_pos e, if_pos (by omega)]
              · rw [if_neg e]
                by_cases e2 : a ≠ r ∧ (a < i + 1 ∨ (a = i + 1 ∧ c < 0))
                · rw [if_pos e2]
                  omega
                · rw [if_neg e2]))
          · have q_238 : ¬ ((i : Nat) : Int) = ((r : Nat) : Int) := fun hh => c_238 ((qi_eq (nI_Z _) (nI_Z _) (by omega) (by omega) (by omega) (by omega)).mpr hh)
            omega
      · by_cases hv : T i k = 0
        · refine vs_iload dX10_solve_229 rfl 0 rfl ?_
          refine vs_iload_n 2 dX10_solve_231 rfl rfl 6 rfl ?_
          refine vs_icmp_ge 301 dX10_solve_232 rfl rfl (fun c_232 => ?_) (fun c_232 => ?_)
          · have q_232 : ((0 : Nat) : Int) ≥ (((n + 1) : Nat) : Int) := (qi_ge (nI_Z _) (nI_Z _) (by omega) (by omega) (by omega) (by omega)).mp c_232
            omega
          · have q_232 : ¬ ((0 : Nat) : Int) ≥ (((n + 1) : Nat) : Int) := fun hh => c_232 ((qi_ge (nI_Z _) (nI_Z _) (by omega) (by omega) (by omega) (by omega)).mpr hh)
            refine vs_iload dX10_solve_235 rfl 2 rfl ?_
            refine vs_iload_n 3 dX10_solve_237 rfl rfl 5 rfl ?_
            refine vs_icmp_eq 301 dX10_solve_238 rfl rfl (fun c_238 => ?_) (fun c_238 => ?_)
            · have q_238 : ((i : Nat) : Int) = ((r : Nat) : Int) := (qi_eq (nI_Z _) (nI_Z _) (by omega) (by omega) (by omega) (by omega)).mp c_238
              omega
            · have q_238 : ¬ ((i : Nat) : Int) = ((r : Nat) : Int) := fun hh => c_238 ((qi_eq (nI_Z _) (nI_Z _) (by omega) (by omega) (by omega) (by omega)).mpr hh)
              refine vs_iload dX10_solve_241 rfl 1 rfl ?_
              refine vs_if_eq 301 dX10_solve_243 rfl rfl (fun c_243 => ?_) (fun c_243 => ?_)
              · have q_243 : (((T i k) : Nat) : Int) = ((0 : Nat) : Int) := (qi_eq (nI_Z _) (by first | exact nI_Z _ | (simp only [fa_lit, nI_add, pk_mul, nI_1]; exact nI_Z _)) (by omega) (by omega) (by omega) (by omega)).mp c_243
                refine vs_pick [2, 3, 4, 5, 6, 7, 8] rfl ?_
                refine vs_iinc (v := nI (i + 1)) [(8, .int (nI (i + 1))), (5, .int (nI k)), (4, .int (nZ fz)), (3, .int (nI r)), (2, .int (nI (n + 1))), (0, .ref (G.2.2.2 + 118)), (1, .int (nI n))] dX10_solve_301 rfl 0 rfl (by first | exact nI_1 _ | (simp only [fa_lit, nI_add, pk_mul, nI_1]; rfl)) rfl rfl ?_
                refine vs_goto 205 dX10_solve_304 rfl ?_
                refine vs_pick [0, 1, 2, 3, 4, 5, 6] rfl ?_
                exact ih (i + 1) S (by omega) F (B.of (fun a c ha hc => by
                  unfold gE
                  by_cases e : a ≠ r ∧ (a < i ∨ (a = i ∧ c < 0))
                  · rw [if_pos e, if_pos (by omega)]
                  · rw [if_neg e]
                    by_cases e2 : a ≠ r ∧ (a < i + 1 ∨ (a = i + 1 ∧ c < 0))
                    · rw [if_pos e2]
                      have hai : a = i := by omega
                      subst hai
                      rw [hv, show ((0 : Nat) : Int) = 0 from rfl, Int.zero_mul, Int.sub_zero, nn_m_nat, Nat.mod_eq_of_lt (hb a c ha hc)]
                    · rw [if_neg e2]))
              · have q_243 : ¬ (((T i k) : Nat) : Int) = ((0 : Nat) : Int) := fun hh => c_243 ((qi_eq (nI_Z _) (by first | exact nI_Z _ | (simp only [fa_lit, nI_add, pk_mul, nI_1]; exact nI_Z _)) (by omega) (by omega) (by omega) (by omega)).mpr hh)
                omega
        · refine l_sv4 (S := S) hn gP1 gP2 hb hk (show i < n by omega) hr hir hv mP0 (fun S2 F2 B2 => ?_) (n + 1) 0 S (by omega) F B
          refine vs_iinc (v := nI (i + 1)) [(8, .int (nI (i + 1))), (5, .int (nI k)), (4, .int (nZ fz)), (3, .int (nI r)), (2, .int (nI (n + 1))), (0, .ref (G.2.2.2 + 118)), (1, .int (nI n))] dX10_solve_301 rfl 0 rfl (by first | exact nI_1 _ | (simp only [fa_lit, nI_add, pk_mul, nI_1]; rfl)) rfl rfl ?_
          refine vs_goto 205 dX10_solve_304 rfl ?_
          refine vs_pick [0, 1, 2, 3, 4, 5, 6] rfl ?_
          exact ih (i + 1) S2 (by omega) F2 (B2.of (fun a c ha hc => by
            unfold gE
            by_cases e : a ≠ r ∧ (a < i ∨ (a = i ∧ c < n + 1))
            · rw [if_pos e, if_pos (by omega)]
            · rw [if_neg e]
              by_cases e2 : a ≠ r ∧ (a < i + 1 ∨ (a = i + 1 ∧ c < 0))
              · rw [if_pos e2]
                omega
              · rw [if_neg e2]))

theorem l_sv6 {G : vv_G} {S : vs_S} {n : Nat} (hn : n ≤ 40) {T0 : Nat → Nat → Nat} {P : Nat} (hp : q_pr P) (gP1 : 2 ≤ P) (gP2 : P ≤ 30011) {S0 : vs_S} (mP0 : S0.1 118 2 = nI P) {Pst : Option Value → vs_S → Prop} (K : ∀ (S2 : vs_S) (r : Nat) (fz : Int) (T : Nat → Nat → Nat) (pv : Nat → Int), vs_fx S0 S2 [129, 130] [] [] → tR S2 n (n + 1) T → (∀ c, c < n + 1 → S2.2.1 130 c = nZ (pv c)) → gI P n T0 (n + 1) r fz T pv → vs_V G cX10_solve (vs_MP yX10_solve 11 none { frames := 2, locals := 46 } G Pst) 324 [(4, .int (nZ fz)), (2, .int (nI (n + 1))), (0, .ref (G.2.2.2 + 118))] [] S2) : ∀ (d k r : Nat) (fz : Int) (T : Nat → Nat → Nat) (pv : Nat → Int) (S : vs_S), k + d = n + 1 → vs_fx S0 S [129, 130] [] [] → tR S n (n + 1) T → (∀ c, c < k → S.2.1 130 c = nZ (pv c)) → gI P n T0 k r fz T pv → vs_V G cX10_solve (vs_MP yX10_solve 11 none { frames := 2, locals := 46 } G Pst) 12 [(5, .int (nI k)), (4, .int (nZ fz)), (3, .int (nI r)), (2, .int (nI (n + 1))), (0, .ref (G.2.2.2 + 118)), (1, .int (nI n))] [] S := by
  intro d
  induction d with
  | zero =>
    intro k r fz T pv S hk F B V hI
    obtain rfl : n + 1 = k := by omega
    refine vs_iload dX10_solve_12 rfl 0 rfl ?_
    refine vs_iload_n 2 dX10_solve_14 rfl rfl 3 rfl ?_
    refine vs_icmp_ge 324 dX10_solve_15 rfl rfl (fun c_15 => ?_) (fun c_15 => ?_)
    · have q_15 : (((n + 1) : Nat) : Int) ≥ (((n + 1) : Nat) : Int) := (qi_ge (nI_Z _) (nI_Z _) (by omega) (by omega) (by omega) (by omega)).mp c_15
      refine vs_pick [1, 3, 4] rfl ?_
      exact K S r fz T pv F B V hI
    · have q_15 : ¬ (((n + 1) : Nat) : Int) ≥ (((n + 1) : Nat) : Int) := fun hh => c_15 ((qi_ge (nI_Z _) (nI_Z _) (by omega) (by omega) (by omega) (by omega)).mpr hh)
      omega
  | succ d ih =>
    intro k r fz T pv S hk F B V hI
    have mP : S.1 118 2 = nI P := (F.2.1 _ _ (by simp)).trans mP0
    have hr0 := hI.1.1
    refine vs_iload dX10_solve_12 rfl 0 rfl ?_
    refine vs_iload_n 2 dX10_solve_14 rfl rfl 3 rfl ?_
    refine vs_icmp_ge 324 dX10_solve_15 rfl rfl (fun c_15 => ?_) (fun c_15 => ?_)
    · have q_15 : ((k : Nat) : Int) ≥ (((n + 1) : Nat) : Int) := (qi_ge (nI_Z _) (nI_Z _) (by omega) (by omega) (by omega) (by omega)).mp c_15
      omega
    · have q_15 : ¬ ((k : Nat) : Int) ≥ (((n + 1) : Nat) : Int) := fun hh => c_15 ((qi_ge (nI_Z _) (nI_Z _) (by omega) (by omega) (by omega) (by omega)).mpr hh)
      refine vs_iload_n 3 dX10_solve_18 rfl rfl 2 rfl ?_
      refine vs_istore [(6, .int (nI r)), (5, .int (nI k)), (4, .int (nZ fz)), (3, .int (nI r)), (2, .int (nI (n + 1))), (0, .ref (G.2.2.2 + 118)), (1, .int (nI n))] dX10_solve_19 rfl rfl rfl ?_
      refine vs_pick (L2 := [(6, .int (nI r)), (5, .int (nI k)), (4, .int (nZ fz)), (3, .int (nI r)), (2, .int (nI (n + 1))), (0, .ref (G.2.2.2 + 118)), (1, .int (nI n))]) [0, 1, 2, 3, 4, 5, 6] rfl ?_
      refine l_sv1 (S := S) hn gP1 gP2 hI.2.1 (show k < n + 1 by omega) B (fun p hrp hpn hz hnz => ?_) (n - r) r (by omega) (Nat.le_refl _) (fun i h1 h2 => absurd h1 (by omega))
      refine vs_aload_n 0 dX10_solve_49 rfl rfl 5 rfl ?_
      refine vs_get (v := .ref (G.2.2.2 + 130)) lf_X10_44 rfl rfl dX10_solve_50 rfl ?_
      refine vs_iload dX10_solve_53 rfl 1 rfl ?_
      refine vs_iconst (v := -1) dX10_solve_55 rfl rfl ?_
      refine vs_iast (k := k) rfl rfl (by omega) rfl dX10_solve_56 rfl ?_
      have F1 : vs_fx S0 (vs_ia S 130 (upd (S.2.1 130) k (-1))) [129, 130] [] [] := vs_fx.ia F (by simp)
      have B1 : tR (vs_ia S 130 (upd (S.2.1 130) k (-1))) n (n + 1) T := fun a b ha hb => by rw [vs_ia_ne (by omega)]; exact B a b ha hb
      refine vs_iload dX10_solve_57 rfl 0 rfl ?_
      refine vs_iload_n 1 dX10_solve_59 rfl rfl 6 rfl ?_
      refine vs_icmp_ne 70 dX10_solve_60 rfl rfl (fun c_60 => ?_) (fun c_60 => ?_)
      · have q_60 : ¬ ((p : Nat) : Int) = ((n : Nat) : Int) := fun hh => c_60 ((qi_eq (nI_Z _) (nI_Z _) (by omega) (by omega) (by omega) (by omega)).mpr hh)
        refine vs_iconst (v := 0) dX10_solve_70 rfl rfl ?_
        refine vs_istore [(7, .int (0)), (6, .int (nI p)), (5, .int (nI k)), (4, .int (nZ fz)), (3, .int (nI r)), (2, .int (nI (n + 1))), (0, .ref (G.2.2.2 + 118)), (1, .int (nI n))] dX10_solve_71 rfl rfl rfl ?_
        refine vs_pick (L2 := [(7, .int (nI 0)), (6, .int (nI p)), (5, .int (nI k)), (4, .int (nZ fz)), (3, .int (nI r)), (2, .int (nI (n + 1))), (0, .ref (G.2.2.2 + 118)), (1, .int (nI n))]) [0, 1, 2, 3, 4, 5, 6, 7] rfl ?_
        have hr : r < n := by omega
        have hpz := hnz (by omega)
        refine l_sv2 (S := S) hn gP1 gP2 hI.2.1 (show k < n + 1 by omega) (show p < n by omega) hr (S0 := vs_ia S 130 (upd (S.2.1 130) k (-1))) (fun S2 F2 B2 => ?_) (n + 1) 0 _ (by omega) vs_fx.rf (B1.of (fun a b _ _ => (if_neg (by omega)).symm))
        have mP2 : S2.1 118 2 = nI P := (F2.2.1 _ _ (by simp)).trans mP
        have hI3 := gI_piv hp hI (show k < n + 1 by omega) hrp (show p < n by omega) hpz
        have hb1 : ∀ i j, i < n → j < n + 1 → gT1 T p r i j < P := fun i j hi hj => by
          unfold gT1 swi
          by_cases e1 : i = r
          · rw [if_pos e1]; exact hI.2.1 p j (by omega) hj
          · rw [if_neg e1]
            by_cases e2 : i = p
            · rw [if_pos e2]; exact hI.2.1 r j hr hj
            · rw [if_neg e2]; exact hI.2.1 i j hi hj
        have b1 := hb1 r k hr (by omega)
        refine vs_aload_n 0 dX10_solve_139 rfl rfl 4 rfl ?_
        refine vs_aload_n 0 dX10_solve_140 rfl rfl 4 rfl ?_
        refine vs_get (v := .ref (G.2.2.2 + 129)) lf_X10_41 rfl rfl dX10_solve_141 rfl ?_
        refine vs_bipush (v := 44) dX10_solve_144 rfl rfl ?_
        refine vs_iload_n 3 dX10_solve_146 rfl rfl 2 rfl ?_
        refine vs_imul dX10_solve_147 rfl ?_
        refine vs_iload dX10_solve_148 rfl 0 rfl ?_
        refine vs_iadd dX10_solve_150 rfl ?_
        refine vs_iald (k := (44 * r + k)) rfl (by simp only [fa_lit, nI_add, pk_mul]) (by omega) rfl dX10_solve_151 rfl ?_
        refine vs_topi (fun z1 e_z1 => ?_)
        have f_z1 : z1 = nI (gT1 T p r r k) := (by rw [e_z1]; exact B2 r k hr (by omega))
        subst f_z1
        clear e_z1
        refine vs_callV (st := []) (c_minverse (a := gT1 T p r r k) mP2 gP1 gP2 b1) lk_X10_142 lm_X10_inverse rfl rfl rfl rfl (Nat.le_of_ble_eq_true rfl) rfl ⟨rfl, rfl⟩ dX10_solve_152 rfl ?_
        show vs_V _ _ _ _ _ (.int (nI (ipw (gT1 T p r r k) P)) :: _) _
        refine vs_istore [(7, .int (nI (ipw (gT1 T p r r k) P))), (5, .int (nI k)), (4, .int (nZ fz)), (3, .int (nI r)), (2, .int (nI (n + 1))), (0, .ref (G.2.2.2 + 118)), (1, .int (nI n))] dX10_solve_155 rfl rfl rfl ?_
        refine vs_iconst (v := 0) dX10_solve_157 rfl rfl ?_
        refine vs_istore [(8, .int (0)), (7, .int (nI (ipw (gT1 T p r r k) P))), (5, .int (nI k)), (4, .int (nZ fz)), (3, .int (nI r)), (2, .int (nI (n + 1))), (0, .ref (G.2.2.2 + 118)), (1, .int (nI n))] dX10_solve_158 rfl rfl rfl ?_
        refine vs_pick (L2 := [(8, .int (nI 0)), (7, .int (nI (ipw (gT1 T p r r k) P))), (5, .int (nI k)), (4, .int (nZ fz)), (3, .int (nI r)), (2, .int (nI (n + 1))), (0, .ref (G.2.2.2 + 118)), (1, .int (nI n))]) [0, 1, 2, 3, 4, 5, 6, 7] rfl ?_
        refine l_sv3 (S := S) hn gP1 gP2 hb1 (show k < n + 1 by omega) (b := ipw (gT1 T p r r k) P) (ipw_lt gP1) hr (S0 := S2) mP2 (fun S3 F3 B3 => ?_) (n + 1) 0 S2 (by omega) vs_fx.rf (B2.of (fun a b _ _ => (if_neg (by omega)).symm))
        have B3' : tR S3 n (n + 1) (gT2 P T p r k) := B3.of (fun a b _ hb => by
          unfold gS gT2
          by_cases e : a = r
          · rw [if_pos ⟨e, hb⟩, if_pos e]
          · rw [if_neg (fun z => e z.1), if_neg e])
        have hb2 : ∀ i j, i < n → j < n + 1 → gT2 P T p r k i j < P := fun i j hi hj => by
          unfold gT2
          by_cases e : i = r
          · rw [if_pos e]; exact Nat.mod_lt _ (by omega)
          · rw [if_neg e]; exact hb1 i j hi hj
        have mP3 : S3.1 118 2 = nI P := (F3.2.1 _ _ (by simp)).trans mP2
        refine vs_iconst (v := 0) dX10_solve_202 rfl rfl ?_
        refine vs_istore [(8, .int (0)), (5, .int (nI k)), (4, .int (nZ fz)), (3, .int (nI r)), (2, .int (nI (n + 1))), (0, .ref (G.2.2.2 + 118)), (1, .int (nI n))] dX10_solve_203 rfl rfl rfl ?_
        refine vs_pick (L2 := [(8, .int (nI 0)), (5, .int (nI k)), (4, .int (nZ fz)), (3, .int (nI r)), (2, .int (nI (n + 1))), (0, .ref (G.2.2.2 + 118)), (1, .int (nI n))]) [0, 1, 2, 3, 4, 5, 6] rfl ?_
        refine l_sv5 (S := S) hn gP1 gP2 hb2 (show k < n + 1 by omega) hr (S0 := S3) mP3 (fun S4 F4 B4 => ?_) n 0 S3 (by omega) vs_fx.rf (B3'.of (fun a b _ _ => (gE_p (by omega)).symm))
        have B4' : tR S4 n (n + 1) (gT3 P T p r k) := B4.of (fun a b ha _ => by
          unfold gE gT3
          by_cases e : a = r
          · rw [if_neg (fun z => z.1 e), if_pos e, e]
          · rw [if_pos ⟨e, by omega⟩, if_neg e])
        have F5 : vs_fx S0 S4 [129, 130] [] [] := vs_fx.tr (vs_fx.tr (vs_fx.tr F1 F2 (by simp) (by simp) (by simp)) F3 (by simp) (by simp) (by simp)) F4 (by simp) (by simp) (by simp)
        have V4 : ∀ c, c < k → S4.2.1 130 c = nZ (pv c) := fun c hc => by
          rw [F4.1 130 (by simp), F3.1 130 (by simp), F2.1 130 (by simp), vs_ia_at]
          unfold upd
          rw [if_neg (by omega)]
          exact V c hc
        refine vs_aload_n 0 dX10_solve_307 rfl rfl 4 rfl ?_
        refine vs_get (v := .ref (G.2.2.2 + 130)) lf_X10_44 rfl rfl dX10_solve_308 rfl ?_
        refine vs_iload dX10_solve_311 rfl 0 rfl ?_
        refine vs_iload_n 3 dX10_solve_313 rfl rfl 2 rfl ?_
        refine vs_iast (k := k) rfl rfl (by omega) rfl dX10_solve_314 rfl ?_
        refine vs_iinc (v := nI (r + 1)) [(3, .int (nI (r + 1))), (5, .int (nI k)), (4, .int (nZ fz)), (2, .int (nI (n + 1))), (0, .ref (G.2.2.2 + 118)), (1, .int (nI n))] dX10_solve_315 rfl 2 rfl (by first | exact nI_1 _ | (simp only [fa_lit, nI_add, pk_mul, nI_1]; rfl)) rfl rfl ?_
        refine vs_iinc (v := nI (k + 1)) [(5, .int (nI (k + 1))), (3, .int (nI (r + 1))), (4, .int (nZ fz)), (2, .int (nI (n + 1))), (0, .ref (G.2.2.2 + 118)), (1, .int (nI n))] dX10_solve_318 rfl 1 rfl (by first | exact nI_1 _ | (simp only [fa_lit, nI_add, pk_mul, nI_1]; rfl)) rfl rfl ?_
        refine vs_goto 12 dX10_solve_321 rfl ?_
        refine vs_pick (L2 := [(5, .int (nI (k + 1))), (4, .int (nZ fz)), (3, .int (nI (r + 1))), (2, .int (nI (n + 1))), (0, .ref (G.2.2.2 + 118)), (1, .int (nI n))]) [0, 2, 1, 3, 4, 5] rfl ?_
        exact ih (k + 1) (r + 1) fz (gT3 P T p r k) (upi pv k r) _ (by omega) (vs_fx.ia F5 (by simp)) (fun a b ha hb => by rw [vs_ia_ne (by omega)]; exact B4' a b ha hb) (fun c hc => by rw [vs_ia_at]; unfold upd upi; by_cases e : c = k; rw [if_pos e, if_pos e, nZ_n]; rw [if_neg e, if_neg e]; exact V4 c (by omega)) hI3
      · have q_60 : ((p : Nat) : Int) = ((n : Nat) : Int) := (qi_eq (nI_Z _) (nI_Z _) (by omega) (by omega) (by omega) (by omega)).mp c_60
        refine vs_iload dX10_solve_63 rfl 1 rfl ?_
        refine vs_istore [(4, .int (nI k)), (6, .int (nI p)), (5, .int (nI k)), (3, .int (nI r)), (2, .int (nI (n + 1))), (0, .ref (G.2.2.2 + 118)), (1, .int (nI n))] dX10_solve_65 rfl rfl rfl ?_
        refine vs_goto 318 dX10_solve_67 rfl ?_
        refine vs_iinc (v := nI (k + 1)) [(5, .int (nI (k + 1))), (4, .int (nI k)), (6, .int (nI p)), (3, .int (nI r)), (2, .int (nI (n + 1))), (0, .ref (G.2.2.2 + 118)), (1, .int (nI n))] dX10_solve_318 rfl 2 rfl (by first | exact nI_1 _ | (simp only [fa_lit, nI_add, pk_mul, nI_1]; rfl)) rfl rfl ?_
        refine vs_goto 12 dX10_solve_321 rfl ?_
        refine vs_pick (L2 := [(5, .int (nI (k + 1))), (4, .int (nZ ((k : Int)))), (3, .int (nI r)), (2, .int (nI (n + 1))), (0, .ref (G.2.2.2 + 118)), (1, .int (nI n))]) [0, 1, 3, 4, 5, 6] (by rw [nZ_n]; rfl) ?_
        exact ih (k + 1) r k T (upi pv k (-1)) _ (by omega) F1 B1 (fun c hc => by rw [vs_ia_at]; unfold upd upi; by_cases e : c = k; rw [if_pos e, if_pos e]; rfl; rw [if_neg e, if_neg e]; exact V c (by omega)) (gI_skip hI (fun i h1 h2 => hz i h1 (by omega)))

theorem l_sv7 {G : vv_G} {S : vs_S} {n : Nat} (hn : n ≤ 40) {T0 T : Nat → Nat → Nat} {P r : Nat} {fz : Int} {pv : Nat → Int} (gP1 : 2 ≤ P) (gP2 : P ≤ 30011) (hI : gI P n T0 (n + 1) r fz T pv) {f : Nat} (hfz : fz = f) (hf : f < n + 1) {S0 : vs_S} (mP0 : S0.1 118 2 = nI P) (B0 : tR S0 n (n + 1) T) (V0 : ∀ c, c < n + 1 → S0.2.1 130 c = nZ (pv c)) {Pst : Option Value → vs_S → Prop} (K : ∀ S2 : vs_S, vs_fx S0 S2 [131] [] [] → aR S2 131 (n + 1) (gX P fz T pv) → Pst none S2) : ∀ (d i : Nat) (S : vs_S), i + d = n + 1 → vs_fx S0 S [131] [] [] → aR S 131 i (gX P fz T pv) → vs_V G cX10_solve (vs_MP yX10_solve 11 none { frames := 2, locals := 46 } G Pst) 327 [(5, .int (nI i)), (4, .int (nZ fz)), (2, .int (nI (n + 1))), (0, .ref (G.2.2.2 + 118))] [] S := by
  subst hfz
  intro d
  induction d with
  | zero =>
    intro i S hi F A1
    obtain rfl : n + 1 = i := by omega
    refine vs_iload dX10_solve_327 rfl 0 rfl ?_
    refine vs_iload_n 2 dX10_solve_329 rfl rfl 2 rfl ?_
    refine vs_icmp_ge 396 dX10_solve_330 rfl rfl (fun c_330 => ?_) (fun c_330 => ?_)
    · have q_330 : (((n + 1) : Nat) : Int) ≥ (((n + 1) : Nat) : Int) := (qi_ge (nI_Z _) (nI_Z _) (by omega) (by omega) (by omega) (by omega)).mp c_330
      exact vs_vretP dX10_solve_396 (K S F A1)
    · have q_330 : ¬ (((n + 1) : Nat) : Int) ≥ (((n + 1) : Nat) : Int) := fun hh => c_330 ((qi_ge (nI_Z _) (nI_Z _) (by omega) (by omega) (by omega) (by omega)).mpr hh)
      omega
  | succ d ih =>
    intro i S hi F A1
    have mP : S.1 118 2 = nI P := (F.2.1 _ _ (by simp)).trans mP0
    have B := tR.fx B0 F (by simp)
    have V : S.2.1 130 i = nZ (pv i) := by rw [F.1 130 (by simp)]; exact V0 i (by omega)
    have hr0 := hI.1.1
    have h5 := hI.2.2.2.1 i (by omega)
    refine vs_iload dX10_solve_327 rfl 0 rfl ?_
    refine vs_iload_n 2 dX10_solve_329 rfl rfl 2 rfl ?_
    refine vs_icmp_ge 396 dX10_solve_330 rfl rfl (fun c_330 => ?_) (fun c_330 => ?_)
    · have q_330 : ((i : Nat) : Int) ≥ (((n + 1) : Nat) : Int) := (qi_ge (nI_Z _) (nI_Z _) (by omega) (by omega) (by omega) (by omega)).mp c_330
      omega
    · have q_330 : ¬ ((i : Nat) : Int) ≥ (((n + 1) : Nat) : Int) := fun hh => c_330 ((qi_ge (nI_Z _) (nI_Z _) (by omega) (by omega) (by omega) (by omega)).mpr hh)
      refine vs_aload_n 0 dX10_solve_333 rfl rfl 3 rfl ?_
      refine vs_get (v := .ref (G.2.2.2 + 131)) lf_X10_47 rfl rfl dX10_solve_334 rfl ?_
      refine vs_iload dX10_solve_337 rfl 0 rfl ?_
      refine vs_iload dX10_solve_339 rfl 0 rfl ?_
      refine vs_iload dX10_solve_341 rfl 1 rfl ?_
      refine vs_icmp_ne 350 dX10_solve_343 rfl rfl (fun c_343 => ?_) (fun c_343 => ?_)
      · have q_343 : ¬ ((i : Nat) : Int) = (((f : Int)) : Int) := fun hh => c_343 ((qi_eq (nI_Z _) rfl (by omega) (by omega) (by omega) (by omega)).mpr hh)
        have e0 : ¬ (i : Int) = f := by omega
        rcases h5 with hm | ⟨q, hq, hv, hT⟩
        · have e1 : gX P f T pv i = 0 := by unfold gX; rw [if_neg e0, if_pos hm]
          rw [hm] at V
          refine vs_aload_n 0 dX10_solve_350 rfl rfl 3 rfl ?_
          refine vs_get (v := .ref (G.2.2.2 + 130)) lf_X10_44 rfl rfl dX10_solve_351 rfl ?_
          refine vs_iload dX10_solve_354 rfl 0 rfl ?_
          refine vs_iald (k := i) rfl rfl (by omega) rfl dX10_solve_356 rfl ?_
          refine vs_topi (fun z1 e_z1 => ?_)
          have f_z1 : z1 = nZ (-1) := (by rw [e_z1]; exact V)
          subst f_z1
          clear e_z1
          refine vs_iconst (v := -1) dX10_solve_357 rfl rfl ?_
          refine vs_icmp_ne 365 dX10_solve_358 rfl rfl (fun c_358 => ?_) (fun c_358 => ?_)
          · have q_358 : ¬ ((-1) : Int) = (-1 : Int) := fun hh => c_358 ((qi_eq rfl rfl (by omega) (by omega) (by omega) (by omega)).mpr hh)
            omega
          · have q_358 : ((-1) : Int) = (-1 : Int) := (qi_eq rfl rfl (by omega) (by omega) (by omega) (by omega)).mp c_358
            refine vs_iconst (v := 0) dX10_solve_361 rfl rfl ?_
            refine vs_goto 389 dX10_solve_362 rfl ?_
            refine vs_iast (k := i) rfl rfl (by omega) rfl dX10_solve_389 rfl ?_
            refine vs_iinc (v := nI (i + 1)) [(5, .int (nI (i + 1))), (4, .int (nZ ((f : Int)))), (2, .int (nI (n + 1))), (0, .ref (G.2.2.2 + 118))] dX10_solve_390 rfl 0 rfl (by first | exact nI_1 _ | (simp only [fa_lit, nI_add, pk_mul, nI_1]; rfl)) rfl rfl ?_
            refine vs_goto 327 dX10_solve_393 rfl ?_
            refine vs_pick [0, 1, 2, 3] rfl ?_
            have A2 := aR.push A1
            rw [e1] at A2
            exact ih (i + 1) _ (by omega) (vs_fx.ia F (by simp)) A2
        · have b1 := hI.2.1 q f (by omega) hf
          have e1 : gX P f T pv i = nn_m (-(T q f : Int)) P := by unfold gX; rw [if_neg e0, if_neg (by omega), hv]; rfl
          rw [hv, nZ_n] at V
          refine vs_aload_n 0 dX10_solve_350 rfl rfl 3 rfl ?_
          refine vs_get (v := .ref (G.2.2.2 + 130)) lf_X10_44 rfl rfl dX10_solve_351 rfl ?_
          refine vs_iload dX10_solve_354 rfl 0 rfl ?_
          refine vs_iald (k := i) rfl rfl (by omega) rfl dX10_solve_356 rfl ?_
          refine vs_topi (fun z2 e_z2 => ?_)
          have f_z2 : z2 = nI q := (by rw [e_z2]; exact V)
          subst f_z2
          clear e_z2
          refine vs_iconst (v := -1) dX10_solve_357 rfl rfl ?_
          refine vs_icmp_ne 365 dX10_solve_358 rfl rfl (fun c_358 => ?_) (fun c_358 => ?_)
          · have q_358 : ¬ ((q : Nat) : Int) = (-1 : Int) := fun hh => c_358 ((qi_eq (nI_Z _) rfl (by omega) (by omega) (by omega) (by omega)).mpr hh)
            refine vs_aload_n 0 dX10_solve_365 rfl rfl 3 rfl ?_
            refine vs_aload_n 0 dX10_solve_366 rfl rfl 3 rfl ?_
            refine vs_get (v := .ref (G.2.2.2 + 129)) lf_X10_41 rfl rfl dX10_solve_367 rfl ?_
            refine vs_bipush (v := 44) dX10_solve_370 rfl rfl ?_
            refine vs_aload_n 0 dX10_solve_372 rfl rfl 3 rfl ?_
            refine vs_get (v := .ref (G.2.2.2 + 130)) lf_X10_44 rfl rfl dX10_solve_373 rfl ?_
            refine vs_iload dX10_solve_376 rfl 0 rfl ?_
            refine vs_iald (k := i) rfl rfl (by omega) rfl dX10_solve_378 rfl ?_
            refine vs_topi (fun z3 e_z3 => ?_)
            have f_z3 : z3 = nI q := (by rw [e_z3]; exact V)
            subst f_z3
            clear e_z3
            refine vs_imul dX10_solve_379 rfl ?_
            rw [nZ_n f]
            refine vs_iload dX10_solve_380 rfl 1 rfl ?_
            refine vs_iadd dX10_solve_382 rfl ?_
            refine vs_iald (k := (44 * q + f)) rfl (by simp only [fa_lit, nI_add, pk_mul, nZ_n]) (by omega) rfl dX10_solve_383 rfl ?_
            refine vs_topi (fun z4 e_z4 => ?_)
            have f_z4 : z4 = nI (T q f) := (by rw [e_z4]; exact B q f (by omega) hf)
            subst f_z4
            clear e_z4
            refine vs_ineg dX10_solve_384 rfl ?_
            refine vs_i2l dX10_solve_385 rfl ?_
            refine vs_callV (st := [.int (nI i), .ref (G.2.2.2 + 131)]) (c_restZ (z := -(T q f : Int)) (by rw [nn_i2l, nI_Z, nZ_neg, nZ_i (by omega) (by omega)]) mP gP1 gP2) lk_X10_135 lm_X10_rest rfl rfl rfl rfl (Nat.le_of_ble_eq_true rfl) rfl ⟨rfl, rfl⟩ dX10_solve_386 rfl ?_
            show vs_V _ _ _ _ _ (.int (nI (nn_m (-(T q f : Int)) P)) :: _) _
            refine vs_iast (k := i) rfl rfl (by omega) rfl dX10_solve_389 rfl ?_
            refine vs_iinc (v := nI (i + 1)) [(5, .int (nI (i + 1))), (4, .int (nZ ((f : Int)))), (2, .int (nI (n + 1))), (0, .ref (G.2.2.2 + 118))] dX10_solve_390 rfl 0 rfl (by first | exact nI_1 _ | (simp only [fa_lit, nI_add, pk_mul, nI_1]; rfl)) rfl rfl ?_
            refine vs_goto 327 dX10_solve_393 rfl ?_
            refine vs_pick [0, 1, 2, 3] rfl ?_
            have A2 := aR.push A1
            rw [e1] at A2
            exact ih (i + 1) _ (by omega) (vs_fx.ia F (by simp)) A2
          · have q_358 : ((q : Nat) : Int) = (-1 : Int) := (qi_eq (nI_Z _) rfl (by omega) (by omega) (by omega) (by omega)).mp c_358
            omega
      · have q_343 : ((i : Nat) : Int) = (((f : Int)) : Int) := (qi_eq (nI_Z _) rfl (by omega) (by omega) (by omega) (by omega)).mp c_343
        have e1 : gX P f T pv i = 1 := if_pos (by omega)
        refine vs_iconst (v := 1) dX10_solve_346 rfl rfl ?_
        refine vs_goto 389 dX10_solve_347 rfl ?_
        refine vs_iast (k := i) rfl rfl (by omega) rfl dX10_solve_389 rfl ?_
        refine vs_iinc (v := nI (i + 1)) [(5, .int (nI (i + 1))), (4, .int (nZ ((f : Int)))), (2, .int (nI (n + 1))), (0, .ref (G.2.2.2 + 118))] dX10_solve_390 rfl 0 rfl (by first | exact nI_1 _ | (simp only [fa_lit, nI_add, pk_mul, nI_1]; rfl)) rfl rfl ?_
        refine vs_goto 327 dX10_solve_393 rfl ?_
        refine vs_pick [0, 1, 2, 3] rfl ?_
        have A2 := aR.push A1
        rw [e1] at A2
        exact ih (i + 1) _ (by omega) (vs_fx.ia F (by simp)) A2

theorem c_solve {G : vv_G} {S : vs_S} {n : Nat} (hn : n ≤ 40) {T0 : Nat → Nat → Nat} {P : Nat} (hp : q_pr P) (gP1 : 2 ≤ P) (gP2 : P ≤ 30011) (mP : S.1 118 2 = nI P) (hT : tR S n (n + 1) T0) (hb : ∀ i j, i < n → j < n + 1 → T0 i j < P) : vs_CP G yX10_solve cX10_solve 11 none { frames := 2, locals := 46 } [.ref (G.2.2.2 + 118), .int (nI n)] S (fun r S2 => r = none ∧ vs_fx S S2 [129, 130, 131] [] [] ∧ ∃ x, aR S2 131 (n + 1) x ∧ (∀ c, x c < P) ∧ (∃ f, f < n + 1 ∧ x f = 1) ∧ ∀ i, i < n → (P : Int) ∣ dot T0 x (n + 1) i) := by
  refine vs_ofP [(0, .ref (G.2.2.2 + 118)), (1, .int (nI n))] (by decide) rfl rfl ?_
  refine vs_iload_n 1 dX10_solve_0 rfl rfl 1 rfl ?_
  refine vs_iconst (v := 1) dX10_solve_1 rfl rfl ?_
  refine vs_iadd dX10_solve_2 rfl ?_
  refine vs_topi (fun z1 e_z1 => ?_)
  have f_z1 : z1 = nI (n + 1) := (by rw [e_z1]; exact nI_1 _)
  subst f_z1
  clear e_z1
  refine vs_istore_n 2 [(2, .int (nI (n + 1))), (0, .ref (G.2.2.2 + 118)), (1, .int (nI n))] dX10_solve_3 rfl rfl rfl rfl ?_
  refine vs_iconst (v := 0) dX10_solve_4 rfl rfl ?_
  refine vs_istore_n 3 [(3, .int (0)), (2, .int (nI (n + 1))), (0, .ref (G.2.2.2 + 118)), (1, .int (nI n))] dX10_solve_5 rfl rfl rfl rfl ?_
  refine vs_iconst (v := -1) dX10_solve_6 rfl rfl ?_
  refine vs_topi (fun v4 e_v4 => ?_)
  have e2_v4 : v4 = nZ (-1) := (by rw [e_v4]; rfl)
  clear e_v4
  subst e2_v4
  refine vs_istore [(4, .int (nZ (-1))), (3, .int (0)), (2, .int (nI (n + 1))), (0, .ref (G.2.2.2 + 118)), (1, .int (nI n))] dX10_solve_7 rfl rfl rfl ?_
  refine vs_iconst (v := 0) dX10_solve_9 rfl rfl ?_
  refine vs_istore [(5, .int (0)), (4, .int (nZ (-1))), (3, .int (0)), (2, .int (nI (n + 1))), (0, .ref (G.2.2.2 + 118)), (1, .int (nI n))] dX10_solve_10 rfl rfl rfl ?_
  refine vs_pick (L2 := [(5, .int (nI 0)), (4, .int (nZ (-1))), (3, .int (nI 0)), (2, .int (nI (n + 1))), (0, .ref (G.2.2.2 + 118)), (1, .int (nI n))]) [0, 1, 2, 3, 4, 5] rfl ?_
  refine l_sv6 (S := S) hn hp gP1 gP2 (S0 := S) mP (fun S2 r fz T pv F B V hI => ?_) (n + 1) 0 0 (-1) T0 (fun _ => -1) S (by omega) vs_fx.rf hT (fun c hc => absurd hc (by omega)) (gI_0 hb)
  obtain ⟨⟨e1, e2, e3⟩, hker⟩ := gI_end hp hI
  obtain ⟨f, hf⟩ : ∃ f : Nat, fz = f := ⟨fz.toNat, by omega⟩
  refine vs_iconst (v := 0) dX10_solve_324 rfl rfl ?_
  refine vs_istore [(5, .int (0)), (4, .int (nZ fz)), (2, .int (nI (n + 1))), (0, .ref (G.2.2.2 + 118))] dX10_solve_325 rfl rfl rfl ?_
  refine vs_pick (L2 := [(5, .int (nI 0)), (4, .int (nZ fz)), (2, .int (nI (n + 1))), (0, .ref (G.2.2.2 + 118))]) [0, 1, 2, 3] rfl ?_
  refine l_sv7 (S := S) hn gP1 gP2 hI hf (by omega) (S0 := S2) ((F.2.1 _ _ (by simp)).trans mP) B V (fun S3 F3 A3 => ?_) (n + 1) 0 S2 (by omega) vs_fx.rf aR_0
  refine ⟨rfl, vs_fx.tr (vs_fx.tr vs_fx.rf F (by simp) (by simp) (by simp)) F3 (by simp) (by simp) (by simp), gX P fz T pv, A3, fun c => ?_, ⟨f, by omega, by rw [← e3, hf]; rfl⟩, hker⟩
  unfold gX
  by_cases h1 : (c : Int) = fz
  · rw [if_pos h1]; omega
  · rw [if_neg h1]
    by_cases h2 : pv c = -1
    · rw [if_pos h2]; omega
    · rw [if_neg h2]; exact nn_m_lt (by omega)

