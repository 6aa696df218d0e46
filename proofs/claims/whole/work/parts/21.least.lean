theorem dR_0 {S : vs_S} {ρ : Nat → Nat} {T : Nat → Nat → Nat} {m : Nat} (h : dR S ρ T m) : ∃ (ρ : Nat → Nat) (T : Nat → Nat → Nat), dR S ρ T 0 := ⟨ρ, T, h.1, h.2.1, fun i hi => absurd hi (by omega)⟩
/-- the table with the pivot's row in its place, and the product's sign -/
def dt1 (T : Nat → Nat → Nat) (r col : Nat) : Nat → Nat → Nat := if r = col then T else swi T r col
def dts (P pr r col : Nat) : Nat := if r = col then pr else nn_m (-(pr : Int)) P
def dtk (P : Nat) : Nat → Nat → (Nat → Nat → Nat) → Nat → Nat
  | 0, _, _, pr => pr
  | d + 1, col, T, pr => if pvr T col (d + 1) col < 0 then 0 else dtk P d (col + 1) (clr P (dt1 T (pvr T col (d + 1) col).toNat col) col) (dts P pr (pvr T col (d + 1) col).toNat col * dt1 T (pvr T col (d + 1) col).toNat col col col % P)
theorem dt1_b {T : Nat → Nat → Nat} {r col sz P : Nat} (h : ∀ i j, i < sz → j < sz → T i j < P) (hr : r < sz) (hc : col < sz) : ∀ i j, i < sz → j < sz → dt1 T r col i j < P := fun i j hi hj => by
  unfold dt1
  by_cases e : r = col
  · rw [if_pos e]; exact h i j hi hj
  · rw [if_neg e]
    unfold swi
    by_cases e1 : i = col
    · rw [if_pos e1]; exact h r j hr hj
    · rw [if_neg e1]
      by_cases e2 : i = r
      · rw [if_pos e2]; exact h col j hc hj
      · rw [if_neg e2]; exact h i j hi hj
theorem clr_b {T : Nat → Nat → Nat} {col sz P : Nat} (h0 : 0 < P) (h : ∀ i j, i < sz → j < sz → T i j < P) : ∀ i j, i < sz → j < sz → clr P T col i j < P := fun i j hi hj => by
  unfold clr
  by_cases e : col < i ∧ col ≤ j
  · rw [if_pos e]; exact nn_m_lt h0
  · rw [if_neg e]; exact h i j hi hj
theorem dts_b {P pr r col : Nat} (h0 : 0 < P) (h : pr < P) : dts P pr r col < P := by
  unfold dts
  by_cases e : r = col
  · rw [if_pos e]; exact h
  · rw [if_neg e]; exact nn_m_lt h0
theorem l_det1 {G : vv_G} {S : vs_S} {ρ : Nat → Nat} {T : Nat → Nat → Nat} {sz : Nat} (hD : dR S ρ T sz) (hm : sz ≤ 40) {P : Nat} (hP : S.1 1 0 = nI P) (hP1 : 2 ≤ P) (hP2 : P ≤ 30011) (hb : ∀ i j, i < sz → j < sz → T i j < P) {col pr : Nat} (hcol : col < sz) (hpr : pr < P) {Pst : Option Value → vs_S → Prop} (K : ∀ S2 : vs_S, S2.1 = S.1 → dR S2 ρ (clr P T col) sz → frD S S2 → vs_V G cX0_compute (vs_MP yX0_compute 6 (some .int) { frames := 3, locals := 76 } G Pst) 5 [(4, .int (nI (col + 1))), (3, .int (nI (pr * T col col % P))), (0, .ref (G.2.2.2 + 28)), (1, .int (nI sz)), (2, .ref (G.2.2.2 + 1))] [] S2) : vs_V G cX0_compute (vs_MP yX0_compute 6 (some .int) { frames := 3, locals := 76 } G Pst) 55 [(4, .int (nI col)), (3, .int (nI pr)), (0, .ref (G.2.2.2 + 28)), (1, .int (nI sz)), (2, .ref (G.2.2.2 + 1))] [] S := by
  have b1 := hb col col hcol hcol
  refine vs_aload_n 2 dX0_compute_55 rfl rfl 4 rfl ?_
  refine vs_iload_n 3 dX0_compute_56 rfl rfl 1 rfl ?_
  refine vs_aload_n 0 dX0_compute_57 rfl rfl 2 rfl ?_
  refine vs_get (v := .ref (G.2.2.2 + 29)) lf_X0_11 rfl rfl dX0_compute_58 rfl ?_
  refine vs_iload dX0_compute_61 rfl 0 rfl ?_
  refine vs_aald (t := 2) (k := col) (a := ρ col) rfl rfl rfl (by first | rfl | (simp only [fa_lit, nI_add, pk_mul, nI_1]; done) | omega) (by omega) rfl (hD.1 col (by omega)).1 dX0_compute_63 rfl ?_
  refine vs_iload dX0_compute_64 rfl 0 rfl ?_
  refine vs_iald (k := col) (vs_Trow (hD.1 col (by omega)).2.1 (hD.1 col (by omega)).2.2) (by first | rfl | (simp only [fa_lit, nI_add, pk_mul, nI_1]; done) | omega) (by omega) rfl dX0_compute_66 rfl ?_
  refine vs_topi (fun z1 e_z1 => ?_)
  have f_z1 : z1 = nI (T col col) := (by rw [e_z1]; exact dR_get hD hcol hcol)
  subst f_z1
  clear e_z1
  refine vs_callV (st := []) (c_rproduct (x := pr) (y := T col col) hP hP1 (by omega) (by omega) (by omega)) lk_X0_41 lm_X5_product rfl rfl rfl rfl (Nat.le_of_ble_eq_true rfl) rfl ⟨rfl, rfl⟩ dX0_compute_67 rfl ?_
  show vs_V _ _ _ _ _ (.int (nI (pr * T col col % P)) :: _) _
  refine vs_istore_n 3 [(3, .int (nI (pr * T col col % P))), (4, .int (nI col)), (0, .ref (G.2.2.2 + 28)), (1, .int (nI sz)), (2, .ref (G.2.2.2 + 1))] dX0_compute_70 rfl rfl rfl rfl ?_
  refine vs_aload_n 0 dX0_compute_71 rfl rfl 2 rfl ?_
  refine vs_iload dX0_compute_72 rfl 1 rfl ?_
  refine vs_iload_n 1 dX0_compute_74 rfl rfl 3 rfl ?_
  refine vs_aload_n 2 dX0_compute_75 rfl rfl 4 rfl ?_
  refine vs_callVP (st := []) (c_clearBelow hm hP1 hP2 hb hcol hP hD) lk_X0_44 lm_X0_clearBelow rfl rfl rfl rfl (Nat.le_of_ble_eq_true rfl) rfl ⟨rfl, rfl⟩ dX0_compute_76 rfl (fun rr S1 hh => ?_)
  obtain ⟨rfl, F1, hD2⟩ := hh
  show vs_V _ _ _ _ _ [] _
  refine vs_iinc (v := nI (col + 1)) [(4, .int (nI (col + 1))), (3, .int (nI (pr * T col col % P))), (0, .ref (G.2.2.2 + 28)), (1, .int (nI sz)), (2, .ref (G.2.2.2 + 1))] dX0_compute_79 rfl 1 rfl (by first | exact nI_1 _ | (simp only [fa_lit, nI_add, pk_mul, nI_1]; rfl)) rfl rfl ?_
  refine vs_goto 5 dX0_compute_82 rfl ?_
  refine vs_pick [0, 1, 2, 3, 4] rfl ?_
  exact K _ F1.1 hD2 F1

theorem l_det2 {G : vv_G} {S : vs_S} {sz : Nat} (hm : sz ≤ 40) {P : Nat} (hP1 : 2 ≤ P) (hP2 : P ≤ 30011) {Pst : Option Value → vs_S → Prop} : ∀ (d col : Nat) (S : vs_S) (ρ : Nat → Nat) (T : Nat → Nat → Nat) (pr : Nat), col + d = sz → S.1 1 0 = nI P → dR S ρ T sz → (∀ i j, i < sz → j < sz → T i j < P) → pr < P → (∀ S2 : vs_S, frD S S2 → (∃ (ρ : Nat → Nat) (T : Nat → Nat → Nat), dR S2 ρ T 0) → Pst (some (.int (nI (dtk P d col T pr)))) S2) → vs_V G cX0_compute (vs_MP yX0_compute 6 (some .int) { frames := 3, locals := 76 } G Pst) 5 [(4, .int (nI col)), (3, .int (nI pr)), (0, .ref (G.2.2.2 + 28)), (1, .int (nI sz)), (2, .ref (G.2.2.2 + 1))] [] S := by
  intro d
  induction d with
  | zero =>
    intro col S ρ T pr hi hP hD hb hpr K
    obtain rfl : col = sz := by omega
    refine vs_iload dX0_compute_5 rfl 0 rfl ?_
    refine vs_iload_n 1 dX0_compute_7 rfl rfl 3 rfl ?_
    refine vs_icmp_ge 85 dX0_compute_8 rfl rfl (fun c_8 => ?_) (fun c_8 => ?_)
    · have q_8 : ((col : Nat) : Int) ≥ ((col : Nat) : Int) := (qi_ge (nI_Z _) (nI_Z _) (by omega) (by omega) (by omega) (by omega)).mp c_8
      refine vs_iload_n 3 dX0_compute_85 rfl rfl 1 rfl ?_
      exact vs_iretP dX0_compute_86 (K S frD.rf (dR_0 hD))
    · have q_8 : ¬ ((col : Nat) : Int) ≥ ((col : Nat) : Int) := fun hh => c_8 ((qi_ge (nI_Z _) (nI_Z _) (by omega) (by omega) (by omega) (by omega)).mpr hh)
      omega
  | succ d ih =>
    intro col S ρ T pr hi hP hD hb hpr K
    have hd : sz - col = d + 1 := by omega
    have hz := pvr_r (T := T) (col := col) (d + 1) col
    have hk : dtk P (d + 1) col T pr = if pvr T col (d + 1) col < 0 then 0 else dtk P d (col + 1) (clr P (dt1 T (pvr T col (d + 1) col).toNat col) col) (dts P pr (pvr T col (d + 1) col).toNat col * dt1 T (pvr T col (d + 1) col).toNat col col col % P) := rfl
    refine vs_iload dX0_compute_5 rfl 0 rfl ?_
    refine vs_iload_n 1 dX0_compute_7 rfl rfl 3 rfl ?_
    refine vs_icmp_ge 85 dX0_compute_8 rfl rfl (fun c_8 => ?_) (fun c_8 => ?_)
    · have q_8 : ((col : Nat) : Int) ≥ ((sz : Nat) : Int) := (qi_ge (nI_Z _) (nI_Z _) (by omega) (by omega) (by omega) (by omega)).mp c_8
      omega
    · have q_8 : ¬ ((col : Nat) : Int) ≥ ((sz : Nat) : Int) := fun hh => c_8 ((qi_ge (nI_Z _) (nI_Z _) (by omega) (by omega) (by omega) (by omega)).mpr hh)
      refine vs_iload dX0_compute_11 rfl 0 rfl ?_
      refine vs_bipush (v := 40) dX0_compute_13 rfl rfl ?_
      refine vs_icmp_ge 85 dX0_compute_15 rfl rfl (fun c_15 => ?_) (fun c_15 => ?_)
      · have q_15 : ((col : Nat) : Int) ≥ ((40 : Nat) : Int) := (qi_ge (nI_Z _) (by first | exact nI_Z _ | (simp only [fa_lit, nI_add, pk_mul, nI_1]; exact nI_Z _)) (by omega) (by omega) (by omega) (by omega)).mp c_15
        omega
      · have q_15 : ¬ ((col : Nat) : Int) ≥ ((40 : Nat) : Int) := fun hh => c_15 ((qi_ge (nI_Z _) (by first | exact nI_Z _ | (simp only [fa_lit, nI_add, pk_mul, nI_1]; exact nI_Z _)) (by omega) (by omega) (by omega) (by omega)).mpr hh)
        refine vs_aload_n 0 dX0_compute_18 rfl rfl 2 rfl ?_
        refine vs_iload dX0_compute_19 rfl 0 rfl ?_
        refine vs_iload_n 1 dX0_compute_21 rfl rfl 3 rfl ?_
        refine vs_callV (st := []) (c_pivotRow hD hm (fun i j hi hj => by have := hb i j hi hj; omega) (show col < sz by omega)) lk_X0_28 lm_X0_pivotRow rfl rfl rfl rfl (Nat.le_of_ble_eq_true rfl) rfl ⟨rfl, rfl⟩ dX0_compute_22 rfl ?_
        rw [hd]
        generalize pvr T col (d + 1) col = z at hz hk ⊢
        show vs_V _ _ _ _ _ (.int (nZ z) :: _) _
        refine vs_topi (fun zz e_zz => ?_)
        have e2_zz : zz = nZ z := e_zz
        clear e_zz
        subst e2_zz
        refine vs_istore [(5, .int (nZ z)), (4, .int (nI col)), (3, .int (nI pr)), (0, .ref (G.2.2.2 + 28)), (1, .int (nI sz)), (2, .ref (G.2.2.2 + 1))] dX0_compute_25 rfl rfl rfl ?_
        refine vs_iload dX0_compute_27 rfl 0 rfl ?_
        refine vs_if_ge 34 dX0_compute_29 rfl rfl (fun c_29 => ?_) (fun c_29 => ?_)
        · have q_29 : (z : Int) ≥ ((0 : Nat) : Int) := (qi_ge rfl (by first | exact nI_Z _ | (simp only [fa_lit, nI_add, pk_mul, nI_1]; exact nI_Z _)) (by omega) (by omega) (by omega) (by omega)).mp c_29
          obtain ⟨r, rfl⟩ : ∃ r : Nat, z = r := ⟨z.toNat, by omega⟩
          rw [nZ_n]
          rw [if_neg (by omega), show ((r : Nat) : Int).toNat = r by omega] at hk
          have hbb := dt1_b hb (show r < sz by omega) (show col < sz by omega)
          refine vs_iload dX0_compute_34 rfl 0 rfl ?_
          refine vs_iload dX0_compute_36 rfl 1 rfl ?_
          refine vs_icmp_eq 55 dX0_compute_38 rfl rfl (fun c_38 => ?_) (fun c_38 => ?_)
          · have q_38 : ((r : Nat) : Int) = ((col : Nat) : Int) := (qi_eq (nI_Z _) (nI_Z _) (by omega) (by omega) (by omega) (by omega)).mp c_38
            have e1 : dt1 T r col = T := if_pos (by omega)
            have e2 : dts P pr r col = pr := if_pos (by omega)
            rw [e1, e2] at hk
            rw [e1] at hbb
            refine vs_pick [1, 2, 3, 4, 5] rfl ?_
            refine l_det1 (S := S) hD hm hP hP1 hP2 hbb (show col < sz by omega) hpr (fun S2 h0 h1 h2 => ?_)
            exact ih (col + 1) S2 _ _ _ (by omega) (by rw [h0]; exact hP) h1 (clr_b (by omega) hbb) (Nat.mod_lt _ (by omega)) (fun S3 g1 g2 => by have := K S3 (h2.tr g1) g2; rw [hk] at this; exact this)
          · have q_38 : ¬ ((r : Nat) : Int) = ((col : Nat) : Int) := fun hh => c_38 ((qi_eq (nI_Z _) (nI_Z _) (by omega) (by omega) (by omega) (by omega)).mpr hh)
            have e1 : dt1 T r col = swi T r col := if_neg (by omega)
            have e2 : dts P pr r col = nn_m (-(pr : Int)) P := if_neg (by omega)
            rw [e1, e2] at hk
            rw [e1] at hbb
            refine vs_aload_n 0 dX0_compute_41 rfl rfl 3 rfl ?_
            refine vs_iload dX0_compute_42 rfl 0 rfl ?_
            refine vs_iload dX0_compute_44 rfl 1 rfl ?_
            refine vs_callVP (st := []) (c_swapRows hD hm (show r < sz by omega) (show col < sz by omega)) lk_X0_32 lm_X0_swapRows rfl rfl rfl rfl (Nat.le_of_ble_eq_true rfl) rfl ⟨rfl, rfl⟩ dX0_compute_46 rfl (fun rr S1 hh => ?_)
            obtain ⟨rfl, F1, hD2⟩ := hh
            have hP : S1.1 1 0 = nI P := by rw [F1.1]; exact hP
            show vs_V _ _ _ _ _ [] _
            refine vs_aload_n 2 dX0_compute_49 rfl rfl 5 rfl ?_
            refine vs_iload_n 3 dX0_compute_50 rfl rfl 2 rfl ?_
            refine vs_callV (st := []) (c_negative (x := pr) hP hP1 (by omega) (by omega)) lk_X0_36 lm_X5_negative rfl rfl rfl rfl (Nat.le_of_ble_eq_true rfl) rfl ⟨rfl, rfl⟩ dX0_compute_51 rfl ?_
            show vs_V _ _ _ _ _ (.int (nI (nn_m (-(pr : Int)) P)) :: _) _
            refine vs_istore_n 3 [(3, .int (nI (nn_m (-(pr : Int)) P))), (5, .int (nI r)), (4, .int (nI col)), (0, .ref (G.2.2.2 + 28)), (1, .int (nI sz)), (2, .ref (G.2.2.2 + 1))] dX0_compute_54 rfl rfl rfl rfl ?_
            refine vs_pick [2, 0, 3, 4, 5] rfl ?_
            refine l_det1 (S := S1) hD2 hm hP hP1 hP2 hbb (show col < sz by omega) (nn_m_lt (by omega)) (fun S2 h0 h1 h2 => ?_)
            exact ih (col + 1) S2 _ _ _ (by omega) (by rw [h0]; exact hP) h1 (clr_b (by omega) hbb) (Nat.mod_lt _ (by omega)) (fun S3 g1 g2 => by have := K S3 (F1.tr (h2.tr g1)) g2; rw [hk] at this; exact this)
        · have q_29 : ¬ (z : Int) ≥ ((0 : Nat) : Int) := fun hh => c_29 ((qi_ge rfl (by first | exact nI_Z _ | (simp only [fa_lit, nI_add, pk_mul, nI_1]; exact nI_Z _)) (by omega) (by omega) (by omega) (by omega)).mpr hh)
          rw [if_pos (by omega)] at hk
          refine vs_iconst (v := 0) dX0_compute_32 rfl rfl ?_
          exact vs_iretP dX0_compute_33 (by have := K S frD.rf (dR_0 hD); rw [hk] at this; exact this)

theorem c_compute {G : vv_G} {S : vs_S} {ρ : Nat → Nat} {T : Nat → Nat → Nat} {sz : Nat} (hD : dR S ρ T sz) (hm : sz ≤ 40) {P : Nat} (hP : S.1 1 0 = nI P) (hP1 : 2 ≤ P) (hP2 : P ≤ 30011) (hb : ∀ i j, i < sz → j < sz → T i j < P) : vs_CP G yX0_compute cX0_compute 6 (some .int) { frames := 3, locals := 76 } [.ref (G.2.2.2 + 28), .int (nI sz), .ref (G.2.2.2 + 1)] S (fun r S2 => r = some (.int (nI (dtk P sz 0 T 1))) ∧ frD S S2 ∧ ∃ (ρ : Nat → Nat) (T : Nat → Nat → Nat), dR S2 ρ T 0) := by
  refine vs_ofP [(0, .ref (G.2.2.2 + 28)), (1, .int (nI sz)), (2, .ref (G.2.2.2 + 1))] (by decide) rfl rfl ?_
  refine vs_iconst (v := 1) dX0_compute_0 rfl rfl ?_
  refine vs_istore_n 3 [(3, .int (1)), (0, .ref (G.2.2.2 + 28)), (1, .int (nI sz)), (2, .ref (G.2.2.2 + 1))] dX0_compute_1 rfl rfl rfl rfl ?_
  refine vs_iconst (v := 0) dX0_compute_2 rfl rfl ?_
  refine vs_istore [(4, .int (0)), (3, .int (1)), (0, .ref (G.2.2.2 + 28)), (1, .int (nI sz)), (2, .ref (G.2.2.2 + 1))] dX0_compute_3 rfl rfl rfl ?_
  refine vs_pick (L2 := [(4, .int (nI 0)), (3, .int (nI 1)), (0, .ref (G.2.2.2 + 28)), (1, .int (nI sz)), (2, .ref (G.2.2.2 + 1))]) [0, 1, 2, 3, 4] rfl ?_
  exact l_det2 (S := S) hm hP1 hP2 sz 0 S ρ T 1 (by omega) hP hD hb (by omega) (fun S2 h1 h2 => ⟨rfl, h1, h2⟩)

/-- the sum that a rule of a recurrence makes of the numbers before k -/
def fsm (cur c : Nat → Nat) (k : Nat) : Nat → Nat
  | 0 => 0
  | j + 1 => fsm cur c k j + cur j * pz c ((k : Int) - j)
theorem fsm_b {cur c : Nat → Nat} {k P : Nat} (h0 : 0 < P) (h1 : ∀ k, cur k < P) (h2 : ∀ k, c k < P) : ∀ n, fsm cur c k n ≤ n * (P * P)
  | 0 => Nat.zero_le _
  | n + 1 => by
    have := fsm_b (k := k) h0 h1 h2 n
    have h3 := Nat.mul_le_mul (Nat.le_of_lt (h1 n)) (Nat.le_of_lt (pz_lt (z := (k : Int) - n) h0 h2))
    show fsm cur c k n + cur n * pz c ((k : Int) - n) ≤ (n + 1) * (P * P)
    rw [Nat.add_mul, Nat.one_mul]
    omega
theorem fsm_63 {cur c : Nat → Nat} {k P n : Nat} (h0 : 0 < P) (hP : P ≤ 30011) (h1 : ∀ k, cur k < P) (h2 : ∀ k, c k < P) (hn : n ≤ 100) : fsm cur c k n < 2 ^ 62 := by
  have h := fsm_b (k := k) h0 h1 h2 n
  have h3 := Nat.mul_le_mul hP hP
  have h4 := Nat.mul_le_mul hn h3
  omega
theorem l_fault {G : vv_G} {S : vs_S} {o : Nat} {cur : Nat → Nat} (hp : vs_P o) (hg : pR S o cur) {asked : Nat} (hse : vs_Se asked) {c : Nat → Nat} (hc : pR S (asked + 1) c) {P : Nat} (hP : S.1 1 0 = nI P) (hP1 : 2 ≤ P) (hP2 : P ≤ 30011) (hb1 : ∀ k, cur k < P) (hb2 : ∀ k, c k < P) {k len : Nat} (hk : k ≤ 41) (hlen : len ≤ 42) {r : Option Value} {Sf : vs_S} (hr : r = some (.int (nI (fsm cur c k (len + 1) % P)))) (hS : S = Sf) : ∀ d j : Nat, j + d = len + 1 → vs_V G cX4_faultAt (vs_M yX4_faultAt 9 (some .int) { frames := 1, locals := 24 } G r Sf) 6 [(8, .int (nI j)), (6, .long (lN (fsm cur c k j))), (0, .ref (G.2.2.2 + 70)), (1, .int (nI k)), (2, .int (nI len)), (3, .ref (G.2.2.2 + o)), (4, .ref (G.2.2.2 + asked)), (5, .ref (G.2.2.2 + 1))] [] S := by
  intro d
  induction d with
  | zero =>
    intro j hj
    obtain rfl : j = len + 1 := by omega
    have hb := fsm_63 (n := len + 1) (k := k) (show 0 < P by omega) hP2 hb1 hb2 (by omega)
    refine vs_iload dX4_faultAt_6 rfl 0 rfl ?_
    refine vs_iload_n 2 dX4_faultAt_8 rfl rfl 4 rfl ?_
    refine vs_icmp_gt 44 dX4_faultAt_9 rfl rfl (fun c_9 => ?_) (fun c_9 => ?_)
    · have q_9 : (((len + 1) : Nat) : Int) > ((len : Nat) : Int) := (qi_gt (nI_Z _) (nI_Z _) (by omega) (by omega) (by omega) (by omega)).mp c_9
      refine vs_aload dX4_faultAt_44 rfl 7 rfl ?_
      refine vs_lload dX4_faultAt_46 rfl 1 rfl ?_
      refine vs_callV (st := []) (c_ofN (k := fsm cur c k (len + 1)) (pk_lT (by omega)) hP hP1 hP2) lk_X4_63 lm_X5_of rfl rfl rfl rfl (Nat.le_of_ble_eq_true rfl) rfl ⟨rfl, rfl⟩ dX4_faultAt_48 rfl ?_
      show vs_V _ _ _ _ _ (.int (nI (fsm cur c k (len + 1) % P)) :: _) _
      exact vs_iret dX4_faultAt_51 hr hS
    · have q_9 : ¬ (((len + 1) : Nat) : Int) > ((len : Nat) : Int) := fun hh => c_9 ((qi_gt (nI_Z _) (nI_Z _) (by omega) (by omega) (by omega) (by omega)).mpr hh)
      omega
  | succ d ih =>
    intro j hj
    have b1 := hb1 j
    have b2 := pz_lt (z := (k : Int) - j) (show 0 < P by omega) hb2
    refine vs_iload dX4_faultAt_6 rfl 0 rfl ?_
    refine vs_iload_n 2 dX4_faultAt_8 rfl rfl 4 rfl ?_
    refine vs_icmp_gt 44 dX4_faultAt_9 rfl rfl (fun c_9 => ?_) (fun c_9 => ?_)
    · have q_9 : ((j : Nat) : Int) > ((len : Nat) : Int) := (qi_gt (nI_Z _) (nI_Z _) (by omega) (by omega) (by omega) (by omega)).mp c_9
      omega
    · have q_9 : ¬ ((j : Nat) : Int) > ((len : Nat) : Int) := fun hh => c_9 ((qi_gt (nI_Z _) (nI_Z _) (by omega) (by omega) (by omega) (by omega)).mpr hh)
      refine vs_lload dX4_faultAt_12 rfl 1 rfl ?_
      refine vs_aload_n 3 dX4_faultAt_14 rfl rfl 5 rfl ?_
      refine vs_iload dX4_faultAt_15 rfl 0 rfl ?_
      refine vs_callV (st := [.long (lN (fsm cur c k j))]) (c_atN hp hg (k := j) (by omega)) lk_X4_57 lm_X3_at rfl hp.1 rfl rfl (Nat.le_of_ble_eq_true rfl) rfl ⟨rfl, rfl⟩ dX4_faultAt_17 rfl ?_
      show vs_V _ _ _ _ _ (.int (nI (cur j)) :: _) _
      refine vs_i2l dX4_faultAt_20 rfl ?_
      refine vs_aload dX4_faultAt_21 rfl 6 rfl ?_
      refine vs_get (v := .ref (G.2.2.2 + (asked + 1))) lf_X4_60 hse.1 rfl dX4_faultAt_23 rfl ?_
      refine vs_iload_n 1 dX4_faultAt_26 rfl rfl 3 rfl ?_
      refine vs_iload dX4_faultAt_27 rfl 0 rfl ?_
      refine vs_isub dX4_faultAt_29 rfl ?_
      refine vs_topi (fun z1 e_z1 => ?_)
      have f_z1 : z1 = nZ ((k : Int) - j) := (by rw [e_z1]; simp only [nI_Z, nZ_sub])
      subst f_z1
      clear e_z1
      refine vs_callV (st := [.long ((nI (cur j)).toInt64), .long (lN (fsm cur c k j))]) (c_at hse.2 hc (k := nZ ((k : Int) - j))) lk_X4_57 lm_X3_at rfl hse.2.1 rfl rfl (Nat.le_of_ble_eq_true rfl) rfl ⟨rfl, rfl⟩ dX4_faultAt_30 rfl ?_
      rw [nZ_i (by omega) (by omega)]
      show vs_V _ _ _ _ _ (.int (nI (pz c ((k : Int) - j))) :: _) _
      refine vs_i2l dX4_faultAt_33 rfl ?_
      refine vs_lmul dX4_faultAt_34 rfl ?_
      refine vs_ladd dX4_faultAt_35 rfl ?_
      refine vs_topl (fun z2 e_z2 => ?_)
      have f_z2 : z2 = lN (fsm cur c k (j + 1)) := (by rw [e_z2, nn_mul (by omega) (by omega), lN_add]; rfl)
      subst f_z2
      clear e_z2
      refine vs_topl (fun ww e_ww => ?_)
      have e2_ww : ww = lN (fsm cur c k (j + 1)) := e_ww
      clear e_ww
      subst e2_ww
      refine vs_lstore [(6, .long (lN (fsm cur c k (j + 1)))), (8, .int (nI j)), (0, .ref (G.2.2.2 + 70)), (1, .int (nI k)), (2, .int (nI len)), (3, .ref (G.2.2.2 + o)), (4, .ref (G.2.2.2 + asked)), (5, .ref (G.2.2.2 + 1))] dX4_faultAt_36 rfl rfl rfl ?_
      refine vs_iinc (v := nI (j + 1)) [(8, .int (nI (j + 1))), (6, .long (lN (fsm cur c k (j + 1)))), (0, .ref (G.2.2.2 + 70)), (1, .int (nI k)), (2, .int (nI len)), (3, .ref (G.2.2.2 + o)), (4, .ref (G.2.2.2 + asked)), (5, .ref (G.2.2.2 + 1))] dX4_faultAt_38 rfl 1 rfl (by first | exact nI_1 _ | (simp only [fa_lit, nI_add, pk_mul, nI_1]; rfl)) rfl rfl ?_
      refine vs_goto 6 dX4_faultAt_41 rfl ?_
      refine vs_pick [0, 1, 2, 3, 4, 5, 6, 7] rfl ?_
      exact ih (j + 1) (by omega)

theorem c_faultAt {G : vv_G} {S : vs_S} {o : Nat} {cur : Nat → Nat} (hp : vs_P o) (hg : pR S o cur) {asked : Nat} (hse : vs_Se asked) {c : Nat → Nat} (hc : pR S (asked + 1) c) {P : Nat} (hP : S.1 1 0 = nI P) (hP1 : 2 ≤ P) (hP2 : P ≤ 30011) (hb1 : ∀ k, cur k < P) (hb2 : ∀ k, c k < P) {k len : Nat} (hk : k ≤ 41) (hlen : len ≤ 42) : vs_C G yX4_faultAt cX4_faultAt 9 (some .int) { frames := 1, locals := 24 } [.ref (G.2.2.2 + 70), .int (nI k), .int (nI len), .ref (G.2.2.2 + o), .ref (G.2.2.2 + asked), .ref (G.2.2.2 + 1)] S (some (.int (nI (fsm cur c k (len + 1) % P)))) S := by
  refine vs_of [(0, .ref (G.2.2.2 + 70)), (1, .int (nI k)), (2, .int (nI len)), (3, .ref (G.2.2.2 + o)), (4, .ref (G.2.2.2 + asked)), (5, .ref (G.2.2.2 + 1))] (by decide) rfl rfl ?_
  refine vs_lconst (v := 0) dX4_faultAt_0 rfl rfl ?_
  refine vs_lstore [(6, .long (0)), (0, .ref (G.2.2.2 + 70)), (1, .int (nI k)), (2, .int (nI len)), (3, .ref (G.2.2.2 + o)), (4, .ref (G.2.2.2 + asked)), (5, .ref (G.2.2.2 + 1))] dX4_faultAt_1 rfl rfl rfl ?_
  refine vs_iconst (v := 0) dX4_faultAt_3 rfl rfl ?_
  refine vs_istore [(8, .int (0)), (6, .long (0)), (0, .ref (G.2.2.2 + 70)), (1, .int (nI k)), (2, .int (nI len)), (3, .ref (G.2.2.2 + o)), (4, .ref (G.2.2.2 + asked)), (5, .ref (G.2.2.2 + 1))] dX4_faultAt_4 rfl rfl rfl ?_
  refine vs_pick (L2 := [(8, .int (nI 0)), (6, .long (lN 0)), (0, .ref (G.2.2.2 + 70)), (1, .int (nI k)), (2, .int (nI len)), (3, .ref (G.2.2.2 + o)), (4, .ref (G.2.2.2 + asked)), (5, .ref (G.2.2.2 + 1))]) [0, 1, 2, 3, 4, 5, 6, 7] rfl ?_
  exact l_fault hp hg hse hc hP hP1 hP2 hb1 hb2 hk hlen rfl rfl (len + 1) 0 (by omega)

/-- Berlekamp's and Massey's step at number k: length, gap, the earlier fault, the rule, the earlier rule -/
abbrev bmT : Type := Nat × Nat × Nat × (Nat → Nat) × (Nat → Nat)
def bm1 (P : Nat) (c : Nat → Nat) (k : Nat) (x : bmT) : bmT := if fsm x.2.2.2.1 c k (x.1 + 1) % P = 0 then (x.1, x.2.1 + 1, x.2.2.1, x.2.2.2.1, x.2.2.2.2) else if 2 * x.1 ≤ k then (k + 1 - x.1, 1, fsm x.2.2.2.1 c k (x.1 + 1) % P, amk x.2.2.2.1 x.2.2.2.2 (nn_m (-((fsm x.2.2.2.1 c k (x.1 + 1) % P * ipw x.2.2.1 P % P : Nat) : Int)) P) x.2.1 P 42, x.2.2.2.1) else (x.1, x.2.1 + 1, x.2.2.1, amk x.2.2.2.1 x.2.2.2.2 (nn_m (-((fsm x.2.2.2.1 c k (x.1 + 1) % P * ipw x.2.2.1 P % P : Nat) : Int)) P) x.2.1 P 42, x.2.2.2.2)
def bmi (P : Nat) (c : Nat → Nat) (n : Nat) : bmT := ff (bm1 P c) n (0, 1, 1, pcon 1, pcon 1)
def bmG (P k : Nat) (x : bmT) : Prop := x.1 ≤ k ∧ x.2.1 ≤ k + 1 ∧ x.2.2.1 < P ∧ (∀ i, x.2.2.2.1 i < P) ∧ (∀ i, x.2.2.2.2 i < P) ∧ (∀ i, 42 ≤ i → x.2.2.2.1 i = 0) ∧ ∀ i, 42 ≤ i → x.2.2.2.2 i = 0
theorem bm1_g {P : Nat} {c : Nat → Nat} {k : Nat} {x : bmT} (h0 : 0 < P) (h : bmG P k x) : bmG P (k + 1) (bm1 P c k x) := by
  obtain ⟨h1, h2, h3, h4, h5, h6, h7⟩ := h
  unfold bm1
  by_cases e : fsm x.2.2.2.1 c k (x.1 + 1) % P = 0
  · rw [if_pos e]; exact ⟨by show x.1 ≤ _; omega, by show x.2.1 + 1 ≤ _; omega, h3, h4, h5, h6, h7⟩
  · rw [if_neg e]
    by_cases e2 : 2 * x.1 ≤ k
    · rw [if_pos e2]; exact ⟨by show k + 1 - x.1 ≤ _; omega, by show 1 ≤ _; omega, Nat.mod_lt _ h0, amk_b h0 h4, h4, amk_z h6 (Nat.le_refl _), h6⟩
    · rw [if_neg e2]; exact ⟨by show x.1 ≤ _; omega, by show x.2.1 + 1 ≤ _; omega, h3, amk_b h0 h4, h5, amk_z h6 (Nat.le_refl _), h7⟩
theorem bmi_g {P : Nat} {c : Nat → Nat} (h0 : 2 ≤ P) : ∀ n, bmG P n (bmi P c n)
  | 0 => ⟨Nat.le_refl _, Nat.le_refl _, by show 1 < P; omega, pcon_b (by omega), pcon_b (by omega), pcon_z 1, pcon_z 1⟩
  | n + 1 => bm1_g (by omega) (bmi_g h0 n)
theorem l_least {G : vv_G} {S : vs_S} {asked : Nat} (hse : vs_Se asked) (hns : 77 ≤ asked) {c : Nat → Nat} {P : Nat} (hP1 : 2 ≤ P) (hP2 : P ≤ 30011) (hb2 : ∀ k, c k < P) {la : Nat} (hla2 : la ≤ 40) {Pst : Option Value → vs_S → Prop} {S0 : vs_S} (K : ∀ S2 : vs_S, vs_fr S0 S2 [72, 74, 76] → jk S2 71 → jk S2 73 → jk S2 75 → Pst (some (.int (nI (bmi P c (la + 1)).1))) S2) : ∀ (d k e f : Nat) (S : vs_S), k + d = la + 1 → ((e = 73 ∧ f = 75) ∨ (e = 75 ∧ f = 73)) → S.1 1 0 = nI P → S.1 asked 1 = nI la → pR S 71 (bmi P c k).2.2.2.1 → pR S e (bmi P c k).2.2.2.2 → jk S f → pR S (asked + 1) c → vs_fr S0 S [72, 74, 76] → vs_V G cX4_least (vs_MP yX4_least 13 (some .int) { frames := 2, locals := 61 } G Pst) 40 [(9, .int (nI k)), (8, .int (nI (bmi P c k).2.2.1)), (7, .int (nI (bmi P c k).2.1)), (6, .int (nI (bmi P c k).1)), (5, .ref (G.2.2.2 + f)), (4, .ref (G.2.2.2 + e)), (3, .ref (G.2.2.2 + 71)), (0, .ref (G.2.2.2 + 70)), (1, .ref (G.2.2.2 + asked)), (2, .ref (G.2.2.2 + 1))] [] S := by
  intro d
  induction d with
  | zero =>
    intro k e f S hk hpar hP hla hcu hea hsp hc F
    obtain rfl : k = la + 1 := by omega
    refine vs_iload dX4_least_40 rfl 0 rfl ?_
    refine vs_aload_n 1 dX4_least_42 rfl rfl 8 rfl ?_
    refine vs_get (v := .int (nI la)) lf_X4_26 hse.1 (congrArg (fun z => some (Value.int z)) hla) dX4_least_43 rfl ?_
    refine vs_icmp_gt 148 dX4_least_46 rfl rfl (fun c_46 => ?_) (fun c_46 => ?_)
    · have q_46 : (((la + 1) : Nat) : Int) > ((la : Nat) : Int) := (qi_gt (nI_Z _) (nI_Z _) (by omega) (by omega) (by omega) (by omega)).mp c_46
      refine vs_iload dX4_least_148 rfl 3 rfl ?_
      exact vs_iretP dX4_least_150 (K S F ⟨_, hcu⟩ (by rcases hpar with ⟨rfl, rfl⟩ | ⟨rfl, rfl⟩ <;> first | exact ⟨_, hea⟩ | exact hsp) (by rcases hpar with ⟨rfl, rfl⟩ | ⟨rfl, rfl⟩ <;> first | exact ⟨_, hea⟩ | exact hsp))
    · have q_46 : ¬ (((la + 1) : Nat) : Int) > ((la : Nat) : Int) := fun hh => c_46 ((qi_gt (nI_Z _) (nI_Z _) (by omega) (by omega) (by omega) (by omega)).mpr hh)
      omega
  | succ d ih =>
    intro k e f S hk hpar hP hla hcu hea hsp hc F
    obtain ⟨he, hf⟩ : vs_P e ∧ vs_P f := by rcases hpar with ⟨rfl, rfl⟩ | ⟨rfl, rfl⟩ <;> exact ⟨⟨rfl, rfl⟩, ⟨rfl, rfl⟩⟩
    have hp71 : vs_P 71 := ⟨rfl, rfl⟩
    obtain ⟨g1, g2, g3, g4, g5, g6, g7⟩ := bmi_g (P := P) (c := c) hP1 k
    have hx : bmi P c (k + 1) = bm1 P c k (bmi P c k) := rfl
    generalize bmi P c k = x at *
    obtain ⟨gs, hsp⟩ := hsp
    have hfl := Nat.mod_lt (fsm x.2.2.2.1 c k (x.1 + 1)) (show P > 0 by omega)
    have hiv := ipw_lt (a := x.2.2.1) hP1
    have hfa := Nat.mod_lt (fsm x.2.2.2.1 c k (x.1 + 1) % P * ipw x.2.2.1 P) (show P > 0 by omega)
    unfold bm1 at hx
    refine vs_iload dX4_least_40 rfl 0 rfl ?_
    refine vs_aload_n 1 dX4_least_42 rfl rfl 8 rfl ?_
    refine vs_get (v := .int (nI la)) lf_X4_26 hse.1 (congrArg (fun z => some (Value.int z)) hla) dX4_least_43 rfl ?_
    refine vs_icmp_gt 148 dX4_least_46 rfl rfl (fun c_46 => ?_) (fun c_46 => ?_)
    · have q_46 : ((k : Nat) : Int) > ((la : Nat) : Int) := (qi_gt (nI_Z _) (nI_Z _) (by omega) (by omega) (by omega) (by omega)).mp c_46
      omega
    · have q_46 : ¬ ((k : Nat) : Int) > ((la : Nat) : Int) := fun hh => c_46 ((qi_gt (nI_Z _) (nI_Z _) (by omega) (by omega) (by omega) (by omega)).mpr hh)
      refine vs_aload_n 0 dX4_least_49 rfl rfl 7 rfl ?_
      refine vs_iload dX4_least_50 rfl 0 rfl ?_
      refine vs_iload dX4_least_52 rfl 3 rfl ?_
      refine vs_aload_n 3 dX4_least_54 rfl rfl 6 rfl ?_
      refine vs_aload_n 1 dX4_least_55 rfl rfl 8 rfl ?_
      refine vs_aload_n 2 dX4_least_56 rfl rfl 9 rfl ?_
      refine vs_callV (st := []) (c_faultAt hp71 hcu hse hc hP hP1 hP2 g4 hb2 (show k ≤ 41 by omega) (show x.1 ≤ 42 by omega)) lk_X4_32 lm_X4_faultAt rfl rfl rfl rfl (Nat.le_of_ble_eq_true rfl) rfl ⟨rfl, rfl⟩ dX4_least_57 rfl ?_
      show vs_V _ _ _ _ _ (.int (nI (fsm x.2.2.2.1 c k (x.1 + 1) % P)) :: _) _
      refine vs_istore [(10, .int (nI (fsm x.2.2.2.1 c k (x.1 + 1) % P))), (9, .int (nI k)), (8, .int (nI x.2.2.1)), (7, .int (nI x.2.1)), (6, .int (nI x.1)), (5, .ref (G.2.2.2 + f)), (4, .ref (G.2.2.2 + e)), (3, .ref (G.2.2.2 + 71)), (0, .ref (G.2.2.2 + 70)), (1, .ref (G.2.2.2 + asked)), (2, .ref (G.2.2.2 + 1))] dX4_least_60 rfl rfl rfl ?_
      refine vs_iload dX4_least_62 rfl 0 rfl ?_
      refine vs_if_eq 139 dX4_least_64 rfl rfl (fun c_64 => ?_) (fun c_64 => ?_)
      · have q_64 : (((fsm x.2.2.2.1 c k (x.1 + 1) % P) : Nat) : Int) = ((0 : Nat) : Int) := (qi_eq (nI_Z _) (by first | exact nI_Z _ | (simp only [fa_lit, nI_add, pk_mul, nI_1]; exact nI_Z _)) (by omega) (by omega) (by omega) (by omega)).mp c_64
        rw [if_pos (by omega)] at hx
        refine vs_iinc (v := nI (x.2.1 + 1)) [(7, .int (nI (x.2.1 + 1))), (10, .int (nI (fsm x.2.2.2.1 c k (x.1 + 1) % P))), (9, .int (nI k)), (8, .int (nI x.2.2.1)), (6, .int (nI x.1)), (5, .ref (G.2.2.2 + f)), (4, .ref (G.2.2.2 + e)), (3, .ref (G.2.2.2 + 71)), (0, .ref (G.2.2.2 + 70)), (1, .ref (G.2.2.2 + asked)), (2, .ref (G.2.2.2 + 1))] dX4_least_139 rfl 3 rfl (by first | exact nI_1 _ | (simp only [fa_lit, nI_add, pk_mul, nI_1]; rfl)) rfl rfl ?_
        refine vs_iinc (v := nI (k + 1)) [(9, .int (nI (k + 1))), (7, .int (nI (x.2.1 + 1))), (10, .int (nI (fsm x.2.2.2.1 c k (x.1 + 1) % P))), (8, .int (nI x.2.2.1)), (6, .int (nI x.1)), (5, .ref (G.2.2.2 + f)), (4, .ref (G.2.2.2 + e)), (3, .ref (G.2.2.2 + 71)), (0, .ref (G.2.2.2 + 70)), (1, .ref (G.2.2.2 + asked)), (2, .ref (G.2.2.2 + 1))] dX4_least_142 rfl 2 rfl (by first | exact nI_1 _ | (simp only [fa_lit, nI_add, pk_mul, nI_1]; rfl)) rfl rfl ?_
        refine vs_goto 40 dX4_least_145 rfl ?_
        refine vs_pick (L2 := [(9, .int (nI (k + 1))), (8, .int (nI x.2.2.1)), (7, .int (nI (x.2.1 + 1))), (6, .int (nI x.1)), (5, .ref (G.2.2.2 + f)), (4, .ref (G.2.2.2 + e)), (3, .ref (G.2.2.2 + 71)), (0, .ref (G.2.2.2 + 70)), (1, .ref (G.2.2.2 + asked)), (2, .ref (G.2.2.2 + 1))]) [0, 3, 1, 4, 5, 6, 7, 8, 9, 10] rfl ?_
        have := ih (k + 1) e f S (by omega) (by omega)
        rw [hx] at this
        exact this hP hla hcu hea ⟨_, hsp⟩ hc F
      · have q_64 : ¬ (((fsm x.2.2.2.1 c k (x.1 + 1) % P) : Nat) : Int) = ((0 : Nat) : Int) := fun hh => c_64 ((qi_eq (nI_Z _) (by first | exact nI_Z _ | (simp only [fa_lit, nI_add, pk_mul, nI_1]; exact nI_Z _)) (by omega) (by omega) (by omega) (by omega)).mpr hh)
        rw [if_neg (by omega)] at hx
        refine vs_aload_n 2 dX4_least_67 rfl rfl 10 rfl ?_
        refine vs_iload dX4_least_68 rfl 0 rfl ?_
        refine vs_aload_n 2 dX4_least_70 rfl rfl 10 rfl ?_
        refine vs_iload dX4_least_71 rfl 2 rfl ?_
        refine vs_callV (st := [.int (nI (fsm x.2.2.2.1 c k (x.1 + 1) % P)), .ref (G.2.2.2 + 1)]) (c_rinverse (a := x.2.2.1) hP hP1 hP2 g3) lk_X4_36 lm_X5_inverse rfl rfl rfl rfl (Nat.le_of_ble_eq_true rfl) rfl ⟨rfl, rfl⟩ dX4_least_73 rfl ?_
        show vs_V _ _ _ _ _ (.int (nI (ipw x.2.2.1 P)) :: _) _
        refine vs_callV (st := []) (c_rproduct (x := (fsm x.2.2.2.1 c k (x.1 + 1) % P)) (y := ipw x.2.2.1 P) hP hP1 (by omega) (by omega) (by omega)) lk_X4_42 lm_X5_product rfl rfl rfl rfl (Nat.le_of_ble_eq_true rfl) rfl ⟨rfl, rfl⟩ dX4_least_76 rfl ?_
        show vs_V _ _ _ _ _ (.int (nI (fsm x.2.2.2.1 c k (x.1 + 1) % P * ipw x.2.2.1 P % P)) :: _) _
        refine vs_istore [(11, .int (nI (fsm x.2.2.2.1 c k (x.1 + 1) % P * ipw x.2.2.1 P % P))), (10, .int (nI (fsm x.2.2.2.1 c k (x.1 + 1) % P))), (9, .int (nI k)), (8, .int (nI x.2.2.1)), (7, .int (nI x.2.1)), (6, .int (nI x.1)), (5, .ref (G.2.2.2 + f)), (4, .ref (G.2.2.2 + e)), (3, .ref (G.2.2.2 + 71)), (0, .ref (G.2.2.2 + 70)), (1, .ref (G.2.2.2 + asked)), (2, .ref (G.2.2.2 + 1))] dX4_least_79 rfl rfl rfl ?_
        refine vs_aload dX4_least_81 rfl 6 rfl ?_
        refine vs_aload_n 3 dX4_least_83 rfl rfl 8 rfl ?_
        refine vs_callV (st := []) (c_become hf hsp hp71 hcu) lk_X4_46 lm_X3_become rfl hf.1 rfl rfl (Nat.le_of_ble_eq_true rfl) rfl ⟨rfl, rfl⟩ dX4_least_84 rfl ?_
        refine vs_gen (fun T1 e_T1 => ?_)
        have hP : T1.1 1 0 = nI P := by rw [e_T1]; repeat (first | exact hP | rw [vs_ia_ne (by omega)] | rw [vs_sc_ne (by omega)])
        have hla : T1.1 asked 1 = nI la := by rw [e_T1]; repeat (first | exact hla | rw [vs_ia_ne (by omega)] | rw [vs_sc_ne (by omega)])
        have hcu : pR T1 71 x.2.2.2.1 := ⟨by rw [e_T1]; repeat (first | exact hcu.1 | rw [vs_ia_ne (by omega)]), hcu.2⟩
        have hea : pR T1 e x.2.2.2.2 := ⟨by rw [e_T1]; repeat (first | exact hea.1 | rw [vs_ia_ne (by omega)]), hea.2⟩
        have hc : pR T1 (asked + 1) c := ⟨by rw [e_T1]; repeat (first | exact hc.1 | rw [vs_ia_ne (by omega)]), hc.2⟩
        have F : vs_fr S0 T1 [72, 74, 76] := by rw [e_T1]; repeat (first | exact F | refine vs_fr.ia ?_ (by simp <;> omega))
        have hsp : pR T1 f x.2.2.2.1 := ⟨by rw [e_T1]; repeat (first | exact vs_ia_at | rw [vs_ia_ne (by omega)]), g6⟩
        clear e_T1
        refine vs_aload_n 3 dX4_least_87 rfl rfl 8 rfl ?_
        refine vs_aload dX4_least_88 rfl 7 rfl ?_
        refine vs_aload_n 2 dX4_least_90 rfl rfl 11 rfl ?_
        refine vs_iload dX4_least_91 rfl 0 rfl ?_
        refine vs_callV (st := [.ref (G.2.2.2 + e), .ref (G.2.2.2 + 71)]) (c_negative (x := (fsm x.2.2.2.1 c k (x.1 + 1) % P * ipw x.2.2.1 P % P)) hP hP1 (by omega) (by omega)) lk_X4_50 lm_X5_negative rfl rfl rfl rfl (Nat.le_of_ble_eq_true rfl) rfl ⟨rfl, rfl⟩ dX4_least_93 rfl ?_
        show vs_V _ _ _ _ _ (.int (nI (nn_m (-((fsm x.2.2.2.1 c k (x.1 + 1) % P * ipw x.2.2.1 P % P) : Int)) P)) :: _) _
        refine vs_iload dX4_least_96 rfl 4 rfl ?_
        refine vs_aload_n 2 dX4_least_98 rfl rfl 11 rfl ?_
        refine vs_callV (st := []) (c_addMultiple hp71 hcu he hea (by omega) (x := nn_m (-(((fsm x.2.2.2.1 c k (x.1 + 1) % P * ipw x.2.2.1 P % P) : Nat) : Int)) P) (sh := x.2.1) hP hP1 hP2 g4 g5 (nn_m_lt (by omega)) (by omega)) lk_X4_53 lm_X3_addMultiple rfl rfl rfl rfl (Nat.le_of_ble_eq_true rfl) rfl ⟨rfl, rfl⟩ dX4_least_99 rfl ?_
        refine vs_gen (fun T2 e_T2 => ?_)
        have hP : T2.1 1 0 = nI P := by rw [e_T2]; repeat (first | exact hP | rw [vs_ia_ne (by omega)] | rw [vs_sc_ne (by omega)])
        have hla : T2.1 asked 1 = nI la := by rw [e_T2]; repeat (first | exact hla | rw [vs_ia_ne (by omega)] | rw [vs_sc_ne (by omega)])
        have hea : pR T2 e x.2.2.2.2 := ⟨by rw [e_T2]; repeat (first | exact hea.1 | rw [vs_ia_ne (by omega)]), hea.2⟩
        have hc : pR T2 (asked + 1) c := ⟨by rw [e_T2]; repeat (first | exact hc.1 | rw [vs_ia_ne (by omega)]), hc.2⟩
        have F : vs_fr S0 T2 [72, 74, 76] := by rw [e_T2]; repeat (first | exact F | refine vs_fr.ia ?_ (by simp <;> omega))
        have hsp : pR T2 f x.2.2.2.1 := ⟨by rw [e_T2]; repeat (first | exact hsp.1 | rw [vs_ia_ne (by omega)]), hsp.2⟩
        have hcu : pR T2 71 (amk x.2.2.2.1 x.2.2.2.2 (nn_m (-(((fsm x.2.2.2.1 c k (x.1 + 1) % P * ipw x.2.2.1 P % P) : Nat) : Int)) P) x.2.1 P 42) := ⟨by rw [e_T2]; repeat (first | exact vs_ia_at | rw [vs_ia_ne (by omega)]), (amk_z g6 (Nat.le_refl _))⟩
        clear e_T2
        refine vs_iconst (v := 2) dX4_least_102 rfl rfl ?_
        refine vs_iload dX4_least_103 rfl 5 rfl ?_
        refine vs_imul dX4_least_105 rfl ?_
        refine vs_iload dX4_least_106 rfl 2 rfl ?_
        refine vs_icmp_gt 139 dX4_least_108 rfl rfl (fun c_108 => ?_) (fun c_108 => ?_)
        · have q_108 : (((2 * x.1) : Nat) : Int) > ((k : Nat) : Int) := (qi_gt (by first | exact nI_Z _ | (simp only [fa_lit, nI_add, pk_mul, nI_1]; exact nI_Z _)) (nI_Z _) (by omega) (by omega) (by omega) (by omega)).mp c_108
          rw [if_neg (by omega)] at hx
          refine vs_iinc (v := nI (x.2.1 + 1)) [(7, .int (nI (x.2.1 + 1))), (11, .int (nI (fsm x.2.2.2.1 c k (x.1 + 1) % P * ipw x.2.2.1 P % P))), (10, .int (nI (fsm x.2.2.2.1 c k (x.1 + 1) % P))), (9, .int (nI k)), (8, .int (nI x.2.2.1)), (6, .int (nI x.1)), (5, .ref (G.2.2.2 + f)), (4, .ref (G.2.2.2 + e)), (3, .ref (G.2.2.2 + 71)), (0, .ref (G.2.2.2 + 70)), (1, .ref (G.2.2.2 + asked)), (2, .ref (G.2.2.2 + 1))] dX4_least_139 rfl 4 rfl (by first | exact nI_1 _ | (simp only [fa_lit, nI_add, pk_mul, nI_1]; rfl)) rfl rfl ?_
          refine vs_iinc (v := nI (k + 1)) [(9, .int (nI (k + 1))), (7, .int (nI (x.2.1 + 1))), (11, .int (nI (fsm x.2.2.2.1 c k (x.1 + 1) % P * ipw x.2.2.1 P % P))), (10, .int (nI (fsm x.2.2.2.1 c k (x.1 + 1) % P))), (8, .int (nI x.2.2.1)), (6, .int (nI x.1)), (5, .ref (G.2.2.2 + f)), (4, .ref (G.2.2.2 + e)), (3, .ref (G.2.2.2 + 71)), (0, .ref (G.2.2.2 + 70)), (1, .ref (G.2.2.2 + asked)), (2, .ref (G.2.2.2 + 1))] dX4_least_142 rfl 3 rfl (by first | exact nI_1 _ | (simp only [fa_lit, nI_add, pk_mul, nI_1]; rfl)) rfl rfl ?_
          refine vs_goto 40 dX4_least_145 rfl ?_
          refine vs_pick (L2 := [(9, .int (nI (k + 1))), (8, .int (nI x.2.2.1)), (7, .int (nI (x.2.1 + 1))), (6, .int (nI x.1)), (5, .ref (G.2.2.2 + f)), (4, .ref (G.2.2.2 + e)), (3, .ref (G.2.2.2 + 71)), (0, .ref (G.2.2.2 + 70)), (1, .ref (G.2.2.2 + asked)), (2, .ref (G.2.2.2 + 1))]) [0, 4, 1, 5, 6, 7, 8, 9, 10, 11] rfl ?_
          have := ih (k + 1) e f T2 (by omega) (by omega)
          rw [hx] at this
          exact this hP hla hcu hea ⟨_, hsp⟩ hc F
        · have q_108 : ¬ (((2 * x.1) : Nat) : Int) > ((k : Nat) : Int) := fun hh => c_108 ((qi_gt (by first | exact nI_Z _ | (simp only [fa_lit, nI_add, pk_mul, nI_1]; exact nI_Z _)) (nI_Z _) (by omega) (by omega) (by omega) (by omega)).mpr hh)
          rw [if_pos (by omega)] at hx
          refine vs_iload dX4_least_111 rfl 2 rfl ?_
          refine vs_iconst (v := 1) dX4_least_113 rfl rfl ?_
          refine vs_iadd dX4_least_114 rfl ?_
          refine vs_iload dX4_least_115 rfl 5 rfl ?_
          refine vs_isub dX4_least_117 rfl ?_
          refine vs_topi (fun z1 e_z1 => ?_)
          have f_z1 : z1 = nI (k + 1 - x.1) := (by rw [e_z1]; simp only [fa_lit, nI_add]; exact pk_sub (by omega))
          subst f_z1
          clear e_z1
          refine vs_istore [(6, .int (nI (k + 1 - x.1))), (11, .int (nI (fsm x.2.2.2.1 c k (x.1 + 1) % P * ipw x.2.2.1 P % P))), (10, .int (nI (fsm x.2.2.2.1 c k (x.1 + 1) % P))), (9, .int (nI k)), (8, .int (nI x.2.2.1)), (7, .int (nI x.2.1)), (5, .ref (G.2.2.2 + f)), (4, .ref (G.2.2.2 + e)), (3, .ref (G.2.2.2 + 71)), (0, .ref (G.2.2.2 + 70)), (1, .ref (G.2.2.2 + asked)), (2, .ref (G.2.2.2 + 1))] dX4_least_118 rfl rfl rfl ?_
          refine vs_iload dX4_least_120 rfl 2 rfl ?_
          refine vs_istore [(8, .int (nI (fsm x.2.2.2.1 c k (x.1 + 1) % P))), (6, .int (nI (k + 1 - x.1))), (11, .int (nI (fsm x.2.2.2.1 c k (x.1 + 1) % P * ipw x.2.2.1 P % P))), (10, .int (nI (fsm x.2.2.2.1 c k (x.1 + 1) % P))), (9, .int (nI k)), (7, .int (nI x.2.1)), (5, .ref (G.2.2.2 + f)), (4, .ref (G.2.2.2 + e)), (3, .ref (G.2.2.2 + 71)), (0, .ref (G.2.2.2 + 70)), (1, .ref (G.2.2.2 + asked)), (2, .ref (G.2.2.2 + 1))] dX4_least_122 rfl rfl rfl ?_
          refine vs_iconst (v := 0) dX4_least_124 rfl rfl ?_
          refine vs_istore [(7, .int (0)), (8, .int (nI (fsm x.2.2.2.1 c k (x.1 + 1) % P))), (6, .int (nI (k + 1 - x.1))), (11, .int (nI (fsm x.2.2.2.1 c k (x.1 + 1) % P * ipw x.2.2.1 P % P))), (10, .int (nI (fsm x.2.2.2.1 c k (x.1 + 1) % P))), (9, .int (nI k)), (5, .ref (G.2.2.2 + f)), (4, .ref (G.2.2.2 + e)), (3, .ref (G.2.2.2 + 71)), (0, .ref (G.2.2.2 + 70)), (1, .ref (G.2.2.2 + asked)), (2, .ref (G.2.2.2 + 1))] dX4_least_125 rfl rfl rfl ?_
          refine vs_aload dX4_least_127 rfl 7 rfl ?_
          refine vs_astore [(12, .ref (G.2.2.2 + e)), (7, .int (0)), (8, .int (nI (fsm x.2.2.2.1 c k (x.1 + 1) % P))), (6, .int (nI (k + 1 - x.1))), (11, .int (nI (fsm x.2.2.2.1 c k (x.1 + 1) % P * ipw x.2.2.1 P % P))), (10, .int (nI (fsm x.2.2.2.1 c k (x.1 + 1) % P))), (9, .int (nI k)), (5, .ref (G.2.2.2 + f)), (4, .ref (G.2.2.2 + e)), (3, .ref (G.2.2.2 + 71)), (0, .ref (G.2.2.2 + 70)), (1, .ref (G.2.2.2 + asked)), (2, .ref (G.2.2.2 + 1))] dX4_least_129 rfl rfl rfl ?_
          refine vs_aload dX4_least_131 rfl 7 rfl ?_
          refine vs_astore [(4, .ref (G.2.2.2 + f)), (12, .ref (G.2.2.2 + e)), (7, .int (0)), (8, .int (nI (fsm x.2.2.2.1 c k (x.1 + 1) % P))), (6, .int (nI (k + 1 - x.1))), (11, .int (nI (fsm x.2.2.2.1 c k (x.1 + 1) % P * ipw x.2.2.1 P % P))), (10, .int (nI (fsm x.2.2.2.1 c k (x.1 + 1) % P))), (9, .int (nI k)), (5, .ref (G.2.2.2 + f)), (3, .ref (G.2.2.2 + 71)), (0, .ref (G.2.2.2 + 70)), (1, .ref (G.2.2.2 + asked)), (2, .ref (G.2.2.2 + 1))] dX4_least_133 rfl rfl rfl ?_
          refine vs_aload dX4_least_135 rfl 1 rfl ?_
          refine vs_astore [(5, .ref (G.2.2.2 + e)), (4, .ref (G.2.2.2 + f)), (12, .ref (G.2.2.2 + e)), (7, .int (0)), (8, .int (nI (fsm x.2.2.2.1 c k (x.1 + 1) % P))), (6, .int (nI (k + 1 - x.1))), (11, .int (nI (fsm x.2.2.2.1 c k (x.1 + 1) % P * ipw x.2.2.1 P % P))), (10, .int (nI (fsm x.2.2.2.1 c k (x.1 + 1) % P))), (9, .int (nI k)), (3, .ref (G.2.2.2 + 71)), (0, .ref (G.2.2.2 + 70)), (1, .ref (G.2.2.2 + asked)), (2, .ref (G.2.2.2 + 1))] dX4_least_137 rfl rfl rfl ?_
          refine vs_iinc (v := nI (0 + 1)) [(7, .int (nI (0 + 1))), (5, .ref (G.2.2.2 + e)), (4, .ref (G.2.2.2 + f)), (12, .ref (G.2.2.2 + e)), (8, .int (nI (fsm x.2.2.2.1 c k (x.1 + 1) % P))), (6, .int (nI (k + 1 - x.1))), (11, .int (nI (fsm x.2.2.2.1 c k (x.1 + 1) % P * ipw x.2.2.1 P % P))), (10, .int (nI (fsm x.2.2.2.1 c k (x.1 + 1) % P))), (9, .int (nI k)), (3, .ref (G.2.2.2 + 71)), (0, .ref (G.2.2.2 + 70)), (1, .ref (G.2.2.2 + asked)), (2, .ref (G.2.2.2 + 1))] dX4_least_139 rfl 3 rfl (by first | exact nI_1 _ | (simp only [fa_lit, nI_add, pk_mul, nI_1]; rfl)) rfl rfl ?_
          refine vs_iinc (v := nI (k + 1)) [(9, .int (nI (k + 1))), (7, .int (nI (0 + 1))), (5, .ref (G.2.2.2 + e)), (4, .ref (G.2.2.2 + f)), (12, .ref (G.2.2.2 + e)), (8, .int (nI (fsm x.2.2.2.1 c k (x.1 + 1) % P))), (6, .int (nI (k + 1 - x.1))), (11, .int (nI (fsm x.2.2.2.1 c k (x.1 + 1) % P * ipw x.2.2.1 P % P))), (10, .int (nI (fsm x.2.2.2.1 c k (x.1 + 1) % P))), (3, .ref (G.2.2.2 + 71)), (0, .ref (G.2.2.2 + 70)), (1, .ref (G.2.2.2 + asked)), (2, .ref (G.2.2.2 + 1))] dX4_least_142 rfl 8 rfl (by first | exact nI_1 _ | (simp only [fa_lit, nI_add, pk_mul, nI_1]; rfl)) rfl rfl ?_
          refine vs_goto 40 dX4_least_145 rfl ?_
          refine vs_pick (L2 := [(9, .int (nI (k + 1))), (8, .int (nI (fsm x.2.2.2.1 c k (x.1 + 1) % P))), (7, .int (nI (0 + 1))), (6, .int (nI (k + 1 - x.1))), (5, .ref (G.2.2.2 + e)), (4, .ref (G.2.2.2 + f)), (3, .ref (G.2.2.2 + 71)), (0, .ref (G.2.2.2 + 70)), (1, .ref (G.2.2.2 + asked)), (2, .ref (G.2.2.2 + 1))]) [0, 5, 1, 6, 2, 3, 9, 10, 11, 12] rfl ?_
          have := ih (k + 1) f e T2 (by omega) (by omega)
          rw [hx] at this
          exact this hP hla hcu hsp ⟨_, hea⟩ hc F

theorem c_least {G : vv_G} {S : vs_S} {asked : Nat} (hse : vs_Se asked) (hns : 77 ≤ asked) {c : Nat → Nat} (hc : pR S (asked + 1) c) {P : Nat} (hP : S.1 1 0 = nI P) (hP1 : 2 ≤ P) (hP2 : P ≤ 30011) (hb2 : ∀ k, c k < P) {la : Nat} (hla : S.1 asked 1 = nI la) (hla2 : la ≤ 40) (h71 : jk S 71) (h73 : jk S 73) (h75 : jk S 75) : vs_CP G yX4_least cX4_least 13 (some .int) { frames := 2, locals := 61 } [.ref (G.2.2.2 + 70), .ref (G.2.2.2 + asked), .ref (G.2.2.2 + 1)] S (fun r S2 => r = some (.int (nI (bmi P c (la + 1)).1)) ∧ vs_fr S S2 [72, 74, 76] ∧ jk S2 71 ∧ jk S2 73 ∧ jk S2 75) := by
  refine vs_ofP [(0, .ref (G.2.2.2 + 70)), (1, .ref (G.2.2.2 + asked)), (2, .ref (G.2.2.2 + 1))] (by decide) rfl rfl ?_
  obtain ⟨a1, h71⟩ := h71
  obtain ⟨a2, h73⟩ := h73
  have F : vs_fr S S [72, 74, 76] := vs_fr.rf
  refine vs_aload_n 0 dX4_least_0 rfl rfl 0 rfl ?_
  refine vs_get (v := .ref (G.2.2.2 + 71)) lf_X4_10 rfl rfl dX4_least_1 rfl ?_
  refine vs_astore_n 3 [(3, .ref (G.2.2.2 + 71)), (0, .ref (G.2.2.2 + 70)), (1, .ref (G.2.2.2 + asked)), (2, .ref (G.2.2.2 + 1))] dX4_least_4 rfl rfl rfl rfl ?_
  refine vs_aload_n 0 dX4_least_5 rfl rfl 1 rfl ?_
  refine vs_get (v := .ref (G.2.2.2 + 73)) lf_X4_16 rfl rfl dX4_least_6 rfl ?_
  refine vs_astore [(4, .ref (G.2.2.2 + 73)), (3, .ref (G.2.2.2 + 71)), (0, .ref (G.2.2.2 + 70)), (1, .ref (G.2.2.2 + asked)), (2, .ref (G.2.2.2 + 1))] dX4_least_9 rfl rfl rfl ?_
  refine vs_aload_n 0 dX4_least_11 rfl rfl 2 rfl ?_
  refine vs_get (v := .ref (G.2.2.2 + 75)) lf_X4_19 rfl rfl dX4_least_12 rfl ?_
  refine vs_astore [(5, .ref (G.2.2.2 + 75)), (4, .ref (G.2.2.2 + 73)), (3, .ref (G.2.2.2 + 71)), (0, .ref (G.2.2.2 + 70)), (1, .ref (G.2.2.2 + asked)), (2, .ref (G.2.2.2 + 1))] dX4_least_15 rfl rfl rfl ?_
  refine vs_aload_n 3 dX4_least_17 rfl rfl 2 rfl ?_
  refine vs_iconst (v := 1) dX4_least_18 rfl rfl ?_
  refine vs_callV (st := []) (c_becomeNumber (o := 71) ⟨rfl, rfl⟩ h71 (x := 1)) lk_X4_22 lm_X3_becomeNumber rfl rfl rfl rfl (Nat.le_of_ble_eq_true rfl) rfl ⟨rfl, rfl⟩ dX4_least_19 rfl ?_
  refine vs_gen (fun T1 e_T1 => ?_)
  have hP : T1.1 1 0 = nI P := by rw [e_T1]; repeat (first | exact hP | rw [vs_ia_ne (by omega)] | rw [vs_sc_ne (by omega)])
  have hla : T1.1 asked 1 = nI la := by rw [e_T1]; repeat (first | exact hla | rw [vs_ia_ne (by omega)] | rw [vs_sc_ne (by omega)])
  have h73 : pR T1 73 a2 := ⟨by rw [e_T1]; repeat (first | exact h73.1 | rw [vs_ia_ne (by omega)]), h73.2⟩
  have h75 : jk T1 75 := by obtain ⟨g, hg⟩ := h75; exact ⟨g, by rw [e_T1]; repeat (first | exact hg.1 | rw [vs_ia_ne (by omega)]), hg.2⟩
  have hc : pR T1 (asked + 1) c := ⟨by rw [e_T1]; repeat (first | exact hc.1 | rw [vs_ia_ne (by omega)]), hc.2⟩
  have F : vs_fr S T1 [72, 74, 76] := by rw [e_T1]; repeat (first | exact F | refine vs_fr.ia ?_ (by simp <;> omega))
  have h71 : pR T1 71 (pcon 1) := ⟨by rw [e_T1]; repeat (first | exact vs_ia_at | rw [vs_ia_ne (by omega)]), (pcon_z 1)⟩
  clear e_T1
  refine vs_aload dX4_least_22 rfl 1 rfl ?_
  refine vs_iconst (v := 1) dX4_least_24 rfl rfl ?_
  refine vs_callV (st := []) (c_becomeNumber (o := 73) ⟨rfl, rfl⟩ h73 (x := 1)) lk_X4_22 lm_X3_becomeNumber rfl rfl rfl rfl (Nat.le_of_ble_eq_true rfl) rfl ⟨rfl, rfl⟩ dX4_least_25 rfl ?_
  refine vs_gen (fun T2 e_T2 => ?_)
  have hP : T2.1 1 0 = nI P := by rw [e_T2]; repeat (first | exact hP | rw [vs_ia_ne (by omega)] | rw [vs_sc_ne (by omega)])
  have hla : T2.1 asked 1 = nI la := by rw [e_T2]; repeat (first | exact hla | rw [vs_ia_ne (by omega)] | rw [vs_sc_ne (by omega)])
  have h75 : jk T2 75 := by obtain ⟨g, hg⟩ := h75; exact ⟨g, by rw [e_T2]; repeat (first | exact hg.1 | rw [vs_ia_ne (by omega)]), hg.2⟩
  have hc : pR T2 (asked + 1) c := ⟨by rw [e_T2]; repeat (first | exact hc.1 | rw [vs_ia_ne (by omega)]), hc.2⟩
  have F : vs_fr S T2 [72, 74, 76] := by rw [e_T2]; repeat (first | exact F | refine vs_fr.ia ?_ (by simp <;> omega))
  have h71 : pR T2 71 (pcon 1) := ⟨by rw [e_T2]; repeat (first | exact h71.1 | rw [vs_ia_ne (by omega)]), h71.2⟩
  have h73 : pR T2 73 (pcon 1) := ⟨by rw [e_T2]; repeat (first | exact vs_ia_at | rw [vs_ia_ne (by omega)]), (pcon_z 1)⟩
  clear e_T2
  refine vs_iconst (v := 0) dX4_least_28 rfl rfl ?_
  refine vs_istore [(6, .int (0)), (5, .ref (G.2.2.2 + 75)), (4, .ref (G.2.2.2 + 73)), (3, .ref (G.2.2.2 + 71)), (0, .ref (G.2.2.2 + 70)), (1, .ref (G.2.2.2 + asked)), (2, .ref (G.2.2.2 + 1))] dX4_least_29 rfl rfl rfl ?_
  refine vs_iconst (v := 1) dX4_least_31 rfl rfl ?_
  refine vs_istore [(7, .int (1)), (6, .int (0)), (5, .ref (G.2.2.2 + 75)), (4, .ref (G.2.2.2 + 73)), (3, .ref (G.2.2.2 + 71)), (0, .ref (G.2.2.2 + 70)), (1, .ref (G.2.2.2 + asked)), (2, .ref (G.2.2.2 + 1))] dX4_least_32 rfl rfl rfl ?_
  refine vs_iconst (v := 1) dX4_least_34 rfl rfl ?_
  refine vs_istore [(8, .int (1)), (7, .int (1)), (6, .int (0)), (5, .ref (G.2.2.2 + 75)), (4, .ref (G.2.2.2 + 73)), (3, .ref (G.2.2.2 + 71)), (0, .ref (G.2.2.2 + 70)), (1, .ref (G.2.2.2 + asked)), (2, .ref (G.2.2.2 + 1))] dX4_least_35 rfl rfl rfl ?_
  refine vs_iconst (v := 0) dX4_least_37 rfl rfl ?_
  refine vs_istore [(9, .int (0)), (8, .int (1)), (7, .int (1)), (6, .int (0)), (5, .ref (G.2.2.2 + 75)), (4, .ref (G.2.2.2 + 73)), (3, .ref (G.2.2.2 + 71)), (0, .ref (G.2.2.2 + 70)), (1, .ref (G.2.2.2 + asked)), (2, .ref (G.2.2.2 + 1))] dX4_least_38 rfl rfl rfl ?_
  refine vs_pick (L2 := [(9, .int (nI 0)), (8, .int (nI (bmi P c 0).2.2.1)), (7, .int (nI (bmi P c 0).2.1)), (6, .int (nI (bmi P c 0).1)), (5, .ref (G.2.2.2 + 75)), (4, .ref (G.2.2.2 + 73)), (3, .ref (G.2.2.2 + 71)), (0, .ref (G.2.2.2 + 70)), (1, .ref (G.2.2.2 + asked)), (2, .ref (G.2.2.2 + 1))]) [0, 1, 2, 3, 4, 5, 6, 7, 8, 9] rfl ?_
  exact l_least (S := S) (S0 := S) hse hns hP1 hP2 hb2 hla2 (fun S2 h1 h2 h3 h4 => ⟨rfl, h1, h2, h3, h4⟩) (la + 1) 0 73 75 _ (by omega) (Or.inl ⟨rfl, rfl⟩) hP hla h71 h73 h75 hc F

