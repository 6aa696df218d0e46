theorem nn_mad {a b c : Nat} (ha : a < 2147483648) (hb : b < 2147483648) (hc : c < 2147483648) : ((nI a).toInt64 * (nI b).toInt64 + (nI c).toInt64).toInt = ((a * b + c : Nat) : Int) := by
  rw [nn_mul ha hb, nI_l hc, lN_add, pk_lT]
  have := Nat.mul_le_mul (Nat.le_of_lt ha) (Nat.le_of_lt hb)
  omega
theorem nn_mad2 {a b c : Nat} (ha : a < 2147483648) (hb : b < 2147483648) (hc : c < 2147483648) : ((nI c).toInt64 + (nI a).toInt64 * (nI b).toInt64).toInt = ((c + a * b : Nat) : Int) := by
  rw [nn_mul ha hb, nI_l hc, lN_add, pk_lT]
  have := Nat.mul_le_mul (Nat.le_of_lt ha) (Nat.le_of_lt hb)
  omega
theorem nn_msub {a b c : Nat} (ha : a < 2147483648) (hb : b < 2147483648) (hc : c < 2147483648) : ((nI c).toInt64 - (nI a).toInt64 * (nI b).toInt64).toInt = (c : Int) - (a : Int) * b := by
  have h1 := Nat.mul_le_mul (Nat.le_of_lt ha) (Nat.le_of_lt hb)
  have h2 : ((a : Int) * b) = ((a * b : Nat) : Int) := by rw [Int.natCast_mul]
  rw [Int64.toInt_sub, nn_mulI ha hb, nn_i2l, nI_i hc, h2]
  exact nn_bmod (by omega) (by omega)
theorem c_ofZ {G : vv_G} {S : vs_S} {v : Int64} {z : Int} (hv : v.toInt = z) {P : Nat} (hP : S.1 1 0 = nI P) (hP1 : 2 ≤ P) (hP2 : P ≤ 30011) : vs_C G yX5_of cX5_of 5 (some .int) { frames := 0, locals := 0 } [.ref (G.2.2.2 + 1), .long v] S (some (.int (nI (nn_m z P)))) S := vs_cal (c_of hP hP1 (by omega)) (by rw [hv]) rfl
theorem c_ofN {G : vv_G} {S : vs_S} {v : Int64} {k : Nat} (hv : v.toInt = (k : Int)) {P : Nat} (hP : S.1 1 0 = nI P) (hP1 : 2 ≤ P) (hP2 : P ≤ 30011) : vs_C G yX5_of cX5_of 5 (some .int) { frames := 0, locals := 0 } [.ref (G.2.2.2 + 1), .long v] S (some (.int (nI (k % P)))) S := vs_cal (c_of hP hP1 (by omega)) (by rw [hv, nn_m_nat]) rfl
theorem nn_bit {e i : Nat} (he : e < 2 ^ 31) (hi : i < 32) : (nI e >>> (nI i &&& 31)) &&& 1 = nI (e / 2 ^ i % 2) := by
  have hs : ∀ k, k < 32 → ((nI k &&& 31).toBitVec.smod 32).toNat = k := by decide
  rw [pk_shrN he _ i (hs i hi)]
  exact pk_andN (Nat.lt_of_le_of_lt (Nat.div_le_self _ _) (by omega)) 1 rfl
/-- one step of the fast power -/
theorem pw_step (w s n P : Nat) : (w * s ^ n) % P = ((if n % 2 = 1 then w * s % P else w) * (s * s % P) ^ (n / 2)) % P := by
  have e : s ^ n = (s * s) ^ (n / 2) * s ^ (n % 2) := by
    rw [← Nat.pow_two, ← Nat.pow_mul, ← Nat.pow_add]
    congr 1
    omega
  have e2 : ((s * s) ^ (n / 2)) % P = ((s * s % P) ^ (n / 2)) % P := by rw [Nat.pow_mod]
  rcases (show n % 2 = 0 ∨ n % 2 = 1 by omega) with h | h
  · rw [h] at e
    rw [if_neg (by omega), e, Nat.pow_zero, Nat.mul_one, Nat.mul_mod, e2, ← Nat.mul_mod]
  · rw [h] at e
    rw [if_pos h, e, Nat.pow_one, Nat.mul_comm ((s * s) ^ (n / 2)) s, ← Nat.mul_assoc, Nat.mul_mod, e2]
    exact Nat.mul_mod_mod _ _ _
def ipw (a P : Nat) : Nat := a ^ (P - 2) % P
theorem ipw_lt {a P : Nat} (h : 2 ≤ P) : ipw a P < P := Nat.mod_lt _ (by omega)
theorem l_rinv {G : vv_G} {S : vs_S} {a : Nat} {P : Nat} (hP : S.1 1 0 = nI P) (hP1 : 2 ≤ P) (hP2 : P ≤ 30011) {r : Option Value} {Sf : vs_S} (hr : r = some (.int (nI (ipw a P)))) (hS : S = Sf) : ∀ d i w s : Nat, i + d = 15 → w < P → s < P → (w * s ^ ((P - 2) / 2 ^ i)) % P = ipw a P → vs_V G cX5_inverse (vs_M yX5_inverse 6 (some .int) { frames := 1, locals := 24 } G r Sf) 15 [(5, .int (nI i)), (4, .int (nI s)), (3, .int (nI w)), (2, .int (nI (P - 2))), (0, .ref (G.2.2.2 + 1)), (1, .int (nI a))] [] S := by
  intro d
  induction d with
  | zero =>
    intro i w s hi hw hs hinv
    obtain rfl : i = 15 := by omega
    have h0 : (P - 2) / 2 ^ 15 = 0 := Nat.div_eq_of_lt (by omega)
    rw [h0, Nat.pow_zero, Nat.mul_one, Nat.mod_eq_of_lt hw] at hinv
    refine vs_iload dX5_inverse_15 rfl 0 rfl ?_
    refine vs_bipush (v := 15) dX5_inverse_17 rfl rfl ?_
    refine vs_icmp_ge 62 dX5_inverse_19 rfl rfl (fun c_19 => ?_) (fun c_19 => ?_)
    · refine vs_iload_n 3 dX5_inverse_62 rfl rfl 2 rfl ?_
      exact vs_iret dX5_inverse_63 (by rw [hr, hinv]) hS
    · exact absurd (Int32.le_refl _) c_19
  | succ d ih =>
    intro i w s hi hw hs hinv
    have hst := pw_step w s ((P - 2) / 2 ^ i) P
    rw [hinv, Nat.div_div_eq_div_mul, ← Nat.pow_succ] at hst
    refine vs_iload dX5_inverse_15 rfl 0 rfl ?_
    refine vs_bipush (v := 15) dX5_inverse_17 rfl rfl ?_
    refine vs_icmp_ge 62 dX5_inverse_19 rfl rfl (fun c_19 => ?_) (fun c_19 => ?_)
    · exact absurd c_19 (nI_ge (show i < 15 by omega) (by decide))
    · refine vs_iload_n 2 dX5_inverse_22 rfl rfl 3 rfl ?_
      refine vs_iload dX5_inverse_23 rfl 0 rfl ?_
      refine vs_ishr dX5_inverse_25 rfl ?_
      refine vs_iconst (v := 1) dX5_inverse_26 rfl rfl ?_
      refine vs_iand dX5_inverse_27 rfl ?_
      refine vs_topi (fun z1 e_z1 => ?_)
      have f_z1 : z1 = nI ((P - 2) / 2 ^ i % 2) := (by rw [e_z1]; exact nn_bit (by omega) (by omega))
      subst f_z1
      clear e_z1
      refine vs_iconst (v := 1) dX5_inverse_28 rfl rfl ?_
      refine vs_icmp_ne 43 dX5_inverse_29 rfl rfl (fun c_29 => ?_) (fun c_29 => ?_)
      · have hb : ¬ (P - 2) / 2 ^ i % 2 = 1 := fun e => c_29 (by rw [e]; rfl)
        rw [if_neg hb] at hst
        refine vs_aload_n 0 dX5_inverse_43 rfl rfl 4 rfl ?_
        refine vs_iload dX5_inverse_44 rfl 1 rfl ?_
        refine vs_i2l dX5_inverse_46 rfl ?_
        refine vs_iload dX5_inverse_47 rfl 1 rfl ?_
        refine vs_i2l dX5_inverse_49 rfl ?_
        refine vs_lmul dX5_inverse_50 rfl ?_
        refine vs_callV (st := []) (c_ofN (k := s * s) (nn_mulI (by omega) (by omega)) hP hP1 hP2) lk_X5_15 lm_X5_of rfl rfl rfl rfl (Nat.le_of_ble_eq_true rfl) rfl ⟨rfl, rfl⟩ dX5_inverse_51 rfl ?_
        show vs_V _ _ _ _ _ (.int (nI (s * s % P)) :: _) _
        refine vs_istore [(4, .int (nI (s * s % P))), (5, .int (nI i)), (3, .int (nI w)), (2, .int (nI (P - 2))), (0, .ref (G.2.2.2 + 1)), (1, .int (nI a))] dX5_inverse_54 rfl rfl rfl ?_
        refine vs_iinc (v := nI (i + 1)) [(5, .int (nI (i + 1))), (4, .int (nI (s * s % P))), (3, .int (nI w)), (2, .int (nI (P - 2))), (0, .ref (G.2.2.2 + 1)), (1, .int (nI a))] dX5_inverse_56 rfl 1 rfl (by first | exact nI_1 _ | (simp only [fa_lit, nI_add, pk_mul, nI_1]; rfl)) rfl rfl ?_
        refine vs_goto 15 dX5_inverse_59 rfl ?_
        refine vs_pick [0, 1, 2, 3, 4, 5] rfl ?_
        exact ih (i + 1) _ _ (by omega) (by first | exact hw | exact Nat.mod_lt _ (by omega)) (Nat.mod_lt _ (by omega)) hst.symm
      · have hb : (P - 2) / 2 ^ i % 2 = 1 := (nI_eq (by omega) (by decide)).mp c_29
        rw [if_pos hb] at hst
        refine vs_aload_n 0 dX5_inverse_32 rfl rfl 4 rfl ?_
        refine vs_iload_n 3 dX5_inverse_33 rfl rfl 2 rfl ?_
        refine vs_i2l dX5_inverse_34 rfl ?_
        refine vs_iload dX5_inverse_35 rfl 1 rfl ?_
        refine vs_i2l dX5_inverse_37 rfl ?_
        refine vs_lmul dX5_inverse_38 rfl ?_
        refine vs_callV (st := []) (c_ofN (k := w * s) (nn_mulI (by omega) (by omega)) hP hP1 hP2) lk_X5_15 lm_X5_of rfl rfl rfl rfl (Nat.le_of_ble_eq_true rfl) rfl ⟨rfl, rfl⟩ dX5_inverse_39 rfl ?_
        show vs_V _ _ _ _ _ (.int (nI (w * s % P)) :: _) _
        refine vs_istore_n 3 [(3, .int (nI (w * s % P))), (5, .int (nI i)), (4, .int (nI s)), (2, .int (nI (P - 2))), (0, .ref (G.2.2.2 + 1)), (1, .int (nI a))] dX5_inverse_42 rfl rfl rfl rfl ?_
        refine vs_aload_n 0 dX5_inverse_43 rfl rfl 4 rfl ?_
        refine vs_iload dX5_inverse_44 rfl 2 rfl ?_
        refine vs_i2l dX5_inverse_46 rfl ?_
        refine vs_iload dX5_inverse_47 rfl 2 rfl ?_
        refine vs_i2l dX5_inverse_49 rfl ?_
        refine vs_lmul dX5_inverse_50 rfl ?_
        refine vs_callV (st := []) (c_ofN (k := s * s) (nn_mulI (by omega) (by omega)) hP hP1 hP2) lk_X5_15 lm_X5_of rfl rfl rfl rfl (Nat.le_of_ble_eq_true rfl) rfl ⟨rfl, rfl⟩ dX5_inverse_51 rfl ?_
        show vs_V _ _ _ _ _ (.int (nI (s * s % P)) :: _) _
        refine vs_istore [(4, .int (nI (s * s % P))), (3, .int (nI (w * s % P))), (5, .int (nI i)), (2, .int (nI (P - 2))), (0, .ref (G.2.2.2 + 1)), (1, .int (nI a))] dX5_inverse_54 rfl rfl rfl ?_
        refine vs_iinc (v := nI (i + 1)) [(5, .int (nI (i + 1))), (4, .int (nI (s * s % P))), (3, .int (nI (w * s % P))), (2, .int (nI (P - 2))), (0, .ref (G.2.2.2 + 1)), (1, .int (nI a))] dX5_inverse_56 rfl 2 rfl (by first | exact nI_1 _ | (simp only [fa_lit, nI_add, pk_mul, nI_1]; rfl)) rfl rfl ?_
        refine vs_goto 15 dX5_inverse_59 rfl ?_
        refine vs_pick [0, 1, 2, 3, 4, 5] rfl ?_
        exact ih (i + 1) _ _ (by omega) (by first | exact hw | exact Nat.mod_lt _ (by omega)) (Nat.mod_lt _ (by omega)) hst.symm

theorem c_rinverse {G : vv_G} {S : vs_S} {a : Nat} {P : Nat} (hP : S.1 1 0 = nI P) (hP1 : 2 ≤ P) (hP2 : P ≤ 30011) (ha : a < P) : vs_C G yX5_inverse cX5_inverse 6 (some .int) { frames := 1, locals := 24 } [.ref (G.2.2.2 + 1), .int (nI a)] S (some (.int (nI (ipw a P)))) S := by
  refine vs_of [(0, .ref (G.2.2.2 + 1)), (1, .int (nI a))] (by decide) rfl rfl ?_
  refine vs_aload_n 0 dX5_inverse_0 rfl rfl 0 rfl ?_
  refine vs_get (v := .int (nI P)) lf_X5_9 rfl (congrArg (fun z => some (Value.int z)) hP) dX5_inverse_1 rfl ?_
  refine vs_iconst (v := 2) dX5_inverse_4 rfl rfl ?_
  refine vs_isub dX5_inverse_5 rfl ?_
  refine vs_topi (fun z1 e_z1 => ?_)
  have f_z1 : z1 = nI (P - 2) := (by rw [e_z1, fa_lit]; exact pk_sub hP1)
  subst f_z1
  clear e_z1
  refine vs_istore_n 2 [(2, .int (nI (P - 2))), (0, .ref (G.2.2.2 + 1)), (1, .int (nI a))] dX5_inverse_6 rfl rfl rfl rfl ?_
  refine vs_iconst (v := 1) dX5_inverse_7 rfl rfl ?_
  refine vs_istore_n 3 [(3, .int (1)), (2, .int (nI (P - 2))), (0, .ref (G.2.2.2 + 1)), (1, .int (nI a))] dX5_inverse_8 rfl rfl rfl rfl ?_
  refine vs_iload_n 1 dX5_inverse_9 rfl rfl 3 rfl ?_
  refine vs_istore [(4, .int (nI a)), (3, .int (1)), (2, .int (nI (P - 2))), (0, .ref (G.2.2.2 + 1)), (1, .int (nI a))] dX5_inverse_10 rfl rfl rfl ?_
  refine vs_iconst (v := 0) dX5_inverse_12 rfl rfl ?_
  refine vs_istore [(5, .int (0)), (4, .int (nI a)), (3, .int (1)), (2, .int (nI (P - 2))), (0, .ref (G.2.2.2 + 1)), (1, .int (nI a))] dX5_inverse_13 rfl rfl rfl ?_
  refine vs_pick (L2 := [(5, .int (nI 0)), (4, .int (nI a)), (3, .int (nI 1)), (2, .int (nI (P - 2))), (0, .ref (G.2.2.2 + 1)), (1, .int (nI a))]) [0, 1, 2, 3, 4, 5] rfl ?_
  exact l_rinv hP hP1 hP2 rfl rfl 15 0 1 a rfl (by omega) ha (by rw [Nat.pow_zero, Nat.div_one, Nat.one_mul]; rfl)

def hv_ (g : Nat → Nat) (x P : Nat) : Nat → Nat → Nat
  | 0, s => s
  | j + 1, s => hv_ g x P j ((s * x + g j) % P)
theorem l_valueAt {G : vv_G} {S : vs_S} {o : Nat} {g : Nat → Nat} (hp : vs_P o) (hg : pR S o g) {x : Nat} {P : Nat} (hP : S.1 1 0 = nI P) (hP1 : 2 ≤ P) (hP2 : P ≤ 30011) (hb : ∀ k, g k < P) (hx : x < P) {r : Option Value} {Sf : vs_S} (hS : S = Sf) : ∀ j s : Nat, j ≤ 42 → s < P → r = some (.int (nI (hv_ g x P j s))) → vs_V G cX3_valueAt (vs_M yX3_valueAt 5 (some .int) { frames := 1, locals := 24 } G r Sf) 6 [(4, .int (nZ ((j : Int) - 1))), (3, .int (nI s)), (0, .ref (G.2.2.2 + o)), (1, .int (nI x)), (2, .ref (G.2.2.2 + 1))] [] S := by
  intro j
  induction j with
  | zero =>
    intro s _ hs hr
    refine vs_iload dX3_valueAt_6 rfl 0 rfl ?_
    refine vs_if_lt 36 dX3_valueAt_8 rfl rfl (fun c_8 => ?_) (fun c_8 => ?_)
    · refine vs_iload_n 3 dX3_valueAt_36 rfl rfl 1 rfl ?_
      exact vs_iret dX3_valueAt_37 hr hS
    · exact absurd (show nZ (((0 : Nat) : Int) - 1) < 0 by decide) c_8
  | succ j ih =>
    intro s hj hs hr
    have hgj := hb j
    have e1 : nZ (((j + 1 : Nat) : Int) - 1) = nI j := by rw [nI_Z]; congr 1; omega
    rw [e1]
    refine vs_iload dX3_valueAt_6 rfl 0 rfl ?_
    refine vs_if_lt 36 dX3_valueAt_8 rfl rfl (fun c_8 => ?_) (fun c_8 => ?_)
    · exact absurd c_8 (nI_pos (by omega))
    · refine vs_aload_n 2 dX3_valueAt_11 rfl rfl 4 rfl ?_
      refine vs_iload_n 3 dX3_valueAt_12 rfl rfl 1 rfl ?_
      refine vs_i2l dX3_valueAt_13 rfl ?_
      refine vs_iload_n 1 dX3_valueAt_14 rfl rfl 3 rfl ?_
      refine vs_i2l dX3_valueAt_15 rfl ?_
      refine vs_lmul dX3_valueAt_16 rfl ?_
      refine vs_aload_n 0 dX3_valueAt_17 rfl rfl 2 rfl ?_
      refine vs_get (v := .ref (G.2.2.2 + (o + 1))) lf_X3_9 hp.1 rfl dX3_valueAt_18 rfl ?_
      refine vs_iload dX3_valueAt_21 rfl 0 rfl ?_
      refine vs_ialdN (g := g) (k := j) hg.1 hp.2 (by first | rfl | (simp only [fa_lit, nI_add, pk_mul, nI_1]; done) | omega) (by omega) rfl dX3_valueAt_23 rfl ?_
      refine vs_i2l dX3_valueAt_24 rfl ?_
      refine vs_ladd dX3_valueAt_25 rfl ?_
      refine vs_callV (st := []) (c_ofN (k := s * x + g j) (nn_mad (by omega) (by omega) (by omega)) hP hP1 hP2) lk_X3_27 lm_X5_of rfl rfl rfl rfl (Nat.le_of_ble_eq_true rfl) rfl ⟨rfl, rfl⟩ dX3_valueAt_26 rfl ?_
      show vs_V _ _ _ _ _ (.int (nI ((s * x + g j) % P)) :: _) _
      refine vs_istore_n 3 [(3, .int (nI ((s * x + g j) % P))), (4, .int (nI j)), (0, .ref (G.2.2.2 + o)), (1, .int (nI x)), (2, .ref (G.2.2.2 + 1))] dX3_valueAt_29 rfl rfl rfl rfl ?_
      refine vs_iinc (v := nZ ((j : Int) - 1)) [(4, .int (nZ ((j : Int) - 1))), (3, .int (nI ((s * x + g j) % P))), (0, .ref (G.2.2.2 + o)), (1, .int (nI x)), (2, .ref (G.2.2.2 + 1))] dX3_valueAt_30 rfl 1 rfl (by rw [nI_Z]; exact nZ_add _ _) rfl rfl ?_
      refine vs_goto 6 dX3_valueAt_33 rfl ?_
      refine vs_pick [0, 1, 2, 3, 4] rfl ?_
      exact ih _ (by omega) (Nat.mod_lt _ (by omega)) hr

theorem c_valueAt {G : vv_G} {S : vs_S} {o : Nat} {g : Nat → Nat} (hp : vs_P o) (hg : pR S o g) {x : Nat} {P : Nat} (hP : S.1 1 0 = nI P) (hP1 : 2 ≤ P) (hP2 : P ≤ 30011) (hb : ∀ k, g k < P) (hx : x < P) : vs_C G yX3_valueAt cX3_valueAt 5 (some .int) { frames := 1, locals := 24 } [.ref (G.2.2.2 + o), .int (nI x), .ref (G.2.2.2 + 1)] S (some (.int (nI (hv_ g x P 42 0)))) S := by
  refine vs_of [(0, .ref (G.2.2.2 + o)), (1, .int (nI x)), (2, .ref (G.2.2.2 + 1))] (by decide) rfl rfl ?_
  refine vs_iconst (v := 0) dX3_valueAt_0 rfl rfl ?_
  refine vs_istore_n 3 [(3, .int (0)), (0, .ref (G.2.2.2 + o)), (1, .int (nI x)), (2, .ref (G.2.2.2 + 1))] dX3_valueAt_1 rfl rfl rfl rfl ?_
  refine vs_bipush (v := 41) dX3_valueAt_2 rfl rfl ?_
  refine vs_istore [(4, .int (41)), (3, .int (0)), (0, .ref (G.2.2.2 + o)), (1, .int (nI x)), (2, .ref (G.2.2.2 + 1))] dX3_valueAt_4 rfl rfl rfl ?_
  refine vs_pick (L2 := [(4, .int (nI 41)), (3, .int (nI 0)), (0, .ref (G.2.2.2 + o)), (1, .int (nI x)), (2, .ref (G.2.2.2 + 1))]) [0, 1, 2, 3, 4] rfl ?_
  exact l_valueAt hp hg hP hP1 hP2 hb hx rfl 42 0 (Nat.le_refl _) (by omega) rfl

def sck (g : Nat → Nat) (c P i : Nat) : Nat → Nat := fun k => if k < i then g k * c % P else g k
theorem sck_s {g : Nat → Nat} {c P i : Nat} : nu (sck g c P i) i (g i * c % P) = sck g c P (i + 1) := by
  funext k
  unfold nu sck
  by_cases h : k = i
  · rw [if_pos h, if_pos (by omega), h]
  · rw [if_neg h]
    by_cases h2 : k < i
    · rw [if_pos h2, if_pos (by omega)]
    · rw [if_neg h2, if_neg (by omega)]
theorem sck_0 {g : Nat → Nat} {c P : Nat} : sck g c P 0 = g := funext fun k => if_neg (by omega)
theorem l_scale {G : vv_G} {S : vs_S} {o : Nat} {g : Nat → Nat} (hp : vs_P o) (hg : pR S o g) {x : Nat} {P : Nat} (hP : S.1 1 0 = nI P) (hP1 : 2 ≤ P) (hP2 : P ≤ 30011) (hb : ∀ k, g k < P) (hx : x < P) {r : Option Value} {Sf : vs_S} (hr : r = none) (hS : vs_ia S (o + 1) (nA (sck g x P 42)) = Sf) : ∀ d i : Nat, i + d = 42 → vs_V G cX3_scale (vs_M yX3_scale 4 none { frames := 2, locals := 46 } G r Sf) 2 [(3, .int (nI i)), (0, .ref (G.2.2.2 + o)), (1, .int (nI x)), (2, .ref (G.2.2.2 + 1))] [] (vs_ia S (o + 1) (nA (sck g x P i))) := by
  intro d
  induction d with
  | zero =>
    intro i hi
    obtain rfl : i = 42 := by omega
    refine vs_iload_n 3 dX3_scale_2 rfl rfl 0 rfl ?_
    refine vs_bipush (v := 42) dX3_scale_3 rfl rfl ?_
    refine vs_icmp_ge 31 dX3_scale_5 rfl rfl (fun c_5 => ?_) (fun c_5 => ?_)
    · exact vs_vret dX3_scale_31 hr hS
    · exact absurd (Int32.le_refl _) c_5
  | succ d ih =>
    intro i hi
    have hgi := hb i
    have e0 : sck g x P i i = g i := if_neg (by omega)
    refine vs_iload_n 3 dX3_scale_2 rfl rfl 0 rfl ?_
    refine vs_bipush (v := 42) dX3_scale_3 rfl rfl ?_
    refine vs_icmp_ge 31 dX3_scale_5 rfl rfl (fun c_5 => ?_) (fun c_5 => ?_)
    · exact absurd c_5 (nI_ge (show i < 42 by omega) (by decide))
    · refine vs_aload_n 0 dX3_scale_8 rfl rfl 1 rfl ?_
      refine vs_get (v := .ref (G.2.2.2 + (o + 1))) lf_X3_9 hp.1 rfl dX3_scale_9 rfl ?_
      refine vs_iload_n 3 dX3_scale_12 rfl rfl 0 rfl ?_
      refine vs_aload_n 2 dX3_scale_13 rfl rfl 3 rfl ?_
      refine vs_aload_n 0 dX3_scale_14 rfl rfl 1 rfl ?_
      refine vs_get (v := .ref (G.2.2.2 + (o + 1))) lf_X3_9 hp.1 rfl dX3_scale_15 rfl ?_
      refine vs_iload_n 3 dX3_scale_18 rfl rfl 0 rfl ?_
      refine vs_ialdN (g := (sck g x P i)) (k := i) vs_ia_at hp.2 rfl (by omega) rfl dX3_scale_19 rfl ?_
      refine vs_iload_n 1 dX3_scale_20 rfl rfl 2 rfl ?_
      rw [e0]
      refine vs_callV (st := [.int (nI i), .ref (G.2.2.2 + (o + 1))]) (c_rproduct (x := g i) (y := x) hP hP1 (by omega) (by omega) (by omega)) lk_X3_33 lm_X5_product rfl rfl rfl rfl (Nat.le_of_ble_eq_true rfl) rfl ⟨rfl, rfl⟩ dX3_scale_21 rfl ?_
      show vs_V _ _ _ _ _ (.int (nI (g i * x % P)) :: _) _
      refine vs_iastU (k := i) hp.2 rfl (by omega) rfl dX3_scale_24 rfl ?_
      refine vs_eq (S2 := vs_ia S (o + 1) (nA (sck g x P (i + 1)))) (by rw [sck_s]) ?_
      refine vs_iinc (v := nI (i + 1)) [(3, .int (nI (i + 1))), (0, .ref (G.2.2.2 + o)), (1, .int (nI x)), (2, .ref (G.2.2.2 + 1))] dX3_scale_25 rfl 0 rfl (by first | exact nI_1 _ | (simp only [fa_lit, nI_add, pk_mul, nI_1]; rfl)) rfl rfl ?_
      refine vs_goto 2 dX3_scale_28 rfl ?_
      refine vs_pick [0, 1, 2, 3] rfl ?_
      exact ih (i + 1) (by omega)

theorem c_scale {G : vv_G} {S : vs_S} {o : Nat} {g : Nat → Nat} (hp : vs_P o) (hg : pR S o g) {x : Nat} {P : Nat} (hP : S.1 1 0 = nI P) (hP1 : 2 ≤ P) (hP2 : P ≤ 30011) (hb : ∀ k, g k < P) (hx : x < P) : vs_C G yX3_scale cX3_scale 4 none { frames := 2, locals := 46 } [.ref (G.2.2.2 + o), .int (nI x), .ref (G.2.2.2 + 1)] S none (vs_ia S (o + 1) (nA (fun k => g k * x % P))) := by
  refine vs_of [(0, .ref (G.2.2.2 + o)), (1, .int (nI x)), (2, .ref (G.2.2.2 + 1))] (by decide) rfl rfl ?_
  refine vs_iconst (v := 0) dX3_scale_0 rfl rfl ?_
  refine vs_istore_n 3 [(3, .int (0)), (0, .ref (G.2.2.2 + o)), (1, .int (nI x)), (2, .ref (G.2.2.2 + 1))] dX3_scale_1 rfl rfl rfl rfl ?_
  refine vs_pick (L2 := [(3, .int (nI 0)), (0, .ref (G.2.2.2 + o)), (1, .int (nI x)), (2, .ref (G.2.2.2 + 1))]) [0, 1, 2, 3] rfl ?_
  refine vs_eq (S2 := vs_ia S (o + 1) (nA (sck g x P 0))) (by rw [sck_0]; exact vs_ia_same hg.1) ?_
  exact l_scale hp hg hP hP1 hP2 hb hx rfl (congrArg (fun z => vs_ia S (o + 1) (nA z)) (funext fun k => by unfold sck; by_cases h : k < 42 <;> simp [h]; rw [hg.2 k (by omega)]; simp)) 42 0 rfl

def amk (g g2 : Nat → Nat) (c sh P i : Nat) : Nat → Nat := fun k => if sh ≤ k ∧ k < i then (g k + c * g2 (k - sh)) % P else g k
theorem amk_s {g g2 : Nat → Nat} {c sh P i : Nat} (h0 : sh ≤ i) : nu (amk g g2 c sh P i) i ((g i + c * g2 (i - sh)) % P) = amk g g2 c sh P (i + 1) := by
  funext k
  unfold nu amk
  by_cases h : k = i
  · rw [if_pos h, if_pos (by omega), h]
  · rw [if_neg h]
    by_cases h2 : sh ≤ k ∧ k < i
    · rw [if_pos h2, if_pos (by omega)]
    · rw [if_neg h2, if_neg (by omega)]
theorem amk_0 {g g2 : Nat → Nat} {c sh P : Nat} : amk g g2 c sh P sh = g := funext fun k => if_neg (by omega)
theorem amk_z {g g2 : Nat → Nat} {c sh P i : Nat} (h : ∀ k, 42 ≤ k → g k = 0) (hi : i ≤ 42) : ∀ k, 42 ≤ k → amk g g2 c sh P i k = 0 := fun k hk => by
  unfold amk
  rw [if_neg (by omega)]
  exact h k hk
theorem amk_b {g g2 : Nat → Nat} {c sh P i : Nat} (h0 : 0 < P) (h : ∀ k, g k < P) : ∀ k, amk g g2 c sh P i k < P := fun k => by
  unfold amk
  by_cases h1 : sh ≤ k ∧ k < i
  · rw [if_pos h1]; exact Nat.mod_lt _ h0
  · rw [if_neg h1]; exact h k
theorem l_am {G : vv_G} {S : vs_S} {o : Nat} {g : Nat → Nat} (hp : vs_P o) (hg : pR S o g) {p : Nat} {g2 : Nat → Nat} (hq : vs_P p) (hg2 : pR S p g2) (hne : p ≠ o) {x sh : Nat} {P : Nat} (hP : S.1 1 0 = nI P) (hP1 : 2 ≤ P) (hP2 : P ≤ 30011) (hb : ∀ k, g k < P) (hb2 : ∀ k, g2 k < P) (hx : x < P) (hsh : sh ≤ 42) {r : Option Value} {Sf : vs_S} (hr : r = none) (hS : vs_ia S (o + 1) (nA (amk g g2 x sh P 42)) = Sf) : ∀ d i : Nat, i + d = 42 → sh ≤ i → vs_V G cX3_addMultiple (vs_M yX3_addMultiple 6 none { frames := 1, locals := 24 } G r Sf) 3 [(5, .int (nI i)), (0, .ref (G.2.2.2 + o)), (1, .ref (G.2.2.2 + p)), (2, .int (nI x)), (3, .int (nI sh)), (4, .ref (G.2.2.2 + 1))] [] (vs_ia S (o + 1) (nA (amk g g2 x sh P i))) := by
  intro d
  induction d with
  | zero =>
    intro i hi hs
    obtain rfl : i = 42 := by omega
    refine vs_iload dX3_addMultiple_3 rfl 0 rfl ?_
    refine vs_bipush (v := 42) dX3_addMultiple_5 rfl rfl ?_
    refine vs_icmp_ge 47 dX3_addMultiple_7 rfl rfl (fun c_7 => ?_) (fun c_7 => ?_)
    · exact vs_vret dX3_addMultiple_47 hr hS
    · exact absurd (Int32.le_refl _) c_7
  | succ d ih =>
    intro i hi hs
    have hgi := hb i
    have hgj := hb2 (i - sh)
    have e0 : amk g g2 x sh P i i = g i := if_neg (by omega)
    have hpo : pR (vs_ia S (o + 1) (nA (amk g g2 x sh P i))) o (amk g g2 x sh P i) := ⟨vs_ia_at, amk_z hg.2 (by omega)⟩
    have hpp : pR (vs_ia S (o + 1) (nA (amk g g2 x sh P i))) p g2 := ⟨(vs_ia_ne (by omega)).trans hg2.1, hg2.2⟩
    refine vs_iload dX3_addMultiple_3 rfl 0 rfl ?_
    refine vs_bipush (v := 42) dX3_addMultiple_5 rfl rfl ?_
    refine vs_icmp_ge 47 dX3_addMultiple_7 rfl rfl (fun c_7 => ?_) (fun c_7 => ?_)
    · exact absurd c_7 (nI_ge (show i < 42 by omega) (by decide))
    · refine vs_aload_n 0 dX3_addMultiple_10 rfl rfl 1 rfl ?_
      refine vs_iload dX3_addMultiple_11 rfl 0 rfl ?_
      refine vs_aload dX3_addMultiple_13 rfl 5 rfl ?_
      refine vs_aload_n 0 dX3_addMultiple_15 rfl rfl 1 rfl ?_
      refine vs_iload dX3_addMultiple_16 rfl 0 rfl ?_
      refine vs_callV (st := [.ref (G.2.2.2 + 1), .int (nI i), .ref (G.2.2.2 + o)]) (vs_cal (c_atN hp hpo (k := i) (by omega)) (by rw [e0]) rfl) lk_X3_37 lm_X3_at rfl hp.1 rfl rfl (Nat.le_of_ble_eq_true rfl) rfl ⟨rfl, rfl⟩ dX3_addMultiple_18 rfl ?_
      show vs_V _ _ _ _ _ (.int (nI (g i)) :: _) _
      refine vs_i2l dX3_addMultiple_21 rfl ?_
      refine vs_iload_n 2 dX3_addMultiple_22 rfl rfl 3 rfl ?_
      refine vs_i2l dX3_addMultiple_23 rfl ?_
      refine vs_aload_n 1 dX3_addMultiple_24 rfl rfl 2 rfl ?_
      refine vs_iload dX3_addMultiple_25 rfl 0 rfl ?_
      refine vs_iload_n 3 dX3_addMultiple_27 rfl rfl 4 rfl ?_
      refine vs_isub dX3_addMultiple_28 rfl ?_
      refine vs_topi (fun z1 e_z1 => ?_)
      have f_z1 : z1 = nI (i - sh) := (by rw [e_z1]; exact pk_sub hs)
      subst f_z1
      clear e_z1
      refine vs_callV (st := [.long ((nI x).toInt64), .long ((nI (g i)).toInt64), .ref (G.2.2.2 + 1), .int (nI i), .ref (G.2.2.2 + o)]) (c_atN hq hpp (k := i - sh) (by omega)) lk_X3_37 lm_X3_at rfl hq.1 rfl rfl (Nat.le_of_ble_eq_true rfl) rfl ⟨rfl, rfl⟩ dX3_addMultiple_29 rfl ?_
      show vs_V _ _ _ _ _ (.int (nI (g2 (i - sh))) :: _) _
      refine vs_i2l dX3_addMultiple_32 rfl ?_
      refine vs_lmul dX3_addMultiple_33 rfl ?_
      refine vs_ladd dX3_addMultiple_34 rfl ?_
      refine vs_callV (st := [.int (nI i), .ref (G.2.2.2 + o)]) (c_ofN (k := g i + x * g2 (i - sh)) (nn_mad2 (by omega) (by omega) (by omega)) hP hP1 hP2) lk_X3_27 lm_X5_of rfl rfl rfl rfl (Nat.le_of_ble_eq_true rfl) rfl ⟨rfl, rfl⟩ dX3_addMultiple_35 rfl ?_
      show vs_V _ _ _ _ _ (.int (nI ((g i + x * g2 (i - sh)) % P)) :: _) _
      refine vs_callV (st := []) (c_setN hp hpo (k := i) (x := (g i + x * g2 (i - sh)) % P) (by omega)) lk_X3_41 lm_X3_set rfl hp.1 rfl rfl (Nat.le_of_ble_eq_true rfl) rfl ⟨rfl, rfl⟩ dX3_addMultiple_38 rfl ?_
      refine vs_eq (S2 := vs_ia S (o + 1) (nA (amk g g2 x sh P (i + 1)))) (by rw [vs_ia_ia, amk_s hs]) ?_
      refine vs_iinc (v := nI (i + 1)) [(5, .int (nI (i + 1))), (0, .ref (G.2.2.2 + o)), (1, .ref (G.2.2.2 + p)), (2, .int (nI x)), (3, .int (nI sh)), (4, .ref (G.2.2.2 + 1))] dX3_addMultiple_41 rfl 0 rfl (by first | exact nI_1 _ | (simp only [fa_lit, nI_add, pk_mul, nI_1]; rfl)) rfl rfl ?_
      refine vs_goto 3 dX3_addMultiple_44 rfl ?_
      refine vs_pick [0, 1, 2, 3, 4, 5] rfl ?_
      exact ih (i + 1) (by omega) (by omega)

theorem c_addMultiple {G : vv_G} {S : vs_S} {o : Nat} {g : Nat → Nat} (hp : vs_P o) (hg : pR S o g) {p : Nat} {g2 : Nat → Nat} (hq : vs_P p) (hg2 : pR S p g2) (hne : p ≠ o) {x sh : Nat} {P : Nat} (hP : S.1 1 0 = nI P) (hP1 : 2 ≤ P) (hP2 : P ≤ 30011) (hb : ∀ k, g k < P) (hb2 : ∀ k, g2 k < P) (hx : x < P) (hsh : sh ≤ 42) : vs_C G yX3_addMultiple cX3_addMultiple 6 none { frames := 1, locals := 24 } [.ref (G.2.2.2 + o), .ref (G.2.2.2 + p), .int (nI x), .int (nI sh), .ref (G.2.2.2 + 1)] S none (vs_ia S (o + 1) (nA (amk g g2 x sh P 42))) := by
  refine vs_of [(0, .ref (G.2.2.2 + o)), (1, .ref (G.2.2.2 + p)), (2, .int (nI x)), (3, .int (nI sh)), (4, .ref (G.2.2.2 + 1))] (by decide) rfl rfl ?_
  refine vs_iload_n 3 dX3_addMultiple_0 rfl rfl 3 rfl ?_
  refine vs_istore [(5, .int (nI sh)), (0, .ref (G.2.2.2 + o)), (1, .ref (G.2.2.2 + p)), (2, .int (nI x)), (3, .int (nI sh)), (4, .ref (G.2.2.2 + 1))] dX3_addMultiple_1 rfl rfl rfl ?_
  refine vs_pick [0, 1, 2, 3, 4, 5] rfl ?_
  refine vs_eq (S2 := vs_ia S (o + 1) (nA (amk g g2 x sh P sh))) (by rw [amk_0]; exact vs_ia_same hg.1) ?_
  exact l_am hp hg hq hg2 hne hP hP1 hP2 hb hb2 hx hsh rfl rfl (42 - sh) sh (by omega) (Nat.le_refl _)

