def isum (a b t : Nat → Nat) (k : Nat) : Nat → Int
  | 0 => a k
  | j + 1 => isum a b t k j - (b (j + 1) : Int) * t (k - (j + 1))
/-- the first numbers of a by b, inv being 1 by b 0 -/
def ufk (a b : Nat → Nat) (inv P : Nat) : Nat → Nat → Nat
  | 0 => fun _ => 0
  | k + 1 => nu (ufk a b inv P k) k (nn_m (isum a b (ufk a b inv P k) k k) P * inv % P)
theorem ufk_b {a b : Nat → Nat} {inv P : Nat} (h0 : 0 < P) : ∀ n k, ufk a b inv P n k < P
  | 0, k => h0
  | n + 1, k => by
    unfold ufk nu
    by_cases h : k = n
    · rw [if_pos h]; exact Nat.mod_lt _ h0
    · rw [if_neg h]; exact ufk_b h0 n k
theorem ufk_z {a b : Nat → Nat} {inv P : Nat} : ∀ n k, n ≤ k → ufk a b inv P n k = 0
  | 0, k, _ => rfl
  | n + 1, k, h => by
    unfold ufk
    rw [nu_n (by omega)]
    exact ufk_z n k (by omega)
theorem nat_mul_le {x y P : Nat} (hx : x < P) (hy : y < P) : ((x : Int) * y) ≤ (P : Int) * P ∧ 0 ≤ ((x : Int) * y) := by
  have h := Nat.mul_le_mul (Nat.le_of_lt hx) (Nat.le_of_lt hy)
  constructor
  · have := Int.ofNat_le.mpr h
    simpa using this
  · exact Int.mul_nonneg (by omega) (by omega)
theorem isum_b {a b t : Nat → Nat} {P : Nat} (ha : ∀ k, a k < P) (hb : ∀ k, b k < P) (ht : ∀ k, t k < P) (k : Nat) : ∀ j, isum a b t k j ≤ P ∧ -((j : Int) * ((P : Int) * P)) ≤ isum a b t k j
  | 0 => by
    have := ha k
    unfold isum
    constructor <;> omega
  | j + 1 => by
    obtain ⟨h1, h2⟩ := isum_b ha hb ht k j
    obtain ⟨h3, h4⟩ := nat_mul_le (hb (j + 1)) (ht (k - (j + 1)))
    unfold isum
    have e : ((j + 1 : Nat) : Int) * ((P : Int) * P) = (j : Int) * ((P : Int) * P) + (P : Int) * P := by
      rw [show ((j + 1 : Nat) : Int) = (j : Int) + 1 by omega, Int.add_mul, Int.one_mul]
    rw [e]
    constructor <;> omega
theorem pp_b {P : Nat} (h : P ≤ 30011) : (P : Int) * P ≤ 900660121 ∧ 0 ≤ (P : Int) * P := by
  have h1 := Nat.mul_le_mul h h
  constructor
  · have := Int.ofNat_le.mpr h1
    simpa using this
  · exact Int.mul_nonneg (by omega) (by omega)
theorem nn_vsub {v : Int64} {x y : Nat} (hx : x < 2147483648) (hy : y < 2147483648) (h1 : -1000000000000000000 ≤ v.toInt) (h2 : v.toInt ≤ 1000000000000000000) : (v - (nI x).toInt64 * (nI y).toInt64).toInt = v.toInt - (x : Int) * y := by
  have h3 := Nat.mul_le_mul (Nat.le_of_lt hx) (Nat.le_of_lt hy)
  have h4 : ((x : Int) * y) = ((x * y : Nat) : Int) := by rw [Int.natCast_mul]
  rw [Int64.toInt_sub, nn_mulI hx hy, h4]
  exact nn_bmod (by omega) (by omega)
theorem nn_vadd {v : Int64} {x y : Nat} (hx : x < 2147483648) (hy : y < 2147483648) (h1 : -1000000000000000000 ≤ v.toInt) (h2 : v.toInt ≤ 1000000000000000000) : (v + (nI x).toInt64 * (nI y).toInt64).toInt = v.toInt + (x : Int) * y := by
  have h3 := Nat.mul_le_mul (Nat.le_of_lt hx) (Nat.le_of_lt hy)
  have h4 : ((x : Int) * y) = ((x * y : Nat) : Int) := by rw [Int.natCast_mul]
  rw [Int64.toInt_add, nn_mulI hx hy, h4]
  exact nn_bmod (by omega) (by omega)
theorem l_uf1 {G : vv_G} {S : vs_S} {o t : Nat} {a b : Nat → Nat} (hs : vs_Sh o) (ha : pR S (o + 1) a) (hb : pR S (o + 3) b) (ht : vs_P t) (hn1 : t ≠ o + 1) (hn2 : t ≠ o + 3) {P : Nat} (hP : S.1 1 0 = nI P) (hP1 : 2 ≤ P) (hP2 : P ≤ 30011) (hab : ∀ k, a k < P) (hbb : ∀ k, b k < P) {l : Nat} (hl : l ≤ 41) {k : Nat} (hk : k ≤ l) {r : Option Value} {Sf : vs_S} (K : ∀ v : Int64, v.toInt = isum a b (ufk a b (ipw (b 0) P) P k) k k → vs_V G cX7_unfoldInto (vs_M yX7_unfoldInto 9 none { frames := 2, locals := 49 } G r Sf) 82 [(8, .int (nI (k + 1))), (6, .long (v)), (5, .int (nI k)), (4, .int (nI (ipw (b 0) P))), (0, .ref (G.2.2.2 + o)), (1, .ref (G.2.2.2 + t)), (2, .int (nI l)), (3, .ref (G.2.2.2 + 1))] [] (vs_ia S (t + 1) (nA (ufk a b (ipw (b 0) P) P k)))) : ∀ d i : Nat, ∀ v : Int64, i + d = k → v.toInt = isum a b (ufk a b (ipw (b 0) P) P k) k i → vs_V G cX7_unfoldInto (vs_M yX7_unfoldInto 9 none { frames := 2, locals := 49 } G r Sf) 43 [(8, .int (nI (i + 1))), (6, .long (v)), (5, .int (nI k)), (4, .int (nI (ipw (b 0) P))), (0, .ref (G.2.2.2 + o)), (1, .ref (G.2.2.2 + t)), (2, .int (nI l)), (3, .ref (G.2.2.2 + 1))] [] (vs_ia S (t + 1) (nA (ufk a b (ipw (b 0) P) P k))) := by
  intro d
  induction d with
  | zero =>
    intro i v hi hv
    obtain rfl : i = k := by omega
    refine vs_iload dX7_unfoldInto_43 rfl 0 rfl ?_
    refine vs_iload dX7_unfoldInto_45 rfl 2 rfl ?_
    refine vs_icmp_gt 82 dX7_unfoldInto_47 rfl rfl (fun c_47 => ?_) (fun c_47 => ?_)
    · exact K v hv
    · exact absurd (nI_lt (by omega) (by omega)) c_47
  | succ d ih =>
    intro i v hi hv
    have h1 := isum_b hab hbb (ufk_b (a := a) (b := b) (inv := ipw (b 0) P) (P := P) (by omega) k) k i
    have h2 := pp_b hP2
    have h3 : (i : Int) * ((P : Int) * P) ≤ 41 * 900660121 := Int.mul_le_mul (by omega) h2.1 h2.2 (by omega)
    have hb1 := hbb (i + 1)
    have hu1 := ufk_b (a := a) (b := b) (inv := ipw (b 0) P) (P := P) (by omega) k (k - (i + 1))
    have hpb : pR (vs_ia S (t + 1) (nA (ufk a b (ipw (b 0) P) P k))) (o + 3) b := ⟨(vs_ia_ne (by omega)).trans hb.1, hb.2⟩
    have hpt : pR (vs_ia S (t + 1) (nA (ufk a b (ipw (b 0) P) P k))) t (ufk a b (ipw (b 0) P) P k) := ⟨vs_ia_at, fun j hj => ufk_z k j (by omega)⟩
    refine vs_iload dX7_unfoldInto_43 rfl 0 rfl ?_
    refine vs_iload dX7_unfoldInto_45 rfl 2 rfl ?_
    refine vs_icmp_gt 82 dX7_unfoldInto_47 rfl rfl (fun c_47 => ?_) (fun c_47 => ?_)
    · exact absurd c_47 (nI_nlt (by omega) (by omega))
    · refine vs_lload dX7_unfoldInto_50 rfl 1 rfl ?_
      refine vs_aload_n 0 dX7_unfoldInto_52 rfl rfl 4 rfl ?_
      refine vs_get (v := .ref (G.2.2.2 + (o + 3))) lf_X7_16 hs.1 rfl dX7_unfoldInto_53 rfl ?_
      refine vs_iload dX7_unfoldInto_56 rfl 0 rfl ?_
      refine vs_callV (st := [.long (v)]) (c_atN hs.2.2 hpb (k := i + 1) (by omega)) lk_X7_27 lm_X3_at rfl hs.2.2.1 rfl rfl (Nat.le_of_ble_eq_true rfl) rfl ⟨rfl, rfl⟩ dX7_unfoldInto_58 rfl ?_
      show vs_V _ _ _ _ _ (.int (nI (b (i + 1))) :: _) _
      refine vs_i2l dX7_unfoldInto_61 rfl ?_
      refine vs_aload_n 1 dX7_unfoldInto_62 rfl rfl 5 rfl ?_
      refine vs_iload dX7_unfoldInto_63 rfl 2 rfl ?_
      refine vs_iload dX7_unfoldInto_65 rfl 0 rfl ?_
      refine vs_isub dX7_unfoldInto_67 rfl ?_
      refine vs_topi (fun z1 e_z1 => ?_)
      have f_z1 : z1 = nI (k - (i + 1)) := (by rw [e_z1]; exact pk_sub (by omega))
      subst f_z1
      clear e_z1
      refine vs_callV (st := [.long ((nI (b (i + 1))).toInt64), .long (v)]) (c_atN ht hpt (k := k - (i + 1)) (by omega)) lk_X7_27 lm_X3_at rfl ht.1 rfl rfl (Nat.le_of_ble_eq_true rfl) rfl ⟨rfl, rfl⟩ dX7_unfoldInto_68 rfl ?_
      show vs_V _ _ _ _ _ (.int (nI ((ufk a b (ipw (b 0) P) P k) (k - (i + 1)))) :: _) _
      refine vs_i2l dX7_unfoldInto_71 rfl ?_
      refine vs_lmul dX7_unfoldInto_72 rfl ?_
      refine vs_lsub dX7_unfoldInto_73 rfl ?_
      refine vs_topl (fun x2 e_x2 => ?_)
      refine vs_lstore [(6, .long (x2)), (8, .int (nI (i + 1))), (5, .int (nI k)), (4, .int (nI (ipw (b 0) P))), (0, .ref (G.2.2.2 + o)), (1, .ref (G.2.2.2 + t)), (2, .int (nI l)), (3, .ref (G.2.2.2 + 1))] dX7_unfoldInto_74 rfl rfl rfl ?_
      refine vs_iinc (v := nI (i + 1 + 1)) [(8, .int (nI (i + 1 + 1))), (6, .long (x2)), (5, .int (nI k)), (4, .int (nI (ipw (b 0) P))), (0, .ref (G.2.2.2 + o)), (1, .ref (G.2.2.2 + t)), (2, .int (nI l)), (3, .ref (G.2.2.2 + 1))] dX7_unfoldInto_76 rfl 1 rfl (nI_1 _) rfl rfl ?_
      refine vs_goto 43 dX7_unfoldInto_79 rfl ?_
      refine vs_pick [0, 1, 2, 3, 4, 5, 6, 7] rfl ?_
      exact ih (i + 1) _ (by omega) (by rw [e_x2, nn_vsub (by omega) (by omega) (by omega) (by omega), hv]; rfl)

theorem l_uf {G : vv_G} {S : vs_S} {o t : Nat} {a b : Nat → Nat} (hs : vs_Sh o) (ha : pR S (o + 1) a) (hb : pR S (o + 3) b) (ht : vs_P t) (hn1 : t ≠ o + 1) (hn2 : t ≠ o + 3) {P : Nat} (hP : S.1 1 0 = nI P) (hP1 : 2 ≤ P) (hP2 : P ≤ 30011) (hab : ∀ k, a k < P) (hbb : ∀ k, b k < P) {l : Nat} (hl : l ≤ 41) {r : Option Value} {Sf : vs_S} (hr : r = none) (hS : vs_ia S (t + 1) (nA (ufk a b (ipw (b 0) P) P (l + 1))) = Sf) : ∀ d k : Nat, k + d = l + 1 → vs_V G cX7_unfoldInto (vs_M yX7_unfoldInto 9 none { frames := 2, locals := 49 } G r Sf) 22 [(5, .int (nI k)), (4, .int (nI (ipw (b 0) P))), (0, .ref (G.2.2.2 + o)), (1, .ref (G.2.2.2 + t)), (2, .int (nI l)), (3, .ref (G.2.2.2 + 1))] [] (vs_ia S (t + 1) (nA (ufk a b (ipw (b 0) P) P k))) := by
  intro d
  induction d with
  | zero =>
    intro k hi
    obtain rfl : k = l + 1 := by omega
    refine vs_iload dX7_unfoldInto_22 rfl 0 rfl ?_
    refine vs_iload_n 2 dX7_unfoldInto_24 rfl rfl 4 rfl ?_
    refine vs_icmp_gt 106 dX7_unfoldInto_25 rfl rfl (fun c_25 => ?_) (fun c_25 => ?_)
    · exact vs_vret dX7_unfoldInto_106 hr hS
    · exact absurd (nI_lt (by omega) (by omega)) c_25
  | succ d ih =>
    intro k hi
    have hak := hab k
    have hpa : pR (vs_ia S (t + 1) (nA (ufk a b (ipw (b 0) P) P k))) (o + 1) a := ⟨(vs_ia_ne (by omega)).trans ha.1, ha.2⟩
    have hpt : pR (vs_ia S (t + 1) (nA (ufk a b (ipw (b 0) P) P k))) t (ufk a b (ipw (b 0) P) P k) := ⟨vs_ia_at, fun j hj => ufk_z k j (by omega)⟩
    have hii := ipw_lt (a := b 0) hP1
    refine vs_iload dX7_unfoldInto_22 rfl 0 rfl ?_
    refine vs_iload_n 2 dX7_unfoldInto_24 rfl rfl 4 rfl ?_
    refine vs_icmp_gt 106 dX7_unfoldInto_25 rfl rfl (fun c_25 => ?_) (fun c_25 => ?_)
    · exact absurd c_25 (nI_nlt (by omega) (by omega))
    · refine vs_aload_n 0 dX7_unfoldInto_28 rfl rfl 2 rfl ?_
      refine vs_get (v := .ref (G.2.2.2 + (o + 1))) lf_X7_10 hs.1 rfl dX7_unfoldInto_29 rfl ?_
      refine vs_iload dX7_unfoldInto_32 rfl 0 rfl ?_
      refine vs_callV (st := []) (c_atN hs.2.1 hpa (k := k) (by omega)) lk_X7_27 lm_X3_at rfl hs.2.1.1 rfl rfl (Nat.le_of_ble_eq_true rfl) rfl ⟨rfl, rfl⟩ dX7_unfoldInto_34 rfl ?_
      show vs_V _ _ _ _ _ (.int (nI (a k)) :: _) _
      refine vs_i2l dX7_unfoldInto_37 rfl ?_
      refine vs_topl (fun v0 e_v0 => ?_)
      refine vs_lstore [(6, .long (v0)), (5, .int (nI k)), (4, .int (nI (ipw (b 0) P))), (0, .ref (G.2.2.2 + o)), (1, .ref (G.2.2.2 + t)), (2, .int (nI l)), (3, .ref (G.2.2.2 + 1))] dX7_unfoldInto_38 rfl rfl rfl ?_
      refine vs_iconst (v := 1) dX7_unfoldInto_40 rfl rfl ?_
      refine vs_istore [(8, .int (1)), (6, .long (v0)), (5, .int (nI k)), (4, .int (nI (ipw (b 0) P))), (0, .ref (G.2.2.2 + o)), (1, .ref (G.2.2.2 + t)), (2, .int (nI l)), (3, .ref (G.2.2.2 + 1))] dX7_unfoldInto_41 rfl rfl rfl ?_
      refine vs_pick (L2 := [(8, .int (nI (0 + 1))), (6, .long (v0)), (5, .int (nI k)), (4, .int (nI (ipw (b 0) P))), (0, .ref (G.2.2.2 + o)), (1, .ref (G.2.2.2 + t)), (2, .int (nI l)), (3, .ref (G.2.2.2 + 1))]) [0, 1, 2, 3, 4, 5, 6, 7] rfl ?_
      refine l_uf1 hs ha hb ht hn1 hn2 hP hP1 hP2 hab hbb hl (by omega) (fun v hv => ?_) k 0 v0 (by omega) (by rw [e_v0, nn_i2l, nI_i (by omega)]; rfl)
      have hnm := nn_m_lt (v := isum a b (ufk a b (ipw (b 0) P) P k) k k) (P := P) (by omega)
      refine vs_aload_n 1 dX7_unfoldInto_82 rfl rfl 5 rfl ?_
      refine vs_iload dX7_unfoldInto_83 rfl 2 rfl ?_
      refine vs_aload_n 3 dX7_unfoldInto_85 rfl rfl 7 rfl ?_
      refine vs_aload_n 3 dX7_unfoldInto_86 rfl rfl 7 rfl ?_
      refine vs_lload dX7_unfoldInto_87 rfl 1 rfl ?_
      refine vs_callV (st := [.ref (G.2.2.2 + 1), .int (nI k), .ref (G.2.2.2 + t)]) (c_ofZ hv hP hP1 hP2) lk_X7_36 lm_X5_of rfl rfl rfl rfl (Nat.le_of_ble_eq_true rfl) rfl ⟨rfl, rfl⟩ dX7_unfoldInto_89 rfl ?_
      show vs_V _ _ _ _ _ (.int (nI (nn_m (isum a b (ufk a b (ipw (b 0) P) P k) k k) P)) :: _) _
      refine vs_iload dX7_unfoldInto_92 rfl 3 rfl ?_
      refine vs_callV (st := [.int (nI k), .ref (G.2.2.2 + t)]) (c_rproduct (x := nn_m (isum a b (ufk a b (ipw (b 0) P) P k) k k) P) (y := ipw (b 0) P) hP hP1 (by omega) (by omega) (by omega)) lk_X7_40 lm_X5_product rfl rfl rfl rfl (Nat.le_of_ble_eq_true rfl) rfl ⟨rfl, rfl⟩ dX7_unfoldInto_94 rfl ?_
      show vs_V _ _ _ _ _ (.int (nI (nn_m (isum a b (ufk a b (ipw (b 0) P) P k) k k) P * ipw (b 0) P % P)) :: _) _
      refine vs_callV (st := []) (c_setN ht hpt (k := k) (x := nn_m (isum a b (ufk a b (ipw (b 0) P) P k) k k) P * ipw (b 0) P % P) (by omega)) lk_X7_44 lm_X3_set rfl ht.1 rfl rfl (Nat.le_of_ble_eq_true rfl) rfl ⟨rfl, rfl⟩ dX7_unfoldInto_97 rfl ?_
      refine vs_eq (S2 := vs_ia S (t + 1) (nA (ufk a b (ipw (b 0) P) P (k + 1)))) (by rw [vs_ia_ia]; rfl) ?_
      refine vs_iinc (v := nI (k + 1)) [(5, .int (nI (k + 1))), (8, .int (nI (k + 1))), (6, .long (v)), (4, .int (nI (ipw (b 0) P))), (0, .ref (G.2.2.2 + o)), (1, .ref (G.2.2.2 + t)), (2, .int (nI l)), (3, .ref (G.2.2.2 + 1))] dX7_unfoldInto_100 rfl 2 rfl (by first | exact nI_1 _ | (simp only [fa_lit, nI_add, pk_mul, nI_1]; rfl)) rfl rfl ?_
      refine vs_goto 22 dX7_unfoldInto_103 rfl ?_
      refine vs_pick [0, 3, 4, 5, 6, 7] rfl ?_
      exact ih (k + 1) (by omega)

theorem c_unfoldInto {G : vv_G} {S : vs_S} {o t : Nat} {a b : Nat → Nat} (hs : vs_Sh o) (ha : pR S (o + 1) a) (hb : pR S (o + 3) b) (ht : vs_P t) (hn1 : t ≠ o + 1) (hn2 : t ≠ o + 3) {P : Nat} (hP : S.1 1 0 = nI P) (hP1 : 2 ≤ P) (hP2 : P ≤ 30011) (hab : ∀ k, a k < P) (hbb : ∀ k, b k < P) {l : Nat} (hl : l ≤ 41) {g0 : Nat → Nat} (hg0 : pR S t g0) : vs_C G yX7_unfoldInto cX7_unfoldInto 9 none { frames := 2, locals := 49 } [.ref (G.2.2.2 + o), .ref (G.2.2.2 + t), .int (nI l), .ref (G.2.2.2 + 1)] S none (vs_ia S (t + 1) (nA (ufk a b (ipw (b 0) P) P (l + 1)))) := by
  refine vs_of [(0, .ref (G.2.2.2 + o)), (1, .ref (G.2.2.2 + t)), (2, .int (nI l)), (3, .ref (G.2.2.2 + 1))] (by decide) rfl rfl ?_
  have e00 : pcon 0 = fun _ => 0 := funext fun k => ite_self _
  have hpb : pR (vs_ia S (t + 1) (nA (ufk a b (ipw (b 0) P) P 0))) (o + 3) b := ⟨(vs_ia_ne (by omega)).trans hb.1, hb.2⟩
  refine vs_aload_n 1 dX7_unfoldInto_0 rfl rfl 1 rfl ?_
  refine vs_iconst (v := 0) dX7_unfoldInto_1 rfl rfl ?_
  refine vs_callV (st := []) (c_becomeNumber ht hg0 (x := 0)) lk_X7_19 lm_X3_becomeNumber rfl ht.1 rfl rfl (Nat.le_of_ble_eq_true rfl) rfl ⟨rfl, rfl⟩ dX7_unfoldInto_2 rfl ?_
  refine vs_eq (S2 := vs_ia S (t + 1) (nA (ufk a b (ipw (b 0) P) P 0))) (by rw [e00]; rfl) ?_
  refine vs_aload_n 3 dX7_unfoldInto_5 rfl rfl 3 rfl ?_
  refine vs_aload_n 0 dX7_unfoldInto_6 rfl rfl 0 rfl ?_
  refine vs_get (v := .ref (G.2.2.2 + (o + 3))) lf_X7_16 hs.1 rfl dX7_unfoldInto_7 rfl ?_
  refine vs_iconst (v := 0) dX7_unfoldInto_10 rfl rfl ?_
  refine vs_callV (st := [.ref (G.2.2.2 + 1)]) (c_atN hs.2.2 hpb (k := 0) (by omega)) lk_X7_27 lm_X3_at rfl hs.2.2.1 rfl rfl (Nat.le_of_ble_eq_true rfl) rfl ⟨rfl, rfl⟩ dX7_unfoldInto_11 rfl ?_
  show vs_V _ _ _ _ _ (.int (nI (b 0)) :: _) _
  refine vs_callV (st := []) (c_rinverse (a := b 0) hP hP1 hP2 (hbb 0)) lk_X7_31 lm_X5_inverse rfl rfl rfl rfl (Nat.le_of_ble_eq_true rfl) rfl ⟨rfl, rfl⟩ dX7_unfoldInto_14 rfl ?_
  show vs_V _ _ _ _ _ (.int (nI (ipw (b 0) P)) :: _) _
  refine vs_istore [(4, .int (nI (ipw (b 0) P))), (0, .ref (G.2.2.2 + o)), (1, .ref (G.2.2.2 + t)), (2, .int (nI l)), (3, .ref (G.2.2.2 + 1))] dX7_unfoldInto_17 rfl rfl rfl ?_
  refine vs_iconst (v := 0) dX7_unfoldInto_19 rfl rfl ?_
  refine vs_istore [(5, .int (0)), (4, .int (nI (ipw (b 0) P))), (0, .ref (G.2.2.2 + o)), (1, .ref (G.2.2.2 + t)), (2, .int (nI l)), (3, .ref (G.2.2.2 + 1))] dX7_unfoldInto_20 rfl rfl rfl ?_
  refine vs_pick (L2 := [(5, .int (nI 0)), (4, .int (nI (ipw (b 0) P))), (0, .ref (G.2.2.2 + o)), (1, .ref (G.2.2.2 + t)), (2, .int (nI l)), (3, .ref (G.2.2.2 + 1))]) [0, 1, 2, 3, 4, 5] rfl ?_
  exact l_uf hs ha hb ht hn1 hn2 hP hP1 hP2 hab hbb hl rfl rfl (l + 1) 0 (by omega)

def fidx (f : Nat → Nat) (x : Nat) : Nat → Nat → Int
  | 0, _ => -1
  | d + 1, i => if f i = x then i else fidx f x d (i + 1)
theorem l_indexOf {G : vv_G} {S : vs_S} {n : Nat} {px py : Nat → Nat} (hn : S.1 4 2 = nI n) (hn2 : n ≤ 20) (hx : S.2.1 5 = nA px) (hy : S.2.1 6 = nA py) {x : Nat} (hx2 : x < 2147483648) (hb : ∀ k, px k < 2147483648) {r : Option Value} {Sf : vs_S} (hS : S = Sf) : ∀ d i : Nat, i + d = n → r = some (.int (nZ (fidx px x d i))) → vs_V G cX2_indexOf (vs_M yX2_indexOf 3 (some .int) { frames := 0, locals := 0 } G r Sf) 2 [(2, .int (nI i)), (0, .ref (G.2.2.2 + 4)), (1, .int (nI x))] [] S := by
  intro d
  induction d with
  | zero =>
    intro i hi hr
    obtain rfl : i = n := by omega
    refine vs_iload_n 2 dX2_indexOf_2 rfl rfl 0 rfl ?_
    refine vs_aload_n 0 dX2_indexOf_3 rfl rfl 1 rfl ?_
    refine vs_get (v := .int (nI i)) lf_X2_18 rfl (congrArg (fun z => some (Value.int z)) hn) dX2_indexOf_4 rfl ?_
    refine vs_icmp_ge 34 dX2_indexOf_7 rfl rfl (fun c_7 => ?_) (fun c_7 => ?_)
    · refine vs_iconst (v := -1) dX2_indexOf_34 rfl rfl ?_
      exact vs_iret dX2_indexOf_35 hr hS
    · exact absurd (nI_le (Nat.le_refl _) (by omega)) c_7
  | succ d ih =>
    intro i hi hr
    have hbi := hb i
    refine vs_iload_n 2 dX2_indexOf_2 rfl rfl 0 rfl ?_
    refine vs_aload_n 0 dX2_indexOf_3 rfl rfl 1 rfl ?_
    refine vs_get (v := .int (nI n)) lf_X2_18 rfl (congrArg (fun z => some (Value.int z)) hn) dX2_indexOf_4 rfl ?_
    refine vs_icmp_ge 34 dX2_indexOf_7 rfl rfl (fun c_7 => ?_) (fun c_7 => ?_)
    · exact absurd c_7 (nI_ge (by omega) (by omega))
    · refine vs_iload_n 2 dX2_indexOf_10 rfl rfl 0 rfl ?_
      refine vs_bipush (v := 20) dX2_indexOf_11 rfl rfl ?_
      refine vs_icmp_ge 34 dX2_indexOf_13 rfl rfl (fun c_13 => ?_) (fun c_13 => ?_)
      · exact absurd c_13 (nI_ge (show i < 20 by omega) (by decide))
      · refine vs_aload_n 0 dX2_indexOf_16 rfl rfl 1 rfl ?_
        refine vs_get (v := .ref (G.2.2.2 + 5)) lf_X2_9 rfl rfl dX2_indexOf_17 rfl ?_
        refine vs_iload_n 2 dX2_indexOf_20 rfl rfl 0 rfl ?_
        refine vs_ialdN (g := px) (k := i) hx rfl (by first | rfl | (simp only [fa_lit, nI_add, pk_mul, nI_1]; done) | omega) (by omega) rfl dX2_indexOf_21 rfl ?_
        refine vs_iload_n 1 dX2_indexOf_22 rfl rfl 2 rfl ?_
        refine vs_icmp_ne 28 dX2_indexOf_23 rfl rfl (fun c_23 => ?_) (fun c_23 => ?_)
        · have hf : fidx px x (d + 1) i = fidx px x d (i + 1) := if_neg (fun e => c_23 (by rw [e]))
          refine vs_iinc (v := nI (i + 1)) [(2, .int (nI (i + 1))), (0, .ref (G.2.2.2 + 4)), (1, .int (nI x))] dX2_indexOf_28 rfl 0 rfl (by first | exact nI_1 _ | (simp only [fa_lit, nI_add, pk_mul, nI_1]; rfl)) rfl rfl ?_
          refine vs_goto 2 dX2_indexOf_31 rfl ?_
          exact ih (i + 1) (by omega) (by rw [hr, hf])
        · have hf : fidx px x (d + 1) i = i := if_pos ((nI_eq (by omega) (by omega)).mp c_23)
          refine vs_iload_n 2 dX2_indexOf_26 rfl rfl 0 rfl ?_
          exact vs_iret dX2_indexOf_27 (by rw [hr, hf, nI_Z]) hS

theorem c_indexOf {G : vv_G} {S : vs_S} {n : Nat} {px py : Nat → Nat} (hn : S.1 4 2 = nI n) (hn2 : n ≤ 20) (hx : S.2.1 5 = nA px) (hy : S.2.1 6 = nA py) {x : Nat} (hx2 : x < 2147483648) (hb : ∀ k, px k < 2147483648) : vs_C G yX2_indexOf cX2_indexOf 3 (some .int) { frames := 0, locals := 0 } [.ref (G.2.2.2 + 4), .int (nI x)] S (some (.int (nZ (fidx px x n 0)))) S := by
  refine vs_of [(0, .ref (G.2.2.2 + 4)), (1, .int (nI x))] (by decide) rfl rfl ?_
  refine vs_iconst (v := 0) dX2_indexOf_0 rfl rfl ?_
  refine vs_istore_n 2 [(2, .int (0)), (0, .ref (G.2.2.2 + 4)), (1, .int (nI x))] dX2_indexOf_1 rfl rfl rfl rfl ?_
  refine vs_pick (L2 := [(2, .int (nI 0)), (0, .ref (G.2.2.2 + 4)), (1, .int (nI x))]) [0, 1, 2] rfl ?_
  exact l_indexOf hn hn2 hx hy hx2 hb rfl n 0 (by omega) rfl

theorem c_heightAt {G : vv_G} {S : vs_S} {py : Nat → Nat} (hy : S.2.1 6 = nA py) {k : Nat} (hk : k < 20) : vs_C G yX2_heightAt cX2_heightAt 2 (some .int) { frames := 0, locals := 0 } [.ref (G.2.2.2 + 4), .int (nI k)] S (some (.int (nI (py k)))) S := by
  refine vs_of [(0, .ref (G.2.2.2 + 4)), (1, .int (nI k))] (by decide) rfl rfl ?_
  refine vs_iload_n 1 dX2_heightAt_0 rfl rfl 1 rfl ?_
  refine vs_if_lt 19 dX2_heightAt_1 rfl rfl (fun c_1 => ?_) (fun c_1 => ?_)
  · exact absurd c_1 (nI_pos (by omega))
  · refine vs_iload_n 1 dX2_heightAt_4 rfl rfl 1 rfl ?_
    refine vs_bipush (v := 20) dX2_heightAt_5 rfl rfl ?_
    refine vs_icmp_ge 19 dX2_heightAt_7 rfl rfl (fun c_7 => ?_) (fun c_7 => ?_)
    · exact absurd c_7 (nI_ge (show k < 20 by omega) (by decide))
    · refine vs_aload_n 0 dX2_heightAt_10 rfl rfl 0 rfl ?_
      refine vs_get (v := .ref (G.2.2.2 + 6)) lf_X2_15 rfl rfl dX2_heightAt_11 rfl ?_
      refine vs_iload_n 1 dX2_heightAt_14 rfl rfl 1 rfl ?_
      refine vs_ialdN (g := py) (k := k) hy rfl (by first | rfl | (simp only [fa_lit, nI_add, pk_mul, nI_1]; done) | omega) (by omega) rfl dX2_heightAt_15 rfl ?_
      refine vs_goto 20 dX2_heightAt_16 rfl ?_
      exact vs_iret dX2_heightAt_20 rfl rfl

theorem c_add {G : vv_G} {S : vs_S} {n : Nat} {px py : Nat → Nat} (hn : S.1 4 2 = nI n) (hn2 : n < 20) (hx : S.2.1 5 = nA px) (hy : S.2.1 6 = nA py) {x y : Nat} : vs_C G yX2_add cX2_add 3 none { frames := 0, locals := 0 } [.ref (G.2.2.2 + 4), .int (nI x), .int (nI y)] S none (vs_sc (vs_ia (vs_ia S 5 (nA (nu px n x))) 6 (nA (nu py n y))) 4 2 (nI (n + 1))) := by
  refine vs_of [(0, .ref (G.2.2.2 + 4)), (1, .int (nI x)), (2, .int (nI y))] (by decide) rfl rfl ?_
  refine vs_aload_n 0 dX2_add_0 rfl rfl 0 rfl ?_
  refine vs_get (v := .int (nI n)) lf_X2_18 rfl (congrArg (fun z => some (Value.int z)) hn) dX2_add_1 rfl ?_
  refine vs_bipush (v := 20) dX2_add_4 rfl rfl ?_
  refine vs_icmp_ge 39 dX2_add_6 rfl rfl (fun c_6 => ?_) (fun c_6 => ?_)
  · exact absurd c_6 (nI_ge (show n < 20 by omega) (by decide))
  · refine vs_aload_n 0 dX2_add_9 rfl rfl 0 rfl ?_
    refine vs_get (v := .ref (G.2.2.2 + 5)) lf_X2_9 rfl rfl dX2_add_10 rfl ?_
    refine vs_aload_n 0 dX2_add_13 rfl rfl 0 rfl ?_
    refine vs_get (v := .int (nI n)) lf_X2_18 rfl (congrArg (fun z => some (Value.int z)) hn) dX2_add_14 rfl ?_
    refine vs_iload_n 1 dX2_add_17 rfl rfl 1 rfl ?_
    refine vs_iastN (k := n) hx rfl (by first | rfl | (simp only [fa_lit, nI_add, pk_mul, nI_1]; done) | omega) (by omega) rfl dX2_add_18 rfl ?_
    refine vs_aload_n 0 dX2_add_19 rfl rfl 0 rfl ?_
    refine vs_get (v := .ref (G.2.2.2 + 6)) lf_X2_15 rfl rfl dX2_add_20 rfl ?_
    refine vs_aload_n 0 dX2_add_23 rfl rfl 0 rfl ?_
    refine vs_get (v := .int (nI n)) lf_X2_18 rfl (congrArg (fun z => some (Value.int z)) hn) dX2_add_24 rfl ?_
    refine vs_iload_n 2 dX2_add_27 rfl rfl 2 rfl ?_
    refine vs_iastN (k := n) hy rfl (by first | rfl | (simp only [fa_lit, nI_add, pk_mul, nI_1]; done) | omega) (by omega) rfl dX2_add_28 rfl ?_
    refine vs_aload_n 0 dX2_add_29 rfl rfl 0 rfl ?_
    refine vs_dup dX2_add_30 rfl rfl ?_
    refine vs_get (v := .int (nI n)) lf_X2_18 rfl (congrArg (fun z => some (Value.int z)) hn) dX2_add_31 rfl ?_
    refine vs_iconst (v := 1) dX2_add_34 rfl rfl ?_
    refine vs_iadd dX2_add_35 rfl ?_
    refine vs_topi (fun z1 e_z1 => ?_)
    have f_z1 : z1 = nI (n + 1) := (by rw [e_z1]; exact nI_1 _)
    subst f_z1
    clear e_z1
    refine vs_put lf_X2_18 rfl rfl rfl rfl dX2_add_36 rfl ?_
    exact vs_vret dX2_add_39 rfl rfl

def mx2 (f g : Nat → Int64) (h : Int64) : Nat → Int64
  | 0 => h
  | i + 1 => 31 * (31 * mx2 f g h i + f i) + g i
theorem l_ptmix {G : vv_G} {S : vs_S} {n : Nat} {px py : Nat → Nat} (hn : S.1 4 2 = nI n) (hn2 : n ≤ 20) (hx : S.2.1 5 = nA px) (hy : S.2.1 6 = nA py) {h : Int64} {r : Option Value} {Sf : vs_S} (hr : r = some (.long (mx2 (fun k => (nI (px k)).toInt64) (fun k => (nI (py k)).toInt64) h n))) (hS : S = Sf) : ∀ d i : Nat, i + d = n → vs_V G cX2_mixedInto (vs_M yX2_mixedInto 6 (some .long) { frames := 1, locals := 23 } G r Sf) 5 [(5, .int (nI i)), (3, .long (mx2 (fun k => (nI (px k)).toInt64) (fun k => (nI (py k)).toInt64) h i)), (0, .ref (G.2.2.2 + 4)), (1, .long (h))] [] S := by
  intro d
  induction d with
  | zero =>
    intro i hi
    obtain rfl : i = n := by omega
    refine vs_iload dX2_mixedInto_5 rfl 0 rfl ?_
    refine vs_aload_n 0 dX2_mixedInto_7 rfl rfl 2 rfl ?_
    refine vs_get (v := .int (nI i)) lf_X2_18 rfl (congrArg (fun z => some (Value.int z)) hn) dX2_mixedInto_8 rfl ?_
    refine vs_icmp_ge 51 dX2_mixedInto_11 rfl rfl (fun c_11 => ?_) (fun c_11 => ?_)
    · refine vs_lload_n 3 dX2_mixedInto_51 rfl rfl 1 rfl ?_
      exact vs_lret dX2_mixedInto_52 hr hS
    · exact absurd (nI_le (Nat.le_refl _) (by omega)) c_11
  | succ d ih =>
    intro i hi
    refine vs_iload dX2_mixedInto_5 rfl 0 rfl ?_
    refine vs_aload_n 0 dX2_mixedInto_7 rfl rfl 2 rfl ?_
    refine vs_get (v := .int (nI n)) lf_X2_18 rfl (congrArg (fun z => some (Value.int z)) hn) dX2_mixedInto_8 rfl ?_
    refine vs_icmp_ge 51 dX2_mixedInto_11 rfl rfl (fun c_11 => ?_) (fun c_11 => ?_)
    · exact absurd c_11 (nI_ge (by omega) (by omega))
    · refine vs_iload dX2_mixedInto_14 rfl 0 rfl ?_
      refine vs_bipush (v := 20) dX2_mixedInto_16 rfl rfl ?_
      refine vs_icmp_ge 51 dX2_mixedInto_18 rfl rfl (fun c_18 => ?_) (fun c_18 => ?_)
      · exact absurd c_18 (nI_ge (show i < 20 by omega) (by decide))
      · refine vs_lload_n 3 dX2_mixedInto_21 rfl rfl 1 rfl ?_
        refine vs_aload_n 0 dX2_mixedInto_22 rfl rfl 2 rfl ?_
        refine vs_get (v := .ref (G.2.2.2 + 5)) lf_X2_9 rfl rfl dX2_mixedInto_23 rfl ?_
        refine vs_iload dX2_mixedInto_26 rfl 0 rfl ?_
        refine vs_ialdN (g := px) (k := i) hx rfl (by first | rfl | (simp only [fa_lit, nI_add, pk_mul, nI_1]; done) | omega) (by omega) rfl dX2_mixedInto_28 rfl ?_
        refine vs_i2l dX2_mixedInto_29 rfl ?_
        refine vs_callS (st := []) (c_mixed (h := mx2 (fun k => (nI (px k)).toInt64) (fun k => (nI (py k)).toInt64) h i) (v := (nI (px i)).toInt64)) lk_X2_63 lm_X9_mixed rfl rfl (Nat.le_of_ble_eq_true rfl) rfl ⟨rfl, rfl⟩ dX2_mixedInto_30 rfl ?_
        show vs_V _ _ _ _ _ (.long (31 * mx2 (fun k => (nI (px k)).toInt64) (fun k => (nI (py k)).toInt64) h i + (nI (px i)).toInt64) :: _) _
        refine vs_aload_n 0 dX2_mixedInto_33 rfl rfl 2 rfl ?_
        refine vs_get (v := .ref (G.2.2.2 + 6)) lf_X2_15 rfl rfl dX2_mixedInto_34 rfl ?_
        refine vs_iload dX2_mixedInto_37 rfl 0 rfl ?_
        refine vs_ialdN (g := py) (k := i) hy rfl (by first | rfl | (simp only [fa_lit, nI_add, pk_mul, nI_1]; done) | omega) (by omega) rfl dX2_mixedInto_39 rfl ?_
        refine vs_i2l dX2_mixedInto_40 rfl ?_
        refine vs_callS (st := []) (c_mixed (h := 31 * mx2 (fun k => (nI (px k)).toInt64) (fun k => (nI (py k)).toInt64) h i + (nI (px i)).toInt64) (v := (nI (py i)).toInt64)) lk_X2_63 lm_X9_mixed rfl rfl (Nat.le_of_ble_eq_true rfl) rfl ⟨rfl, rfl⟩ dX2_mixedInto_41 rfl ?_
        show vs_V _ _ _ _ _ (.long (31 * (31 * mx2 (fun k => (nI (px k)).toInt64) (fun k => (nI (py k)).toInt64) h i + (nI (px i)).toInt64) + (nI (py i)).toInt64) :: _) _
        refine vs_topl (fun x1 e_x1 => ?_)
        refine vs_lstore_n 3 [(3, .long (x1)), (5, .int (nI i)), (0, .ref (G.2.2.2 + 4)), (1, .long (h))] dX2_mixedInto_44 rfl rfl rfl rfl ?_
        refine vs_iinc (v := nI (i + 1)) [(5, .int (nI (i + 1))), (3, .long (x1)), (0, .ref (G.2.2.2 + 4)), (1, .long (h))] dX2_mixedInto_45 rfl 1 rfl (by first | exact nI_1 _ | (simp only [fa_lit, nI_add, pk_mul, nI_1]; rfl)) rfl rfl ?_
        refine vs_goto 5 dX2_mixedInto_48 rfl ?_
        subst e_x1
        refine vs_pick [0, 1, 2, 3] rfl ?_
        exact ih (i + 1) (by omega)

theorem c_ptmixedInto {G : vv_G} {S : vs_S} {n : Nat} {px py : Nat → Nat} (hn : S.1 4 2 = nI n) (hn2 : n ≤ 20) (hx : S.2.1 5 = nA px) (hy : S.2.1 6 = nA py) {h : Int64} : vs_C G yX2_mixedInto cX2_mixedInto 6 (some .long) { frames := 1, locals := 23 } [.ref (G.2.2.2 + 4), .long (h)] S (some (.long (mx2 (fun k => (nI (px k)).toInt64) (fun k => (nI (py k)).toInt64) h n))) S := by
  refine vs_of [(0, .ref (G.2.2.2 + 4)), (1, .long (h))] (by decide) rfl rfl ?_
  refine vs_lload_n 1 dX2_mixedInto_0 rfl rfl 1 rfl ?_
  refine vs_lstore_n 3 [(3, .long (h)), (0, .ref (G.2.2.2 + 4)), (1, .long (h))] dX2_mixedInto_1 rfl rfl rfl rfl ?_
  refine vs_iconst (v := 0) dX2_mixedInto_2 rfl rfl ?_
  refine vs_istore [(5, .int (0)), (3, .long (h)), (0, .ref (G.2.2.2 + 4)), (1, .long (h))] dX2_mixedInto_3 rfl rfl rfl ?_
  refine vs_pick (L2 := [(5, .int (nI 0)), (3, .long (h)), (0, .ref (G.2.2.2 + 4)), (1, .long (h))]) [0, 1, 2, 3] rfl ?_
  exact l_ptmix hn hn2 hx hy rfl rfl n 0 (by omega)

