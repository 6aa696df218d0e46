theorem fa_lit (n : Nat) : (OfNat.ofNat n : Int32) = nI n := rfl
theorem fa_litL (n : Nat) : (OfNat.ofNat n : Int64) = lN n := rfl
theorem fa_lt (a b : Int32) : a < b ↔ a.toInt < b.toInt := Int32.lt_iff_toInt_lt
theorem fa_le (a b : Int32) : a ≤ b ↔ a.toInt ≤ b.toInt := Int32.le_iff_toInt_le
theorem fb_lt (a b : Int64) : a < b ↔ a.toInt < b.toInt := Int64.lt_iff_toInt_lt
theorem fb_le (a b : Int64) : a ≤ b ↔ a.toInt ≤ b.toInt := Int64.le_iff_toInt_le
/-- the residue of a number -/
def nn_m (v : Int) (P : Nat) : Nat := (v % (P : Int)).toNat
theorem nn_m_lt {v : Int} {P : Nat} (h0 : 0 < P) : nn_m v P < P := by
  have h1 := Int.emod_lt_of_pos v (show (0 : Int) < P by omega)
  have h2 := Int.emod_nonneg v (show (P : Int) ≠ 0 by omega)
  unfold nn_m
  omega
theorem nn_m_int {v : Int} {P : Nat} (h0 : 0 < P) : ((nn_m v P : Nat) : Int) = v % (P : Int) := by
  have h2 := Int.emod_nonneg v (show (P : Int) ≠ 0 by omega)
  unfold nn_m
  omega
theorem nn_m_nat (a P : Nat) : nn_m (a : Int) P = a % P := by
  unfold nn_m
  rw [← Int.natCast_emod]
  rfl
theorem nn_bmod {x : Int} (h1 : -9223372036854775808 ≤ x) (h2 : x < 9223372036854775808) : x.bmod (2 ^ 64) = x := by
  refine Int.bmod_eq_of_le ?_ ?_ <;> omega
theorem nn_bmod32 {x : Int} (h1 : -2147483648 ≤ x) (h2 : x < 2147483648) : x.bmod (2 ^ 32) = x := by
  refine Int.bmod_eq_of_le ?_ ?_ <;> omega
theorem nn_rem (v : Int64) {P : Nat} (h0 : 0 < P) (hP : P < 2 ^ 31) : (v - v / lN P * lN P).toInt = v.toInt.tmod P := by
  have hne : lN P ≠ -1 := fun e => by
    have := congrArg Int64.toInt e
    rw [lN_toInt hP] at this
    have h3 : (-1 : Int64).toInt = -1 := rfl
    omega
  have e : (v / lN P).toInt = v.toInt.tdiv P := by rw [Int64.toInt_div_of_ne_right _ _ hne, lN_toInt hP]
  have h1 : v.toInt - v.toInt.tdiv P * P = v.toInt.tmod P := by rw [Int.tmod_def, Int.mul_comm]
  have h2 := Int.tmod_lt_of_pos v.toInt (show (0 : Int) < P by omega)
  have h3 := Int.lt_tmod_of_pos v.toInt (show (0 : Int) < P by omega)
  rw [Int64.toInt_sub, Int64.toInt_mul, e, lN_toInt hP, Int.sub_bmod_bmod, h1]
  exact nn_bmod (by omega) (by omega)
theorem nn_ne0 {P : Nat} (h0 : 0 < P) (hP : P < 2 ^ 31) : ¬ (nI P).toInt64 = 0 := fun e => by
  rw [nI_l hP] at e
  have := congrArg Int64.toInt e
  rw [lN_toInt hP] at this
  have h3 : (0 : Int64).toInt = 0 := rfl
  omega
theorem nn_tmod_neg {v : Int} {P : Nat} (h0 : 0 < P) (h : v.tmod P < 0) : v.tmod P + P = v % P := by
  have h3 := Int.lt_tmod_of_pos v (show (0 : Int) < P by omega)
  have h1 : (v.tmod P + P) % P = v % P := by
    rw [Int.add_emod_right]
    have e := Int.tmod_def v P
    rw [e, Int.sub_mul_emod_self_left]
  rw [← h1]
  exact (Int.emod_eq_of_lt (by omega) (by omega)).symm
theorem nn_tmod_pos {v : Int} {P : Nat} (h0 : 0 < P) (h : 0 ≤ v.tmod P) : v.tmod P = v % P := by
  have h2 := Int.tmod_lt_of_pos v (show (0 : Int) < P by omega)
  have h1 : (v.tmod P) % P = v % P := by
    have e := Int.tmod_def v P
    rw [e, Int.sub_mul_emod_self_left]
  rw [← h1]
  exact (Int.emod_eq_of_lt h h2).symm
/-- what both sides do to a long: the residue -/
theorem nn_restN {v r : Int64} {P : Nat} (h0 : 0 < P) (hP : P < 2 ^ 31) (hr : r = v - v / (nI P).toInt64 * (nI P).toInt64) (h : r < 0) : (r + (nI P).toInt64).toInt32 = nI (nn_m v.toInt P) := by
  rw [nI_l hP] at hr ⊢
  have e : r.toInt = v.toInt.tmod P := by rw [hr]; exact nn_rem v h0 hP
  have h' : v.toInt.tmod P < 0 := by rw [← e]; exact (fb_lt _ _).mp h
  have h1 := nn_tmod_neg h0 h'
  have h4 := nn_m_lt (v := v.toInt) h0
  have h5 := nn_m_int (v := v.toInt) h0
  apply Int32.toInt_inj.mp
  rw [Int64.toInt_toInt32, Int64.toInt_add, e, lN_toInt hP, h1, nI_toInt (by omega), h5, nn_bmod (by omega) (by omega), nn_bmod32 (by omega) (by omega)]
theorem nn_restP {v r : Int64} {P : Nat} (h0 : 0 < P) (hP : P < 2 ^ 31) (hr : r = v - v / (nI P).toInt64 * (nI P).toInt64) (h : 0 ≤ r) : r.toInt32 = nI (nn_m v.toInt P) := by
  rw [nI_l hP] at hr
  have e : r.toInt = v.toInt.tmod P := by rw [hr]; exact nn_rem v h0 hP
  have h' : 0 ≤ v.toInt.tmod P := by rw [← e]; exact (fb_le _ _).mp h
  have h1 := nn_tmod_pos h0 h'
  have h4 := nn_m_lt (v := v.toInt) h0
  have h5 := nn_m_int (v := v.toInt) h0
  apply Int32.toInt_inj.mp
  rw [Int64.toInt_toInt32, e, h1, nI_toInt (by omega), h5, nn_bmod32 (by omega) (by omega)]
theorem nn_mul {x y : Nat} (hx : x < 2 ^ 31) (hy : y < 2 ^ 31) : (nI x).toInt64 * (nI y).toInt64 = lN (x * y) := by rw [nI_l hx, nI_l hy, lN_mul]
theorem nn_mulI {x y : Nat} (hx : x < 2 ^ 31) (hy : y < 2 ^ 31) : ((nI x).toInt64 * (nI y).toInt64).toInt = (x : Int) * y := by
  rw [nn_mul hx hy, pk_lT]
  · exact Int.natCast_mul x y
  · exact Nat.lt_of_lt_of_le (Nat.mul_lt_mul'' hx hy) (by decide)
/-- the reference's product -/
theorem nn_prod {x y P : Nat} (hx : x < 2 ^ 31) (hy : y < 2 ^ 31) (h0 : 0 < P) (hP : P < 2 ^ 31) : ((nI x).toInt64 * (nI y).toInt64 - (nI x).toInt64 * (nI y).toInt64 / (nI P).toInt64 * (nI P).toInt64).toInt32 = nI (x * y % P) := by
  rw [nn_mul hx hy, nI_l hP, pk_lRem (Nat.lt_of_lt_of_le (Nat.mul_lt_mul'' hx hy) (by decide)) h0 (by omega), lN_i]
theorem nn_i2l (x : Int32) : x.toInt64.toInt = x.toInt := Int32.toInt_toInt64 x
theorem nn_01 (p : Prop) [Decidable p] : (if p then (1 : Int32) else 0) = 0 ∨ (if p then (1 : Int32) else 0) = 1 := by
  by_cases h : p <;> simp [h]
theorem nn_is0 {p : Prop} [Decidable p] : (if p then (1 : Int32) else 0) = 0 ↔ ¬ p := by
  by_cases h : p <;> simp [h]
theorem vs_ia_ia {S : vs_S} {o : Nat} {f g : Nat → Int32} : vs_ia (vs_ia S o f) o g = vs_ia S o g := by unfold vs_ia; simp only [vs_u2_u]
theorem vs_la_la {S : vs_S} {o : Nat} {f g : Nat → Int64} : vs_la (vs_la S o f) o g = vs_la S o g := by unfold vs_la; simp only [vs_u2_u]
theorem vs_ia_self {S : vs_S} {o : Nat} : vs_ia S o (S.2.1 o) = S := by unfold vs_ia; rw [vs_u2_self]
theorem vs_la_self {S : vs_S} {o : Nat} : vs_la S o (S.2.2.1 o) = S := by unfold vs_la; rw [vs_u2_self]
theorem vs_ia_at {S : vs_S} {o : Nat} {f : Nat → Int32} : (vs_ia S o f).2.1 o = f := vs_u2_s
theorem vs_ia_ne {S : vs_S} {o o' : Nat} {f : Nat → Int32} (h : o' ≠ o) : (vs_ia S o f).2.1 o' = S.2.1 o' := vs_u2_n h
theorem vs_la_at {S : vs_S} {o : Nat} {f : Nat → Int64} : (vs_la S o f).2.2.1 o = f := vs_u2_s
theorem vs_ia_c {S : vs_S} {o o' : Nat} {f g : Nat → Int32} (h : o ≠ o') : vs_ia (vs_ia S o f) o' g = vs_ia (vs_ia S o' g) o f := by unfold vs_ia; simp only [vs_u2_c h]
