/-- ints by their value -/
def nZ (z : Int) : Int32 := Int32.ofInt z
theorem nZ_n (n : Nat) : nZ (n : Int) = nI n := Int32.toInt_inj.mp (by unfold nZ nI; rw [Int32.toInt_ofInt, Int32.toInt_ofNat'])
theorem nZ_of (x : Int32) : nZ x.toInt = x := Int32.ofInt_toInt x
theorem nZ_i {z : Int} (h1 : -2147483648 ≤ z) (h2 : z < 2147483648) : (nZ z).toInt = z := Int32.toInt_ofInt_of_le h1 h2
theorem nZ_add (a b : Int) : nZ a + nZ b = nZ (a + b) := (Int32.ofInt_add a b).symm
theorem nZ_sub (a b : Int) : nZ a - nZ b = nZ (a - b) := (Int32.ofInt_sub a b).symm
theorem nZ_mul (a b : Int) : nZ a * nZ b = nZ (a * b) := (Int32.ofInt_mul a b).symm
theorem nZ_neg (a : Int) : -nZ a = nZ (-a) := (Int32.ofInt_neg a).symm
theorem nI_Z (n : Nat) : nI n = nZ n := (nZ_n n).symm
theorem nZ_le {a b : Int} (h1 : -2147483648 ≤ a) (h2 : a < 2147483648) (h3 : -2147483648 ≤ b) (h4 : b < 2147483648) : nZ a ≤ nZ b ↔ a ≤ b := by rw [fa_le, nZ_i h1 h2, nZ_i h3 h4]
theorem nZ_lt {a b : Int} (h1 : -2147483648 ≤ a) (h2 : a < 2147483648) (h3 : -2147483648 ≤ b) (h4 : b < 2147483648) : nZ a < nZ b ↔ a < b := by rw [fa_lt, nZ_i h1 h2, nZ_i h3 h4]
theorem nZ_eq {a b : Int} (h1 : -2147483648 ≤ a) (h2 : a < 2147483648) (h3 : -2147483648 ≤ b) (h4 : b < 2147483648) : nZ a = nZ b ↔ a = b := by rw [← Int32.toInt_inj, nZ_i h1 h2, nZ_i h3 h4]
theorem nZ_lit (n : Nat) : (OfNat.ofNat n : Int32) = nZ (n : Int) := (nZ_n n).symm
theorem nI_i {n : Nat} (h : n < 2147483648) : (nI n).toInt = (n : Int) := nI_toInt h
theorem nI_n0 {n : Nat} (h : n < 2147483648) : nI n = 0 ↔ n = 0 := nI_eq (a := n) (b := 0) h (by decide)
/-- int arrays by their contents as numbers -/
def nA (g : Nat → Nat) : Nat → Int32 := fun k => nI (g k)
def nu (g : Nat → Nat) (k x : Nat) : Nat → Nat := fun j => if j = k then x else g j
theorem nu_s {g : Nat → Nat} {k x : Nat} : nu g k x k = x := if_pos rfl
theorem nu_n {g : Nat → Nat} {k x j : Nat} (h : j ≠ k) : nu g k x j = g j := if_neg h
theorem nA_upd {g : Nat → Nat} {k x : Nat} : upd (nA g) k (nI x) = nA (nu g k x) := by
  funext j
  unfold upd nA nu
  by_cases h : j = k <;> simp [h]
section VSN
variable {G : vv_G} {cc : ByteArray} {M : vv_M} {pc q : Nat} {L : List (Nat × Value)} {st : List Value} {S : vs_S}
theorem vs_ialdN {o k N : Nat} {i : Int32} {g : Nat → Nat} (hg : S.2.1 o = nA g) (hT : vs_T[o]? = some (.inl (0, N))) (hi : i = nI k) (hk : k < N) (hN : Nat.blt N 2147483648 = true) (hd : decode cc pc = .ok (.iaload, 1)) (hq : pc + 1 = q) (kk : vs_V G cc M q L (.int (nI (g k)) :: st) S) : vs_V G cc M pc L (.int i :: .ref (G.2.2.2 + o) :: st) S := by
  refine vs_iald hT hi hk hN hd hq ?_
  rw [hg]
  exact kk
theorem vs_iastN {o k N x : Nat} {i : Int32} {g : Nat → Nat} (hg : S.2.1 o = nA g) (hT : vs_T[o]? = some (.inl (0, N))) (hi : i = nI k) (hk : k < N) (hN : Nat.blt N 2147483648 = true) (hd : decode cc pc = .ok (.iastore, 1)) (hq : pc + 1 = q) (kk : vs_V G cc M q L st (vs_ia S o (nA (nu g k x)))) : vs_V G cc M pc L (.int (nI x) :: .int i :: .ref (G.2.2.2 + o) :: st) S := by
  refine vs_iast hT hi hk hN hd hq ?_
  rw [hg, nA_upd]
  exact kk
theorem vs_iastU {o k N x : Nat} {i : Int32} {g : Nat → Nat} (hT : vs_T[o]? = some (.inl (0, N))) (hi : i = nI k) (hk : k < N) (hN : Nat.blt N 2147483648 = true) (hd : decode cc pc = .ok (.iastore, 1)) (hq : pc + 1 = q) (kk : vs_V G cc M q L st (vs_ia S o (nA (nu g k x)))) : vs_V G cc M pc L (.int (nI x) :: .int i :: .ref (G.2.2.2 + o) :: st) (vs_ia S o (nA g)) := by
  refine vs_iastN vs_ia_at hT hi hk hN hd hq ?_
  rw [vs_ia_ia]
  exact kk
theorem vs_cal {y : MethodName} {bytes : ByteArray} {maxL : Nat} {ret : Option FieldType} {rm : Room} {av : List Value} {r r2 : Option Value} {S1 S2 : vs_S} (h : vs_C G y bytes maxL ret rm av S r S1) (hr : r = r2) (hs : S1 = S2) : vs_C G y bytes maxL ret rm av S r2 S2 := by
  subst hr hs
  exact h
end VSN
/-- f once for each of 0 .. n - 1, in this order -/
def ff {α : Type} (f : Nat → α → α) : Nat → α → α
  | 0, x => x
  | n + 1, x => f n (ff f n x)
/-- polynomials of the class: the object's cell o, its terms behind it -/
def vs_P (o : Nat) : Prop := vs_T[o]? = some (.inr (3, [some (o + 1)])) ∧ vs_T[o + 1]? = some (.inl (0, 42))
def pR (S : vs_S) (o : Nat) (g : Nat → Nat) : Prop := S.2.1 (o + 1) = nA g ∧ ∀ k, 42 ≤ k → g k = 0
/-- the term of x^z -/
def pz (g : Nat → Nat) (z : Int) : Nat := if z < 0 then 0 else g z.toNat
/-- one more than the degree, below n -/
def tp (g : Nat → Nat) : Nat → Nat
  | 0 => 0
  | n + 1 => if g n = 0 then tp g n else n + 1
theorem tp_le (g : Nat → Nat) : ∀ n, tp g n ≤ n
  | 0 => Nat.le_refl 0
  | n + 1 => by
    unfold tp
    by_cases h : g n = 0
    · rw [if_pos h]; exact Nat.le_succ_of_le (tp_le g n)
    · rw [if_neg h]; exact Nat.le_refl _
theorem pz_n {g : Nat → Nat} {k : Nat} : pz g (k : Int) = g k := by
  unfold pz
  rw [if_neg (by omega)]
  rfl
theorem pz_neg {g : Nat → Nat} {z : Int} (h : z < 0) : pz g z = 0 := if_pos h
theorem pz_lt {g : Nat → Nat} {z : Int} {P : Nat} (hP : 0 < P) (h : ∀ k, g k < P) : pz g z < P := by
  unfold pz
  by_cases h1 : z < 0
  · rw [if_pos h1]; exact hP
  · rw [if_neg h1]; exact h _
