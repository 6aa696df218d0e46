def nfill {α : Type} (f : Nat → α) (v : α) (i : Nat) : Nat → α := fun k => if k < i then v else f k

theorem nfill_0 {α : Type} {f : Nat → α} {v : α} : nfill f v 0 = f := by
  funext k
  exact if_neg (by omega)
theorem nfill_s {f : Nat → Int32} {v : Int32} {i : Nat} : upd (nfill f v i) i v = nfill f v (i + 1) := by
  funext k
  unfold upd nfill
  by_cases h : k = i
  · rw [if_pos h, if_pos (by omega)]
  · rw [if_neg h]
    by_cases h2 : k < i
    · rw [if_pos h2, if_pos (by omega)]
    · rw [if_neg h2, if_neg (by omega)]
theorem nfill_sL {f : Nat → Int64} {v : Int64} {i : Nat} : vp_updL (nfill f v i) i v = nfill f v (i + 1) := by
  funext k
  unfold vp_updL nfill
  by_cases h : k = i
  · rw [if_pos h, if_pos (by omega)]
  · rw [if_neg h]
    by_cases h2 : k < i
    · rw [if_pos h2, if_pos (by omega)]
    · rw [if_neg h2, if_neg (by omega)]

theorem l_fillI {G : vv_G} {S : vs_S} {o N : Nat} {v : Int32} (hT : vs_T[o]? = some (.inl (0, N))) (hN : N < 1073741824) {r : Option Value} {Sf : vs_S} (hr : r = none) (hS : vs_ia S o (nfill (S.2.1 o) v N) = Sf) : ∀ d i, i + d = N → vs_V G cJ7_fill_53178 (vs_M yJ7_fill_53178 4 none { frames := 0, locals := 0 } G r Sf) 5 [(3, .int (nI N)), (2, .int (nI i)), (0, .ref (G.2.2.2 + o)), (1, .int (v))] [] (vs_ia S o (nfill (S.2.1 o) v i)) := by
  intro d
  induction d with
  | zero =>
    intro i hi
    obtain rfl : i = N := by omega
    refine vs_iload_n 2 dJ7_fill_53178_5 rfl rfl 1 rfl ?_
    refine vs_iload_n 3 dJ7_fill_53178_6 rfl rfl 0 rfl ?_
    refine vs_icmp_ge 20 dJ7_fill_53178_7 rfl rfl (fun c_7 => ?_) (fun c_7 => ?_)
    · exact vs_vret dJ7_fill_53178_20 hr hS
    · exact absurd (nI_le (Nat.le_refl _) (by omega)) c_7
  | succ d ih =>
    intro i hi
    refine vs_iload_n 2 dJ7_fill_53178_5 rfl rfl 1 rfl ?_
    refine vs_iload_n 3 dJ7_fill_53178_6 rfl rfl 0 rfl ?_
    refine vs_icmp_ge 20 dJ7_fill_53178_7 rfl rfl (fun c_7 => ?_) (fun c_7 => ?_)
    · exact absurd c_7 (nI_ge (by omega) (by omega))
    · refine vs_aload_n 0 dJ7_fill_53178_10 rfl rfl 2 rfl ?_
      refine vs_iload_n 2 dJ7_fill_53178_11 rfl rfl 1 rfl ?_
      refine vs_iload_n 1 dJ7_fill_53178_12 rfl rfl 3 rfl ?_
      refine vs_iast (k := i) hT rfl (by omega) (Nat.ble_eq_true_of_le (by omega)) dJ7_fill_53178_13 rfl ?_
      refine vs_eq (S2 := vs_ia S o (nfill (S.2.1 o) v (i + 1))) (by rw [vs_ia_at, nfill_s, vs_ia_ia]) ?_
      refine vs_iinc (v := nI (i + 1)) [(2, .int (nI (i + 1))), (3, .int (nI N)), (0, .ref (G.2.2.2 + o)), (1, .int (v))] dJ7_fill_53178_14 rfl 1 rfl (by first | exact nI_1 _ | (simp only [fa_lit, nI_add, pk_mul, nI_1]; rfl)) rfl rfl ?_
      refine vs_goto 5 dJ7_fill_53178_17 rfl ?_
      refine vs_pick [1, 0, 2, 3] rfl ?_
      exact ih (i + 1) (by omega)

theorem c_fillI {G : vv_G} {S : vs_S} {o N : Nat} {v : Int32} (hT : vs_T[o]? = some (.inl (0, N))) (hN : N < 1073741824) : vs_C G yJ7_fill_53178 cJ7_fill_53178 4 none { frames := 0, locals := 0 } [.ref (G.2.2.2 + o), .int (v)] S none (vs_ia S o (nfill (S.2.1 o) v N)) := by
  refine vs_of [(0, .ref (G.2.2.2 + o)), (1, .int (v))] (by decide) rfl rfl ?_
  refine vs_iconst (v := 0) dJ7_fill_53178_0 rfl rfl ?_
  refine vs_istore_n 2 [(2, .int (0)), (0, .ref (G.2.2.2 + o)), (1, .int (v))] dJ7_fill_53178_1 rfl rfl rfl rfl ?_
  refine vs_aload_n 0 dJ7_fill_53178_2 rfl rfl 1 rfl ?_
  refine vs_alen hT dJ7_fill_53178_3 rfl ?_
  refine vs_topi (fun z1 e_z1 => ?_)
  have f_z1 : z1 = nI N := e_z1
  subst f_z1
  clear e_z1
  refine vs_istore_n 3 [(3, .int (nI N)), (2, .int (0)), (0, .ref (G.2.2.2 + o)), (1, .int (v))] dJ7_fill_53178_4 rfl rfl rfl rfl ?_
  refine vs_pick [0, 1, 2, 3] rfl ?_
  refine vs_eq (S2 := vs_ia S o (nfill (S.2.1 o) v 0)) (by rw [nfill_0, vs_ia_self]) ?_
  exact l_fillI hT hN rfl rfl N 0 (by omega)

def pset (g : Nat → Nat) (z : Int) (x : Nat) : Nat → Nat := fun j => if (j : Int) = z ∧ j < 42 then x else g j
theorem pset_n {g : Nat → Nat} {k x : Nat} (h : k < 42) : pset g (k : Int) x = nu g k x := by
  funext j
  unfold pset nu
  by_cases e : j = k
  · subst e
    rw [if_pos ⟨rfl, h⟩, if_pos rfl]
  · rw [if_neg (by omega), if_neg e]
theorem vs_ia_same {S : vs_S} {o : Nat} {f : Nat → Int32} (h : S.2.1 o = f) : S = vs_ia S o f := by rw [← h, vs_ia_self]
theorem nat_of_in {k : Int32} {N : Nat} (h1 : ¬ k < 0) (h2 : ¬ nI N ≤ k) (hN : N < 2147483648) : k = nI k.toInt.toNat ∧ k.toInt.toNat < N ∧ 0 ≤ k.toInt := by
  rw [fa_lt] at h1
  rw [fa_le, nI_i hN] at h2
  have h3 : (0 : Int32).toInt = 0 := rfl
  refine ⟨?_, by omega, by omega⟩
  rw [nI_Z, ← nZ_of k]
  congr 1
  rw [nZ_of]
  omega
theorem c_at {G : vv_G} {S : vs_S} {o : Nat} {g : Nat → Nat} (hp : vs_P o) (hg : pR S o g) {k : Int32} : vs_C G yX3_at cX3_at 2 (some .int) { frames := 0, locals := 0 } [.ref (G.2.2.2 + o), .int (k)] S (some (.int (nI (pz g k.toInt)))) S := by
  refine vs_of [(0, .ref (G.2.2.2 + o)), (1, .int (k))] (by decide) rfl rfl ?_
  refine vs_iload_n 1 dX3_at_0 rfl rfl 1 rfl ?_
  refine vs_if_lt 19 dX3_at_1 rfl rfl (fun c_1 => ?_) (fun c_1 => ?_)
  · refine vs_iconst (v := 0) dX3_at_19 rfl rfl ?_
    exact vs_iret dX3_at_20 (by
    have h3 : (0 : Int32).toInt = 0 := rfl
    have h4 : (42 : Int32).toInt = 42 := rfl
    first
    | (rw [fa_lt] at c_1; rw [pz_neg (by omega)]; rfl; done)
    | (rw [fa_le] at c_7; unfold pz; rw [hg.2 _ (by omega)]; simp only [ite_self]; rfl; done)
    | (unfold pz; rw [if_neg (by omega)]; done)) rfl
  · refine vs_iload_n 1 dX3_at_4 rfl rfl 1 rfl ?_
    refine vs_bipush (v := 42) dX3_at_5 rfl rfl ?_
    refine vs_icmp_ge 19 dX3_at_7 rfl rfl (fun c_7 => ?_) (fun c_7 => ?_)
    · refine vs_iconst (v := 0) dX3_at_19 rfl rfl ?_
      exact vs_iret dX3_at_20 (by
    have h3 : (0 : Int32).toInt = 0 := rfl
    have h4 : (42 : Int32).toInt = 42 := rfl
    first
    | (rw [fa_lt] at c_1; rw [pz_neg (by omega)]; rfl; done)
    | (rw [fa_le] at c_7; unfold pz; rw [hg.2 _ (by omega)]; simp only [ite_self]; rfl; done)
    | (unfold pz; rw [if_neg (by omega)]; done)) rfl
    · have hk := nat_of_in (N := 42) c_1 c_7 (by decide)
      refine vs_aload_n 0 dX3_at_10 rfl rfl 0 rfl ?_
      refine vs_get (v := .ref (G.2.2.2 + (o + 1))) lf_X3_9 hp.1 rfl dX3_at_11 rfl ?_
      refine vs_iload_n 1 dX3_at_14 rfl rfl 1 rfl ?_
      refine vs_ialdN (g := g) (k := k.toInt.toNat) hg.1 hp.2 hk.1 hk.2.1 rfl dX3_at_15 rfl ?_
      refine vs_goto 20 dX3_at_16 rfl ?_
      exact vs_iret dX3_at_20 (by
    have h3 : (0 : Int32).toInt = 0 := rfl
    have h4 : (42 : Int32).toInt = 42 := rfl
    first
    | (rw [fa_lt] at c_1; rw [pz_neg (by omega)]; rfl; done)
    | (rw [fa_le] at c_7; unfold pz; rw [hg.2 _ (by omega)]; simp only [ite_self]; rfl; done)
    | (unfold pz; rw [if_neg (by omega)]; done)) rfl

theorem c_set {G : vv_G} {S : vs_S} {o : Nat} {g : Nat → Nat} (hp : vs_P o) (hg : pR S o g) {k : Int32} {x : Nat} : vs_C G yX3_set cX3_set 3 none { frames := 0, locals := 0 } [.ref (G.2.2.2 + o), .int (k), .int (nI x)] S none (vs_ia S (o + 1) (nA (pset g k.toInt x))) := by
  refine vs_of [(0, .ref (G.2.2.2 + o)), (1, .int (k)), (2, .int (nI x))] (by decide) rfl rfl ?_
  refine vs_iload_n 1 dX3_set_0 rfl rfl 1 rfl ?_
  refine vs_if_lt 17 dX3_set_1 rfl rfl (fun c_1 => ?_) (fun c_1 => ?_)
  · exact vs_vret dX3_set_17 rfl (by
    have h3 : (0 : Int32).toInt = 0 := rfl
    have h4 : (42 : Int32).toInt = 42 := rfl
    first
    | (rw [fa_lt] at c_1; rw [show pset g k.toInt x = g from funext fun j => if_neg (by omega)]; exact vs_ia_same hg.1; done)
    | (rw [fa_le] at c_7; rw [show pset g k.toInt x = g from funext fun j => if_neg (by omega)]; exact vs_ia_same hg.1; done)
    | (rw [← pset_n hk.2.1, Int.toNat_of_nonneg hk.2.2]; done))
  · refine vs_iload_n 1 dX3_set_4 rfl rfl 1 rfl ?_
    refine vs_bipush (v := 42) dX3_set_5 rfl rfl ?_
    refine vs_icmp_ge 17 dX3_set_7 rfl rfl (fun c_7 => ?_) (fun c_7 => ?_)
    · exact vs_vret dX3_set_17 rfl (by
    have h3 : (0 : Int32).toInt = 0 := rfl
    have h4 : (42 : Int32).toInt = 42 := rfl
    first
    | (rw [fa_lt] at c_1; rw [show pset g k.toInt x = g from funext fun j => if_neg (by omega)]; exact vs_ia_same hg.1; done)
    | (rw [fa_le] at c_7; rw [show pset g k.toInt x = g from funext fun j => if_neg (by omega)]; exact vs_ia_same hg.1; done)
    | (rw [← pset_n hk.2.1, Int.toNat_of_nonneg hk.2.2]; done))
    · have hk := nat_of_in (N := 42) c_1 c_7 (by decide)
      refine vs_aload_n 0 dX3_set_10 rfl rfl 0 rfl ?_
      refine vs_get (v := .ref (G.2.2.2 + (o + 1))) lf_X3_9 hp.1 rfl dX3_set_11 rfl ?_
      refine vs_iload_n 1 dX3_set_14 rfl rfl 1 rfl ?_
      refine vs_iload_n 2 dX3_set_15 rfl rfl 2 rfl ?_
      refine vs_iastN (k := k.toInt.toNat) hg.1 hp.2 hk.1 hk.2.1 rfl dX3_set_16 rfl ?_
      exact vs_vret dX3_set_17 rfl (by
    have h3 : (0 : Int32).toInt = 0 := rfl
    have h4 : (42 : Int32).toInt = 42 := rfl
    first
    | (rw [fa_lt] at c_1; rw [show pset g k.toInt x = g from funext fun j => if_neg (by omega)]; exact vs_ia_same hg.1; done)
    | (rw [fa_le] at c_7; rw [show pset g k.toInt x = g from funext fun j => if_neg (by omega)]; exact vs_ia_same hg.1; done)
    | (rw [← pset_n hk.2.1, Int.toNat_of_nonneg hk.2.2]; done))

theorem c_atN {G : vv_G} {S : vs_S} {o : Nat} {g : Nat → Nat} (hp : vs_P o) (hg : pR S o g) {k : Nat} (hk : k < 2147483648) : vs_C G yX3_at cX3_at 2 (some .int) { frames := 0, locals := 0 } [.ref (G.2.2.2 + o), .int (nI k)] S (some (.int (nI (g k)))) S := vs_cal (c_at hp hg) (by rw [nI_i hk, pz_n]) rfl
theorem c_setN {G : vv_G} {S : vs_S} {o : Nat} {g : Nat → Nat} (hp : vs_P o) (hg : pR S o g) {k x : Nat} (hk : k < 42) : vs_C G yX3_set cX3_set 3 none { frames := 0, locals := 0 } [.ref (G.2.2.2 + o), .int (nI k), .int (nI x)] S none (vs_ia S (o + 1) (nA (nu g k x))) := vs_cal (c_set hp hg) rfl (by rw [nI_i (by omega), pset_n hk])
theorem l_top {G : vv_G} {S : vs_S} {o : Nat} {g : Nat → Nat} (hp : vs_P o) (hg : pR S o g) (hb : ∀ k, g k < 2147483648) {r : Option Value} {Sf : vs_S} (hr : r = some (.int (nZ ((tp g 42 : Int) - 1)))) (hS : S = Sf) : ∀ i : Nat, i ≤ 42 → tp g 42 = tp g i → vs_V G cX3_top (vs_M yX3_top 2 (some .int) { frames := 0, locals := 0 } G r Sf) 3 [(1, .int (nZ ((i : Int) - 1))), (0, .ref (G.2.2.2 + o))] [] S := by
  intro i
  induction i with
  | zero =>
    intro _ ht
    refine vs_iload_n 1 dX3_top_3 rfl rfl 0 rfl ?_
    refine vs_if_lt 22 dX3_top_4 rfl rfl (fun c_4 => ?_) (fun c_4 => ?_)
    · refine vs_iload_n 1 dX3_top_22 rfl rfl 0 rfl ?_
      exact vs_iret dX3_top_23 (by rw [hr, ht]; rfl) hS
    · exact absurd (show nZ (((0 : Nat) : Int) - 1) < 0 by decide) c_4
  | succ i ih =>
    intro hi ht
    have e1 : nZ (((i + 1 : Nat) : Int) - 1) = nI i := by rw [nI_Z]; congr 1; omega
    rw [e1]
    refine vs_iload_n 1 dX3_top_3 rfl rfl 0 rfl ?_
    refine vs_if_lt 22 dX3_top_4 rfl rfl (fun c_4 => ?_) (fun c_4 => ?_)
    · exact absurd c_4 (nI_pos (by omega))
    · refine vs_aload_n 0 dX3_top_7 rfl rfl 1 rfl ?_
      refine vs_get (v := .ref (G.2.2.2 + (o + 1))) lf_X3_9 hp.1 rfl dX3_top_8 rfl ?_
      refine vs_iload_n 1 dX3_top_11 rfl rfl 0 rfl ?_
      refine vs_ialdN (g := g) (k := i) hg.1 hp.2 (by first | rfl | (simp only [fa_lit, nI_add, pk_mul, nI_1]; done) | omega) (by omega) rfl dX3_top_12 rfl ?_
      refine vs_if_ne 22 dX3_top_13 rfl rfl (fun c_13 => ?_) (fun c_13 => ?_)
      · have ht2 : tp g (i + 1) = i + 1 := if_neg (fun e => c_13 (by rw [e]; rfl))
        refine vs_iload_n 1 dX3_top_22 rfl rfl 0 rfl ?_
        exact vs_iret dX3_top_23 (by rw [hr, ht, ht2, nI_Z]; congr 3; omega) hS
      · have ht2 : tp g (i + 1) = tp g i := if_pos ((nI_n0 (hb i)).mp c_13)
        refine vs_iinc (v := nZ ((i : Int) - 1)) [(1, .int (nZ ((i : Int) - 1))), (0, .ref (G.2.2.2 + o))] dX3_top_16 rfl 0 rfl (by rw [nI_Z]; exact nZ_add _ _) rfl rfl ?_
        refine vs_goto 3 dX3_top_19 rfl ?_
        exact ih (by omega) (ht.trans ht2)

theorem c_top {G : vv_G} {S : vs_S} {o : Nat} {g : Nat → Nat} (hp : vs_P o) (hg : pR S o g) (hb : ∀ k, g k < 2147483648) : vs_C G yX3_top cX3_top 2 (some .int) { frames := 0, locals := 0 } [.ref (G.2.2.2 + o)] S (some (.int (nZ ((tp g 42 : Int) - 1)))) S := by
  refine vs_of [(0, .ref (G.2.2.2 + o))] (by decide) rfl rfl ?_
  refine vs_bipush (v := 41) dX3_top_0 rfl rfl ?_
  refine vs_istore_n 1 [(1, .int (41)), (0, .ref (G.2.2.2 + o))] dX3_top_2 rfl rfl rfl rfl ?_
  exact l_top hp hg hb rfl rfl 42 (Nat.le_refl _) rfl

def lo_t (g : Nat → Nat) : Nat → Nat → Nat
  | 0, _ => 0
  | n + 1, i => if g i = 0 then lo_t g n (i + 1) else g i
theorem l_low {G : vv_G} {S : vs_S} {o : Nat} {g : Nat → Nat} (hp : vs_P o) (hg : pR S o g) (hb : ∀ k, g k < 2147483648) {r : Option Value} {Sf : vs_S} (hr : r = some (.int (nI (lo_t g 42 0)))) (hS : S = Sf) : ∀ d i : Nat, i + d = 42 → lo_t g 42 0 = lo_t g d i → vs_V G cX3_lowestTerm (vs_M yX3_lowestTerm 2 (some .int) { frames := 0, locals := 0 } G r Sf) 2 [(1, .int (nI i)), (0, .ref (G.2.2.2 + o))] [] S := by
  intro d
  induction d with
  | zero =>
    intro i hi ht
    obtain rfl : i = 42 := by omega
    refine vs_iload_n 1 dX3_lowestTerm_2 rfl rfl 0 rfl ?_
    refine vs_bipush (v := 42) dX3_lowestTerm_3 rfl rfl ?_
    refine vs_icmp_ge 30 dX3_lowestTerm_5 rfl rfl (fun c_5 => ?_) (fun c_5 => ?_)
    · refine vs_iconst (v := 0) dX3_lowestTerm_30 rfl rfl ?_
      exact vs_iret dX3_lowestTerm_31 (by rw [hr, ht]; rfl) hS
    · exact absurd (Int32.le_refl _) c_5
  | succ d ih =>
    intro i hi ht
    refine vs_iload_n 1 dX3_lowestTerm_2 rfl rfl 0 rfl ?_
    refine vs_bipush (v := 42) dX3_lowestTerm_3 rfl rfl ?_
    refine vs_icmp_ge 30 dX3_lowestTerm_5 rfl rfl (fun c_5 => ?_) (fun c_5 => ?_)
    · exact absurd c_5 (nI_ge (show i < 42 by omega) (by decide))
    · refine vs_aload_n 0 dX3_lowestTerm_8 rfl rfl 1 rfl ?_
      refine vs_get (v := .ref (G.2.2.2 + (o + 1))) lf_X3_9 hp.1 rfl dX3_lowestTerm_9 rfl ?_
      refine vs_iload_n 1 dX3_lowestTerm_12 rfl rfl 0 rfl ?_
      refine vs_ialdN (g := g) (k := i) hg.1 hp.2 rfl (by omega) rfl dX3_lowestTerm_13 rfl ?_
      refine vs_if_eq 24 dX3_lowestTerm_14 rfl rfl (fun c_14 => ?_) (fun c_14 => ?_)
      · have ht2 : lo_t g (d + 1) i = lo_t g d (i + 1) := if_pos ((nI_n0 (hb i)).mp c_14)
        refine vs_iinc (v := nI (i + 1)) [(1, .int (nI (i + 1))), (0, .ref (G.2.2.2 + o))] dX3_lowestTerm_24 rfl 0 rfl (by first | exact nI_1 _ | (simp only [fa_lit, nI_add, pk_mul, nI_1]; rfl)) rfl rfl ?_
        refine vs_goto 2 dX3_lowestTerm_27 rfl ?_
        exact ih (i + 1) (by omega) (ht.trans ht2)
      · have ht2 : lo_t g (d + 1) i = g i := if_neg (fun e => c_14 (by rw [e]; rfl))
        refine vs_aload_n 0 dX3_lowestTerm_17 rfl rfl 1 rfl ?_
        refine vs_get (v := .ref (G.2.2.2 + (o + 1))) lf_X3_9 hp.1 rfl dX3_lowestTerm_18 rfl ?_
        refine vs_iload_n 1 dX3_lowestTerm_21 rfl rfl 0 rfl ?_
        refine vs_ialdN (g := g) (k := i) hg.1 hp.2 rfl (by omega) rfl dX3_lowestTerm_22 rfl ?_
        exact vs_iret dX3_lowestTerm_23 (by rw [hr, ht, ht2]) hS

theorem c_lowestTerm {G : vv_G} {S : vs_S} {o : Nat} {g : Nat → Nat} (hp : vs_P o) (hg : pR S o g) (hb : ∀ k, g k < 2147483648) : vs_C G yX3_lowestTerm cX3_lowestTerm 2 (some .int) { frames := 0, locals := 0 } [.ref (G.2.2.2 + o)] S (some (.int (nI (lo_t g 42 0)))) S := by
  refine vs_of [(0, .ref (G.2.2.2 + o))] (by decide) rfl rfl ?_
  refine vs_iconst (v := 0) dX3_lowestTerm_0 rfl rfl ?_
  refine vs_istore_n 1 [(1, .int (0)), (0, .ref (G.2.2.2 + o))] dX3_lowestTerm_1 rfl rfl rfl rfl ?_
  exact l_low hp hg hb rfl rfl 42 0 rfl rfl

def pcon (x : Nat) : Nat → Nat := fun k => if k = 0 then x else 0
theorem c_becomeNumber {G : vv_G} {S : vs_S} {o : Nat} {g : Nat → Nat} (hp : vs_P o) (hg : pR S o g) {x : Nat} : vs_C G yX3_becomeNumber cX3_becomeNumber 2 none { frames := 1, locals := 23 } [.ref (G.2.2.2 + o), .int (nI x)] S none (vs_ia S (o + 1) (nA (pcon x))) := by
  refine vs_of [(0, .ref (G.2.2.2 + o)), (1, .int (nI x))] (by decide) rfl rfl ?_
  refine vs_aload_n 0 dX3_becomeNumber_0 rfl rfl 0 rfl ?_
  refine vs_get (v := .ref (G.2.2.2 + (o + 1))) lf_X3_9 hp.1 rfl dX3_becomeNumber_1 rfl ?_
  refine vs_iconst (v := 0) dX3_becomeNumber_4 rfl rfl ?_
  refine vs_callS (st := []) (c_fillI (N := 42) (v := 0) hp.2 (by decide)) lk_X3_15 lm_J7_fill_53178 rfl rfl (Nat.le_of_ble_eq_true rfl) rfl ⟨rfl, rfl⟩ dX3_becomeNumber_5 rfl ?_
  refine vs_eq (S2 := vs_ia S (o + 1) (nA (fun _ => 0))) (congrArg (vs_ia S (o + 1)) (funext fun k => by rw [hg.1]; unfold nfill nA; by_cases h : k < 42 <;> simp [h] <;> first | rfl | (rw [hg.2 k (by omega)]; done) | (rw [hg.2 k (by omega)]; rfl))) ?_
  refine vs_aload_n 0 dX3_becomeNumber_8 rfl rfl 0 rfl ?_
  refine vs_get (v := .ref (G.2.2.2 + (o + 1))) lf_X3_9 hp.1 rfl dX3_becomeNumber_9 rfl ?_
  refine vs_iconst (v := 0) dX3_becomeNumber_12 rfl rfl ?_
  refine vs_iload_n 1 dX3_becomeNumber_13 rfl rfl 1 rfl ?_
  refine vs_iastU (k := 0) hp.2 rfl (by decide) rfl dX3_becomeNumber_14 rfl ?_
  exact vs_vret dX3_becomeNumber_15 rfl rfl

theorem c_become {G : vv_G} {S : vs_S} {o : Nat} {g : Nat → Nat} (hp : vs_P o) (hg : pR S o g) {p : Nat} {g2 : Nat → Nat} (hq : vs_P p) (hg2 : pR S p g2) : vs_C G yX3_become cX3_become 2 none { frames := 1, locals := 40 } [.ref (G.2.2.2 + o), .ref (G.2.2.2 + p)] S none (vs_ia S (o + 1) (nA g2)) := by
  refine vs_of [(0, .ref (G.2.2.2 + o)), (1, .ref (G.2.2.2 + p))] (by decide) rfl rfl ?_
  refine vs_aload_n 1 dX3_become_0 rfl rfl 1 rfl ?_
  refine vs_get (v := .ref (G.2.2.2 + (p + 1))) lf_X3_9 hq.1 rfl dX3_become_1 rfl ?_
  refine vs_iconst (v := 0) dX3_become_4 rfl rfl ?_
  refine vs_aload_n 0 dX3_become_5 rfl rfl 0 rfl ?_
  refine vs_get (v := .ref (G.2.2.2 + (o + 1))) lf_X3_9 hp.1 rfl dX3_become_6 rfl ?_
  refine vs_iconst (v := 0) dX3_become_9 rfl rfl ?_
  refine vs_bipush (v := 42) dX3_become_10 rfl rfl ?_
  refine vs_copyi (st := []) (sp := 0) (dp := 0) (k := 42) vc_lk_X3_21 hq.2 hp.2 rfl rfl rfl (by decide) (by decide) (by decide) (by decide) rfl rfl dX3_become_12 rfl ?_
  exact vs_vret dX3_become_15 rfl (congrArg (vs_ia S (o + 1)) (funext fun k => by rw [hg.1, hg2.1]; unfold va_cpy nA; by_cases h : k < 42 <;> simp [h] <;> rw [hg.2 k (by omega), hg2.2 k (by omega)]))

theorem c_dropLowest {G : vv_G} {S : vs_S} {o : Nat} {g : Nat → Nat} (hp : vs_P o) (hg : pR S o g) : vs_C G yX3_dropLowest cX3_dropLowest 1 none { frames := 1, locals := 40 } [.ref (G.2.2.2 + o)] S none (vs_ia S (o + 1) (nA (fun k => g (k + 1)))) := by
  refine vs_of [(0, .ref (G.2.2.2 + o))] (by decide) rfl rfl ?_
  refine vs_aload_n 0 dX3_dropLowest_0 rfl rfl 0 rfl ?_
  refine vs_get (v := .ref (G.2.2.2 + (o + 1))) lf_X3_9 hp.1 rfl dX3_dropLowest_1 rfl ?_
  refine vs_iconst (v := 1) dX3_dropLowest_4 rfl rfl ?_
  refine vs_aload_n 0 dX3_dropLowest_5 rfl rfl 0 rfl ?_
  refine vs_get (v := .ref (G.2.2.2 + (o + 1))) lf_X3_9 hp.1 rfl dX3_dropLowest_6 rfl ?_
  refine vs_iconst (v := 0) dX3_dropLowest_9 rfl rfl ?_
  refine vs_bipush (v := 41) dX3_dropLowest_10 rfl rfl ?_
  refine vs_copyi (st := []) (sp := 1) (dp := 0) (k := 41) vc_lk_X3_21 hp.2 hp.2 rfl rfl rfl (by decide) (by decide) (by decide) (by decide) rfl rfl dX3_dropLowest_12 rfl ?_
  refine vs_eq (S2 := vs_ia S (o + 1) (nA (fun k => if k < 41 then g (k + 1) else g k))) (congrArg (vs_ia S (o + 1)) (funext fun k => by rw [hg.1]; unfold va_cpy nA; by_cases h : k < 41 <;> simp [h, Nat.add_comm])) ?_
  refine vs_aload_n 0 dX3_dropLowest_15 rfl rfl 0 rfl ?_
  refine vs_get (v := .ref (G.2.2.2 + (o + 1))) lf_X3_9 hp.1 rfl dX3_dropLowest_16 rfl ?_
  refine vs_bipush (v := 41) dX3_dropLowest_19 rfl rfl ?_
  refine vs_iconst (v := 0) dX3_dropLowest_21 rfl rfl ?_
  refine vs_iastU (k := 41) hp.2 rfl (by decide) rfl dX3_dropLowest_22 rfl ?_
  exact vs_vret dX3_dropLowest_23 rfl (congrArg (fun z => vs_ia S (o + 1) (nA z)) (funext fun k => by unfold nu; by_cases h : k = 41 <;> by_cases h2 : k < 41 <;> simp [h, h2] <;> first | (rw [hg.2 42 (by omega)]) | omega | (rw [hg.2 k (by omega), hg.2 (k + 1) (by omega)])))

