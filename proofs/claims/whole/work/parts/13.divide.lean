def spk (g gl gr : Nat → Nat) (P : Nat) : Nat → Nat → Nat
  | 0 => g
  | i + 1 => amk (spk g gl gr P i) gr (nn_m (-(gl i : Int)) P) i P 42
theorem spk_z {g gl gr : Nat → Nat} {P : Nat} (h : ∀ k, 42 ≤ k → g k = 0) : ∀ i k, 42 ≤ k → spk g gl gr P i k = 0
  | 0 => h
  | i + 1 => amk_z (spk_z h i) (Nat.le_refl _)
theorem spk_b {g gl gr : Nat → Nat} {P : Nat} (h0 : 0 < P) (h : ∀ k, g k < P) : ∀ i k, spk g gl gr P i k < P
  | 0 => h
  | i + 1 => amk_b h0 (spk_b h0 h i)
theorem l_sp {G : vv_G} {S : vs_S} {o : Nat} {g : Nat → Nat} (hp : vs_P o) (hg : pR S o g) {p : Nat} {g2 : Nat → Nat} (hq : vs_P p) (hg2 : pR S p g2) (hne : p ≠ o) {u : Nat} {gl : Nat → Nat} (hu : vs_P u) (hgl : pR S u gl) (hne2 : u ≠ o) {P : Nat} (hP : S.1 1 0 = nI P) (hP1 : 2 ≤ P) (hP2 : P ≤ 30011) (hb : ∀ k, g k < P) (hb2 : ∀ k, g2 k < P) (hbl : ∀ k, gl k < P) {r : Option Value} {Sf : vs_S} (hr : r = none) (hS : vs_ia S (o + 1) (nA (spk g gl g2 P (tp gl 42))) = Sf) : ∀ d i : Nat, i + d = tp gl 42 → vs_V G cX3_subtractProduct (vs_M yX3_subtractProduct 6 none { frames := 2, locals := 49 } G r Sf) 9 [(5, .int (nI i)), (4, .int (nZ ((tp gl 42 : Int) - 1))), (0, .ref (G.2.2.2 + o)), (1, .ref (G.2.2.2 + u)), (2, .ref (G.2.2.2 + p)), (3, .ref (G.2.2.2 + 1))] [] (vs_ia S (o + 1) (nA (spk g gl g2 P i))) := by
  have htp := tp_le gl 42
  intro d
  induction d with
  | zero =>
    intro i hi
    obtain rfl : i = tp gl 42 := by omega
    refine vs_iload dX3_subtractProduct_9 rfl 0 rfl ?_
    refine vs_iload dX3_subtractProduct_11 rfl 1 rfl ?_
    refine vs_icmp_gt 40 dX3_subtractProduct_13 rfl rfl (fun c_13 => ?_) (fun c_13 => ?_)
    · exact vs_vret dX3_subtractProduct_40 hr hS
    · exact absurd (by rw [nI_Z, nZ_lt (by omega) (by omega) (by omega) (by omega)]; omega) c_13
  | succ d ih =>
    intro i hi
    have hgi := hbl i
    have hpo : pR (vs_ia S (o + 1) (nA (spk g gl g2 P i))) o (spk g gl g2 P i) := ⟨vs_ia_at, spk_z hg.2 i⟩
    have hpp : pR (vs_ia S (o + 1) (nA (spk g gl g2 P i))) p g2 := ⟨(vs_ia_ne (by omega)).trans hg2.1, hg2.2⟩
    have hpu : pR (vs_ia S (o + 1) (nA (spk g gl g2 P i))) u gl := ⟨(vs_ia_ne (by omega)).trans hgl.1, hgl.2⟩
    refine vs_iload dX3_subtractProduct_9 rfl 0 rfl ?_
    refine vs_iload dX3_subtractProduct_11 rfl 1 rfl ?_
    refine vs_icmp_gt 40 dX3_subtractProduct_13 rfl rfl (fun c_13 => ?_) (fun c_13 => ?_)
    · rw [nI_Z, nZ_lt (by omega) (by omega) (by omega) (by omega)] at c_13
      omega
    · refine vs_aload_n 0 dX3_subtractProduct_16 rfl rfl 2 rfl ?_
      refine vs_aload_n 2 dX3_subtractProduct_17 rfl rfl 4 rfl ?_
      refine vs_aload_n 3 dX3_subtractProduct_18 rfl rfl 5 rfl ?_
      refine vs_aload_n 1 dX3_subtractProduct_19 rfl rfl 3 rfl ?_
      refine vs_iload dX3_subtractProduct_20 rfl 0 rfl ?_
      refine vs_callV (st := [.ref (G.2.2.2 + 1), .ref (G.2.2.2 + p), .ref (G.2.2.2 + o)]) (c_atN hu hpu (k := i) (by omega)) lk_X3_37 lm_X3_at rfl hu.1 rfl rfl (Nat.le_of_ble_eq_true rfl) rfl ⟨rfl, rfl⟩ dX3_subtractProduct_22 rfl ?_
      show vs_V _ _ _ _ _ (.int (nI (gl i)) :: _) _
      refine vs_callV (st := [.ref (G.2.2.2 + p), .ref (G.2.2.2 + o)]) (c_negative (x := gl i) hP hP1 (by omega) (by omega)) lk_X3_49 lm_X5_negative rfl rfl rfl rfl (Nat.le_of_ble_eq_true rfl) rfl ⟨rfl, rfl⟩ dX3_subtractProduct_25 rfl ?_
      show vs_V _ _ _ _ _ (.int (nI (nn_m (-(gl i : Int)) P)) :: _) _
      refine vs_iload dX3_subtractProduct_28 rfl 0 rfl ?_
      refine vs_aload_n 3 dX3_subtractProduct_30 rfl rfl 5 rfl ?_
      refine vs_callV (st := []) (c_addMultiple hp hpo hq hpp hne (x := nn_m (-(gl i : Int)) P) (sh := i) hP hP1 hP2 (spk_b (by omega) hb i) hb2 (nn_m_lt (by omega)) (by omega)) lk_X3_52 lm_X3_addMultiple rfl hp.1 rfl rfl (Nat.le_of_ble_eq_true rfl) rfl ⟨rfl, rfl⟩ dX3_subtractProduct_31 rfl ?_
      refine vs_eq (S2 := vs_ia S (o + 1) (nA (spk g gl g2 P (i + 1)))) (by rw [vs_ia_ia]; rfl) ?_
      refine vs_iinc (v := nI (i + 1)) [(5, .int (nI (i + 1))), (4, .int (nZ ((tp gl 42 : Int) - 1))), (0, .ref (G.2.2.2 + o)), (1, .ref (G.2.2.2 + u)), (2, .ref (G.2.2.2 + p)), (3, .ref (G.2.2.2 + 1))] dX3_subtractProduct_34 rfl 0 rfl (by first | exact nI_1 _ | (simp only [fa_lit, nI_add, pk_mul, nI_1]; rfl)) rfl rfl ?_
      refine vs_goto 9 dX3_subtractProduct_37 rfl ?_
      refine vs_pick [0, 1, 2, 3, 4, 5] rfl ?_
      exact ih (i + 1) (by omega)

theorem c_subtractProduct {G : vv_G} {S : vs_S} {o : Nat} {g : Nat → Nat} (hp : vs_P o) (hg : pR S o g) {p : Nat} {g2 : Nat → Nat} (hq : vs_P p) (hg2 : pR S p g2) (hne : p ≠ o) {u : Nat} {gl : Nat → Nat} (hu : vs_P u) (hgl : pR S u gl) (hne2 : u ≠ o) {P : Nat} (hP : S.1 1 0 = nI P) (hP1 : 2 ≤ P) (hP2 : P ≤ 30011) (hb : ∀ k, g k < P) (hb2 : ∀ k, g2 k < P) (hbl : ∀ k, gl k < P) : vs_C G yX3_subtractProduct cX3_subtractProduct 6 none { frames := 2, locals := 49 } [.ref (G.2.2.2 + o), .ref (G.2.2.2 + u), .ref (G.2.2.2 + p), .ref (G.2.2.2 + 1)] S none (vs_ia S (o + 1) (nA (spk g gl g2 P (tp gl 42)))) := by
  refine vs_of [(0, .ref (G.2.2.2 + o)), (1, .ref (G.2.2.2 + u)), (2, .ref (G.2.2.2 + p)), (3, .ref (G.2.2.2 + 1))] (by decide) rfl rfl ?_
  refine vs_aload_n 1 dX3_subtractProduct_0 rfl rfl 1 rfl ?_
  refine vs_callV (st := []) (c_top hu hgl (fun k => by have := hbl k; omega)) lk_X3_45 lm_X3_top rfl hu.1 rfl rfl (Nat.le_of_ble_eq_true rfl) rfl ⟨rfl, rfl⟩ dX3_subtractProduct_1 rfl ?_
  show vs_V _ _ _ _ _ (.int (nZ ((tp gl 42 : Int) - 1)) :: _) _
  refine vs_istore [(4, .int (nZ ((tp gl 42 : Int) - 1))), (0, .ref (G.2.2.2 + o)), (1, .ref (G.2.2.2 + u)), (2, .ref (G.2.2.2 + p)), (3, .ref (G.2.2.2 + 1))] dX3_subtractProduct_4 rfl rfl rfl ?_
  refine vs_iconst (v := 0) dX3_subtractProduct_6 rfl rfl ?_
  refine vs_istore [(5, .int (0)), (4, .int (nZ ((tp gl 42 : Int) - 1))), (0, .ref (G.2.2.2 + o)), (1, .ref (G.2.2.2 + u)), (2, .ref (G.2.2.2 + p)), (3, .ref (G.2.2.2 + 1))] dX3_subtractProduct_7 rfl rfl rfl ?_
  refine vs_pick (L2 := [(5, .int (nI 0)), (4, .int (nZ ((tp gl 42 : Int) - 1))), (0, .ref (G.2.2.2 + o)), (1, .ref (G.2.2.2 + u)), (2, .ref (G.2.2.2 + p)), (3, .ref (G.2.2.2 + 1))]) [0, 1, 2, 3, 4, 5] rfl ?_
  refine vs_eq (S2 := vs_ia S (o + 1) (nA (spk g gl g2 P 0))) (vs_ia_same hg.1) ?_
  exact l_sp hp hg hq hg2 hne hu hgl hne2 hP hP1 hP2 hb hb2 hbl rfl rfl (tp gl 42) 0 (by omega)

def ark (g : Nat → Nat) (x P j : Nat) : Nat → Nat := fun k => if j ≤ k ∧ k < 42 then nn_m ((pz g ((k : Int) - 1) : Int) - (x : Int) * g k) P else g k
theorem ark_s {g : Nat → Nat} {x P j : Nat} (h0 : j < 42) : nu (ark g x P (j + 1)) j (nn_m ((pz g ((j : Int) - 1) : Int) - (x : Int) * g j) P) = ark g x P j := by
  funext k
  unfold nu ark
  by_cases h : k = j
  · rw [if_pos h, if_pos (by omega), h]
  · rw [if_neg h]
    by_cases h2 : j ≤ k ∧ k < 42
    · rw [if_pos h2, if_pos (by omega)]
    · rw [if_neg h2, if_neg (by omega)]
theorem ark_42 {g : Nat → Nat} {x P : Nat} : ark g x P 42 = g := funext fun k => if_neg (by omega)
theorem ark_z {g : Nat → Nat} {x P j : Nat} (h : ∀ k, 42 ≤ k → g k = 0) : ∀ k, 42 ≤ k → ark g x P j k = 0 := fun k hk => by
  unfold ark
  rw [if_neg (by omega)]
  exact h k hk
theorem ark_b {g : Nat → Nat} {x P j : Nat} (h0 : 0 < P) (h : ∀ k, g k < P) : ∀ k, ark g x P j k < P := fun k => by
  unfold ark
  by_cases h1 : j ≤ k ∧ k < 42
  · rw [if_pos h1]; exact nn_m_lt h0
  · rw [if_neg h1]; exact h k
theorem ark_lo {g : Nat → Nat} {x P j : Nat} {z : Int} (hz : z < j) : pz (ark g x P j) z = pz g z := by
  unfold pz
  by_cases h : z < 0
  · rw [if_pos h, if_pos h]
  · rw [if_neg h, if_neg h]
    exact if_neg (by omega)
theorem l_ar {G : vv_G} {S : vs_S} {o : Nat} {g : Nat → Nat} (hp : vs_P o) (hg : pR S o g) {x : Nat} {P : Nat} (hP : S.1 1 0 = nI P) (hP1 : 2 ≤ P) (hP2 : P ≤ 30011) (hb : ∀ k, g k < P) (hx : x < P) {r : Option Value} {Sf : vs_S} (hr : r = none) (hS : vs_ia S (o + 1) (nA (ark g x P 0)) = Sf) : ∀ j : Nat, j ≤ 42 → vs_V G cX3_addRoot (vs_M yX3_addRoot 4 none { frames := 1, locals := 24 } G r Sf) 3 [(3, .int (nZ ((j : Int) - 1))), (0, .ref (G.2.2.2 + o)), (1, .int (nI x)), (2, .ref (G.2.2.2 + 1))] [] (vs_ia S (o + 1) (nA (ark g x P j))) := by
  intro j
  induction j with
  | zero =>
    intro _
    refine vs_iload_n 3 dX3_addRoot_3 rfl rfl 0 rfl ?_
    refine vs_if_lt 42 dX3_addRoot_4 rfl rfl (fun c_4 => ?_) (fun c_4 => ?_)
    · exact vs_vret dX3_addRoot_42 hr hS
    · exact absurd (show nZ (((0 : Nat) : Int) - 1) < 0 by decide) c_4
  | succ j ih =>
    intro hj
    have hgj := hb j
    have e1 : nZ (((j + 1 : Nat) : Int) - 1) = nI j := by rw [nI_Z]; congr 1; omega
    rw [e1]
    have hpo : pR (vs_ia S (o + 1) (nA (ark g x P (j + 1)))) o (ark g x P (j + 1)) := ⟨vs_ia_at, ark_z hg.2⟩
    have hpz : pz g ((j : Int) - 1) < P := pz_lt (by omega) hb
    have e0 : ark g x P (j + 1) j = g j := if_neg (by omega)
    refine vs_iload_n 3 dX3_addRoot_3 rfl rfl 0 rfl ?_
    refine vs_if_lt 42 dX3_addRoot_4 rfl rfl (fun c_4 => ?_) (fun c_4 => ?_)
    · exact absurd c_4 (nI_pos (by omega))
    · refine vs_aload_n 0 dX3_addRoot_7 rfl rfl 1 rfl ?_
      refine vs_get (v := .ref (G.2.2.2 + (o + 1))) lf_X3_9 hp.1 rfl dX3_addRoot_8 rfl ?_
      refine vs_iload_n 3 dX3_addRoot_11 rfl rfl 0 rfl ?_
      refine vs_aload_n 2 dX3_addRoot_12 rfl rfl 3 rfl ?_
      refine vs_aload_n 0 dX3_addRoot_13 rfl rfl 1 rfl ?_
      refine vs_iload_n 3 dX3_addRoot_14 rfl rfl 0 rfl ?_
      refine vs_iconst (v := 1) dX3_addRoot_15 rfl rfl ?_
      refine vs_isub dX3_addRoot_16 rfl ?_
      refine vs_topi (fun z1 e_z1 => ?_)
      have f_z1 : z1 = nZ ((j : Int) - 1) := (by rw [e_z1, nI_Z, nZ_lit]; exact nZ_sub _ _)
      subst f_z1
      clear e_z1
      refine vs_callV (st := [.ref (G.2.2.2 + 1), .int (nI j), .ref (G.2.2.2 + (o + 1))]) (vs_cal (r2 := some (.int (nI (pz g ((j : Int) - 1))))) (c_at hp hpo) (by rw [nZ_i (by omega) (by omega), ark_lo (by omega)]) rfl) lk_X3_37 lm_X3_at rfl hp.1 rfl rfl (Nat.le_of_ble_eq_true rfl) rfl ⟨rfl, rfl⟩ dX3_addRoot_17 rfl ?_
      show vs_V _ _ _ _ _ (.int (nI (pz g ((j : Int) - 1))) :: _) _
      refine vs_i2l dX3_addRoot_20 rfl ?_
      refine vs_iload_n 1 dX3_addRoot_21 rfl rfl 2 rfl ?_
      refine vs_i2l dX3_addRoot_22 rfl ?_
      refine vs_aload_n 0 dX3_addRoot_23 rfl rfl 1 rfl ?_
      refine vs_get (v := .ref (G.2.2.2 + (o + 1))) lf_X3_9 hp.1 rfl dX3_addRoot_24 rfl ?_
      refine vs_iload_n 3 dX3_addRoot_27 rfl rfl 0 rfl ?_
      refine vs_ialdN (g := (ark g x P (j + 1))) (k := j) vs_ia_at hp.2 rfl (by omega) rfl dX3_addRoot_28 rfl ?_
      rw [e0]
      refine vs_i2l dX3_addRoot_29 rfl ?_
      refine vs_lmul dX3_addRoot_30 rfl ?_
      refine vs_lsub dX3_addRoot_31 rfl ?_
      refine vs_callV (st := [.int (nI j), .ref (G.2.2.2 + (o + 1))]) (c_ofZ (z := (pz g ((j : Int) - 1) : Int) - (x : Int) * g j) (nn_msub (by omega) (by omega) (by omega)) hP hP1 hP2) lk_X3_27 lm_X5_of rfl rfl rfl rfl (Nat.le_of_ble_eq_true rfl) rfl ⟨rfl, rfl⟩ dX3_addRoot_32 rfl ?_
      show vs_V _ _ _ _ _ (.int (nI (nn_m ((pz g ((j : Int) - 1) : Int) - (x : Int) * g j) P)) :: _) _
      refine vs_iastU (k := j) hp.2 rfl (by omega) rfl dX3_addRoot_35 rfl ?_
      refine vs_eq (S2 := vs_ia S (o + 1) (nA (ark g x P j))) (by rw [ark_s (by omega)]) ?_
      refine vs_iinc (v := nZ ((j : Int) - 1)) [(3, .int (nZ ((j : Int) - 1))), (0, .ref (G.2.2.2 + o)), (1, .int (nI x)), (2, .ref (G.2.2.2 + 1))] dX3_addRoot_36 rfl 0 rfl (by rw [nI_Z]; exact nZ_add _ _) rfl rfl ?_
      refine vs_goto 3 dX3_addRoot_39 rfl ?_
      refine vs_pick [0, 1, 2, 3] rfl ?_
      exact ih (by omega)

theorem c_addRoot {G : vv_G} {S : vs_S} {o : Nat} {g : Nat → Nat} (hp : vs_P o) (hg : pR S o g) {x : Nat} {P : Nat} (hP : S.1 1 0 = nI P) (hP1 : 2 ≤ P) (hP2 : P ≤ 30011) (hb : ∀ k, g k < P) (hx : x < P) : vs_C G yX3_addRoot cX3_addRoot 4 none { frames := 1, locals := 24 } [.ref (G.2.2.2 + o), .int (nI x), .ref (G.2.2.2 + 1)] S none (vs_ia S (o + 1) (nA (ark g x P 0))) := by
  refine vs_of [(0, .ref (G.2.2.2 + o)), (1, .int (nI x)), (2, .ref (G.2.2.2 + 1))] (by decide) rfl rfl ?_
  refine vs_bipush (v := 41) dX3_addRoot_0 rfl rfl ?_
  refine vs_istore_n 3 [(3, .int (41)), (0, .ref (G.2.2.2 + o)), (1, .int (nI x)), (2, .ref (G.2.2.2 + 1))] dX3_addRoot_2 rfl rfl rfl rfl ?_
  refine vs_pick (L2 := [(3, .int (nI 41)), (0, .ref (G.2.2.2 + o)), (1, .int (nI x)), (2, .ref (G.2.2.2 + 1))]) [0, 1, 2, 3] rfl ?_
  refine vs_eq (S2 := vs_ia S (o + 1) (nA (ark g x P 42))) (by rw [ark_42]; exact vs_ia_same hg.1) ?_
  exact l_ar hp hg hP hP1 hP2 hb hx rfl rfl 42 (Nat.le_refl _)

def dvk (gd : Nat → Nat) (low inv P : Nat) : Nat → (Nat → Nat) × (Nat → Nat) → (Nat → Nat) × (Nat → Nat)
  | 0, x => x
  | d + 1, x => dvk gd low inv P d (nu x.1 d (x.2 (low + d) * inv % P), amk x.2 gd (nn_m (-((x.2 (low + d) * inv % P : Nat) : Int)) P) d P 42)
/-- quotient and remainder as the class makes them -/
def dvd_ (g gd : Nat → Nat) (P : Nat) : (Nat → Nat) × (Nat → Nat) := if tp gd 42 = 0 then (fun _ => 0, g) else dvk gd (tp gd 42 - 1) (ipw (gd (tp gd 42 - 1)) P) P (tp g 42 - (tp gd 42 - 1)) (fun _ => 0, g)
theorem l_dv {G : vv_G} {S : vs_S} {o p u : Nat} {gd : Nat → Nat} (hp : vs_P o) (hq : vs_P p) (hgd : pR S p gd) (hne : p ≠ o) (hu : vs_P u) (hne2 : u ≠ o) (hne3 : u ≠ p) {P : Nat} (hP : S.1 1 0 = nI P) (hP1 : 2 ≤ P) (hP2 : P ≤ 30011) (hbd : ∀ k, gd k < P) {inv low : Nat} (hinv : inv < P) (hlow : low < 42) {r : Option Value} (hr : r = none) : ∀ (d : Nat) (z : Int) (qa ta : Nat → Nat) (Sf : vs_S), -1 ≤ z → z < 42 → (d = 0 → z < low) → (0 < d → z = low + d - 1) → (∀ k, 42 ≤ k → qa k = 0) → (∀ k, 42 ≤ k → ta k = 0) → (∀ k, ta k < P) → vs_ia (vs_ia S (u + 1) (nA (dvk gd low inv P d (qa, ta)).1)) (o + 1) (nA (dvk gd low inv P d (qa, ta)).2) = Sf → vs_V G cX3_divide (vs_M yX3_divide 8 none { frames := 2, locals := 49 } G r Sf) 35 [(6, .int (nZ z)), (5, .int (nI inv)), (4, .int (nI low)), (0, .ref (G.2.2.2 + o)), (1, .ref (G.2.2.2 + p)), (2, .ref (G.2.2.2 + u)), (3, .ref (G.2.2.2 + 1))] [] (vs_ia (vs_ia S (u + 1) (nA qa)) (o + 1) (nA ta)) := by
  intro d
  induction d with
  | zero =>
    intro z qa ta Sf hz1 hz2 hz _ hqz htz htb hS
    have hz3 := hz rfl
    refine vs_iload dX3_divide_35 rfl 0 rfl ?_
    refine vs_iload dX3_divide_37 rfl 2 rfl ?_
    refine vs_icmp_lt 90 dX3_divide_39 rfl rfl (fun c_39 => ?_) (fun c_39 => ?_)
    · exact vs_vret dX3_divide_90 hr hS
    · exact absurd (by rw [nI_Z, nZ_lt (by omega) (by omega) (by omega) (by omega)]; omega) c_39
  | succ d ih =>
    intro z qa ta Sf hz1 hz2 _ hz hqz htz htb hS
    have hz3 : z = ((low + d : Nat) : Int) := by have := hz (by omega); omega
    subst hz3
    rw [← nI_Z (low + d)]
    have htk := htb (low + d)
    have hfb : ta (low + d) * inv % P < P := Nat.mod_lt _ (by omega)
    have hpo : pR (vs_ia (vs_ia S (u + 1) (nA qa)) (o + 1) (nA ta)) o ta := ⟨vs_ia_at, htz⟩
    have hpu : pR (vs_ia (vs_ia S (u + 1) (nA qa)) (o + 1) (nA ta)) u qa := ⟨(vs_ia_ne (by omega)).trans vs_ia_at, hqz⟩
    have hqz2 : ∀ k, 42 ≤ k → nu qa d (ta (low + d) * inv % P) k = 0 := fun k hk => (nu_n (by omega)).trans (hqz k hk)
    have hpo2 : pR (vs_ia (vs_ia S (u + 1) (nA (nu qa d (ta (low + d) * inv % P)))) (o + 1) (nA ta)) o ta := ⟨vs_ia_at, htz⟩
    have hpp2 : pR (vs_ia (vs_ia S (u + 1) (nA (nu qa d (ta (low + d) * inv % P)))) (o + 1) (nA ta)) p gd := ⟨(vs_ia_ne (by omega)).trans ((vs_ia_ne (by omega)).trans hgd.1), hgd.2⟩
    refine vs_iload dX3_divide_35 rfl 0 rfl ?_
    refine vs_iload dX3_divide_37 rfl 2 rfl ?_
    refine vs_icmp_lt 90 dX3_divide_39 rfl rfl (fun c_39 => ?_) (fun c_39 => ?_)
    · exact absurd c_39 (nI_nlt (by omega) (by omega))
    · refine vs_aload_n 3 dX3_divide_42 rfl rfl 6 rfl ?_
      refine vs_aload_n 0 dX3_divide_43 rfl rfl 3 rfl ?_
      refine vs_iload dX3_divide_44 rfl 0 rfl ?_
      refine vs_callV (st := [.ref (G.2.2.2 + 1)]) (c_atN hp hpo (k := low + d) (by omega)) lk_X3_37 lm_X3_at rfl hp.1 rfl rfl (Nat.le_of_ble_eq_true rfl) rfl ⟨rfl, rfl⟩ dX3_divide_46 rfl ?_
      show vs_V _ _ _ _ _ (.int (nI (ta (low + d))) :: _) _
      refine vs_iload dX3_divide_49 rfl 1 rfl ?_
      refine vs_callV (st := []) (c_rproduct (x := ta (low + d)) (y := inv) hP hP1 (by omega) (by omega) (by omega)) lk_X3_33 lm_X5_product rfl rfl rfl rfl (Nat.le_of_ble_eq_true rfl) rfl ⟨rfl, rfl⟩ dX3_divide_51 rfl ?_
      show vs_V _ _ _ _ _ (.int (nI (ta (low + d) * inv % P)) :: _) _
      refine vs_istore [(7, .int (nI (ta (low + d) * inv % P))), (6, .int (nI (low + d))), (5, .int (nI inv)), (4, .int (nI low)), (0, .ref (G.2.2.2 + o)), (1, .ref (G.2.2.2 + p)), (2, .ref (G.2.2.2 + u)), (3, .ref (G.2.2.2 + 1))] dX3_divide_54 rfl rfl rfl ?_
      refine vs_aload_n 2 dX3_divide_56 rfl rfl 6 rfl ?_
      refine vs_iload dX3_divide_57 rfl 1 rfl ?_
      refine vs_iload dX3_divide_59 rfl 3 rfl ?_
      refine vs_isub dX3_divide_61 rfl ?_
      refine vs_topi (fun z1 e_z1 => ?_)
      have f_z1 : z1 = nI d := (by rw [e_z1, pk_sub (by omega)]; congr 1; omega)
      subst f_z1
      clear e_z1
      refine vs_iload dX3_divide_62 rfl 0 rfl ?_
      refine vs_callV (st := []) (c_setN hu hpu (k := d) (x := ta (low + d) * inv % P) (by omega)) lk_X3_41 lm_X3_set rfl hu.1 rfl rfl (Nat.le_of_ble_eq_true rfl) rfl ⟨rfl, rfl⟩ dX3_divide_64 rfl ?_
      refine vs_eq (S2 := vs_ia (vs_ia S (u + 1) (nA (nu qa d (ta (low + d) * inv % P)))) (o + 1) (nA ta)) (by rw [vs_ia_c (by omega), vs_ia_ia]) ?_
      refine vs_aload_n 0 dX3_divide_67 rfl rfl 4 rfl ?_
      refine vs_aload_n 1 dX3_divide_68 rfl rfl 5 rfl ?_
      refine vs_aload_n 3 dX3_divide_69 rfl rfl 7 rfl ?_
      refine vs_iload dX3_divide_70 rfl 0 rfl ?_
      refine vs_callV (st := [.ref (G.2.2.2 + p), .ref (G.2.2.2 + o)]) (c_negative (x := ta (low + d) * inv % P) hP hP1 (by omega) (by omega)) lk_X3_49 lm_X5_negative rfl rfl rfl rfl (Nat.le_of_ble_eq_true rfl) rfl ⟨rfl, rfl⟩ dX3_divide_72 rfl ?_
      show vs_V _ _ _ _ _ (.int (nI (nn_m (-((ta (low + d) * inv % P : Nat) : Int)) P)) :: _) _
      refine vs_iload dX3_divide_75 rfl 1 rfl ?_
      refine vs_iload dX3_divide_77 rfl 3 rfl ?_
      refine vs_isub dX3_divide_79 rfl ?_
      refine vs_topi (fun z2 e_z2 => ?_)
      have f_z2 : z2 = nI d := (by rw [e_z2, pk_sub (by omega)]; congr 1; omega)
      subst f_z2
      clear e_z2
      refine vs_aload_n 3 dX3_divide_80 rfl rfl 7 rfl ?_
      refine vs_callV (st := []) (c_addMultiple hp hpo2 hq hpp2 hne (x := nn_m (-((ta (low + d) * inv % P : Nat) : Int)) P) (sh := d) hP hP1 hP2 htb hbd (nn_m_lt (by omega)) (by omega)) lk_X3_52 lm_X3_addMultiple rfl hp.1 rfl rfl (Nat.le_of_ble_eq_true rfl) rfl ⟨rfl, rfl⟩ dX3_divide_81 rfl ?_
      refine vs_eq (S2 := vs_ia (vs_ia S (u + 1) (nA (nu qa d (ta (low + d) * inv % P)))) (o + 1) (nA (amk ta gd (nn_m (-((ta (low + d) * inv % P : Nat) : Int)) P) d P 42))) (by rw [vs_ia_ia]) ?_
      refine vs_iinc (v := nZ (((low + d : Nat) : Int) - 1)) [(6, .int (nZ (((low + d : Nat) : Int) - 1))), (7, .int (nI (ta (low + d) * inv % P))), (5, .int (nI inv)), (4, .int (nI low)), (0, .ref (G.2.2.2 + o)), (1, .ref (G.2.2.2 + p)), (2, .ref (G.2.2.2 + u)), (3, .ref (G.2.2.2 + 1))] dX3_divide_84 rfl 1 rfl (by rw [nI_Z]; exact nZ_add _ _) rfl rfl ?_
      refine vs_goto 35 dX3_divide_87 rfl ?_
      refine vs_pick [0, 2, 3, 4, 5, 6, 7] rfl ?_
      exact ih _ _ _ Sf (by omega) (by omega) (by omega) (by omega) hqz2 (amk_z htz (Nat.le_refl _)) (amk_b (by omega) htb) hS

theorem c_divide {G : vv_G} {S : vs_S} {o : Nat} {g : Nat → Nat} (hp : vs_P o) (hg : pR S o g) {p : Nat} {gd : Nat → Nat} (hq : vs_P p) (hgd : pR S p gd) (hne : p ≠ o) {u : Nat} (hu : vs_P u) (hne2 : u ≠ o) (hne3 : u ≠ p) {P : Nat} (hP : S.1 1 0 = nI P) (hP1 : 2 ≤ P) (hP2 : P ≤ 30011) (hb : ∀ k, g k < P) (hbd : ∀ k, gd k < P) {gq : Nat → Nat} (hgq : pR S u gq) : vs_C G yX3_divide cX3_divide 8 none { frames := 2, locals := 49 } [.ref (G.2.2.2 + o), .ref (G.2.2.2 + p), .ref (G.2.2.2 + u), .ref (G.2.2.2 + 1)] S none (vs_ia (vs_ia S (u + 1) (nA (dvd_ g gd P).1)) (o + 1) (nA (dvd_ g gd P).2)) := by
  refine vs_of [(0, .ref (G.2.2.2 + o)), (1, .ref (G.2.2.2 + p)), (2, .ref (G.2.2.2 + u)), (3, .ref (G.2.2.2 + 1))] (by decide) rfl rfl ?_
  have htp := tp_le gd 42
  have htg := tp_le g 42
  have e00 : pcon 0 = fun _ => 0 := funext fun k => ite_self _
  have hS0 : vs_ia S (u + 1) (nA (fun _ => 0)) = vs_ia (vs_ia S (u + 1) (nA (fun _ => 0))) (o + 1) (nA g) := vs_ia_same ((vs_ia_ne (by omega)).trans hg.1)
  have hpo : pR (vs_ia (vs_ia S (u + 1) (nA (fun _ => 0))) (o + 1) (nA g)) o g := ⟨vs_ia_at, hg.2⟩
  have hpp : pR (vs_ia (vs_ia S (u + 1) (nA (fun _ => 0))) (o + 1) (nA g)) p gd := ⟨(vs_ia_ne (by omega)).trans ((vs_ia_ne (by omega)).trans hgd.1), hgd.2⟩
  have hbl := hbd (tp gd 42 - 1)
  refine vs_aload_n 2 dX3_divide_0 rfl rfl 2 rfl ?_
  refine vs_iconst (v := 0) dX3_divide_1 rfl rfl ?_
  refine vs_callV (st := []) (c_becomeNumber hu hgq (x := 0)) lk_X3_56 lm_X3_becomeNumber rfl hu.1 rfl rfl (Nat.le_of_ble_eq_true rfl) rfl ⟨rfl, rfl⟩ dX3_divide_2 rfl ?_
  refine vs_eq (S2 := vs_ia (vs_ia S (u + 1) (nA (fun _ => 0))) (o + 1) (nA g)) (by rw [e00]; exact hS0) ?_
  refine vs_aload_n 1 dX3_divide_5 rfl rfl 1 rfl ?_
  refine vs_callV (st := []) (c_top hq hpp (fun k => by have := hbd k; omega)) lk_X3_45 lm_X3_top rfl hq.1 rfl rfl (Nat.le_of_ble_eq_true rfl) rfl ⟨rfl, rfl⟩ dX3_divide_6 rfl ?_
  show vs_V _ _ _ _ _ (.int (nZ ((tp gd 42 : Int) - 1)) :: _) _
  refine vs_istore [(4, .int (nZ ((tp gd 42 : Int) - 1))), (0, .ref (G.2.2.2 + o)), (1, .ref (G.2.2.2 + p)), (2, .ref (G.2.2.2 + u)), (3, .ref (G.2.2.2 + 1))] dX3_divide_9 rfl rfl rfl ?_
  refine vs_iload dX3_divide_11 rfl 0 rfl ?_
  refine vs_if_ge 17 dX3_divide_13 rfl rfl (fun c_13 => ?_) (fun c_13 => ?_)
  · have hT : 0 < tp gd 42 := by
      rw [show (0 : Int32) = nZ 0 from rfl, nZ_le (by omega) (by omega) (by omega) (by omega)] at c_13
      omega
    have eL : nZ ((tp gd 42 : Int) - 1) = nI (tp gd 42 - 1) := by rw [nI_Z]; congr 1; omega
    rw [eL]
    refine vs_aload_n 3 dX3_divide_17 rfl rfl 4 rfl ?_
    refine vs_aload_n 1 dX3_divide_18 rfl rfl 2 rfl ?_
    refine vs_iload dX3_divide_19 rfl 0 rfl ?_
    refine vs_callV (st := [.ref (G.2.2.2 + 1)]) (c_atN hq hpp (k := tp gd 42 - 1) (by omega)) lk_X3_37 lm_X3_at rfl hq.1 rfl rfl (Nat.le_of_ble_eq_true rfl) rfl ⟨rfl, rfl⟩ dX3_divide_21 rfl ?_
    show vs_V _ _ _ _ _ (.int (nI (gd (tp gd 42 - 1))) :: _) _
    refine vs_callV (st := []) (c_rinverse (a := gd (tp gd 42 - 1)) hP hP1 hP2 hbl) lk_X3_60 lm_X5_inverse rfl rfl rfl rfl (Nat.le_of_ble_eq_true rfl) rfl ⟨rfl, rfl⟩ dX3_divide_24 rfl ?_
    show vs_V _ _ _ _ _ (.int (nI (ipw (gd (tp gd 42 - 1)) P)) :: _) _
    refine vs_istore [(5, .int (nI (ipw (gd (tp gd 42 - 1)) P))), (4, .int (nI (tp gd 42 - 1))), (0, .ref (G.2.2.2 + o)), (1, .ref (G.2.2.2 + p)), (2, .ref (G.2.2.2 + u)), (3, .ref (G.2.2.2 + 1))] dX3_divide_27 rfl rfl rfl ?_
    refine vs_aload_n 0 dX3_divide_29 rfl rfl 2 rfl ?_
    refine vs_callV (st := []) (c_top hp hpo (fun k => by have := hb k; omega)) lk_X3_45 lm_X3_top rfl hp.1 rfl rfl (Nat.le_of_ble_eq_true rfl) rfl ⟨rfl, rfl⟩ dX3_divide_30 rfl ?_
    show vs_V _ _ _ _ _ (.int (nZ ((tp g 42 : Int) - 1)) :: _) _
    refine vs_istore [(6, .int (nZ ((tp g 42 : Int) - 1))), (5, .int (nI (ipw (gd (tp gd 42 - 1)) P))), (4, .int (nI (tp gd 42 - 1))), (0, .ref (G.2.2.2 + o)), (1, .ref (G.2.2.2 + p)), (2, .ref (G.2.2.2 + u)), (3, .ref (G.2.2.2 + 1))] dX3_divide_33 rfl rfl rfl ?_
    refine vs_pick [0, 1, 2, 3, 4, 5, 6] rfl ?_
    have eD : dvd_ g gd P = dvk gd (tp gd 42 - 1) (ipw (gd (tp gd 42 - 1)) P) P (tp g 42 - (tp gd 42 - 1)) (fun _ => 0, g) := if_neg (by omega)
    rw [eD]
    exact l_dv hp hq hgd hne hu hne2 hne3 hP hP1 hP2 hbd (ipw_lt hP1) (by omega) rfl (tp g 42 - (tp gd 42 - 1)) _ _ _ _ (by omega) (by omega) (by omega) (by omega) (fun _ _ => rfl) hg.2 hb rfl
  · have hT : tp gd 42 = 0 := by
      rw [show (0 : Int32) = nZ 0 from rfl, nZ_le (by omega) (by omega) (by omega) (by omega)] at c_13
      omega
    have eD : dvd_ g gd P = (fun _ => 0, g) := if_pos hT
    exact vs_vret dX3_divide_16 rfl (by rw [eD])

