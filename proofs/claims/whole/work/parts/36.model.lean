/-- the model's table: n rows, w places of each -/
def tR (S : vs_S) (n w : Nat) (T : Nat → Nat → Nat) : Prop := ∀ i j, i < n → j < w → S.2.1 129 (44 * i + j) = nI (T i j)
theorem tR.put {S : vs_S} {n w i j x : Nat} {T : Nat → Nat → Nat} (h : tR S n w T) (hw : w ≤ 44) (hj : j < w) : tR (vs_ia S 129 (upd (S.2.1 129) (44 * i + j) (nI x))) n w (mu T i j x) := fun a b ha hb => by
  rw [vs_ia_at]
  unfold upd mu
  by_cases e : a = i ∧ b = j
  · rw [if_pos (by omega), if_pos e]
  · rw [if_neg (by omega), if_neg e]; exact h a b ha hb
theorem tR.fx {S S' : vs_S} {il : List Nat} {sl : List (Nat × Nat)} {ll : List Nat} {n w : Nat} {T : Nat → Nat → Nat} (h : tR S n w T) (hf : vs_fx S S' il sl ll) (ho : 129 ∉ il) : tR S' n w T := fun a b ha hb => by
  rw [hf.1 129 ho]; exact h a b ha hb
theorem tR.of {S : vs_S} {n w : Nat} {T T' : Nat → Nat → Nat} (h : tR S n w T) (he : ∀ i j, i < n → j < w → T i j = T' i j) : tR S n w T' := fun a b ha hb => by rw [h a b ha hb, he a b ha hb]
/-- filled so far -/
def tF (S : vs_S) (i j w : Nat) (H : Nat → Nat → Nat) : Prop := ∀ a b, b < w → (a < i ∨ (a = i ∧ b < j)) → S.2.1 129 (44 * a + b) = nI (H a b)
theorem tF.put {S : vs_S} {i j w : Nat} {H : Nat → Nat → Nat} (h : tF S i j w H) (hj : j < w) (hw : w ≤ 44) : tF (vs_ia S 129 (upd (S.2.1 129) (44 * i + j) (nI (H i j)))) i (j + 1) w H := fun a b hb hab => by
  rw [vs_ia_at]
  unfold upd
  by_cases e : a = i ∧ b = j
  · rw [if_pos (by omega), e.1, e.2]
  · rw [if_neg (by omega)]; exact h a b hb (by omega)
theorem tF.row {S : vs_S} {i w : Nat} {H : Nat → Nat → Nat} (h : tF S i w w H) : tF S (i + 1) 0 w H := fun a b hb hab => h a b hb (by omega)
theorem tF.r {S : vs_S} {n w : Nat} {H : Nat → Nat → Nat} (h : tF S n 0 w H) : tR S n w H := fun a b ha hb => h a b hb (by omega)
theorem tF_0 {S : vs_S} {w : Nat} {H : Nat → Nat → Nat} : tF S 0 0 w H := fun a b _ hab => absurd hab (by omega)
/-- rows p and k exchanged in the first j places -/
def swj (T : Nat → Nat → Nat) (p k j0 : Nat) : Nat → Nat → Nat := fun a b => if b < j0 then swi T p k a b else T a b
theorem swj_s {T : Nat → Nat → Nat} {p k j : Nat} : mu (mu (swj T p k j) p j (T k j)) k j (T p j) = swj T p k (j + 1) := by
  funext a b
  unfold mu swj swi
  by_cases e : b = j
  · subst e
    by_cases e1 : a = k
    · rw [if_pos ⟨e1, rfl⟩, if_pos (by omega), if_pos e1]
    · rw [if_neg (fun z => e1 z.1)]
      by_cases e2 : a = p
      · rw [if_pos ⟨e2, rfl⟩, if_pos (by omega), if_neg e1, if_pos e2]
      · rw [if_neg (fun z => e2 z.1), if_neg (by omega), if_pos (by omega), if_neg e1, if_neg e2]
  · rw [if_neg (fun z => e z.2), if_neg (fun z => e z.2)]
    by_cases e3 : b < j
    · rw [if_pos e3, if_pos (show b < j + 1 by omega)]
    · rw [if_neg e3, if_neg (show ¬ b < j + 1 by omega)]
theorem swj_p {T : Nat → Nat → Nat} {p k j a : Nat} : swj T p k j a j = T a j := if_neg (by omega)
theorem l_mw1 {G : vv_G} {S : vs_S} {f l m : Nat} (hf : f < 10) (hlm : l + m ≤ 40) {c : Nat → Nat} {S0 : vs_S} (c0 : ∀ k, k ≤ l + m → S0.2.1 125 (41 * f + k) = nI (c k)) {Pst : Option Value → vs_S → Prop} {i : Nat} (hi : i < m) (K : ∀ S2 : vs_S, vs_fx S0 S2 [129] [] [] → tF S2 i m m (fun a b => pz c ((l : Int) + a - b)) → vs_V G cX10_worth (vs_MP yX10_worth 11 (some .int) { frames := 2, locals := 46 } G Pst) 86 [(4, .int (nI i)), (0, .ref (G.2.2.2 + 118)), (1, .int (nI f)), (2, .int (nI l)), (3, .int (nI m))] [] S2) : ∀ (d j : Nat) (S : vs_S), j + d = m → vs_fx S0 S [129] [] [] → tF S i j m (fun a b => pz c ((l : Int) + a - b)) → vs_V G cX10_worth (vs_MP yX10_worth 11 (some .int) { frames := 2, locals := 46 } G Pst) 36 [(5, .int (nI j)), (4, .int (nI i)), (0, .ref (G.2.2.2 + 118)), (1, .int (nI f)), (2, .int (nI l)), (3, .int (nI m))] [] S := by
  intro d
  induction d with
  | zero =>
    intro j S hj F B
    obtain rfl : j = m := by omega
    refine vs_iload dX10_worth_36 rfl 0 rfl ?_
    refine vs_iload_n 3 dX10_worth_38 rfl rfl 5 rfl ?_
    refine vs_icmp_ge 86 dX10_worth_39 rfl rfl (fun c_39 => ?_) (fun c_39 => ?_)
    · have q_39 : ((j : Nat) : Int) ≥ ((j : Nat) : Int) := (qi_ge (nI_Z _) (nI_Z _) (by omega) (by omega) (by omega) (by omega)).mp c_39
      refine vs_pick [1, 2, 3, 4, 5] rfl ?_
      exact K S F B
    · have q_39 : ¬ ((j : Nat) : Int) ≥ ((j : Nat) : Int) := fun hh => c_39 ((qi_ge (nI_Z _) (nI_Z _) (by omega) (by omega) (by omega) (by omega)).mpr hh)
      omega
  | succ d ih =>
    intro j S hj F B
    have cf : ∀ k, k ≤ l + m → S.2.1 125 (41 * f + k) = nI (c k) := by rw [F.1 125 (by simp)]; exact c0
    refine vs_iload dX10_worth_36 rfl 0 rfl ?_
    refine vs_iload_n 3 dX10_worth_38 rfl rfl 5 rfl ?_
    refine vs_icmp_ge 86 dX10_worth_39 rfl rfl (fun c_39 => ?_) (fun c_39 => ?_)
    · have q_39 : ((j : Nat) : Int) ≥ ((m : Nat) : Int) := (qi_ge (nI_Z _) (nI_Z _) (by omega) (by omega) (by omega) (by omega)).mp c_39
      omega
    · have q_39 : ¬ ((j : Nat) : Int) ≥ ((m : Nat) : Int) := fun hh => c_39 ((qi_ge (nI_Z _) (nI_Z _) (by omega) (by omega) (by omega) (by omega)).mpr hh)
      refine vs_iload_n 2 dX10_worth_42 rfl rfl 4 rfl ?_
      refine vs_iload dX10_worth_43 rfl 1 rfl ?_
      refine vs_iadd dX10_worth_45 rfl ?_
      refine vs_iload dX10_worth_46 rfl 0 rfl ?_
      refine vs_isub dX10_worth_48 rfl ?_
      refine vs_topi (fun z1 e_z1 => ?_)
      have f_z1 : z1 = nZ ((l : Int) + i - j) := (by rw [e_z1]; simp only [nI_Z, nZ_add, nZ_sub])
      subst f_z1
      clear e_z1
      refine vs_topi (fun v6 e_v6 => ?_)
      have e2_v6 : v6 = nZ ((l : Int) + i - j) := e_v6
      clear e_v6
      subst e2_v6
      refine vs_istore [(6, .int (nZ ((l : Int) + i - j))), (5, .int (nI j)), (4, .int (nI i)), (0, .ref (G.2.2.2 + 118)), (1, .int (nI f)), (2, .int (nI l)), (3, .int (nI m))] dX10_worth_49 rfl rfl rfl ?_
      refine vs_aload_n 0 dX10_worth_51 rfl rfl 3 rfl ?_
      refine vs_get (v := .ref (G.2.2.2 + 129)) lf_X10_41 rfl rfl dX10_worth_52 rfl ?_
      refine vs_bipush (v := 44) dX10_worth_55 rfl rfl ?_
      refine vs_iload dX10_worth_57 rfl 2 rfl ?_
      refine vs_imul dX10_worth_59 rfl ?_
      refine vs_iload dX10_worth_60 rfl 1 rfl ?_
      refine vs_iadd dX10_worth_62 rfl ?_
      refine vs_iload dX10_worth_63 rfl 0 rfl ?_
      refine vs_if_ge 72 dX10_worth_65 rfl rfl (fun c_65 => ?_) (fun c_65 => ?_)
      · have q_65 : (((l : Int) + i - j) : Int) ≥ ((0 : Nat) : Int) := (qi_ge rfl (by first | exact nI_Z _ | (simp only [fa_lit, nI_add, pk_mul, nI_1]; exact nI_Z _)) (by omega) (by omega) (by omega) (by omega)).mp c_65
        obtain ⟨k, hk⟩ : ∃ k : Nat, (l : Int) + i - j = k := ⟨((l : Int) + i - j).toNat, by omega⟩
        have e1 : pz c ((l : Int) + i - j) = c k := by rw [hk, pz_n]
        rw [hk, nZ_n]
        refine vs_aload_n 0 dX10_worth_72 rfl rfl 3 rfl ?_
        refine vs_iload_n 1 dX10_worth_73 rfl rfl 4 rfl ?_
        refine vs_iload dX10_worth_74 rfl 0 rfl ?_
        refine vs_callV (st := [.int (((44 * nI i) + nI j)), .ref (G.2.2.2 + 129)]) (c_mof (f := f) (k := k) (v := c k) hf (by omega) (cf k (by omega))) lk_X10_161 lm_X10_of rfl rfl rfl rfl (Nat.le_of_ble_eq_true rfl) rfl ⟨rfl, rfl⟩ dX10_worth_76 rfl ?_
        show vs_V _ _ _ _ _ (.int (nI (c k)) :: _) _
        refine vs_iast (k := (44 * i + j)) rfl (by simp only [fa_lit, nI_add, pk_mul]) (by omega) rfl dX10_worth_79 rfl ?_
        refine vs_iinc (v := nI (j + 1)) [(5, .int (nI (j + 1))), (6, .int (nI k)), (4, .int (nI i)), (0, .ref (G.2.2.2 + 118)), (1, .int (nI f)), (2, .int (nI l)), (3, .int (nI m))] dX10_worth_80 rfl 1 rfl (by first | exact nI_1 _ | (simp only [fa_lit, nI_add, pk_mul, nI_1]; rfl)) rfl rfl ?_
        refine vs_goto 36 dX10_worth_83 rfl ?_
        refine vs_pick [0, 2, 3, 4, 5, 6] rfl ?_
        have B2 := tF.put B (show j < m by omega) (by omega)
        rw [e1] at B2
        exact ih (j + 1) _ (by omega) (vs_fx.ia F (by simp)) B2
      · have q_65 : ¬ (((l : Int) + i - j) : Int) ≥ ((0 : Nat) : Int) := fun hh => c_65 ((qi_ge rfl (by first | exact nI_Z _ | (simp only [fa_lit, nI_add, pk_mul, nI_1]; exact nI_Z _)) (by omega) (by omega) (by omega) (by omega)).mpr hh)
        have e1 : pz c ((l : Int) + i - j) = 0 := pz_neg (by omega)
        refine vs_iconst (v := 0) dX10_worth_68 rfl rfl ?_
        refine vs_goto 79 dX10_worth_69 rfl ?_
        refine vs_iast (k := (44 * i + j)) rfl (by simp only [fa_lit, nI_add, pk_mul]) (by omega) rfl dX10_worth_79 rfl ?_
        refine vs_iinc (v := nI (j + 1)) [(5, .int (nI (j + 1))), (6, .int (nZ ((l : Int) + i - j))), (4, .int (nI i)), (0, .ref (G.2.2.2 + 118)), (1, .int (nI f)), (2, .int (nI l)), (3, .int (nI m))] dX10_worth_80 rfl 1 rfl (by first | exact nI_1 _ | (simp only [fa_lit, nI_add, pk_mul, nI_1]; rfl)) rfl rfl ?_
        refine vs_goto 36 dX10_worth_83 rfl ?_
        refine vs_pick [0, 2, 3, 4, 5, 6] rfl ?_
        have B2 := tF.put B (show j < m by omega) (by omega)
        rw [e1] at B2
        exact ih (j + 1) _ (by omega) (vs_fx.ia F (by simp)) B2

theorem l_mw2 {G : vv_G} {S : vs_S} {f l m : Nat} (hf : f < 10) (hlm : l + m ≤ 40) {c : Nat → Nat} {S0 : vs_S} (c0 : ∀ k, k ≤ l + m → S0.2.1 125 (41 * f + k) = nI (c k)) {Pst : Option Value → vs_S → Prop} (K : ∀ S2 : vs_S, vs_fx S0 S2 [129] [] [] → tR S2 m m (fun a b => pz c ((l : Int) + a - b)) → vs_V G cX10_worth (vs_MP yX10_worth 11 (some .int) { frames := 2, locals := 46 } G Pst) 92 [(0, .ref (G.2.2.2 + 118)), (3, .int (nI m))] [] S2) : ∀ (d i : Nat) (S : vs_S), i + d = m → vs_fx S0 S [129] [] [] → tF S i 0 m (fun a b => pz c ((l : Int) + a - b)) → vs_V G cX10_worth (vs_MP yX10_worth 11 (some .int) { frames := 2, locals := 46 } G Pst) 27 [(4, .int (nI i)), (0, .ref (G.2.2.2 + 118)), (1, .int (nI f)), (2, .int (nI l)), (3, .int (nI m))] [] S := by
  intro d
  induction d with
  | zero =>
    intro i S hi F B
    obtain rfl : i = m := by omega
    refine vs_iload dX10_worth_27 rfl 0 rfl ?_
    refine vs_iload_n 3 dX10_worth_29 rfl rfl 4 rfl ?_
    refine vs_icmp_ge 92 dX10_worth_30 rfl rfl (fun c_30 => ?_) (fun c_30 => ?_)
    · have q_30 : ((i : Nat) : Int) ≥ ((i : Nat) : Int) := (qi_ge (nI_Z _) (nI_Z _) (by omega) (by omega) (by omega) (by omega)).mp c_30
      refine vs_pick [1, 4] rfl ?_
      exact K S F B.r
    · have q_30 : ¬ ((i : Nat) : Int) ≥ ((i : Nat) : Int) := fun hh => c_30 ((qi_ge (nI_Z _) (nI_Z _) (by omega) (by omega) (by omega) (by omega)).mpr hh)
      omega
  | succ d ih =>
    intro i S hi F B
    refine vs_iload dX10_worth_27 rfl 0 rfl ?_
    refine vs_iload_n 3 dX10_worth_29 rfl rfl 4 rfl ?_
    refine vs_icmp_ge 92 dX10_worth_30 rfl rfl (fun c_30 => ?_) (fun c_30 => ?_)
    · have q_30 : ((i : Nat) : Int) ≥ ((m : Nat) : Int) := (qi_ge (nI_Z _) (nI_Z _) (by omega) (by omega) (by omega) (by omega)).mp c_30
      omega
    · have q_30 : ¬ ((i : Nat) : Int) ≥ ((m : Nat) : Int) := fun hh => c_30 ((qi_ge (nI_Z _) (nI_Z _) (by omega) (by omega) (by omega) (by omega)).mpr hh)
      refine vs_iconst (v := 0) dX10_worth_33 rfl rfl ?_
      refine vs_istore [(5, .int (0)), (4, .int (nI i)), (0, .ref (G.2.2.2 + 118)), (1, .int (nI f)), (2, .int (nI l)), (3, .int (nI m))] dX10_worth_34 rfl rfl rfl ?_
      refine vs_pick (L2 := [(5, .int (nI 0)), (4, .int (nI i)), (0, .ref (G.2.2.2 + 118)), (1, .int (nI f)), (2, .int (nI l)), (3, .int (nI m))]) [0, 1, 2, 3, 4, 5] rfl ?_
      refine l_mw1 (S := S) hf hlm c0 (show i < m by omega) (fun S2 F2 B2 => ?_) m 0 S (by omega) F B
      refine vs_iinc (v := nI (i + 1)) [(4, .int (nI (i + 1))), (0, .ref (G.2.2.2 + 118)), (1, .int (nI f)), (2, .int (nI l)), (3, .int (nI m))] dX10_worth_86 rfl 0 rfl (by first | exact nI_1 _ | (simp only [fa_lit, nI_add, pk_mul, nI_1]; rfl)) rfl rfl ?_
      refine vs_goto 27 dX10_worth_89 rfl ?_
      refine vs_pick [0, 1, 2, 3, 4] rfl ?_
      exact ih (i + 1) S2 (by omega) F2 B2.row

theorem l_mw3 {G : vv_G} {S : vs_S} {m : Nat} (hm : m ≤ 40) {T : Nat → Nat → Nat} {P : Nat} (gP1 : 2 ≤ P) (gP2 : P ≤ 30011) (hb : ∀ i j, i < m → j < m → T i j < P) {k : Nat} (hk : k < m) {pr : Nat} (hT : tR S m m T) {Pst : Option Value → vs_S → Prop} (K : ∀ p : Nat, ((p = m ∧ pvr T k (m - k) k = -1) ∨ (p < m ∧ k ≤ p ∧ pvr T k (m - k) k = p)) → vs_V G cX10_worth (vs_MP yX10_worth 11 (some .int) { frames := 2, locals := 46 } G Pst) 141 [(6, .int (nI p)), (5, .int (nI k)), (4, .int (nI pr)), (0, .ref (G.2.2.2 + 118)), (3, .int (nI m))] [] S) : ∀ d p : Nat, p + d = m → k ≤ p → pvr T k (m - k) k = pvr T k d p → vs_V G cX10_worth (vs_MP yX10_worth 11 (some .int) { frames := 2, locals := 46 } G Pst) 113 [(6, .int (nI p)), (5, .int (nI k)), (4, .int (nI pr)), (0, .ref (G.2.2.2 + 118)), (3, .int (nI m))] [] S := by
  intro d
  induction d with
  | zero =>
    intro p hp hkp hv
    obtain rfl : p = m := by omega
    refine vs_iload dX10_worth_113 rfl 0 rfl ?_
    refine vs_iload_n 3 dX10_worth_115 rfl rfl 4 rfl ?_
    refine vs_icmp_ge 141 dX10_worth_116 rfl rfl (fun c_116 => ?_) (fun c_116 => ?_)
    · have q_116 : ((p : Nat) : Int) ≥ ((p : Nat) : Int) := (qi_ge (nI_Z _) (nI_Z _) (by omega) (by omega) (by omega) (by omega)).mp c_116
      refine vs_pick [0, 1, 2, 3, 4] rfl ?_
      exact K p (Or.inl ⟨rfl, hv⟩)
    · have q_116 : ¬ ((p : Nat) : Int) ≥ ((p : Nat) : Int) := fun hh => c_116 ((qi_ge (nI_Z _) (nI_Z _) (by omega) (by omega) (by omega) (by omega)).mpr hh)
      omega
  | succ d ih =>
    intro p hp hkp hv
    have b1 := hb p k (by omega) hk
    refine vs_iload dX10_worth_113 rfl 0 rfl ?_
    refine vs_iload_n 3 dX10_worth_115 rfl rfl 4 rfl ?_
    refine vs_icmp_ge 141 dX10_worth_116 rfl rfl (fun c_116 => ?_) (fun c_116 => ?_)
    · have q_116 : ((p : Nat) : Int) ≥ ((m : Nat) : Int) := (qi_ge (nI_Z _) (nI_Z _) (by omega) (by omega) (by omega) (by omega)).mp c_116
      omega
    · have q_116 : ¬ ((p : Nat) : Int) ≥ ((m : Nat) : Int) := fun hh => c_116 ((qi_ge (nI_Z _) (nI_Z _) (by omega) (by omega) (by omega) (by omega)).mpr hh)
      refine vs_aload_n 0 dX10_worth_119 rfl rfl 3 rfl ?_
      refine vs_get (v := .ref (G.2.2.2 + 129)) lf_X10_41 rfl rfl dX10_worth_120 rfl ?_
      refine vs_bipush (v := 44) dX10_worth_123 rfl rfl ?_
      refine vs_iload dX10_worth_125 rfl 0 rfl ?_
      refine vs_imul dX10_worth_127 rfl ?_
      refine vs_iload dX10_worth_128 rfl 1 rfl ?_
      refine vs_iadd dX10_worth_130 rfl ?_
      refine vs_iald (k := (44 * p + k)) rfl (by simp only [fa_lit, nI_add, pk_mul]) (by omega) rfl dX10_worth_131 rfl ?_
      refine vs_topi (fun z1 e_z1 => ?_)
      have f_z1 : z1 = nI (T p k) := (by rw [e_z1]; exact hT p k (by omega) hk)
      subst f_z1
      clear e_z1
      refine vs_if_ne 141 dX10_worth_132 rfl rfl (fun c_132 => ?_) (fun c_132 => ?_)
      · have q_132 : ¬ (((T p k) : Nat) : Int) = ((0 : Nat) : Int) := fun hh => c_132 ((qi_eq (nI_Z _) (by first | exact nI_Z _ | (simp only [fa_lit, nI_add, pk_mul, nI_1]; exact nI_Z _)) (by omega) (by omega) (by omega) (by omega)).mpr hh)
        rw [show pvr T k (d + 1) p = (p : Int) from if_neg (by omega)] at hv
        refine vs_pick [0, 1, 2, 3, 4] rfl ?_
        exact K p (Or.inr ⟨by omega, hkp, hv⟩)
      · have q_132 : (((T p k) : Nat) : Int) = ((0 : Nat) : Int) := (qi_eq (nI_Z _) (by first | exact nI_Z _ | (simp only [fa_lit, nI_add, pk_mul, nI_1]; exact nI_Z _)) (by omega) (by omega) (by omega) (by omega)).mp c_132
        rw [show pvr T k (d + 1) p = pvr T k d (p + 1) from if_pos (by omega)] at hv
        refine vs_iinc (v := nI (p + 1)) [(6, .int (nI (p + 1))), (5, .int (nI k)), (4, .int (nI pr)), (0, .ref (G.2.2.2 + 118)), (3, .int (nI m))] dX10_worth_135 rfl 0 rfl (by first | exact nI_1 _ | (simp only [fa_lit, nI_add, pk_mul, nI_1]; rfl)) rfl rfl ?_
        refine vs_goto 113 dX10_worth_138 rfl ?_
        refine vs_pick [0, 1, 2, 3, 4] rfl ?_
        exact ih (p + 1) (by omega) (by omega) hv

theorem l_mw4 {G : vv_G} {S : vs_S} {m : Nat} (hm : m ≤ 40) {T : Nat → Nat → Nat} {P : Nat} (gP1 : 2 ≤ P) (gP2 : P ≤ 30011) (hb : ∀ i j, i < m → j < m → T i j < P) {k : Nat} (hk : k < m) {pr p : Nat} (hp : p < m) (hpk : p ≠ k) {S0 : vs_S} {Pst : Option Value → vs_S → Prop} (K : ∀ S2 : vs_S, vs_fx S0 S2 [129] [] [] → tR S2 m m (swi T p k) → vs_V G cX10_worth (vs_MP yX10_worth 11 (some .int) { frames := 2, locals := 46 } G Pst) 227 [(6, .int (nI p)), (5, .int (nI k)), (4, .int (nI pr)), (0, .ref (G.2.2.2 + 118)), (3, .int (nI m))] [] S2) : ∀ (d j : Nat) (S : vs_S), j + d = m → vs_fx S0 S [129] [] [] → tR S m m (swj T p k j) → vs_V G cX10_worth (vs_MP yX10_worth 11 (some .int) { frames := 2, locals := 46 } G Pst) 159 [(7, .int (nI j)), (6, .int (nI p)), (5, .int (nI k)), (4, .int (nI pr)), (0, .ref (G.2.2.2 + 118)), (3, .int (nI m))] [] S := by
  intro d
  induction d with
  | zero =>
    intro j S hj F B
    obtain rfl : j = m := by omega
    refine vs_iload dX10_worth_159 rfl 0 rfl ?_
    refine vs_iload_n 3 dX10_worth_161 rfl rfl 5 rfl ?_
    refine vs_icmp_ge 227 dX10_worth_162 rfl rfl (fun c_162 => ?_) (fun c_162 => ?_)
    · have q_162 : ((j : Nat) : Int) ≥ ((j : Nat) : Int) := (qi_ge (nI_Z _) (nI_Z _) (by omega) (by omega) (by omega) (by omega)).mp c_162
      refine vs_pick [1, 2, 3, 4, 5] rfl ?_
      exact K S F (B.of (fun a b _ hb => if_pos hb))
    · have q_162 : ¬ ((j : Nat) : Int) ≥ ((j : Nat) : Int) := fun hh => c_162 ((qi_ge (nI_Z _) (nI_Z _) (by omega) (by omega) (by omega) (by omega)).mpr hh)
      omega
  | succ d ih =>
    intro j S hj F B
    have B1 := B p j hp (by omega)
    have B2 := B k j hk (by omega)
    rw [swj_p] at B1 B2
    have b1 := hb p j hp (by omega)
    have b2 := hb k j hk (by omega)
    refine vs_iload dX10_worth_159 rfl 0 rfl ?_
    refine vs_iload_n 3 dX10_worth_161 rfl rfl 5 rfl ?_
    refine vs_icmp_ge 227 dX10_worth_162 rfl rfl (fun c_162 => ?_) (fun c_162 => ?_)
    · have q_162 : ((j : Nat) : Int) ≥ ((m : Nat) : Int) := (qi_ge (nI_Z _) (nI_Z _) (by omega) (by omega) (by omega) (by omega)).mp c_162
      omega
    · have q_162 : ¬ ((j : Nat) : Int) ≥ ((m : Nat) : Int) := fun hh => c_162 ((qi_ge (nI_Z _) (nI_Z _) (by omega) (by omega) (by omega) (by omega)).mpr hh)
      refine vs_aload_n 0 dX10_worth_165 rfl rfl 4 rfl ?_
      refine vs_get (v := .ref (G.2.2.2 + 129)) lf_X10_41 rfl rfl dX10_worth_166 rfl ?_
      refine vs_bipush (v := 44) dX10_worth_169 rfl rfl ?_
      refine vs_iload dX10_worth_171 rfl 1 rfl ?_
      refine vs_imul dX10_worth_173 rfl ?_
      refine vs_iload dX10_worth_174 rfl 0 rfl ?_
      refine vs_iadd dX10_worth_176 rfl ?_
      refine vs_iald (k := (44 * p + j)) rfl (by simp only [fa_lit, nI_add, pk_mul]) (by omega) rfl dX10_worth_177 rfl ?_
      refine vs_topi (fun z1 e_z1 => ?_)
      have f_z1 : z1 = nI (T p j) := (by rw [e_z1]; exact B1)
      subst f_z1
      clear e_z1
      refine vs_istore [(8, .int (nI (T p j))), (7, .int (nI j)), (6, .int (nI p)), (5, .int (nI k)), (4, .int (nI pr)), (0, .ref (G.2.2.2 + 118)), (3, .int (nI m))] dX10_worth_178 rfl rfl rfl ?_
      refine vs_aload_n 0 dX10_worth_180 rfl rfl 5 rfl ?_
      refine vs_get (v := .ref (G.2.2.2 + 129)) lf_X10_41 rfl rfl dX10_worth_181 rfl ?_
      refine vs_bipush (v := 44) dX10_worth_184 rfl rfl ?_
      refine vs_iload dX10_worth_186 rfl 2 rfl ?_
      refine vs_imul dX10_worth_188 rfl ?_
      refine vs_iload dX10_worth_189 rfl 1 rfl ?_
      refine vs_iadd dX10_worth_191 rfl ?_
      refine vs_aload_n 0 dX10_worth_192 rfl rfl 5 rfl ?_
      refine vs_get (v := .ref (G.2.2.2 + 129)) lf_X10_41 rfl rfl dX10_worth_193 rfl ?_
      refine vs_bipush (v := 44) dX10_worth_196 rfl rfl ?_
      refine vs_iload dX10_worth_198 rfl 3 rfl ?_
      refine vs_imul dX10_worth_200 rfl ?_
      refine vs_iload dX10_worth_201 rfl 1 rfl ?_
      refine vs_iadd dX10_worth_203 rfl ?_
      refine vs_iald (k := (44 * k + j)) rfl (by simp only [fa_lit, nI_add, pk_mul]) (by omega) rfl dX10_worth_204 rfl ?_
      refine vs_topi (fun z2 e_z2 => ?_)
      have f_z2 : z2 = nI (T k j) := (by rw [e_z2]; exact B2)
      subst f_z2
      clear e_z2
      refine vs_iast (k := (44 * p + j)) rfl (by simp only [fa_lit, nI_add, pk_mul]) (by omega) rfl dX10_worth_205 rfl ?_
      refine vs_aload_n 0 dX10_worth_206 rfl rfl 5 rfl ?_
      refine vs_get (v := .ref (G.2.2.2 + 129)) lf_X10_41 rfl rfl dX10_worth_207 rfl ?_
      refine vs_bipush (v := 44) dX10_worth_210 rfl rfl ?_
      refine vs_iload dX10_worth_212 rfl 3 rfl ?_
      refine vs_imul dX10_worth_214 rfl ?_
      refine vs_iload dX10_worth_215 rfl 1 rfl ?_
      refine vs_iadd dX10_worth_217 rfl ?_
      refine vs_iload dX10_worth_218 rfl 0 rfl ?_
      refine vs_iast (k := (44 * k + j)) rfl (by simp only [fa_lit, nI_add, pk_mul]) (by omega) rfl dX10_worth_220 rfl ?_
      refine vs_iinc (v := nI (j + 1)) [(7, .int (nI (j + 1))), (8, .int (nI (T p j))), (6, .int (nI p)), (5, .int (nI k)), (4, .int (nI pr)), (0, .ref (G.2.2.2 + 118)), (3, .int (nI m))] dX10_worth_221 rfl 1 rfl (by first | exact nI_1 _ | (simp only [fa_lit, nI_add, pk_mul, nI_1]; rfl)) rfl rfl ?_
      refine vs_goto 159 dX10_worth_224 rfl ?_
      refine vs_pick [0, 2, 3, 4, 5, 6] rfl ?_
      have B3 := tR.put (i := k) (x := T p j) (tR.put (i := p) (x := T k j) B (by omega) (show j < m by omega)) (by omega) (show j < m by omega)
      rw [swj_s] at B3
      exact ih (j + 1) _ (by omega) (vs_fx.ia (vs_fx.ia F (by simp)) (by simp)) B3

theorem l_mw5 {G : vv_G} {S : vs_S} {m : Nat} (hm : m ≤ 40) {T : Nat → Nat → Nat} {P : Nat} (gP1 : 2 ≤ P) (gP2 : P ≤ 30011) (hb : ∀ i j, i < m → j < m → T i j < P) {k : Nat} (hk : k < m) {pr i : Nat} (hi : i < m) (hki : k < i) {S0 : vs_S} (mP0 : S0.1 118 2 = nI P) {Pst : Option Value → vs_S → Prop} (K : ∀ S2 : vs_S, vs_fx S0 S2 [129] [] [] → tR S2 m m (clk P T k i m) → vs_V G cX10_worth (vs_MP yX10_worth 11 (some .int) { frames := 2, locals := 46 } G Pst) 376 [(8, .int (nI i)), (7, .int (nI (ipw (T k k) P))), (5, .int (nI k)), (4, .int (nI pr)), (0, .ref (G.2.2.2 + 118)), (3, .int (nI m))] [] S2) : ∀ (d j : Nat) (S : vs_S), j + d = m → k ≤ j → vs_fx S0 S [129] [] [] → tR S m m (clk P T k i j) → vs_V G cX10_worth (vs_MP yX10_worth 11 (some .int) { frames := 2, locals := 46 } G Pst) 314 [(10, .int (nI j)), (9, .int (nI (T i k * ipw (T k k) P % P))), (8, .int (nI i)), (7, .int (nI (ipw (T k k) P))), (5, .int (nI k)), (4, .int (nI pr)), (0, .ref (G.2.2.2 + 118)), (3, .int (nI m))] [] S := by
  intro d
  induction d with
  | zero =>
    intro j S hj hkj F B
    obtain rfl : j = m := by omega
    refine vs_iload dX10_worth_314 rfl 0 rfl ?_
    refine vs_iload_n 3 dX10_worth_316 rfl rfl 7 rfl ?_
    refine vs_icmp_ge 376 dX10_worth_317 rfl rfl (fun c_317 => ?_) (fun c_317 => ?_)
    · have q_317 : ((j : Nat) : Int) ≥ ((j : Nat) : Int) := (qi_ge (nI_Z _) (nI_Z _) (by omega) (by omega) (by omega) (by omega)).mp c_317
      refine vs_pick [2, 3, 4, 5, 6, 7] rfl ?_
      exact K S F B
    · have q_317 : ¬ ((j : Nat) : Int) ≥ ((j : Nat) : Int) := fun hh => c_317 ((qi_ge (nI_Z _) (nI_Z _) (by omega) (by omega) (by omega) (by omega)).mpr hh)
      omega
  | succ d ih =>
    intro j S hj hkj F B
    have mP : S.1 118 2 = nI P := (F.2.1 _ _ (by simp)).trans mP0
    have B1 := B i j hi (by omega)
    have B2 := B k j hk (by omega)
    rw [clk_p (by omega)] at B1 B2
    have b1 := hb i j hi (by omega)
    have b2 := hb k j hk (by omega)
    have b3 := Nat.mod_lt (T i k * ipw (T k k) P) (show P > 0 by omega)
    refine vs_iload dX10_worth_314 rfl 0 rfl ?_
    refine vs_iload_n 3 dX10_worth_316 rfl rfl 7 rfl ?_
    refine vs_icmp_ge 376 dX10_worth_317 rfl rfl (fun c_317 => ?_) (fun c_317 => ?_)
    · have q_317 : ((j : Nat) : Int) ≥ ((m : Nat) : Int) := (qi_ge (nI_Z _) (nI_Z _) (by omega) (by omega) (by omega) (by omega)).mp c_317
      omega
    · have q_317 : ¬ ((j : Nat) : Int) ≥ ((m : Nat) : Int) := fun hh => c_317 ((qi_ge (nI_Z _) (nI_Z _) (by omega) (by omega) (by omega) (by omega)).mpr hh)
      refine vs_aload_n 0 dX10_worth_320 rfl rfl 6 rfl ?_
      refine vs_get (v := .ref (G.2.2.2 + 129)) lf_X10_41 rfl rfl dX10_worth_321 rfl ?_
      refine vs_bipush (v := 44) dX10_worth_324 rfl rfl ?_
      refine vs_iload dX10_worth_326 rfl 2 rfl ?_
      refine vs_imul dX10_worth_328 rfl ?_
      refine vs_iload dX10_worth_329 rfl 0 rfl ?_
      refine vs_iadd dX10_worth_331 rfl ?_
      refine vs_aload_n 0 dX10_worth_332 rfl rfl 6 rfl ?_
      refine vs_aload_n 0 dX10_worth_333 rfl rfl 6 rfl ?_
      refine vs_get (v := .ref (G.2.2.2 + 129)) lf_X10_41 rfl rfl dX10_worth_334 rfl ?_
      refine vs_bipush (v := 44) dX10_worth_337 rfl rfl ?_
      refine vs_iload dX10_worth_339 rfl 2 rfl ?_
      refine vs_imul dX10_worth_341 rfl ?_
      refine vs_iload dX10_worth_342 rfl 0 rfl ?_
      refine vs_iadd dX10_worth_344 rfl ?_
      refine vs_iald (k := (44 * i + j)) rfl (by simp only [fa_lit, nI_add, pk_mul]) (by omega) rfl dX10_worth_345 rfl ?_
      refine vs_topi (fun z1 e_z1 => ?_)
      have f_z1 : z1 = nI (T i j) := (by rw [e_z1]; exact B1)
      subst f_z1
      clear e_z1
      refine vs_i2l dX10_worth_346 rfl ?_
      refine vs_iload dX10_worth_347 rfl 1 rfl ?_
      refine vs_i2l dX10_worth_349 rfl ?_
      refine vs_aload_n 0 dX10_worth_350 rfl rfl 6 rfl ?_
      refine vs_get (v := .ref (G.2.2.2 + 129)) lf_X10_41 rfl rfl dX10_worth_351 rfl ?_
      refine vs_bipush (v := 44) dX10_worth_354 rfl rfl ?_
      refine vs_iload dX10_worth_356 rfl 4 rfl ?_
      refine vs_imul dX10_worth_358 rfl ?_
      refine vs_iload dX10_worth_359 rfl 0 rfl ?_
      refine vs_iadd dX10_worth_361 rfl ?_
      refine vs_iald (k := (44 * k + j)) rfl (by simp only [fa_lit, nI_add, pk_mul]) (by omega) rfl dX10_worth_362 rfl ?_
      refine vs_topi (fun z2 e_z2 => ?_)
      have f_z2 : z2 = nI (T k j) := (by rw [e_z2]; exact B2)
      subst f_z2
      clear e_z2
      refine vs_i2l dX10_worth_363 rfl ?_
      refine vs_lmul dX10_worth_364 rfl ?_
      refine vs_lsub dX10_worth_365 rfl ?_
      refine vs_callV (st := [.int (((44 * nI i) + nI j)), .ref (G.2.2.2 + 129)]) (c_restZ (z := (T i j : Int) - ((T i k * ipw (T k k) P % P) : Nat) * T k j) (nn_msub2 b3 b2 b1 gP2) mP gP1 gP2) lk_X10_135 lm_X10_rest rfl rfl rfl rfl (Nat.le_of_ble_eq_true rfl) rfl ⟨rfl, rfl⟩ dX10_worth_366 rfl ?_
      show vs_V _ _ _ _ _ (.int (nI (clv P T k i j)) :: _) _
      refine vs_iast (k := (44 * i + j)) rfl (by simp only [fa_lit, nI_add, pk_mul]) (by omega) rfl dX10_worth_369 rfl ?_
      refine vs_iinc (v := nI (j + 1)) [(10, .int (nI (j + 1))), (9, .int (nI (T i k * ipw (T k k) P % P))), (8, .int (nI i)), (7, .int (nI (ipw (T k k) P))), (5, .int (nI k)), (4, .int (nI pr)), (0, .ref (G.2.2.2 + 118)), (3, .int (nI m))] dX10_worth_370 rfl 0 rfl (by first | exact nI_1 _ | (simp only [fa_lit, nI_add, pk_mul, nI_1]; rfl)) rfl rfl ?_
      refine vs_goto 314 dX10_worth_373 rfl ?_
      refine vs_pick [0, 1, 2, 3, 4, 5, 6, 7] rfl ?_
      have B3 := tR.put (i := i) (x := clv P T k i j) B (by omega) (show j < m by omega)
      rw [clk_s hki hkj] at B3
      exact ih (j + 1) _ (by omega) (by omega) (vs_fx.ia F (by simp)) B3

theorem l_mw6 {G : vv_G} {S : vs_S} {m : Nat} (hm : m ≤ 40) {T : Nat → Nat → Nat} {P : Nat} (gP1 : 2 ≤ P) (gP2 : P ≤ 30011) (hb : ∀ i j, i < m → j < m → T i j < P) {k : Nat} (hk : k < m) {pr : Nat} {S0 : vs_S} (mP0 : S0.1 118 2 = nI P) {Pst : Option Value → vs_S → Prop} (K : ∀ S2 : vs_S, vs_fx S0 S2 [129] [] [] → tR S2 m m (clr P T k) → vs_V G cX10_worth (vs_MP yX10_worth 11 (some .int) { frames := 2, locals := 46 } G Pst) 382 [(5, .int (nI k)), (4, .int (nI pr)), (0, .ref (G.2.2.2 + 118)), (3, .int (nI m))] [] S2) : ∀ (d i : Nat) (S : vs_S), i + d = m → k < i → vs_fx S0 S [129] [] [] → tR S m m (clk P T k i k) → vs_V G cX10_worth (vs_MP yX10_worth 11 (some .int) { frames := 2, locals := 46 } G Pst) 283 [(8, .int (nI i)), (7, .int (nI (ipw (T k k) P))), (5, .int (nI k)), (4, .int (nI pr)), (0, .ref (G.2.2.2 + 118)), (3, .int (nI m))] [] S := by
  intro d
  induction d with
  | zero =>
    intro i S hi hki F B
    obtain rfl : i = m := by omega
    refine vs_iload dX10_worth_283 rfl 0 rfl ?_
    refine vs_iload_n 3 dX10_worth_285 rfl rfl 5 rfl ?_
    refine vs_icmp_ge 382 dX10_worth_286 rfl rfl (fun c_286 => ?_) (fun c_286 => ?_)
    · have q_286 : ((i : Nat) : Int) ≥ ((i : Nat) : Int) := (qi_ge (nI_Z _) (nI_Z _) (by omega) (by omega) (by omega) (by omega)).mp c_286
      refine vs_pick [2, 3, 4, 5] rfl ?_
      exact K S F (B.of (fun a b ha _ => clk_end ha))
    · have q_286 : ¬ ((i : Nat) : Int) ≥ ((i : Nat) : Int) := fun hh => c_286 ((qi_ge (nI_Z _) (nI_Z _) (by omega) (by omega) (by omega) (by omega)).mpr hh)
      omega
  | succ d ih =>
    intro i S hi hki F B
    have mP : S.1 118 2 = nI P := (F.2.1 _ _ (by simp)).trans mP0
    have B1 := B i k (by omega) hk
    rw [clk_p (by omega)] at B1
    have b1 := hb i k (by omega) hk
    have b2 := ipw_lt (a := T k k) gP1
    refine vs_iload dX10_worth_283 rfl 0 rfl ?_
    refine vs_iload_n 3 dX10_worth_285 rfl rfl 5 rfl ?_
    refine vs_icmp_ge 382 dX10_worth_286 rfl rfl (fun c_286 => ?_) (fun c_286 => ?_)
    · have q_286 : ((i : Nat) : Int) ≥ ((m : Nat) : Int) := (qi_ge (nI_Z _) (nI_Z _) (by omega) (by omega) (by omega) (by omega)).mp c_286
      omega
    · have q_286 : ¬ ((i : Nat) : Int) ≥ ((m : Nat) : Int) := fun hh => c_286 ((qi_ge (nI_Z _) (nI_Z _) (by omega) (by omega) (by omega) (by omega)).mpr hh)
      refine vs_aload_n 0 dX10_worth_289 rfl rfl 4 rfl ?_
      refine vs_aload_n 0 dX10_worth_290 rfl rfl 4 rfl ?_
      refine vs_get (v := .ref (G.2.2.2 + 129)) lf_X10_41 rfl rfl dX10_worth_291 rfl ?_
      refine vs_bipush (v := 44) dX10_worth_294 rfl rfl ?_
      refine vs_iload dX10_worth_296 rfl 0 rfl ?_
      refine vs_imul dX10_worth_298 rfl ?_
      refine vs_iload dX10_worth_299 rfl 2 rfl ?_
      refine vs_iadd dX10_worth_301 rfl ?_
      refine vs_iald (k := (44 * i + k)) rfl (by simp only [fa_lit, nI_add, pk_mul]) (by omega) rfl dX10_worth_302 rfl ?_
      refine vs_topi (fun z1 e_z1 => ?_)
      have f_z1 : z1 = nI (T i k) := (by rw [e_z1]; exact B1)
      subst f_z1
      clear e_z1
      refine vs_iload dX10_worth_303 rfl 1 rfl ?_
      refine vs_callV (st := []) (c_product (x := T i k) (y := ipw (T k k) P) mP (by omega) (by omega) (by omega) (by omega)) lk_X10_99 lm_X10_product rfl rfl rfl rfl (Nat.le_of_ble_eq_true rfl) rfl ⟨rfl, rfl⟩ dX10_worth_305 rfl ?_
      show vs_V _ _ _ _ _ (.int (nI (T i k * ipw (T k k) P % P)) :: _) _
      refine vs_istore [(9, .int (nI (T i k * ipw (T k k) P % P))), (8, .int (nI i)), (7, .int (nI (ipw (T k k) P))), (5, .int (nI k)), (4, .int (nI pr)), (0, .ref (G.2.2.2 + 118)), (3, .int (nI m))] dX10_worth_308 rfl rfl rfl ?_
      refine vs_iload dX10_worth_310 rfl 3 rfl ?_
      refine vs_istore [(10, .int (nI k)), (9, .int (nI (T i k * ipw (T k k) P % P))), (8, .int (nI i)), (7, .int (nI (ipw (T k k) P))), (5, .int (nI k)), (4, .int (nI pr)), (0, .ref (G.2.2.2 + 118)), (3, .int (nI m))] dX10_worth_312 rfl rfl rfl ?_
      refine vs_pick (L2 := [(10, .int (nI k)), (9, .int (nI (T i k * ipw (T k k) P % P))), (8, .int (nI i)), (7, .int (nI (ipw (T k k) P))), (5, .int (nI k)), (4, .int (nI pr)), (0, .ref (G.2.2.2 + 118)), (3, .int (nI m))]) [0, 1, 2, 3, 4, 5, 6, 7] rfl ?_
      refine l_mw5 (S := S) hm gP1 gP2 hb hk (show i < m by omega) hki mP0 (fun S2 F2 B2 => ?_) (m - k) k S (by omega) (Nat.le_refl _) F B
      refine vs_iinc (v := nI (i + 1)) [(8, .int (nI (i + 1))), (7, .int (nI (ipw (T k k) P))), (5, .int (nI k)), (4, .int (nI pr)), (0, .ref (G.2.2.2 + 118)), (3, .int (nI m))] dX10_worth_376 rfl 0 rfl (by first | exact nI_1 _ | (simp only [fa_lit, nI_add, pk_mul, nI_1]; rfl)) rfl rfl ?_
      refine vs_goto 283 dX10_worth_379 rfl ?_
      refine vs_pick [0, 1, 2, 3, 4, 5] rfl ?_
      exact ih (i + 1) S2 (by omega) (by omega) F2 (B2.of (fun a b _ hb => clk_row hb))

theorem l_mw7 {G : vv_G} {S : vs_S} {m : Nat} (hm : m ≤ 40) {T : Nat → Nat → Nat} {P : Nat} (gP1 : 2 ≤ P) (gP2 : P ≤ 30011) (hb : ∀ i j, i < m → j < m → T i j < P) {k : Nat} (hk : k < m) {pr : Nat} (hpr : pr < P) (hT : tR S m m T) (mP : S.1 118 2 = nI P) {Pst : Option Value → vs_S → Prop} (K : ∀ S2 : vs_S, vs_fx S S2 [129] [] [] → tR S2 m m (clr P T k) → vs_V G cX10_worth (vs_MP yX10_worth 11 (some .int) { frames := 2, locals := 46 } G Pst) 103 [(5, .int (nI (k + 1))), (4, .int (nI (pr * T k k % P))), (0, .ref (G.2.2.2 + 118)), (3, .int (nI m))] [] S2) : vs_V G cX10_worth (vs_MP yX10_worth 11 (some .int) { frames := 2, locals := 46 } G Pst) 237 [(5, .int (nI k)), (4, .int (nI pr)), (0, .ref (G.2.2.2 + 118)), (3, .int (nI m))] [] S := by
  have b1 := hb k k hk hk
  have B1 := hT k k hk hk
  refine vs_aload_n 0 dX10_worth_237 rfl rfl 2 rfl ?_
  refine vs_aload_n 0 dX10_worth_238 rfl rfl 2 rfl ?_
  refine vs_get (v := .ref (G.2.2.2 + 129)) lf_X10_41 rfl rfl dX10_worth_239 rfl ?_
  refine vs_bipush (v := 44) dX10_worth_242 rfl rfl ?_
  refine vs_iload dX10_worth_244 rfl 0 rfl ?_
  refine vs_imul dX10_worth_246 rfl ?_
  refine vs_iload dX10_worth_247 rfl 0 rfl ?_
  refine vs_iadd dX10_worth_249 rfl ?_
  refine vs_iald (k := (44 * k + k)) rfl (by simp only [fa_lit, nI_add, pk_mul]) (by omega) rfl dX10_worth_250 rfl ?_
  refine vs_topi (fun z1 e_z1 => ?_)
  have f_z1 : z1 = nI (T k k) := (by rw [e_z1]; exact B1)
  subst f_z1
  clear e_z1
  refine vs_callV (st := []) (c_minverse (a := T k k) mP gP1 gP2 b1) lk_X10_142 lm_X10_inverse rfl rfl rfl rfl (Nat.le_of_ble_eq_true rfl) rfl ⟨rfl, rfl⟩ dX10_worth_251 rfl ?_
  show vs_V _ _ _ _ _ (.int (nI (ipw (T k k) P)) :: _) _
  refine vs_istore [(7, .int (nI (ipw (T k k) P))), (5, .int (nI k)), (4, .int (nI pr)), (0, .ref (G.2.2.2 + 118)), (3, .int (nI m))] dX10_worth_254 rfl rfl rfl ?_
  refine vs_aload_n 0 dX10_worth_256 rfl rfl 3 rfl ?_
  refine vs_iload dX10_worth_257 rfl 2 rfl ?_
  refine vs_aload_n 0 dX10_worth_259 rfl rfl 3 rfl ?_
  refine vs_get (v := .ref (G.2.2.2 + 129)) lf_X10_41 rfl rfl dX10_worth_260 rfl ?_
  refine vs_bipush (v := 44) dX10_worth_263 rfl rfl ?_
  refine vs_iload dX10_worth_265 rfl 1 rfl ?_
  refine vs_imul dX10_worth_267 rfl ?_
  refine vs_iload dX10_worth_268 rfl 1 rfl ?_
  refine vs_iadd dX10_worth_270 rfl ?_
  refine vs_iald (k := (44 * k + k)) rfl (by simp only [fa_lit, nI_add, pk_mul]) (by omega) rfl dX10_worth_271 rfl ?_
  refine vs_topi (fun z2 e_z2 => ?_)
  have f_z2 : z2 = nI (T k k) := (by rw [e_z2]; exact B1)
  subst f_z2
  clear e_z2
  refine vs_callV (st := []) (c_product (x := pr) (y := T k k) mP (by omega) (by omega) (by omega) (by omega)) lk_X10_99 lm_X10_product rfl rfl rfl rfl (Nat.le_of_ble_eq_true rfl) rfl ⟨rfl, rfl⟩ dX10_worth_272 rfl ?_
  show vs_V _ _ _ _ _ (.int (nI (pr * T k k % P)) :: _) _
  refine vs_istore [(4, .int (nI (pr * T k k % P))), (7, .int (nI (ipw (T k k) P))), (5, .int (nI k)), (0, .ref (G.2.2.2 + 118)), (3, .int (nI m))] dX10_worth_275 rfl rfl rfl ?_
  refine vs_iload dX10_worth_277 rfl 2 rfl ?_
  refine vs_iconst (v := 1) dX10_worth_279 rfl rfl ?_
  refine vs_iadd dX10_worth_280 rfl ?_
  refine vs_topi (fun z3 e_z3 => ?_)
  have f_z3 : z3 = nI (k + 1) := (by rw [e_z3]; exact nI_1 _)
  subst f_z3
  clear e_z3
  refine vs_istore [(8, .int (nI (k + 1))), (4, .int (nI (pr * T k k % P))), (7, .int (nI (ipw (T k k) P))), (5, .int (nI k)), (0, .ref (G.2.2.2 + 118)), (3, .int (nI m))] dX10_worth_281 rfl rfl rfl ?_
  refine vs_pick (L2 := [(8, .int (nI (k + 1))), (7, .int (nI (ipw (T k k) P))), (5, .int (nI k)), (4, .int (nI (pr * T k k % P))), (0, .ref (G.2.2.2 + 118)), (3, .int (nI m))]) [0, 2, 3, 1, 4, 5] rfl ?_
  refine l_mw6 (S := S) (pr := pr * T k k % P) hm gP1 gP2 hb hk mP (fun S2 F2 B2 => ?_) (m - (k + 1)) (k + 1) S (by omega) (by omega) vs_fx.rf (hT.of (fun a b _ _ => clk_beg.symm))
  refine vs_iinc (v := nI (k + 1)) [(5, .int (nI (k + 1))), (4, .int (nI (pr * T k k % P))), (0, .ref (G.2.2.2 + 118)), (3, .int (nI m))] dX10_worth_382 rfl 0 rfl (by first | exact nI_1 _ | (simp only [fa_lit, nI_add, pk_mul, nI_1]; rfl)) rfl rfl ?_
  refine vs_goto 103 dX10_worth_385 rfl ?_
  refine vs_pick [0, 1, 2, 3] rfl ?_
  exact K S2 F2 B2

theorem l_mw8 {G : vv_G} {S : vs_S} {m : Nat} (hm : m ≤ 40) {P : Nat} (gP1 : 2 ≤ P) (gP2 : P ≤ 30011) {S0 : vs_S} (mP0 : S0.1 118 2 = nI P) {Pst : Option Value → vs_S → Prop} : ∀ (d k : Nat) (S : vs_S) (T : Nat → Nat → Nat) (pr : Nat), k + d = m → vs_fx S0 S [129] [] [] → tR S m m T → (∀ i j, i < m → j < m → T i j < P) → pr < P → (∀ S2 : vs_S, vs_fx S0 S2 [129] [] [] → Pst (some (.int (nI (dtk P d k T pr)))) S2) → vs_V G cX10_worth (vs_MP yX10_worth 11 (some .int) { frames := 2, locals := 46 } G Pst) 103 [(5, .int (nI k)), (4, .int (nI pr)), (0, .ref (G.2.2.2 + 118)), (3, .int (nI m))] [] S := by
  intro d
  induction d with
  | zero =>
    intro k S T pr hd F B hb hpr K
    obtain rfl : k = m := by omega
    refine vs_iload dX10_worth_103 rfl 0 rfl ?_
    refine vs_iload_n 3 dX10_worth_105 rfl rfl 3 rfl ?_
    refine vs_icmp_ge 388 dX10_worth_106 rfl rfl (fun c_106 => ?_) (fun c_106 => ?_)
    · have q_106 : ((k : Nat) : Int) ≥ ((k : Nat) : Int) := (qi_ge (nI_Z _) (nI_Z _) (by omega) (by omega) (by omega) (by omega)).mp c_106
      refine vs_iload dX10_worth_388 rfl 1 rfl ?_
      exact vs_iretP dX10_worth_390 (K S F)
    · have q_106 : ¬ ((k : Nat) : Int) ≥ ((k : Nat) : Int) := fun hh => c_106 ((qi_ge (nI_Z _) (nI_Z _) (by omega) (by omega) (by omega) (by omega)).mpr hh)
      omega
  | succ d ih =>
    intro k S T pr hd F B hb hpr K
    have mP : S.1 118 2 = nI P := (F.2.1 _ _ (by simp)).trans mP0
    have hd2 : m - k = d + 1 := by omega
    have hkk : dtk P (d + 1) k T pr = if pvr T k (d + 1) k < 0 then 0 else dtk P d (k + 1) (clr P (dt1 T (pvr T k (d + 1) k).toNat k) k) (dts P pr (pvr T k (d + 1) k).toNat k * dt1 T (pvr T k (d + 1) k).toNat k k k % P) := rfl
    refine vs_iload dX10_worth_103 rfl 0 rfl ?_
    refine vs_iload_n 3 dX10_worth_105 rfl rfl 3 rfl ?_
    refine vs_icmp_ge 388 dX10_worth_106 rfl rfl (fun c_106 => ?_) (fun c_106 => ?_)
    · have q_106 : ((k : Nat) : Int) ≥ ((m : Nat) : Int) := (qi_ge (nI_Z _) (nI_Z _) (by omega) (by omega) (by omega) (by omega)).mp c_106
      omega
    · have q_106 : ¬ ((k : Nat) : Int) ≥ ((m : Nat) : Int) := fun hh => c_106 ((qi_ge (nI_Z _) (nI_Z _) (by omega) (by omega) (by omega) (by omega)).mpr hh)
      refine vs_iload dX10_worth_109 rfl 0 rfl ?_
      refine vs_istore [(6, .int (nI k)), (5, .int (nI k)), (4, .int (nI pr)), (0, .ref (G.2.2.2 + 118)), (3, .int (nI m))] dX10_worth_111 rfl rfl rfl ?_
      refine vs_pick (L2 := [(6, .int (nI k)), (5, .int (nI k)), (4, .int (nI pr)), (0, .ref (G.2.2.2 + 118)), (3, .int (nI m))]) [0, 1, 2, 3, 4] rfl ?_
      refine l_mw3 (S := S) hm gP1 gP2 hb (show k < m by omega) B (fun p hp => ?_) (m - k) k (by omega) (Nat.le_refl _) rfl
      rw [hd2] at hp
      rcases hp with ⟨rfl, hv⟩ | ⟨hpm, hkp, hv⟩
      · have K2 := K S F
        rw [hkk, hv, if_pos (by omega)] at K2
        refine vs_iload dX10_worth_141 rfl 0 rfl ?_
        refine vs_iload_n 3 dX10_worth_143 rfl rfl 4 rfl ?_
        refine vs_icmp_ne 149 dX10_worth_144 rfl rfl (fun c_144 => ?_) (fun c_144 => ?_)
        · have q_144 : ¬ ((p : Nat) : Int) = ((p : Nat) : Int) := fun hh => c_144 ((qi_eq (nI_Z _) (nI_Z _) (by omega) (by omega) (by omega) (by omega)).mpr hh)
          omega
        · have q_144 : ((p : Nat) : Int) = ((p : Nat) : Int) := (qi_eq (nI_Z _) (nI_Z _) (by omega) (by omega) (by omega) (by omega)).mp c_144
          refine vs_iconst (v := 0) dX10_worth_147 rfl rfl ?_
          exact vs_iretP dX10_worth_148 K2
      · rw [hv, if_neg (by omega), show ((p : Nat) : Int).toNat = p by omega] at hkk
        have hbb := dt1_b hb hpm (show k < m by omega)
        refine vs_iload dX10_worth_141 rfl 0 rfl ?_
        refine vs_iload_n 3 dX10_worth_143 rfl rfl 4 rfl ?_
        refine vs_icmp_ne 149 dX10_worth_144 rfl rfl (fun c_144 => ?_) (fun c_144 => ?_)
        · have q_144 : ¬ ((p : Nat) : Int) = ((m : Nat) : Int) := fun hh => c_144 ((qi_eq (nI_Z _) (nI_Z _) (by omega) (by omega) (by omega) (by omega)).mpr hh)
          refine vs_iload dX10_worth_149 rfl 0 rfl ?_
          refine vs_iload dX10_worth_151 rfl 1 rfl ?_
          refine vs_icmp_eq 237 dX10_worth_153 rfl rfl (fun c_153 => ?_) (fun c_153 => ?_)
          · have q_153 : ((p : Nat) : Int) = ((k : Nat) : Int) := (qi_eq (nI_Z _) (nI_Z _) (by omega) (by omega) (by omega) (by omega)).mp c_153
            have e1 : dt1 T p k = T := if_pos (by omega)
            have e2 : dts P pr p k = pr := if_pos (by omega)
            rw [e1, e2] at hkk
            rw [e1] at hbb
            refine vs_pick [1, 2, 3, 4] rfl ?_
            refine l_mw7 (S := S) hm gP1 gP2 hbb (show k < m by omega) hpr B mP (fun S2 F2 B2 => ?_)
            exact ih (k + 1) S2 _ _ (by omega) (vs_fx.tr F F2 (by simp) (by simp) (by simp)) B2 (clr_b (by omega) hbb) (Nat.mod_lt _ (by omega)) (fun S3 F3 => by have := K S3 F3; rw [hkk] at this; exact this)
          · have q_153 : ¬ ((p : Nat) : Int) = ((k : Nat) : Int) := fun hh => c_153 ((qi_eq (nI_Z _) (nI_Z _) (by omega) (by omega) (by omega) (by omega)).mpr hh)
            have e1 : dt1 T p k = swi T p k := if_neg (by omega)
            have e2 : dts P pr p k = nn_m (-(pr : Int)) P := if_neg (by omega)
            rw [e1, e2] at hkk
            rw [e1] at hbb
            refine vs_iconst (v := 0) dX10_worth_156 rfl rfl ?_
            refine vs_istore [(7, .int (0)), (6, .int (nI p)), (5, .int (nI k)), (4, .int (nI pr)), (0, .ref (G.2.2.2 + 118)), (3, .int (nI m))] dX10_worth_157 rfl rfl rfl ?_
            refine vs_pick (L2 := [(7, .int (nI 0)), (6, .int (nI p)), (5, .int (nI k)), (4, .int (nI pr)), (0, .ref (G.2.2.2 + 118)), (3, .int (nI m))]) [0, 1, 2, 3, 4, 5] rfl ?_
            refine l_mw4 (S := S) hm gP1 gP2 hb (show k < m by omega) hpm (by omega) (S0 := S) (fun S2 F2 B2 => ?_) m 0 S (by omega) vs_fx.rf (B.of (fun a b _ _ => (if_neg (by omega)).symm))
            have mP2 : S2.1 118 2 = nI P := (F2.2.1 _ _ (by simp)).trans mP
            refine vs_aload_n 0 dX10_worth_227 rfl rfl 3 rfl ?_
            refine vs_iload dX10_worth_228 rfl 2 rfl ?_
            refine vs_ineg dX10_worth_230 rfl ?_
            refine vs_i2l dX10_worth_231 rfl ?_
            refine vs_callV (st := []) (c_restZ (z := -(pr : Int)) (by rw [nn_i2l, nI_Z, nZ_neg, nZ_i (by omega) (by omega)]) mP2 gP1 gP2) lk_X10_135 lm_X10_rest rfl rfl rfl rfl (Nat.le_of_ble_eq_true rfl) rfl ⟨rfl, rfl⟩ dX10_worth_232 rfl ?_
            show vs_V _ _ _ _ _ (.int (nI (nn_m (-(pr : Int)) P)) :: _) _
            refine vs_istore [(4, .int (nI (nn_m (-(pr : Int)) P))), (6, .int (nI p)), (5, .int (nI k)), (0, .ref (G.2.2.2 + 118)), (3, .int (nI m))] dX10_worth_235 rfl rfl rfl ?_
            refine vs_pick [2, 0, 3, 4] rfl ?_
            refine l_mw7 (S := S2) hm gP1 gP2 hbb (show k < m by omega) (nn_m_lt (by omega)) B2 mP2 (fun S3 F3 B3 => ?_)
            exact ih (k + 1) S3 _ _ (by omega) (vs_fx.tr (vs_fx.tr F F2 (by simp) (by simp) (by simp)) F3 (by simp) (by simp) (by simp)) B3 (clr_b (by omega) hbb) (Nat.mod_lt _ (by omega)) (fun S4 F4 => by have := K S4 F4; rw [hkk] at this; exact this)
        · have q_144 : ((p : Nat) : Int) = ((m : Nat) : Int) := (qi_eq (nI_Z _) (nI_Z _) (by omega) (by omega) (by omega) (by omega)).mp c_144
          omega

theorem M_worth {G : vv_G} {S : vs_S} {a : aS} (hM : MSt S a) (hG : aG a) {f : Int} (hf1 : -2147483648 ≤ f) (hf2 : f < 2147483648) {l : Int} (hl1 : -2147483648 ≤ l) (hl2 : l < 2147483648) {m : Int} (hm1 : -2147483648 ≤ m) (hm2 : m < 2147483648) : vs_CP G yX10_worth cX10_worth 11 (some .int) { frames := 2, locals := 46 } [.ref (G.2.2.2 + 118), .int (nZ f), .int (nZ l), .int (nZ m)] S (fun r S2 => r = some (.int (nZ (sp_worth a f l m).1)) ∧ MSt S2 (sp_worth a f l m).2 ∧ frM S S2) := by
  refine vs_ofP [(0, .ref (G.2.2.2 + 118)), (1, .int (nZ f)), (2, .int (nZ l)), (3, .int (nZ m))] (by decide) rfl rfl ?_
  obtain ⟨⟨mP, mN, mH, mK0⟩, mK, mSh, mSe, ⟨mA, mB⟩, mX, mY⟩ := id hM
  obtain ⟨gP, gP2, gN, gH, gSe, gSh, gXY, gB31, gInj, gA, gB, gAz, gBz⟩ := hG
  have gP1 := gP.1
  refine vs_aload_n 0 dX10_worth_0 rfl rfl 0 rfl ?_
  refine vs_iload_n 1 dX10_worth_1 rfl rfl 1 rfl ?_
  refine vs_callV (st := []) (c_isSeries mN gN hf1 hf2) lk_X10_155 lm_X10_isSeries rfl rfl rfl rfl (Nat.le_of_ble_eq_true rfl) rfl ⟨rfl, rfl⟩ dX10_worth_2 rfl ?_
  show vs_V _ _ _ _ _ (.int ((if 0 ≤ f ∧ f ≤ (aN a : Int) - 1 then 1 else 0)) :: _) _
  refine vs_if_ne 11 dX10_worth_5 rfl rfl (fun c_5 => ?_) (fun c_5 => ?_)
  · rw [nn_is0, Classical.not_not] at c_5
    skip
    · obtain ⟨f, rfl⟩ : ∃ z0 : Nat, f = z0 := ⟨f.toNat, by omega⟩
      rw [nZ_n f]
      have hf : f < 10 := by omega
      have hfN : f < aN a := by omega
      obtain ⟨f1, f2⟩ := mSe f hfN
      obtain ⟨f3, f4⟩ := gSe f hfN
      refine vs_aload_n 0 dX10_worth_11 rfl rfl 0 rfl ?_
      refine vs_iload_n 1 dX10_worth_12 rfl rfl 1 rfl ?_
      refine vs_iload_n 2 dX10_worth_13 rfl rfl 2 rfl ?_
      refine vs_iload_n 3 dX10_worth_14 rfl rfl 3 rfl ?_
      refine vs_callV (st := []) (c_isPair hf f1 f3 hl1 hl2 hm1 hm2) lk_X10_189 lm_X10_isPair rfl rfl rfl rfl (Nat.le_of_ble_eq_true rfl) rfl ⟨rfl, rfl⟩ dX10_worth_15 rfl ?_
      show vs_V _ _ _ _ _ (.int ((if 0 ≤ l ∧ 0 ≤ m ∧ l + m ≤ (aLa a f : Int) then 1 else 0)) :: _) _
      refine vs_if_ne 24 dX10_worth_18 rfl rfl (fun c_18 => ?_) (fun c_18 => ?_)
      · rw [nn_is0, Classical.not_not] at c_18
        skip
        · obtain ⟨l, rfl⟩ : ∃ z0 : Nat, l = z0 := ⟨l.toNat, by omega⟩
          obtain ⟨m, rfl⟩ : ∃ z0 : Nat, m = z0 := ⟨m.toNat, by omega⟩
          rw [nZ_n l, nZ_n m]
          refine vs_iconst (v := 0) dX10_worth_24 rfl rfl ?_
          refine vs_istore [(4, .int (0)), (0, .ref (G.2.2.2 + 118)), (1, .int (nI f)), (2, .int (nI l)), (3, .int (nI m))] dX10_worth_25 rfl rfl rfl ?_
          refine vs_pick (L2 := [(4, .int (nI 0)), (0, .ref (G.2.2.2 + 118)), (1, .int (nI f)), (2, .int (nI l)), (3, .int (nI m))]) [0, 1, 2, 3, 4] rfl ?_
          refine l_mw2 (S := S) (f := f) (l := l) (m := m) hf (by omega) (c := aC a f) (S0 := S) (fun k hk => f2 k (by omega)) (fun S2 F B => ?_) m 0 S (by omega) vs_fx.rf tF_0
          have mP2 : S2.1 118 2 = nI (aP a) := (F.2.1 _ _ (by simp)).trans mP
          refine vs_iconst (v := 1) dX10_worth_92 rfl rfl ?_
          refine vs_aload_n 0 dX10_worth_93 rfl rfl 0 rfl ?_
          refine vs_get (v := .int (nI (aP a))) lf_X10_92 rfl (congrArg (fun z => some (Value.int z)) mP2) dX10_worth_94 rfl ?_
          refine vs_irem dX10_worth_97 rfl (fun z => by have := (nI_n0 (show aP a < 2147483648 by omega)).mp z; omega) ?_
          refine vs_topi (fun z1 e_z1 => ?_)
          have f_z1 : z1 = nI 1 := (by rw [e_z1, show (1 : Int32) = nI 1 from rfl, pk_rem (by omega) (by omega) (by omega), Nat.mod_eq_of_lt (by omega)])
          subst f_z1
          clear e_z1
          refine vs_istore [(4, .int (nI 1)), (0, .ref (G.2.2.2 + 118)), (3, .int (nI m))] dX10_worth_98 rfl rfl rfl ?_
          refine vs_iconst (v := 0) dX10_worth_100 rfl rfl ?_
          refine vs_istore [(5, .int (0)), (4, .int (nI 1)), (0, .ref (G.2.2.2 + 118)), (3, .int (nI m))] dX10_worth_101 rfl rfl rfl ?_
          refine vs_pick (L2 := [(5, .int (nI 0)), (4, .int (nI 1)), (0, .ref (G.2.2.2 + 118)), (3, .int (nI m))]) [0, 1, 2, 3] rfl ?_
          exact l_mw8 (S := S) (by omega) gP1 gP2 (S0 := S2) mP2 m 0 S2 _ 1 (by omega) vs_fx.rf B (fun i j _ _ => pz_lt (by omega) f4) (by omega) (fun S3 F3 => mpost (v := (dtk (aP a) m 0 (fun i j => pz (aC a f) ((l : Int) + i - j)) 1 : Int)) (a' := a) (by unfold sp_worth; (try simp only [Int.toNat_natCast]); repeat (first | rw [if_pos (by omega)] | rw [if_pos trivial] | rw [if_neg (by omega)])) (by rw [nZ_n]) (MSt.sr hM (vs_fx.tr F F3 (by simp) (by simp) (by simp)) (by simp [mcr]) (by simp) (by simp)) ((vs_fx.tr F F3 (by simp) (by simp) (by simp)).M (by simp) (by simp) (by simp)))
      · rw [nn_is0] at c_18
        refine vs_bipush (v := -102) dX10_worth_21 rfl rfl ?_
        exact vs_iretP dX10_worth_23 (mpost (v := -102) (a' := a) (by unfold sp_worth; (try simp only [Int.toNat_natCast]); repeat (first | rw [if_pos (by omega)] | rw [if_pos trivial] | rw [if_neg (by omega)])) rfl hM frM.rf)
  · rw [nn_is0] at c_5
    refine vs_bipush (v := -101) dX10_worth_8 rfl rfl ?_
    exact vs_iretP dX10_worth_10 (mpost (v := -101) (a' := a) (by unfold sp_worth; (try simp only [Int.toNat_natCast]); repeat (first | rw [if_pos (by omega)] | rw [if_pos trivial] | rw [if_neg (by omega)])) rfl hM frM.rf)

