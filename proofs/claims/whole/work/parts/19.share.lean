section VSG
variable {G : vv_G} {cc : ByteArray} {M : vv_M} {pc q : Nat} {L : List (Nat × Value)} {st : List Value} {S : vs_S}
theorem vs_gen (k : ∀ S2 : vs_S, S2 = S → vs_V G cc M pc L st S2) : vs_V G cc M pc L st S := k S rfl
end VSG
theorem vs_sc_ne {S : vs_S} {o o' k : Nat} {v : Int32} (h : o' ≠ o) : (vs_sc S o k v).1 o' = S.1 o' := vs_u2_n h
theorem vs_sc_at {S : vs_S} {o k : Nat} {v : Int32} : (vs_sc S o k v).1 o k = v := by
  unfold vs_sc
  simp only [vs_u2_s]
  exact if_pos rfl
theorem vs_sc_nf {S : vs_S} {o k k' : Nat} {v : Int32} (h : k' ≠ k) : (vs_sc S o k v).1 o k' = S.1 o k' := by
  unfold vs_sc
  simp only [vs_u2_s]
  exact if_neg h
theorem qi_lt {x y : Int32} {a b : Int} (hx : x = nZ a) (hy : y = nZ b) (h1 : -2147483648 ≤ a) (h2 : a < 2147483648) (h3 : -2147483648 ≤ b) (h4 : b < 2147483648) : x < y ↔ a < b := by rw [hx, hy, nZ_lt h1 h2 h3 h4]
theorem qi_le {x y : Int32} {a b : Int} (hx : x = nZ a) (hy : y = nZ b) (h1 : -2147483648 ≤ a) (h2 : a < 2147483648) (h3 : -2147483648 ≤ b) (h4 : b < 2147483648) : x ≤ y ↔ a ≤ b := by rw [hx, hy, nZ_le h1 h2 h3 h4]
theorem qi_gt {x y : Int32} {a b : Int} (hx : x = nZ a) (hy : y = nZ b) (h1 : -2147483648 ≤ a) (h2 : a < 2147483648) (h3 : -2147483648 ≤ b) (h4 : b < 2147483648) : y < x ↔ a > b := by rw [hx, hy, nZ_lt h3 h4 h1 h2]
theorem qi_ge {x y : Int32} {a b : Int} (hx : x = nZ a) (hy : y = nZ b) (h1 : -2147483648 ≤ a) (h2 : a < 2147483648) (h3 : -2147483648 ≤ b) (h4 : b < 2147483648) : y ≤ x ↔ a ≥ b := by rw [hx, hy, nZ_le h3 h4 h1 h2]
theorem qi_eq {x y : Int32} {a b : Int} (hx : x = nZ a) (hy : y = nZ b) (h1 : -2147483648 ≤ a) (h2 : a < 2147483648) (h3 : -2147483648 ≤ b) (h4 : b < 2147483648) : x = y ↔ a = b := by rw [hx, hy, nZ_eq h1 h2 h3 h4]
theorem nA_ex (f : Nat → Int32) : ∃ g : Nat → Nat, f = nA g := ⟨fun k => (f k).toBitVec.toNat, funext fun k => by
  apply Int32.toBitVec_inj.mp
  show _ = (Int32.ofNat (f k).toBitVec.toNat).toBitVec
  simp [Int32.ofNat]⟩
/-- Euclid's way down to the first remainder of degree at most 'most' -/
def eu (P most : Nat) : Nat → (Nat → Nat) → (Nat → Nat) → (Nat → Nat) → (Nat → Nat) → (Nat → Nat) × (Nat → Nat)
  | 0, _, r1, _, t1 => (r1, t1)
  | d + 1, r0, r1, t0, t1 => if most + 1 < tp r1 42 then eu P most d r1 (dvd_ r0 r1 P).2 t1 (spk t0 (dvd_ r0 r1 P).1 t1 P (tp (dvd_ r0 r1 P).1 42)) else (r1, t1)
theorem eu_b {P most : Nat} (h0 : 0 < P) : ∀ (d : Nat) (r0 r1 t0 t1 : Nat → Nat), (∀ k, r0 k < P) → (∀ k, r1 k < P) → (∀ k, t0 k < P) → (∀ k, t1 k < P) → (∀ k, (eu P most d r0 r1 t0 t1).1 k < P) ∧ ∀ k, (eu P most d r0 r1 t0 t1).2 k < P
  | 0, _, _, _, _, _, h2, _, h4 => ⟨h2, h4⟩
  | d + 1, r0, r1, t0, t1, h1, h2, h3, h4 => by
    unfold eu
    by_cases h : most + 1 < tp r1 42
    · rw [if_pos h]; exact eu_b h0 d _ _ _ _ h2 (dvd_b h0 h1).2 h4 (spk_b h0 h3 _)
    · rw [if_neg h]; exact ⟨h2, h4⟩
/-- the share of a series' numbers, or of points, as the class finds it -/
def fsh (P most : Nat) (mo st : Nat → Nat) : (Nat → Nat) × (Nat → Nat) := dcf (eu P most 42 mo st (pcon 0) (pcon 1)).1 (eu P most 42 mo st (pcon 0) (pcon 1)).2 P
theorem vs_Pf {e f u v : Nat} (h : (e = 18 ∧ f = 20 ∧ u = 24 ∧ v = 22) ∨ (e = 20 ∧ f = 18 ∧ u = 22 ∧ v = 24)) : vs_P e ∧ vs_P f ∧ vs_P u ∧ vs_P v := by
  rcases h with ⟨rfl, rfl, rfl, rfl⟩ | ⟨rfl, rfl, rfl, rfl⟩
  · exact ⟨vs_P18, vs_P20, vs_P24, vs_P22⟩
  · exact ⟨vs_P20, vs_P18, vs_P22, vs_P24⟩
theorem l_eu {G : vv_G} {S : vs_S} {o : Nat} (hs : vs_Sh o) (ho : o = 7 ∨ o = 12) {S0 : vs_S} {P : Nat} (hP0 : S0.1 1 0 = nI P) (hP1 : 2 ≤ P) (hP2 : P ≤ 30011) {l : Nat} (hl : l ≤ 41) {Pst : Option Value → vs_S → Prop} : ∀ (d i e f u v : Nat) (S : vs_S) (r0 r1 t0 t1 : Nat → Nat), i + d = 42 → ((e = 18 ∧ f = 20 ∧ u = 24 ∧ v = 22) ∨ (e = 20 ∧ f = 18 ∧ u = 22 ∧ v = 24)) → S.1 = S0.1 → pR S e r0 → pR S f r1 → pR S u t0 → pR S v t1 → jk S 26 → (∀ k, r0 k < P) → (∀ k, r1 k < P) → (∀ k, t0 k < P) → (∀ k, t1 k < P) → (∀ (S2 : vs_S) (e2 f2 u2 v2 : Nat), ((e2 = 18 ∧ f2 = 20 ∧ u2 = 24 ∧ v2 = 22) ∨ (e2 = 20 ∧ f2 = 18 ∧ u2 = 22 ∧ v2 = 24)) → vs_fr S S2 [19, 21, 23, 25, 27] → pR S2 f2 (eu P l d r0 r1 t0 t1).1 → pR S2 v2 (eu P l d r0 r1 t0 t1).2 → jk S2 e2 → jk S2 u2 → jk S2 26 → vs_V G cX1_findShare (vs_MP yX1_findShare 11 none { frames := 4, locals := 102 } G Pst) 109 [(5, .ref (G.2.2.2 + f2)), (7, .ref (G.2.2.2 + v2)), (0, .ref (G.2.2.2 + 17)), (2, .ref (G.2.2.2 + o)), (3, .ref (G.2.2.2 + 1))] [] S2) → vs_V G cX1_findShare (vs_MP yX1_findShare 11 none { frames := 4, locals := 102 } G Pst) 39 [(8, .int (nI i)), (4, .ref (G.2.2.2 + e)), (5, .ref (G.2.2.2 + f)), (6, .ref (G.2.2.2 + u)), (7, .ref (G.2.2.2 + v)), (0, .ref (G.2.2.2 + 17)), (1, .int (nI l)), (2, .ref (G.2.2.2 + o)), (3, .ref (G.2.2.2 + 1))] [] S := by
  intro d
  induction d with
  | zero =>
    intro i e f u v S r0 r1 t0 t1 hi hpar hS0 h0 h1 h2 h3 hj b0 b1 b2 b3 K
    obtain rfl : i = 42 := by omega
    obtain ⟨he, hf, hu, hv⟩ := vs_Pf hpar
    refine vs_iload dX1_findShare_39 rfl 0 rfl ?_
    refine vs_bipush (v := 42) dX1_findShare_41 rfl rfl ?_
    refine vs_icmp_ge 109 dX1_findShare_43 rfl rfl (fun c_43 => ?_) (fun c_43 => ?_)
    · have q_43 : ((42 : Nat) : Int) ≥ ((42 : Nat) : Int) := (qi_ge (nI_Z _) (by first | exact nI_Z _ | (simp only [fa_lit, nI_add, pk_mul, nI_1]; exact nI_Z _)) (by omega) (by omega) (by omega) (by omega)).mp c_43
      refine vs_pick [2, 4, 5, 7, 8] rfl ?_
      exact K S e f u v hpar vs_fr.rf h1 h3 ⟨r0, h0⟩ ⟨t0, h2⟩ hj
    · have q_43 : ¬ ((42 : Nat) : Int) ≥ ((42 : Nat) : Int) := fun hh => c_43 ((qi_ge (nI_Z _) (by first | exact nI_Z _ | (simp only [fa_lit, nI_add, pk_mul, nI_1]; exact nI_Z _)) (by omega) (by omega) (by omega) (by omega)).mpr hh)
      omega
  | succ d ih =>
    intro i e f u v S r0 r1 t0 t1 hi hpar hS0 h0 h1 h2 h3 hj b0 b1 b2 b3 K
    obtain ⟨he, hf, hu, hv⟩ := vs_Pf hpar
    have hP : S.1 1 0 = nI P := by rw [hS0]; exact hP0
    have htl := tp_le r1 42
    obtain ⟨gq, hgq⟩ := hj
    obtain ⟨bq, bt⟩ := dvd_b (gd := r1) (P := P) (by omega) b0
    obtain ⟨zq, zt⟩ := dvd_z (gd := r1) (P := P) h0.2
    have F : vs_fr S S [19, 21, 23, 25, 27] := vs_fr.rf
    refine vs_iload dX1_findShare_39 rfl 0 rfl ?_
    refine vs_bipush (v := 42) dX1_findShare_41 rfl rfl ?_
    refine vs_icmp_ge 109 dX1_findShare_43 rfl rfl (fun c_43 => ?_) (fun c_43 => ?_)
    · have q_43 : ((i : Nat) : Int) ≥ ((42 : Nat) : Int) := (qi_ge (nI_Z _) (by first | exact nI_Z _ | (simp only [fa_lit, nI_add, pk_mul, nI_1]; exact nI_Z _)) (by omega) (by omega) (by omega) (by omega)).mp c_43
      omega
    · have q_43 : ¬ ((i : Nat) : Int) ≥ ((42 : Nat) : Int) := fun hh => c_43 ((qi_ge (nI_Z _) (by first | exact nI_Z _ | (simp only [fa_lit, nI_add, pk_mul, nI_1]; exact nI_Z _)) (by omega) (by omega) (by omega) (by omega)).mpr hh)
      refine vs_aload dX1_findShare_46 rfl 2 rfl ?_
      refine vs_callV (st := []) (c_top hf h1 (fun k => by have := b1 k; omega)) lk_X1_34 lm_X3_top rfl hf.1 rfl rfl (Nat.le_of_ble_eq_true rfl) rfl ⟨rfl, rfl⟩ dX1_findShare_48 rfl ?_
      show vs_V _ _ _ _ _ (.int (nZ ((tp r1 42 : Int) - 1)) :: _) _
      refine vs_iload_n 1 dX1_findShare_51 rfl rfl 6 rfl ?_
      refine vs_icmp_le 109 dX1_findShare_52 rfl rfl (fun c_52 => ?_) (fun c_52 => ?_)
      · have q_52 : (((tp r1 42 : Int) - 1) : Int) ≤ ((l : Nat) : Int) := (qi_le rfl (nI_Z _) (by omega) (by omega) (by omega) (by omega)).mp c_52
        have hg1 : eu P l (d + 1) r0 r1 t0 t1 = (r1, t1) := if_neg (by omega)
        refine vs_pick [2, 4, 5, 7, 8] rfl ?_
        exact K S e f u v hpar vs_fr.rf (by rw [hg1]; exact h1) (by rw [hg1]; exact h3) ⟨r0, h0⟩ ⟨t0, h2⟩ ⟨gq, hgq⟩
      · have q_52 : ¬ (((tp r1 42 : Int) - 1) : Int) ≤ ((l : Nat) : Int) := fun hh => c_52 ((qi_le rfl (nI_Z _) (by omega) (by omega) (by omega) (by omega)).mpr hh)
        have hg1 : eu P l (d + 1) r0 r1 t0 t1 = eu P l d r1 (dvd_ r0 r1 P).2 t1 (spk t0 (dvd_ r0 r1 P).1 t1 P (tp (dvd_ r0 r1 P).1 42)) := if_pos (by omega)
        refine vs_aload dX1_findShare_55 rfl 1 rfl ?_
        refine vs_aload dX1_findShare_57 rfl 2 rfl ?_
        refine vs_aload_n 0 dX1_findShare_59 rfl rfl 5 rfl ?_
        refine vs_get (v := .ref (G.2.2.2 + 26)) lf_X1_27 rfl rfl dX1_findShare_60 rfl ?_
        refine vs_aload_n 3 dX1_findShare_63 rfl rfl 8 rfl ?_
        refine vs_callV (st := []) (c_divide he h0 hf h1 (by omega) vs_P26 (by omega) (by omega) hP hP1 hP2 b0 b1 hgq) lk_X1_38 lm_X3_divide rfl he.1 rfl rfl (Nat.le_of_ble_eq_true rfl) rfl ⟨rfl, rfl⟩ dX1_findShare_64 rfl ?_
        refine vs_gen (fun T1 e_T1 => ?_)
        have hP : T1.1 1 0 = nI P := by rw [e_T1]; repeat (first | exact hP | rw [vs_ia_ne (by omega)] | rw [vs_sc_ne (by omega)])
        have h1 : pR T1 f r1 := ⟨by rw [e_T1]; repeat (first | exact h1.1 | rw [vs_ia_ne (by omega)]), h1.2⟩
        have h2 : pR T1 u t0 := ⟨by rw [e_T1]; repeat (first | exact h2.1 | rw [vs_ia_ne (by omega)]), h2.2⟩
        have h3 : pR T1 v t1 := ⟨by rw [e_T1]; repeat (first | exact h3.1 | rw [vs_ia_ne (by omega)]), h3.2⟩
        have F : vs_fr S T1 [19, 21, 23, 25, 27] := by rw [e_T1]; repeat (first | exact F | refine vs_fr.ia ?_ (by simp <;> omega))
        have h0 : pR T1 e (dvd_ r0 r1 P).2 := ⟨by rw [e_T1]; repeat (first | exact vs_ia_at | rw [vs_ia_ne (by omega)]), zt⟩
        have hq : pR T1 26 (dvd_ r0 r1 P).1 := ⟨by rw [e_T1]; repeat (first | exact vs_ia_at | rw [vs_ia_ne (by omega)]), zq⟩
        clear e_T1
        refine vs_aload dX1_findShare_67 rfl 3 rfl ?_
        refine vs_aload_n 0 dX1_findShare_69 rfl rfl 5 rfl ?_
        refine vs_get (v := .ref (G.2.2.2 + 26)) lf_X1_27 rfl rfl dX1_findShare_70 rfl ?_
        refine vs_aload dX1_findShare_73 rfl 4 rfl ?_
        refine vs_aload_n 3 dX1_findShare_75 rfl rfl 8 rfl ?_
        refine vs_callV (st := []) (c_subtractProduct hu h2 hv h3 (by omega) vs_P26 hq (by omega) hP hP1 hP2 b2 b3 bq) lk_X1_42 lm_X3_subtractProduct rfl hu.1 rfl rfl (Nat.le_of_ble_eq_true rfl) rfl ⟨rfl, rfl⟩ dX1_findShare_76 rfl ?_
        refine vs_gen (fun T2 e_T2 => ?_)
        have hP : T2.1 1 0 = nI P := by rw [e_T2]; repeat (first | exact hP | rw [vs_ia_ne (by omega)] | rw [vs_sc_ne (by omega)])
        have h0 : pR T2 e (dvd_ r0 r1 P).2 := ⟨by rw [e_T2]; repeat (first | exact h0.1 | rw [vs_ia_ne (by omega)]), h0.2⟩
        have h1 : pR T2 f r1 := ⟨by rw [e_T2]; repeat (first | exact h1.1 | rw [vs_ia_ne (by omega)]), h1.2⟩
        have h3 : pR T2 v t1 := ⟨by rw [e_T2]; repeat (first | exact h3.1 | rw [vs_ia_ne (by omega)]), h3.2⟩
        have F : vs_fr S T2 [19, 21, 23, 25, 27] := by rw [e_T2]; repeat (first | exact F | refine vs_fr.ia ?_ (by simp <;> omega))
        have hq : pR T2 26 (dvd_ r0 r1 P).1 := ⟨by rw [e_T2]; repeat (first | exact hq.1 | rw [vs_ia_ne (by omega)]), hq.2⟩
        have h2 : pR T2 u (spk t0 (dvd_ r0 r1 P).1 t1 P (tp (dvd_ r0 r1 P).1 42)) := ⟨by rw [e_T2]; repeat (first | exact vs_ia_at | rw [vs_ia_ne (by omega)]), (spk_z h2.2 _)⟩
        clear e_T2
        refine vs_aload dX1_findShare_79 rfl 1 rfl ?_
        refine vs_astore [(9, .ref (G.2.2.2 + e)), (8, .int (nI i)), (4, .ref (G.2.2.2 + e)), (5, .ref (G.2.2.2 + f)), (6, .ref (G.2.2.2 + u)), (7, .ref (G.2.2.2 + v)), (0, .ref (G.2.2.2 + 17)), (1, .int (nI l)), (2, .ref (G.2.2.2 + o)), (3, .ref (G.2.2.2 + 1))] dX1_findShare_81 rfl rfl rfl ?_
        refine vs_aload dX1_findShare_83 rfl 3 rfl ?_
        refine vs_astore [(4, .ref (G.2.2.2 + f)), (9, .ref (G.2.2.2 + e)), (8, .int (nI i)), (5, .ref (G.2.2.2 + f)), (6, .ref (G.2.2.2 + u)), (7, .ref (G.2.2.2 + v)), (0, .ref (G.2.2.2 + 17)), (1, .int (nI l)), (2, .ref (G.2.2.2 + o)), (3, .ref (G.2.2.2 + 1))] dX1_findShare_85 rfl rfl rfl ?_
        refine vs_aload dX1_findShare_87 rfl 1 rfl ?_
        refine vs_astore [(5, .ref (G.2.2.2 + e)), (4, .ref (G.2.2.2 + f)), (9, .ref (G.2.2.2 + e)), (8, .int (nI i)), (6, .ref (G.2.2.2 + u)), (7, .ref (G.2.2.2 + v)), (0, .ref (G.2.2.2 + 17)), (1, .int (nI l)), (2, .ref (G.2.2.2 + o)), (3, .ref (G.2.2.2 + 1))] dX1_findShare_89 rfl rfl rfl ?_
        refine vs_aload dX1_findShare_91 rfl 4 rfl ?_
        refine vs_astore [(10, .ref (G.2.2.2 + u)), (5, .ref (G.2.2.2 + e)), (4, .ref (G.2.2.2 + f)), (9, .ref (G.2.2.2 + e)), (8, .int (nI i)), (6, .ref (G.2.2.2 + u)), (7, .ref (G.2.2.2 + v)), (0, .ref (G.2.2.2 + 17)), (1, .int (nI l)), (2, .ref (G.2.2.2 + o)), (3, .ref (G.2.2.2 + 1))] dX1_findShare_93 rfl rfl rfl ?_
        refine vs_aload dX1_findShare_95 rfl 6 rfl ?_
        refine vs_astore [(6, .ref (G.2.2.2 + v)), (10, .ref (G.2.2.2 + u)), (5, .ref (G.2.2.2 + e)), (4, .ref (G.2.2.2 + f)), (9, .ref (G.2.2.2 + e)), (8, .int (nI i)), (7, .ref (G.2.2.2 + v)), (0, .ref (G.2.2.2 + 17)), (1, .int (nI l)), (2, .ref (G.2.2.2 + o)), (3, .ref (G.2.2.2 + 1))] dX1_findShare_97 rfl rfl rfl ?_
        refine vs_aload dX1_findShare_99 rfl 1 rfl ?_
        refine vs_astore [(7, .ref (G.2.2.2 + u)), (6, .ref (G.2.2.2 + v)), (10, .ref (G.2.2.2 + u)), (5, .ref (G.2.2.2 + e)), (4, .ref (G.2.2.2 + f)), (9, .ref (G.2.2.2 + e)), (8, .int (nI i)), (0, .ref (G.2.2.2 + 17)), (1, .int (nI l)), (2, .ref (G.2.2.2 + o)), (3, .ref (G.2.2.2 + 1))] dX1_findShare_101 rfl rfl rfl ?_
        refine vs_iinc (v := nI (i + 1)) [(8, .int (nI (i + 1))), (7, .ref (G.2.2.2 + u)), (6, .ref (G.2.2.2 + v)), (10, .ref (G.2.2.2 + u)), (5, .ref (G.2.2.2 + e)), (4, .ref (G.2.2.2 + f)), (9, .ref (G.2.2.2 + e)), (0, .ref (G.2.2.2 + 17)), (1, .int (nI l)), (2, .ref (G.2.2.2 + o)), (3, .ref (G.2.2.2 + 1))] dX1_findShare_103 rfl 6 rfl (by first | exact nI_1 _ | (simp only [fa_lit, nI_add, pk_mul, nI_1]; rfl)) rfl rfl ?_
        refine vs_goto 39 dX1_findShare_106 rfl ?_
        refine vs_pick [0, 5, 4, 2, 1, 7, 8, 9, 10] rfl ?_
        refine ih (i + 1) f e v u _ r1 (dvd_ r0 r1 P).2 t1 _ (by omega) (by omega) (F.1.trans hS0) h1 h0 h3 h2 ⟨_, hq⟩ b1 bt b3 (spk_b (by omega) b2 _) (fun S2 e2 f2 u2 v2 hp2 hfr hk1 hk2 j1 j2 j3 => ?_)
        exact K S2 e2 f2 u2 v2 hp2 (vs_fr.tr F hfr (fun x hx => hx)) (by rw [hg1]; exact hk1) (by rw [hg1]; exact hk2) j1 j2 j3

theorem c_findShare {G : vv_G} {S : vs_S} {o : Nat} (hs : vs_Sh o) (ho : o = 7 ∨ o = 12) {mo st ga gb g2 g4 : Nat → Nat} (hmo : pR S 18 mo) (hst : pR S 20 st) (ha : pR S (o + 1) ga) (hb : pR S (o + 3) gb) (hj2 : pR S 22 g2) (hj4 : pR S 24 g4) (hj6 : jk S 26) {P : Nat} (hP : S.1 1 0 = nI P) (hP1 : 2 ≤ P) (hP2 : P ≤ 30011) (hmb : ∀ k, mo k < P) (hsb : ∀ k, st k < P) {l : Nat} (hl : l ≤ 41) : vs_CP G yX1_findShare cX1_findShare 11 none { frames := 4, locals := 102 } [.ref (G.2.2.2 + 17), .int (nI l), .ref (G.2.2.2 + o), .ref (G.2.2.2 + 1)] S (fun r S2 => r = none ∧ vs_fr S S2 [19, 21, 23, 25, 27, o + 1 + 1, o + 3 + 1] ∧ pR S2 (o + 1) (fsh P l mo st).1 ∧ pR S2 (o + 3) (fsh P l mo st).2 ∧ jk S2 18 ∧ jk S2 20 ∧ jk S2 22 ∧ jk S2 24 ∧ jk S2 26) := by
  refine vs_ofP [(0, .ref (G.2.2.2 + 17)), (1, .int (nI l)), (2, .ref (G.2.2.2 + o)), (3, .ref (G.2.2.2 + 1))] (by decide) rfl rfl ?_
  have F : vs_fr S S [19, 21, 23, 25, 27, o + 1 + 1, o + 3 + 1] := vs_fr.rf
  refine vs_aload_n 0 dX1_findShare_0 rfl rfl 0 rfl ?_
  refine vs_get (v := .ref (G.2.2.2 + 18)) lf_X1_12 rfl rfl dX1_findShare_1 rfl ?_
  refine vs_astore [(4, .ref (G.2.2.2 + 18)), (0, .ref (G.2.2.2 + 17)), (1, .int (nI l)), (2, .ref (G.2.2.2 + o)), (3, .ref (G.2.2.2 + 1))] dX1_findShare_4 rfl rfl rfl ?_
  refine vs_aload_n 0 dX1_findShare_6 rfl rfl 1 rfl ?_
  refine vs_get (v := .ref (G.2.2.2 + 20)) lf_X1_18 rfl rfl dX1_findShare_7 rfl ?_
  refine vs_astore [(5, .ref (G.2.2.2 + 20)), (4, .ref (G.2.2.2 + 18)), (0, .ref (G.2.2.2 + 17)), (1, .int (nI l)), (2, .ref (G.2.2.2 + o)), (3, .ref (G.2.2.2 + 1))] dX1_findShare_10 rfl rfl rfl ?_
  refine vs_aload_n 0 dX1_findShare_12 rfl rfl 2 rfl ?_
  refine vs_get (v := .ref (G.2.2.2 + 24)) lf_X1_24 rfl rfl dX1_findShare_13 rfl ?_
  refine vs_astore [(6, .ref (G.2.2.2 + 24)), (5, .ref (G.2.2.2 + 20)), (4, .ref (G.2.2.2 + 18)), (0, .ref (G.2.2.2 + 17)), (1, .int (nI l)), (2, .ref (G.2.2.2 + o)), (3, .ref (G.2.2.2 + 1))] dX1_findShare_16 rfl rfl rfl ?_
  refine vs_aload_n 0 dX1_findShare_18 rfl rfl 3 rfl ?_
  refine vs_get (v := .ref (G.2.2.2 + 22)) lf_X1_21 rfl rfl dX1_findShare_19 rfl ?_
  refine vs_astore [(7, .ref (G.2.2.2 + 22)), (6, .ref (G.2.2.2 + 24)), (5, .ref (G.2.2.2 + 20)), (4, .ref (G.2.2.2 + 18)), (0, .ref (G.2.2.2 + 17)), (1, .int (nI l)), (2, .ref (G.2.2.2 + o)), (3, .ref (G.2.2.2 + 1))] dX1_findShare_22 rfl rfl rfl ?_
  refine vs_aload dX1_findShare_24 rfl 1 rfl ?_
  refine vs_iconst (v := 0) dX1_findShare_26 rfl rfl ?_
  refine vs_callV (st := []) (c_becomeNumber vs_P24 hj4 (x := 0)) lk_X1_30 lm_X3_becomeNumber rfl rfl rfl rfl (Nat.le_of_ble_eq_true rfl) rfl ⟨rfl, rfl⟩ dX1_findShare_27 rfl ?_
  refine vs_gen (fun T1 e_T1 => ?_)
  have hP : T1.1 1 0 = nI P := by rw [e_T1]; repeat (first | exact hP | rw [vs_ia_ne (by omega)] | rw [vs_sc_ne (by omega)])
  have hmo : pR T1 18 mo := ⟨by rw [e_T1]; repeat (first | exact hmo.1 | rw [vs_ia_ne (by omega)]), hmo.2⟩
  have hst : pR T1 20 st := ⟨by rw [e_T1]; repeat (first | exact hst.1 | rw [vs_ia_ne (by omega)]), hst.2⟩
  have ha : pR T1 (o + 1) ga := ⟨by rw [e_T1]; repeat (first | exact ha.1 | rw [vs_ia_ne (by omega)]), ha.2⟩
  have hb : pR T1 (o + 3) gb := ⟨by rw [e_T1]; repeat (first | exact hb.1 | rw [vs_ia_ne (by omega)]), hb.2⟩
  have hj2 : pR T1 22 g2 := ⟨by rw [e_T1]; repeat (first | exact hj2.1 | rw [vs_ia_ne (by omega)]), hj2.2⟩
  have hj6 : jk T1 26 := by obtain ⟨g, hg⟩ := hj6; exact ⟨g, by rw [e_T1]; repeat (first | exact hg.1 | rw [vs_ia_ne (by omega)]), hg.2⟩
  have F : vs_fr S T1 [19, 21, 23, 25, 27, o + 1 + 1, o + 3 + 1] := by rw [e_T1]; repeat (first | exact F | refine vs_fr.ia ?_ (by simp <;> omega))
  have k4 : pR T1 24 (pcon 0) := ⟨by rw [e_T1]; repeat (first | exact vs_ia_at | rw [vs_ia_ne (by omega)]), (pcon_z 0)⟩
  clear e_T1
  refine vs_aload dX1_findShare_30 rfl 0 rfl ?_
  refine vs_iconst (v := 1) dX1_findShare_32 rfl rfl ?_
  refine vs_callV (st := []) (c_becomeNumber vs_P22 hj2 (x := 1)) lk_X1_30 lm_X3_becomeNumber rfl rfl rfl rfl (Nat.le_of_ble_eq_true rfl) rfl ⟨rfl, rfl⟩ dX1_findShare_33 rfl ?_
  refine vs_gen (fun T2 e_T2 => ?_)
  have hP : T2.1 1 0 = nI P := by rw [e_T2]; repeat (first | exact hP | rw [vs_ia_ne (by omega)] | rw [vs_sc_ne (by omega)])
  have hmo : pR T2 18 mo := ⟨by rw [e_T2]; repeat (first | exact hmo.1 | rw [vs_ia_ne (by omega)]), hmo.2⟩
  have hst : pR T2 20 st := ⟨by rw [e_T2]; repeat (first | exact hst.1 | rw [vs_ia_ne (by omega)]), hst.2⟩
  have ha : pR T2 (o + 1) ga := ⟨by rw [e_T2]; repeat (first | exact ha.1 | rw [vs_ia_ne (by omega)]), ha.2⟩
  have hb : pR T2 (o + 3) gb := ⟨by rw [e_T2]; repeat (first | exact hb.1 | rw [vs_ia_ne (by omega)]), hb.2⟩
  have hj6 : jk T2 26 := by obtain ⟨g, hg⟩ := hj6; exact ⟨g, by rw [e_T2]; repeat (first | exact hg.1 | rw [vs_ia_ne (by omega)]), hg.2⟩
  have F : vs_fr S T2 [19, 21, 23, 25, 27, o + 1 + 1, o + 3 + 1] := by rw [e_T2]; repeat (first | exact F | refine vs_fr.ia ?_ (by simp <;> omega))
  have k4 : pR T2 24 (pcon 0) := ⟨by rw [e_T2]; repeat (first | exact k4.1 | rw [vs_ia_ne (by omega)]), k4.2⟩
  have k2 : pR T2 22 (pcon 1) := ⟨by rw [e_T2]; repeat (first | exact vs_ia_at | rw [vs_ia_ne (by omega)]), (pcon_z 1)⟩
  clear e_T2
  refine vs_iconst (v := 0) dX1_findShare_36 rfl rfl ?_
  refine vs_istore [(8, .int (0)), (7, .ref (G.2.2.2 + 22)), (6, .ref (G.2.2.2 + 24)), (5, .ref (G.2.2.2 + 20)), (4, .ref (G.2.2.2 + 18)), (0, .ref (G.2.2.2 + 17)), (1, .int (nI l)), (2, .ref (G.2.2.2 + o)), (3, .ref (G.2.2.2 + 1))] dX1_findShare_37 rfl rfl rfl ?_
  refine vs_pick (L2 := [(8, .int (nI 0)), (4, .ref (G.2.2.2 + 18)), (5, .ref (G.2.2.2 + 20)), (6, .ref (G.2.2.2 + 24)), (7, .ref (G.2.2.2 + 22)), (0, .ref (G.2.2.2 + 17)), (1, .int (nI l)), (2, .ref (G.2.2.2 + o)), (3, .ref (G.2.2.2 + 1))]) [0, 4, 3, 2, 1, 5, 6, 7, 8] rfl ?_
  refine l_eu (S := S) (S0 := T2) hs ho hP hP1 hP2 hl 42 0 18 20 24 22 _ mo st (pcon 0) (pcon 1) rfl (by omega) rfl hmo hst k4 k2 hj6 hmb hsb (pcon_b (by omega)) (pcon_b (by omega)) (fun S2 e2 f2 u2 v2 hp2 hfr hk1 hk2 j1 j2 j3 => ?_)
  obtain ⟨he2, hf2, hu2, hv2⟩ := vs_Pf hp2
  obtain ⟨bb1, bb2⟩ := eu_b (P := P) (most := l) (by omega) 42 mo st (pcon 0) (pcon 1) hmb hsb (pcon_b (by omega)) (pcon_b (by omega))
  have hP : S2.1 1 0 = nI P := by rw [hfr.1]; exact hP
  have ha : pR S2 (o + 1) ga := hfr.p (by simp <;> omega) ha
  have hb : pR S2 (o + 3) gb := hfr.p (by simp <;> omega) hb
  have F : vs_fr S S2 [19, 21, 23, 25, 27, o + 1 + 1, o + 3 + 1] := vs_fr.tr F hfr (by simp)
  refine vs_aload_n 2 dX1_findShare_109 rfl rfl 3 rfl ?_
  refine vs_get (v := .ref (G.2.2.2 + (o + 1))) lf_X1_45 hs.1 rfl dX1_findShare_110 rfl ?_
  refine vs_aload dX1_findShare_113 rfl 0 rfl ?_
  refine vs_callV (st := []) (c_become hs.2.1 ha hf2 hk1) lk_X1_50 lm_X3_become rfl hs.2.1.1 rfl rfl (Nat.le_of_ble_eq_true rfl) rfl ⟨rfl, rfl⟩ dX1_findShare_115 rfl ?_
  refine vs_gen (fun T1 e_T1 => ?_)
  have hP : T1.1 1 0 = nI P := by rw [e_T1]; repeat (first | exact hP | rw [vs_ia_ne (by omega)] | rw [vs_sc_ne (by omega)])
  have hk1 : pR T1 f2 (eu P l 42 mo st (pcon 0) (pcon 1)).1 := ⟨by rw [e_T1]; repeat (first | exact hk1.1 | rw [vs_ia_ne (by omega)]), hk1.2⟩
  have hk2 : pR T1 v2 (eu P l 42 mo st (pcon 0) (pcon 1)).2 := ⟨by rw [e_T1]; repeat (first | exact hk2.1 | rw [vs_ia_ne (by omega)]), hk2.2⟩
  have hb : pR T1 (o + 3) gb := ⟨by rw [e_T1]; repeat (first | exact hb.1 | rw [vs_ia_ne (by omega)]), hb.2⟩
  have j1 : jk T1 e2 := by obtain ⟨g, hg⟩ := j1; exact ⟨g, by rw [e_T1]; repeat (first | exact hg.1 | rw [vs_ia_ne (by omega)]), hg.2⟩
  have j2 : jk T1 u2 := by obtain ⟨g, hg⟩ := j2; exact ⟨g, by rw [e_T1]; repeat (first | exact hg.1 | rw [vs_ia_ne (by omega)]), hg.2⟩
  have j3 : jk T1 26 := by obtain ⟨g, hg⟩ := j3; exact ⟨g, by rw [e_T1]; repeat (first | exact hg.1 | rw [vs_ia_ne (by omega)]), hg.2⟩
  have F : vs_fr S T1 [19, 21, 23, 25, 27, o + 1 + 1, o + 3 + 1] := by rw [e_T1]; repeat (first | exact F | refine vs_fr.ia ?_ (by simp <;> omega))
  have ha : pR T1 (o + 1) (eu P l 42 mo st (pcon 0) (pcon 1)).1 := ⟨by rw [e_T1]; repeat (first | exact vs_ia_at | rw [vs_ia_ne (by omega)]), hk1.2⟩
  clear e_T1
  refine vs_aload_n 2 dX1_findShare_118 rfl rfl 3 rfl ?_
  refine vs_get (v := .ref (G.2.2.2 + (o + 3))) lf_X1_54 hs.1 rfl dX1_findShare_119 rfl ?_
  refine vs_aload dX1_findShare_122 rfl 1 rfl ?_
  refine vs_callV (st := []) (c_become hs.2.2 hb hv2 hk2) lk_X1_50 lm_X3_become rfl hs.2.2.1 rfl rfl (Nat.le_of_ble_eq_true rfl) rfl ⟨rfl, rfl⟩ dX1_findShare_124 rfl ?_
  refine vs_gen (fun T2 e_T2 => ?_)
  have hP : T2.1 1 0 = nI P := by rw [e_T2]; repeat (first | exact hP | rw [vs_ia_ne (by omega)] | rw [vs_sc_ne (by omega)])
  have hk1 : pR T2 f2 (eu P l 42 mo st (pcon 0) (pcon 1)).1 := ⟨by rw [e_T2]; repeat (first | exact hk1.1 | rw [vs_ia_ne (by omega)]), hk1.2⟩
  have hk2 : pR T2 v2 (eu P l 42 mo st (pcon 0) (pcon 1)).2 := ⟨by rw [e_T2]; repeat (first | exact hk2.1 | rw [vs_ia_ne (by omega)]), hk2.2⟩
  have ha : pR T2 (o + 1) (eu P l 42 mo st (pcon 0) (pcon 1)).1 := ⟨by rw [e_T2]; repeat (first | exact ha.1 | rw [vs_ia_ne (by omega)]), ha.2⟩
  have j1 : jk T2 e2 := by obtain ⟨g, hg⟩ := j1; exact ⟨g, by rw [e_T2]; repeat (first | exact hg.1 | rw [vs_ia_ne (by omega)]), hg.2⟩
  have j2 : jk T2 u2 := by obtain ⟨g, hg⟩ := j2; exact ⟨g, by rw [e_T2]; repeat (first | exact hg.1 | rw [vs_ia_ne (by omega)]), hg.2⟩
  have j3 : jk T2 26 := by obtain ⟨g, hg⟩ := j3; exact ⟨g, by rw [e_T2]; repeat (first | exact hg.1 | rw [vs_ia_ne (by omega)]), hg.2⟩
  have F : vs_fr S T2 [19, 21, 23, 25, 27, o + 1 + 1, o + 3 + 1] := by rw [e_T2]; repeat (first | exact F | refine vs_fr.ia ?_ (by simp <;> omega))
  have hb : pR T2 (o + 3) (eu P l 42 mo st (pcon 0) (pcon 1)).2 := ⟨by rw [e_T2]; repeat (first | exact vs_ia_at | rw [vs_ia_ne (by omega)]), hk2.2⟩
  clear e_T2
  have q18 : jk T2 18 := by rcases hp2 with ⟨rfl, rfl, rfl, rfl⟩ | ⟨rfl, rfl, rfl, rfl⟩ <;> first | exact j1 | exact ⟨_, hk1⟩
  have q20 : jk T2 20 := by rcases hp2 with ⟨rfl, rfl, rfl, rfl⟩ | ⟨rfl, rfl, rfl, rfl⟩ <;> first | exact j1 | exact ⟨_, hk1⟩
  have q22 : jk T2 22 := by rcases hp2 with ⟨rfl, rfl, rfl, rfl⟩ | ⟨rfl, rfl, rfl, rfl⟩ <;> first | exact j2 | exact ⟨_, hk2⟩
  have q24 : jk T2 24 := by rcases hp2 with ⟨rfl, rfl, rfl, rfl⟩ | ⟨rfl, rfl, rfl, rfl⟩ <;> first | exact j2 | exact ⟨_, hk2⟩
  refine vs_aload_n 0 dX1_findShare_127 rfl rfl 2 rfl ?_
  refine vs_aload_n 2 dX1_findShare_128 rfl rfl 3 rfl ?_
  refine vs_aload_n 3 dX1_findShare_129 rfl rfl 4 rfl ?_
  refine vs_callVP (st := []) (c_dropCommon hs ho ha hb hP hP1 hP2 bb1 bb2 q18 q20 j3) lk_X1_57 lm_X1_dropCommonFactors rfl rfl rfl rfl (Nat.le_of_ble_eq_true rfl) rfl ⟨rfl, rfl⟩ dX1_findShare_130 rfl (fun rr S1 hh => ?_)
  obtain ⟨rfl, F2, ka, kb, p18, p20, p26⟩ := hh
  show vs_V _ _ _ _ _ [] _
  have p22 : jk S1 22 := by obtain ⟨g, hg⟩ := q22; exact ⟨g, F2.p (by simp <;> omega) hg⟩
  have p24 : jk S1 24 := by obtain ⟨g, hg⟩ := q24; exact ⟨g, F2.p (by simp <;> omega) hg⟩
  exact vs_vretP dX1_findShare_133 ⟨rfl, vs_fr.tr F F2 (by simp), ka, kb, p18, p20, p22, p24, p26⟩

