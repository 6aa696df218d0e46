/-- a share without its common factors, as the model makes it -/
def lgt (P : Nat) (p q : Nat → Nat) : (Nat → Nat) × (Nat → Nat) := if 1 < tp (gkn 90 P 90 p q) 90 then ((dvp 90 p (gkn 90 P 90 p q) P).1, (dvp 90 q (gkn 90 P 90 p q) P).1) else (p, q)
theorem lgt_s {P : Nat} (hp : q_pr P) {p q : Nat → Nat} (h1 : q_pl P 90 p) (h2 : q_pl P 90 q) (hn : q_nz P (q_n q)) : q_pl P 90 (lgt P p q).1 ∧ q_pl P 90 (lgt P p q).2 ∧ q_nz P (q_n (lgt P p q).2) ∧ q_rd P (q_n p) (q_n q) (q_n (fun k => (lgt P p q).1 k * ipw (lo_t (lgt P p q).2 90 0) P % P)) (q_n (fun k => (lgt P p q).2 k * ipw (lo_t (lgt P p q).2 90 0) P % P)) := by
  have hl := tp_le q 90
  obtain ⟨i1, ⟨u, v, hu, hv, i2⟩, ⟨w0, hw0, i3⟩, ⟨w1, hw1, i4⟩⟩ := gkn_s hp 90 p q h1 h2 hl
  unfold lgt
  generalize gkn 90 P 90 p q = g at i1 i2 i3 i4 ⊢
  have hgn : q_nz P (q_n g) := Classical.byContradiction fun z => by
    obtain ⟨n, hn⟩ := hn
    apply hn
    have h1 := ((q_nnz z).r w1) n
    rw [q_0_r] at h1
    exact (q_dv_e (i4 n)).mpr ((q_dv_e h1).mpr (Int.dvd_zero _))
  have hg0 := tp_nz i1 hgn
  by_cases hc : 1 < tp g 90
  · rw [if_pos hc]
    obtain ⟨ea, pa⟩ := dvp_ex hp h1 i1 hg0 hw0 i3
    obtain ⟨eb, pb⟩ := dvp_ex hp h2 i1 hg0 hw1 i4
    have hnb : q_nz P (q_n (dvp 90 q g P).1) := Classical.byContradiction fun z => by
      obtain ⟨n, hn⟩ := hn
      apply hn
      have h1 := ((eb.sy.tr (q_nnz z)).l (q_n g)) n
      rw [q_0_l] at h1
      exact (q_dv_e (i4 n)).mpr ((q_dv_e h1).mpr (Int.dvd_zero _))
    have hco : q_e P (q_ad (q_cm u (q_n (dvp 90 p g P).1)) (q_cm v (q_n (dvp 90 q g P).1))) (q_sc 1 q_1) := by
      refine q_cancel hp hgn ?_
      rw [q_sc_r, q_1_r, show q_sc 1 (q_n g) = q_n g from funext fun n => Int.one_mul _]
      refine q_e.tr ?_ i2.sy
      rw [q_add_r]
      refine q_e.ad ?_ ?_
      · rw [q_comm (q_n g), q_assoc]
        exact q_e.r u ((ea.l (q_n g)).tr i3.sy)
      · rw [q_comm (q_n g), q_assoc]
        exact q_e.r v ((eb.l (q_n g)).tr i4.sy)
    refine ⟨pa, pb, hnb, ?_⟩
    exact q_rd_of (a := q_n p) (b := q_n q) hp pa pb hnb hu hv (q_1_not hp) hco (by
      refine (i4.r _).tr ?_
      refine q_e.tr ?_ (i3.l _).sy
      refine (ea.l _).tr ?_
      refine q_e.tr ?_ (eb.r _).sy
      rw [q_assoc w0, q_comm (q_n g) w1]
      exact q_e.rf) (q_nz_lo hp pb hnb)
  · rw [if_neg hc]
    refine ⟨h1, h2, hn, ?_⟩
    have htp : tp g 90 = 1 := by omega
    have htop := i1.top hg0
    rw [htp] at htop
    have hgc : q_e P (q_n g) (q_sc (q_n g 0) q_1) := fun n => by
      show (P : Int) ∣ q_n g n - q_n g 0 * (if n = 0 then 1 else 0)
      by_cases e : n = 0
      · rw [if_pos e, e, Int.mul_one, Int.sub_self]; exact Int.dvd_zero _
      · rw [if_neg e, Int.mul_zero, Int.sub_zero]; exact htop.1 n (by omega)
    exact q_rd_of (a := q_n p) (b := q_n q) hp h1 h2 hn hu hv htop.2 (i2.sy.tr hgc) q_e.rf (q_nz_lo hp h2 hn)
theorem lo_at {g : Nat → Nat} : ∀ n i k, i ≤ k → k < i + n → g k ≠ 0 → (∀ j, i ≤ j → j < k → g j = 0) → lo_t g n i = g k
  | 0, i, k, h1, h2, _, _ => absurd h2 (by omega)
  | n + 1, i, k, h1, h2, h3, h4 => by
    unfold lo_t
    by_cases e : i = k
    · subst e
      rw [if_neg h3]
    · rw [if_pos (h4 i (Nat.le_refl _) (by omega))]
      exact lo_at n (i + 1) k (by omega) (by omega) h3 (fun j hj => h4 j (by omega))
theorem l_lg1 {G : vv_G} {S : vs_S} {p q : Nat → Nat} {S0 : vs_S} (hp0 : aR S0 127 90 p) (hq0 : aR S0 128 90 q) {Pst : Option Value → vs_S → Prop} (K : ∀ S2 : vs_S, vs_fx S0 S2 [134, 135] [] [] → aR S2 134 90 p → aR S2 135 90 q → vs_V G cX10_lighten (vs_MP yX10_lighten 4 none { frames := 3, locals := 74 } G Pst) 38 [(0, .ref (G.2.2.2 + 118))] [] S2) : ∀ (d i : Nat) (S : vs_S), i + d = 90 → vs_fx S0 S [134, 135] [] [] → aR S 134 i p → aR S 135 i q → vs_V G cX10_lighten (vs_MP yX10_lighten 4 none { frames := 3, locals := 74 } G Pst) 2 [(1, .int (nI i)), (0, .ref (G.2.2.2 + 118))] [] S := by
  intro d
  induction d with
  | zero =>
    intro i S hi F A1 A2
    obtain rfl : 90 = i := by omega
    have hp : aR S 127 90 p := aR.fx hp0 F (by simp <;> omega)
    have hq : aR S 128 90 q := aR.fx hq0 F (by simp <;> omega)
    refine vs_iload_n 1 dX10_lighten_2 rfl rfl 0 rfl ?_
    refine vs_bipush (v := 90) dX10_lighten_3 rfl rfl ?_
    refine vs_icmp_ge 38 dX10_lighten_5 rfl rfl (fun c_5 => ?_) (fun c_5 => ?_)
    · have q_5 : ((90 : Nat) : Int) ≥ ((90 : Nat) : Int) := (qi_ge (nI_Z _) (by first | exact nI_Z _ | (simp only [fa_lit, nI_add, pk_mul, nI_1]; exact nI_Z _)) (by omega) (by omega) (by omega) (by omega)).mp c_5
      refine vs_pick (L2 := [(0, .ref (G.2.2.2 + 118))]) [1] rfl ?_
      exact K S F A1 A2
    · have q_5 : ¬ ((90 : Nat) : Int) ≥ ((90 : Nat) : Int) := fun hh => c_5 ((qi_ge (nI_Z _) (by first | exact nI_Z _ | (simp only [fa_lit, nI_add, pk_mul, nI_1]; exact nI_Z _)) (by omega) (by omega) (by omega) (by omega)).mpr hh)
      omega
  | succ d ih =>
    intro i S hi F A1 A2
    have hp : aR S 127 90 p := aR.fx hp0 F (by simp <;> omega)
    have hq : aR S 128 90 q := aR.fx hq0 F (by simp <;> omega)
    refine vs_iload_n 1 dX10_lighten_2 rfl rfl 0 rfl ?_
    refine vs_bipush (v := 90) dX10_lighten_3 rfl rfl ?_
    refine vs_icmp_ge 38 dX10_lighten_5 rfl rfl (fun c_5 => ?_) (fun c_5 => ?_)
    · have q_5 : ((i : Nat) : Int) ≥ ((90 : Nat) : Int) := (qi_ge (nI_Z _) (by first | exact nI_Z _ | (simp only [fa_lit, nI_add, pk_mul, nI_1]; exact nI_Z _)) (by omega) (by omega) (by omega) (by omega)).mp c_5
      omega
    · have q_5 : ¬ ((i : Nat) : Int) ≥ ((90 : Nat) : Int) := fun hh => c_5 ((qi_ge (nI_Z _) (by first | exact nI_Z _ | (simp only [fa_lit, nI_add, pk_mul, nI_1]; exact nI_Z _)) (by omega) (by omega) (by omega) (by omega)).mpr hh)
      refine vs_aload_n 0 dX10_lighten_8 rfl rfl 1 rfl ?_
      refine vs_get (v := .ref (G.2.2.2 + 134)) lf_X10_56 rfl rfl dX10_lighten_9 rfl ?_
      refine vs_iload_n 1 dX10_lighten_12 rfl rfl 0 rfl ?_
      refine vs_aload_n 0 dX10_lighten_13 rfl rfl 1 rfl ?_
      refine vs_get (v := .ref (G.2.2.2 + 127)) lf_X10_35 rfl rfl dX10_lighten_14 rfl ?_
      refine vs_iload_n 1 dX10_lighten_17 rfl rfl 0 rfl ?_
      refine vs_iald (k := i) rfl rfl (by omega) rfl dX10_lighten_18 rfl ?_
      refine vs_topi (fun z1 e_z1 => ?_)
      have f_z1 : z1 = nI (p i) := (by rw [e_z1]; exact hp i (by omega))
      subst f_z1
      clear e_z1
      refine vs_iast (k := i) rfl (by first | rfl | (simp only [fa_lit, nI_add, pk_mul, nI_1]; done) | omega) (by omega) rfl dX10_lighten_19 rfl ?_
      refine vs_gen (fun T1 e_T1 => ?_)
      have hp : aR T1 127 90 p := by rw [e_T1]; repeat (first | exact hp | refine aR.ne ?_ (by omega))
      have hq : aR T1 128 90 q := by rw [e_T1]; repeat (first | exact hq | refine aR.ne ?_ (by omega))
      have F : vs_fx S0 T1 [134, 135] [] [] := by rw [e_T1]; repeat (first | exact F | refine vs_fx.ia ?_ (by simp <;> omega) | refine vs_fx.sc ?_ (by simp <;> omega) | refine vs_fx.la ?_ (by simp <;> omega))
      have A2 : aR T1 135 i q := by rw [e_T1]; repeat (first | exact A2 | refine aR.ne ?_ (by omega))
      have A1 : aR T1 134 (i + 1) p := (by rw [e_T1]; exact aR.push A1)
      clear e_T1
      refine vs_aload_n 0 dX10_lighten_20 rfl rfl 1 rfl ?_
      refine vs_get (v := .ref (G.2.2.2 + 135)) lf_X10_59 rfl rfl dX10_lighten_21 rfl ?_
      refine vs_iload_n 1 dX10_lighten_24 rfl rfl 0 rfl ?_
      refine vs_aload_n 0 dX10_lighten_25 rfl rfl 1 rfl ?_
      refine vs_get (v := .ref (G.2.2.2 + 128)) lf_X10_38 rfl rfl dX10_lighten_26 rfl ?_
      refine vs_iload_n 1 dX10_lighten_29 rfl rfl 0 rfl ?_
      refine vs_iald (k := i) rfl rfl (by omega) rfl dX10_lighten_30 rfl ?_
      refine vs_topi (fun z2 e_z2 => ?_)
      have f_z2 : z2 = nI (q i) := (by rw [e_z2]; exact hq i (by omega))
      subst f_z2
      clear e_z2
      refine vs_iast (k := i) rfl (by first | rfl | (simp only [fa_lit, nI_add, pk_mul, nI_1]; done) | omega) (by omega) rfl dX10_lighten_31 rfl ?_
      refine vs_gen (fun T2 e_T2 => ?_)
      have hp : aR T2 127 90 p := by rw [e_T2]; repeat (first | exact hp | refine aR.ne ?_ (by omega))
      have hq : aR T2 128 90 q := by rw [e_T2]; repeat (first | exact hq | refine aR.ne ?_ (by omega))
      have F : vs_fx S0 T2 [134, 135] [] [] := by rw [e_T2]; repeat (first | exact F | refine vs_fx.ia ?_ (by simp <;> omega) | refine vs_fx.sc ?_ (by simp <;> omega) | refine vs_fx.la ?_ (by simp <;> omega))
      have A1 : aR T2 134 (i + 1) p := by rw [e_T2]; repeat (first | exact A1 | refine aR.ne ?_ (by omega))
      have A2 : aR T2 135 (i + 1) q := (by rw [e_T2]; exact aR.push A2)
      clear e_T2
      refine vs_iinc (v := nI (i + 1)) [(1, .int (nI (i + 1))), (0, .ref (G.2.2.2 + 118))] dX10_lighten_32 rfl 0 rfl (by first | exact nI_1 _ | (simp only [fa_lit, nI_add, pk_mul, nI_1]; rfl)) rfl rfl ?_
      refine vs_goto 2 dX10_lighten_35 rfl ?_
      refine vs_pick [0, 1] rfl ?_
      exact ih (i + 1) _ (by omega) F A1 A2

theorem l_lg2 {G : vv_G} {S : vs_S} {P : Nat} (hp : q_pr P) (gP1 : 2 ≤ P) (gP2 : P ≤ 30011) {S0 : vs_S} (mP0 : S0.1 118 2 = nI P) {Pst : Option Value → vs_S → Prop} : ∀ (f fs o0 o1 : Nat) (r0 r1 : Nat → Nat) (S : vs_S), ((fs = 1 ∧ o0 = 134 ∧ o1 = 135) ∨ (fs = 0 ∧ o0 = 135 ∧ o1 = 134)) → q_pl P 90 r0 → q_pl P 90 r1 → tp r1 90 ≤ f → vs_fx S0 S [134, 135] [] [] → aR S o0 90 r0 → aR S o1 90 r1 → (∀ (S2 : vs_S) (fs2 o2 : Nat), ((fs2 = 1 ∧ o2 = 134) ∨ (fs2 = 0 ∧ o2 = 135)) → vs_fx S0 S2 [134, 135] [] [] → aR S2 o2 90 (gkn 90 P f r0 r1) → vs_V G cX10_lighten (vs_MP yX10_lighten 4 none { frames := 3, locals := 74 } G Pst) 131 [(1, .int (nI fs2)), (0, .ref (G.2.2.2 + 118))] [] S2) → vs_V G cX10_lighten (vs_MP yX10_lighten 4 none { frames := 3, locals := 74 } G Pst) 61 [(2, .int (nZ ((tp r1 90 : Int) - 1))), (1, .int (nI fs)), (0, .ref (G.2.2.2 + 118))] [] S := by
  intro f
  induction f with
  | zero =>
    intro fs o0 o1 r0 r1 S hpar h0 h1 ht F A0 A1 K
    refine vs_iload_n 2 dX10_lighten_61 rfl rfl 0 rfl ?_
    refine vs_if_lt 131 dX10_lighten_62 rfl rfl (fun c_62 => ?_) (fun c_62 => ?_)
    · have q_62 : (((tp r1 90 : Int) - 1) : Int) < ((0 : Nat) : Int) := (qi_lt rfl (by first | exact nI_Z _ | (simp only [fa_lit, nI_add, pk_mul, nI_1]; exact nI_Z _)) (by omega) (by omega) (by omega) (by omega)).mp c_62
      refine vs_pick [1, 2] rfl ?_
      exact K S fs o0 (by omega) F A0
    · have q_62 : ¬ (((tp r1 90 : Int) - 1) : Int) < ((0 : Nat) : Int) := fun hh => c_62 ((qi_lt rfl (by first | exact nI_Z _ | (simp only [fa_lit, nI_add, pk_mul, nI_1]; exact nI_Z _)) (by omega) (by omega) (by omega) (by omega)).mpr hh)
      omega
  | succ f ih =>
    intro fs o0 o1 r0 r1 S hpar h0 h1 ht F A0 A1 K
    have mP : S.1 118 2 = nI P := (F.2.1 _ _ (by simp)).trans mP0
    have hl := tp_le r1 90
    by_cases hz : tp r1 90 = 0
    · have hg : gkn 90 P (f + 1) r0 r1 = r0 := if_pos hz
      rw [hg] at K
      refine vs_iload_n 2 dX10_lighten_61 rfl rfl 0 rfl ?_
      refine vs_if_lt 131 dX10_lighten_62 rfl rfl (fun c_62 => ?_) (fun c_62 => ?_)
      · have q_62 : (((tp r1 90 : Int) - 1) : Int) < ((0 : Nat) : Int) := (qi_lt rfl (by first | exact nI_Z _ | (simp only [fa_lit, nI_add, pk_mul, nI_1]; exact nI_Z _)) (by omega) (by omega) (by omega) (by omega)).mp c_62
        refine vs_pick [1, 2] rfl ?_
        exact K S fs o0 (by omega) F A0
      · have q_62 : ¬ (((tp r1 90 : Int) - 1) : Int) < ((0 : Nat) : Int) := fun hh => c_62 ((qi_lt rfl (by first | exact nI_Z _ | (simp only [fa_lit, nI_add, pk_mul, nI_1]; exact nI_Z _)) (by omega) (by omega) (by omega) (by omega)).mpr hh)
        omega
    · have hg : gkn 90 P (f + 1) r0 r1 = gkn 90 P f r1 (dvp 90 r0 r1 P).2 := if_neg hz
      obtain ⟨s1, s2, s3, s4, s5⟩ := dvp_s hp h0 h1 (by omega)
      rw [show nZ ((tp r1 90 : Int) - 1) = nI (tp r1 90 - 1) from by rw [nI_Z]; congr 1; omega]
      rcases hpar with ⟨rfl, rfl, rfl⟩ | ⟨rfl, rfl, rfl⟩
      · refine vs_iload_n 2 dX10_lighten_61 rfl rfl 0 rfl ?_
        refine vs_if_lt 131 dX10_lighten_62 rfl rfl (fun c_62 => ?_) (fun c_62 => ?_)
        · have q_62 : (((tp r1 90 - 1) : Nat) : Int) < ((0 : Nat) : Int) := (qi_lt (nI_Z _) (by first | exact nI_Z _ | (simp only [fa_lit, nI_add, pk_mul, nI_1]; exact nI_Z _)) (by omega) (by omega) (by omega) (by omega)).mp c_62
          omega
        · have q_62 : ¬ (((tp r1 90 - 1) : Nat) : Int) < ((0 : Nat) : Int) := fun hh => c_62 ((qi_lt (nI_Z _) (by first | exact nI_Z _ | (simp only [fa_lit, nI_add, pk_mul, nI_1]; exact nI_Z _)) (by omega) (by omega) (by omega) (by omega)).mpr hh)
          refine vs_iload_n 1 dX10_lighten_65 rfl rfl 1 rfl ?_
          refine vs_if_eq 95 dX10_lighten_66 rfl rfl (fun c_66 => ?_) (fun c_66 => ?_)
          · have q_66 : ((1 : Nat) : Int) = ((0 : Nat) : Int) := (qi_eq (nI_Z _) (by first | exact nI_Z _ | (simp only [fa_lit, nI_add, pk_mul, nI_1]; exact nI_Z _)) (by omega) (by omega) (by omega) (by omega)).mp c_66
            omega
          · have q_66 : ¬ ((1 : Nat) : Int) = ((0 : Nat) : Int) := fun hh => c_66 ((qi_eq (nI_Z _) (by first | exact nI_Z _ | (simp only [fa_lit, nI_add, pk_mul, nI_1]; exact nI_Z _)) (by omega) (by omega) (by omega) (by omega)).mpr hh)
            refine vs_aload_n 0 dX10_lighten_69 rfl rfl 2 rfl ?_
            refine vs_aload_n 0 dX10_lighten_70 rfl rfl 2 rfl ?_
            refine vs_get (v := .ref (G.2.2.2 + 134)) lf_X10_56 rfl rfl dX10_lighten_71 rfl ?_
            refine vs_aload_n 0 dX10_lighten_74 rfl rfl 2 rfl ?_
            refine vs_get (v := .ref (G.2.2.2 + 135)) lf_X10_59 rfl rfl dX10_lighten_75 rfl ?_
            refine vs_iload_n 2 dX10_lighten_78 rfl rfl 0 rfl ?_
            refine vs_callVP (st := []) (c_reduce (oa := 134) (ob := 135) rfl rfl (by decide) gP1 gP2 h0 h1 (by omega) mP A0 A1) lk_X10_171 lm_X10_reduce rfl rfl rfl rfl (Nat.le_of_ble_eq_true rfl) rfl ⟨rfl, rfl⟩ dX10_lighten_79 rfl (fun rr S1 hh => ?_)
            obtain ⟨rfl, F2, A2⟩ := hh
            show vs_V _ _ _ _ _ [] _
            refine vs_aload_n 0 dX10_lighten_82 rfl rfl 2 rfl ?_
            refine vs_get (v := .ref (G.2.2.2 + 134)) lf_X10_56 rfl rfl dX10_lighten_83 rfl ?_
            refine vs_bipush (v := 89) dX10_lighten_86 rfl rfl ?_
            refine vs_callS (st := []) (c_degreeOf (o := 134) (N := 90) (n := 89) rfl (by decide) (by decide) A2 (fun k => by have := s5.1 k; omega)) lk_X10_167 lm_X10_degreeOf rfl rfl (Nat.le_of_ble_eq_true rfl) rfl ⟨rfl, rfl⟩ dX10_lighten_88 rfl ?_
            show vs_V _ _ _ _ _ (.int (nZ ((tp (dvp 90 r0 r1 P).2 90 : Int) - 1)) :: _) _
            refine vs_topi (fun v2 e_v2 => ?_)
            have e2_v2 : v2 = nZ ((tp (dvp 90 r0 r1 P).2 90 : Int) - 1) := e_v2
            clear e_v2
            subst e2_v2
            refine vs_istore_n 2 [(2, .int (nZ ((tp (dvp 90 r0 r1 P).2 90 : Int) - 1))), (1, .int (nI 1)), (0, .ref (G.2.2.2 + 118))] dX10_lighten_91 rfl rfl rfl rfl ?_
            refine vs_goto 118 dX10_lighten_92 rfl ?_
            refine vs_iload_n 1 dX10_lighten_118 rfl rfl 1 rfl ?_
            refine vs_if_ne 126 dX10_lighten_119 rfl rfl (fun c_119 => ?_) (fun c_119 => ?_)
            · have q_119 : ¬ ((1 : Nat) : Int) = ((0 : Nat) : Int) := fun hh => c_119 ((qi_eq (nI_Z _) (by first | exact nI_Z _ | (simp only [fa_lit, nI_add, pk_mul, nI_1]; exact nI_Z _)) (by omega) (by omega) (by omega) (by omega)).mpr hh)
              refine vs_iconst (v := 0) dX10_lighten_126 rfl rfl ?_
              refine vs_istore_n 1 [(1, .int (0)), (2, .int (nZ ((tp (dvp 90 r0 r1 P).2 90 : Int) - 1))), (0, .ref (G.2.2.2 + 118))] dX10_lighten_127 rfl rfl rfl rfl ?_
              refine vs_goto 61 dX10_lighten_128 rfl ?_
              refine vs_pick (L2 := [(2, .int (nZ ((tp (dvp 90 r0 r1 P).2 90 : Int) - 1))), (1, .int (nI 0)), (0, .ref (G.2.2.2 + 118))]) [1, 0, 2] rfl ?_
              have A3 : aR S1 135 90 r1 := aR.fx A1 F2 (by simp)
              exact ih 0 135 134 r1 (dvp 90 r0 r1 P).2 S1 (by omega) h1 s5 (by have := tp_d s5 s2; omega) (vs_fx.tr F F2 (by simp) (by simp) (by simp)) A3 A2 (fun S2 fs2 o2 hp2 F3 A4 => K S2 fs2 o2 hp2 F3 (by rw [hg]; exact A4))
            · have q_119 : ((1 : Nat) : Int) = ((0 : Nat) : Int) := (qi_eq (nI_Z _) (by first | exact nI_Z _ | (simp only [fa_lit, nI_add, pk_mul, nI_1]; exact nI_Z _)) (by omega) (by omega) (by omega) (by omega)).mp c_119
              omega
      · refine vs_iload_n 2 dX10_lighten_61 rfl rfl 0 rfl ?_
        refine vs_if_lt 131 dX10_lighten_62 rfl rfl (fun c_62 => ?_) (fun c_62 => ?_)
        · have q_62 : (((tp r1 90 - 1) : Nat) : Int) < ((0 : Nat) : Int) := (qi_lt (nI_Z _) (by first | exact nI_Z _ | (simp only [fa_lit, nI_add, pk_mul, nI_1]; exact nI_Z _)) (by omega) (by omega) (by omega) (by omega)).mp c_62
          omega
        · have q_62 : ¬ (((tp r1 90 - 1) : Nat) : Int) < ((0 : Nat) : Int) := fun hh => c_62 ((qi_lt (nI_Z _) (by first | exact nI_Z _ | (simp only [fa_lit, nI_add, pk_mul, nI_1]; exact nI_Z _)) (by omega) (by omega) (by omega) (by omega)).mpr hh)
          refine vs_iload_n 1 dX10_lighten_65 rfl rfl 1 rfl ?_
          refine vs_if_eq 95 dX10_lighten_66 rfl rfl (fun c_66 => ?_) (fun c_66 => ?_)
          · have q_66 : ((0 : Nat) : Int) = ((0 : Nat) : Int) := (qi_eq (nI_Z _) (by first | exact nI_Z _ | (simp only [fa_lit, nI_add, pk_mul, nI_1]; exact nI_Z _)) (by omega) (by omega) (by omega) (by omega)).mp c_66
            refine vs_aload_n 0 dX10_lighten_95 rfl rfl 2 rfl ?_
            refine vs_aload_n 0 dX10_lighten_96 rfl rfl 2 rfl ?_
            refine vs_get (v := .ref (G.2.2.2 + 135)) lf_X10_59 rfl rfl dX10_lighten_97 rfl ?_
            refine vs_aload_n 0 dX10_lighten_100 rfl rfl 2 rfl ?_
            refine vs_get (v := .ref (G.2.2.2 + 134)) lf_X10_56 rfl rfl dX10_lighten_101 rfl ?_
            refine vs_iload_n 2 dX10_lighten_104 rfl rfl 0 rfl ?_
            refine vs_callVP (st := []) (c_reduce (oa := 135) (ob := 134) rfl rfl (by decide) gP1 gP2 h0 h1 (by omega) mP A0 A1) lk_X10_171 lm_X10_reduce rfl rfl rfl rfl (Nat.le_of_ble_eq_true rfl) rfl ⟨rfl, rfl⟩ dX10_lighten_105 rfl (fun rr S1 hh => ?_)
            obtain ⟨rfl, F2, A2⟩ := hh
            show vs_V _ _ _ _ _ [] _
            refine vs_aload_n 0 dX10_lighten_108 rfl rfl 2 rfl ?_
            refine vs_get (v := .ref (G.2.2.2 + 135)) lf_X10_59 rfl rfl dX10_lighten_109 rfl ?_
            refine vs_bipush (v := 89) dX10_lighten_112 rfl rfl ?_
            refine vs_callS (st := []) (c_degreeOf (o := 135) (N := 90) (n := 89) rfl (by decide) (by decide) A2 (fun k => by have := s5.1 k; omega)) lk_X10_167 lm_X10_degreeOf rfl rfl (Nat.le_of_ble_eq_true rfl) rfl ⟨rfl, rfl⟩ dX10_lighten_114 rfl ?_
            show vs_V _ _ _ _ _ (.int (nZ ((tp (dvp 90 r0 r1 P).2 90 : Int) - 1)) :: _) _
            refine vs_topi (fun v2 e_v2 => ?_)
            have e2_v2 : v2 = nZ ((tp (dvp 90 r0 r1 P).2 90 : Int) - 1) := e_v2
            clear e_v2
            subst e2_v2
            refine vs_istore_n 2 [(2, .int (nZ ((tp (dvp 90 r0 r1 P).2 90 : Int) - 1))), (1, .int (nI 0)), (0, .ref (G.2.2.2 + 118))] dX10_lighten_117 rfl rfl rfl rfl ?_
            refine vs_iload_n 1 dX10_lighten_118 rfl rfl 1 rfl ?_
            refine vs_if_ne 126 dX10_lighten_119 rfl rfl (fun c_119 => ?_) (fun c_119 => ?_)
            · have q_119 : ¬ ((0 : Nat) : Int) = ((0 : Nat) : Int) := fun hh => c_119 ((qi_eq (nI_Z _) (by first | exact nI_Z _ | (simp only [fa_lit, nI_add, pk_mul, nI_1]; exact nI_Z _)) (by omega) (by omega) (by omega) (by omega)).mpr hh)
              omega
            · have q_119 : ((0 : Nat) : Int) = ((0 : Nat) : Int) := (qi_eq (nI_Z _) (by first | exact nI_Z _ | (simp only [fa_lit, nI_add, pk_mul, nI_1]; exact nI_Z _)) (by omega) (by omega) (by omega) (by omega)).mp c_119
              refine vs_iconst (v := 1) dX10_lighten_122 rfl rfl ?_
              refine vs_goto 127 dX10_lighten_123 rfl ?_
              refine vs_istore_n 1 [(1, .int (1)), (2, .int (nZ ((tp (dvp 90 r0 r1 P).2 90 : Int) - 1))), (0, .ref (G.2.2.2 + 118))] dX10_lighten_127 rfl rfl rfl rfl ?_
              refine vs_goto 61 dX10_lighten_128 rfl ?_
              refine vs_pick (L2 := [(2, .int (nZ ((tp (dvp 90 r0 r1 P).2 90 : Int) - 1))), (1, .int (nI 1)), (0, .ref (G.2.2.2 + 118))]) [1, 0, 2] rfl ?_
              have A3 : aR S1 134 90 r1 := aR.fx A1 F2 (by simp)
              exact ih 1 134 135 r1 (dvp 90 r0 r1 P).2 S1 (by omega) h1 s5 (by have := tp_d s5 s2; omega) (vs_fx.tr F F2 (by simp) (by simp) (by simp)) A3 A2 (fun S2 fs2 o2 hp2 F3 A4 => K S2 fs2 o2 hp2 F3 (by rw [hg]; exact A4))
          · have q_66 : ¬ ((0 : Nat) : Int) = ((0 : Nat) : Int) := fun hh => c_66 ((qi_eq (nI_Z _) (by first | exact nI_Z _ | (simp only [fa_lit, nI_add, pk_mul, nI_1]; exact nI_Z _)) (by omega) (by omega) (by omega) (by omega)).mpr hh)
            omega

theorem c_lighten {G : vv_G} {S : vs_S} {p q : Nat → Nat} {P : Nat} (hpr : q_pr P) (gP1 : 2 ≤ P) (gP2 : P ≤ 30011) (h1 : q_pl P 90 p) (h2 : q_pl P 90 q) (mP : S.1 118 2 = nI P) (hp : aR S 127 90 p) (hq : aR S 128 90 q) : vs_CP G yX10_lighten cX10_lighten 4 none { frames := 3, locals := 74 } [.ref (G.2.2.2 + 118)] S (fun r S2 => r = none ∧ vs_fx S S2 [127, 128, 134, 135] [] [] ∧ aR S2 127 90 (lgt P p q).1 ∧ aR S2 128 90 (lgt P p q).2) := by
  refine vs_ofP [(0, .ref (G.2.2.2 + 118))] (by decide) rfl rfl ?_
  refine vs_iconst (v := 0) dX10_lighten_0 rfl rfl ?_
  refine vs_istore_n 1 [(1, .int (0)), (0, .ref (G.2.2.2 + 118))] dX10_lighten_1 rfl rfl rfl rfl ?_
  refine vs_pick (L2 := [(1, .int (nI 0)), (0, .ref (G.2.2.2 + 118))]) [0, 1] rfl ?_
  refine l_lg1 (S := S) (S0 := S) hp hq (fun S2 F A1 A2 => ?_) 90 0 S rfl vs_fx.rf aR_0 aR_0
  have mP2 : S2.1 118 2 = nI P := (F.2.1 _ _ (by simp)).trans mP
  have B1 : aR S2 127 90 p := aR.fx hp F (by simp)
  have B2 : aR S2 128 90 q := aR.fx hq F (by simp)
  have hl := tp_le q 90
  have pg := (gkn_s hpr 90 p q h1 h2 hl).1
  have hlg0 := tp_le (gkn 90 P 90 p q) 90
  refine vs_iconst (v := 1) dX10_lighten_38 rfl rfl ?_
  refine vs_istore_n 1 [(1, .int (1)), (0, .ref (G.2.2.2 + 118))] dX10_lighten_39 rfl rfl rfl rfl ?_
  refine vs_iload_n 1 dX10_lighten_40 rfl rfl 0 rfl ?_
  refine vs_if_eq 51 dX10_lighten_41 rfl rfl (fun c_41 => ?_) (fun c_41 => ?_)
  · have q_41 : ((1 : Nat) : Int) = ((0 : Nat) : Int) := (qi_eq (by first | exact nI_Z _ | (simp only [fa_lit, nI_add, pk_mul, nI_1]; exact nI_Z _)) (by first | exact nI_Z _ | (simp only [fa_lit, nI_add, pk_mul, nI_1]; exact nI_Z _)) (by omega) (by omega) (by omega) (by omega)).mp c_41
    omega
  · have q_41 : ¬ ((1 : Nat) : Int) = ((0 : Nat) : Int) := fun hh => c_41 ((qi_eq (by first | exact nI_Z _ | (simp only [fa_lit, nI_add, pk_mul, nI_1]; exact nI_Z _)) (by first | exact nI_Z _ | (simp only [fa_lit, nI_add, pk_mul, nI_1]; exact nI_Z _)) (by omega) (by omega) (by omega) (by omega)).mpr hh)
    refine vs_aload_n 0 dX10_lighten_44 rfl rfl 1 rfl ?_
    refine vs_get (v := .ref (G.2.2.2 + 135)) lf_X10_59 rfl rfl dX10_lighten_45 rfl ?_
    refine vs_goto 55 dX10_lighten_48 rfl ?_
    refine vs_bipush (v := 89) dX10_lighten_55 rfl rfl ?_
    refine vs_callS (st := []) (c_degreeOf (o := 135) (N := 90) (n := 89) rfl (by decide) (by decide) A2 (fun k => by have := h2.1 k; omega)) lk_X10_167 lm_X10_degreeOf rfl rfl (Nat.le_of_ble_eq_true rfl) rfl ⟨rfl, rfl⟩ dX10_lighten_57 rfl ?_
    show vs_V _ _ _ _ _ (.int (nZ ((tp q 90 : Int) - 1)) :: _) _
    refine vs_topi (fun v2 e_v2 => ?_)
    have e2_v2 : v2 = nZ ((tp q 90 : Int) - 1) := e_v2
    clear e_v2
    subst e2_v2
    refine vs_istore_n 2 [(2, .int (nZ ((tp q 90 : Int) - 1))), (1, .int (1)), (0, .ref (G.2.2.2 + 118))] dX10_lighten_60 rfl rfl rfl rfl ?_
    refine vs_pick (L2 := [(2, .int (nZ ((tp q 90 : Int) - 1))), (1, .int (nI 1)), (0, .ref (G.2.2.2 + 118))]) [0, 1, 2] rfl ?_
    refine l_lg2 (S := S) hpr gP1 gP2 (S0 := S2) mP2 90 1 134 135 p q S2 (by omega) h1 h2 hl vs_fx.rf A1 A2 (fun S3 fs o2 hpar F2 A4 => ?_)
    rcases hpar with ⟨rfl, rfl⟩ | ⟨rfl, rfl⟩
    · refine vs_iload_n 1 dX10_lighten_131 rfl rfl 0 rfl ?_
      refine vs_if_eq 142 dX10_lighten_132 rfl rfl (fun c_132 => ?_) (fun c_132 => ?_)
      · have q_132 : ((1 : Nat) : Int) = ((0 : Nat) : Int) := (qi_eq (nI_Z _) (by first | exact nI_Z _ | (simp only [fa_lit, nI_add, pk_mul, nI_1]; exact nI_Z _)) (by omega) (by omega) (by omega) (by omega)).mp c_132
        omega
      · have q_132 : ¬ ((1 : Nat) : Int) = ((0 : Nat) : Int) := fun hh => c_132 ((qi_eq (nI_Z _) (by first | exact nI_Z _ | (simp only [fa_lit, nI_add, pk_mul, nI_1]; exact nI_Z _)) (by omega) (by omega) (by omega) (by omega)).mpr hh)
        refine vs_aload_n 0 dX10_lighten_135 rfl rfl 1 rfl ?_
        refine vs_get (v := .ref (G.2.2.2 + 134)) lf_X10_56 rfl rfl dX10_lighten_136 rfl ?_
        refine vs_goto 146 dX10_lighten_139 rfl ?_
        refine vs_astore_n 3 [(3, .ref (G.2.2.2 + 134)), (1, .int (nI 1)), (0, .ref (G.2.2.2 + 118))] dX10_lighten_146 rfl rfl rfl rfl ?_
        refine vs_aload_n 3 dX10_lighten_147 rfl rfl 0 rfl ?_
        refine vs_bipush (v := 89) dX10_lighten_148 rfl rfl ?_
        refine vs_callS (st := []) (c_degreeOf (o := 134) (N := 90) (n := 89) rfl (by decide) (by decide) A4 (fun k => by have := pg.1 k; omega)) lk_X10_167 lm_X10_degreeOf rfl rfl (Nat.le_of_ble_eq_true rfl) rfl ⟨rfl, rfl⟩ dX10_lighten_150 rfl ?_
        show vs_V _ _ _ _ _ (.int (nZ ((tp (gkn 90 P 90 p q) 90 : Int) - 1)) :: _) _
        refine vs_if_le 174 dX10_lighten_153 rfl rfl (fun c_153 => ?_) (fun c_153 => ?_)
        · have q_153 : (((tp (gkn 90 P 90 p q) 90 : Int) - 1) : Int) ≤ ((0 : Nat) : Int) := (qi_le rfl (by first | exact nI_Z _ | (simp only [fa_lit, nI_add, pk_mul, nI_1]; exact nI_Z _)) (by omega) (by omega) (by omega) (by omega)).mp c_153
          have hlg : lgt P p q = (p, q) := if_neg (by omega)
          exact vs_vretP dX10_lighten_174 ⟨rfl, vs_fx.tr (vs_fx.tr vs_fx.rf F (by simp) (by simp) (by simp)) F2 (by simp) (by simp) (by simp), by rw [hlg]; exact aR.fx B1 F2 (by simp), by rw [hlg]; exact aR.fx B2 F2 (by simp)⟩
        · have q_153 : ¬ (((tp (gkn 90 P 90 p q) 90 : Int) - 1) : Int) ≤ ((0 : Nat) : Int) := fun hh => c_153 ((qi_le rfl (by first | exact nI_Z _ | (simp only [fa_lit, nI_add, pk_mul, nI_1]; exact nI_Z _)) (by omega) (by omega) (by omega) (by omega)).mpr hh)
          have hlg : lgt P p q = ((dvp 90 p (gkn 90 P 90 p q) P).1, (dvp 90 q (gkn 90 P 90 p q) P).1) := if_pos (by omega)
          refine vs_aload_n 0 dX10_lighten_156 rfl rfl 2 rfl ?_
          refine vs_aload_n 0 dX10_lighten_157 rfl rfl 2 rfl ?_
          refine vs_get (v := .ref (G.2.2.2 + 127)) lf_X10_35 rfl rfl dX10_lighten_158 rfl ?_
          refine vs_aload_n 3 dX10_lighten_161 rfl rfl 0 rfl ?_
          refine vs_callVP (st := []) (c_divideM (oa := 127) (ob := 134) rfl rfl (by decide) hpr gP1 gP2 h1 pg (by omega) ((F2.2.1 _ _ (by simp)).trans mP2) (aR.fx B1 F2 (by simp)) A4) lk_X10_175 lm_X10_divide rfl rfl rfl rfl (Nat.le_of_ble_eq_true rfl) rfl ⟨rfl, rfl⟩ dX10_lighten_162 rfl (fun rr S1 hh => ?_)
          obtain ⟨rfl, F3, A5⟩ := hh
          show vs_V _ _ _ _ _ [] _
          refine vs_aload_n 0 dX10_lighten_165 rfl rfl 2 rfl ?_
          refine vs_aload_n 0 dX10_lighten_166 rfl rfl 2 rfl ?_
          refine vs_get (v := .ref (G.2.2.2 + 128)) lf_X10_38 rfl rfl dX10_lighten_167 rfl ?_
          refine vs_aload_n 3 dX10_lighten_170 rfl rfl 0 rfl ?_
          refine vs_callVP (st := []) (c_divideM (oa := 128) (ob := 134) rfl rfl (by decide) hpr gP1 gP2 h2 pg (by omega) ((F3.2.1 _ _ (by simp)).trans ((F2.2.1 _ _ (by simp)).trans mP2)) (aR.fx (aR.fx B2 F2 (by simp)) F3 (by simp)) (aR.fx A4 F3 (by simp))) lk_X10_175 lm_X10_divide rfl rfl rfl rfl (Nat.le_of_ble_eq_true rfl) rfl ⟨rfl, rfl⟩ dX10_lighten_171 rfl (fun rr S2 hh => ?_)
          obtain ⟨rfl, F4, A6⟩ := hh
          show vs_V _ _ _ _ _ [] _
          exact vs_vretP dX10_lighten_174 ⟨rfl, vs_fx.tr (vs_fx.tr (vs_fx.tr (vs_fx.tr vs_fx.rf F (by simp) (by simp) (by simp)) F2 (by simp) (by simp) (by simp)) F3 (by simp) (by simp) (by simp)) F4 (by simp) (by simp) (by simp), by rw [hlg]; exact aR.fx A5 F4 (by simp), by rw [hlg]; exact A6⟩
    · refine vs_iload_n 1 dX10_lighten_131 rfl rfl 0 rfl ?_
      refine vs_if_eq 142 dX10_lighten_132 rfl rfl (fun c_132 => ?_) (fun c_132 => ?_)
      · have q_132 : ((0 : Nat) : Int) = ((0 : Nat) : Int) := (qi_eq (nI_Z _) (by first | exact nI_Z _ | (simp only [fa_lit, nI_add, pk_mul, nI_1]; exact nI_Z _)) (by omega) (by omega) (by omega) (by omega)).mp c_132
        refine vs_aload_n 0 dX10_lighten_142 rfl rfl 1 rfl ?_
        refine vs_get (v := .ref (G.2.2.2 + 135)) lf_X10_59 rfl rfl dX10_lighten_143 rfl ?_
        refine vs_astore_n 3 [(3, .ref (G.2.2.2 + 135)), (1, .int (nI 0)), (0, .ref (G.2.2.2 + 118))] dX10_lighten_146 rfl rfl rfl rfl ?_
        refine vs_aload_n 3 dX10_lighten_147 rfl rfl 0 rfl ?_
        refine vs_bipush (v := 89) dX10_lighten_148 rfl rfl ?_
        refine vs_callS (st := []) (c_degreeOf (o := 135) (N := 90) (n := 89) rfl (by decide) (by decide) A4 (fun k => by have := pg.1 k; omega)) lk_X10_167 lm_X10_degreeOf rfl rfl (Nat.le_of_ble_eq_true rfl) rfl ⟨rfl, rfl⟩ dX10_lighten_150 rfl ?_
        show vs_V _ _ _ _ _ (.int (nZ ((tp (gkn 90 P 90 p q) 90 : Int) - 1)) :: _) _
        refine vs_if_le 174 dX10_lighten_153 rfl rfl (fun c_153 => ?_) (fun c_153 => ?_)
        · have q_153 : (((tp (gkn 90 P 90 p q) 90 : Int) - 1) : Int) ≤ ((0 : Nat) : Int) := (qi_le rfl (by first | exact nI_Z _ | (simp only [fa_lit, nI_add, pk_mul, nI_1]; exact nI_Z _)) (by omega) (by omega) (by omega) (by omega)).mp c_153
          have hlg : lgt P p q = (p, q) := if_neg (by omega)
          exact vs_vretP dX10_lighten_174 ⟨rfl, vs_fx.tr (vs_fx.tr vs_fx.rf F (by simp) (by simp) (by simp)) F2 (by simp) (by simp) (by simp), by rw [hlg]; exact aR.fx B1 F2 (by simp), by rw [hlg]; exact aR.fx B2 F2 (by simp)⟩
        · have q_153 : ¬ (((tp (gkn 90 P 90 p q) 90 : Int) - 1) : Int) ≤ ((0 : Nat) : Int) := fun hh => c_153 ((qi_le rfl (by first | exact nI_Z _ | (simp only [fa_lit, nI_add, pk_mul, nI_1]; exact nI_Z _)) (by omega) (by omega) (by omega) (by omega)).mpr hh)
          have hlg : lgt P p q = ((dvp 90 p (gkn 90 P 90 p q) P).1, (dvp 90 q (gkn 90 P 90 p q) P).1) := if_pos (by omega)
          refine vs_aload_n 0 dX10_lighten_156 rfl rfl 2 rfl ?_
          refine vs_aload_n 0 dX10_lighten_157 rfl rfl 2 rfl ?_
          refine vs_get (v := .ref (G.2.2.2 + 127)) lf_X10_35 rfl rfl dX10_lighten_158 rfl ?_
          refine vs_aload_n 3 dX10_lighten_161 rfl rfl 0 rfl ?_
          refine vs_callVP (st := []) (c_divideM (oa := 127) (ob := 135) rfl rfl (by decide) hpr gP1 gP2 h1 pg (by omega) ((F2.2.1 _ _ (by simp)).trans mP2) (aR.fx B1 F2 (by simp)) A4) lk_X10_175 lm_X10_divide rfl rfl rfl rfl (Nat.le_of_ble_eq_true rfl) rfl ⟨rfl, rfl⟩ dX10_lighten_162 rfl (fun rr S1 hh => ?_)
          obtain ⟨rfl, F3, A5⟩ := hh
          show vs_V _ _ _ _ _ [] _
          refine vs_aload_n 0 dX10_lighten_165 rfl rfl 2 rfl ?_
          refine vs_aload_n 0 dX10_lighten_166 rfl rfl 2 rfl ?_
          refine vs_get (v := .ref (G.2.2.2 + 128)) lf_X10_38 rfl rfl dX10_lighten_167 rfl ?_
          refine vs_aload_n 3 dX10_lighten_170 rfl rfl 0 rfl ?_
          refine vs_callVP (st := []) (c_divideM (oa := 128) (ob := 135) rfl rfl (by decide) hpr gP1 gP2 h2 pg (by omega) ((F3.2.1 _ _ (by simp)).trans ((F2.2.1 _ _ (by simp)).trans mP2)) (aR.fx (aR.fx B2 F2 (by simp)) F3 (by simp)) (aR.fx A4 F3 (by simp))) lk_X10_175 lm_X10_divide rfl rfl rfl rfl (Nat.le_of_ble_eq_true rfl) rfl ⟨rfl, rfl⟩ dX10_lighten_171 rfl (fun rr S2 hh => ?_)
          obtain ⟨rfl, F4, A6⟩ := hh
          show vs_V _ _ _ _ _ [] _
          exact vs_vretP dX10_lighten_174 ⟨rfl, vs_fx.tr (vs_fx.tr (vs_fx.tr (vs_fx.tr vs_fx.rf F (by simp) (by simp) (by simp)) F2 (by simp) (by simp) (by simp)) F3 (by simp) (by simp) (by simp)) F4 (by simp) (by simp) (by simp), by rw [hlg]; exact aR.fx A5 F4 (by simp), by rw [hlg]; exact A6⟩
      · have q_132 : ¬ ((0 : Nat) : Int) = ((0 : Nat) : Int) := fun hh => c_132 ((qi_eq (nI_Z _) (by first | exact nI_Z _ | (simp only [fa_lit, nI_add, pk_mul, nI_1]; exact nI_Z _)) (by omega) (by omega) (by omega) (by omega)).mpr hh)
        omega

theorem l_tl1 {G : vv_G} {S : vs_S} {p q : Nat → Nat} {P lo : Nat} (gP1 : 2 ≤ P) (gP2 : P ≤ 30011) (bp : ∀ k, p k < P) (bq : ∀ k, q k < P) {S0 : vs_S} (mP0 : S0.1 118 2 = nI P) (hp0 : aR S0 127 90 p) (hq0 : aR S0 128 90 q) {Pst : Option Value → vs_S → Prop} (K : ∀ S2 : vs_S, vs_fx S0 S2 [132, 133] [] [] → aR S2 132 46 ((fun k => p k * ipw lo P % P)) → aR S2 133 46 ((fun k => q k * ipw lo P % P)) → vs_V G cX10_tell (vs_MP yX10_tell 4 none { frames := 2, locals := 46 } G Pst) 76 [(0, .ref (G.2.2.2 + 118))] [] S2) : ∀ (d i : Nat) (S : vs_S), i + d = 46 → vs_fx S0 S [132, 133] [] [] → aR S 132 i ((fun k => p k * ipw lo P % P)) → aR S 133 i ((fun k => q k * ipw lo P % P)) → vs_V G cX10_tell (vs_MP yX10_tell 4 none { frames := 2, locals := 46 } G Pst) 30 [(3, .int (nI i)), (2, .int (nI (ipw lo P))), (0, .ref (G.2.2.2 + 118))] [] S := by
  intro d
  induction d with
  | zero =>
    intro i S hi F A1 A2
    obtain rfl : 46 = i := by omega
    have mP : S.1 118 2 = nI P := (F.2.1 _ _ (by simp <;> omega)).trans mP0
    have hp : aR S 127 90 p := aR.fx hp0 F (by simp <;> omega)
    have hq : aR S 128 90 q := aR.fx hq0 F (by simp <;> omega)
    refine vs_iload_n 3 dX10_tell_30 rfl rfl 0 rfl ?_
    refine vs_bipush (v := 46) dX10_tell_31 rfl rfl ?_
    refine vs_icmp_ge 76 dX10_tell_33 rfl rfl (fun c_33 => ?_) (fun c_33 => ?_)
    · have q_33 : ((46 : Nat) : Int) ≥ ((46 : Nat) : Int) := (qi_ge (nI_Z _) (by first | exact nI_Z _ | (simp only [fa_lit, nI_add, pk_mul, nI_1]; exact nI_Z _)) (by omega) (by omega) (by omega) (by omega)).mp c_33
      refine vs_pick (L2 := [(0, .ref (G.2.2.2 + 118))]) [2] rfl ?_
      exact K S F A1 A2
    · have q_33 : ¬ ((46 : Nat) : Int) ≥ ((46 : Nat) : Int) := fun hh => c_33 ((qi_ge (nI_Z _) (by first | exact nI_Z _ | (simp only [fa_lit, nI_add, pk_mul, nI_1]; exact nI_Z _)) (by omega) (by omega) (by omega) (by omega)).mpr hh)
      omega
  | succ d ih =>
    intro i S hi F A1 A2
    have mP : S.1 118 2 = nI P := (F.2.1 _ _ (by simp <;> omega)).trans mP0
    have hp : aR S 127 90 p := aR.fx hp0 F (by simp <;> omega)
    have hq : aR S 128 90 q := aR.fx hq0 F (by simp <;> omega)
    have b1 := bp i
    have b2 := bq i
    have b3 := ipw_lt (a := lo) gP1
    refine vs_iload_n 3 dX10_tell_30 rfl rfl 0 rfl ?_
    refine vs_bipush (v := 46) dX10_tell_31 rfl rfl ?_
    refine vs_icmp_ge 76 dX10_tell_33 rfl rfl (fun c_33 => ?_) (fun c_33 => ?_)
    · have q_33 : ((i : Nat) : Int) ≥ ((46 : Nat) : Int) := (qi_ge (nI_Z _) (by first | exact nI_Z _ | (simp only [fa_lit, nI_add, pk_mul, nI_1]; exact nI_Z _)) (by omega) (by omega) (by omega) (by omega)).mp c_33
      omega
    · have q_33 : ¬ ((i : Nat) : Int) ≥ ((46 : Nat) : Int) := fun hh => c_33 ((qi_ge (nI_Z _) (by first | exact nI_Z _ | (simp only [fa_lit, nI_add, pk_mul, nI_1]; exact nI_Z _)) (by omega) (by omega) (by omega) (by omega)).mpr hh)
      refine vs_aload_n 0 dX10_tell_36 rfl rfl 2 rfl ?_
      refine vs_get (v := .ref (G.2.2.2 + 132)) lf_X10_50 rfl rfl dX10_tell_37 rfl ?_
      refine vs_iload_n 3 dX10_tell_40 rfl rfl 0 rfl ?_
      refine vs_aload_n 0 dX10_tell_41 rfl rfl 2 rfl ?_
      refine vs_aload_n 0 dX10_tell_42 rfl rfl 2 rfl ?_
      refine vs_get (v := .ref (G.2.2.2 + 127)) lf_X10_35 rfl rfl dX10_tell_43 rfl ?_
      refine vs_iload_n 3 dX10_tell_46 rfl rfl 0 rfl ?_
      refine vs_iald (k := i) rfl rfl (by omega) rfl dX10_tell_47 rfl ?_
      refine vs_topi (fun z1 e_z1 => ?_)
      have f_z1 : z1 = nI (p i) := (by rw [e_z1]; exact hp i (by omega))
      subst f_z1
      clear e_z1
      refine vs_iload_n 2 dX10_tell_48 rfl rfl 1 rfl ?_
      refine vs_callV (st := [.int (nI i), .ref (G.2.2.2 + 132)]) (c_product (x := p i) (y := ipw lo P) mP (by omega) (by omega) (by omega) (by omega)) lk_X10_99 lm_X10_product rfl rfl rfl rfl (Nat.le_of_ble_eq_true rfl) rfl ⟨rfl, rfl⟩ dX10_tell_49 rfl ?_
      show vs_V _ _ _ _ _ (.int (nI (p i * ipw lo P % P)) :: _) _
      refine vs_iast (k := i) rfl (by first | rfl | (simp only [fa_lit, nI_add, pk_mul, nI_1]; done) | omega) (by omega) rfl dX10_tell_52 rfl ?_
      refine vs_gen (fun T1 e_T1 => ?_)
      have mP : T1.1 118 2 = nI P := by rw [e_T1]; repeat (first | exact mP | rw [vs_ia_ne (by omega)] | rw [vs_ia_1] | rw [vs_sc_ne (by omega)] | rw [vs_sc_nf (by omega)])
      have hp : aR T1 127 90 p := by rw [e_T1]; repeat (first | exact hp | refine aR.ne ?_ (by omega))
      have hq : aR T1 128 90 q := by rw [e_T1]; repeat (first | exact hq | refine aR.ne ?_ (by omega))
      have F : vs_fx S0 T1 [132, 133] [] [] := by rw [e_T1]; repeat (first | exact F | refine vs_fx.ia ?_ (by simp <;> omega) | refine vs_fx.sc ?_ (by simp <;> omega) | refine vs_fx.la ?_ (by simp <;> omega))
      have A2 : aR T1 133 i ((fun k => q k * ipw lo P % P)) := by rw [e_T1]; repeat (first | exact A2 | refine aR.ne ?_ (by omega))
      have A1 : aR T1 132 (i + 1) ((fun k => p k * ipw lo P % P)) := (by rw [e_T1]; exact aR.push A1)
      clear e_T1
      refine vs_aload_n 0 dX10_tell_53 rfl rfl 2 rfl ?_
      refine vs_get (v := .ref (G.2.2.2 + 133)) lf_X10_53 rfl rfl dX10_tell_54 rfl ?_
      refine vs_iload_n 3 dX10_tell_57 rfl rfl 0 rfl ?_
      refine vs_aload_n 0 dX10_tell_58 rfl rfl 2 rfl ?_
      refine vs_aload_n 0 dX10_tell_59 rfl rfl 2 rfl ?_
      refine vs_get (v := .ref (G.2.2.2 + 128)) lf_X10_38 rfl rfl dX10_tell_60 rfl ?_
      refine vs_iload_n 3 dX10_tell_63 rfl rfl 0 rfl ?_
      refine vs_iald (k := i) rfl rfl (by omega) rfl dX10_tell_64 rfl ?_
      refine vs_topi (fun z2 e_z2 => ?_)
      have f_z2 : z2 = nI (q i) := (by rw [e_z2]; exact hq i (by omega))
      subst f_z2
      clear e_z2
      refine vs_iload_n 2 dX10_tell_65 rfl rfl 1 rfl ?_
      refine vs_callV (st := [.int (nI i), .ref (G.2.2.2 + 133)]) (c_product (x := q i) (y := ipw lo P) mP (by omega) (by omega) (by omega) (by omega)) lk_X10_99 lm_X10_product rfl rfl rfl rfl (Nat.le_of_ble_eq_true rfl) rfl ⟨rfl, rfl⟩ dX10_tell_66 rfl ?_
      show vs_V _ _ _ _ _ (.int (nI (q i * ipw lo P % P)) :: _) _
      refine vs_iast (k := i) rfl (by first | rfl | (simp only [fa_lit, nI_add, pk_mul, nI_1]; done) | omega) (by omega) rfl dX10_tell_69 rfl ?_
      refine vs_gen (fun T2 e_T2 => ?_)
      have mP : T2.1 118 2 = nI P := by rw [e_T2]; repeat (first | exact mP | rw [vs_ia_ne (by omega)] | rw [vs_ia_1] | rw [vs_sc_ne (by omega)] | rw [vs_sc_nf (by omega)])
      have hp : aR T2 127 90 p := by rw [e_T2]; repeat (first | exact hp | refine aR.ne ?_ (by omega))
      have hq : aR T2 128 90 q := by rw [e_T2]; repeat (first | exact hq | refine aR.ne ?_ (by omega))
      have F : vs_fx S0 T2 [132, 133] [] [] := by rw [e_T2]; repeat (first | exact F | refine vs_fx.ia ?_ (by simp <;> omega) | refine vs_fx.sc ?_ (by simp <;> omega) | refine vs_fx.la ?_ (by simp <;> omega))
      have A1 : aR T2 132 (i + 1) ((fun k => p k * ipw lo P % P)) := by rw [e_T2]; repeat (first | exact A1 | refine aR.ne ?_ (by omega))
      have A2 : aR T2 133 (i + 1) ((fun k => q k * ipw lo P % P)) := (by rw [e_T2]; exact aR.push A2)
      clear e_T2
      refine vs_iinc (v := nI (i + 1)) [(3, .int (nI (i + 1))), (2, .int (nI (ipw lo P))), (0, .ref (G.2.2.2 + 118))] dX10_tell_70 rfl 0 rfl (by first | exact nI_1 _ | (simp only [fa_lit, nI_add, pk_mul, nI_1]; rfl)) rfl rfl ?_
      refine vs_goto 30 dX10_tell_73 rfl ?_
      refine vs_pick [0, 1, 2] rfl ?_
      exact ih (i + 1) _ (by omega) F A1 A2

theorem l_tl2 {G : vv_G} {S : vs_S} {q : Nat → Nat} {P : Nat} (gP2 : P ≤ 30011) (bq : ∀ k, q k < P) (hq : aR S 128 90 q) {k0 : Nat} (hk0 : k0 < 90) (hz0 : ∀ j, j < k0 → q j = 0) (hn0 : q k0 ≠ 0) {Pst : Option Value → vs_S → Prop} (K : vs_V G cX10_tell (vs_MP yX10_tell 4 none { frames := 2, locals := 46 } G Pst) 17 [(1, .int (nI k0)), (0, .ref (G.2.2.2 + 118))] [] S) : ∀ d k : Nat, k + d = k0 → vs_V G cX10_tell (vs_MP yX10_tell 4 none { frames := 2, locals := 46 } G Pst) 2 [(1, .int (nI k)), (0, .ref (G.2.2.2 + 118))] [] S := by
  intro d
  induction d with
  | zero =>
    intro k hk
    obtain rfl : k = k0 := by omega
    have b1 := bq k
    refine vs_aload_n 0 dX10_tell_2 rfl rfl 1 rfl ?_
    refine vs_get (v := .ref (G.2.2.2 + 128)) lf_X10_38 rfl rfl dX10_tell_3 rfl ?_
    refine vs_iload_n 1 dX10_tell_6 rfl rfl 0 rfl ?_
    refine vs_iald (k := k) rfl rfl (by omega) rfl dX10_tell_7 rfl ?_
    refine vs_topi (fun z1 e_z1 => ?_)
    have f_z1 : z1 = nI (q k) := (by rw [e_z1]; exact hq k (by omega))
    subst f_z1
    clear e_z1
    refine vs_if_ne 17 dX10_tell_8 rfl rfl (fun c_8 => ?_) (fun c_8 => ?_)
    · have q_8 : ¬ (((q k) : Nat) : Int) = ((0 : Nat) : Int) := fun hh => c_8 ((qi_eq (nI_Z _) (by first | exact nI_Z _ | (simp only [fa_lit, nI_add, pk_mul, nI_1]; exact nI_Z _)) (by omega) (by omega) (by omega) (by omega)).mpr hh)
      refine vs_pick [0, 1] rfl ?_
      exact K
    · have q_8 : (((q k) : Nat) : Int) = ((0 : Nat) : Int) := (qi_eq (nI_Z _) (by first | exact nI_Z _ | (simp only [fa_lit, nI_add, pk_mul, nI_1]; exact nI_Z _)) (by omega) (by omega) (by omega) (by omega)).mp c_8
      omega
  | succ d ih =>
    intro k hk
    have z := hz0 k (by omega)
    refine vs_aload_n 0 dX10_tell_2 rfl rfl 1 rfl ?_
    refine vs_get (v := .ref (G.2.2.2 + 128)) lf_X10_38 rfl rfl dX10_tell_3 rfl ?_
    refine vs_iload_n 1 dX10_tell_6 rfl rfl 0 rfl ?_
    refine vs_iald (k := k) rfl rfl (by omega) rfl dX10_tell_7 rfl ?_
    refine vs_topi (fun z1 e_z1 => ?_)
    have f_z1 : z1 = nI (q k) := (by rw [e_z1]; exact hq k (by omega))
    subst f_z1
    clear e_z1
    refine vs_if_ne 17 dX10_tell_8 rfl rfl (fun c_8 => ?_) (fun c_8 => ?_)
    · have q_8 : ¬ (((q k) : Nat) : Int) = ((0 : Nat) : Int) := fun hh => c_8 ((qi_eq (nI_Z _) (by first | exact nI_Z _ | (simp only [fa_lit, nI_add, pk_mul, nI_1]; exact nI_Z _)) (by omega) (by omega) (by decide) (by decide)).mpr hh)
      omega
    · have q_8 : (((q k) : Nat) : Int) = ((0 : Nat) : Int) := (qi_eq (nI_Z _) (by first | exact nI_Z _ | (simp only [fa_lit, nI_add, pk_mul, nI_1]; exact nI_Z _)) (by omega) (by omega) (by decide) (by decide)).mp c_8
      refine vs_iinc (v := nI (k + 1)) [(1, .int (nI (k + 1))), (0, .ref (G.2.2.2 + 118))] dX10_tell_11 rfl 0 rfl (by first | exact nI_1 _ | (simp only [fa_lit, nI_add, pk_mul, nI_1]; rfl)) rfl rfl ?_
      refine vs_goto 2 dX10_tell_14 rfl ?_
      refine vs_pick [0, 1] rfl ?_
      exact ih (k + 1) (by omega)

theorem c_tell {G : vv_G} {S : vs_S} {p q : Nat → Nat} {P : Nat} (hpr : q_pr P) (gP1 : 2 ≤ P) (gP2 : P ≤ 30011) (h1 : q_pl P 90 p) (h2 : q_pl P 90 q) (hn : q_nz P (q_n q)) (mP : S.1 118 2 = nI P) (hp : aR S 127 90 p) (hq : aR S 128 90 q) : vs_CP G yX10_tell cX10_tell 4 none { frames := 2, locals := 46 } [.ref (G.2.2.2 + 118)] S (fun r S2 => r = none ∧ vs_fx S S2 [132, 133] [] [] ∧ aR S2 132 46 (fun k => p k * ipw (lo_t q 90 0) P % P) ∧ aR S2 133 46 (fun k => q k * ipw (lo_t q 90 0) P % P)) := by
  refine vs_ofP [(0, .ref (G.2.2.2 + 118))] (by decide) rfl rfl ?_
  obtain ⟨k0, hk, hl0, hz0⟩ := q_nz_lo hpr h2 hn
  have hlo : lo_t q 90 0 = q k0 := hk.symm
  have hn0 : q k0 ≠ 0 := by rw [hk]; exact hl0
  have hk0 : k0 < 90 := Classical.byContradiction fun z => hn0 (h2.2 k0 (by omega))
  refine vs_iconst (v := 0) dX10_tell_0 rfl rfl ?_
  refine vs_istore_n 1 [(1, .int (0)), (0, .ref (G.2.2.2 + 118))] dX10_tell_1 rfl rfl rfl rfl ?_
  refine vs_pick (L2 := [(1, .int (nI 0)), (0, .ref (G.2.2.2 + 118))]) [0, 1] rfl ?_
  refine l_tl2 (S := S) gP2 h2.1 hq hk0 hz0 hn0 ?_ k0 0 (by omega)
  refine vs_aload_n 0 dX10_tell_17 rfl rfl 1 rfl ?_
  refine vs_aload_n 0 dX10_tell_18 rfl rfl 1 rfl ?_
  refine vs_get (v := .ref (G.2.2.2 + 128)) lf_X10_38 rfl rfl dX10_tell_19 rfl ?_
  refine vs_iload_n 1 dX10_tell_22 rfl rfl 0 rfl ?_
  refine vs_iald (k := k0) rfl rfl (by omega) rfl dX10_tell_23 rfl ?_
  refine vs_topi (fun z1 e_z1 => ?_)
  have f_z1 : z1 = nI (lo_t q 90 0) := (by rw [e_z1, hlo]; exact hq k0 (by omega))
  subst f_z1
  clear e_z1
  refine vs_callV (st := []) (c_minverse (a := lo_t q 90 0) mP gP1 gP2 (by rw [hlo]; exact h2.1 k0)) lk_X10_142 lm_X10_inverse rfl rfl rfl rfl (Nat.le_of_ble_eq_true rfl) rfl ⟨rfl, rfl⟩ dX10_tell_24 rfl ?_
  show vs_V _ _ _ _ _ (.int (nI (ipw (lo_t q 90 0) P)) :: _) _
  refine vs_istore_n 2 [(2, .int (nI (ipw (lo_t q 90 0) P))), (1, .int (nI k0)), (0, .ref (G.2.2.2 + 118))] dX10_tell_27 rfl rfl rfl rfl ?_
  refine vs_iconst (v := 0) dX10_tell_28 rfl rfl ?_
  refine vs_istore_n 3 [(3, .int (0)), (2, .int (nI (ipw (lo_t q 90 0) P))), (1, .int (nI k0)), (0, .ref (G.2.2.2 + 118))] dX10_tell_29 rfl rfl rfl rfl ?_
  refine vs_pick (L2 := [(3, .int (nI 0)), (2, .int (nI (ipw (lo_t q 90 0) P))), (0, .ref (G.2.2.2 + 118))]) [0, 1, 3] rfl ?_
  refine l_tl1 (S := S) (lo := lo_t q 90 0) gP1 gP2 h1.1 h2.1 (S0 := S) mP hp hq (fun S2 F A1 A2 => ?_) 46 0 S rfl vs_fx.rf aR_0 aR_0
  exact vs_vretP dX10_tell_76 ⟨rfl, F, A1, A2⟩

