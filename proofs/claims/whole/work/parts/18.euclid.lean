def jk (S : vs_S) (o : Nat) : Prop := ∃ g, pR S o g
theorem dvk_b {gd : Nat → Nat} {low inv P : Nat} (h0 : 0 < P) : ∀ (d : Nat) (x : (Nat → Nat) × (Nat → Nat)), (∀ k, x.1 k < P) → (∀ k, x.2 k < P) → (∀ k, (dvk gd low inv P d x).1 k < P) ∧ ∀ k, (dvk gd low inv P d x).2 k < P
  | 0, x, h1, h2 => ⟨h1, h2⟩
  | d + 1, x, h1, h2 => by
    unfold dvk
    refine dvk_b h0 d _ (fun k => ?_) (amk_b h0 h2)
    show nu _ _ _ k < P
    unfold nu
    by_cases h : k = d
    · rw [if_pos h]; exact Nat.mod_lt _ h0
    · rw [if_neg h]; exact h1 k
theorem dvk_z {gd : Nat → Nat} {low inv P : Nat} : ∀ (d : Nat) (x : (Nat → Nat) × (Nat → Nat)), d ≤ 42 → (∀ k, 42 ≤ k → x.1 k = 0) → (∀ k, 42 ≤ k → x.2 k = 0) → (∀ k, 42 ≤ k → (dvk gd low inv P d x).1 k = 0) ∧ ∀ k, 42 ≤ k → (dvk gd low inv P d x).2 k = 0
  | 0, x, _, h1, h2 => ⟨h1, h2⟩
  | d + 1, x, hd, h1, h2 => by
    unfold dvk
    refine dvk_z d _ (by omega) (fun k hk => ?_) (amk_z h2 (Nat.le_refl _))
    show nu _ _ _ k = 0
    rw [nu_n (by omega)]
    exact h1 k hk
theorem dvd_b {g gd : Nat → Nat} {P : Nat} (h0 : 0 < P) (h : ∀ k, g k < P) : (∀ k, (dvd_ g gd P).1 k < P) ∧ ∀ k, (dvd_ g gd P).2 k < P := by
  unfold dvd_
  by_cases h1 : tp gd 42 = 0
  · rw [if_pos h1]; exact ⟨fun _ => h0, h⟩
  · rw [if_neg h1]; exact dvk_b h0 _ _ (fun _ => h0) h
theorem dvd_z {g gd : Nat → Nat} {P : Nat} (h : ∀ k, 42 ≤ k → g k = 0) : (∀ k, 42 ≤ k → (dvd_ g gd P).1 k = 0) ∧ ∀ k, 42 ≤ k → (dvd_ g gd P).2 k = 0 := by
  have := tp_le g 42
  unfold dvd_
  by_cases h1 : tp gd 42 = 0
  · rw [if_pos h1]; exact ⟨fun _ _ => rfl, h⟩
  · rw [if_neg h1]; exact dvk_z _ _ (by omega) (fun _ _ => rfl) h
/-- the common factor as the class finds it -/
def gk (P : Nat) : Nat → (Nat → Nat) → (Nat → Nat) → (Nat → Nat)
  | 0, r0, _ => r0
  | d + 1, r0, r1 => if tp r1 42 = 0 then r0 else gk P d r1 (dvd_ r0 r1 P).2
theorem gk_b {P : Nat} (h0 : 0 < P) : ∀ d r0 r1, (∀ k, r0 k < P) → (∀ k, r1 k < P) → ∀ k, gk P d r0 r1 k < P
  | 0, r0, _, h, _ => h
  | d + 1, r0, r1, h, h1 => by
    unfold gk
    by_cases hz : tp r1 42 = 0
    · rw [if_pos hz]; exact h
    · rw [if_neg hz]; exact gk_b h0 d _ _ h1 (dvd_b h0 h).2
def dcf1 (a b : Nat → Nat) (P : Nat) : (Nat → Nat) × (Nat → Nat) := ((dvd_ a (gk P 42 b a) P).1, (dvd_ b (gk P 42 b a) P).1)
/-- a share without its common factors, the lowest term below being 1 -/
def dcf (a b : Nat → Nat) (P : Nat) : (Nat → Nat) × (Nat → Nat) := (fun k => (dcf1 a b P).1 k * ipw (lo_t (dcf1 a b P).2 42 0) P % P, fun k => (dcf1 a b P).2 k * ipw (lo_t (dcf1 a b P).2 42 0) P % P)
theorem dcf_b {a b : Nat → Nat} {P : Nat} (h0 : 0 < P) : (∀ k, (dcf a b P).1 k < P) ∧ ∀ k, (dcf a b P).2 k < P := ⟨fun _ => Nat.mod_lt _ h0, fun _ => Nat.mod_lt _ h0⟩
theorem lo_b {g : Nat → Nat} {P : Nat} (h0 : 0 < P) (h : ∀ k, g k < P) : ∀ n i, lo_t g n i < P
  | 0, _ => h0
  | n + 1, i => by
    unfold lo_t
    by_cases hz : g i = 0
    · rw [if_pos hz]; exact lo_b h0 h n (i + 1)
    · rw [if_neg hz]; exact h i
theorem vs_Pe {e f : Nat} (h : (e = 18 ∧ f = 20) ∨ (e = 20 ∧ f = 18)) : vs_P e ∧ vs_P f := by
  rcases h with ⟨rfl, rfl⟩ | ⟨rfl, rfl⟩
  · exact ⟨vs_P18, vs_P20⟩
  · exact ⟨vs_P20, vs_P18⟩

theorem l_gcd {G : vv_G} {S : vs_S} {o : Nat} (hs : vs_Sh o) (ho : o = 7 ∨ o = 12) {S0 : vs_S} {P : Nat} (hP : S0.1 1 0 = nI P) (hP1 : 2 ≤ P) (hP2 : P ≤ 30011) {Pst : Option Value → vs_S → Prop} : ∀ (d i e f : Nat) (S : vs_S) (r0 r1 : Nat → Nat), i + d = 42 → ((e = 18 ∧ f = 20) ∨ (e = 20 ∧ f = 18)) → S.1 = S0.1 → pR S e r0 → pR S f r1 → jk S 26 → (∀ k, r0 k < P) → (∀ k, r1 k < P) → (∀ (S2 : vs_S) (e2 f2 : Nat), ((e2 = 18 ∧ f2 = 20) ∨ (e2 = 20 ∧ f2 = 18)) → vs_fr S S2 [19, 21, 27] → pR S2 e2 (gk P d r0 r1) → jk S2 f2 → jk S2 26 → vs_V G cX1_dropCommonFactors (vs_MP yX1_dropCommonFactors 7 none { frames := 3, locals := 76 } G Pst) 73 [(3, .ref (G.2.2.2 + e2)), (0, .ref (G.2.2.2 + 17)), (1, .ref (G.2.2.2 + o)), (2, .ref (G.2.2.2 + 1))] [] S2) → vs_V G cX1_dropCommonFactors (vs_MP yX1_dropCommonFactors 7 none { frames := 3, locals := 76 } G Pst) 31 [(5, .int (nI i)), (3, .ref (G.2.2.2 + e)), (4, .ref (G.2.2.2 + f)), (0, .ref (G.2.2.2 + 17)), (1, .ref (G.2.2.2 + o)), (2, .ref (G.2.2.2 + 1))] [] S := by
  intro d
  induction d with
  | zero =>
    intro i e f S r0 r1 hi hpar hS0 h0 h1 hj b0 b1 K
    obtain rfl : i = 42 := by omega
    obtain ⟨he, hf⟩ := vs_Pe hpar
    refine vs_iload dX1_dropCommonFactors_31 rfl 0 rfl ?_
    refine vs_bipush (v := 42) dX1_dropCommonFactors_33 rfl rfl ?_
    refine vs_icmp_ge 73 dX1_dropCommonFactors_35 rfl rfl (fun c_35 => ?_) (fun c_35 => ?_)
    · refine vs_pick [1, 3, 4, 5] rfl ?_
      exact K S e f hpar vs_fr.rf h0 ⟨r1, h1⟩ hj
    · exact absurd (Int32.le_refl _) c_35
  | succ d ih =>
    intro i e f S r0 r1 hi hpar hS0 h0 h1 hj b0 b1 K
    obtain ⟨he, hf⟩ := vs_Pe hpar
    have hP : S.1 1 0 = nI P := by rw [hS0]; exact hP
    have htl := tp_le r1 42
    obtain ⟨gq, hgq⟩ := hj
    obtain ⟨bq, bt⟩ := dvd_b (gd := r1) (P := P) (by omega) b0
    obtain ⟨zq, zt⟩ := dvd_z (gd := r1) (P := P) h0.2
    refine vs_iload dX1_dropCommonFactors_31 rfl 0 rfl ?_
    refine vs_bipush (v := 42) dX1_dropCommonFactors_33 rfl rfl ?_
    refine vs_icmp_ge 73 dX1_dropCommonFactors_35 rfl rfl (fun c_35 => ?_) (fun c_35 => ?_)
    · exact absurd c_35 (nI_ge (show i < 42 by omega) (by decide))
    · refine vs_aload dX1_dropCommonFactors_38 rfl 2 rfl ?_
      refine vs_callV (st := []) (c_top hf h1 (fun k => by have := b1 k; omega)) lk_X1_34 lm_X3_top rfl hf.1 rfl rfl (Nat.le_of_ble_eq_true rfl) rfl ⟨rfl, rfl⟩ dX1_dropCommonFactors_40 rfl ?_
      show vs_V _ _ _ _ _ (.int (nZ ((tp r1 42 : Int) - 1)) :: _) _
      refine vs_if_lt 73 dX1_dropCommonFactors_43 rfl rfl (fun c_43 => ?_) (fun c_43 => ?_)
      · have hz : tp r1 42 = 0 := by
          rw [show (0 : Int32) = nZ 0 from rfl, nZ_lt (by omega) (by omega) (by omega) (by omega)] at c_43
          omega
        have hg1 : gk P (d + 1) r0 r1 = r0 := if_pos hz
        refine vs_pick [1, 3, 4, 5] rfl ?_
        exact K S e f hpar vs_fr.rf (by rw [hg1]; exact h0) ⟨r1, h1⟩ ⟨gq, hgq⟩
      · have hz : ¬ tp r1 42 = 0 := by
          rw [show (0 : Int32) = nZ 0 from rfl, nZ_lt (by omega) (by omega) (by omega) (by omega)] at c_43
          omega
        have hg1 : gk P (d + 1) r0 r1 = gk P d r1 (dvd_ r0 r1 P).2 := if_neg hz
        refine vs_aload_n 3 dX1_dropCommonFactors_46 rfl rfl 1 rfl ?_
        refine vs_aload dX1_dropCommonFactors_47 rfl 2 rfl ?_
        refine vs_aload_n 0 dX1_dropCommonFactors_49 rfl rfl 3 rfl ?_
        refine vs_get (v := .ref (G.2.2.2 + 26)) lf_X1_27 rfl rfl dX1_dropCommonFactors_50 rfl ?_
        refine vs_aload_n 2 dX1_dropCommonFactors_53 rfl rfl 5 rfl ?_
        refine vs_callV (st := []) (c_divide he h0 hf h1 (by omega) vs_P26 (by omega) (by omega) hP hP1 hP2 b0 b1 hgq) lk_X1_38 lm_X3_divide rfl he.1 rfl rfl (Nat.le_of_ble_eq_true rfl) rfl ⟨rfl, rfl⟩ dX1_dropCommonFactors_54 rfl ?_
        refine vs_aload_n 3 dX1_dropCommonFactors_57 rfl rfl 1 rfl ?_
        refine vs_astore [(6, .ref (G.2.2.2 + e)), (5, .int (nI i)), (3, .ref (G.2.2.2 + e)), (4, .ref (G.2.2.2 + f)), (0, .ref (G.2.2.2 + 17)), (1, .ref (G.2.2.2 + o)), (2, .ref (G.2.2.2 + 1))] dX1_dropCommonFactors_58 rfl rfl rfl ?_
        refine vs_aload dX1_dropCommonFactors_60 rfl 3 rfl ?_
        refine vs_astore_n 3 [(3, .ref (G.2.2.2 + f)), (6, .ref (G.2.2.2 + e)), (5, .int (nI i)), (4, .ref (G.2.2.2 + f)), (0, .ref (G.2.2.2 + 17)), (1, .ref (G.2.2.2 + o)), (2, .ref (G.2.2.2 + 1))] dX1_dropCommonFactors_62 rfl rfl rfl rfl ?_
        refine vs_aload dX1_dropCommonFactors_63 rfl 1 rfl ?_
        refine vs_astore [(4, .ref (G.2.2.2 + e)), (3, .ref (G.2.2.2 + f)), (6, .ref (G.2.2.2 + e)), (5, .int (nI i)), (0, .ref (G.2.2.2 + 17)), (1, .ref (G.2.2.2 + o)), (2, .ref (G.2.2.2 + 1))] dX1_dropCommonFactors_65 rfl rfl rfl ?_
        refine vs_iinc (v := nI (i + 1)) [(5, .int (nI (i + 1))), (4, .ref (G.2.2.2 + e)), (3, .ref (G.2.2.2 + f)), (6, .ref (G.2.2.2 + e)), (0, .ref (G.2.2.2 + 17)), (1, .ref (G.2.2.2 + o)), (2, .ref (G.2.2.2 + 1))] dX1_dropCommonFactors_67 rfl 3 rfl (by first | exact nI_1 _ | (simp only [fa_lit, nI_add, pk_mul, nI_1]; rfl)) rfl rfl ?_
        refine vs_goto 31 dX1_dropCommonFactors_70 rfl ?_
        refine vs_pick [0, 2, 1, 4, 5, 6] rfl ?_
        refine ih (i + 1) f e _ r1 (dvd_ r0 r1 P).2 (by omega) (by omega) hS0 ⟨by repeat (first | exact vs_ia_at | exact h1.1 | rw [vs_ia_ne (by omega)]), h1.2⟩ ⟨by repeat (first | exact vs_ia_at | rw [vs_ia_ne (by omega)]), zt⟩ ⟨(dvd_ r0 r1 P).1, ⟨by repeat (first | exact vs_ia_at | rw [vs_ia_ne (by omega)]), zq⟩⟩ b1 bt (fun S2 e2 f2 hp2 hfr hk hj1 hj2 => ?_)
        refine K S2 e2 f2 hp2 (vs_fr.tr (vs_fr.ia (vs_fr.ia vs_fr.rf (by simp)) (by rcases hpar with ⟨rfl, rfl⟩ | ⟨rfl, rfl⟩ <;> simp)) hfr (fun x hx => hx)) (by rw [hg1]; exact hk) hj1 hj2

theorem c_dropCommon {G : vv_G} {S : vs_S} {o : Nat} (hs : vs_Sh o) (ho : o = 7 ∨ o = 12) {a b : Nat → Nat} (ha : pR S (o + 1) a) (hb : pR S (o + 3) b) {P : Nat} (hP : S.1 1 0 = nI P) (hP1 : 2 ≤ P) (hP2 : P ≤ 30011) (hab : ∀ k, a k < P) (hbb : ∀ k, b k < P) (hj0 : jk S 18) (hj1 : jk S 20) (hj2 : jk S 26) : vs_CP G yX1_dropCommonFactors cX1_dropCommonFactors 7 none { frames := 3, locals := 76 } [.ref (G.2.2.2 + 17), .ref (G.2.2.2 + o), .ref (G.2.2.2 + 1)] S (fun r S2 => r = none ∧ vs_fr S S2 [19, 21, 27, o + 1 + 1, o + 3 + 1] ∧ pR S2 (o + 1) (dcf a b P).1 ∧ pR S2 (o + 3) (dcf a b P).2 ∧ jk S2 18 ∧ jk S2 20 ∧ jk S2 26) := by
  refine vs_ofP [(0, .ref (G.2.2.2 + 17)), (1, .ref (G.2.2.2 + o)), (2, .ref (G.2.2.2 + 1))] (by decide) rfl rfl ?_
  obtain ⟨j0, hj0⟩ := hj0
  obtain ⟨j1, hj1⟩ := hj1
  refine vs_aload_n 0 dX1_dropCommonFactors_0 rfl rfl 0 rfl ?_
  refine vs_get (v := .ref (G.2.2.2 + 18)) lf_X1_12 rfl rfl dX1_dropCommonFactors_1 rfl ?_
  refine vs_astore_n 3 [(3, .ref (G.2.2.2 + 18)), (0, .ref (G.2.2.2 + 17)), (1, .ref (G.2.2.2 + o)), (2, .ref (G.2.2.2 + 1))] dX1_dropCommonFactors_4 rfl rfl rfl rfl ?_
  refine vs_aload_n 0 dX1_dropCommonFactors_5 rfl rfl 1 rfl ?_
  refine vs_get (v := .ref (G.2.2.2 + 20)) lf_X1_18 rfl rfl dX1_dropCommonFactors_6 rfl ?_
  refine vs_astore [(4, .ref (G.2.2.2 + 20)), (3, .ref (G.2.2.2 + 18)), (0, .ref (G.2.2.2 + 17)), (1, .ref (G.2.2.2 + o)), (2, .ref (G.2.2.2 + 1))] dX1_dropCommonFactors_9 rfl rfl rfl ?_
  refine vs_aload_n 3 dX1_dropCommonFactors_11 rfl rfl 1 rfl ?_
  refine vs_aload_n 1 dX1_dropCommonFactors_12 rfl rfl 3 rfl ?_
  refine vs_get (v := .ref (G.2.2.2 + (o + 3))) lf_X1_54 hs.1 rfl dX1_dropCommonFactors_13 rfl ?_
  refine vs_callV (st := []) (c_become vs_P18 hj0 hs.2.2 hb) lk_X1_50 lm_X3_become rfl rfl rfl rfl (Nat.le_of_ble_eq_true rfl) rfl ⟨rfl, rfl⟩ dX1_dropCommonFactors_16 rfl ?_
  refine vs_aload dX1_dropCommonFactors_19 rfl 0 rfl ?_
  refine vs_aload_n 1 dX1_dropCommonFactors_21 rfl rfl 3 rfl ?_
  refine vs_get (v := .ref (G.2.2.2 + (o + 1))) lf_X1_45 hs.1 rfl dX1_dropCommonFactors_22 rfl ?_
  refine vs_callV (st := []) (c_become vs_P20 ((⟨by repeat (first | exact vs_ia_at | exact hj1.1 | rw [vs_ia_ne (by omega)]), hj1.2⟩) : pR _ 20 j1) hs.2.1 ((⟨by repeat (first | exact vs_ia_at | exact ha.1 | rw [vs_ia_ne (by omega)]), ha.2⟩) : pR _ (o + 1) a)) lk_X1_50 lm_X3_become rfl rfl rfl rfl (Nat.le_of_ble_eq_true rfl) rfl ⟨rfl, rfl⟩ dX1_dropCommonFactors_25 rfl ?_
  refine vs_iconst (v := 0) dX1_dropCommonFactors_28 rfl rfl ?_
  refine vs_istore [(5, .int (0)), (4, .ref (G.2.2.2 + 20)), (3, .ref (G.2.2.2 + 18)), (0, .ref (G.2.2.2 + 17)), (1, .ref (G.2.2.2 + o)), (2, .ref (G.2.2.2 + 1))] dX1_dropCommonFactors_29 rfl rfl rfl ?_
  refine vs_pick (L2 := [(5, .int (nI 0)), (3, .ref (G.2.2.2 + 18)), (4, .ref (G.2.2.2 + 20)), (0, .ref (G.2.2.2 + 17)), (1, .ref (G.2.2.2 + o)), (2, .ref (G.2.2.2 + 1))]) [0, 2, 1, 3, 4, 5] rfl ?_
  refine l_gcd (S := S) (S0 := S) hs ho hP hP1 hP2 42 0 18 20 _ b a (by omega) (by omega) rfl ⟨by repeat (first | exact vs_ia_at | rw [vs_ia_ne (by omega)]), hb.2⟩ ⟨by repeat (first | exact vs_ia_at | rw [vs_ia_ne (by omega)]), ha.2⟩ (by obtain ⟨g, hg⟩ := hj2; exact ⟨g, ⟨by repeat (first | exact vs_ia_at | exact hg.1 | rw [vs_ia_ne (by omega)]), hg.2⟩⟩) hbb hab (fun S2 e f hpar hfr hk hjf hj26 => ?_)
  have hfr0 : vs_fr S S2 [19, 21, 27] := vs_fr.tr (vs_fr.ia (vs_fr.ia vs_fr.rf (by simp)) (by simp)) hfr (fun x hx => hx)
  obtain ⟨he, hf⟩ := vs_Pe hpar
  have ha2 : pR S2 (o + 1) a := hfr0.p (by simp; omega) ha
  have hb2 : pR S2 (o + 3) b := hfr0.p (by simp; omega) hb
  have hP : S2.1 1 0 = nI P := by rw [hfr0.1]; exact hP
  obtain ⟨gq, hgq⟩ := hj26
  obtain ⟨gf, hgf⟩ := hjf
  have hgb := gk_b (P := P) (by omega) 42 b a hbb hab
  generalize hG : gk P 42 b a = gg at *
  obtain ⟨bqa, bta⟩ := dvd_b (gd := gg) (P := P) (by omega) hab
  obtain ⟨zqa, zta⟩ := dvd_z (gd := gg) (P := P) ha.2
  obtain ⟨bqb, btb⟩ := dvd_b (gd := gg) (P := P) (by omega) hbb
  obtain ⟨zqb, ztb⟩ := dvd_z (gd := gg) (P := P) hb.2
  have hd1 : dcf1 a b P = ((dvd_ a gg P).1, (dvd_ b gg P).1) := by unfold dcf1; rw [hG]
  have hlo := lo_b (P := P) (by omega) bqb 42 0
  have hil := ipw_lt (a := lo_t (dvd_ b gg P).1 42 0) hP1
  refine vs_aload_n 1 dX1_dropCommonFactors_73 rfl rfl 2 rfl ?_
  refine vs_get (v := .ref (G.2.2.2 + (o + 1))) lf_X1_45 hs.1 rfl dX1_dropCommonFactors_74 rfl ?_
  refine vs_aload_n 3 dX1_dropCommonFactors_77 rfl rfl 0 rfl ?_
  refine vs_aload_n 0 dX1_dropCommonFactors_78 rfl rfl 1 rfl ?_
  refine vs_get (v := .ref (G.2.2.2 + 26)) lf_X1_27 rfl rfl dX1_dropCommonFactors_79 rfl ?_
  refine vs_aload_n 2 dX1_dropCommonFactors_82 rfl rfl 3 rfl ?_
  refine vs_callV (st := []) (c_divide hs.2.1 ha2 he hk (by omega) vs_P26 (by omega) (by omega) hP hP1 hP2 hab hgb hgq) lk_X1_38 lm_X3_divide rfl hs.2.1.1 rfl rfl (Nat.le_of_ble_eq_true rfl) rfl ⟨rfl, rfl⟩ dX1_dropCommonFactors_83 rfl ?_
  refine vs_aload_n 1 dX1_dropCommonFactors_86 rfl rfl 2 rfl ?_
  refine vs_get (v := .ref (G.2.2.2 + (o + 1))) lf_X1_45 hs.1 rfl dX1_dropCommonFactors_87 rfl ?_
  refine vs_aload_n 0 dX1_dropCommonFactors_90 rfl rfl 1 rfl ?_
  refine vs_get (v := .ref (G.2.2.2 + 26)) lf_X1_27 rfl rfl dX1_dropCommonFactors_91 rfl ?_
  refine vs_callV (st := []) (c_become hs.2.1 ((⟨by repeat (first | exact vs_ia_at | rw [vs_ia_ne (by omega)]), zta⟩) : pR _ (o + 1) (dvd_ a gg P).2) vs_P26 ((⟨by repeat (first | exact vs_ia_at | rw [vs_ia_ne (by omega)]), zqa⟩) : pR _ 26 (dvd_ a gg P).1)) lk_X1_50 lm_X3_become rfl hs.2.1.1 rfl rfl (Nat.le_of_ble_eq_true rfl) rfl ⟨rfl, rfl⟩ dX1_dropCommonFactors_94 rfl ?_
  refine vs_aload_n 1 dX1_dropCommonFactors_97 rfl rfl 2 rfl ?_
  refine vs_get (v := .ref (G.2.2.2 + (o + 3))) lf_X1_54 hs.1 rfl dX1_dropCommonFactors_98 rfl ?_
  refine vs_aload_n 3 dX1_dropCommonFactors_101 rfl rfl 0 rfl ?_
  refine vs_aload_n 0 dX1_dropCommonFactors_102 rfl rfl 1 rfl ?_
  refine vs_get (v := .ref (G.2.2.2 + 26)) lf_X1_27 rfl rfl dX1_dropCommonFactors_103 rfl ?_
  refine vs_aload_n 2 dX1_dropCommonFactors_106 rfl rfl 3 rfl ?_
  refine vs_callV (st := []) (c_divide hs.2.2 ((⟨by repeat (first | exact vs_ia_at | exact hb2.1 | rw [vs_ia_ne (by omega)]), hb2.2⟩) : pR _ (o + 3) b) he ((⟨by repeat (first | exact vs_ia_at | exact hk.1 | rw [vs_ia_ne (by omega)]), hk.2⟩) : pR _ e gg) (by omega) vs_P26 (by omega) (by omega) hP hP1 hP2 hbb hgb ((⟨by repeat (first | exact vs_ia_at | rw [vs_ia_ne (by omega)]), zqa⟩) : pR _ 26 (dvd_ a gg P).1)) lk_X1_38 lm_X3_divide rfl hs.2.2.1 rfl rfl (Nat.le_of_ble_eq_true rfl) rfl ⟨rfl, rfl⟩ dX1_dropCommonFactors_107 rfl ?_
  refine vs_aload_n 1 dX1_dropCommonFactors_110 rfl rfl 2 rfl ?_
  refine vs_get (v := .ref (G.2.2.2 + (o + 3))) lf_X1_54 hs.1 rfl dX1_dropCommonFactors_111 rfl ?_
  refine vs_aload_n 0 dX1_dropCommonFactors_114 rfl rfl 1 rfl ?_
  refine vs_get (v := .ref (G.2.2.2 + 26)) lf_X1_27 rfl rfl dX1_dropCommonFactors_115 rfl ?_
  refine vs_callV (st := []) (c_become hs.2.2 ((⟨by repeat (first | exact vs_ia_at | rw [vs_ia_ne (by omega)]), ztb⟩) : pR _ (o + 3) (dvd_ b gg P).2) vs_P26 ((⟨by repeat (first | exact vs_ia_at | rw [vs_ia_ne (by omega)]), zqb⟩) : pR _ 26 (dvd_ b gg P).1)) lk_X1_50 lm_X3_become rfl hs.2.2.1 rfl rfl (Nat.le_of_ble_eq_true rfl) rfl ⟨rfl, rfl⟩ dX1_dropCommonFactors_118 rfl ?_
  refine vs_aload_n 2 dX1_dropCommonFactors_121 rfl rfl 3 rfl ?_
  refine vs_aload_n 1 dX1_dropCommonFactors_122 rfl rfl 2 rfl ?_
  refine vs_get (v := .ref (G.2.2.2 + (o + 3))) lf_X1_54 hs.1 rfl dX1_dropCommonFactors_123 rfl ?_
  refine vs_callV (st := [.ref (G.2.2.2 + 1)]) (c_lowestTerm hs.2.2 ((⟨by repeat (first | exact vs_ia_at | rw [vs_ia_ne (by omega)]), zqb⟩) : pR _ (o + 3) (dvd_ b gg P).1) (fun k => by have := bqb k; omega)) lk_X1_61 lm_X3_lowestTerm rfl hs.2.2.1 rfl rfl (Nat.le_of_ble_eq_true rfl) rfl ⟨rfl, rfl⟩ dX1_dropCommonFactors_126 rfl ?_
  show vs_V _ _ _ _ _ (.int (nI (lo_t (dvd_ b gg P).1 42 0)) :: _) _
  refine vs_callV (st := []) (c_rinverse (a := lo_t (dvd_ b gg P).1 42 0) hP hP1 hP2 hlo) lk_X1_64 lm_X5_inverse rfl rfl rfl rfl (Nat.le_of_ble_eq_true rfl) rfl ⟨rfl, rfl⟩ dX1_dropCommonFactors_129 rfl ?_
  show vs_V _ _ _ _ _ (.int (nI (ipw (lo_t (dvd_ b gg P).1 42 0) P)) :: _) _
  refine vs_istore [(5, .int (nI (ipw (lo_t (dvd_ b gg P).1 42 0) P))), (3, .ref (G.2.2.2 + e)), (0, .ref (G.2.2.2 + 17)), (1, .ref (G.2.2.2 + o)), (2, .ref (G.2.2.2 + 1))] dX1_dropCommonFactors_132 rfl rfl rfl ?_
  refine vs_aload_n 1 dX1_dropCommonFactors_134 rfl rfl 3 rfl ?_
  refine vs_get (v := .ref (G.2.2.2 + (o + 1))) lf_X1_45 hs.1 rfl dX1_dropCommonFactors_135 rfl ?_
  refine vs_iload dX1_dropCommonFactors_138 rfl 0 rfl ?_
  refine vs_aload_n 2 dX1_dropCommonFactors_140 rfl rfl 4 rfl ?_
  refine vs_callV (st := []) (c_scale hs.2.1 ((⟨by repeat (first | exact vs_ia_at | rw [vs_ia_ne (by omega)]), zqa⟩) : pR _ (o + 1) (dvd_ a gg P).1) (x := ipw (lo_t (dvd_ b gg P).1 42 0) P) hP hP1 hP2 bqa hil) lk_X1_70 lm_X3_scale rfl hs.2.1.1 rfl rfl (Nat.le_of_ble_eq_true rfl) rfl ⟨rfl, rfl⟩ dX1_dropCommonFactors_141 rfl ?_
  refine vs_aload_n 1 dX1_dropCommonFactors_144 rfl rfl 3 rfl ?_
  refine vs_get (v := .ref (G.2.2.2 + (o + 3))) lf_X1_54 hs.1 rfl dX1_dropCommonFactors_145 rfl ?_
  refine vs_iload dX1_dropCommonFactors_148 rfl 0 rfl ?_
  refine vs_aload_n 2 dX1_dropCommonFactors_150 rfl rfl 4 rfl ?_
  refine vs_callV (st := []) (c_scale hs.2.2 ((⟨by repeat (first | exact vs_ia_at | rw [vs_ia_ne (by omega)]), zqb⟩) : pR _ (o + 3) (dvd_ b gg P).1) (x := ipw (lo_t (dvd_ b gg P).1 42 0) P) hP hP1 hP2 bqb hil) lk_X1_70 lm_X3_scale rfl hs.2.2.1 rfl rfl (Nat.le_of_ble_eq_true rfl) rfl ⟨rfl, rfl⟩ dX1_dropCommonFactors_151 rfl ?_
  refine vs_vretP dX1_dropCommonFactors_154 ⟨rfl, vs_fr.tr (l1 := [19, 21, 27, o + 1 + 1, o + 3 + 1]) (vs_fr.tr vs_fr.rf hfr0 (by simp)) (by repeat (first | exact vs_fr.rf | refine vs_fr.ia ?_ (by simp))) (fun x hx => hx), ⟨by rw [show (dcf a b P).1 = fun k => (dvd_ a gg P).1 k * ipw (lo_t (dvd_ b gg P).1 42 0) P % P from by unfold dcf; rw [hd1]]; repeat (first | exact vs_ia_at | rw [vs_ia_ne (by omega)]), fun k hk => by simp [dcf, hd1, zqa k hk]⟩ , ⟨by rw [show (dcf a b P).2 = fun k => (dvd_ b gg P).1 k * ipw (lo_t (dvd_ b gg P).1 42 0) P % P from by unfold dcf; rw [hd1]]; repeat (first | exact vs_ia_at | rw [vs_ia_ne (by omega)]), fun k hk => by simp [dcf, hd1, zqb k hk]⟩, ?_, ?_, ?_⟩
  · rcases hpar with ⟨rfl, rfl⟩ | ⟨rfl, rfl⟩
    · exact ⟨gg, ⟨by repeat (first | exact vs_ia_at | exact hk.1 | rw [vs_ia_ne (by omega)]), hk.2⟩⟩
    · exact ⟨gf, ⟨by repeat (first | exact vs_ia_at | exact hgf.1 | rw [vs_ia_ne (by omega)]), hgf.2⟩⟩
  · rcases hpar with ⟨rfl, rfl⟩ | ⟨rfl, rfl⟩
    · exact ⟨gf, ⟨by repeat (first | exact vs_ia_at | exact hgf.1 | rw [vs_ia_ne (by omega)]), hgf.2⟩⟩
    · exact ⟨gg, ⟨by repeat (first | exact vs_ia_at | exact hk.1 | rw [vs_ia_ne (by omega)]), hk.2⟩⟩
  · exact ⟨(dvd_ b gg P).1, ⟨by repeat (first | exact vs_ia_at | rw [vs_ia_ne (by omega)]), zqb⟩⟩

