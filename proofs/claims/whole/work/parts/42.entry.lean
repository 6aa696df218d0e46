theorem dsm_first (f : Nat → Int) : ∀ n, dsm f (n + 1) = f 0 + dsm (fun j => f (j + 1)) n
  | 0 => by show 0 + f 0 = f 0 + 0; omega
  | n + 1 => by
    have := dsm_first f n
    show dsm f (n + 1) + f (n + 1) = f 0 + (dsm (fun j => f (j + 1)) n + f (n + 1))
    omega
theorem cm_dsm : ∀ (n : Nat) (f g : qP), q_cm f g n = dsm (fun j => f j * g (n - j)) (n + 1)
  | 0, f, g => (Int.zero_add _).symm
  | n + 1, f, g => by
    rw [q_cm_s, dsm_first, cm_dsm n]
    congr 1
    have : ∀ m, m ≤ n + 1 → dsm (fun j => q_sh f j * g (n - j)) m = dsm (fun j => f (j + 1) * g (n + 1 - (j + 1))) m := fun m => by
      induction m with
      | zero => intro _; rfl
      | succ m ih =>
        intro hm
        show dsm _ m + f (m + 1) * g (n - m) = dsm _ m + f (m + 1) * g (n + 1 - (m + 1))
        rw [ih (by omega), show n + 1 - (m + 1) = n - m by omega]
    exact this (n + 1) (Nat.le_refl _)
theorem dsm_st {g : Nat → Int} {k : Nat} (h : ∀ j, k ≤ j → g j = 0) : ∀ d, dsm g (k + d) = dsm g k
  | 0 => rfl
  | d + 1 => by
    show dsm g (k + d) + g (k + d) = _
    rw [h _ (by omega), Int.add_zero, dsm_st h d]
theorem dsm_c {f g : Nat → Int} : ∀ n, (∀ j, j < n → f j = g j) → dsm f n = dsm g n
  | 0, _ => rfl
  | n + 1, h => by
    show dsm f n + f n = dsm g n + g n
    rw [dsm_c n (fun j hj => h j (by omega)), h n (by omega)]
theorem fsm_dsm {x c : Nat → Nat} {k : Nat} : ∀ n, ((fsm x c k n : Nat) : Int) = dsm (fun j => (x j : Int) * (pz c ((k : Int) - j) : Int)) n
  | 0 => rfl
  | n + 1 => by
    show ((fsm x c k n + x n * pz c ((k : Int) - n) : Nat) : Int) = dsm _ n + _
    rw [Int.natCast_add, Int.natCast_mul, fsm_dsm n]
/-- the model's numbers above and below, before common factors are dropped -/
def feQ (x : Nat → Nat) (m : Nat) : Nat → Nat := cut x (m + 1)
def feP (P : Nat) (x c : Nat → Nat) (l m : Nat) : Nat → Nat := cut (fun k => fsm x c k (mnN m k + 1) % P) (l + 1)
theorem fe_s {P l m : Nat} (hp : q_pr P) (hlm : l + m ≤ 40) {c x : Nat → Nat} (hx : ∀ k, x k < P) (hf : ∃ f, f < m + 1 ∧ x f = 1) (hker : ∀ i, i < m → (P : Int) ∣ dot (fun a b => pz c ((l : Int) + 1 + a - b)) x (m + 1) i) : q_pl P 90 (feP P x c l m) ∧ q_pl P 90 (feQ x m) ∧ q_nz P (q_n (feQ x m)) ∧ q_d P (q_n (feP P x c l m)) (l + 1) ∧ q_d P (q_n (feQ x m)) (m + 1) ∧ ∀ n, n < l + m + 1 → (P : Int) ∣ q_cm (q_n (feQ x m)) (q_n (cut c (l + m + 1))) n - q_n (feP P x c l m) n := by
  have hP := hp.1
  refine ⟨cut_pl (by omega) (fun k => Nat.mod_lt _ (by omega)) (by omega), cut_pl (by omega) hx (by omega), ?_, fun n hn => ?_, fun n hn => ?_, fun n hn => ?_⟩
  · obtain ⟨f, hf, h1⟩ := hf
    refine ⟨f, fun h => ?_⟩
    have : (P : Int) ∣ ((cut x (m + 1) f : Nat) : Int) := h
    unfold cut at this
    rw [if_pos hf, h1] at this
    exact q_1_not hp this
  · show (P : Int) ∣ ((cut _ (l + 1) n : Nat) : Int)
    unfold cut
    rw [if_neg (by omega)]; exact Int.dvd_zero _
  · show (P : Int) ∣ ((cut x (m + 1) n : Nat) : Int)
    unfold cut
    rw [if_neg (by omega)]; exact Int.dvd_zero _
  · -- both are the same sum
    have hS : q_cm (q_n (feQ x m)) (q_n (cut c (l + m + 1))) n = dsm (fun j => ((cut x (m + 1) j : Nat) : Int) * (pz c ((n : Int) - j) : Int)) (n + 1) := by
      rw [cm_dsm]
      refine dsm_c _ (fun j hj => ?_)
      show ((cut x (m + 1) j : Nat) : Int) * ((cut c (l + m + 1) (n - j) : Nat) : Int) = _
      rw [show ((n : Int) - j) = ((n - j : Nat) : Int) by omega, pz_n, show cut c (l + m + 1) (n - j) = c (n - j) from if_pos (by omega)]
    have hz : ∀ j, mnN m n + 1 ≤ j → ((cut x (m + 1) j : Nat) : Int) * (pz c ((n : Int) - j) : Int) = 0 := fun j hj => by
      by_cases e : m < j
      · rw [show cut x (m + 1) j = 0 from if_neg (by omega)]
        exact Int.zero_mul _
      · have : n < j := by
          unfold mnN at hj
          by_cases e2 : n < m
          · rw [if_pos e2] at hj; omega
          · rw [if_neg e2] at hj; omega
        rw [show pz c ((n : Int) - j) = 0 from if_pos (by omega)]
        exact Int.mul_zero _
    have hmn := mnN_le m n
    have h1 : dsm (fun j => ((cut x (m + 1) j : Nat) : Int) * (pz c ((n : Int) - j) : Int)) (n + 1) = dsm (fun j => ((cut x (m + 1) j : Nat) : Int) * (pz c ((n : Int) - j) : Int)) (mnN m n + 1) := by
      have := dsm_st hz (n - mnN m n)
      rwa [show mnN m n + 1 + (n - mnN m n) = n + 1 by omega] at this
    have h2 : dsm (fun j => ((cut x (m + 1) j : Nat) : Int) * (pz c ((n : Int) - j) : Int)) (m + 1) = dsm (fun j => ((cut x (m + 1) j : Nat) : Int) * (pz c ((n : Int) - j) : Int)) (mnN m n + 1) := by
      have := dsm_st hz (m - mnN m n)
      rwa [show mnN m n + 1 + (m - mnN m n) = m + 1 by omega] at this
    rw [hS, h1]
    by_cases hn2 : n < l + 1
    · have h3 : dsm (fun j => ((cut x (m + 1) j : Nat) : Int) * (pz c ((n : Int) - j) : Int)) (mnN m n + 1) = ((fsm x c n (mnN m n + 1) : Nat) : Int) := by
        rw [fsm_dsm]
        exact dsm_c _ (fun j hj => by rw [show cut x (m + 1) j = x j from if_pos (by omega)])
      rw [h3]
      show (P : Int) ∣ ((fsm x c n (mnN m n + 1) : Nat) : Int) - ((cut _ (l + 1) n : Nat) : Int)
      unfold cut
      rw [if_pos hn2]
      have := Int.dvd_neg.mpr (q_md (fsm x c n (mnN m n + 1)) P)
      rwa [Int.neg_sub] at this
    · have h4 := hker (n - (l + 1)) (by omega)
      have h5 : dot (fun a b => pz c ((l : Int) + 1 + a - b)) x (m + 1) (n - (l + 1)) = dsm (fun j => ((cut x (m + 1) j : Nat) : Int) * (pz c ((n : Int) - j) : Int)) (m + 1) := by
        unfold dot
        refine dsm_c _ (fun j hj => ?_)
        dsimp only
        rw [show cut x (m + 1) j = x j from if_pos hj, Int.mul_comm, show ((l : Int) + 1 + ((n - (l + 1) : Nat) : Int) - j) = (n : Int) - j by omega]
      rw [h5, h2] at h4
      show (P : Int) ∣ _ - ((cut _ (l + 1) n : Nat) : Int)
      unfold cut
      rw [if_neg hn2, show ((0 : Nat) : Int) = 0 from rfl, Int.sub_zero]
      exact h4
theorem eu_z {P most : Nat} : ∀ (d : Nat) (r0 r1 t0 t1 : Nat → Nat), (∀ k, 42 ≤ k → r0 k = 0) → (∀ k, 42 ≤ k → r1 k = 0) → (∀ k, 42 ≤ k → t0 k = 0) → (∀ k, 42 ≤ k → t1 k = 0) → (∀ k, 42 ≤ k → (eu P most d r0 r1 t0 t1).1 k = 0) ∧ ∀ k, 42 ≤ k → (eu P most d r0 r1 t0 t1).2 k = 0
  | 0, _, _, _, _, _, h2, _, h4 => ⟨h2, h4⟩
  | d + 1, r0, r1, t0, t1, h1, h2, h3, h4 => by
    unfold eu
    by_cases h : most + 1 < tp r1 42
    · rw [if_pos h]; exact eu_z d _ _ _ _ h2 (dvd_z h1).2 h4 (spk_z h3 _)
    · rw [if_neg h]; exact ⟨h2, h4⟩
theorem fsh_z {P l : Nat} {mo st : Nat → Nat} (h1 : ∀ k, 42 ≤ k → mo k = 0) (h2 : ∀ k, 42 ≤ k → st k = 0) : (∀ k, 42 ≤ k → (fsh P l mo st).1 k = 0) ∧ ∀ k, 42 ≤ k → (fsh P l mo st).2 k = 0 := by
  obtain ⟨e1, e2⟩ := eu_z (P := P) (most := l) 42 mo st (pcon 0) (pcon 1) h1 h2 (fun k hk => if_neg (by omega)) (fun k hk => if_neg (by omega))
  unfold fsh
  refine ⟨fun k hk => ?_, fun k hk => ?_⟩
  · show (dvd_ _ _ P).1 k * _ % P = 0
    rw [(dvd_z e1).1 k hk, Nat.zero_mul, Nat.zero_mod]
  · show (dvd_ _ _ P).1 k * _ % P = 0
    rw [(dvd_z e2).1 k hk, Nat.zero_mul, Nat.zero_mod]
theorem ent_z {P l m : Nat} {c : Nat → Nat} (h : l + m ≤ 40) : (∀ k, 42 ≤ k → (ent P c l m).1 k = 0) ∧ ∀ k, 42 ≤ k → (ent P c l m).2 k = 0 := fsh_z (fun k hk => by rw [nu_n (by omega)]; exact if_neg (by omega)) (fun k hk => if_neg (by omega))
theorem l_fe1 {G : vv_G} {S : vs_S} {f l m : Nat} (hf : f < 10) (hlm : l + m ≤ 40) {c : Nat → Nat} {S0 : vs_S} (c0 : ∀ k, k ≤ l + m → S0.2.1 125 (41 * f + k) = nI (c k)) {Pst : Option Value → vs_S → Prop} {i : Nat} (hi : i < m) (K : ∀ S2 : vs_S, vs_fx S0 S2 [129] [] [] → tF S2 i (m + 1) (m + 1) (fun a b => pz c ((l : Int) + 1 + a - b)) → vs_V G cX10_findEntry (vs_MP yX10_findEntry 8 none { frames := 4, locals := 97 } G Pst) 64 [(4, .int (nI i)), (0, .ref (G.2.2.2 + 118)), (1, .int (nI f)), (2, .int (nI l)), (3, .int (nI m))] [] S2) : ∀ (d j : Nat) (S : vs_S), j + d = m + 1 → vs_fx S0 S [129] [] [] → tF S i j (m + 1) (fun a b => pz c ((l : Int) + 1 + a - b)) → vs_V G cX10_findEntry (vs_MP yX10_findEntry 8 none { frames := 4, locals := 97 } G Pst) 12 [(5, .int (nI j)), (4, .int (nI i)), (0, .ref (G.2.2.2 + 118)), (1, .int (nI f)), (2, .int (nI l)), (3, .int (nI m))] [] S := by
  intro d
  induction d with
  | zero =>
    intro j S hj F B
    obtain rfl : m + 1 = j := by omega
    refine vs_iload dX10_findEntry_12 rfl 0 rfl ?_
    refine vs_iload_n 3 dX10_findEntry_14 rfl rfl 5 rfl ?_
    refine vs_icmp_gt 64 dX10_findEntry_15 rfl rfl (fun c_15 => ?_) (fun c_15 => ?_)
    · have q_15 : (((m + 1) : Nat) : Int) > ((m : Nat) : Int) := (qi_gt (nI_Z _) (nI_Z _) (by omega) (by omega) (by omega) (by omega)).mp c_15
      refine vs_pick [1, 2, 3, 4, 5] rfl ?_
      exact K S F B
    · have q_15 : ¬ (((m + 1) : Nat) : Int) > ((m : Nat) : Int) := fun hh => c_15 ((qi_gt (nI_Z _) (nI_Z _) (by omega) (by omega) (by omega) (by omega)).mpr hh)
      omega
  | succ d ih =>
    intro j S hj F B
    have cf : ∀ k, k ≤ l + m → S.2.1 125 (41 * f + k) = nI (c k) := by rw [F.1 125 (by simp)]; exact c0
    refine vs_iload dX10_findEntry_12 rfl 0 rfl ?_
    refine vs_iload_n 3 dX10_findEntry_14 rfl rfl 5 rfl ?_
    refine vs_icmp_gt 64 dX10_findEntry_15 rfl rfl (fun c_15 => ?_) (fun c_15 => ?_)
    · have q_15 : ((j : Nat) : Int) > ((m : Nat) : Int) := (qi_gt (nI_Z _) (nI_Z _) (by omega) (by omega) (by omega) (by omega)).mp c_15
      omega
    · have q_15 : ¬ ((j : Nat) : Int) > ((m : Nat) : Int) := fun hh => c_15 ((qi_gt (nI_Z _) (nI_Z _) (by omega) (by omega) (by omega) (by omega)).mpr hh)
      refine vs_iload_n 2 dX10_findEntry_18 rfl rfl 4 rfl ?_
      refine vs_iconst (v := 1) dX10_findEntry_19 rfl rfl ?_
      refine vs_iadd dX10_findEntry_20 rfl ?_
      refine vs_iload dX10_findEntry_21 rfl 1 rfl ?_
      refine vs_iadd dX10_findEntry_23 rfl ?_
      refine vs_iload dX10_findEntry_24 rfl 0 rfl ?_
      refine vs_isub dX10_findEntry_26 rfl ?_
      refine vs_topi (fun z1 e_z1 => ?_)
      have f_z1 : z1 = nZ ((l : Int) + 1 + i - j) := (by rw [e_z1, show (1 : Int32) = nZ 1 from rfl]; simp only [nI_Z, nZ_add, nZ_sub])
      subst f_z1
      clear e_z1
      refine vs_topi (fun v6 e_v6 => ?_)
      have e2_v6 : v6 = nZ ((l : Int) + 1 + i - j) := e_v6
      clear e_v6
      subst e2_v6
      refine vs_istore [(6, .int (nZ ((l : Int) + 1 + i - j))), (5, .int (nI j)), (4, .int (nI i)), (0, .ref (G.2.2.2 + 118)), (1, .int (nI f)), (2, .int (nI l)), (3, .int (nI m))] dX10_findEntry_27 rfl rfl rfl ?_
      refine vs_aload_n 0 dX10_findEntry_29 rfl rfl 3 rfl ?_
      refine vs_get (v := .ref (G.2.2.2 + 129)) lf_X10_41 rfl rfl dX10_findEntry_30 rfl ?_
      refine vs_bipush (v := 44) dX10_findEntry_33 rfl rfl ?_
      refine vs_iload dX10_findEntry_35 rfl 2 rfl ?_
      refine vs_imul dX10_findEntry_37 rfl ?_
      refine vs_iload dX10_findEntry_38 rfl 1 rfl ?_
      refine vs_iadd dX10_findEntry_40 rfl ?_
      refine vs_iload dX10_findEntry_41 rfl 0 rfl ?_
      refine vs_if_ge 50 dX10_findEntry_43 rfl rfl (fun c_43 => ?_) (fun c_43 => ?_)
      · have q_43 : (((l : Int) + 1 + i - j) : Int) ≥ ((0 : Nat) : Int) := (qi_ge rfl (by first | exact nI_Z _ | (simp only [fa_lit, nI_add, pk_mul, nI_1]; exact nI_Z _)) (by omega) (by omega) (by omega) (by omega)).mp c_43
        obtain ⟨k, hk⟩ : ∃ k : Nat, (l : Int) + 1 + i - j = k := ⟨((l : Int) + 1 + i - j).toNat, by omega⟩
        have e1 : pz c ((l : Int) + 1 + i - j) = c k := by rw [hk, pz_n]
        rw [hk, nZ_n]
        refine vs_aload_n 0 dX10_findEntry_50 rfl rfl 3 rfl ?_
        refine vs_iload_n 1 dX10_findEntry_51 rfl rfl 4 rfl ?_
        refine vs_iload dX10_findEntry_52 rfl 0 rfl ?_
        refine vs_callV (st := [.int (((44 * nI i) + nI j)), .ref (G.2.2.2 + 129)]) (c_mof (f := f) (k := k) (v := c k) hf (by omega) (cf k (by omega))) lk_X10_161 lm_X10_of rfl rfl rfl rfl (Nat.le_of_ble_eq_true rfl) rfl ⟨rfl, rfl⟩ dX10_findEntry_54 rfl ?_
        show vs_V _ _ _ _ _ (.int (nI (c k)) :: _) _
        refine vs_iast (k := (44 * i + j)) rfl (by simp only [fa_lit, nI_add, pk_mul]) (by omega) rfl dX10_findEntry_57 rfl ?_
        refine vs_iinc (v := nI (j + 1)) [(5, .int (nI (j + 1))), (6, .int (nI k)), (4, .int (nI i)), (0, .ref (G.2.2.2 + 118)), (1, .int (nI f)), (2, .int (nI l)), (3, .int (nI m))] dX10_findEntry_58 rfl 1 rfl (by first | exact nI_1 _ | (simp only [fa_lit, nI_add, pk_mul, nI_1]; rfl)) rfl rfl ?_
        refine vs_goto 12 dX10_findEntry_61 rfl ?_
        refine vs_pick [0, 2, 3, 4, 5, 6] rfl ?_
        have B2 := tF.put B (show j < m + 1 by omega) (by omega)
        rw [e1] at B2
        exact ih (j + 1) _ (by omega) (vs_fx.ia F (by simp)) B2
      · have q_43 : ¬ (((l : Int) + 1 + i - j) : Int) ≥ ((0 : Nat) : Int) := fun hh => c_43 ((qi_ge rfl (by first | exact nI_Z _ | (simp only [fa_lit, nI_add, pk_mul, nI_1]; exact nI_Z _)) (by omega) (by omega) (by omega) (by omega)).mpr hh)
        have e1 : pz c ((l : Int) + 1 + i - j) = 0 := pz_neg (by omega)
        refine vs_iconst (v := 0) dX10_findEntry_46 rfl rfl ?_
        refine vs_goto 57 dX10_findEntry_47 rfl ?_
        refine vs_iast (k := (44 * i + j)) rfl (by simp only [fa_lit, nI_add, pk_mul]) (by omega) rfl dX10_findEntry_57 rfl ?_
        refine vs_iinc (v := nI (j + 1)) [(5, .int (nI (j + 1))), (6, .int (nZ ((l : Int) + 1 + i - j))), (4, .int (nI i)), (0, .ref (G.2.2.2 + 118)), (1, .int (nI f)), (2, .int (nI l)), (3, .int (nI m))] dX10_findEntry_58 rfl 1 rfl (by first | exact nI_1 _ | (simp only [fa_lit, nI_add, pk_mul, nI_1]; rfl)) rfl rfl ?_
        refine vs_goto 12 dX10_findEntry_61 rfl ?_
        refine vs_pick [0, 2, 3, 4, 5, 6] rfl ?_
        have B2 := tF.put B (show j < m + 1 by omega) (by omega)
        rw [e1] at B2
        exact ih (j + 1) _ (by omega) (vs_fx.ia F (by simp)) B2

theorem l_fe2 {G : vv_G} {S : vs_S} {f l m : Nat} (hf : f < 10) (hlm : l + m ≤ 40) {c : Nat → Nat} {S0 : vs_S} (c0 : ∀ k, k ≤ l + m → S0.2.1 125 (41 * f + k) = nI (c k)) {Pst : Option Value → vs_S → Prop} (K : ∀ S2 : vs_S, vs_fx S0 S2 [129] [] [] → tR S2 m (m + 1) (fun a b => pz c ((l : Int) + 1 + a - b)) → vs_V G cX10_findEntry (vs_MP yX10_findEntry 8 none { frames := 4, locals := 97 } G Pst) 70 [(0, .ref (G.2.2.2 + 118)), (1, .int (nI f)), (2, .int (nI l)), (3, .int (nI m))] [] S2) : ∀ (d i : Nat) (S : vs_S), i + d = m → vs_fx S0 S [129] [] [] → tF S i 0 (m + 1) (fun a b => pz c ((l : Int) + 1 + a - b)) → vs_V G cX10_findEntry (vs_MP yX10_findEntry 8 none { frames := 4, locals := 97 } G Pst) 3 [(4, .int (nI i)), (0, .ref (G.2.2.2 + 118)), (1, .int (nI f)), (2, .int (nI l)), (3, .int (nI m))] [] S := by
  intro d
  induction d with
  | zero =>
    intro i S hi F B
    obtain rfl : m = i := by omega
    refine vs_iload dX10_findEntry_3 rfl 0 rfl ?_
    refine vs_iload_n 3 dX10_findEntry_5 rfl rfl 4 rfl ?_
    refine vs_icmp_ge 70 dX10_findEntry_6 rfl rfl (fun c_6 => ?_) (fun c_6 => ?_)
    · have q_6 : ((m : Nat) : Int) ≥ ((m : Nat) : Int) := (qi_ge (nI_Z _) (nI_Z _) (by omega) (by omega) (by omega) (by omega)).mp c_6
      refine vs_pick [1, 2, 3, 4] rfl ?_
      exact K S F B.r
    · have q_6 : ¬ ((m : Nat) : Int) ≥ ((m : Nat) : Int) := fun hh => c_6 ((qi_ge (nI_Z _) (nI_Z _) (by omega) (by omega) (by omega) (by omega)).mpr hh)
      omega
  | succ d ih =>
    intro i S hi F B
    refine vs_iload dX10_findEntry_3 rfl 0 rfl ?_
    refine vs_iload_n 3 dX10_findEntry_5 rfl rfl 4 rfl ?_
    refine vs_icmp_ge 70 dX10_findEntry_6 rfl rfl (fun c_6 => ?_) (fun c_6 => ?_)
    · have q_6 : ((i : Nat) : Int) ≥ ((m : Nat) : Int) := (qi_ge (nI_Z _) (nI_Z _) (by omega) (by omega) (by omega) (by omega)).mp c_6
      omega
    · have q_6 : ¬ ((i : Nat) : Int) ≥ ((m : Nat) : Int) := fun hh => c_6 ((qi_ge (nI_Z _) (nI_Z _) (by omega) (by omega) (by omega) (by omega)).mpr hh)
      refine vs_iconst (v := 0) dX10_findEntry_9 rfl rfl ?_
      refine vs_istore [(5, .int (0)), (4, .int (nI i)), (0, .ref (G.2.2.2 + 118)), (1, .int (nI f)), (2, .int (nI l)), (3, .int (nI m))] dX10_findEntry_10 rfl rfl rfl ?_
      refine vs_pick (L2 := [(5, .int (nI 0)), (4, .int (nI i)), (0, .ref (G.2.2.2 + 118)), (1, .int (nI f)), (2, .int (nI l)), (3, .int (nI m))]) [0, 1, 2, 3, 4, 5] rfl ?_
      refine l_fe1 (S := S) hf hlm c0 (show i < m by omega) (fun S2 F2 B2 => ?_) (m + 1) 0 S (by omega) F B
      refine vs_iinc (v := nI (i + 1)) [(4, .int (nI (i + 1))), (0, .ref (G.2.2.2 + 118)), (1, .int (nI f)), (2, .int (nI l)), (3, .int (nI m))] dX10_findEntry_64 rfl 0 rfl (by first | exact nI_1 _ | (simp only [fa_lit, nI_add, pk_mul, nI_1]; rfl)) rfl rfl ?_
      refine vs_goto 3 dX10_findEntry_67 rfl ?_
      refine vs_pick [0, 1, 2, 3, 4] rfl ?_
      exact ih (i + 1) S2 (by omega) F2 B2.row

theorem l_fe3 {G : vv_G} {S : vs_S} {f l m : Nat} {x : Nat → Nat} (hm : m ≤ 40) {S0 : vs_S} (hx0 : aR S0 131 (m + 1) x) {Pst : Option Value → vs_S → Prop} (K : ∀ S2 : vs_S, vs_fx S0 S2 [128] [] [] → aR S2 128 90 (cut x (m + 1)) → vs_V G cX10_findEntry (vs_MP yX10_findEntry 8 none { frames := 4, locals := 97 } G Pst) 108 [(0, .ref (G.2.2.2 + 118)), (1, .int (nI f)), (2, .int (nI l)), (3, .int (nI m))] [] S2) : ∀ (d i : Nat) (S : vs_S), i + d = m + 1 → vs_fx S0 S [128] [] [] → aR S 128 90 (cut x i) → vs_V G cX10_findEntry (vs_MP yX10_findEntry 8 none { frames := 4, locals := 97 } G Pst) 82 [(4, .int (nI i)), (0, .ref (G.2.2.2 + 118)), (1, .int (nI f)), (2, .int (nI l)), (3, .int (nI m))] [] S := by
  intro d
  induction d with
  | zero =>
    intro i S hi F A1
    obtain rfl : m + 1 = i := by omega
    have hx : aR S 131 (m + 1) x := aR.fx hx0 F (by simp <;> omega)
    refine vs_iload dX10_findEntry_82 rfl 0 rfl ?_
    refine vs_iload_n 3 dX10_findEntry_84 rfl rfl 4 rfl ?_
    refine vs_icmp_gt 108 dX10_findEntry_85 rfl rfl (fun c_85 => ?_) (fun c_85 => ?_)
    · have q_85 : (((m + 1) : Nat) : Int) > ((m : Nat) : Int) := (qi_gt (nI_Z _) (nI_Z _) (by omega) (by omega) (by omega) (by omega)).mp c_85
      refine vs_pick (L2 := [(0, .ref (G.2.2.2 + 118)), (1, .int (nI f)), (2, .int (nI l)), (3, .int (nI m))]) [1, 2, 3, 4] rfl ?_
      exact K S F A1
    · have q_85 : ¬ (((m + 1) : Nat) : Int) > ((m : Nat) : Int) := fun hh => c_85 ((qi_gt (nI_Z _) (nI_Z _) (by omega) (by omega) (by omega) (by omega)).mpr hh)
      omega
  | succ d ih =>
    intro i S hi F A1
    have hx : aR S 131 (m + 1) x := aR.fx hx0 F (by simp <;> omega)
    refine vs_iload dX10_findEntry_82 rfl 0 rfl ?_
    refine vs_iload_n 3 dX10_findEntry_84 rfl rfl 4 rfl ?_
    refine vs_icmp_gt 108 dX10_findEntry_85 rfl rfl (fun c_85 => ?_) (fun c_85 => ?_)
    · have q_85 : ((i : Nat) : Int) > ((m : Nat) : Int) := (qi_gt (nI_Z _) (nI_Z _) (by omega) (by omega) (by omega) (by omega)).mp c_85
      omega
    · have q_85 : ¬ ((i : Nat) : Int) > ((m : Nat) : Int) := fun hh => c_85 ((qi_gt (nI_Z _) (nI_Z _) (by omega) (by omega) (by omega) (by omega)).mpr hh)
      refine vs_aload_n 0 dX10_findEntry_88 rfl rfl 1 rfl ?_
      refine vs_get (v := .ref (G.2.2.2 + 128)) lf_X10_38 rfl rfl dX10_findEntry_89 rfl ?_
      refine vs_iload dX10_findEntry_92 rfl 0 rfl ?_
      refine vs_aload_n 0 dX10_findEntry_94 rfl rfl 1 rfl ?_
      refine vs_get (v := .ref (G.2.2.2 + 131)) lf_X10_47 rfl rfl dX10_findEntry_95 rfl ?_
      refine vs_iload dX10_findEntry_98 rfl 0 rfl ?_
      refine vs_iald (k := i) rfl rfl (by omega) rfl dX10_findEntry_100 rfl ?_
      refine vs_topi (fun z1 e_z1 => ?_)
      have f_z1 : z1 = nI (x i) := (by rw [e_z1]; exact hx i (by omega))
      subst f_z1
      clear e_z1
      refine vs_iast (k := i) rfl (by first | rfl | (simp only [fa_lit, nI_add, pk_mul, nI_1]; done) | omega) (by omega) rfl dX10_findEntry_101 rfl ?_
      refine vs_gen (fun T1 e_T1 => ?_)
      have hx : aR T1 131 (m + 1) x := by rw [e_T1]; repeat (first | exact hx | refine aR.ne ?_ (by omega))
      have F : vs_fx S0 T1 [128] [] [] := by rw [e_T1]; repeat (first | exact F | refine vs_fx.ia ?_ (by simp <;> omega) | refine vs_fx.sc ?_ (by simp <;> omega) | refine vs_fx.la ?_ (by simp <;> omega))
      have A1 : aR T1 128 90 (cut x (i + 1)) := (by rw [e_T1, ← cut_s]; exact aR.put A1)
      clear e_T1
      refine vs_iinc (v := nI (i + 1)) [(4, .int (nI (i + 1))), (0, .ref (G.2.2.2 + 118)), (1, .int (nI f)), (2, .int (nI l)), (3, .int (nI m))] dX10_findEntry_102 rfl 0 rfl (by first | exact nI_1 _ | (simp only [fa_lit, nI_add, pk_mul, nI_1]; rfl)) rfl rfl ?_
      refine vs_goto 82 dX10_findEntry_105 rfl ?_
      refine vs_pick [0, 1, 2, 3, 4] rfl ?_
      exact ih (i + 1) _ (by omega) F A1

theorem l_fe4 {G : vv_G} {S : vs_S} {f l m : Nat} (hf : f < 10) (hlm : l + m ≤ 40) {c x : Nat → Nat} {P : Nat} (gP1 : 2 ≤ P) (gP2 : P ≤ 30011) (bc : ∀ k, c k < P) (bx : ∀ k, x k < P) {i : Nat} (hi : i ≤ l) (cf : ∀ k, k ≤ l + m → S.2.1 125 (41 * f + k) = nI (c k)) (hq : aR S 128 90 (cut x (m + 1))) {Pst : Option Value → vs_S → Prop} (K : vs_V G cX10_findEntry (vs_MP yX10_findEntry 8 none { frames := 4, locals := 97 } G Pst) 167 [(5, .long (lN (fsm x c i (mnN m i + 1)))), (4, .int (nI i)), (0, .ref (G.2.2.2 + 118)), (1, .int (nI f)), (2, .int (nI l)), (3, .int (nI m))] [] S) : ∀ d j : Nat, j + d = mnN m i + 1 → vs_V G cX10_findEntry (vs_MP yX10_findEntry 8 none { frames := 4, locals := 97 } G Pst) 123 [(7, .int (nI j)), (5, .long (lN (fsm x c i j))), (4, .int (nI i)), (0, .ref (G.2.2.2 + 118)), (1, .int (nI f)), (2, .int (nI l)), (3, .int (nI m))] [] S := by
  obtain ⟨mn1, mn2⟩ := mnN_le m i
  have mn3 : mnN m i = m ∨ mnN m i = i := by unfold mnN; by_cases h : i < m; right; exact if_pos h; left; exact if_neg h
  intro d
  induction d with
  | zero =>
    intro j hj
    obtain rfl : j = mnN m i + 1 := by omega
    refine vs_iload dX10_findEntry_123 rfl 0 rfl ?_
    refine vs_iload_n 3 dX10_findEntry_125 rfl rfl 6 rfl ?_
    refine vs_icmp_gt 167 dX10_findEntry_126 rfl rfl (fun c_126 => ?_) (fun c_126 => ?_)
    · have q_126 : (((mnN m i + 1) : Nat) : Int) > ((m : Nat) : Int) := (qi_gt (nI_Z _) (nI_Z _) (by omega) (by omega) (by omega) (by omega)).mp c_126
      refine vs_pick [1, 2, 3, 4, 5, 6] rfl ?_
      exact K
    · have q_126 : ¬ (((mnN m i + 1) : Nat) : Int) > ((m : Nat) : Int) := fun hh => c_126 ((qi_gt (nI_Z _) (nI_Z _) (by omega) (by omega) (by omega) (by omega)).mpr hh)
      refine vs_iload dX10_findEntry_129 rfl 0 rfl ?_
      refine vs_iload dX10_findEntry_131 rfl 2 rfl ?_
      refine vs_icmp_gt 167 dX10_findEntry_133 rfl rfl (fun c_133 => ?_) (fun c_133 => ?_)
      · have q_133 : (((mnN m i + 1) : Nat) : Int) > ((i : Nat) : Int) := (qi_gt (nI_Z _) (nI_Z _) (by omega) (by omega) (by omega) (by omega)).mp c_133
        refine vs_pick [1, 2, 3, 4, 5, 6] rfl ?_
        exact K
      · have q_133 : ¬ (((mnN m i + 1) : Nat) : Int) > ((i : Nat) : Int) := fun hh => c_133 ((qi_gt (nI_Z _) (nI_Z _) (by omega) (by omega) (by omega) (by omega)).mpr hh)
        omega
  | succ d ih =>
    intro j hj
    have b1 := bx j
    have b2 := bc (i - j)
    have e1 : fsm x c i (j + 1) = fsm x c i j + x j * c (i - j) := by show _ + x j * pz c ((i : Int) - j) = _; rw [show ((i : Int) - j) = ((i - j : Nat) : Int) by omega, pz_n]
    have e0 : cut x (m + 1) j = x j := if_pos (by omega)
    refine vs_iload dX10_findEntry_123 rfl 0 rfl ?_
    refine vs_iload_n 3 dX10_findEntry_125 rfl rfl 6 rfl ?_
    refine vs_icmp_gt 167 dX10_findEntry_126 rfl rfl (fun c_126 => ?_) (fun c_126 => ?_)
    · have q_126 : ((j : Nat) : Int) > ((m : Nat) : Int) := (qi_gt (nI_Z _) (nI_Z _) (by omega) (by omega) (by omega) (by omega)).mp c_126
      omega
    · have q_126 : ¬ ((j : Nat) : Int) > ((m : Nat) : Int) := fun hh => c_126 ((qi_gt (nI_Z _) (nI_Z _) (by omega) (by omega) (by omega) (by omega)).mpr hh)
      refine vs_iload dX10_findEntry_129 rfl 0 rfl ?_
      refine vs_iload dX10_findEntry_131 rfl 2 rfl ?_
      refine vs_icmp_gt 167 dX10_findEntry_133 rfl rfl (fun c_133 => ?_) (fun c_133 => ?_)
      · have q_133 : ((j : Nat) : Int) > ((i : Nat) : Int) := (qi_gt (nI_Z _) (nI_Z _) (by omega) (by omega) (by omega) (by omega)).mp c_133
        omega
      · have q_133 : ¬ ((j : Nat) : Int) > ((i : Nat) : Int) := fun hh => c_133 ((qi_gt (nI_Z _) (nI_Z _) (by omega) (by omega) (by omega) (by omega)).mpr hh)
        refine vs_lload dX10_findEntry_136 rfl 1 rfl ?_
        refine vs_aload_n 0 dX10_findEntry_138 rfl rfl 3 rfl ?_
        refine vs_get (v := .ref (G.2.2.2 + 128)) lf_X10_38 rfl rfl dX10_findEntry_139 rfl ?_
        refine vs_iload dX10_findEntry_142 rfl 0 rfl ?_
        refine vs_iald (k := j) rfl rfl (by omega) rfl dX10_findEntry_144 rfl ?_
        refine vs_topi (fun z1 e_z1 => ?_)
        have f_z1 : z1 = nI (x j) := (by rw [e_z1, hq j (by omega), e0])
        subst f_z1
        clear e_z1
        refine vs_i2l dX10_findEntry_145 rfl ?_
        refine vs_aload_n 0 dX10_findEntry_146 rfl rfl 3 rfl ?_
        refine vs_iload_n 1 dX10_findEntry_147 rfl rfl 4 rfl ?_
        refine vs_iload dX10_findEntry_148 rfl 2 rfl ?_
        refine vs_iload dX10_findEntry_150 rfl 0 rfl ?_
        refine vs_isub dX10_findEntry_152 rfl ?_
        refine vs_topi (fun z2 e_z2 => ?_)
        have f_z2 : z2 = nI (i - j) := (by rw [e_z2]; exact pk_sub (by omega))
        subst f_z2
        clear e_z2
        refine vs_callV (st := [.long ((nI (x j)).toInt64), .long (lN (fsm x c i j))]) (c_mof (f := f) (k := i - j) (v := c (i - j)) hf (by omega) (cf _ (by omega))) lk_X10_161 lm_X10_of rfl rfl rfl rfl (Nat.le_of_ble_eq_true rfl) rfl ⟨rfl, rfl⟩ dX10_findEntry_153 rfl ?_
        show vs_V _ _ _ _ _ (.int (nI (c (i - j))) :: _) _
        refine vs_i2l dX10_findEntry_156 rfl ?_
        refine vs_lmul dX10_findEntry_157 rfl ?_
        refine vs_ladd dX10_findEntry_158 rfl ?_
        refine vs_topl (fun z3 e_z3 => ?_)
        have f_z3 : z3 = lN (fsm x c i (j + 1)) := (by rw [e_z3, nn_mul (by omega) (by omega), lN_add, e1])
        subst f_z3
        clear e_z3
        refine vs_topl (fun ww e_ww => ?_)
        have e2_ww : ww = lN (fsm x c i (j + 1)) := e_ww
        clear e_ww
        subst e2_ww
        refine vs_lstore [(5, .long (lN (fsm x c i (j + 1)))), (7, .int (nI j)), (4, .int (nI i)), (0, .ref (G.2.2.2 + 118)), (1, .int (nI f)), (2, .int (nI l)), (3, .int (nI m))] dX10_findEntry_159 rfl rfl rfl ?_
        refine vs_iinc (v := nI (j + 1)) [(7, .int (nI (j + 1))), (5, .long (lN (fsm x c i (j + 1)))), (4, .int (nI i)), (0, .ref (G.2.2.2 + 118)), (1, .int (nI f)), (2, .int (nI l)), (3, .int (nI m))] dX10_findEntry_161 rfl 1 rfl (by first | exact nI_1 _ | (simp only [fa_lit, nI_add, pk_mul, nI_1]; rfl)) rfl rfl ?_
        refine vs_goto 123 dX10_findEntry_164 rfl ?_
        refine vs_pick [0, 1, 2, 3, 4, 5, 6] rfl ?_
        exact ih (j + 1) (by omega)

theorem l_fe5 {G : vv_G} {S : vs_S} {f l m : Nat} (hf : f < 10) (hlm : l + m ≤ 40) {c x : Nat → Nat} {P : Nat} (gP1 : 2 ≤ P) (gP2 : P ≤ 30011) (bc : ∀ k, c k < P) (bx : ∀ k, x k < P) {S0 : vs_S} (mP0 : S0.1 118 2 = nI P) (c0 : ∀ k, k ≤ l + m → S0.2.1 125 (41 * f + k) = nI (c k)) (hq0 : aR S0 128 90 (cut x (m + 1))) {Pst : Option Value → vs_S → Prop} (K : ∀ S2 : vs_S, vs_fx S0 S2 [127] [] [] → aR S2 127 90 (cut (fun k => fsm x c k (mnN m k + 1) % P) (l + 1)) → vs_V G cX10_findEntry (vs_MP yX10_findEntry 8 none { frames := 4, locals := 97 } G Pst) 186 [(0, .ref (G.2.2.2 + 118))] [] S2) : ∀ (d i : Nat) (S : vs_S), i + d = l + 1 → vs_fx S0 S [127] [] [] → aR S 127 90 (cut (fun k => fsm x c k (mnN m k + 1) % P) i) → vs_V G cX10_findEntry (vs_MP yX10_findEntry 8 none { frames := 4, locals := 97 } G Pst) 111 [(4, .int (nI i)), (0, .ref (G.2.2.2 + 118)), (1, .int (nI f)), (2, .int (nI l)), (3, .int (nI m))] [] S := by
  intro d
  induction d with
  | zero =>
    intro i S hi F A1
    obtain rfl : l + 1 = i := by omega
    refine vs_iload dX10_findEntry_111 rfl 0 rfl ?_
    refine vs_iload_n 2 dX10_findEntry_113 rfl rfl 3 rfl ?_
    refine vs_icmp_gt 186 dX10_findEntry_114 rfl rfl (fun c_114 => ?_) (fun c_114 => ?_)
    · have q_114 : (((l + 1) : Nat) : Int) > ((l : Nat) : Int) := (qi_gt (nI_Z _) (nI_Z _) (by omega) (by omega) (by omega) (by omega)).mp c_114
      refine vs_pick [1] rfl ?_
      exact K S F A1
    · have q_114 : ¬ (((l + 1) : Nat) : Int) > ((l : Nat) : Int) := fun hh => c_114 ((qi_gt (nI_Z _) (nI_Z _) (by omega) (by omega) (by omega) (by omega)).mpr hh)
      omega
  | succ d ih =>
    intro i S hi F A1
    have mP : S.1 118 2 = nI P := (F.2.1 _ _ (by simp)).trans mP0
    have cf : ∀ k, k ≤ l + m → S.2.1 125 (41 * f + k) = nI (c k) := by rw [F.1 125 (by simp)]; exact c0
    have hq := aR.fx hq0 F (by simp)
    have mnb := mnN_le m i
    have h63 := fsm_63 (k := i) (n := mnN m i + 1) (show 0 < P by omega) gP2 bx bc (by omega)
    refine vs_iload dX10_findEntry_111 rfl 0 rfl ?_
    refine vs_iload_n 2 dX10_findEntry_113 rfl rfl 3 rfl ?_
    refine vs_icmp_gt 186 dX10_findEntry_114 rfl rfl (fun c_114 => ?_) (fun c_114 => ?_)
    · have q_114 : ((i : Nat) : Int) > ((l : Nat) : Int) := (qi_gt (nI_Z _) (nI_Z _) (by omega) (by omega) (by omega) (by omega)).mp c_114
      omega
    · have q_114 : ¬ ((i : Nat) : Int) > ((l : Nat) : Int) := fun hh => c_114 ((qi_gt (nI_Z _) (nI_Z _) (by omega) (by omega) (by omega) (by omega)).mpr hh)
      refine vs_lconst (v := 0) dX10_findEntry_117 rfl rfl ?_
      refine vs_lstore [(5, .long (0)), (4, .int (nI i)), (0, .ref (G.2.2.2 + 118)), (1, .int (nI f)), (2, .int (nI l)), (3, .int (nI m))] dX10_findEntry_118 rfl rfl rfl ?_
      refine vs_iconst (v := 0) dX10_findEntry_120 rfl rfl ?_
      refine vs_istore [(7, .int (0)), (5, .long (0)), (4, .int (nI i)), (0, .ref (G.2.2.2 + 118)), (1, .int (nI f)), (2, .int (nI l)), (3, .int (nI m))] dX10_findEntry_121 rfl rfl rfl ?_
      refine vs_pick (L2 := [(7, .int (nI 0)), (5, .long (lN 0)), (4, .int (nI i)), (0, .ref (G.2.2.2 + 118)), (1, .int (nI f)), (2, .int (nI l)), (3, .int (nI m))]) [0, 1, 2, 3, 4, 5, 6] rfl ?_
      refine l_fe4 (S := S) hf hlm gP1 gP2 bc bx (show i ≤ l by omega) cf hq ?_ (mnN m i + 1) 0 (by omega)
      refine vs_aload_n 0 dX10_findEntry_167 rfl rfl 2 rfl ?_
      refine vs_get (v := .ref (G.2.2.2 + 127)) lf_X10_35 rfl rfl dX10_findEntry_168 rfl ?_
      refine vs_iload dX10_findEntry_171 rfl 1 rfl ?_
      refine vs_aload_n 0 dX10_findEntry_173 rfl rfl 2 rfl ?_
      refine vs_lload dX10_findEntry_174 rfl 0 rfl ?_
      refine vs_callV (st := [.int (nI i), .ref (G.2.2.2 + 127)]) (c_restN (k := fsm x c i (mnN m i + 1)) (pk_lT (by omega)) mP gP1 gP2) lk_X10_135 lm_X10_rest rfl rfl rfl rfl (Nat.le_of_ble_eq_true rfl) rfl ⟨rfl, rfl⟩ dX10_findEntry_176 rfl ?_
      show vs_V _ _ _ _ _ (.int (nI ((fun k => fsm x c k (mnN m k + 1) % P) i)) :: _) _
      refine vs_iast (k := i) rfl rfl (by omega) rfl dX10_findEntry_179 rfl ?_
      refine vs_gen (fun T1 e_T1 => ?_)
      have F : vs_fx S0 T1 [127] [] [] := by rw [e_T1]; repeat (first | exact F | refine vs_fx.ia ?_ (by simp <;> omega) | refine vs_fx.sc ?_ (by simp <;> omega) | refine vs_fx.la ?_ (by simp <;> omega))
      have A1 : aR T1 127 90 (cut (fun k => fsm x c k (mnN m k + 1) % P) (i + 1)) := (by rw [e_T1, ← cut_s]; exact aR.put A1)
      clear e_T1
      refine vs_iinc (v := nI (i + 1)) [(4, .int (nI (i + 1))), (5, .long (lN (fsm x c i (mnN m i + 1)))), (0, .ref (G.2.2.2 + 118)), (1, .int (nI f)), (2, .int (nI l)), (3, .int (nI m))] dX10_findEntry_180 rfl 1 rfl (by first | exact nI_1 _ | (simp only [fa_lit, nI_add, pk_mul, nI_1]; rfl)) rfl rfl ?_
      refine vs_goto 111 dX10_findEntry_183 rfl ?_
      refine vs_pick [0, 2, 3, 4, 5] rfl ?_
      exact ih (i + 1) _ (by omega) F A1

theorem c_findEntryM {G : vv_G} {S : vs_S} {f l m : Nat} (hf : f < 10) (hlm : l + m ≤ 40) {c : Nat → Nat} {P : Nat} (hpr : q_pr P) (gP1 : 2 ≤ P) (gP2 : P ≤ 30011) (bc : ∀ k, c k < P) (mP : S.1 118 2 = nI P) (c0 : ∀ k, k ≤ l + m → S.2.1 125 (41 * f + k) = nI (c k)) : vs_CP G yX10_findEntry cX10_findEntry 8 none { frames := 4, locals := 97 } [.ref (G.2.2.2 + 118), .int (nI f), .int (nI l), .int (nI m)] S (fun r S2 => r = none ∧ vs_fx S S2 [127, 128, 129, 130, 131, 132, 133, 134, 135] [] [] ∧ aR S2 132 46 (ent P c l m).1 ∧ aR S2 133 46 (ent P c l m).2) := by
  refine vs_ofP [(0, .ref (G.2.2.2 + 118)), (1, .int (nI f)), (2, .int (nI l)), (3, .int (nI m))] (by decide) rfl rfl ?_
  refine vs_iconst (v := 0) dX10_findEntry_0 rfl rfl ?_
  refine vs_istore [(4, .int (0)), (0, .ref (G.2.2.2 + 118)), (1, .int (nI f)), (2, .int (nI l)), (3, .int (nI m))] dX10_findEntry_1 rfl rfl rfl ?_
  refine vs_pick (L2 := [(4, .int (nI 0)), (0, .ref (G.2.2.2 + 118)), (1, .int (nI f)), (2, .int (nI l)), (3, .int (nI m))]) [0, 1, 2, 3, 4] rfl ?_
  refine l_fe2 (S := S) hf hlm (S0 := S) c0 (fun S2 F B => ?_) m 0 S (by omega) vs_fx.rf tF_0
  have mP2 : S2.1 118 2 = nI P := (F.2.1 _ _ (by simp)).trans mP
  refine vs_aload_n 0 dX10_findEntry_70 rfl rfl 0 rfl ?_
  refine vs_iload_n 3 dX10_findEntry_71 rfl rfl 3 rfl ?_
  refine vs_callVP (st := []) (c_solve (n := m) (by omega) hpr gP1 gP2 mP2 B (fun i j _ _ => pz_lt (by omega) bc)) lk_X10_179 lm_X10_solve rfl rfl rfl rfl (Nat.le_of_ble_eq_true rfl) rfl ⟨rfl, rfl⟩ dX10_findEntry_72 rfl (fun rr S1 hh => ?_)
  obtain ⟨rfl, F2, x, hx, bx, hf1, hker⟩ := hh
  show vs_V _ _ _ _ _ [] _
  refine vs_aload_n 0 dX10_findEntry_75 rfl rfl 0 rfl ?_
  refine vs_callVP (st := []) c_clearWork lk_X10_145 lm_X10_clearWork rfl rfl rfl rfl (Nat.le_of_ble_eq_true rfl) rfl ⟨rfl, rfl⟩ dX10_findEntry_76 rfl (fun rr S2 hh => ?_)
  obtain ⟨rfl, F3, A1, A2⟩ := hh
  show vs_V _ _ _ _ _ [] _
  refine vs_iconst (v := 0) dX10_findEntry_79 rfl rfl ?_
  refine vs_istore [(4, .int (0)), (0, .ref (G.2.2.2 + 118)), (1, .int (nI f)), (2, .int (nI l)), (3, .int (nI m))] dX10_findEntry_80 rfl rfl rfl ?_
  refine vs_pick (L2 := [(4, .int (nI 0)), (0, .ref (G.2.2.2 + 118)), (1, .int (nI f)), (2, .int (nI l)), (3, .int (nI m))]) [0, 1, 2, 3, 4] rfl ?_
  refine l_fe3 (S := S) (f := f) (l := l) (m := m) (x := x) (by omega) (S0 := S2) (aR.fx hx F3 (by simp)) (fun S3 F4 B1 => ?_) (m + 1) 0 S2 (by omega) vs_fx.rf (A2.c (fun j _ => (if_neg (by omega)).symm))
  have F5 : vs_fx S S3 [127, 128, 129, 130, 131, 132, 133, 134, 135] [] [] := vs_fx.tr (vs_fx.tr (vs_fx.tr (vs_fx.tr vs_fx.rf F (by simp) (by simp) (by simp)) F2 (by simp) (by simp) (by simp)) F3 (by simp) (by simp) (by simp)) F4 (by simp) (by simp) (by simp)
  have mP3 : S3.1 118 2 = nI P := (F5.2.1 _ _ (by simp)).trans mP
  have A3 : aR S3 127 90 (fun _ => 0) := aR.fx A1 F4 (by simp)
  refine vs_iconst (v := 0) dX10_findEntry_108 rfl rfl ?_
  refine vs_istore [(4, .int (0)), (0, .ref (G.2.2.2 + 118)), (1, .int (nI f)), (2, .int (nI l)), (3, .int (nI m))] dX10_findEntry_109 rfl rfl rfl ?_
  refine vs_pick (L2 := [(4, .int (nI 0)), (0, .ref (G.2.2.2 + 118)), (1, .int (nI f)), (2, .int (nI l)), (3, .int (nI m))]) [0, 1, 2, 3, 4] rfl ?_
  refine l_fe5 (S := S) (f := f) (l := l) (m := m) (c := c) (x := x) hf hlm gP1 gP2 bc bx (S0 := S3) mP3 (by rw [F5.1 125 (by simp)]; exact c0) B1 (fun S4 F6 C1 => ?_) (l + 1) 0 S3 (by omega) vs_fx.rf (A3.c (fun j _ => (if_neg (by omega)).symm))
  obtain ⟨q1, q2, q3, q4, q5, q6⟩ := fe_s (c := c) hpr hlm bx hf1 hker
  obtain ⟨r1, r2, r3, r4⟩ := lgt_s hpr q1 q2 q3
  have F7 : vs_fx S S4 [127, 128, 129, 130, 131, 132, 133, 134, 135] [] [] := vs_fx.tr F5 F6 (by simp) (by simp) (by simp)
  have mP4 : S4.1 118 2 = nI P := (F7.2.1 _ _ (by simp)).trans mP
  have hp4 : aR S4 127 90 (feP P x c l m) := C1
  have hq4 : aR S4 128 90 (feQ x m) := aR.fx B1 F6 (by simp)
  refine vs_aload_n 0 dX10_findEntry_186 rfl rfl 0 rfl ?_
  refine vs_callVP (st := []) (c_lighten hpr gP1 gP2 q1 q2 mP4 hp4 hq4) lk_X10_183 lm_X10_lighten rfl rfl rfl rfl (Nat.le_of_ble_eq_true rfl) rfl ⟨rfl, rfl⟩ dX10_findEntry_187 rfl (fun rr S1 hh => ?_)
  obtain ⟨rfl, F8, D1, D2⟩ := hh
  show vs_V _ _ _ _ _ [] _
  refine vs_aload_n 0 dX10_findEntry_190 rfl rfl 0 rfl ?_
  refine vs_callVP (st := []) (c_tell hpr gP1 gP2 r1 r2 r3 ((F8.2.1 _ _ (by simp)).trans mP4) D1 D2) lk_X10_186 lm_X10_tell rfl rfl rfl rfl (Nat.le_of_ble_eq_true rfl) rfl ⟨rfl, rfl⟩ dX10_findEntry_191 rfl (fun rr S2 hh => ?_)
  obtain ⟨rfl, F9, E1, E2⟩ := hh
  show vs_V _ _ _ _ _ [] _
  exact vs_vretP dX10_findEntry_194 (by have hu := ent_u hpr hlm bc q3 q4 q5 q6 (fun k => Nat.mod_lt _ (by omega)) (fun k => Nat.mod_lt _ (by omega)) r4; exact ⟨rfl, vs_fx.tr (vs_fx.tr F7 F8 (by simp) (by simp) (by simp)) F9 (by simp) (by simp) (by simp), by rw [← hu.1]; exact E1, by rw [← hu.2]; exact E2⟩)

theorem M_entry {G : vv_G} {S : vs_S} {a : aS} (hM : MSt S a) (hG : aG a) {f : Int} (hf1 : -2147483648 ≤ f) (hf2 : f < 2147483648) {l : Int} (hl1 : -2147483648 ≤ l) (hl2 : l < 2147483648) {m : Int} (hm1 : -2147483648 ≤ m) (hm2 : m < 2147483648) : vs_CP G yX10_entry cX10_entry 4 (some .int) { frames := 5, locals := 124 } [.ref (G.2.2.2 + 118), .int (nZ f), .int (nZ l), .int (nZ m)] S (fun r S2 => r = some (.int (nZ (sp_entry a f l m).1)) ∧ MSt S2 (sp_entry a f l m).2 ∧ frM S S2) := by
  refine vs_ofP [(0, .ref (G.2.2.2 + 118)), (1, .int (nZ f)), (2, .int (nZ l)), (3, .int (nZ m))] (by decide) rfl rfl ?_
  obtain ⟨⟨mP, mN, mH, mK0⟩, mK, mSh, mSe, ⟨mA, mB⟩, mX, mY⟩ := id hM
  obtain ⟨gP, gP2, gN, gH, gSe, gSh, gXY, gB31, gInj, gA, gB, gAz, gBz⟩ := hG
  have gP1 := gP.1
  refine vs_aload_n 0 dX10_entry_0 rfl rfl 0 rfl ?_
  refine vs_iload_n 1 dX10_entry_1 rfl rfl 1 rfl ?_
  refine vs_callV (st := []) (c_isSeries mN gN hf1 hf2) lk_X10_155 lm_X10_isSeries rfl rfl rfl rfl (Nat.le_of_ble_eq_true rfl) rfl ⟨rfl, rfl⟩ dX10_entry_2 rfl ?_
  show vs_V _ _ _ _ _ (.int ((if 0 ≤ f ∧ f ≤ (aN a : Int) - 1 then 1 else 0)) :: _) _
  refine vs_if_ne 11 dX10_entry_5 rfl rfl (fun c_5 => ?_) (fun c_5 => ?_)
  · rw [nn_is0, Classical.not_not] at c_5
    skip
    · obtain ⟨f, rfl⟩ : ∃ z0 : Nat, f = z0 := ⟨f.toNat, by omega⟩
      rw [nZ_n f]
      have hf : f < 10 := by omega
      have hfN : f < aN a := by omega
      obtain ⟨f1, f2⟩ := mSe f hfN
      obtain ⟨f3, f4⟩ := gSe f hfN
      refine vs_aload_n 0 dX10_entry_11 rfl rfl 0 rfl ?_
      refine vs_iload_n 1 dX10_entry_12 rfl rfl 1 rfl ?_
      refine vs_iload_n 2 dX10_entry_13 rfl rfl 2 rfl ?_
      refine vs_iload_n 3 dX10_entry_14 rfl rfl 3 rfl ?_
      refine vs_callV (st := []) (c_isPair hf f1 f3 hl1 hl2 hm1 hm2) lk_X10_189 lm_X10_isPair rfl rfl rfl rfl (Nat.le_of_ble_eq_true rfl) rfl ⟨rfl, rfl⟩ dX10_entry_15 rfl ?_
      show vs_V _ _ _ _ _ (.int ((if 0 ≤ l ∧ 0 ≤ m ∧ l + m ≤ (aLa a f : Int) then 1 else 0)) :: _) _
      refine vs_if_ne 24 dX10_entry_18 rfl rfl (fun c_18 => ?_) (fun c_18 => ?_)
      · rw [nn_is0, Classical.not_not] at c_18
        skip
        · obtain ⟨l, rfl⟩ : ∃ z0 : Nat, l = z0 := ⟨l.toNat, by omega⟩
          obtain ⟨m, rfl⟩ : ∃ z0 : Nat, m = z0 := ⟨m.toNat, by omega⟩
          rw [nZ_n l, nZ_n m]
          obtain ⟨hb1, hb2⟩ := ent_b (P := aP a) (l := l) (m := m) (c := aC a f) (by omega)
          obtain ⟨hz1, hz2⟩ := ent_z (P := aP a) (l := l) (m := m) (c := aC a f) (by omega)
          refine vs_aload_n 0 dX10_entry_24 rfl rfl 0 rfl ?_
          refine vs_iload_n 1 dX10_entry_25 rfl rfl 1 rfl ?_
          refine vs_iload_n 2 dX10_entry_26 rfl rfl 2 rfl ?_
          refine vs_iload_n 3 dX10_entry_27 rfl rfl 3 rfl ?_
          refine vs_callVP (st := []) (c_findEntryM (f := f) (l := l) (m := m) hf (by omega) gP gP1 gP2 f4 mP (fun k hk => f2 k (by omega))) lk_X10_193 lm_X10_findEntry rfl rfl rfl rfl (Nat.le_of_ble_eq_true rfl) rfl ⟨rfl, rfl⟩ dX10_entry_28 rfl (fun rr S1 hh => ?_)
          obtain ⟨rfl, F1, E1, E2⟩ := hh
          show vs_V _ _ _ _ _ [] _
          refine vs_aload_n 0 dX10_entry_31 rfl rfl 0 rfl ?_
          refine vs_iload_n 1 dX10_entry_32 rfl rfl 1 rfl ?_
          refine vs_callVP (st := []) (c_agrees (f := f) hf f3 gP1 gP2 f4 (by rw [F1.1 124 (by simp)]; exact f1) (by rw [F1.1 125 (by simp)]; exact f2) ((F1.2.1 _ _ (by simp)).trans mP) E1 E2 hb1 hb2 hz1 hz2) lk_X10_197 lm_X10_agrees rfl rfl rfl rfl (Nat.le_of_ble_eq_true rfl) rfl ⟨rfl, rfl⟩ dX10_entry_33 rfl (fun rr S2 hh => ?_)
          obtain ⟨rfl, F2⟩ := hh
          show vs_V _ _ _ _ _ (.int (nI (eag (aP a) (aC a f) l m (aLa a f))) :: _) _
          have F : vs_fx S S2 [127, 128, 129, 130, 131, 132, 133, 134, 135, 136] [] [] := vs_fx.tr (vs_fx.tr vs_fx.rf F1 (by simp) (by simp) (by simp)) F2 (by simp) (by simp) (by simp)
          exact vs_iretP dX10_entry_36 (mpost (v := (eag (aP a) (aC a f) l m (aLa a f) : Int)) (a' := s_re a (ent (aP a) (aC a f) l m).1 (ent (aP a) (aC a f) l m).2) (by unfold sp_entry; (try simp only [Int.toNat_natCast]); repeat (first | rw [if_pos (by omega)] | rw [if_pos trivial] | rw [if_neg (by omega)])) (by rw [nZ_n]) (MSt.re hM F (aR.fx E1 F2 (by simp)) (aR.fx E2 F2 (by simp)) (by simp [mcr]) (by simp) (by simp)) (F.M (by simp) (by simp) (by simp)))
      · rw [nn_is0] at c_18
        refine vs_bipush (v := -102) dX10_entry_21 rfl rfl ?_
        exact vs_iretP dX10_entry_23 (mpost (v := -102) (a' := a) (by unfold sp_entry; (try simp only [Int.toNat_natCast]); repeat (first | rw [if_pos (by omega)] | rw [if_pos trivial] | rw [if_neg (by omega)])) rfl hM frM.rf)
  · rw [nn_is0] at c_5
    refine vs_bipush (v := -101) dX10_entry_8 rfl rfl ?_
    exact vs_iretP dX10_entry_10 (mpost (v := -101) (a' := a) (by unfold sp_entry; (try simp only [Int.toNat_natCast]); repeat (first | rw [if_pos (by omega)] | rw [if_pos trivial] | rw [if_neg (by omega)])) rfl hM frM.rf)

theorem M_block {G : vv_G} {S : vs_S} {a : aS} (hM : MSt S a) (hG : aG a) {f : Int} (hf1 : -2147483648 ≤ f) (hf2 : f < 2147483648) {l : Int} (hl1 : -2147483648 ≤ l) (hl2 : l < 2147483648) {m : Int} (hm1 : -2147483648 ≤ m) (hm2 : m < 2147483648) {w : Int} (hw1 : -2147483648 ≤ w) (hw2 : w < 2147483648) : vs_CP G yX10_block cX10_block 8 (some .int) { frames := 5, locals := 124 } [.ref (G.2.2.2 + 118), .int (nZ f), .int (nZ l), .int (nZ m), .int (nZ w)] S (fun r S2 => r = some (.int (nZ (sp_block a f l m w).1)) ∧ MSt S2 (sp_block a f l m w).2 ∧ frM S S2) := by
  refine vs_ofP [(0, .ref (G.2.2.2 + 118)), (1, .int (nZ f)), (2, .int (nZ l)), (3, .int (nZ m)), (4, .int (nZ w))] (by decide) rfl rfl ?_
  obtain ⟨⟨mP, mN, mH, mK0⟩, mK, mSh, mSe, ⟨mA, mB⟩, mX, mY⟩ := id hM
  obtain ⟨gP, gP2, gN, gH, gSe, gSh, gXY, gB31, gInj, gA, gB, gAz, gBz⟩ := hG
  have gP1 := gP.1
  refine vs_aload_n 0 dX10_block_0 rfl rfl 0 rfl ?_
  refine vs_iload_n 1 dX10_block_1 rfl rfl 1 rfl ?_
  refine vs_callV (st := []) (c_isSeries mN gN hf1 hf2) lk_X10_155 lm_X10_isSeries rfl rfl rfl rfl (Nat.le_of_ble_eq_true rfl) rfl ⟨rfl, rfl⟩ dX10_block_2 rfl ?_
  show vs_V _ _ _ _ _ (.int ((if 0 ≤ f ∧ f ≤ (aN a : Int) - 1 then 1 else 0)) :: _) _
  refine vs_if_ne 11 dX10_block_5 rfl rfl (fun c_5 => ?_) (fun c_5 => ?_)
  · rw [nn_is0, Classical.not_not] at c_5
    skip
    · obtain ⟨f, rfl⟩ : ∃ z0 : Nat, f = z0 := ⟨f.toNat, by omega⟩
      rw [nZ_n f]
      have hf : f < 10 := by omega
      have hfN : f < aN a := by omega
      obtain ⟨f1, f2⟩ := mSe f hfN
      obtain ⟨f3, f4⟩ := gSe f hfN
      refine vs_aload_n 0 dX10_block_11 rfl rfl 0 rfl ?_
      refine vs_iload_n 1 dX10_block_12 rfl rfl 1 rfl ?_
      refine vs_iload_n 2 dX10_block_13 rfl rfl 2 rfl ?_
      refine vs_iload_n 3 dX10_block_14 rfl rfl 3 rfl ?_
      refine vs_callV (st := []) (c_isPair hf f1 f3 hl1 hl2 hm1 hm2) lk_X10_189 lm_X10_isPair rfl rfl rfl rfl (Nat.le_of_ble_eq_true rfl) rfl ⟨rfl, rfl⟩ dX10_block_15 rfl ?_
      show vs_V _ _ _ _ _ (.int ((if 0 ≤ l ∧ 0 ≤ m ∧ l + m ≤ (aLa a f : Int) then 1 else 0)) :: _) _
      refine vs_if_eq 34 dX10_block_18 rfl rfl (fun c_18 => ?_) (fun c_18 => ?_)
      · rw [nn_is0] at c_18
        refine vs_bipush (v := -102) dX10_block_34 rfl rfl ?_
        exact vs_iretP dX10_block_36 (mpost (v := -102) (a' := a) (by unfold sp_block; (try simp only [Int.toNat_natCast]); repeat (first | rw [if_pos (by omega)] | rw [if_pos trivial] | rw [if_neg (by omega)])) rfl hM frM.rf)
      · rw [nn_is0, Classical.not_not] at c_18
        refine vs_iload dX10_block_21 rfl 4 rfl ?_
        refine vs_i2l dX10_block_23 rfl ?_
        refine vs_lconst (v := 0) dX10_block_24 rfl rfl ?_
        refine vs_ldc2 lc_X10_103 dX10_block_25 rfl ?_
        refine vs_callS (st := []) (c_inZ (z := w) (x := 0) (y := 2) (by rw [nn_i2l, nZ_i hw1 hw2]) rfl rfl) lk_X10_107 lm_X10_in rfl rfl (Nat.le_of_ble_eq_true rfl) rfl ⟨rfl, rfl⟩ dX10_block_28 rfl ?_
        show vs_V _ _ _ _ _ (.int ((if 0 ≤ w ∧ w ≤ 2 then 1 else 0)) :: _) _
        refine vs_if_ne 37 dX10_block_31 rfl rfl (fun c_31 => ?_) (fun c_31 => ?_)
        · rw [nn_is0, Classical.not_not] at c_31
          skip
          · obtain ⟨l, rfl⟩ : ∃ z0 : Nat, l = z0 := ⟨l.toNat, by omega⟩
            obtain ⟨m, rfl⟩ : ∃ z0 : Nat, m = z0 := ⟨m.toNat, by omega⟩
            rw [nZ_n l, nZ_n m]
            obtain ⟨hb1, hb2⟩ := ent_b (P := aP a) (l := l) (m := m) (c := aC a f) (by omega)
            obtain ⟨hz1, hz2⟩ := ent_z (P := aP a) (l := l) (m := m) (c := aC a f) (by omega)
            have t1 := tp_le (ent (aP a) (aC a f) l m).1 42
            have t2 := tp_le (ent (aP a) (aC a f) l m).2 42
            have t3 := (agr_le (u := ufk (ent (aP a) (aC a f) l m).1 (ent (aP a) (aC a f) l m).2 (ipw ((ent (aP a) (aC a f) l m).2 0) (aP a)) (aP a) (aLa a f + 1)) (c := aC a f) (aLa a f + 1) 0).2
            have t4 : eag (aP a) (aC a f) l m (aLa a f) ≤ 0 + (aLa a f + 1) := t3
            refine vs_aload_n 0 dX10_block_37 rfl rfl 0 rfl ?_
            refine vs_callVP (st := []) (c_keepResult mA mB) lk_X10_200 lm_X10_keepResult rfl rfl rfl rfl (Nat.le_of_ble_eq_true rfl) rfl ⟨rfl, rfl⟩ dX10_block_38 rfl (fun rr S1 hh => ?_)
            obtain ⟨rfl, F0, K1, K2⟩ := hh
            show vs_V _ _ _ _ _ [] _
            refine vs_aload_n 0 dX10_block_41 rfl rfl 0 rfl ?_
            refine vs_iload_n 1 dX10_block_42 rfl rfl 1 rfl ?_
            refine vs_iload_n 2 dX10_block_43 rfl rfl 2 rfl ?_
            refine vs_iload_n 3 dX10_block_44 rfl rfl 3 rfl ?_
            refine vs_callVP (st := []) (c_findEntryM (f := f) (l := l) (m := m) hf (by omega) gP gP1 gP2 f4 ((F0.2.1 _ _ (by simp)).trans mP) (fun k hk => by rw [F0.1 125 (by simp)]; exact f2 k (by omega))) lk_X10_193 lm_X10_findEntry rfl rfl rfl rfl (Nat.le_of_ble_eq_true rfl) rfl ⟨rfl, rfl⟩ dX10_block_45 rfl (fun rr S2 hh => ?_)
            obtain ⟨rfl, F1, E1, E2⟩ := hh
            show vs_V _ _ _ _ _ [] _
            refine vs_aload_n 0 dX10_block_48 rfl rfl 0 rfl ?_
            refine vs_get (v := .ref (G.2.2.2 + 132)) lf_X10_50 rfl rfl dX10_block_49 rfl ?_
            refine vs_bipush (v := 45) dX10_block_52 rfl rfl ?_
            refine vs_callS (st := []) (c_degreeOf (o := 132) (N := 46) (n := 45) rfl (by decide) (by decide) E1 (fun k => by have := hb1 k; omega)) lk_X10_167 lm_X10_degreeOf rfl rfl (Nat.le_of_ble_eq_true rfl) rfl ⟨rfl, rfl⟩ dX10_block_54 rfl ?_
            rw [show (45 + 1) = 42 + 4 from rfl, tp_skip hz1 4]
            show vs_V _ _ _ _ _ (.int (nZ ((tp (ent (aP a) (aC a f) l m).1 42 : Int) - 1)) :: _) _
            refine vs_topi (fun v5 e_v5 => ?_)
            have e2_v5 : v5 = nZ ((tp (ent (aP a) (aC a f) l m).1 42 : Int) - 1) := e_v5
            clear e_v5
            subst e2_v5
            refine vs_istore [(5, .int (nZ ((tp (ent (aP a) (aC a f) l m).1 42 : Int) - 1))), (0, .ref (G.2.2.2 + 118)), (1, .int (nI f)), (2, .int (nI l)), (3, .int (nI m)), (4, .int (nZ w))] dX10_block_57 rfl rfl rfl ?_
            refine vs_aload_n 0 dX10_block_59 rfl rfl 1 rfl ?_
            refine vs_get (v := .ref (G.2.2.2 + 133)) lf_X10_53 rfl rfl dX10_block_60 rfl ?_
            refine vs_bipush (v := 45) dX10_block_63 rfl rfl ?_
            refine vs_callS (st := []) (c_degreeOf (o := 133) (N := 46) (n := 45) rfl (by decide) (by decide) E2 (fun k => by have := hb2 k; omega)) lk_X10_167 lm_X10_degreeOf rfl rfl (Nat.le_of_ble_eq_true rfl) rfl ⟨rfl, rfl⟩ dX10_block_65 rfl ?_
            rw [show (45 + 1) = 42 + 4 from rfl, tp_skip hz2 4]
            show vs_V _ _ _ _ _ (.int (nZ ((tp (ent (aP a) (aC a f) l m).2 42 : Int) - 1)) :: _) _
            refine vs_topi (fun v6 e_v6 => ?_)
            have e2_v6 : v6 = nZ ((tp (ent (aP a) (aC a f) l m).2 42 : Int) - 1) := e_v6
            clear e_v6
            subst e2_v6
            refine vs_istore [(6, .int (nZ ((tp (ent (aP a) (aC a f) l m).2 42 : Int) - 1))), (5, .int (nZ ((tp (ent (aP a) (aC a f) l m).1 42 : Int) - 1))), (0, .ref (G.2.2.2 + 118)), (1, .int (nI f)), (2, .int (nI l)), (3, .int (nI m)), (4, .int (nZ w))] dX10_block_68 rfl rfl rfl ?_
            refine vs_aload_n 0 dX10_block_70 rfl rfl 2 rfl ?_
            refine vs_iload_n 1 dX10_block_71 rfl rfl 3 rfl ?_
            refine vs_callVP (st := []) (c_agrees (f := f) hf f3 gP1 gP2 f4 (by rw [F1.1 124 (by simp), F0.1 124 (by simp)]; exact f1) (by rw [F1.1 125 (by simp), F0.1 125 (by simp)]; exact f2) ((F1.2.1 _ _ (by simp)).trans ((F0.2.1 _ _ (by simp)).trans mP)) E1 E2 hb1 hb2 hz1 hz2) lk_X10_197 lm_X10_agrees rfl rfl rfl rfl (Nat.le_of_ble_eq_true rfl) rfl ⟨rfl, rfl⟩ dX10_block_72 rfl (fun rr S3 hh => ?_)
            obtain ⟨rfl, F2⟩ := hh
            show vs_V _ _ _ _ _ (.int (nI (eag (aP a) (aC a f) l m (aLa a f))) :: _) _
            refine vs_istore [(7, .int (nI (eag (aP a) (aC a f) l m (aLa a f)))), (6, .int (nZ ((tp (ent (aP a) (aC a f) l m).2 42 : Int) - 1))), (5, .int (nZ ((tp (ent (aP a) (aC a f) l m).1 42 : Int) - 1))), (0, .ref (G.2.2.2 + 118)), (1, .int (nI f)), (2, .int (nI l)), (3, .int (nI m)), (4, .int (nZ w))] dX10_block_75 rfl rfl rfl ?_
            refine vs_aload_n 0 dX10_block_77 rfl rfl 3 rfl ?_
            refine vs_callVP (st := []) (c_resultBack (aR.fx (aR.fx K1 F1 (by simp)) F2 (by simp)) (aR.fx (aR.fx K2 F1 (by simp)) F2 (by simp))) lk_X10_203 lm_X10_resultBack rfl rfl rfl rfl (Nat.le_of_ble_eq_true rfl) rfl ⟨rfl, rfl⟩ dX10_block_78 rfl (fun rr S4 hh => ?_)
            obtain ⟨rfl, F3, R1, R2⟩ := hh
            show vs_V _ _ _ _ _ [] _
            have F : vs_fx S S4 [127, 128, 129, 130, 131, 132, 133, 134, 135, 136, 137, 138] [] [] := vs_fx.tr (vs_fx.tr (vs_fx.tr (vs_fx.tr vs_fx.rf F0 (by simp) (by simp) (by simp)) F1 (by simp) (by simp) (by simp)) F2 (by simp) (by simp) (by simp)) F3 (by simp) (by simp) (by simp)
            have hM5 : MSt S4 a := MSt.re hM F R1 R2 (by simp [mcr]) (by simp) (by simp)
            have hf5 : frM S S4 := F.M (by simp) (by simp) (by simp)
            have la4 : S4.2.1 124 f = nI (aLa a f) := by rw [F.1 124 (by simp)]; exact f1
            refine vs_iload dX10_block_81 rfl 2 rfl ?_
            refine vs_if_ge 92 dX10_block_83 rfl rfl (fun c_83 => ?_) (fun c_83 => ?_)
            · have q_83 : (((tp (ent (aP a) (aC a f) l m).1 42 : Int) - 1) : Int) ≥ ((0 : Nat) : Int) := (qi_ge rfl (by first | exact nI_Z _ | (simp only [fa_lit, nI_add, pk_mul, nI_1]; exact nI_Z _)) (by omega) (by omega) (by omega) (by omega)).mp c_83
              refine vs_iload dX10_block_92 rfl 7 rfl ?_
              refine vs_if_ne 102 dX10_block_94 rfl rfl (fun c_94 => ?_) (fun c_94 => ?_)
              · have q_94 : ¬ (w : Int) = ((0 : Nat) : Int) := fun hh => c_94 ((qi_eq rfl (by first | exact nI_Z _ | (simp only [fa_lit, nI_add, pk_mul, nI_1]; exact nI_Z _)) (by omega) (by omega) (by omega) (by omega)).mpr hh)
                refine vs_iload dX10_block_102 rfl 7 rfl ?_
                refine vs_iconst (v := 1) dX10_block_104 rfl rfl ?_
                refine vs_icmp_ne 113 dX10_block_105 rfl rfl (fun c_105 => ?_) (fun c_105 => ?_)
                · have q_105 : ¬ (w : Int) = ((1 : Nat) : Int) := fun hh => c_105 ((qi_eq rfl (by first | exact nI_Z _ | (simp only [fa_lit, nI_add, pk_mul, nI_1]; exact nI_Z _)) (by omega) (by omega) (by omega) (by omega)).mpr hh)
                  refine vs_iload dX10_block_113 rfl 0 rfl ?_
                  refine vs_aload_n 0 dX10_block_115 rfl rfl 3 rfl ?_
                  refine vs_get (v := .ref (G.2.2.2 + 124)) lf_X10_26 rfl rfl dX10_block_116 rfl ?_
                  refine vs_iload_n 1 dX10_block_119 rfl rfl 4 rfl ?_
                  refine vs_iald (k := f) rfl rfl (by omega) rfl dX10_block_120 rfl ?_
                  refine vs_topi (fun z1 e_z1 => ?_)
                  have f_z1 : z1 = nI (aLa a f) := (by rw [e_z1]; exact la4)
                  subst f_z1
                  clear e_z1
                  refine vs_iconst (v := 1) dX10_block_121 rfl rfl ?_
                  refine vs_iadd dX10_block_122 rfl ?_
                  refine vs_icmp_ne 130 dX10_block_123 rfl rfl (fun c_123 => ?_) (fun c_123 => ?_)
                  · have q_123 : ¬ (((eag (aP a) (aC a f) l m (aLa a f)) : Nat) : Int) = ((((aLa a f) + 1) : Nat) : Int) := fun hh => c_123 ((qi_eq (nI_Z _) (by first | exact nI_Z _ | (simp only [fa_lit, nI_add, pk_mul, nI_1]; exact nI_Z _)) (by omega) (by omega) (by omega) (by omega)).mpr hh)
                    refine vs_iload dX10_block_130 rfl 0 rfl ?_
                    refine vs_iload dX10_block_132 rfl 2 rfl ?_
                    refine vs_isub dX10_block_134 rfl ?_
                    refine vs_topi (fun z2 e_z2 => ?_)
                    have f_z2 : z2 = nZ ((eag (aP a) (aC a f) l m (aLa a f) : Int) - ((tp (ent (aP a) (aC a f) l m).1 42 : Int) - 1)) := (by rw [e_z2, nI_Z, nZ_sub])
                    subst f_z2
                    clear e_z2
                    refine vs_iload dX10_block_135 rfl 1 rfl ?_
                    refine vs_isub dX10_block_137 rfl ?_
                    refine vs_topi (fun z3 e_z3 => ?_)
                    have f_z3 : z3 = nZ ((eag (aP a) (aC a f) l m (aLa a f) : Int) - ((tp (ent (aP a) (aC a f) l m).1 42 : Int) - 1) - ((tp (ent (aP a) (aC a f) l m).2 42 : Int) - 1)) := (by rw [e_z3, nZ_sub])
                    subst f_z3
                    clear e_z3
                    exact vs_iretP dX10_block_138 (mpost (v := (eag (aP a) (aC a f) l m (aLa a f) : Int) - ((tp (ent (aP a) (aC a f) l m).1 42 : Int) - 1) - ((tp (ent (aP a) (aC a f) l m).2 42 : Int) - 1)) (a' := a) (by unfold sp_block; (try simp only [Int.toNat_natCast]); repeat (first | rw [if_pos (by omega)] | rw [if_pos trivial] | rw [if_neg (by omega)])) rfl hM5 hf5)
                  · have q_123 : (((eag (aP a) (aC a f) l m (aLa a f)) : Nat) : Int) = ((((aLa a f) + 1) : Nat) : Int) := (qi_eq (nI_Z _) (by first | exact nI_Z _ | (simp only [fa_lit, nI_add, pk_mul, nI_1]; exact nI_Z _)) (by omega) (by omega) (by omega) (by omega)).mp c_123
                    refine vs_iconst (v := -1) dX10_block_126 rfl rfl ?_
                    refine vs_goto 138 dX10_block_127 rfl ?_
                    exact vs_iretP dX10_block_138 (mpost (v := -1) (a' := a) (by unfold sp_block; (try simp only [Int.toNat_natCast]); repeat (first | rw [if_pos (by omega)] | rw [if_pos trivial] | rw [if_neg (by omega)])) rfl hM5 hf5)
                · have q_105 : (w : Int) = ((1 : Nat) : Int) := (qi_eq rfl (by first | exact nI_Z _ | (simp only [fa_lit, nI_add, pk_mul, nI_1]; exact nI_Z _)) (by omega) (by omega) (by omega) (by omega)).mp c_105
                  refine vs_iload dX10_block_108 rfl 1 rfl ?_
                  refine vs_goto 138 dX10_block_110 rfl ?_
                  exact vs_iretP dX10_block_138 (mpost (v := (tp (ent (aP a) (aC a f) l m).2 42 : Int) - 1) (a' := a) (by unfold sp_block; (try simp only [Int.toNat_natCast]); repeat (first | rw [if_pos (by omega)] | rw [if_pos trivial] | rw [if_neg (by omega)])) rfl hM5 hf5)
              · have q_94 : (w : Int) = ((0 : Nat) : Int) := (qi_eq rfl (by first | exact nI_Z _ | (simp only [fa_lit, nI_add, pk_mul, nI_1]; exact nI_Z _)) (by omega) (by omega) (by omega) (by omega)).mp c_94
                refine vs_iload dX10_block_97 rfl 2 rfl ?_
                refine vs_goto 138 dX10_block_99 rfl ?_
                exact vs_iretP dX10_block_138 (mpost (v := (tp (ent (aP a) (aC a f) l m).1 42 : Int) - 1) (a' := a) (by unfold sp_block; (try simp only [Int.toNat_natCast]); repeat (first | rw [if_pos (by omega)] | rw [if_pos trivial] | rw [if_neg (by omega)])) rfl hM5 hf5)
            · have q_83 : ¬ (((tp (ent (aP a) (aC a f) l m).1 42 : Int) - 1) : Int) ≥ ((0 : Nat) : Int) := fun hh => c_83 ((qi_ge rfl (by first | exact nI_Z _ | (simp only [fa_lit, nI_add, pk_mul, nI_1]; exact nI_Z _)) (by omega) (by omega) (by omega) (by omega)).mpr hh)
              refine vs_aload_n 0 dX10_block_86 rfl rfl 3 rfl ?_
              refine vs_iconst (v := 5) dX10_block_87 rfl rfl ?_
              refine vs_callV (st := []) (c_meets (c := 5) (by decide) (by decide)) lk_X10_129 lm_X10_meets rfl rfl rfl rfl (Nat.le_of_ble_eq_true rfl) rfl ⟨rfl, rfl⟩ dX10_block_88 rfl ?_
              show vs_V _ _ _ _ _ (.int (nZ (-10 - ((5 : Nat) : Int))) :: _) _
              exact vs_iretP dX10_block_91 (mpost (v := -10 - ((5 : Nat) : Int)) (a' := s_cs a 5) (by unfold sp_block; (try simp only [Int.toNat_natCast]); (repeat (first | rw [if_pos (by omega)] | rw [if_pos trivial] | rw [if_neg (by omega)])); rfl) rfl (k_meets hM5 (by decide) (by decide)).1 (hf5.tr (k_meets hM5 (by decide) (by decide)).2))
        · rw [nn_is0] at c_31
          refine vs_bipush (v := -102) dX10_block_34 rfl rfl ?_
          exact vs_iretP dX10_block_36 (mpost (v := -102) (a' := a) (by unfold sp_block; (try simp only [Int.toNat_natCast]); repeat (first | rw [if_pos (by omega)] | rw [if_pos trivial] | rw [if_neg (by omega)])) rfl hM frM.rf)
  · rw [nn_is0] at c_5
    refine vs_bipush (v := -101) dX10_block_8 rfl rfl ?_
    exact vs_iretP dX10_block_10 (mpost (v := -101) (a' := a) (by unfold sp_block; (try simp only [Int.toNat_natCast]); repeat (first | rw [if_pos (by omega)] | rw [if_pos trivial] | rw [if_neg (by omega)])) rfl hM frM.rf)

theorem nn_take {r b x P : Nat} (h0 : 0 < P) : nn_m ((r : Int) - (b : Int) * x) P = (r + nn_m (-(b : Int)) P * x) % P := by
  have h1 := nn_m_int (v := -(b : Int)) h0
  rw [← nn_m_nat]
  apply nn_m_c
  rw [Int.natCast_add, Int.natCast_mul, h1, Int.add_emod, Int.mul_emod, Int.emod_emod_of_dvd _ (Int.dvd_refl _), ← Int.mul_emod, ← Int.add_emod]
  congr 1
  rw [Int.neg_mul]
  omega
theorem amk_42 {R B cur ear : Nat → Nat} {c sh P : Nat} (h1 : ∀ k, k < 42 → R k = cur k) (h2 : ∀ k, k < 42 → B k = ear k) : ∀ k, k < 42 → amk R B c sh P 45 k = amk cur ear c sh P 42 k := fun k hk => by
  unfold amk
  by_cases e : sh ≤ k
  · rw [if_pos ⟨e, by omega⟩, if_pos ⟨e, hk⟩, h1 k hk, h2 _ (by omega)]
  · rw [if_neg (fun z => e z.1), if_neg (fun z => e z.1), h1 k hk]
theorem l_mbi {G : vv_G} {S : vs_S} {f n : Nat} {S0 : vs_S}  {Pst : Option Value → vs_S → Prop} (K : ∀ S2 : vs_S, vs_fx S0 S2 [141, 142] [] [] → aR S2 141 45 (pcon 1) → aR S2 142 45 (pcon 1) → vs_V G cX10_recur (vs_MP yX10_recur 12 (some .int) { frames := 5, locals := 124 } G Pst) 62 [(2, .int (nI n)), (0, .ref (G.2.2.2 + 118)), (1, .int (nI f))] [] S2) : ∀ (d i : Nat) (S : vs_S), i + d = 45 → vs_fx S0 S [141, 142] [] [] → aR S 141 i (pcon 1) → aR S 142 i (pcon 1) → vs_V G cX10_recur (vs_MP yX10_recur 12 (some .int) { frames := 5, locals := 124 } G Pst) 20 [(3, .int (nI i)), (2, .int (nI n)), (0, .ref (G.2.2.2 + 118)), (1, .int (nI f))] [] S := by
  intro d
  induction d with
  | zero =>
    intro i S hi F A1 A2
    obtain rfl : 45 = i := by omega
    refine vs_iload_n 3 dX10_recur_20 rfl rfl 0 rfl ?_
    refine vs_bipush (v := 45) dX10_recur_21 rfl rfl ?_
    refine vs_icmp_ge 62 dX10_recur_23 rfl rfl (fun c_23 => ?_) (fun c_23 => ?_)
    · have q_23 : ((45 : Nat) : Int) ≥ ((45 : Nat) : Int) := (qi_ge (nI_Z _) (by first | exact nI_Z _ | (simp only [fa_lit, nI_add, pk_mul, nI_1]; exact nI_Z _)) (by omega) (by omega) (by omega) (by omega)).mp c_23
      refine vs_pick (L2 := [(2, .int (nI n)), (0, .ref (G.2.2.2 + 118)), (1, .int (nI f))]) [1, 2, 3] rfl ?_
      exact K S F A1 A2
    · have q_23 : ¬ ((45 : Nat) : Int) ≥ ((45 : Nat) : Int) := fun hh => c_23 ((qi_ge (nI_Z _) (by first | exact nI_Z _ | (simp only [fa_lit, nI_add, pk_mul, nI_1]; exact nI_Z _)) (by omega) (by omega) (by omega) (by omega)).mpr hh)
      omega
  | succ d ih =>
    intro i S hi F A1 A2
    refine vs_iload_n 3 dX10_recur_20 rfl rfl 0 rfl ?_
    refine vs_bipush (v := 45) dX10_recur_21 rfl rfl ?_
    refine vs_icmp_ge 62 dX10_recur_23 rfl rfl (fun c_23 => ?_) (fun c_23 => ?_)
    · have q_23 : ((i : Nat) : Int) ≥ ((45 : Nat) : Int) := (qi_ge (nI_Z _) (by first | exact nI_Z _ | (simp only [fa_lit, nI_add, pk_mul, nI_1]; exact nI_Z _)) (by omega) (by omega) (by omega) (by omega)).mp c_23
      omega
    · have q_23 : ¬ ((i : Nat) : Int) ≥ ((45 : Nat) : Int) := fun hh => c_23 ((qi_ge (nI_Z _) (by first | exact nI_Z _ | (simp only [fa_lit, nI_add, pk_mul, nI_1]; exact nI_Z _)) (by omega) (by omega) (by omega) (by omega)).mpr hh)
      refine vs_aload_n 0 dX10_recur_26 rfl rfl 2 rfl ?_
      refine vs_get (v := .ref (G.2.2.2 + 141)) lf_X10_77 rfl rfl dX10_recur_27 rfl ?_
      refine vs_iload_n 3 dX10_recur_30 rfl rfl 0 rfl ?_
      refine vs_iload_n 3 dX10_recur_31 rfl rfl 0 rfl ?_
      refine vs_if_ne 39 dX10_recur_32 rfl rfl (fun c_32 => ?_) (fun c_32 => ?_)
      · have q_32 : ¬ ((i : Nat) : Int) = ((0 : Nat) : Int) := fun hh => c_32 ((qi_eq (nI_Z _) (by first | exact nI_Z _ | (simp only [fa_lit, nI_add, pk_mul, nI_1]; exact nI_Z _)) (by omega) (by omega) (by omega) (by omega)).mpr hh)
        have e1 : pcon 1 i = 0 := if_neg (by omega)
        refine vs_iconst (v := 0) dX10_recur_39 rfl rfl ?_
        refine vs_iast (k := i) rfl (by first | rfl | (simp only [fa_lit, nI_add, pk_mul, nI_1]; done) | omega) (by omega) rfl dX10_recur_40 rfl ?_
        refine vs_gen (fun T1 e_T1 => ?_)
        have F : vs_fx S0 T1 [141, 142] [] [] := by rw [e_T1]; repeat (first | exact F | refine vs_fx.ia ?_ (by simp <;> omega) | refine vs_fx.sc ?_ (by simp <;> omega) | refine vs_fx.la ?_ (by simp <;> omega))
        have A2 : aR T1 142 i (pcon 1) := by rw [e_T1]; repeat (first | exact A2 | refine aR.ne ?_ (by omega))
        have A1 : aR T1 141 (i + 1) (pcon 1) := (by rw [e_T1]; have := aR.push A1; rw [e1] at this; exact this)
        clear e_T1
        refine vs_aload_n 0 dX10_recur_41 rfl rfl 2 rfl ?_
        refine vs_get (v := .ref (G.2.2.2 + 142)) lf_X10_80 rfl rfl dX10_recur_42 rfl ?_
        refine vs_iload_n 3 dX10_recur_45 rfl rfl 0 rfl ?_
        refine vs_iload_n 3 dX10_recur_46 rfl rfl 0 rfl ?_
        refine vs_if_ne 54 dX10_recur_47 rfl rfl (fun c_47 => ?_) (fun c_47 => ?_)
        · have q_47 : ¬ ((i : Nat) : Int) = ((0 : Nat) : Int) := fun hh => c_47 ((qi_eq (nI_Z _) (by first | exact nI_Z _ | (simp only [fa_lit, nI_add, pk_mul, nI_1]; exact nI_Z _)) (by omega) (by omega) (by omega) (by omega)).mpr hh)
          have e1 : pcon 1 i = 0 := if_neg (by omega)
          refine vs_iconst (v := 0) dX10_recur_54 rfl rfl ?_
          refine vs_iast (k := i) rfl (by first | rfl | (simp only [fa_lit, nI_add, pk_mul, nI_1]; done) | omega) (by omega) rfl dX10_recur_55 rfl ?_
          refine vs_gen (fun T2 e_T2 => ?_)
          have F : vs_fx S0 T2 [141, 142] [] [] := by rw [e_T2]; repeat (first | exact F | refine vs_fx.ia ?_ (by simp <;> omega) | refine vs_fx.sc ?_ (by simp <;> omega) | refine vs_fx.la ?_ (by simp <;> omega))
          have A1 : aR T2 141 (i + 1) (pcon 1) := by rw [e_T2]; repeat (first | exact A1 | refine aR.ne ?_ (by omega))
          have A2 : aR T2 142 (i + 1) (pcon 1) := (by rw [e_T2]; have := aR.push A2; rw [e1] at this; exact this)
          clear e_T2
          refine vs_iinc (v := nI (i + 1)) [(3, .int (nI (i + 1))), (2, .int (nI n)), (0, .ref (G.2.2.2 + 118)), (1, .int (nI f))] dX10_recur_56 rfl 0 rfl (by first | exact nI_1 _ | (simp only [fa_lit, nI_add, pk_mul, nI_1]; rfl)) rfl rfl ?_
          refine vs_goto 20 dX10_recur_59 rfl ?_
          refine vs_pick [0, 1, 2, 3] rfl ?_
          exact ih (i + 1) _ (by omega) F A1 A2
        · have q_47 : ((i : Nat) : Int) = ((0 : Nat) : Int) := (qi_eq (nI_Z _) (by first | exact nI_Z _ | (simp only [fa_lit, nI_add, pk_mul, nI_1]; exact nI_Z _)) (by omega) (by omega) (by omega) (by omega)).mp c_47
          have e1 : pcon 1 i = 1 := if_pos (by omega)
          refine vs_iconst (v := 1) dX10_recur_50 rfl rfl ?_
          refine vs_goto 55 dX10_recur_51 rfl ?_
          refine vs_iast (k := i) rfl (by first | rfl | (simp only [fa_lit, nI_add, pk_mul, nI_1]; done) | omega) (by omega) rfl dX10_recur_55 rfl ?_
          refine vs_gen (fun T3 e_T3 => ?_)
          have F : vs_fx S0 T3 [141, 142] [] [] := by rw [e_T3]; repeat (first | exact F | refine vs_fx.ia ?_ (by simp <;> omega) | refine vs_fx.sc ?_ (by simp <;> omega) | refine vs_fx.la ?_ (by simp <;> omega))
          have A1 : aR T3 141 (i + 1) (pcon 1) := by rw [e_T3]; repeat (first | exact A1 | refine aR.ne ?_ (by omega))
          have A2 : aR T3 142 (i + 1) (pcon 1) := (by rw [e_T3]; have := aR.push A2; rw [e1] at this; exact this)
          clear e_T3
          refine vs_iinc (v := nI (i + 1)) [(3, .int (nI (i + 1))), (2, .int (nI n)), (0, .ref (G.2.2.2 + 118)), (1, .int (nI f))] dX10_recur_56 rfl 0 rfl (by first | exact nI_1 _ | (simp only [fa_lit, nI_add, pk_mul, nI_1]; rfl)) rfl rfl ?_
          refine vs_goto 20 dX10_recur_59 rfl ?_
          refine vs_pick [0, 1, 2, 3] rfl ?_
          exact ih (i + 1) _ (by omega) F A1 A2
      · have q_32 : ((i : Nat) : Int) = ((0 : Nat) : Int) := (qi_eq (nI_Z _) (by first | exact nI_Z _ | (simp only [fa_lit, nI_add, pk_mul, nI_1]; exact nI_Z _)) (by omega) (by omega) (by omega) (by omega)).mp c_32
        have e1 : pcon 1 i = 1 := if_pos (by omega)
        refine vs_iconst (v := 1) dX10_recur_35 rfl rfl ?_
        refine vs_goto 40 dX10_recur_36 rfl ?_
        refine vs_iast (k := i) rfl (by first | rfl | (simp only [fa_lit, nI_add, pk_mul, nI_1]; done) | omega) (by omega) rfl dX10_recur_40 rfl ?_
        refine vs_gen (fun T4 e_T4 => ?_)
        have F : vs_fx S0 T4 [141, 142] [] [] := by rw [e_T4]; repeat (first | exact F | refine vs_fx.ia ?_ (by simp <;> omega) | refine vs_fx.sc ?_ (by simp <;> omega) | refine vs_fx.la ?_ (by simp <;> omega))
        have A2 : aR T4 142 i (pcon 1) := by rw [e_T4]; repeat (first | exact A2 | refine aR.ne ?_ (by omega))
        have A1 : aR T4 141 (i + 1) (pcon 1) := (by rw [e_T4]; have := aR.push A1; rw [e1] at this; exact this)
        clear e_T4
        refine vs_aload_n 0 dX10_recur_41 rfl rfl 2 rfl ?_
        refine vs_get (v := .ref (G.2.2.2 + 142)) lf_X10_80 rfl rfl dX10_recur_42 rfl ?_
        refine vs_iload_n 3 dX10_recur_45 rfl rfl 0 rfl ?_
        refine vs_iload_n 3 dX10_recur_46 rfl rfl 0 rfl ?_
        refine vs_if_ne 54 dX10_recur_47 rfl rfl (fun c_47 => ?_) (fun c_47 => ?_)
        · have q_47 : ¬ ((i : Nat) : Int) = ((0 : Nat) : Int) := fun hh => c_47 ((qi_eq (nI_Z _) (by first | exact nI_Z _ | (simp only [fa_lit, nI_add, pk_mul, nI_1]; exact nI_Z _)) (by omega) (by omega) (by omega) (by omega)).mpr hh)
          have e1 : pcon 1 i = 0 := if_neg (by omega)
          refine vs_iconst (v := 0) dX10_recur_54 rfl rfl ?_
          refine vs_iast (k := i) rfl (by first | rfl | (simp only [fa_lit, nI_add, pk_mul, nI_1]; done) | omega) (by omega) rfl dX10_recur_55 rfl ?_
          refine vs_gen (fun T5 e_T5 => ?_)
          have F : vs_fx S0 T5 [141, 142] [] [] := by rw [e_T5]; repeat (first | exact F | refine vs_fx.ia ?_ (by simp <;> omega) | refine vs_fx.sc ?_ (by simp <;> omega) | refine vs_fx.la ?_ (by simp <;> omega))
          have A1 : aR T5 141 (i + 1) (pcon 1) := by rw [e_T5]; repeat (first | exact A1 | refine aR.ne ?_ (by omega))
          have A2 : aR T5 142 (i + 1) (pcon 1) := (by rw [e_T5]; have := aR.push A2; rw [e1] at this; exact this)
          clear e_T5
          refine vs_iinc (v := nI (i + 1)) [(3, .int (nI (i + 1))), (2, .int (nI n)), (0, .ref (G.2.2.2 + 118)), (1, .int (nI f))] dX10_recur_56 rfl 0 rfl (by first | exact nI_1 _ | (simp only [fa_lit, nI_add, pk_mul, nI_1]; rfl)) rfl rfl ?_
          refine vs_goto 20 dX10_recur_59 rfl ?_
          refine vs_pick [0, 1, 2, 3] rfl ?_
          exact ih (i + 1) _ (by omega) F A1 A2
        · have q_47 : ((i : Nat) : Int) = ((0 : Nat) : Int) := (qi_eq (nI_Z _) (by first | exact nI_Z _ | (simp only [fa_lit, nI_add, pk_mul, nI_1]; exact nI_Z _)) (by omega) (by omega) (by omega) (by omega)).mp c_47
          have e1 : pcon 1 i = 1 := if_pos (by omega)
          refine vs_iconst (v := 1) dX10_recur_50 rfl rfl ?_
          refine vs_goto 55 dX10_recur_51 rfl ?_
          refine vs_iast (k := i) rfl (by first | rfl | (simp only [fa_lit, nI_add, pk_mul, nI_1]; done) | omega) (by omega) rfl dX10_recur_55 rfl ?_
          refine vs_gen (fun T6 e_T6 => ?_)
          have F : vs_fx S0 T6 [141, 142] [] [] := by rw [e_T6]; repeat (first | exact F | refine vs_fx.ia ?_ (by simp <;> omega) | refine vs_fx.sc ?_ (by simp <;> omega) | refine vs_fx.la ?_ (by simp <;> omega))
          have A1 : aR T6 141 (i + 1) (pcon 1) := by rw [e_T6]; repeat (first | exact A1 | refine aR.ne ?_ (by omega))
          have A2 : aR T6 142 (i + 1) (pcon 1) := (by rw [e_T6]; have := aR.push A2; rw [e1] at this; exact this)
          clear e_T6
          refine vs_iinc (v := nI (i + 1)) [(3, .int (nI (i + 1))), (2, .int (nI n)), (0, .ref (G.2.2.2 + 118)), (1, .int (nI f))] dX10_recur_56 rfl 0 rfl (by first | exact nI_1 _ | (simp only [fa_lit, nI_add, pk_mul, nI_1]; rfl)) rfl rfl ?_
          refine vs_goto 20 dX10_recur_59 rfl ?_
          refine vs_pick [0, 1, 2, 3] rfl ?_
          exact ih (i + 1) _ (by omega) F A1 A2

theorem l_mbs {G : vv_G} {S : vs_S} {f n k : Nat} {c : Nat → Nat} {P : Nat} (hf : f < 10) (hn : n ≤ 40) (hk : k ≤ n) (gP1 : 2 ≤ P) (gP2 : P ≤ 30011) (bc : ∀ k, c k < P) {x : bmT} (hx : bmG P k x) (cf : ∀ k, k ≤ n → S.2.1 125 (41 * f + k) = nI (c k)) (hR : aR S 141 42 x.2.2.2.1) {Pst : Option Value → vs_S → Prop} (K : vs_V G cX10_recur (vs_MP yX10_recur 12 (some .int) { frames := 5, locals := 124 } G Pst) 129 [(7, .long (lN (fsm x.2.2.2.1 c k (x.1 + 1)))), (6, .int (nI k)), (5, .int (nI (x.2.2.1))), (4, .int (nI (x.2.1))), (3, .int (nI (x.1))), (2, .int (nI n)), (0, .ref (G.2.2.2 + 118)), (1, .int (nI f))] [] S) : ∀ d i : Nat, i + d = x.1 + 1 → vs_V G cX10_recur (vs_MP yX10_recur 12 (some .int) { frames := 5, locals := 124 } G Pst) 85 [(9, .int (nI i)), (7, .long (lN (fsm x.2.2.2.1 c k i))), (6, .int (nI k)), (5, .int (nI (x.2.2.1))), (4, .int (nI (x.2.1))), (3, .int (nI (x.1))), (2, .int (nI n)), (0, .ref (G.2.2.2 + 118)), (1, .int (nI f))] [] S := by
  obtain ⟨g1, g2, g3, g4, g5, g6, g7⟩ := hx
  intro d
  induction d with
  | zero =>
    intro i hi
    obtain rfl : i = x.1 + 1 := by omega
    refine vs_iload dX10_recur_85 rfl 0 rfl ?_
    refine vs_iload_n 3 dX10_recur_87 rfl rfl 5 rfl ?_
    refine vs_icmp_gt 129 dX10_recur_88 rfl rfl (fun c_88 => ?_) (fun c_88 => ?_)
    · have q_88 : (((x.1 + 1) : Nat) : Int) > (((x.1) : Nat) : Int) := (qi_gt (nI_Z _) (nI_Z _) (by omega) (by omega) (by omega) (by omega)).mp c_88
      refine vs_pick [1, 2, 3, 4, 5, 6, 7, 8] rfl ?_
      exact K
    · have q_88 : ¬ (((x.1 + 1) : Nat) : Int) > (((x.1) : Nat) : Int) := fun hh => c_88 ((qi_gt (nI_Z _) (nI_Z _) (by omega) (by omega) (by omega) (by omega)).mpr hh)
      omega
  | succ d ih =>
    intro i hi
    have b1 := g4 i
    have b2 := bc (k - i)
    have e1 : fsm x.2.2.2.1 c k (i + 1) = fsm x.2.2.2.1 c k i + x.2.2.2.1 i * c (k - i) := by show _ + x.2.2.2.1 i * pz c ((k : Int) - i) = _; rw [show ((k : Int) - i) = ((k - i : Nat) : Int) by omega, pz_n]
    refine vs_iload dX10_recur_85 rfl 0 rfl ?_
    refine vs_iload_n 3 dX10_recur_87 rfl rfl 5 rfl ?_
    refine vs_icmp_gt 129 dX10_recur_88 rfl rfl (fun c_88 => ?_) (fun c_88 => ?_)
    · have q_88 : ((i : Nat) : Int) > (((x.1) : Nat) : Int) := (qi_gt (nI_Z _) (nI_Z _) (by omega) (by omega) (by omega) (by omega)).mp c_88
      omega
    · have q_88 : ¬ ((i : Nat) : Int) > (((x.1) : Nat) : Int) := fun hh => c_88 ((qi_gt (nI_Z _) (nI_Z _) (by omega) (by omega) (by omega) (by omega)).mpr hh)
      refine vs_iload dX10_recur_91 rfl 0 rfl ?_
      refine vs_iload dX10_recur_93 rfl 2 rfl ?_
      refine vs_icmp_gt 129 dX10_recur_95 rfl rfl (fun c_95 => ?_) (fun c_95 => ?_)
      · have q_95 : ((i : Nat) : Int) > ((k : Nat) : Int) := (qi_gt (nI_Z _) (nI_Z _) (by omega) (by omega) (by omega) (by omega)).mp c_95
        omega
      · have q_95 : ¬ ((i : Nat) : Int) > ((k : Nat) : Int) := fun hh => c_95 ((qi_gt (nI_Z _) (nI_Z _) (by omega) (by omega) (by omega) (by omega)).mpr hh)
        refine vs_lload dX10_recur_98 rfl 1 rfl ?_
        refine vs_aload_n 0 dX10_recur_100 rfl rfl 7 rfl ?_
        refine vs_get (v := .ref (G.2.2.2 + 141)) lf_X10_77 rfl rfl dX10_recur_101 rfl ?_
        refine vs_iload dX10_recur_104 rfl 0 rfl ?_
        refine vs_iald (k := i) rfl rfl (by omega) rfl dX10_recur_106 rfl ?_
        refine vs_topi (fun z1 e_z1 => ?_)
        have f_z1 : z1 = nI (x.2.2.2.1 i) := (by rw [e_z1]; exact hR i (by omega))
        subst f_z1
        clear e_z1
        refine vs_i2l dX10_recur_107 rfl ?_
        refine vs_aload_n 0 dX10_recur_108 rfl rfl 7 rfl ?_
        refine vs_iload_n 1 dX10_recur_109 rfl rfl 8 rfl ?_
        refine vs_iload dX10_recur_110 rfl 2 rfl ?_
        refine vs_iload dX10_recur_112 rfl 0 rfl ?_
        refine vs_isub dX10_recur_114 rfl ?_
        refine vs_topi (fun z2 e_z2 => ?_)
        have f_z2 : z2 = nI (k - i) := (by rw [e_z2]; exact pk_sub (by omega))
        subst f_z2
        clear e_z2
        refine vs_callV (st := [.long ((nI (x.2.2.2.1 i)).toInt64), .long (lN (fsm x.2.2.2.1 c k i))]) (c_mof (f := f) (k := k - i) (v := c (k - i)) hf (by omega) (cf _ (by omega))) lk_X10_161 lm_X10_of rfl rfl rfl rfl (Nat.le_of_ble_eq_true rfl) rfl ⟨rfl, rfl⟩ dX10_recur_115 rfl ?_
        show vs_V _ _ _ _ _ (.int (nI (c (k - i))) :: _) _
        refine vs_i2l dX10_recur_118 rfl ?_
        refine vs_lmul dX10_recur_119 rfl ?_
        refine vs_ladd dX10_recur_120 rfl ?_
        refine vs_topl (fun z3 e_z3 => ?_)
        have f_z3 : z3 = lN (fsm x.2.2.2.1 c k (i + 1)) := (by rw [e_z3, nn_mul (by omega) (by omega), lN_add, e1])
        subst f_z3
        clear e_z3
        refine vs_topl (fun ww e_ww => ?_)
        have e2_ww : ww = lN (fsm x.2.2.2.1 c k (i + 1)) := e_ww
        clear e_ww
        subst e2_ww
        refine vs_lstore [(7, .long (lN (fsm x.2.2.2.1 c k (i + 1)))), (9, .int (nI i)), (6, .int (nI k)), (5, .int (nI (x.2.2.1))), (4, .int (nI (x.2.1))), (3, .int (nI (x.1))), (2, .int (nI n)), (0, .ref (G.2.2.2 + 118)), (1, .int (nI f))] dX10_recur_121 rfl rfl rfl ?_
        refine vs_iinc (v := nI (i + 1)) [(9, .int (nI (i + 1))), (7, .long (lN (fsm x.2.2.2.1 c k (i + 1)))), (6, .int (nI k)), (5, .int (nI (x.2.2.1))), (4, .int (nI (x.2.1))), (3, .int (nI (x.1))), (2, .int (nI n)), (0, .ref (G.2.2.2 + 118)), (1, .int (nI f))] dX10_recur_123 rfl 1 rfl (by first | exact nI_1 _ | (simp only [fa_lit, nI_add, pk_mul, nI_1]; rfl)) rfl rfl ?_
        refine vs_goto 85 dX10_recur_126 rfl ?_
        refine vs_pick [0, 1, 2, 3, 4, 5, 6, 7, 8] rfl ?_
        exact ih (i + 1) (by omega)

theorem l_mbk {G : vv_G} {S : vs_S} {f n k y z : Nat} {x : bmT} {R : Nat → Nat} {S0 : vs_S} (hR0 : aR S0 141 45 R) {Pst : Option Value → vs_S → Prop} (K : ∀ S2 : vs_S, vs_fx S0 S2 [143] [] [] → aR S2 143 45 R → vs_V G cX10_recur (vs_MP yX10_recur 12 (some .int) { frames := 5, locals := 124 } G Pst) 192 [(10, .int (nI y)), (9, .int (nI z)), (6, .int (nI k)), (5, .int (nI (x.2.2.1))), (4, .int (nI (x.2.1))), (3, .int (nI (x.1))), (2, .int (nI n)), (0, .ref (G.2.2.2 + 118)), (1, .int (nI f))] [] S2) : ∀ (d i : Nat) (S : vs_S), i + d = 45 → vs_fx S0 S [143] [] [] → aR S 143 i R → vs_V G cX10_recur (vs_MP yX10_recur 12 (some .int) { frames := 5, locals := 124 } G Pst) 165 [(11, .int (nI i)), (10, .int (nI y)), (9, .int (nI z)), (6, .int (nI k)), (5, .int (nI (x.2.2.1))), (4, .int (nI (x.2.1))), (3, .int (nI (x.1))), (2, .int (nI n)), (0, .ref (G.2.2.2 + 118)), (1, .int (nI f))] [] S := by
  intro d
  induction d with
  | zero =>
    intro i S hi F A1
    obtain rfl : 45 = i := by omega
    have hR : aR S 141 45 R := aR.fx hR0 F (by simp <;> omega)
    refine vs_iload dX10_recur_165 rfl 0 rfl ?_
    refine vs_bipush (v := 45) dX10_recur_167 rfl rfl ?_
    refine vs_icmp_ge 192 dX10_recur_169 rfl rfl (fun c_169 => ?_) (fun c_169 => ?_)
    · have q_169 : ((45 : Nat) : Int) ≥ ((45 : Nat) : Int) := (qi_ge (nI_Z _) (by first | exact nI_Z _ | (simp only [fa_lit, nI_add, pk_mul, nI_1]; exact nI_Z _)) (by omega) (by omega) (by omega) (by omega)).mp c_169
      refine vs_pick (L2 := [(10, .int (nI y)), (9, .int (nI z)), (6, .int (nI k)), (5, .int (nI (x.2.2.1))), (4, .int (nI (x.2.1))), (3, .int (nI (x.1))), (2, .int (nI n)), (0, .ref (G.2.2.2 + 118)), (1, .int (nI f))]) [1, 2, 3, 4, 5, 6, 7, 8, 9] rfl ?_
      exact K S F A1
    · have q_169 : ¬ ((45 : Nat) : Int) ≥ ((45 : Nat) : Int) := fun hh => c_169 ((qi_ge (nI_Z _) (by first | exact nI_Z _ | (simp only [fa_lit, nI_add, pk_mul, nI_1]; exact nI_Z _)) (by omega) (by omega) (by omega) (by omega)).mpr hh)
      omega
  | succ d ih =>
    intro i S hi F A1
    have hR : aR S 141 45 R := aR.fx hR0 F (by simp <;> omega)
    refine vs_iload dX10_recur_165 rfl 0 rfl ?_
    refine vs_bipush (v := 45) dX10_recur_167 rfl rfl ?_
    refine vs_icmp_ge 192 dX10_recur_169 rfl rfl (fun c_169 => ?_) (fun c_169 => ?_)
    · have q_169 : ((i : Nat) : Int) ≥ ((45 : Nat) : Int) := (qi_ge (nI_Z _) (by first | exact nI_Z _ | (simp only [fa_lit, nI_add, pk_mul, nI_1]; exact nI_Z _)) (by omega) (by omega) (by omega) (by omega)).mp c_169
      omega
    · have q_169 : ¬ ((i : Nat) : Int) ≥ ((45 : Nat) : Int) := fun hh => c_169 ((qi_ge (nI_Z _) (by first | exact nI_Z _ | (simp only [fa_lit, nI_add, pk_mul, nI_1]; exact nI_Z _)) (by omega) (by omega) (by omega) (by omega)).mpr hh)
      refine vs_aload_n 0 dX10_recur_172 rfl rfl 8 rfl ?_
      refine vs_get (v := .ref (G.2.2.2 + 143)) lf_X10_83 rfl rfl dX10_recur_173 rfl ?_
      refine vs_iload dX10_recur_176 rfl 0 rfl ?_
      refine vs_aload_n 0 dX10_recur_178 rfl rfl 8 rfl ?_
      refine vs_get (v := .ref (G.2.2.2 + 141)) lf_X10_77 rfl rfl dX10_recur_179 rfl ?_
      refine vs_iload dX10_recur_182 rfl 0 rfl ?_
      refine vs_iald (k := i) rfl rfl (by omega) rfl dX10_recur_184 rfl ?_
      refine vs_topi (fun z1 e_z1 => ?_)
      have f_z1 : z1 = nI (R i) := (by rw [e_z1]; exact hR i (by omega))
      subst f_z1
      clear e_z1
      refine vs_iast (k := i) rfl (by first | rfl | (simp only [fa_lit, nI_add, pk_mul, nI_1]; done) | omega) (by omega) rfl dX10_recur_185 rfl ?_
      refine vs_gen (fun T1 e_T1 => ?_)
      have hR : aR T1 141 45 R := by rw [e_T1]; repeat (first | exact hR | refine aR.ne ?_ (by omega))
      have F : vs_fx S0 T1 [143] [] [] := by rw [e_T1]; repeat (first | exact F | refine vs_fx.ia ?_ (by simp <;> omega) | refine vs_fx.sc ?_ (by simp <;> omega) | refine vs_fx.la ?_ (by simp <;> omega))
      have A1 : aR T1 143 (i + 1) R := (by rw [e_T1]; exact aR.push A1)
      clear e_T1
      refine vs_iinc (v := nI (i + 1)) [(11, .int (nI (i + 1))), (10, .int (nI y)), (9, .int (nI z)), (6, .int (nI k)), (5, .int (nI (x.2.2.1))), (4, .int (nI (x.2.1))), (3, .int (nI (x.1))), (2, .int (nI n)), (0, .ref (G.2.2.2 + 118)), (1, .int (nI f))] dX10_recur_186 rfl 0 rfl (by first | exact nI_1 _ | (simp only [fa_lit, nI_add, pk_mul, nI_1]; rfl)) rfl rfl ?_
      refine vs_goto 165 dX10_recur_189 rfl ?_
      refine vs_pick [0, 1, 2, 3, 4, 5, 6, 7, 8, 9] rfl ?_
      exact ih (i + 1) _ (by omega) F A1

theorem l_mbb {G : vv_G} {S : vs_S} {f n k y z q : Nat} {x : bmT} {R : Nat → Nat} {S0 : vs_S} (hR0 : aR S0 143 45 R) {Pst : Option Value → vs_S → Prop} (K : ∀ S2 : vs_S, vs_fx S0 S2 [142] [] [] → aR S2 142 45 R → vs_V G cX10_recur (vs_MP yX10_recur 12 (some .int) { frames := 5, locals := 124 } G Pst) 294 [(9, .int (nI z)), (6, .int (nI k)), (3, .int (nI q)), (2, .int (nI n)), (0, .ref (G.2.2.2 + 118)), (1, .int (nI f))] [] S2) : ∀ (d i : Nat) (S : vs_S), i + d = 45 → vs_fx S0 S [142] [] [] → aR S 142 i R → vs_V G cX10_recur (vs_MP yX10_recur 12 (some .int) { frames := 5, locals := 124 } G Pst) 267 [(11, .int (nI i)), (10, .int (nI y)), (9, .int (nI z)), (6, .int (nI k)), (5, .int (nI (x.2.2.1))), (4, .int (nI (x.2.1))), (3, .int (nI q)), (2, .int (nI n)), (0, .ref (G.2.2.2 + 118)), (1, .int (nI f))] [] S := by
  intro d
  induction d with
  | zero =>
    intro i S hi F A1
    obtain rfl : 45 = i := by omega
    have hR : aR S 143 45 R := aR.fx hR0 F (by simp <;> omega)
    refine vs_iload dX10_recur_267 rfl 0 rfl ?_
    refine vs_bipush (v := 45) dX10_recur_269 rfl rfl ?_
    refine vs_icmp_ge 294 dX10_recur_271 rfl rfl (fun c_271 => ?_) (fun c_271 => ?_)
    · have q_271 : ((45 : Nat) : Int) ≥ ((45 : Nat) : Int) := (qi_ge (nI_Z _) (by first | exact nI_Z _ | (simp only [fa_lit, nI_add, pk_mul, nI_1]; exact nI_Z _)) (by omega) (by omega) (by omega) (by omega)).mp c_271
      refine vs_pick (L2 := [(9, .int (nI z)), (6, .int (nI k)), (3, .int (nI q)), (2, .int (nI n)), (0, .ref (G.2.2.2 + 118)), (1, .int (nI f))]) [2, 3, 6, 7, 8, 9] rfl ?_
      exact K S F A1
    · have q_271 : ¬ ((45 : Nat) : Int) ≥ ((45 : Nat) : Int) := fun hh => c_271 ((qi_ge (nI_Z _) (by first | exact nI_Z _ | (simp only [fa_lit, nI_add, pk_mul, nI_1]; exact nI_Z _)) (by omega) (by omega) (by omega) (by omega)).mpr hh)
      omega
  | succ d ih =>
    intro i S hi F A1
    have hR : aR S 143 45 R := aR.fx hR0 F (by simp <;> omega)
    refine vs_iload dX10_recur_267 rfl 0 rfl ?_
    refine vs_bipush (v := 45) dX10_recur_269 rfl rfl ?_
    refine vs_icmp_ge 294 dX10_recur_271 rfl rfl (fun c_271 => ?_) (fun c_271 => ?_)
    · have q_271 : ((i : Nat) : Int) ≥ ((45 : Nat) : Int) := (qi_ge (nI_Z _) (by first | exact nI_Z _ | (simp only [fa_lit, nI_add, pk_mul, nI_1]; exact nI_Z _)) (by omega) (by omega) (by omega) (by omega)).mp c_271
      omega
    · have q_271 : ¬ ((i : Nat) : Int) ≥ ((45 : Nat) : Int) := fun hh => c_271 ((qi_ge (nI_Z _) (by first | exact nI_Z _ | (simp only [fa_lit, nI_add, pk_mul, nI_1]; exact nI_Z _)) (by omega) (by omega) (by omega) (by omega)).mpr hh)
      refine vs_aload_n 0 dX10_recur_274 rfl rfl 8 rfl ?_
      refine vs_get (v := .ref (G.2.2.2 + 142)) lf_X10_80 rfl rfl dX10_recur_275 rfl ?_
      refine vs_iload dX10_recur_278 rfl 0 rfl ?_
      refine vs_aload_n 0 dX10_recur_280 rfl rfl 8 rfl ?_
      refine vs_get (v := .ref (G.2.2.2 + 143)) lf_X10_83 rfl rfl dX10_recur_281 rfl ?_
      refine vs_iload dX10_recur_284 rfl 0 rfl ?_
      refine vs_iald (k := i) rfl rfl (by omega) rfl dX10_recur_286 rfl ?_
      refine vs_topi (fun z1 e_z1 => ?_)
      have f_z1 : z1 = nI (R i) := (by rw [e_z1]; exact hR i (by omega))
      subst f_z1
      clear e_z1
      refine vs_iast (k := i) rfl (by first | rfl | (simp only [fa_lit, nI_add, pk_mul, nI_1]; done) | omega) (by omega) rfl dX10_recur_287 rfl ?_
      refine vs_gen (fun T1 e_T1 => ?_)
      have hR : aR T1 143 45 R := by rw [e_T1]; repeat (first | exact hR | refine aR.ne ?_ (by omega))
      have F : vs_fx S0 T1 [142] [] [] := by rw [e_T1]; repeat (first | exact F | refine vs_fx.ia ?_ (by simp <;> omega) | refine vs_fx.sc ?_ (by simp <;> omega) | refine vs_fx.la ?_ (by simp <;> omega))
      have A1 : aR T1 142 (i + 1) R := (by rw [e_T1]; exact aR.push A1)
      clear e_T1
      refine vs_iinc (v := nI (i + 1)) [(11, .int (nI (i + 1))), (10, .int (nI y)), (9, .int (nI z)), (6, .int (nI k)), (5, .int (nI (x.2.2.1))), (4, .int (nI (x.2.1))), (3, .int (nI q)), (2, .int (nI n)), (0, .ref (G.2.2.2 + 118)), (1, .int (nI f))] dX10_recur_288 rfl 0 rfl (by first | exact nI_1 _ | (simp only [fa_lit, nI_add, pk_mul, nI_1]; rfl)) rfl rfl ?_
      refine vs_goto 267 dX10_recur_291 rfl ?_
      refine vs_pick [0, 1, 2, 3, 4, 5, 6, 7, 8, 9] rfl ?_
      exact ih (i + 1) _ (by omega) F A1

theorem l_mbt {G : vv_G} {S : vs_S} {f n k y z : Nat} {x : bmT} {R B : Nat → Nat} {P : Nat} (gP1 : 2 ≤ P) (gP2 : P ≤ 30011) (hs : x.2.1 ≤ 41) (hy : y < P) (bR : ∀ k, R k < P) (bB : ∀ k, B k < P) {S0 : vs_S} (mP0 : S0.1 118 2 = nI P) (hB0 : aR S0 142 45 B) {Pst : Option Value → vs_S → Prop} (K : ∀ S2 : vs_S, vs_fx S0 S2 [141] [] [] → aR S2 141 45 (amk R B (nn_m (-(y : Int)) P) x.2.1 P 45) → vs_V G cX10_recur (vs_MP yX10_recur 12 (some .int) { frames := 5, locals := 124 } G Pst) 249 [(10, .int (nI y)), (9, .int (nI z)), (6, .int (nI k)), (5, .int (nI (x.2.2.1))), (4, .int (nI (x.2.1))), (3, .int (nI (x.1))), (2, .int (nI n)), (0, .ref (G.2.2.2 + 118)), (1, .int (nI f))] [] S2) : ∀ (d i : Nat) (S : vs_S), i + x.2.1 + d = 45 → vs_fx S0 S [141] [] [] → aR S 141 45 (amk R B (nn_m (-(y : Int)) P) x.2.1 P (i + x.2.1)) → vs_V G cX10_recur (vs_MP yX10_recur 12 (some .int) { frames := 5, locals := 124 } G Pst) 195 [(11, .int (nI i)), (10, .int (nI y)), (9, .int (nI z)), (6, .int (nI k)), (5, .int (nI (x.2.2.1))), (4, .int (nI (x.2.1))), (3, .int (nI (x.1))), (2, .int (nI n)), (0, .ref (G.2.2.2 + 118)), (1, .int (nI f))] [] S := by
  intro d
  induction d with
  | zero =>
    intro i S hi F A1
    rw [show i + x.2.1 = 45 by omega] at A1
    refine vs_iload dX10_recur_195 rfl 0 rfl ?_
    refine vs_iload dX10_recur_197 rfl 5 rfl ?_
    refine vs_iadd dX10_recur_199 rfl ?_
    refine vs_bipush (v := 45) dX10_recur_200 rfl rfl ?_
    refine vs_icmp_ge 249 dX10_recur_202 rfl rfl (fun c_202 => ?_) (fun c_202 => ?_)
    · have q_202 : (((i + (x.2.1)) : Nat) : Int) ≥ ((45 : Nat) : Int) := (qi_ge (by first | exact nI_Z _ | (simp only [fa_lit, nI_add, pk_mul, nI_1]; exact nI_Z _)) (by first | exact nI_Z _ | (simp only [fa_lit, nI_add, pk_mul, nI_1]; exact nI_Z _)) (by omega) (by omega) (by omega) (by omega)).mp c_202
      refine vs_pick [1, 2, 3, 4, 5, 6, 7, 8, 9] rfl ?_
      exact K S F A1
    · have q_202 : ¬ (((i + (x.2.1)) : Nat) : Int) ≥ ((45 : Nat) : Int) := fun hh => c_202 ((qi_ge (by first | exact nI_Z _ | (simp only [fa_lit, nI_add, pk_mul, nI_1]; exact nI_Z _)) (by first | exact nI_Z _ | (simp only [fa_lit, nI_add, pk_mul, nI_1]; exact nI_Z _)) (by omega) (by omega) (by omega) (by omega)).mpr hh)
      omega
  | succ d ih =>
    intro i S hi F A1
    have mP : S.1 118 2 = nI P := (F.2.1 _ _ (by simp)).trans mP0
    have hB := aR.fx hB0 F (by simp)
    have e0 : (amk R B (nn_m (-(y : Int)) P) x.2.1 P (i + x.2.1)) (i + x.2.1) = R (i + x.2.1) := if_neg (by omega)
    have b1 := bR (i + x.2.1)
    have b2 := bB i
    have e2 : nn_m ((R (i + x.2.1) : Int) - (y : Int) * B i) P = (R (i + x.2.1) + nn_m (-(y : Int)) P * B (i + x.2.1 - x.2.1)) % P := by rw [nn_take (by omega), show i + x.2.1 - x.2.1 = i by omega]
    refine vs_iload dX10_recur_195 rfl 0 rfl ?_
    refine vs_iload dX10_recur_197 rfl 5 rfl ?_
    refine vs_iadd dX10_recur_199 rfl ?_
    refine vs_bipush (v := 45) dX10_recur_200 rfl rfl ?_
    refine vs_icmp_ge 249 dX10_recur_202 rfl rfl (fun c_202 => ?_) (fun c_202 => ?_)
    · have q_202 : (((i + (x.2.1)) : Nat) : Int) ≥ ((45 : Nat) : Int) := (qi_ge (by first | exact nI_Z _ | (simp only [fa_lit, nI_add, pk_mul, nI_1]; exact nI_Z _)) (by first | exact nI_Z _ | (simp only [fa_lit, nI_add, pk_mul, nI_1]; exact nI_Z _)) (by omega) (by omega) (by omega) (by omega)).mp c_202
      omega
    · have q_202 : ¬ (((i + (x.2.1)) : Nat) : Int) ≥ ((45 : Nat) : Int) := fun hh => c_202 ((qi_ge (by first | exact nI_Z _ | (simp only [fa_lit, nI_add, pk_mul, nI_1]; exact nI_Z _)) (by first | exact nI_Z _ | (simp only [fa_lit, nI_add, pk_mul, nI_1]; exact nI_Z _)) (by omega) (by omega) (by omega) (by omega)).mpr hh)
      refine vs_aload_n 0 dX10_recur_205 rfl rfl 8 rfl ?_
      refine vs_get (v := .ref (G.2.2.2 + 141)) lf_X10_77 rfl rfl dX10_recur_206 rfl ?_
      refine vs_iload dX10_recur_209 rfl 0 rfl ?_
      refine vs_iload dX10_recur_211 rfl 5 rfl ?_
      refine vs_iadd dX10_recur_213 rfl ?_
      refine vs_aload_n 0 dX10_recur_214 rfl rfl 8 rfl ?_
      refine vs_aload_n 0 dX10_recur_215 rfl rfl 8 rfl ?_
      refine vs_get (v := .ref (G.2.2.2 + 141)) lf_X10_77 rfl rfl dX10_recur_216 rfl ?_
      refine vs_iload dX10_recur_219 rfl 0 rfl ?_
      refine vs_iload dX10_recur_221 rfl 5 rfl ?_
      refine vs_iadd dX10_recur_223 rfl ?_
      refine vs_iald (k := (i + x.2.1)) rfl (nI_add _ _) (by omega) rfl dX10_recur_224 rfl ?_
      refine vs_topi (fun z1 e_z1 => ?_)
      have f_z1 : z1 = nI (R (i + x.2.1)) := (by rw [e_z1, A1 _ (by omega), e0])
      subst f_z1
      clear e_z1
      refine vs_i2l dX10_recur_225 rfl ?_
      refine vs_iload dX10_recur_226 rfl 1 rfl ?_
      refine vs_i2l dX10_recur_228 rfl ?_
      refine vs_aload_n 0 dX10_recur_229 rfl rfl 8 rfl ?_
      refine vs_get (v := .ref (G.2.2.2 + 142)) lf_X10_80 rfl rfl dX10_recur_230 rfl ?_
      refine vs_iload dX10_recur_233 rfl 0 rfl ?_
      refine vs_iald (k := i) rfl rfl (by omega) rfl dX10_recur_235 rfl ?_
      refine vs_topi (fun z2 e_z2 => ?_)
      have f_z2 : z2 = nI (B i) := (by rw [e_z2]; exact hB i (by omega))
      subst f_z2
      clear e_z2
      refine vs_i2l dX10_recur_236 rfl ?_
      refine vs_lmul dX10_recur_237 rfl ?_
      refine vs_lsub dX10_recur_238 rfl ?_
      refine vs_callV (st := [.int ((nI i + nI (x.2.1))), .ref (G.2.2.2 + 141)]) (c_restZ (z := (R (i + x.2.1) : Int) - (y : Int) * B i) (nn_msub2 hy b2 b1 gP2) mP gP1 gP2) lk_X10_135 lm_X10_rest rfl rfl rfl rfl (Nat.le_of_ble_eq_true rfl) rfl ⟨rfl, rfl⟩ dX10_recur_239 rfl ?_
      show vs_V _ _ _ _ _ (.int (nI (nn_m ((R (i + x.2.1) : Int) - (y : Int) * B i) P)) :: _) _
      refine vs_iast (k := (i + x.2.1)) rfl (nI_add _ _) (by omega) rfl dX10_recur_242 rfl ?_
      refine vs_iinc (v := nI (i + 1)) [(11, .int (nI (i + 1))), (10, .int (nI y)), (9, .int (nI z)), (6, .int (nI k)), (5, .int (nI (x.2.2.1))), (4, .int (nI (x.2.1))), (3, .int (nI (x.1))), (2, .int (nI n)), (0, .ref (G.2.2.2 + 118)), (1, .int (nI f))] dX10_recur_243 rfl 0 rfl (by first | exact nI_1 _ | (simp only [fa_lit, nI_add, pk_mul, nI_1]; rfl)) rfl rfl ?_
      refine vs_goto 195 dX10_recur_246 rfl ?_
      refine vs_pick [0, 1, 2, 3, 4, 5, 6, 7, 8, 9] rfl ?_
      have A2 := aR.put (j := i + x.2.1) (x := nn_m ((R (i + x.2.1) : Int) - (y : Int) * B i) P) A1
      rw [e2, amk_s (by omega), show i + x.2.1 + 1 = i + 1 + x.2.1 by omega] at A2
      rw [e2]
      exact ih (i + 1) _ (by omega) (vs_fx.ia F (by simp)) A2

theorem l_mbm {G : vv_G} {S : vs_S} {f n : Nat} {c : Nat → Nat} {P : Nat} (hf : f < 10) (hn : n ≤ 40) (gP1 : 2 ≤ P) (gP2 : P ≤ 30011) (bc : ∀ k, c k < P) {S0 : vs_S} (mP0 : S0.1 118 2 = nI P) (cf0 : ∀ k, k ≤ n → S0.2.1 125 (41 * f + k) = nI (c k)) {Pst : Option Value → vs_S → Prop} (K : ∀ S2 : vs_S, vs_fx S0 S2 [141, 142, 143] [] [] → vs_V G cX10_recur (vs_MP yX10_recur 12 (some .int) { frames := 5, locals := 124 } G Pst) 313 [(3, .int (nI ((bmi P c (n + 1)).1))), (2, .int (nI n)), (0, .ref (G.2.2.2 + 118)), (1, .int (nI f))] [] S2) : ∀ (d k : Nat) (S : vs_S) (R B : Nat → Nat), k + d = n + 1 → vs_fx S0 S [141, 142, 143] [] [] → aR S 141 45 R → aR S 142 45 B → (∀ j, R j < P) → (∀ j, B j < P) → (∀ j, j < 42 → R j = (bmi P c k).2.2.2.1 j) → (∀ j, j < 42 → B j = (bmi P c k).2.2.2.2 j) → vs_V G cX10_recur (vs_MP yX10_recur 12 (some .int) { frames := 5, locals := 124 } G Pst) 73 [(6, .int (nI k)), (5, .int (nI ((bmi P c k).2.2.1))), (4, .int (nI ((bmi P c k).2.1))), (3, .int (nI ((bmi P c k).1))), (2, .int (nI n)), (0, .ref (G.2.2.2 + 118)), (1, .int (nI f))] [] S := by
  intro d
  induction d with
  | zero =>
    intro k S R B hk F A1 A2 bR bB hR hB
    obtain rfl : n + 1 = k := by omega
    refine vs_iload dX10_recur_73 rfl 0 rfl ?_
    refine vs_iload_n 2 dX10_recur_75 rfl rfl 4 rfl ?_
    refine vs_icmp_gt 313 dX10_recur_76 rfl rfl (fun c_76 => ?_) (fun c_76 => ?_)
    · have q_76 : (((n + 1) : Nat) : Int) > ((n : Nat) : Int) := (qi_gt (nI_Z _) (nI_Z _) (by omega) (by omega) (by omega) (by omega)).mp c_76
      refine vs_pick [3, 4, 5, 6] rfl ?_
      exact K S F
    · have q_76 : ¬ (((n + 1) : Nat) : Int) > ((n : Nat) : Int) := fun hh => c_76 ((qi_gt (nI_Z _) (nI_Z _) (by omega) (by omega) (by omega) (by omega)).mpr hh)
      omega
  | succ d ih =>
    intro k S R B hk F A1 A2 bR bB hR hB
    have mP : S.1 118 2 = nI P := (F.2.1 _ _ (by simp)).trans mP0
    have cf : ∀ k, k ≤ n → S.2.1 125 (41 * f + k) = nI (c k) := by rw [F.1 125 (by simp)]; exact cf0
    have hg := bmi_g (P := P) (c := c) gP1 k
    have hx : bmi P c (k + 1) = bm1 P c k (bmi P c k) := rfl
    generalize bmi P c k = x at *
    obtain ⟨g1, g2, g3, g4, g5, g6, g7⟩ := id hg
    have hfl := Nat.mod_lt (fsm x.2.2.2.1 c k (x.1 + 1)) (show P > 0 by omega)
    have hiv := ipw_lt (a := x.2.2.1) gP1
    have hfa := Nat.mod_lt (fsm x.2.2.2.1 c k (x.1 + 1) % P * ipw x.2.2.1 P) (show P > 0 by omega)
    have h63 := fsm_63 (k := k) (n := x.1 + 1) (show 0 < P by omega) gP2 g4 bc (by omega)
    unfold bm1 at hx
    refine vs_iload dX10_recur_73 rfl 0 rfl ?_
    refine vs_iload_n 2 dX10_recur_75 rfl rfl 4 rfl ?_
    refine vs_icmp_gt 313 dX10_recur_76 rfl rfl (fun c_76 => ?_) (fun c_76 => ?_)
    · have q_76 : ((k : Nat) : Int) > ((n : Nat) : Int) := (qi_gt (nI_Z _) (nI_Z _) (by omega) (by omega) (by omega) (by omega)).mp c_76
      omega
    · have q_76 : ¬ ((k : Nat) : Int) > ((n : Nat) : Int) := fun hh => c_76 ((qi_gt (nI_Z _) (nI_Z _) (by omega) (by omega) (by omega) (by omega)).mpr hh)
      refine vs_lconst (v := 0) dX10_recur_79 rfl rfl ?_
      refine vs_lstore [(7, .long (0)), (6, .int (nI k)), (5, .int (nI (x.2.2.1))), (4, .int (nI (x.2.1))), (3, .int (nI (x.1))), (2, .int (nI n)), (0, .ref (G.2.2.2 + 118)), (1, .int (nI f))] dX10_recur_80 rfl rfl rfl ?_
      refine vs_iconst (v := 0) dX10_recur_82 rfl rfl ?_
      refine vs_istore [(9, .int (0)), (7, .long (0)), (6, .int (nI k)), (5, .int (nI (x.2.2.1))), (4, .int (nI (x.2.1))), (3, .int (nI (x.1))), (2, .int (nI n)), (0, .ref (G.2.2.2 + 118)), (1, .int (nI f))] dX10_recur_83 rfl rfl rfl ?_
      refine vs_pick (L2 := [(9, .int (nI 0)), (7, .long (lN 0)), (6, .int (nI k)), (5, .int (nI (x.2.2.1))), (4, .int (nI (x.2.1))), (3, .int (nI (x.1))), (2, .int (nI n)), (0, .ref (G.2.2.2 + 118)), (1, .int (nI f))]) [0, 1, 2, 3, 4, 5, 6, 7, 8] rfl ?_
      refine l_mbs (S := S) (f := f) (n := n) (k := k) (c := c) hf hn (show k ≤ n by omega) gP1 gP2 bc hg cf ((A1.sub (by omega)).c hR) ?_ (x.1 + 1) 0 (by omega)
      refine vs_aload_n 0 dX10_recur_129 rfl rfl 6 rfl ?_
      refine vs_lload dX10_recur_130 rfl 0 rfl ?_
      refine vs_callV (st := []) (c_restN (k := fsm x.2.2.2.1 c k (x.1 + 1)) (pk_lT (by omega)) mP gP1 gP2) lk_X10_135 lm_X10_rest rfl rfl rfl rfl (Nat.le_of_ble_eq_true rfl) rfl ⟨rfl, rfl⟩ dX10_recur_132 rfl ?_
      show vs_V _ _ _ _ _ (.int (nI (fsm x.2.2.2.1 c k (x.1 + 1) % P)) :: _) _
      refine vs_istore [(9, .int (nI (fsm x.2.2.2.1 c k (x.1 + 1) % P))), (7, .long (lN (fsm x.2.2.2.1 c k (x.1 + 1)))), (6, .int (nI k)), (5, .int (nI (x.2.2.1))), (4, .int (nI (x.2.1))), (3, .int (nI (x.1))), (2, .int (nI n)), (0, .ref (G.2.2.2 + 118)), (1, .int (nI f))] dX10_recur_135 rfl rfl rfl ?_
      refine vs_iload dX10_recur_137 rfl 0 rfl ?_
      refine vs_if_ne 148 dX10_recur_139 rfl rfl (fun c_139 => ?_) (fun c_139 => ?_)
      · have q_139 : ¬ (((fsm x.2.2.2.1 c k (x.1 + 1) % P) : Nat) : Int) = ((0 : Nat) : Int) := fun hh => c_139 ((qi_eq (nI_Z _) (by first | exact nI_Z _ | (simp only [fa_lit, nI_add, pk_mul, nI_1]; exact nI_Z _)) (by omega) (by omega) (by omega) (by omega)).mpr hh)
        rw [if_neg (by omega)] at hx
        refine vs_aload_n 0 dX10_recur_148 rfl rfl 7 rfl ?_
        refine vs_iload dX10_recur_149 rfl 0 rfl ?_
        refine vs_aload_n 0 dX10_recur_151 rfl rfl 7 rfl ?_
        refine vs_iload dX10_recur_152 rfl 3 rfl ?_
        refine vs_callV (st := [.int (nI (fsm x.2.2.2.1 c k (x.1 + 1) % P)), .ref (G.2.2.2 + 118)]) (c_minverse (a := x.2.2.1) mP gP1 gP2 g3) lk_X10_142 lm_X10_inverse rfl rfl rfl rfl (Nat.le_of_ble_eq_true rfl) rfl ⟨rfl, rfl⟩ dX10_recur_154 rfl ?_
        show vs_V _ _ _ _ _ (.int (nI (ipw x.2.2.1 P)) :: _) _
        refine vs_callV (st := []) (c_product (x := (fsm x.2.2.2.1 c k (x.1 + 1) % P)) (y := ipw x.2.2.1 P) mP (by omega) (by omega) (by omega) (by omega)) lk_X10_99 lm_X10_product rfl rfl rfl rfl (Nat.le_of_ble_eq_true rfl) rfl ⟨rfl, rfl⟩ dX10_recur_157 rfl ?_
        show vs_V _ _ _ _ _ (.int (nI (fsm x.2.2.2.1 c k (x.1 + 1) % P * ipw x.2.2.1 P % P)) :: _) _
        refine vs_istore [(10, .int (nI (fsm x.2.2.2.1 c k (x.1 + 1) % P * ipw x.2.2.1 P % P))), (9, .int (nI (fsm x.2.2.2.1 c k (x.1 + 1) % P))), (7, .long (lN (fsm x.2.2.2.1 c k (x.1 + 1)))), (6, .int (nI k)), (5, .int (nI (x.2.2.1))), (4, .int (nI (x.2.1))), (3, .int (nI (x.1))), (2, .int (nI n)), (0, .ref (G.2.2.2 + 118)), (1, .int (nI f))] dX10_recur_160 rfl rfl rfl ?_
        refine vs_iconst (v := 0) dX10_recur_162 rfl rfl ?_
        refine vs_istore [(11, .int (0)), (10, .int (nI (fsm x.2.2.2.1 c k (x.1 + 1) % P * ipw x.2.2.1 P % P))), (9, .int (nI (fsm x.2.2.2.1 c k (x.1 + 1) % P))), (7, .long (lN (fsm x.2.2.2.1 c k (x.1 + 1)))), (6, .int (nI k)), (5, .int (nI (x.2.2.1))), (4, .int (nI (x.2.1))), (3, .int (nI (x.1))), (2, .int (nI n)), (0, .ref (G.2.2.2 + 118)), (1, .int (nI f))] dX10_recur_163 rfl rfl rfl ?_
        refine vs_pick (L2 := [(11, .int (nI 0)), (10, .int (nI (fsm x.2.2.2.1 c k (x.1 + 1) % P * ipw x.2.2.1 P % P))), (9, .int (nI (fsm x.2.2.2.1 c k (x.1 + 1) % P))), (6, .int (nI k)), (5, .int (nI (x.2.2.1))), (4, .int (nI (x.2.1))), (3, .int (nI (x.1))), (2, .int (nI n)), (0, .ref (G.2.2.2 + 118)), (1, .int (nI f))]) [0, 1, 2, 4, 5, 6, 7, 8, 9, 10] rfl ?_
        refine l_mbk (S := S) (S0 := S) A1 (fun S2 F2 C1 => ?_) 45 0 S rfl vs_fx.rf aR_0
        refine vs_iconst (v := 0) dX10_recur_192 rfl rfl ?_
        refine vs_istore [(11, .int (0)), (10, .int (nI (fsm x.2.2.2.1 c k (x.1 + 1) % P * ipw x.2.2.1 P % P))), (9, .int (nI (fsm x.2.2.2.1 c k (x.1 + 1) % P))), (6, .int (nI k)), (5, .int (nI (x.2.2.1))), (4, .int (nI (x.2.1))), (3, .int (nI (x.1))), (2, .int (nI n)), (0, .ref (G.2.2.2 + 118)), (1, .int (nI f))] dX10_recur_193 rfl rfl rfl ?_
        refine vs_pick (L2 := [(11, .int (nI 0)), (10, .int (nI (fsm x.2.2.2.1 c k (x.1 + 1) % P * ipw x.2.2.1 P % P))), (9, .int (nI (fsm x.2.2.2.1 c k (x.1 + 1) % P))), (6, .int (nI k)), (5, .int (nI (x.2.2.1))), (4, .int (nI (x.2.1))), (3, .int (nI (x.1))), (2, .int (nI n)), (0, .ref (G.2.2.2 + 118)), (1, .int (nI f))]) [0, 1, 2, 3, 4, 5, 6, 7, 8, 9] rfl ?_
        refine l_mbt (S := S) (R := R) (B := B) (P := P) gP1 gP2 (show x.2.1 ≤ 41 by omega) hfa bR bB (S0 := S2) ((F2.2.1 _ _ (by simp)).trans mP) (aR.fx A2 F2 (by simp)) (fun S3 F3 D1 => ?_) (45 - x.2.1) 0 S2 (by omega) vs_fx.rf ((aR.fx A1 F2 (by simp)).c (fun j _ => (by rw [Nat.zero_add, amk_0])))
        have C2 : aR S3 143 45 R := aR.fx C1 F3 (by simp)
        have A3 : aR S3 142 45 B := aR.fx (aR.fx A2 F2 (by simp)) F3 (by simp)
        have F4 : vs_fx S0 S3 [141, 142, 143] [] [] := vs_fx.tr (vs_fx.tr F F2 (by simp) (by simp) (by simp)) F3 (by simp) (by simp) (by simp)
        have hR2 := amk_42 (c := nn_m (-((fsm x.2.2.2.1 c k (x.1 + 1) % P * ipw x.2.2.1 P % P) : Int)) P) (sh := x.2.1) (P := P) hR hB
        have bR2 : ∀ j, amk R B (nn_m (-((fsm x.2.2.2.1 c k (x.1 + 1) % P * ipw x.2.2.1 P % P) : Int)) P) x.2.1 P 45 j < P := amk_b (by omega) bR
        refine vs_iconst (v := 2) dX10_recur_249 rfl rfl ?_
        refine vs_iload_n 3 dX10_recur_250 rfl rfl 5 rfl ?_
        refine vs_imul dX10_recur_251 rfl ?_
        refine vs_iload dX10_recur_252 rfl 2 rfl ?_
        refine vs_icmp_gt 304 dX10_recur_254 rfl rfl (fun c_254 => ?_) (fun c_254 => ?_)
        · have q_254 : (((2 * (x.1)) : Nat) : Int) > ((k : Nat) : Int) := (qi_gt (by first | exact nI_Z _ | (simp only [fa_lit, nI_add, pk_mul, nI_1]; exact nI_Z _)) (nI_Z _) (by omega) (by omega) (by omega) (by omega)).mp c_254
          rw [if_neg (by omega)] at hx
          refine vs_iinc (v := nI ((x.2.1) + 1)) [(4, .int (nI ((x.2.1) + 1))), (10, .int (nI (fsm x.2.2.2.1 c k (x.1 + 1) % P * ipw x.2.2.1 P % P))), (9, .int (nI (fsm x.2.2.2.1 c k (x.1 + 1) % P))), (6, .int (nI k)), (5, .int (nI (x.2.2.1))), (3, .int (nI (x.1))), (2, .int (nI n)), (0, .ref (G.2.2.2 + 118)), (1, .int (nI f))] dX10_recur_304 rfl 4 rfl (by first | exact nI_1 _ | (simp only [fa_lit, nI_add, pk_mul, nI_1]; rfl)) rfl rfl ?_
          refine vs_iinc (v := nI (k + 1)) [(6, .int (nI (k + 1))), (4, .int (nI ((x.2.1) + 1))), (10, .int (nI (fsm x.2.2.2.1 c k (x.1 + 1) % P * ipw x.2.2.1 P % P))), (9, .int (nI (fsm x.2.2.2.1 c k (x.1 + 1) % P))), (5, .int (nI (x.2.2.1))), (3, .int (nI (x.1))), (2, .int (nI n)), (0, .ref (G.2.2.2 + 118)), (1, .int (nI f))] dX10_recur_307 rfl 3 rfl (by first | exact nI_1 _ | (simp only [fa_lit, nI_add, pk_mul, nI_1]; rfl)) rfl rfl ?_
          refine vs_goto 73 dX10_recur_310 rfl ?_
          refine vs_pick (L2 := [(6, .int (nI (k + 1))), (5, .int (nI (x.2.2.1))), (4, .int (nI (x.2.1 + 1))), (3, .int (nI (x.1))), (2, .int (nI n)), (0, .ref (G.2.2.2 + 118)), (1, .int (nI f))]) [0, 4, 1, 5, 6, 7, 8] rfl ?_
          have ih2 := ih (k + 1) S3 _ B (by omega) F4 D1 A3 bR2 bB
          rw [hx] at ih2
          exact ih2 hR2 hB
        · have q_254 : ¬ (((2 * (x.1)) : Nat) : Int) > ((k : Nat) : Int) := fun hh => c_254 ((qi_gt (by first | exact nI_Z _ | (simp only [fa_lit, nI_add, pk_mul, nI_1]; exact nI_Z _)) (nI_Z _) (by omega) (by omega) (by omega) (by omega)).mpr hh)
          rw [if_pos (by omega)] at hx
          refine vs_iload dX10_recur_257 rfl 2 rfl ?_
          refine vs_iconst (v := 1) dX10_recur_259 rfl rfl ?_
          refine vs_iadd dX10_recur_260 rfl ?_
          refine vs_iload_n 3 dX10_recur_261 rfl rfl 5 rfl ?_
          refine vs_isub dX10_recur_262 rfl ?_
          refine vs_topi (fun z1 e_z1 => ?_)
          have f_z1 : z1 = nI (k + 1 - x.1) := (by rw [e_z1]; simp only [fa_lit, nI_add]; exact pk_sub (by omega))
          subst f_z1
          clear e_z1
          refine vs_istore_n 3 [(3, .int (nI (k + 1 - x.1))), (10, .int (nI (fsm x.2.2.2.1 c k (x.1 + 1) % P * ipw x.2.2.1 P % P))), (9, .int (nI (fsm x.2.2.2.1 c k (x.1 + 1) % P))), (6, .int (nI k)), (5, .int (nI (x.2.2.1))), (4, .int (nI (x.2.1))), (2, .int (nI n)), (0, .ref (G.2.2.2 + 118)), (1, .int (nI f))] dX10_recur_263 rfl rfl rfl rfl ?_
          refine vs_iconst (v := 0) dX10_recur_264 rfl rfl ?_
          refine vs_istore [(11, .int (0)), (3, .int (nI (k + 1 - x.1))), (10, .int (nI (fsm x.2.2.2.1 c k (x.1 + 1) % P * ipw x.2.2.1 P % P))), (9, .int (nI (fsm x.2.2.2.1 c k (x.1 + 1) % P))), (6, .int (nI k)), (5, .int (nI (x.2.2.1))), (4, .int (nI (x.2.1))), (2, .int (nI n)), (0, .ref (G.2.2.2 + 118)), (1, .int (nI f))] dX10_recur_265 rfl rfl rfl ?_
          refine vs_pick (L2 := [(11, .int (nI 0)), (10, .int (nI (fsm x.2.2.2.1 c k (x.1 + 1) % P * ipw x.2.2.1 P % P))), (9, .int (nI (fsm x.2.2.2.1 c k (x.1 + 1) % P))), (6, .int (nI k)), (5, .int (nI (x.2.2.1))), (4, .int (nI (x.2.1))), (3, .int (nI (k + 1 - x.1))), (2, .int (nI n)), (0, .ref (G.2.2.2 + 118)), (1, .int (nI f))]) [0, 2, 3, 4, 5, 6, 1, 7, 8, 9] rfl ?_
          refine l_mbb (S := S) (S0 := S3) (R := R) C2 (fun S4 F5 E1 => ?_) 45 0 S3 rfl vs_fx.rf aR_0
          have F6 : vs_fx S0 S4 [141, 142, 143] [] [] := vs_fx.tr F4 F5 (by simp) (by simp) (by simp)
          have D2 := aR.fx D1 F5 (by simp)
          refine vs_iload dX10_recur_294 rfl 0 rfl ?_
          refine vs_istore [(5, .int (nI (fsm x.2.2.2.1 c k (x.1 + 1) % P))), (9, .int (nI (fsm x.2.2.2.1 c k (x.1 + 1) % P))), (6, .int (nI k)), (3, .int (nI (k + 1 - x.1))), (2, .int (nI n)), (0, .ref (G.2.2.2 + 118)), (1, .int (nI f))] dX10_recur_296 rfl rfl rfl ?_
          refine vs_iconst (v := 1) dX10_recur_298 rfl rfl ?_
          refine vs_istore [(4, .int (1)), (5, .int (nI (fsm x.2.2.2.1 c k (x.1 + 1) % P))), (9, .int (nI (fsm x.2.2.2.1 c k (x.1 + 1) % P))), (6, .int (nI k)), (3, .int (nI (k + 1 - x.1))), (2, .int (nI n)), (0, .ref (G.2.2.2 + 118)), (1, .int (nI f))] dX10_recur_299 rfl rfl rfl ?_
          refine vs_goto 307 dX10_recur_301 rfl ?_
          refine vs_iinc (v := nI (k + 1)) [(6, .int (nI (k + 1))), (4, .int (1)), (5, .int (nI (fsm x.2.2.2.1 c k (x.1 + 1) % P))), (9, .int (nI (fsm x.2.2.2.1 c k (x.1 + 1) % P))), (3, .int (nI (k + 1 - x.1))), (2, .int (nI n)), (0, .ref (G.2.2.2 + 118)), (1, .int (nI f))] dX10_recur_307 rfl 3 rfl (by first | exact nI_1 _ | (simp only [fa_lit, nI_add, pk_mul, nI_1]; rfl)) rfl rfl ?_
          refine vs_goto 73 dX10_recur_310 rfl ?_
          refine vs_pick (L2 := [(6, .int (nI (k + 1))), (5, .int (nI (fsm x.2.2.2.1 c k (x.1 + 1) % P))), (4, .int (nI 1)), (3, .int (nI (k + 1 - x.1))), (2, .int (nI n)), (0, .ref (G.2.2.2 + 118)), (1, .int (nI f))]) [0, 2, 1, 4, 5, 6, 7] rfl ?_
          have ih2 := ih (k + 1) S4 _ R (by omega) F6 D2 E1 bR2 bR
          rw [hx] at ih2
          exact ih2 hR2 hR
      · have q_139 : (((fsm x.2.2.2.1 c k (x.1 + 1) % P) : Nat) : Int) = ((0 : Nat) : Int) := (qi_eq (nI_Z _) (by first | exact nI_Z _ | (simp only [fa_lit, nI_add, pk_mul, nI_1]; exact nI_Z _)) (by omega) (by omega) (by omega) (by omega)).mp c_139
        rw [if_pos (by omega)] at hx
        refine vs_iinc (v := nI ((x.2.1) + 1)) [(4, .int (nI ((x.2.1) + 1))), (9, .int (nI (fsm x.2.2.2.1 c k (x.1 + 1) % P))), (7, .long (lN (fsm x.2.2.2.1 c k (x.1 + 1)))), (6, .int (nI k)), (5, .int (nI (x.2.2.1))), (3, .int (nI (x.1))), (2, .int (nI n)), (0, .ref (G.2.2.2 + 118)), (1, .int (nI f))] dX10_recur_142 rfl 4 rfl (by first | exact nI_1 _ | (simp only [fa_lit, nI_add, pk_mul, nI_1]; rfl)) rfl rfl ?_
        refine vs_goto 307 dX10_recur_145 rfl ?_
        refine vs_iinc (v := nI (k + 1)) [(6, .int (nI (k + 1))), (4, .int (nI ((x.2.1) + 1))), (9, .int (nI (fsm x.2.2.2.1 c k (x.1 + 1) % P))), (7, .long (lN (fsm x.2.2.2.1 c k (x.1 + 1)))), (5, .int (nI (x.2.2.1))), (3, .int (nI (x.1))), (2, .int (nI n)), (0, .ref (G.2.2.2 + 118)), (1, .int (nI f))] dX10_recur_307 rfl 3 rfl (by first | exact nI_1 _ | (simp only [fa_lit, nI_add, pk_mul, nI_1]; rfl)) rfl rfl ?_
        refine vs_goto 73 dX10_recur_310 rfl ?_
        refine vs_pick (L2 := [(6, .int (nI (k + 1))), (5, .int (nI (x.2.2.1))), (4, .int (nI (x.2.1 + 1))), (3, .int (nI (x.1))), (2, .int (nI n)), (0, .ref (G.2.2.2 + 118)), (1, .int (nI f))]) [0, 4, 1, 5, 6, 7, 8] rfl ?_
        have ih2 := ih (k + 1) S R B (by omega) F A1 A2 bR bB
        rw [hx] at ih2
        exact ih2 hR hB

theorem M_recur {G : vv_G} {S : vs_S} {a : aS} (hM : MSt S a) (hG : aG a) {f : Int} (hf1 : -2147483648 ≤ f) (hf2 : f < 2147483648) : vs_CP G yX10_recur cX10_recur 12 (some .int) { frames := 5, locals := 124 } [.ref (G.2.2.2 + 118), .int (nZ f)] S (fun r S2 => r = some (.int (nZ (sp_recur a f).1)) ∧ MSt S2 (sp_recur a f).2 ∧ frM S S2) := by
  refine vs_ofP [(0, .ref (G.2.2.2 + 118)), (1, .int (nZ f))] (by decide) rfl rfl ?_
  obtain ⟨⟨mP, mN, mH, mK0⟩, mK, mSh, mSe, ⟨mA, mB⟩, mX, mY⟩ := id hM
  obtain ⟨gP, gP2, gN, gH, gSe, gSh, gXY, gB31, gInj, gA, gB, gAz, gBz⟩ := hG
  have gP1 := gP.1
  refine vs_aload_n 0 dX10_recur_0 rfl rfl 0 rfl ?_
  refine vs_iload_n 1 dX10_recur_1 rfl rfl 1 rfl ?_
  refine vs_callV (st := []) (c_isSeries mN gN hf1 hf2) lk_X10_155 lm_X10_isSeries rfl rfl rfl rfl (Nat.le_of_ble_eq_true rfl) rfl ⟨rfl, rfl⟩ dX10_recur_2 rfl ?_
  show vs_V _ _ _ _ _ (.int ((if 0 ≤ f ∧ f ≤ (aN a : Int) - 1 then 1 else 0)) :: _) _
  refine vs_if_ne 11 dX10_recur_5 rfl rfl (fun c_5 => ?_) (fun c_5 => ?_)
  · rw [nn_is0, Classical.not_not] at c_5
    skip
    · obtain ⟨f, rfl⟩ : ∃ z0 : Nat, f = z0 := ⟨f.toNat, by omega⟩
      rw [nZ_n f]
      have hf : f < 10 := by omega
      have hfN : f < aN a := by omega
      obtain ⟨f1, f2⟩ := mSe f hfN
      obtain ⟨f3, f4⟩ := gSe f hfN
      refine vs_aload_n 0 dX10_recur_11 rfl rfl 0 rfl ?_
      refine vs_get (v := .ref (G.2.2.2 + 124)) lf_X10_26 rfl rfl dX10_recur_12 rfl ?_
      refine vs_iload_n 1 dX10_recur_15 rfl rfl 1 rfl ?_
      refine vs_iald (k := f) rfl rfl (by omega) rfl dX10_recur_16 rfl ?_
      refine vs_topi (fun z1 e_z1 => ?_)
      have f_z1 : z1 = nI (aLa a f) := (by rw [e_z1]; exact f1)
      subst f_z1
      clear e_z1
      refine vs_istore_n 2 [(2, .int (nI (aLa a f))), (0, .ref (G.2.2.2 + 118)), (1, .int (nI f))] dX10_recur_17 rfl rfl rfl rfl ?_
      refine vs_iconst (v := 0) dX10_recur_18 rfl rfl ?_
      refine vs_istore_n 3 [(3, .int (0)), (2, .int (nI (aLa a f))), (0, .ref (G.2.2.2 + 118)), (1, .int (nI f))] dX10_recur_19 rfl rfl rfl rfl ?_
      refine vs_pick (L2 := [(3, .int (nI 0)), (2, .int (nI (aLa a f))), (0, .ref (G.2.2.2 + 118)), (1, .int (nI f))]) [0, 1, 2, 3] rfl ?_
      have hbm : (bmi (aP a) (aC a f) (aLa a f + 1)).1 ≤ aLa a f + 1 := (bmi_g gP1 (aLa a f + 1)).1
      refine l_mbi (S := S) (f := f) (n := aLa a f) (S0 := S) (fun S2 F A1 A2 => ?_) 45 0 S rfl vs_fx.rf aR_0 aR_0
      refine vs_iconst (v := 0) dX10_recur_62 rfl rfl ?_
      refine vs_istore_n 3 [(3, .int (0)), (2, .int (nI (aLa a f))), (0, .ref (G.2.2.2 + 118)), (1, .int (nI f))] dX10_recur_63 rfl rfl rfl rfl ?_
      refine vs_iconst (v := 1) dX10_recur_64 rfl rfl ?_
      refine vs_istore [(4, .int (1)), (3, .int (0)), (2, .int (nI (aLa a f))), (0, .ref (G.2.2.2 + 118)), (1, .int (nI f))] dX10_recur_65 rfl rfl rfl ?_
      refine vs_iconst (v := 1) dX10_recur_67 rfl rfl ?_
      refine vs_istore [(5, .int (1)), (4, .int (1)), (3, .int (0)), (2, .int (nI (aLa a f))), (0, .ref (G.2.2.2 + 118)), (1, .int (nI f))] dX10_recur_68 rfl rfl rfl ?_
      refine vs_iconst (v := 0) dX10_recur_70 rfl rfl ?_
      refine vs_istore [(6, .int (0)), (5, .int (1)), (4, .int (1)), (3, .int (0)), (2, .int (nI (aLa a f))), (0, .ref (G.2.2.2 + 118)), (1, .int (nI f))] dX10_recur_71 rfl rfl rfl ?_
      refine vs_pick (L2 := [(6, .int (nI 0)), (5, .int (nI 1)), (4, .int (nI 1)), (3, .int (nI 0)), (2, .int (nI (aLa a f))), (0, .ref (G.2.2.2 + 118)), (1, .int (nI f))]) [0, 1, 2, 3, 4, 5, 6] rfl ?_
      refine l_mbm (S := S) (f := f) (n := aLa a f) (c := aC a f) hf f3 gP1 gP2 f4 (S0 := S2) ((F.2.1 _ _ (by simp)).trans mP) (by rw [F.1 125 (by simp)]; exact f2) (fun S3 Fb => ?_) (aLa a f + 1) 0 S2 (pcon 1) (pcon 1) (by omega) vs_fx.rf A1 A2 (pcon_b (by omega)) (pcon_b (by omega)) (fun _ _ => rfl) (fun _ _ => rfl)
      have F3 : vs_fx S S3 [141, 142, 143] [] [] := vs_fx.tr (vs_fx.tr vs_fx.rf F (by simp) (by simp) (by simp)) Fb (by simp) (by simp) (by simp)
      refine vs_iload_n 3 dX10_recur_313 rfl rfl 0 rfl ?_
      refine vs_if_ne 324 dX10_recur_314 rfl rfl (fun c_314 => ?_) (fun c_314 => ?_)
      · have q_314 : ¬ ((((bmi (aP a) (aC a f) (aLa a f + 1)).1) : Nat) : Int) = ((0 : Nat) : Int) := fun hh => c_314 ((qi_eq (nI_Z _) (by first | exact nI_Z _ | (simp only [fa_lit, nI_add, pk_mul, nI_1]; exact nI_Z _)) (by omega) (by omega) (by omega) (by omega)).mpr hh)
        refine vs_iconst (v := 2) dX10_recur_324 rfl rfl ?_
        refine vs_iload_n 3 dX10_recur_325 rfl rfl 0 rfl ?_
        refine vs_imul dX10_recur_326 rfl ?_
        refine vs_iconst (v := 1) dX10_recur_327 rfl rfl ?_
        refine vs_isub dX10_recur_328 rfl ?_
        refine vs_topi (fun z1 e_z1 => ?_)
        have f_z1 : z1 = nZ (2 * ((bmi (aP a) (aC a f) (aLa a f + 1)).1 : Int) - 1) := (by rw [e_z1, nI_Z, show (2 : Int32) = nZ 2 from rfl, show (1 : Int32) = nZ 1 from rfl, nZ_mul, nZ_sub])
        subst f_z1
        clear e_z1
        refine vs_iload_n 2 dX10_recur_329 rfl rfl 1 rfl ?_
        refine vs_icmp_gt 342 dX10_recur_330 rfl rfl (fun c_330 => ?_) (fun c_330 => ?_)
        · have q_330 : ((2 * ((bmi (aP a) (aC a f) (aLa a f + 1)).1 : Int) - 1) : Int) > (((aLa a f) : Nat) : Int) := (qi_gt rfl (nI_Z _) (by omega) (by omega) (by omega) (by omega)).mp c_330
          refine vs_iload_n 3 dX10_recur_342 rfl rfl 0 rfl ?_
          exact vs_iretP dX10_recur_343 (mpost (v := ((bmi (aP a) (aC a f) (aLa a f + 1)).1 : Int)) (a' := a) (by unfold sp_recur; (try simp only [Int.toNat_natCast]); repeat (first | rw [if_pos (by omega)] | rw [if_pos trivial] | rw [if_neg (by omega)])) (by rw [nZ_n]) (MSt.sr hM F3 (by simp [mcr]) (by simp) (by simp)) (F3.M (by simp) (by simp) (by simp)))
        · have q_330 : ¬ ((2 * ((bmi (aP a) (aC a f) (aLa a f + 1)).1 : Int) - 1) : Int) > (((aLa a f) : Nat) : Int) := fun hh => c_330 ((qi_gt rfl (nI_Z _) (by omega) (by omega) (by omega) (by omega)).mpr hh)
          refine vs_aload_n 0 dX10_recur_333 rfl rfl 2 rfl ?_
          refine vs_iload_n 1 dX10_recur_334 rfl rfl 3 rfl ?_
          refine vs_iload_n 3 dX10_recur_335 rfl rfl 0 rfl ?_
          refine vs_iconst (v := 1) dX10_recur_336 rfl rfl ?_
          refine vs_isub dX10_recur_337 rfl ?_
          refine vs_topi (fun z2 e_z2 => ?_)
          have f_z2 : z2 = nI ((bmi (aP a) (aC a f) (aLa a f + 1)).1 - 1) := (by rw [e_z2]; exact pk_sub (b := 1) (by omega))
          subst f_z2
          clear e_z2
          refine vs_iload_n 3 dX10_recur_338 rfl rfl 0 rfl ?_
          refine vs_callVP (st := []) (c_findEntryM (f := f) (l := (bmi (aP a) (aC a f) (aLa a f + 1)).1 - 1) (m := (bmi (aP a) (aC a f) (aLa a f + 1)).1) hf (by omega) gP gP1 gP2 f4 ((F3.2.1 _ _ (by simp)).trans mP) (fun k hk => by rw [F3.1 125 (by simp)]; exact f2 k (by omega))) lk_X10_193 lm_X10_findEntry rfl rfl rfl rfl (Nat.le_of_ble_eq_true rfl) rfl ⟨rfl, rfl⟩ dX10_recur_339 rfl (fun rr S1 hh => ?_)
          obtain ⟨rfl, F4, E1, E2⟩ := hh
          show vs_V _ _ _ _ _ [] _
          refine vs_iload_n 3 dX10_recur_342 rfl rfl 0 rfl ?_
          exact vs_iretP dX10_recur_343 (mpost (v := ((bmi (aP a) (aC a f) (aLa a f + 1)).1 : Int)) (a' := s_re a (ent (aP a) (aC a f) ((bmi (aP a) (aC a f) (aLa a f + 1)).1 - 1) (bmi (aP a) (aC a f) (aLa a f + 1)).1).1 (ent (aP a) (aC a f) ((bmi (aP a) (aC a f) (aLa a f + 1)).1 - 1) (bmi (aP a) (aC a f) (aLa a f + 1)).1).2) (by unfold sp_recur; (try simp only [Int.toNat_natCast]); repeat (first | rw [if_pos (by omega)] | rw [if_pos trivial] | rw [if_neg (by omega)])) (by rw [nZ_n]) (MSt.re hM (vs_fx.tr (vs_fx.tr (vs_fx.rf (il := [141, 142, 143, 127, 128, 129, 130, 131, 132, 133, 134, 135]) (sl := []) (ll := [])) F3 (by simp) (by simp) (by simp)) F4 (by simp) (by simp) (by simp)) E1 E2 (by simp [mcr]) (by simp) (by simp)) ((vs_fx.tr (vs_fx.tr (vs_fx.rf (il := [141, 142, 143, 127, 128, 129, 130, 131, 132, 133, 134, 135]) (sl := []) (ll := [])) F3 (by simp) (by simp) (by simp)) F4 (by simp) (by simp) (by simp)).M (by simp) (by simp) (by simp)))
      · have q_314 : ((((bmi (aP a) (aC a f) (aLa a f + 1)).1) : Nat) : Int) = ((0 : Nat) : Int) := (qi_eq (nI_Z _) (by first | exact nI_Z _ | (simp only [fa_lit, nI_add, pk_mul, nI_1]; exact nI_Z _)) (by omega) (by omega) (by omega) (by omega)).mp c_314
        refine vs_aload_n 0 dX10_recur_317 rfl rfl 2 rfl ?_
        refine vs_callVP (st := []) c_clearResult lk_X10_121 lm_X10_clearResult rfl rfl rfl rfl (Nat.le_of_ble_eq_true rfl) rfl ⟨rfl, rfl⟩ dX10_recur_318 rfl (fun rr S2 hh => ?_)
        obtain ⟨rfl, F4, R1, R2⟩ := hh
        show vs_V _ _ _ _ _ [] _
        refine vs_goto 342 dX10_recur_321 rfl ?_
        refine vs_iload_n 3 dX10_recur_342 rfl rfl 0 rfl ?_
        exact vs_iretP dX10_recur_343 (mpost (v := 0) (a' := s_re a (pcon 0) (pcon 1)) (by unfold sp_recur; (try simp only [Int.toNat_natCast]); repeat (first | rw [if_pos (by omega)] | rw [if_pos trivial] | rw [if_neg (by omega)])) (by rw [show (bmi (aP a) (aC a f) (aLa a f + 1)).1 = 0 by omega]; rfl) (MSt.re hM (vs_fx.tr (vs_fx.tr (vs_fx.rf (il := [141, 142, 143, 127, 128, 129, 130, 131, 132, 133, 134, 135]) (sl := []) (ll := [])) F3 (by simp) (by simp) (by simp)) F4 (by simp) (by simp) (by simp)) R1 R2 (by simp [mcr]) (by simp) (by simp)) ((vs_fx.tr (vs_fx.tr (vs_fx.rf (il := [141, 142, 143, 127, 128, 129, 130, 131, 132, 133, 134, 135]) (sl := []) (ll := [])) F3 (by simp) (by simp) (by simp)) F4 (by simp) (by simp) (by simp)).M (by simp) (by simp) (by simp)))
  · rw [nn_is0] at c_5
    refine vs_bipush (v := -101) dX10_recur_8 rfl rfl ?_
    exact vs_iretP dX10_recur_10 (mpost (v := -101) (a' := a) (by unfold sp_recur; (try simp only [Int.toNat_natCast]); repeat (first | rw [if_pos (by omega)] | rw [if_pos trivial] | rw [if_neg (by omega)])) rfl hM frM.rf)

