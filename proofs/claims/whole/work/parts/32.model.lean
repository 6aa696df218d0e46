theorem M_prime {G : vv_G} {S : vs_S} {a : aS} (hM : MSt S a) (hG : aG a) {z : Int} (hz1 : -2147483648 ≤ z) (hz2 : z < 2147483648) : vs_CP G yX10_prime cX10_prime 3 (some .int) { frames := 1, locals := 25 } [.ref (G.2.2.2 + 118), .int (nZ z)] S (fun r S2 => r = some (.int (nZ (sp_prime a z).1)) ∧ MSt S2 (sp_prime a z).2 ∧ frM S S2) := by
  refine vs_ofP [(0, .ref (G.2.2.2 + 118)), (1, .int (nZ z))] (by decide) rfl rfl ?_
  obtain ⟨⟨mP, mN, mH, mK0⟩, mK, mSh, mSe, ⟨mA, mB⟩, mX, mY⟩ := id hM
  obtain ⟨gP, gP2, gN, gH, gSe, gSh, gXY, gB31, gInj, gA, gB, gAz, gBz⟩ := hG
  have gP1 := gP.1
  refine vs_iload_n 1 dX10_prime_0 rfl rfl 1 rfl ?_
  refine vs_i2l dX10_prime_1 rfl ?_
  refine vs_ldc2 lc_X10_103 dX10_prime_2 rfl ?_
  refine vs_ldc2 lc_X10_105 dX10_prime_5 rfl ?_
  refine vs_callS (st := []) (c_inZ (z := z) (x := 2) (y := 30011) (by rw [nn_i2l, nZ_i hz1 hz2]) rfl rfl) lk_X10_107 lm_X10_in rfl rfl (Nat.le_of_ble_eq_true rfl) rfl ⟨rfl, rfl⟩ dX10_prime_8 rfl ?_
  show vs_V _ _ _ _ _ (.int ((if 2 ≤ z ∧ z ≤ 30011 then 1 else 0)) :: _) _
  refine vs_if_eq 21 dX10_prime_11 rfl rfl (fun c_11 => ?_) (fun c_11 => ?_)
  · rw [nn_is0] at c_11
    refine vs_bipush (v := -102) dX10_prime_21 rfl rfl ?_
    exact vs_iretP dX10_prime_23 (mpost (v := -102) (a' := a) (if_pos (fun h => c_11 ⟨h.1, h.2.1⟩)) rfl hM frM.rf)
  · rw [nn_is0, Classical.not_not] at c_11
    obtain ⟨p, rfl⟩ : ∃ p : Nat, z = p := ⟨z.toNat, by omega⟩
    rw [nZ_n]
    refine vs_iload_n 1 dX10_prime_14 rfl rfl 1 rfl ?_
    refine vs_callS (st := []) (c_isPrime (p := p) (by omega) (by omega)) lk_X10_111 lm_X10_isPrime rfl rfl (Nat.le_of_ble_eq_true rfl) rfl ⟨rfl, rfl⟩ dX10_prime_15 rfl ?_
    show vs_V _ _ _ _ _ (.int ((if prk p 200 2 = true then 1 else 0)) :: _) _
    refine vs_if_ne 24 dX10_prime_18 rfl rfl (fun c_18 => ?_) (fun c_18 => ?_)
    · rw [nn_is0, Classical.not_not] at c_18
      have hok : 2 ≤ (p : Int) ∧ (p : Int) ≤ 30011 ∧ prk ((p : Int)).toNat 200 2 = true := ⟨c_11.1, c_11.2, c_18⟩
      refine vs_aload_n 0 dX10_prime_24 rfl rfl 0 rfl ?_
      refine vs_get (v := .int (nI (aN a))) lf_X10_115 rfl (congrArg (fun z => some (Value.int z)) mN) dX10_prime_25 rfl ?_
      refine vs_if_gt 38 dX10_prime_28 rfl rfl (fun c_28 => ?_) (fun c_28 => ?_)
      · have q_28 : (((aN a) : Nat) : Int) > ((0 : Nat) : Int) := (qi_gt (nI_Z _) (by first | exact nI_Z _ | (simp only [fa_lit, nI_add, pk_mul, nI_1]; exact nI_Z _)) (by omega) (by omega) (by omega) (by omega)).mp c_28
        refine vs_bipush (v := -103) dX10_prime_38 rfl rfl ?_
        exact vs_iretP dX10_prime_40 (mpost (v := -103) (a' := a) (by unfold sp_prime; rw [if_neg (Classical.not_not.mpr hok), if_pos (by omega)]) rfl hM frM.rf)
      · have q_28 : ¬ (((aN a) : Nat) : Int) > ((0 : Nat) : Int) := fun hh => c_28 ((qi_gt (nI_Z _) (by first | exact nI_Z _ | (simp only [fa_lit, nI_add, pk_mul, nI_1]; exact nI_Z _)) (by omega) (by omega) (by omega) (by omega)).mpr hh)
        refine vs_aload_n 0 dX10_prime_31 rfl rfl 0 rfl ?_
        refine vs_get (v := .int (nI (aH a))) lf_X10_118 rfl (congrArg (fun z => some (Value.int z)) mH) dX10_prime_32 rfl ?_
        refine vs_if_le 41 dX10_prime_35 rfl rfl (fun c_35 => ?_) (fun c_35 => ?_)
        · have q_35 : (((aH a) : Nat) : Int) ≤ ((0 : Nat) : Int) := (qi_le (nI_Z _) (by first | exact nI_Z _ | (simp only [fa_lit, nI_add, pk_mul, nI_1]; exact nI_Z _)) (by omega) (by omega) (by omega) (by omega)).mp c_35
          refine vs_aload_n 0 dX10_prime_41 rfl rfl 0 rfl ?_
          refine vs_get (v := .int (nI (aP a))) lf_X10_92 rfl (congrArg (fun z => some (Value.int z)) mP) dX10_prime_42 rfl ?_
          refine vs_istore_n 2 [(2, .int (nI (aP a))), (0, .ref (G.2.2.2 + 118)), (1, .int (nI p))] dX10_prime_45 rfl rfl rfl rfl ?_
          refine vs_aload_n 0 dX10_prime_46 rfl rfl 1 rfl ?_
          refine vs_iload_n 1 dX10_prime_47 rfl rfl 2 rfl ?_
          refine vs_put lf_X10_92 rfl rfl rfl rfl dX10_prime_48 rfl ?_
          refine vs_aload_n 0 dX10_prime_51 rfl rfl 1 rfl ?_
          refine vs_callVP (st := []) c_clearResult lk_X10_121 lm_X10_clearResult rfl rfl rfl rfl (Nat.le_of_ble_eq_true rfl) rfl ⟨rfl, rfl⟩ dX10_prime_52 rfl (fun rr S1 hh => ?_)
          obtain ⟨rfl, F1, A1, A2⟩ := hh
          have F : vs_fx S S1 [132, 133] [(118, 2)] [] := vs_fx.tr (vs_fx.sc vs_fx.rf (by simp)) F1 (by simp) (by simp) (by simp)
          show vs_V _ _ _ _ _ [] _
          refine vs_iload_n 2 dX10_prime_55 rfl rfl 0 rfl ?_
          exact vs_iretP dX10_prime_56 (mpost (v := (aP a : Int)) (a' := s_pr a p) (by unfold sp_prime; rw [if_neg (Classical.not_not.mpr hok), if_neg (by omega)]; rfl) (by rw [nZ_n]) (MSt.pr hM F ((F1.2.1 _ _ (by simp)).trans vs_sc_at) A1 A2 (by simp <;> omega) (by simp) (by simp)) (F.M (by simp) (by simp) (by simp)))
        · have q_35 : ¬ (((aH a) : Nat) : Int) ≤ ((0 : Nat) : Int) := fun hh => c_35 ((qi_le (nI_Z _) (by first | exact nI_Z _ | (simp only [fa_lit, nI_add, pk_mul, nI_1]; exact nI_Z _)) (by omega) (by omega) (by omega) (by omega)).mpr hh)
          refine vs_bipush (v := -103) dX10_prime_38 rfl rfl ?_
          exact vs_iretP dX10_prime_40 (mpost (v := -103) (a' := a) (by unfold sp_prime; rw [if_neg (Classical.not_not.mpr hok), if_pos (by omega)]) rfl hM frM.rf)
    · rw [nn_is0] at c_18
      refine vs_bipush (v := -102) dX10_prime_21 rfl rfl ?_
      exact vs_iretP dX10_prime_23 (mpost (v := -102) (a' := a) (if_pos (fun h => c_18 h.2.2)) rfl hM frM.rf)

theorem upd_self {f : Nat → Int32} {k : Nat} {v : Int32} (h : f k = v) : upd f k v = f := by
  funext j
  unfold upd
  by_cases e : j = k
  · rw [if_pos e, e, h]
  · rw [if_neg e]
theorem k_mcells {S S' : vs_S} {a : aS} {s : Nat} {w : Nat → Int64} (hM : MSt S a) (hs : s < 4) (F : vs_fx S S' [] [] [122, 123]) (k3 : lR S' 122 (60 * s) 60 w) (k4 : ∀ t, t < 4 → t ≠ s → ∀ k, k < 60 → S'.2.2.1 122 (60 * t + k) = S.2.2.1 122 (60 * t + k)) : MSt S' (s_sh a s (aLo a s) (aLn a s) (aSz a s) w) ∧ frM S S' := by
  obtain ⟨d1, d2, d3⟩ := hM.2.2.1 s hs
  exact ⟨MSt.sh hM F hs (by rw [F.1 120 (by simp), upd_self d1]) ⟨by rw [F.1 121 (by simp)]; exact d2, fun t _ => by rw [F.1 121 (by simp)]⟩ k3 k4 (by simp) (by simp) (by simp <;> omega), F.M (by simp) (by simp) (by simp)⟩
/-- only the cells of sheet s differ -/
def onlyS (S0 S : vs_S) (s : Nat) : Prop := ∀ x, x < 60 * s ∨ 60 * s + 60 ≤ x → S.2.2.1 122 x = S0.2.2.1 122 x
theorem onlyS.k {S0 S : vs_S} {s : Nat} (h : onlyS S0 S s) : ∀ t, t < 4 → t ≠ s → ∀ k, k < 60 → S.2.2.1 122 (60 * t + k) = S0.2.2.1 122 (60 * t + k) := fun t ht hne k hk => h _ (by omega)
theorem onlyS.la {S0 S : vs_S} {s x : Nat} {v : Int64} (h : onlyS S0 S s) (h1 : 60 * s ≤ x) (h2 : x < 60 * s + 60) : onlyS S0 (vs_la S 122 (vp_updL (S.2.2.1 122) x v)) s := fun y hy => by
  rw [vs_la_at]
  unfold vp_updL
  rw [if_neg (by omega)]
  exact h y hy
theorem l_msheet {G : vv_G} {S : vs_S} {k n : Nat} (hk : k < 4) (hn : n ≤ 60) {S0 : vs_S} {Pst : Option Value → vs_S → Prop} (K : ∀ S2 : vs_S, vs_fx S0 S2 [] [] [122, 123] → lR S2 122 (60 * k) 60 (fun _ => 0) → onlyS S0 S2 k → Pst (some (.int (nI n))) S2) : ∀ (d i : Nat) (S : vs_S), i + d = 60 → vs_fx S0 S [] [] [122, 123] → lR S 122 (60 * k) i (fun _ => 0) → onlyS S0 S k → vs_V G cX10_sheet (vs_MP yX10_sheet 5 (some .int) { frames := 2, locals := 45 } G Pst) 58 [(4, .int (nI i)), (0, .ref (G.2.2.2 + 118)), (1, .int (nI k)), (3, .int (nI n))] [] S := by
  intro d
  induction d with
  | zero =>
    intro i S hi F R O
    obtain rfl : i = 60 := by omega
    refine vs_iload dX10_sheet_58 rfl 0 rfl ?_
    refine vs_bipush (v := 60) dX10_sheet_60 rfl rfl ?_
    refine vs_icmp_ge 84 dX10_sheet_62 rfl rfl (fun c_62 => ?_) (fun c_62 => ?_)
    · have q_62 : ((60 : Nat) : Int) ≥ ((60 : Nat) : Int) := (qi_ge (nI_Z _) (by first | exact nI_Z _ | (simp only [fa_lit, nI_add, pk_mul, nI_1]; exact nI_Z _)) (by omega) (by omega) (by omega) (by omega)).mp c_62
      refine vs_iload_n 3 dX10_sheet_84 rfl rfl 3 rfl ?_
      exact vs_iretP dX10_sheet_85 (K S F R O)
    · have q_62 : ¬ ((60 : Nat) : Int) ≥ ((60 : Nat) : Int) := fun hh => c_62 ((qi_ge (nI_Z _) (by first | exact nI_Z _ | (simp only [fa_lit, nI_add, pk_mul, nI_1]; exact nI_Z _)) (by omega) (by omega) (by omega) (by omega)).mpr hh)
      omega
  | succ d ih =>
    intro i S hi F R O
    refine vs_iload dX10_sheet_58 rfl 0 rfl ?_
    refine vs_bipush (v := 60) dX10_sheet_60 rfl rfl ?_
    refine vs_icmp_ge 84 dX10_sheet_62 rfl rfl (fun c_62 => ?_) (fun c_62 => ?_)
    · have q_62 : ((i : Nat) : Int) ≥ ((60 : Nat) : Int) := (qi_ge (nI_Z _) (by first | exact nI_Z _ | (simp only [fa_lit, nI_add, pk_mul, nI_1]; exact nI_Z _)) (by omega) (by omega) (by omega) (by omega)).mp c_62
      omega
    · have q_62 : ¬ ((i : Nat) : Int) ≥ ((60 : Nat) : Int) := fun hh => c_62 ((qi_ge (nI_Z _) (by first | exact nI_Z _ | (simp only [fa_lit, nI_add, pk_mul, nI_1]; exact nI_Z _)) (by omega) (by omega) (by omega) (by omega)).mpr hh)
      refine vs_aload_n 0 dX10_sheet_65 rfl rfl 1 rfl ?_
      refine vs_get (v := .ref (G.2.2.2 + 122)) lf_X10_19 rfl rfl dX10_sheet_66 rfl ?_
      refine vs_bipush (v := 60) dX10_sheet_69 rfl rfl ?_
      refine vs_iload_n 1 dX10_sheet_71 rfl rfl 2 rfl ?_
      refine vs_imul dX10_sheet_72 rfl ?_
      refine vs_iload dX10_sheet_73 rfl 0 rfl ?_
      refine vs_iadd dX10_sheet_75 rfl ?_
      refine vs_lconst (v := 0) dX10_sheet_76 rfl rfl ?_
      refine vs_last (k := (60 * k + i)) rfl (by simp only [fa_lit, nI_add, pk_mul]) (by omega) rfl dX10_sheet_77 rfl ?_
      refine vs_iinc (v := nI (i + 1)) [(4, .int (nI (i + 1))), (0, .ref (G.2.2.2 + 118)), (1, .int (nI k)), (3, .int (nI n))] dX10_sheet_78 rfl 0 rfl (by first | exact nI_1 _ | (simp only [fa_lit, nI_add, pk_mul, nI_1]; rfl)) rfl rfl ?_
      refine vs_goto 58 dX10_sheet_81 rfl ?_
      refine vs_pick [0, 1, 2, 3] rfl ?_
      refine ih (i + 1) _ (by omega) (vs_fx.la F (by simp)) (fun j hj => ?_) (O.la (by omega) (by omega))
      rw [vs_la_at]
      unfold vp_updL
      by_cases e : 60 * k + j = 60 * k + i
      · rw [if_pos e]
      · rw [if_neg e]; exact R j (by omega)

theorem M_sheet {G : vv_G} {S : vs_S} {a : aS} (hM : MSt S a) (hG : aG a) {s : Int} (hs1 : -2147483648 ≤ s) (hs2 : s < 2147483648) {l : Int} (hl1 : -2147483648 ≤ l) (hl2 : l < 2147483648) {n : Int} (hn1 : -2147483648 ≤ n) (hn2 : n < 2147483648) : vs_CP G yX10_sheet cX10_sheet 5 (some .int) { frames := 2, locals := 45 } [.ref (G.2.2.2 + 118), .int (nZ s), .int (nZ l), .int (nZ n)] S (fun r S2 => r = some (.int (nZ (sp_sheet a s l n).1)) ∧ MSt S2 (sp_sheet a s l n).2 ∧ frM S S2) := by
  refine vs_ofP [(0, .ref (G.2.2.2 + 118)), (1, .int (nZ s)), (2, .int (nZ l)), (3, .int (nZ n))] (by decide) rfl rfl ?_
  obtain ⟨⟨mP, mN, mH, mK0⟩, mK, mSh, mSe, ⟨mA, mB⟩, mX, mY⟩ := id hM
  obtain ⟨gP, gP2, gN, gH, gSe, gSh, gXY, gB31, gInj, gA, gB, gAz, gBz⟩ := hG
  have gP1 := gP.1
  refine vs_iload_n 1 dX10_sheet_0 rfl rfl 1 rfl ?_
  refine vs_callS (st := []) (c_isSheet hs1 hs2) lk_X10_126 lm_X10_isSheet rfl rfl (Nat.le_of_ble_eq_true rfl) rfl ⟨rfl, rfl⟩ dX10_sheet_1 rfl ?_
  show vs_V _ _ _ _ _ (.int ((if 0 ≤ s ∧ s ≤ 3 then 1 else 0)) :: _) _
  refine vs_if_ne 10 dX10_sheet_4 rfl rfl (fun c_4 => ?_) (fun c_4 => ?_)
  · rw [nn_is0, Classical.not_not] at c_4
    refine vs_iload_n 2 dX10_sheet_10 rfl rfl 2 rfl ?_
    refine vs_i2l dX10_sheet_11 rfl ?_
    refine vs_lconst (v := 0) dX10_sheet_12 rfl rfl ?_
    refine vs_ldc2 lc_X10_124 dX10_sheet_13 rfl ?_
    refine vs_callS (st := []) (c_inZ (z := l) (x := 0) (y := 3) (by rw [nn_i2l, nZ_i hl1 hl2]) rfl rfl) lk_X10_107 lm_X10_in rfl rfl (Nat.le_of_ble_eq_true rfl) rfl ⟨rfl, rfl⟩ dX10_sheet_16 rfl ?_
    show vs_V _ _ _ _ _ (.int ((if 0 ≤ l ∧ l ≤ 3 then 1 else 0)) :: _) _
    refine vs_if_eq 28 dX10_sheet_19 rfl rfl (fun c_19 => ?_) (fun c_19 => ?_)
    · rw [nn_is0] at c_19
      refine vs_bipush (v := -102) dX10_sheet_28 rfl rfl ?_
      exact vs_iretP dX10_sheet_30 (mpost (v := -102) (a' := a) (by unfold sp_sheet; (try simp only [Int.toNat_natCast]); repeat (first | rw [if_pos (by omega)] | rw [if_pos trivial] | rw [if_neg (by omega)])) rfl hM frM.rf)
    · rw [nn_is0, Classical.not_not] at c_19
      refine vs_iload_n 3 dX10_sheet_22 rfl rfl 3 rfl ?_
      refine vs_bipush (v := 60) dX10_sheet_23 rfl rfl ?_
      refine vs_icmp_le 31 dX10_sheet_25 rfl rfl (fun c_25 => ?_) (fun c_25 => ?_)
      · have q_25 : (n : Int) ≤ ((60 : Nat) : Int) := (qi_le rfl (by first | exact nI_Z _ | (simp only [fa_lit, nI_add, pk_mul, nI_1]; exact nI_Z _)) (by omega) (by omega) (by omega) (by omega)).mp c_25
        refine vs_iload_n 3 dX10_sheet_31 rfl rfl 3 rfl ?_
        refine vs_if_ge 41 dX10_sheet_32 rfl rfl (fun c_32 => ?_) (fun c_32 => ?_)
        · have q_32 : (n : Int) ≥ ((0 : Nat) : Int) := (qi_ge rfl (by first | exact nI_Z _ | (simp only [fa_lit, nI_add, pk_mul, nI_1]; exact nI_Z _)) (by omega) (by omega) (by omega) (by omega)).mp c_32
          skip
          · obtain ⟨k, rfl⟩ : ∃ z0 : Nat, s = z0 := ⟨s.toNat, by omega⟩
            rw [nZ_n k]
            have hk : k < 4 := by omega
            obtain ⟨k1, k2, k3⟩ := mSh k hk
            obtain ⟨k5, k6, k7⟩ := gSh k hk
            obtain ⟨l, rfl⟩ : ∃ z0 : Nat, l = z0 := ⟨l.toNat, by omega⟩
            obtain ⟨n, rfl⟩ : ∃ z0 : Nat, n = z0 := ⟨n.toNat, by omega⟩
            rw [nZ_n l, nZ_n n]
            refine vs_aload_n 0 dX10_sheet_41 rfl rfl 0 rfl ?_
            refine vs_get (v := .ref (G.2.2.2 + 120)) lf_X10_13 rfl rfl dX10_sheet_42 rfl ?_
            refine vs_iload_n 1 dX10_sheet_45 rfl rfl 1 rfl ?_
            refine vs_iload_n 2 dX10_sheet_46 rfl rfl 2 rfl ?_
            refine vs_iast (k := k) rfl rfl (by omega) rfl dX10_sheet_47 rfl ?_
            refine vs_aload_n 0 dX10_sheet_48 rfl rfl 0 rfl ?_
            refine vs_get (v := .ref (G.2.2.2 + 121)) lf_X10_16 rfl rfl dX10_sheet_49 rfl ?_
            refine vs_iload_n 1 dX10_sheet_52 rfl rfl 1 rfl ?_
            refine vs_iload_n 3 dX10_sheet_53 rfl rfl 3 rfl ?_
            refine vs_iast (k := k) rfl rfl (by omega) rfl dX10_sheet_54 rfl ?_
            refine vs_iconst (v := 0) dX10_sheet_55 rfl rfl ?_
            refine vs_istore [(4, .int (0)), (0, .ref (G.2.2.2 + 118)), (1, .int (nI k)), (2, .int (nI l)), (3, .int (nI n))] dX10_sheet_56 rfl rfl rfl ?_
            refine vs_pick (L2 := [(4, .int (nI 0)), (0, .ref (G.2.2.2 + 118)), (1, .int (nI k)), (3, .int (nI n))]) [0, 1, 2, 4] rfl ?_
            refine l_msheet (S := S) hk (show n ≤ 60 by omega) (S0 := _) (fun S2 F R O => ?_) 60 0 _ rfl vs_fx.rf (fun j hj => absurd hj (by omega)) (fun _ _ => rfl)
            have F2 : vs_fx S S2 [120, 121] [] [122, 123] := vs_fx.tr (vs_fx.ia (vs_fx.ia vs_fx.rf (by simp)) (by simp)) F (by simp) (by simp) (by simp)
            refine mpost (v := (n : Int)) (a' := s_sh a k 0 l n (fun _ => 0)) (by unfold sp_sheet; (try simp only [Int.toNat_natCast]); repeat (first | rw [if_pos (by omega)] | rw [if_pos trivial] | rw [if_neg (by omega)])) (by rw [nZ_n]) (MSt.sh hM F2 hk ?_ ⟨?_, fun t ht => ?_⟩ R (fun t ht hne j hj => (O.k t ht hne j hj).trans rfl) (by simp) (by simp) (by simp <;> omega)) (F2.M (by simp) (by simp) (by simp))
            · rw [F.1 120 (by simp), vs_ia_ne (by omega), vs_ia_at]; rfl
            · rw [F.1 121 (by simp), vs_ia_at]; exact if_pos rfl
            · rw [F.1 121 (by simp), vs_ia_at, vs_ia_ne (by omega)]; exact if_neg ht
        · have q_32 : ¬ (n : Int) ≥ ((0 : Nat) : Int) := fun hh => c_32 ((qi_ge rfl (by first | exact nI_Z _ | (simp only [fa_lit, nI_add, pk_mul, nI_1]; exact nI_Z _)) (by omega) (by omega) (by omega) (by omega)).mpr hh)
          refine vs_aload_n 0 dX10_sheet_35 rfl rfl 0 rfl ?_
          refine vs_iconst (v := 3) dX10_sheet_36 rfl rfl ?_
          refine vs_callV (st := []) (c_meets (c := 3) (by decide) (by decide)) lk_X10_129 lm_X10_meets rfl rfl rfl rfl (Nat.le_of_ble_eq_true rfl) rfl ⟨rfl, rfl⟩ dX10_sheet_37 rfl ?_
          show vs_V _ _ _ _ _ (.int (nZ (-10 - ((3 : Nat) : Int))) :: _) _
          exact vs_iretP dX10_sheet_40 (mpost (v := -10 - ((3 : Nat) : Int)) (a' := s_cs a 3) (by unfold sp_sheet; (try simp only [Int.toNat_natCast]); (repeat (first | rw [if_pos (by omega)] | rw [if_pos trivial] | rw [if_neg (by omega)])); rfl) rfl (k_meets hM (by decide) (by decide)).1 (k_meets hM (by decide) (by decide)).2)
      · have q_25 : ¬ (n : Int) ≤ ((60 : Nat) : Int) := fun hh => c_25 ((qi_le rfl (by first | exact nI_Z _ | (simp only [fa_lit, nI_add, pk_mul, nI_1]; exact nI_Z _)) (by omega) (by omega) (by omega) (by omega)).mpr hh)
        refine vs_bipush (v := -102) dX10_sheet_28 rfl rfl ?_
        exact vs_iretP dX10_sheet_30 (mpost (v := -102) (a' := a) (by unfold sp_sheet; (try simp only [Int.toNat_natCast]); repeat (first | rw [if_pos (by omega)] | rw [if_pos trivial] | rw [if_neg (by omega)])) rfl hM frM.rf)
  · rw [nn_is0] at c_4
    refine vs_bipush (v := -101) dX10_sheet_7 rfl rfl ?_
    exact vs_iretP dX10_sheet_9 (mpost (v := -101) (a' := a) (by unfold sp_sheet; (try simp only [Int.toNat_natCast]); repeat (first | rw [if_pos (by omega)] | rw [if_pos trivial] | rw [if_neg (by omega)])) rfl hM frM.rf)

theorem mput_r {S : vs_S} {k i : Nat} {w : Nat → Int64} {x y : Int64} (h : lR S 122 (60 * k) 60 w) (e : x = y) : lR (vs_la S 122 (vp_updL (S.2.2.1 122) (60 * k + i) x)) 122 (60 * k) 60 (vp_updL w i y) := fun j hj => by
  rw [vs_la_at]
  unfold vp_updL
  by_cases e2 : j = i
  · rw [if_pos (by omega), if_pos e2, e]
  · rw [if_neg (by omega), if_neg e2]; exact h j hj
theorem mput_o {S : vs_S} {k i : Nat} {x : Int64} (hi : i < 60) : ∀ t, t < 4 → t ≠ k → ∀ j, j < 60 → (vs_la S 122 (vp_updL (S.2.2.1 122) (60 * k + i) x)).2.2.1 122 (60 * t + j) = S.2.2.1 122 (60 * t + j) := fun t ht hne j hj => by
  rw [vs_la_at]
  unfold vp_updL
  rw [if_neg (by omega)]
theorem M_put {G : vv_G} {S : vs_S} {a : aS} (hM : MSt S a) (hG : aG a) {s : Int} (hs1 : -2147483648 ≤ s) (hs2 : s < 2147483648) {l : Int} (hl1 : -2147483648 ≤ l) (hl2 : l < 2147483648) {i : Int} (hi1 : -2147483648 ≤ i) (hi2 : i < 2147483648) {v : Int64} : vs_CP G yX10_put cX10_put 6 (some .int) { frames := 2, locals := 45 } [.ref (G.2.2.2 + 118), .int (nZ s), .int (nZ l), .int (nZ i), .long (v)] S (fun r S2 => r = some (.int (nZ (sp_put a s l i v).1)) ∧ MSt S2 (sp_put a s l i v).2 ∧ frM S S2) := by
  refine vs_ofP [(0, .ref (G.2.2.2 + 118)), (1, .int (nZ s)), (2, .int (nZ l)), (3, .int (nZ i)), (4, .long (v))] (by decide) rfl rfl ?_
  obtain ⟨⟨mP, mN, mH, mK0⟩, mK, mSh, mSe, ⟨mA, mB⟩, mX, mY⟩ := id hM
  obtain ⟨gP, gP2, gN, gH, gSe, gSh, gXY, gB31, gInj, gA, gB, gAz, gBz⟩ := hG
  have gP1 := gP.1
  refine vs_iload_n 1 dX10_put_0 rfl rfl 1 rfl ?_
  refine vs_callS (st := []) (c_isSheet hs1 hs2) lk_X10_126 lm_X10_isSheet rfl rfl (Nat.le_of_ble_eq_true rfl) rfl ⟨rfl, rfl⟩ dX10_put_1 rfl ?_
  show vs_V _ _ _ _ _ (.int ((if 0 ≤ s ∧ s ≤ 3 then 1 else 0)) :: _) _
  refine vs_if_ne 10 dX10_put_4 rfl rfl (fun c_4 => ?_) (fun c_4 => ?_)
  · rw [nn_is0, Classical.not_not] at c_4
    refine vs_iload_n 2 dX10_put_10 rfl rfl 2 rfl ?_
    refine vs_i2l dX10_put_11 rfl ?_
    refine vs_lconst (v := 0) dX10_put_12 rfl rfl ?_
    refine vs_ldc2 lc_X10_124 dX10_put_13 rfl ?_
    refine vs_callS (st := []) (c_inZ (z := l) (x := 0) (y := 3) (by rw [nn_i2l, nZ_i hl1 hl2]) rfl rfl) lk_X10_107 lm_X10_in rfl rfl (Nat.le_of_ble_eq_true rfl) rfl ⟨rfl, rfl⟩ dX10_put_16 rfl ?_
    show vs_V _ _ _ _ _ (.int ((if 0 ≤ l ∧ l ≤ 3 then 1 else 0)) :: _) _
    refine vs_if_ne 25 dX10_put_19 rfl rfl (fun c_19 => ?_) (fun c_19 => ?_)
    · rw [nn_is0, Classical.not_not] at c_19
      skip
      · obtain ⟨k, rfl⟩ : ∃ z0 : Nat, s = z0 := ⟨s.toNat, by omega⟩
        rw [nZ_n k]
        have hk : k < 4 := by omega
        obtain ⟨k1, k2, k3⟩ := mSh k hk
        obtain ⟨k5, k6, k7⟩ := gSh k hk
        obtain ⟨l, rfl⟩ : ∃ z0 : Nat, l = z0 := ⟨l.toNat, by omega⟩
        rw [nZ_n l]
        by_cases lok : aLo a k = 0
        · have lnk : S.2.1 120 k = nI (aLn a k) := by rw [k1]; exact if_pos lok
          refine vs_aload_n 0 dX10_put_25 rfl rfl 0 rfl ?_
          refine vs_get (v := .ref (G.2.2.2 + 120)) lf_X10_13 rfl rfl dX10_put_26 rfl ?_
          refine vs_iload_n 1 dX10_put_29 rfl rfl 1 rfl ?_
          refine vs_iald (k := k) rfl rfl (by omega) rfl dX10_put_30 rfl ?_
          refine vs_topi (fun z1 e_z1 => ?_)
          have f_z1 : z1 = nI (aLn a k) := (by rw [e_z1]; exact lnk)
          subst f_z1
          clear e_z1
          refine vs_iconst (v := -1) dX10_put_31 rfl rfl ?_
          refine vs_icmp_ne 41 dX10_put_32 rfl rfl (fun c_32 => ?_) (fun c_32 => ?_)
          · have q_32 : ¬ (((aLn a k) : Nat) : Int) = (-1 : Int) := fun hh => c_32 ((qi_eq (nI_Z _) rfl (by omega) (by omega) (by omega) (by omega)).mpr hh)
            refine vs_aload_n 0 dX10_put_41 rfl rfl 0 rfl ?_
            refine vs_get (v := .ref (G.2.2.2 + 120)) lf_X10_13 rfl rfl dX10_put_42 rfl ?_
            refine vs_iload_n 1 dX10_put_45 rfl rfl 1 rfl ?_
            refine vs_iald (k := k) rfl rfl (by omega) rfl dX10_put_46 rfl ?_
            refine vs_topi (fun z2 e_z2 => ?_)
            have f_z2 : z2 = nI (aLn a k) := (by rw [e_z2]; exact lnk)
            subst f_z2
            clear e_z2
            refine vs_iload_n 2 dX10_put_47 rfl rfl 2 rfl ?_
            refine vs_icmp_eq 57 dX10_put_48 rfl rfl (fun c_48 => ?_) (fun c_48 => ?_)
            · have q_48 : (((aLn a k) : Nat) : Int) = ((l : Nat) : Int) := (qi_eq (nI_Z _) (nI_Z _) (by omega) (by omega) (by omega) (by omega)).mp c_48
              refine vs_iload_n 3 dX10_put_57 rfl rfl 3 rfl ?_
              refine vs_i2l dX10_put_58 rfl ?_
              refine vs_lconst (v := 0) dX10_put_59 rfl rfl ?_
              refine vs_aload_n 0 dX10_put_60 rfl rfl 0 rfl ?_
              refine vs_get (v := .ref (G.2.2.2 + 121)) lf_X10_16 rfl rfl dX10_put_61 rfl ?_
              refine vs_iload_n 1 dX10_put_64 rfl rfl 1 rfl ?_
              refine vs_iald (k := k) rfl rfl (by omega) rfl dX10_put_65 rfl ?_
              refine vs_topi (fun z3 e_z3 => ?_)
              have f_z3 : z3 = nI (aSz a k) := (by rw [e_z3]; exact k2)
              subst f_z3
              clear e_z3
              refine vs_iconst (v := 1) dX10_put_66 rfl rfl ?_
              refine vs_isub dX10_put_67 rfl ?_
              refine vs_topi (fun z4 e_z4 => ?_)
              have f_z4 : z4 = nZ ((aSz a k : Int) - 1) := (by rw [e_z4, nI_Z, show (1 : Int32) = nZ 1 from rfl, nZ_sub])
              subst f_z4
              clear e_z4
              refine vs_i2l dX10_put_68 rfl ?_
              refine vs_callS (st := []) (c_inZ (z := i) (x := 0) (y := ((aSz a k : Int) - 1)) (by rw [nn_i2l, nZ_i hi1 hi2]) rfl (by rw [nn_i2l, nZ_i (by omega) (by omega)])) lk_X10_107 lm_X10_in rfl rfl (Nat.le_of_ble_eq_true rfl) rfl ⟨rfl, rfl⟩ dX10_put_69 rfl ?_
              show vs_V _ _ _ _ _ (.int ((if 0 ≤ i ∧ i ≤ ((aSz a k : Int) - 1) then 1 else 0)) :: _) _
              refine vs_if_ne 81 dX10_put_72 rfl rfl (fun c_72 => ?_) (fun c_72 => ?_)
              · rw [nn_is0, Classical.not_not] at c_72
                skip
                · obtain ⟨i, rfl⟩ : ∃ z0 : Nat, i = z0 := ⟨i.toNat, by omega⟩
                  rw [nZ_n i]
                  refine vs_aload_n 0 dX10_put_81 rfl rfl 0 rfl ?_
                  refine vs_get (v := .ref (G.2.2.2 + 122)) lf_X10_19 rfl rfl dX10_put_82 rfl ?_
                  refine vs_bipush (v := 60) dX10_put_85 rfl rfl ?_
                  refine vs_iload_n 1 dX10_put_87 rfl rfl 1 rfl ?_
                  refine vs_imul dX10_put_88 rfl ?_
                  refine vs_iload_n 3 dX10_put_89 rfl rfl 3 rfl ?_
                  refine vs_iadd dX10_put_90 rfl ?_
                  refine vs_iload_n 2 dX10_put_91 rfl rfl 2 rfl ?_
                  refine vs_if_ne 103 dX10_put_92 rfl rfl (fun c_92 => ?_) (fun c_92 => ?_)
                  · have q_92 : ¬ ((l : Nat) : Int) = ((0 : Nat) : Int) := fun hh => c_92 ((qi_eq (nI_Z _) (by first | exact nI_Z _ | (simp only [fa_lit, nI_add, pk_mul, nI_1]; exact nI_Z _)) (by omega) (by omega) (by omega) (by omega)).mpr hh)
                    refine vs_iload_n 2 dX10_put_103 rfl rfl 2 rfl ?_
                    refine vs_iconst (v := 1) dX10_put_104 rfl rfl ?_
                    refine vs_icmp_ne 116 dX10_put_105 rfl rfl (fun c_105 => ?_) (fun c_105 => ?_)
                    · have q_105 : ¬ ((l : Nat) : Int) = ((1 : Nat) : Int) := fun hh => c_105 ((qi_eq (nI_Z _) (by first | exact nI_Z _ | (simp only [fa_lit, nI_add, pk_mul, nI_1]; exact nI_Z _)) (by omega) (by omega) (by omega) (by omega)).mpr hh)
                      refine vs_iload_n 2 dX10_put_116 rfl rfl 2 rfl ?_
                      refine vs_iconst (v := 2) dX10_put_117 rfl rfl ?_
                      refine vs_icmp_ne 128 dX10_put_118 rfl rfl (fun c_118 => ?_) (fun c_118 => ?_)
                      · have q_118 : ¬ ((l : Nat) : Int) = ((2 : Nat) : Int) := fun hh => c_118 ((qi_eq (nI_Z _) (by first | exact nI_Z _ | (simp only [fa_lit, nI_add, pk_mul, nI_1]; exact nI_Z _)) (by omega) (by omega) (by omega) (by omega)).mpr hh)
                        refine vs_lload dX10_put_128 rfl 4 rfl ?_
                        refine vs_last (k := (60 * k + i)) rfl (by simp only [fa_lit, nI_add, pk_mul]) (by omega) rfl dX10_put_130 rfl ?_
                        refine vs_iconst (v := 1) dX10_put_131 rfl rfl ?_
                        exact vs_iretP dX10_put_132 (mpost (v := 1) (a' := s_sh a k (aLo a k) (aLn a k) (aSz a k) (vp_updL (aW a k) i (cst (aLn a k) v))) (by unfold sp_put; (try simp only [Int.toNat_natCast]); repeat (first | rw [if_pos (by omega)] | rw [if_pos trivial] | rw [if_neg (by omega)])) rfl (k_mcells hM hk (vs_fx.la vs_fx.rf (by simp)) (mput_r (y := cst (aLn a k) v) k3 (by unfold cst; rw [show aLn a k = l by omega]; first | rw [if_pos (by omega)] | rw [if_neg (by omega), if_pos (by omega)] | rw [if_neg (by omega), if_neg (by omega), if_pos (by omega)] | rw [if_neg (by omega), if_neg (by omega), if_neg (by omega)])) (mput_o (by omega))).1 (k_mcells hM hk (vs_fx.la vs_fx.rf (by simp)) (mput_r (y := cst (aLn a k) v) k3 (by unfold cst; rw [show aLn a k = l by omega]; first | rw [if_pos (by omega)] | rw [if_neg (by omega), if_pos (by omega)] | rw [if_neg (by omega), if_neg (by omega), if_pos (by omega)] | rw [if_neg (by omega), if_neg (by omega), if_neg (by omega)])) (mput_o (by omega))).2)
                      · have q_118 : ((l : Nat) : Int) = ((2 : Nat) : Int) := (qi_eq (nI_Z _) (by first | exact nI_Z _ | (simp only [fa_lit, nI_add, pk_mul, nI_1]; exact nI_Z _)) (by omega) (by omega) (by omega) (by omega)).mp c_118
                        refine vs_lload dX10_put_121 rfl 4 rfl ?_
                        refine vs_l2i dX10_put_123 rfl ?_
                        refine vs_i2l dX10_put_124 rfl ?_
                        refine vs_goto 130 dX10_put_125 rfl ?_
                        refine vs_last (k := (60 * k + i)) rfl (by simp only [fa_lit, nI_add, pk_mul]) (by omega) rfl dX10_put_130 rfl ?_
                        refine vs_iconst (v := 1) dX10_put_131 rfl rfl ?_
                        exact vs_iretP dX10_put_132 (mpost (v := 1) (a' := s_sh a k (aLo a k) (aLn a k) (aSz a k) (vp_updL (aW a k) i (cst (aLn a k) v))) (by unfold sp_put; (try simp only [Int.toNat_natCast]); repeat (first | rw [if_pos (by omega)] | rw [if_pos trivial] | rw [if_neg (by omega)])) rfl (k_mcells hM hk (vs_fx.la vs_fx.rf (by simp)) (mput_r (y := cst (aLn a k) v) k3 (by unfold cst; rw [show aLn a k = l by omega]; first | rw [if_pos (by omega)] | rw [if_neg (by omega), if_pos (by omega)] | rw [if_neg (by omega), if_neg (by omega), if_pos (by omega)] | rw [if_neg (by omega), if_neg (by omega), if_neg (by omega)])) (mput_o (by omega))).1 (k_mcells hM hk (vs_fx.la vs_fx.rf (by simp)) (mput_r (y := cst (aLn a k) v) k3 (by unfold cst; rw [show aLn a k = l by omega]; first | rw [if_pos (by omega)] | rw [if_neg (by omega), if_pos (by omega)] | rw [if_neg (by omega), if_neg (by omega), if_pos (by omega)] | rw [if_neg (by omega), if_neg (by omega), if_neg (by omega)])) (mput_o (by omega))).2)
                    · have q_105 : ((l : Nat) : Int) = ((1 : Nat) : Int) := (qi_eq (nI_Z _) (by first | exact nI_Z _ | (simp only [fa_lit, nI_add, pk_mul, nI_1]; exact nI_Z _)) (by omega) (by omega) (by omega) (by omega)).mp c_105
                      refine vs_lload dX10_put_108 rfl 4 rfl ?_
                      refine vs_l2i dX10_put_110 rfl ?_
                      refine vs_i2s dX10_put_111 rfl ?_
                      refine vs_i2l dX10_put_112 rfl ?_
                      refine vs_goto 130 dX10_put_113 rfl ?_
                      refine vs_last (k := (60 * k + i)) rfl (by simp only [fa_lit, nI_add, pk_mul]) (by omega) rfl dX10_put_130 rfl ?_
                      refine vs_iconst (v := 1) dX10_put_131 rfl rfl ?_
                      exact vs_iretP dX10_put_132 (mpost (v := 1) (a' := s_sh a k (aLo a k) (aLn a k) (aSz a k) (vp_updL (aW a k) i (cst (aLn a k) v))) (by unfold sp_put; (try simp only [Int.toNat_natCast]); repeat (first | rw [if_pos (by omega)] | rw [if_pos trivial] | rw [if_neg (by omega)])) rfl (k_mcells hM hk (vs_fx.la vs_fx.rf (by simp)) (mput_r (y := cst (aLn a k) v) k3 (by unfold cst; rw [show aLn a k = l by omega]; first | rw [if_pos (by omega)] | rw [if_neg (by omega), if_pos (by omega)] | rw [if_neg (by omega), if_neg (by omega), if_pos (by omega)] | rw [if_neg (by omega), if_neg (by omega), if_neg (by omega)])) (mput_o (by omega))).1 (k_mcells hM hk (vs_fx.la vs_fx.rf (by simp)) (mput_r (y := cst (aLn a k) v) k3 (by unfold cst; rw [show aLn a k = l by omega]; first | rw [if_pos (by omega)] | rw [if_neg (by omega), if_pos (by omega)] | rw [if_neg (by omega), if_neg (by omega), if_pos (by omega)] | rw [if_neg (by omega), if_neg (by omega), if_neg (by omega)])) (mput_o (by omega))).2)
                  · have q_92 : ((l : Nat) : Int) = ((0 : Nat) : Int) := (qi_eq (nI_Z _) (by first | exact nI_Z _ | (simp only [fa_lit, nI_add, pk_mul, nI_1]; exact nI_Z _)) (by omega) (by omega) (by omega) (by omega)).mp c_92
                    refine vs_lload dX10_put_95 rfl 4 rfl ?_
                    refine vs_l2i dX10_put_97 rfl ?_
                    refine vs_i2b dX10_put_98 rfl ?_
                    refine vs_i2l dX10_put_99 rfl ?_
                    refine vs_goto 130 dX10_put_100 rfl ?_
                    refine vs_last (k := (60 * k + i)) rfl (by simp only [fa_lit, nI_add, pk_mul]) (by omega) rfl dX10_put_130 rfl ?_
                    refine vs_iconst (v := 1) dX10_put_131 rfl rfl ?_
                    exact vs_iretP dX10_put_132 (mpost (v := 1) (a' := s_sh a k (aLo a k) (aLn a k) (aSz a k) (vp_updL (aW a k) i (cst (aLn a k) v))) (by unfold sp_put; (try simp only [Int.toNat_natCast]); repeat (first | rw [if_pos (by omega)] | rw [if_pos trivial] | rw [if_neg (by omega)])) rfl (k_mcells hM hk (vs_fx.la vs_fx.rf (by simp)) (mput_r (y := cst (aLn a k) v) k3 (by unfold cst; rw [show aLn a k = l by omega]; first | rw [if_pos (by omega)] | rw [if_neg (by omega), if_pos (by omega)] | rw [if_neg (by omega), if_neg (by omega), if_pos (by omega)] | rw [if_neg (by omega), if_neg (by omega), if_neg (by omega)])) (mput_o (by omega))).1 (k_mcells hM hk (vs_fx.la vs_fx.rf (by simp)) (mput_r (y := cst (aLn a k) v) k3 (by unfold cst; rw [show aLn a k = l by omega]; first | rw [if_pos (by omega)] | rw [if_neg (by omega), if_pos (by omega)] | rw [if_neg (by omega), if_neg (by omega), if_pos (by omega)] | rw [if_neg (by omega), if_neg (by omega), if_neg (by omega)])) (mput_o (by omega))).2)
              · rw [nn_is0] at c_72
                refine vs_aload_n 0 dX10_put_75 rfl rfl 0 rfl ?_
                refine vs_iconst (v := 2) dX10_put_76 rfl rfl ?_
                refine vs_callV (st := []) (c_meets (c := 2) (by decide) (by decide)) lk_X10_129 lm_X10_meets rfl rfl rfl rfl (Nat.le_of_ble_eq_true rfl) rfl ⟨rfl, rfl⟩ dX10_put_77 rfl ?_
                show vs_V _ _ _ _ _ (.int (nZ (-10 - ((2 : Nat) : Int))) :: _) _
                exact vs_iretP dX10_put_80 (mpost (v := -10 - ((2 : Nat) : Int)) (a' := s_cs a 2) (by unfold sp_put; (try simp only [Int.toNat_natCast]); (repeat (first | rw [if_pos (by omega)] | rw [if_pos trivial] | rw [if_neg (by omega)])); rfl) rfl (k_meets hM (by decide) (by decide)).1 (k_meets hM (by decide) (by decide)).2)
            · have q_48 : ¬ (((aLn a k) : Nat) : Int) = ((l : Nat) : Int) := fun hh => c_48 ((qi_eq (nI_Z _) (nI_Z _) (by omega) (by omega) (by omega) (by omega)).mpr hh)
              refine vs_aload_n 0 dX10_put_51 rfl rfl 0 rfl ?_
              refine vs_iconst (v := 4) dX10_put_52 rfl rfl ?_
              refine vs_callV (st := []) (c_meets (c := 4) (by decide) (by decide)) lk_X10_129 lm_X10_meets rfl rfl rfl rfl (Nat.le_of_ble_eq_true rfl) rfl ⟨rfl, rfl⟩ dX10_put_53 rfl ?_
              show vs_V _ _ _ _ _ (.int (nZ (-10 - ((4 : Nat) : Int))) :: _) _
              exact vs_iretP dX10_put_56 (mpost (v := -10 - ((4 : Nat) : Int)) (a' := s_cs a 4) (by unfold sp_put; (try simp only [Int.toNat_natCast]); (repeat (first | rw [if_pos (by omega)] | rw [if_pos trivial] | rw [if_neg (by omega)])); rfl) rfl (k_meets hM (by decide) (by decide)).1 (k_meets hM (by decide) (by decide)).2)
          · have q_32 : (((aLn a k) : Nat) : Int) = (-1 : Int) := (qi_eq (nI_Z _) rfl (by omega) (by omega) (by omega) (by omega)).mp c_32
            omega
        · have lnk : S.2.1 120 k = nZ (-1) := by rw [k1]; exact if_neg lok
          refine vs_aload_n 0 dX10_put_25 rfl rfl 0 rfl ?_
          refine vs_get (v := .ref (G.2.2.2 + 120)) lf_X10_13 rfl rfl dX10_put_26 rfl ?_
          refine vs_iload_n 1 dX10_put_29 rfl rfl 1 rfl ?_
          refine vs_iald (k := k) rfl rfl (by omega) rfl dX10_put_30 rfl ?_
          refine vs_topi (fun z5 e_z5 => ?_)
          have f_z5 : z5 = nZ (-1) := (by rw [e_z5]; exact lnk)
          subst f_z5
          clear e_z5
          refine vs_iconst (v := -1) dX10_put_31 rfl rfl ?_
          refine vs_icmp_ne 41 dX10_put_32 rfl rfl (fun c_32 => ?_) (fun c_32 => ?_)
          · have q_32 : ¬ ((-1) : Int) = (-1 : Int) := fun hh => c_32 ((qi_eq rfl rfl (by omega) (by omega) (by omega) (by omega)).mpr hh)
            omega
          · have q_32 : ((-1) : Int) = (-1 : Int) := (qi_eq rfl rfl (by omega) (by omega) (by omega) (by omega)).mp c_32
            refine vs_aload_n 0 dX10_put_35 rfl rfl 0 rfl ?_
            refine vs_iconst (v := 1) dX10_put_36 rfl rfl ?_
            refine vs_callV (st := []) (c_meets (c := 1) (by decide) (by decide)) lk_X10_129 lm_X10_meets rfl rfl rfl rfl (Nat.le_of_ble_eq_true rfl) rfl ⟨rfl, rfl⟩ dX10_put_37 rfl ?_
            show vs_V _ _ _ _ _ (.int (nZ (-10 - ((1 : Nat) : Int))) :: _) _
            exact vs_iretP dX10_put_40 (mpost (v := -10 - ((1 : Nat) : Int)) (a' := s_cs a 1) (by unfold sp_put; (try simp only [Int.toNat_natCast]); (repeat (first | rw [if_pos (by omega)] | rw [if_pos trivial] | rw [if_neg (by omega)])); rfl) rfl (k_meets hM (by decide) (by decide)).1 (k_meets hM (by decide) (by decide)).2)
    · rw [nn_is0] at c_19
      refine vs_bipush (v := -102) dX10_put_22 rfl rfl ?_
      exact vs_iretP dX10_put_24 (mpost (v := -102) (a' := a) (by unfold sp_put; (try simp only [Int.toNat_natCast]); repeat (first | rw [if_pos (by omega)] | rw [if_pos trivial] | rw [if_neg (by omega)])) rfl hM frM.rf)
  · rw [nn_is0] at c_4
    refine vs_bipush (v := -101) dX10_put_7 rfl rfl ?_
    exact vs_iretP dX10_put_9 (mpost (v := -101) (a' := a) (by unfold sp_put; (try simp only [Int.toNat_natCast]); repeat (first | rw [if_pos (by omega)] | rw [if_pos trivial] | rw [if_neg (by omega)])) rfl hM frM.rf)

theorem M_lose {G : vv_G} {S : vs_S} {a : aS} (hM : MSt S a) (hG : aG a) {s : Int} (hs1 : -2147483648 ≤ s) (hs2 : s < 2147483648) : vs_CP G yX10_lose cX10_lose 2 (some .int) { frames := 2, locals := 45 } [.ref (G.2.2.2 + 118), .int (nZ s)] S (fun r S2 => r = some (.int (nZ (sp_lose a s).1)) ∧ MSt S2 (sp_lose a s).2 ∧ frM S S2) := by
  refine vs_ofP [(0, .ref (G.2.2.2 + 118)), (1, .int (nZ s))] (by decide) rfl rfl ?_
  obtain ⟨⟨mP, mN, mH, mK0⟩, mK, mSh, mSe, ⟨mA, mB⟩, mX, mY⟩ := id hM
  obtain ⟨gP, gP2, gN, gH, gSe, gSh, gXY, gB31, gInj, gA, gB, gAz, gBz⟩ := hG
  have gP1 := gP.1
  refine vs_iload_n 1 dX10_lose_0 rfl rfl 1 rfl ?_
  refine vs_callS (st := []) (c_isSheet hs1 hs2) lk_X10_126 lm_X10_isSheet rfl rfl (Nat.le_of_ble_eq_true rfl) rfl ⟨rfl, rfl⟩ dX10_lose_1 rfl ?_
  show vs_V _ _ _ _ _ (.int ((if 0 ≤ s ∧ s ≤ 3 then 1 else 0)) :: _) _
  refine vs_if_ne 10 dX10_lose_4 rfl rfl (fun c_4 => ?_) (fun c_4 => ?_)
  · rw [nn_is0, Classical.not_not] at c_4
    skip
    · obtain ⟨k, rfl⟩ : ∃ z0 : Nat, s = z0 := ⟨s.toNat, by omega⟩
      rw [nZ_n k]
      have hk : k < 4 := by omega
      obtain ⟨k1, k2, k3⟩ := mSh k hk
      obtain ⟨k5, k6, k7⟩ := gSh k hk
      by_cases lok : aLo a k = 0
      · have lnk : S.2.1 120 k = nI (aLn a k) := by rw [k1]; exact if_pos lok
        refine vs_aload_n 0 dX10_lose_10 rfl rfl 0 rfl ?_
        refine vs_get (v := .ref (G.2.2.2 + 120)) lf_X10_13 rfl rfl dX10_lose_11 rfl ?_
        refine vs_iload_n 1 dX10_lose_14 rfl rfl 1 rfl ?_
        refine vs_iald (k := k) rfl rfl (by omega) rfl dX10_lose_15 rfl ?_
        refine vs_topi (fun z1 e_z1 => ?_)
        have f_z1 : z1 = nI (aLn a k) := (by rw [e_z1]; exact lnk)
        subst f_z1
        clear e_z1
        refine vs_iconst (v := -1) dX10_lose_16 rfl rfl ?_
        refine vs_icmp_ne 26 dX10_lose_17 rfl rfl (fun c_17 => ?_) (fun c_17 => ?_)
        · have q_17 : ¬ (((aLn a k) : Nat) : Int) = (-1 : Int) := fun hh => c_17 ((qi_eq (nI_Z _) rfl (by omega) (by omega) (by omega) (by omega)).mpr hh)
          refine vs_aload_n 0 dX10_lose_26 rfl rfl 0 rfl ?_
          refine vs_get (v := .ref (G.2.2.2 + 120)) lf_X10_13 rfl rfl dX10_lose_27 rfl ?_
          refine vs_iload_n 1 dX10_lose_30 rfl rfl 1 rfl ?_
          refine vs_iconst (v := -1) dX10_lose_31 rfl rfl ?_
          refine vs_iast (k := k) rfl rfl (by omega) rfl dX10_lose_32 rfl ?_
          have F : vs_fx S (vs_ia S 120 (upd (S.2.1 120) k (-1))) [120] [] [] := vs_fx.ia vs_fx.rf (by simp)
          refine vs_aload_n 0 dX10_lose_33 rfl rfl 0 rfl ?_
          refine vs_get (v := .ref (G.2.2.2 + 121)) lf_X10_16 rfl rfl dX10_lose_34 rfl ?_
          refine vs_iload_n 1 dX10_lose_37 rfl rfl 1 rfl ?_
          refine vs_iald (k := k) rfl rfl (by omega) rfl dX10_lose_38 rfl ?_
          refine vs_topi (fun z2 e_z2 => ?_)
          have f_z2 : z2 = nI (aSz a k) := (by rw [e_z2, vs_ia_ne (by omega)]; exact k2)
          subst f_z2
          clear e_z2
          exact vs_iretP dX10_lose_39 (mpost (v := (aSz a k : Int)) (a' := s_sh a k 1 (aLn a k) (aSz a k) (aW a k)) (by unfold sp_lose; (try simp only [Int.toNat_natCast]); repeat (first | rw [if_pos (by omega)] | rw [if_pos trivial] | rw [if_neg (by omega)])) (by rw [nZ_n]) (MSt.sh hM F hk (by rw [vs_ia_at]; rfl) ⟨(by rw [vs_ia_ne (by omega)]; exact k2), fun t _ => by rw [vs_ia_ne (by omega)]⟩ k3 (fun _ _ _ _ _ => rfl) (by simp) (by simp) (by simp)) (F.M (by simp) (by simp) (by simp)))
        · have q_17 : (((aLn a k) : Nat) : Int) = (-1 : Int) := (qi_eq (nI_Z _) rfl (by omega) (by omega) (by omega) (by omega)).mp c_17
          omega
      · have lnk : S.2.1 120 k = nZ (-1) := by rw [k1]; exact if_neg lok
        refine vs_aload_n 0 dX10_lose_10 rfl rfl 0 rfl ?_
        refine vs_get (v := .ref (G.2.2.2 + 120)) lf_X10_13 rfl rfl dX10_lose_11 rfl ?_
        refine vs_iload_n 1 dX10_lose_14 rfl rfl 1 rfl ?_
        refine vs_iald (k := k) rfl rfl (by omega) rfl dX10_lose_15 rfl ?_
        refine vs_topi (fun z3 e_z3 => ?_)
        have f_z3 : z3 = nZ (-1) := (by rw [e_z3]; exact lnk)
        subst f_z3
        clear e_z3
        refine vs_iconst (v := -1) dX10_lose_16 rfl rfl ?_
        refine vs_icmp_ne 26 dX10_lose_17 rfl rfl (fun c_17 => ?_) (fun c_17 => ?_)
        · have q_17 : ¬ ((-1) : Int) = (-1 : Int) := fun hh => c_17 ((qi_eq rfl rfl (by omega) (by omega) (by omega) (by omega)).mpr hh)
          omega
        · have q_17 : ((-1) : Int) = (-1 : Int) := (qi_eq rfl rfl (by omega) (by omega) (by omega) (by omega)).mp c_17
          refine vs_aload_n 0 dX10_lose_20 rfl rfl 0 rfl ?_
          refine vs_iconst (v := 1) dX10_lose_21 rfl rfl ?_
          refine vs_callV (st := []) (c_meets (c := 1) (by decide) (by decide)) lk_X10_129 lm_X10_meets rfl rfl rfl rfl (Nat.le_of_ble_eq_true rfl) rfl ⟨rfl, rfl⟩ dX10_lose_22 rfl ?_
          show vs_V _ _ _ _ _ (.int (nZ (-10 - ((1 : Nat) : Int))) :: _) _
          exact vs_iretP dX10_lose_25 (mpost (v := -10 - ((1 : Nat) : Int)) (a' := s_cs a 1) (by unfold sp_lose; (try simp only [Int.toNat_natCast]); (repeat (first | rw [if_pos (by omega)] | rw [if_pos trivial] | rw [if_neg (by omega)])); rfl) rfl (k_meets hM (by decide) (by decide)).1 (k_meets hM (by decide) (by decide)).2)
  · rw [nn_is0] at c_4
    refine vs_bipush (v := -101) dX10_lose_7 rfl rfl ?_
    exact vs_iretP dX10_lose_9 (mpost (v := -101) (a' := a) (by unfold sp_lose; (try simp only [Int.toNat_natCast]); repeat (first | rw [if_pos (by omega)] | rw [if_pos trivial] | rw [if_neg (by omega)])) rfl hM frM.rf)

theorem lR.la {S : vs_S} {o i n x : Nat} {w : Nat → Int64} {v : Int64} {o2 : Nat} (h : lR S o i n w) (hne : o ≠ o2) : lR (vs_la S o2 (vp_updL (S.2.2.1 o2) x v)) o i n w := fun j hj => by
  rw [show (vs_la S o2 (vp_updL (S.2.2.1 o2) x v)).2.2.1 o = S.2.2.1 o from vs_u2_n hne]
  exact h j hj
theorem lR.push {S : vs_S} {o i n : Nat} {w : Nat → Int64} (h : lR S o i n w) : lR (vs_la S o (vp_updL (S.2.2.1 o) (i + n) (w n))) o i (n + 1) w := fun j hj => by
  rw [vs_la_at]
  unfold vp_updL
  by_cases e : i + j = i + n
  · rw [if_pos e, show j = n by omega]
  · rw [if_neg e]; exact h j (by omega)
theorem l_mcopy1 {G : vv_G} {S : vs_S} {k u i j n : Nat} (hk : k < 4) (hu : u < 4) (hi : i + n ≤ 60) (hj : j + n ≤ 60) {w : Nat → Int64} {S0 : vs_S} {Pst : Option Value → vs_S → Prop} (hw : lR S0 122 (60 * k) 60 w) (K : ∀ S2 : vs_S, vs_fx S0 S2 [] [] [123] → lR S2 123 0 n (fun x => w (i + x)) → vs_V G cX10_copy (vs_MP yX10_copy 7 (some .int) { frames := 2, locals := 45 } G Pst) 156 [(0, .ref (G.2.2.2 + 118)), (1, .int (nI k)), (2, .int (nI i)), (3, .int (nI u)), (4, .int (nI j)), (5, .int (nI n))] [] S2) : ∀ (d x : Nat) (S : vs_S), x + d = n → vs_fx S0 S [] [] [123] → lR S 123 0 x (fun x => w (i + x)) → vs_V G cX10_copy (vs_MP yX10_copy 7 (some .int) { frames := 2, locals := 45 } G Pst) 122 [(6, .int (nI x)), (0, .ref (G.2.2.2 + 118)), (1, .int (nI k)), (2, .int (nI i)), (3, .int (nI u)), (4, .int (nI j)), (5, .int (nI n))] [] S := by
  intro d
  induction d with
  | zero =>
    intro x S hx F R
    obtain rfl : x = n := by omega
    refine vs_iload dX10_copy_122 rfl 0 rfl ?_
    refine vs_iload dX10_copy_124 rfl 6 rfl ?_
    refine vs_icmp_ge 156 dX10_copy_126 rfl rfl (fun c_126 => ?_) (fun c_126 => ?_)
    · have q_126 : ((x : Nat) : Int) ≥ ((x : Nat) : Int) := (qi_ge (nI_Z _) (nI_Z _) (by omega) (by omega) (by omega) (by omega)).mp c_126
      refine vs_pick [1, 2, 3, 4, 5, 6] rfl ?_
      exact K S F R
    · have q_126 : ¬ ((x : Nat) : Int) ≥ ((x : Nat) : Int) := fun hh => c_126 ((qi_ge (nI_Z _) (nI_Z _) (by omega) (by omega) (by omega) (by omega)).mpr hh)
      omega
  | succ d ih =>
    intro x S hx F R
    have hw2 : lR S 122 (60 * k) 60 w := lR.fx hw F (by simp)
    refine vs_iload dX10_copy_122 rfl 0 rfl ?_
    refine vs_iload dX10_copy_124 rfl 6 rfl ?_
    refine vs_icmp_ge 156 dX10_copy_126 rfl rfl (fun c_126 => ?_) (fun c_126 => ?_)
    · have q_126 : ((x : Nat) : Int) ≥ ((n : Nat) : Int) := (qi_ge (nI_Z _) (nI_Z _) (by omega) (by omega) (by omega) (by omega)).mp c_126
      omega
    · have q_126 : ¬ ((x : Nat) : Int) ≥ ((n : Nat) : Int) := fun hh => c_126 ((qi_ge (nI_Z _) (nI_Z _) (by omega) (by omega) (by omega) (by omega)).mpr hh)
      refine vs_aload_n 0 dX10_copy_129 rfl rfl 1 rfl ?_
      refine vs_get (v := .ref (G.2.2.2 + 123)) lf_X10_23 rfl rfl dX10_copy_130 rfl ?_
      refine vs_iload dX10_copy_133 rfl 0 rfl ?_
      refine vs_aload_n 0 dX10_copy_135 rfl rfl 1 rfl ?_
      refine vs_get (v := .ref (G.2.2.2 + 122)) lf_X10_19 rfl rfl dX10_copy_136 rfl ?_
      refine vs_bipush (v := 60) dX10_copy_139 rfl rfl ?_
      refine vs_iload_n 1 dX10_copy_141 rfl rfl 2 rfl ?_
      refine vs_imul dX10_copy_142 rfl ?_
      refine vs_iload_n 2 dX10_copy_143 rfl rfl 3 rfl ?_
      refine vs_iadd dX10_copy_144 rfl ?_
      refine vs_iload dX10_copy_145 rfl 0 rfl ?_
      refine vs_iadd dX10_copy_147 rfl ?_
      refine vs_lald (k := (60 * k + (i + x))) rfl (by simp only [fa_lit, nI_add, pk_mul, Nat.add_assoc]) (by omega) rfl dX10_copy_148 rfl ?_
      refine vs_topl (fun z1 e_z1 => ?_)
      have f_z1 : z1 = w (i + x) := (by rw [e_z1]; exact hw2 _ (by omega))
      subst f_z1
      clear e_z1
      refine vs_last (k := (0 + x)) rfl (by rw [Nat.zero_add]) (by omega) rfl dX10_copy_149 rfl ?_
      refine vs_iinc (v := nI (x + 1)) [(6, .int (nI (x + 1))), (0, .ref (G.2.2.2 + 118)), (1, .int (nI k)), (2, .int (nI i)), (3, .int (nI u)), (4, .int (nI j)), (5, .int (nI n))] dX10_copy_150 rfl 0 rfl (by first | exact nI_1 _ | (simp only [fa_lit, nI_add, pk_mul, nI_1]; rfl)) rfl rfl ?_
      refine vs_goto 122 dX10_copy_153 rfl ?_
      refine vs_pick [0, 1, 2, 3, 4, 5, 6] rfl ?_
      exact ih (x + 1) _ (by omega) (vs_fx.la F (by simp)) (lR.push R)

theorem l_mcopy2 {G : vv_G} {S : vs_S} {k u i j n : Nat} (hk : k < 4) (hu : u < 4) (hi : i + n ≤ 60) (hj : j + n ≤ 60) {w : Nat → Int64} {S0 : vs_S} {Pst : Option Value → vs_S → Prop} {v : Nat → Int64} (hw : lR S0 123 0 n (fun x => w (i + x))) (hv : lR S0 122 (60 * u) 60 v) (K : ∀ S2 : vs_S, vs_fx S0 S2 [] [] [122] → lR S2 122 (60 * u) 60 (va_cpy w v i j n) → onlyS S0 S2 u → Pst (some (.int 1)) S2) : ∀ (d x : Nat) (S : vs_S), x + d = n → vs_fx S0 S [] [] [122] → lR S 122 (60 * u) 60 (va_cpy w v i j x) → onlyS S0 S u → vs_V G cX10_copy (vs_MP yX10_copy 7 (some .int) { frames := 2, locals := 45 } G Pst) 159 [(6, .int (nI x)), (0, .ref (G.2.2.2 + 118)), (1, .int (nI k)), (2, .int (nI i)), (3, .int (nI u)), (4, .int (nI j)), (5, .int (nI n))] [] S := by
  intro d
  induction d with
  | zero =>
    intro x S hx F R O
    obtain rfl : x = n := by omega
    refine vs_iload dX10_copy_159 rfl 0 rfl ?_
    refine vs_iload dX10_copy_161 rfl 6 rfl ?_
    refine vs_icmp_ge 194 dX10_copy_163 rfl rfl (fun c_163 => ?_) (fun c_163 => ?_)
    · have q_163 : ((x : Nat) : Int) ≥ ((x : Nat) : Int) := (qi_ge (nI_Z _) (nI_Z _) (by omega) (by omega) (by omega) (by omega)).mp c_163
      refine vs_iconst (v := 1) dX10_copy_194 rfl rfl ?_
      exact vs_iretP dX10_copy_195 (K S F R O)
    · have q_163 : ¬ ((x : Nat) : Int) ≥ ((x : Nat) : Int) := fun hh => c_163 ((qi_ge (nI_Z _) (nI_Z _) (by omega) (by omega) (by omega) (by omega)).mpr hh)
      omega
  | succ d ih =>
    intro x S hx F R O
    have hw2 : lR S 123 0 n (fun x => w (i + x)) := lR.fx hw F (by simp)
    refine vs_iload dX10_copy_159 rfl 0 rfl ?_
    refine vs_iload dX10_copy_161 rfl 6 rfl ?_
    refine vs_icmp_ge 194 dX10_copy_163 rfl rfl (fun c_163 => ?_) (fun c_163 => ?_)
    · have q_163 : ((x : Nat) : Int) ≥ ((n : Nat) : Int) := (qi_ge (nI_Z _) (nI_Z _) (by omega) (by omega) (by omega) (by omega)).mp c_163
      omega
    · have q_163 : ¬ ((x : Nat) : Int) ≥ ((n : Nat) : Int) := fun hh => c_163 ((qi_ge (nI_Z _) (nI_Z _) (by omega) (by omega) (by omega) (by omega)).mpr hh)
      refine vs_aload_n 0 dX10_copy_166 rfl rfl 1 rfl ?_
      refine vs_get (v := .ref (G.2.2.2 + 122)) lf_X10_19 rfl rfl dX10_copy_167 rfl ?_
      refine vs_bipush (v := 60) dX10_copy_170 rfl rfl ?_
      refine vs_iload_n 3 dX10_copy_172 rfl rfl 4 rfl ?_
      refine vs_imul dX10_copy_173 rfl ?_
      refine vs_iload dX10_copy_174 rfl 5 rfl ?_
      refine vs_iadd dX10_copy_176 rfl ?_
      refine vs_iload dX10_copy_177 rfl 0 rfl ?_
      refine vs_iadd dX10_copy_179 rfl ?_
      refine vs_aload_n 0 dX10_copy_180 rfl rfl 1 rfl ?_
      refine vs_get (v := .ref (G.2.2.2 + 123)) lf_X10_23 rfl rfl dX10_copy_181 rfl ?_
      refine vs_iload dX10_copy_184 rfl 0 rfl ?_
      refine vs_lald (k := (0 + x)) rfl (by rw [Nat.zero_add]) (by omega) rfl dX10_copy_186 rfl ?_
      refine vs_topl (fun z1 e_z1 => ?_)
      have f_z1 : z1 = w (i + x) := (by rw [e_z1]; exact hw2 x (by omega))
      subst f_z1
      clear e_z1
      refine vs_last (k := (60 * u + (j + x))) rfl (by simp only [fa_lit, nI_add, pk_mul, Nat.add_assoc]) (by omega) rfl dX10_copy_187 rfl ?_
      refine vs_iinc (v := nI (x + 1)) [(6, .int (nI (x + 1))), (0, .ref (G.2.2.2 + 118)), (1, .int (nI k)), (2, .int (nI i)), (3, .int (nI u)), (4, .int (nI j)), (5, .int (nI n))] dX10_copy_188 rfl 0 rfl (by first | exact nI_1 _ | (simp only [fa_lit, nI_add, pk_mul, nI_1]; rfl)) rfl rfl ?_
      refine vs_goto 159 dX10_copy_191 rfl ?_
      refine vs_pick [0, 1, 2, 3, 4, 5, 6] rfl ?_
      refine ih (x + 1) _ (by omega) (vs_fx.la F (by simp)) (fun y hy => ?_) (O.la (by omega) (by omega))
      have hr := R y hy
      rw [vs_la_at]
      unfold vp_updL va_cpy at *
      by_cases e : y = j + x
      · rw [if_pos (by omega), if_pos (by omega), show y - j = x by omega]
      · rw [if_neg (by omega), hr]
        by_cases e2 : j ≤ y ∧ y < j + x
        · rw [if_pos e2, if_pos (by omega)]
        · rw [if_neg e2, if_neg (by omega)]

theorem M_copy {G : vv_G} {S : vs_S} {a : aS} (hM : MSt S a) (hG : aG a) {s : Int} (hs1 : -2147483648 ≤ s) (hs2 : s < 2147483648) {i : Int} (hi1 : -2147483648 ≤ i) (hi2 : i < 2147483648) {t : Int} (ht1 : -2147483648 ≤ t) (ht2 : t < 2147483648) {j : Int} (hj1 : -2147483648 ≤ j) (hj2 : j < 2147483648) {n : Int} (hn1 : -2147483648 ≤ n) (hn2 : n < 2147483648) : vs_CP G yX10_copy cX10_copy 7 (some .int) { frames := 2, locals := 45 } [.ref (G.2.2.2 + 118), .int (nZ s), .int (nZ i), .int (nZ t), .int (nZ j), .int (nZ n)] S (fun r S2 => r = some (.int (nZ (sp_copy a s i t j n).1)) ∧ MSt S2 (sp_copy a s i t j n).2 ∧ frM S S2) := by
  refine vs_ofP [(0, .ref (G.2.2.2 + 118)), (1, .int (nZ s)), (2, .int (nZ i)), (3, .int (nZ t)), (4, .int (nZ j)), (5, .int (nZ n))] (by decide) rfl rfl ?_
  obtain ⟨⟨mP, mN, mH, mK0⟩, mK, mSh, mSe, ⟨mA, mB⟩, mX, mY⟩ := id hM
  obtain ⟨gP, gP2, gN, gH, gSe, gSh, gXY, gB31, gInj, gA, gB, gAz, gBz⟩ := hG
  have gP1 := gP.1
  refine vs_iload_n 1 dX10_copy_0 rfl rfl 1 rfl ?_
  refine vs_callS (st := []) (c_isSheet hs1 hs2) lk_X10_126 lm_X10_isSheet rfl rfl (Nat.le_of_ble_eq_true rfl) rfl ⟨rfl, rfl⟩ dX10_copy_1 rfl ?_
  show vs_V _ _ _ _ _ (.int ((if 0 ≤ s ∧ s ≤ 3 then 1 else 0)) :: _) _
  refine vs_if_eq 14 dX10_copy_4 rfl rfl (fun c_4 => ?_) (fun c_4 => ?_)
  · rw [nn_is0] at c_4
    refine vs_bipush (v := -101) dX10_copy_14 rfl rfl ?_
    exact vs_iretP dX10_copy_16 (mpost (v := -101) (a' := a) (by unfold sp_copy; (try simp only [Int.toNat_natCast]); repeat (first | rw [if_pos (by omega)] | rw [if_pos trivial] | rw [if_neg (by omega)])) rfl hM frM.rf)
  · rw [nn_is0, Classical.not_not] at c_4
    refine vs_iload_n 3 dX10_copy_7 rfl rfl 3 rfl ?_
    refine vs_callS (st := []) (c_isSheet ht1 ht2) lk_X10_126 lm_X10_isSheet rfl rfl (Nat.le_of_ble_eq_true rfl) rfl ⟨rfl, rfl⟩ dX10_copy_8 rfl ?_
    show vs_V _ _ _ _ _ (.int ((if 0 ≤ t ∧ t ≤ 3 then 1 else 0)) :: _) _
    refine vs_if_ne 17 dX10_copy_11 rfl rfl (fun c_11 => ?_) (fun c_11 => ?_)
    · rw [nn_is0, Classical.not_not] at c_11
      skip
      · obtain ⟨k, rfl⟩ : ∃ z0 : Nat, s = z0 := ⟨s.toNat, by omega⟩
        rw [nZ_n k]
        have hk : k < 4 := by omega
        obtain ⟨k1, k2, k3⟩ := mSh k hk
        obtain ⟨k5, k6, k7⟩ := gSh k hk
        obtain ⟨u, rfl⟩ : ∃ z0 : Nat, t = z0 := ⟨t.toNat, by omega⟩
        rw [nZ_n u]
        have hu : u < 4 := by omega
        obtain ⟨u1, u2, u3⟩ := mSh u hu
        obtain ⟨u5, u6, u7⟩ := gSh u hu
        by_cases lok : aLo a k = 0
        · have lnk : S.2.1 120 k = nI (aLn a k) := by rw [k1]; exact if_pos lok
          by_cases lou : aLo a u = 0
          · have lnu : S.2.1 120 u = nI (aLn a u) := by rw [u1]; exact if_pos lou
            refine vs_aload_n 0 dX10_copy_17 rfl rfl 0 rfl ?_
            refine vs_get (v := .ref (G.2.2.2 + 120)) lf_X10_13 rfl rfl dX10_copy_18 rfl ?_
            refine vs_iload_n 1 dX10_copy_21 rfl rfl 1 rfl ?_
            refine vs_iald (k := k) rfl rfl (by omega) rfl dX10_copy_22 rfl ?_
            refine vs_topi (fun z1 e_z1 => ?_)
            have f_z1 : z1 = nI (aLn a k) := (by rw [e_z1]; exact lnk)
            subst f_z1
            clear e_z1
            refine vs_iconst (v := -1) dX10_copy_23 rfl rfl ?_
            refine vs_icmp_eq 37 dX10_copy_24 rfl rfl (fun c_24 => ?_) (fun c_24 => ?_)
            · have q_24 : (((aLn a k) : Nat) : Int) = (-1 : Int) := (qi_eq (nI_Z _) rfl (by omega) (by omega) (by omega) (by omega)).mp c_24
              omega
            · have q_24 : ¬ (((aLn a k) : Nat) : Int) = (-1 : Int) := fun hh => c_24 ((qi_eq (nI_Z _) rfl (by omega) (by omega) (by omega) (by omega)).mpr hh)
              refine vs_aload_n 0 dX10_copy_27 rfl rfl 0 rfl ?_
              refine vs_get (v := .ref (G.2.2.2 + 120)) lf_X10_13 rfl rfl dX10_copy_28 rfl ?_
              refine vs_iload_n 3 dX10_copy_31 rfl rfl 3 rfl ?_
              refine vs_iald (k := u) rfl rfl (by omega) rfl dX10_copy_32 rfl ?_
              refine vs_topi (fun z2 e_z2 => ?_)
              have f_z2 : z2 = nI (aLn a u) := (by rw [e_z2]; exact lnu)
              subst f_z2
              clear e_z2
              refine vs_iconst (v := -1) dX10_copy_33 rfl rfl ?_
              refine vs_icmp_ne 43 dX10_copy_34 rfl rfl (fun c_34 => ?_) (fun c_34 => ?_)
              · have q_34 : ¬ (((aLn a u) : Nat) : Int) = (-1 : Int) := fun hh => c_34 ((qi_eq (nI_Z _) rfl (by omega) (by omega) (by omega) (by omega)).mpr hh)
                refine vs_aload_n 0 dX10_copy_43 rfl rfl 0 rfl ?_
                refine vs_get (v := .ref (G.2.2.2 + 120)) lf_X10_13 rfl rfl dX10_copy_44 rfl ?_
                refine vs_iload_n 1 dX10_copy_47 rfl rfl 1 rfl ?_
                refine vs_iald (k := k) rfl rfl (by omega) rfl dX10_copy_48 rfl ?_
                refine vs_topi (fun z3 e_z3 => ?_)
                have f_z3 : z3 = nI (aLn a k) := (by rw [e_z3]; exact lnk)
                subst f_z3
                clear e_z3
                refine vs_aload_n 0 dX10_copy_49 rfl rfl 0 rfl ?_
                refine vs_get (v := .ref (G.2.2.2 + 120)) lf_X10_13 rfl rfl dX10_copy_50 rfl ?_
                refine vs_iload_n 3 dX10_copy_53 rfl rfl 3 rfl ?_
                refine vs_iald (k := u) rfl rfl (by omega) rfl dX10_copy_54 rfl ?_
                refine vs_topi (fun z4 e_z4 => ?_)
                have f_z4 : z4 = nI (aLn a u) := (by rw [e_z4]; exact lnu)
                subst f_z4
                clear e_z4
                refine vs_icmp_eq 64 dX10_copy_55 rfl rfl (fun c_55 => ?_) (fun c_55 => ?_)
                · have q_55 : (((aLn a k) : Nat) : Int) = (((aLn a u) : Nat) : Int) := (qi_eq (nI_Z _) (nI_Z _) (by omega) (by omega) (by omega) (by omega)).mp c_55
                  refine vs_iload_n 2 dX10_copy_64 rfl rfl 2 rfl ?_
                  refine vs_if_lt 113 dX10_copy_65 rfl rfl (fun c_65 => ?_) (fun c_65 => ?_)
                  · have q_65 : (i : Int) < ((0 : Nat) : Int) := (qi_lt rfl (by first | exact nI_Z _ | (simp only [fa_lit, nI_add, pk_mul, nI_1]; exact nI_Z _)) (by omega) (by omega) (by omega) (by omega)).mp c_65
                    refine vs_aload_n 0 dX10_copy_113 rfl rfl 0 rfl ?_
                    refine vs_iconst (v := 2) dX10_copy_114 rfl rfl ?_
                    refine vs_callV (st := []) (c_meets (c := 2) (by decide) (by decide)) lk_X10_129 lm_X10_meets rfl rfl rfl rfl (Nat.le_of_ble_eq_true rfl) rfl ⟨rfl, rfl⟩ dX10_copy_115 rfl ?_
                    show vs_V _ _ _ _ _ (.int (nZ (-10 - ((2 : Nat) : Int))) :: _) _
                    exact vs_iretP dX10_copy_118 (mpost (v := -10 - ((2 : Nat) : Int)) (a' := s_cs a 2) (by unfold sp_copy; (try simp only [Int.toNat_natCast]); (repeat (first | rw [if_pos (by omega)] | rw [if_pos trivial] | rw [if_neg (by omega)])); rfl) rfl (k_meets hM (by decide) (by decide)).1 (k_meets hM (by decide) (by decide)).2)
                  · have q_65 : ¬ (i : Int) < ((0 : Nat) : Int) := fun hh => c_65 ((qi_lt rfl (by first | exact nI_Z _ | (simp only [fa_lit, nI_add, pk_mul, nI_1]; exact nI_Z _)) (by omega) (by omega) (by omega) (by omega)).mpr hh)
                    refine vs_iload dX10_copy_68 rfl 4 rfl ?_
                    refine vs_if_lt 113 dX10_copy_70 rfl rfl (fun c_70 => ?_) (fun c_70 => ?_)
                    · have q_70 : (j : Int) < ((0 : Nat) : Int) := (qi_lt rfl (by first | exact nI_Z _ | (simp only [fa_lit, nI_add, pk_mul, nI_1]; exact nI_Z _)) (by omega) (by omega) (by omega) (by omega)).mp c_70
                      refine vs_aload_n 0 dX10_copy_113 rfl rfl 0 rfl ?_
                      refine vs_iconst (v := 2) dX10_copy_114 rfl rfl ?_
                      refine vs_callV (st := []) (c_meets (c := 2) (by decide) (by decide)) lk_X10_129 lm_X10_meets rfl rfl rfl rfl (Nat.le_of_ble_eq_true rfl) rfl ⟨rfl, rfl⟩ dX10_copy_115 rfl ?_
                      show vs_V _ _ _ _ _ (.int (nZ (-10 - ((2 : Nat) : Int))) :: _) _
                      exact vs_iretP dX10_copy_118 (mpost (v := -10 - ((2 : Nat) : Int)) (a' := s_cs a 2) (by unfold sp_copy; (try simp only [Int.toNat_natCast]); (repeat (first | rw [if_pos (by omega)] | rw [if_pos trivial] | rw [if_neg (by omega)])); rfl) rfl (k_meets hM (by decide) (by decide)).1 (k_meets hM (by decide) (by decide)).2)
                    · have q_70 : ¬ (j : Int) < ((0 : Nat) : Int) := fun hh => c_70 ((qi_lt rfl (by first | exact nI_Z _ | (simp only [fa_lit, nI_add, pk_mul, nI_1]; exact nI_Z _)) (by omega) (by omega) (by omega) (by omega)).mpr hh)
                      refine vs_iload dX10_copy_73 rfl 5 rfl ?_
                      refine vs_if_lt 113 dX10_copy_75 rfl rfl (fun c_75 => ?_) (fun c_75 => ?_)
                      · have q_75 : (n : Int) < ((0 : Nat) : Int) := (qi_lt rfl (by first | exact nI_Z _ | (simp only [fa_lit, nI_add, pk_mul, nI_1]; exact nI_Z _)) (by omega) (by omega) (by omega) (by omega)).mp c_75
                        refine vs_aload_n 0 dX10_copy_113 rfl rfl 0 rfl ?_
                        refine vs_iconst (v := 2) dX10_copy_114 rfl rfl ?_
                        refine vs_callV (st := []) (c_meets (c := 2) (by decide) (by decide)) lk_X10_129 lm_X10_meets rfl rfl rfl rfl (Nat.le_of_ble_eq_true rfl) rfl ⟨rfl, rfl⟩ dX10_copy_115 rfl ?_
                        show vs_V _ _ _ _ _ (.int (nZ (-10 - ((2 : Nat) : Int))) :: _) _
                        exact vs_iretP dX10_copy_118 (mpost (v := -10 - ((2 : Nat) : Int)) (a' := s_cs a 2) (by unfold sp_copy; (try simp only [Int.toNat_natCast]); (repeat (first | rw [if_pos (by omega)] | rw [if_pos trivial] | rw [if_neg (by omega)])); rfl) rfl (k_meets hM (by decide) (by decide)).1 (k_meets hM (by decide) (by decide)).2)
                      · have q_75 : ¬ (n : Int) < ((0 : Nat) : Int) := fun hh => c_75 ((qi_lt rfl (by first | exact nI_Z _ | (simp only [fa_lit, nI_add, pk_mul, nI_1]; exact nI_Z _)) (by omega) (by omega) (by omega) (by omega)).mpr hh)
                        refine vs_iload_n 2 dX10_copy_78 rfl rfl 2 rfl ?_
                        refine vs_i2l dX10_copy_79 rfl ?_
                        refine vs_iload dX10_copy_80 rfl 5 rfl ?_
                        refine vs_i2l dX10_copy_82 rfl ?_
                        refine vs_ladd dX10_copy_83 rfl ?_
                        refine vs_aload_n 0 dX10_copy_84 rfl rfl 0 rfl ?_
                        refine vs_get (v := .ref (G.2.2.2 + 121)) lf_X10_16 rfl rfl dX10_copy_85 rfl ?_
                        refine vs_iload_n 1 dX10_copy_88 rfl rfl 1 rfl ?_
                        refine vs_iald (k := k) rfl rfl (by omega) rfl dX10_copy_89 rfl ?_
                        refine vs_topi (fun z5 e_z5 => ?_)
                        have f_z5 : z5 = nI (aSz a k) := (by rw [e_z5]; exact k2)
                        subst f_z5
                        clear e_z5
                        refine vs_i2l dX10_copy_90 rfl ?_
                        refine vs_lcmp dX10_copy_91 rfl ?_
                        refine vs_topi (fun z6 e_z6 => ?_)
                        have f_z6 : z6 = nZ (zcmp (i + n) (aSz a k)) := (by rw [e_z6, lg_z, nn_l2 (by omega) (by omega) (by omega) (by omega), nn_i2l, nI_i (by omega)])
                        subst f_z6
                        clear e_z6
                        refine vs_if_gt 113 dX10_copy_92 rfl rfl (fun c_92 => ?_) (fun c_92 => ?_)
                        · have q_92 : ((zcmp (i + n) (aSz a k)) : Int) > ((0 : Nat) : Int) := (qi_gt rfl (by first | exact nI_Z _ | (simp only [fa_lit, nI_add, pk_mul, nI_1]; exact nI_Z _)) (by have := zcmp_b (i + n) (aSz a k); omega) (by have := zcmp_b (i + n) (aSz a k); omega) (by decide) (by decide)).mp c_92
                          have hq1 := zcmp_gt.mp q_92
                          refine vs_aload_n 0 dX10_copy_113 rfl rfl 0 rfl ?_
                          refine vs_iconst (v := 2) dX10_copy_114 rfl rfl ?_
                          refine vs_callV (st := []) (c_meets (c := 2) (by decide) (by decide)) lk_X10_129 lm_X10_meets rfl rfl rfl rfl (Nat.le_of_ble_eq_true rfl) rfl ⟨rfl, rfl⟩ dX10_copy_115 rfl ?_
                          show vs_V _ _ _ _ _ (.int (nZ (-10 - ((2 : Nat) : Int))) :: _) _
                          exact vs_iretP dX10_copy_118 (mpost (v := -10 - ((2 : Nat) : Int)) (a' := s_cs a 2) (by unfold sp_copy; (try simp only [Int.toNat_natCast]); (repeat (first | rw [if_pos (by omega)] | rw [if_pos trivial] | rw [if_neg (by omega)])); rfl) rfl (k_meets hM (by decide) (by decide)).1 (k_meets hM (by decide) (by decide)).2)
                        · have q_92 : ¬ ((zcmp (i + n) (aSz a k)) : Int) > ((0 : Nat) : Int) := fun hh => c_92 ((qi_gt rfl (by first | exact nI_Z _ | (simp only [fa_lit, nI_add, pk_mul, nI_1]; exact nI_Z _)) (by have := zcmp_b (i + n) (aSz a k); omega) (by have := zcmp_b (i + n) (aSz a k); omega) (by decide) (by decide)).mpr hh)
                          have hq1 : ¬ (aSz a k : Int) < i + n := fun e => q_92 (zcmp_gt.mpr e)
                          refine vs_iload dX10_copy_95 rfl 4 rfl ?_
                          refine vs_i2l dX10_copy_97 rfl ?_
                          refine vs_iload dX10_copy_98 rfl 5 rfl ?_
                          refine vs_i2l dX10_copy_100 rfl ?_
                          refine vs_ladd dX10_copy_101 rfl ?_
                          refine vs_aload_n 0 dX10_copy_102 rfl rfl 0 rfl ?_
                          refine vs_get (v := .ref (G.2.2.2 + 121)) lf_X10_16 rfl rfl dX10_copy_103 rfl ?_
                          refine vs_iload_n 3 dX10_copy_106 rfl rfl 3 rfl ?_
                          refine vs_iald (k := u) rfl rfl (by omega) rfl dX10_copy_107 rfl ?_
                          refine vs_topi (fun z7 e_z7 => ?_)
                          have f_z7 : z7 = nI (aSz a u) := (by rw [e_z7]; exact u2)
                          subst f_z7
                          clear e_z7
                          refine vs_i2l dX10_copy_108 rfl ?_
                          refine vs_lcmp dX10_copy_109 rfl ?_
                          refine vs_topi (fun z8 e_z8 => ?_)
                          have f_z8 : z8 = nZ (zcmp (j + n) (aSz a u)) := (by rw [e_z8, lg_z, nn_l2 (by omega) (by omega) (by omega) (by omega), nn_i2l, nI_i (by omega)])
                          subst f_z8
                          clear e_z8
                          refine vs_if_le 119 dX10_copy_110 rfl rfl (fun c_110 => ?_) (fun c_110 => ?_)
                          · have q_110 : ((zcmp (j + n) (aSz a u)) : Int) ≤ ((0 : Nat) : Int) := (qi_le rfl (by first | exact nI_Z _ | (simp only [fa_lit, nI_add, pk_mul, nI_1]; exact nI_Z _)) (by have := zcmp_b (j + n) (aSz a u); omega) (by have := zcmp_b (j + n) (aSz a u); omega) (by decide) (by decide)).mp c_110
                            have hq2 := zcmp_le.mp q_110
                            skip
                            · obtain ⟨i, rfl⟩ : ∃ z0 : Nat, i = z0 := ⟨i.toNat, by omega⟩
                              obtain ⟨j, rfl⟩ : ∃ z0 : Nat, j = z0 := ⟨j.toNat, by omega⟩
                              obtain ⟨n, rfl⟩ : ∃ z0 : Nat, n = z0 := ⟨n.toNat, by omega⟩
                              rw [nZ_n i, nZ_n j, nZ_n n]
                              refine vs_iconst (v := 0) dX10_copy_119 rfl rfl ?_
                              refine vs_istore [(6, .int (0)), (0, .ref (G.2.2.2 + 118)), (1, .int (nI k)), (2, .int (nI i)), (3, .int (nI u)), (4, .int (nI j)), (5, .int (nI n))] dX10_copy_120 rfl rfl rfl ?_
                              refine vs_pick (L2 := [(6, .int (nI 0)), (0, .ref (G.2.2.2 + 118)), (1, .int (nI k)), (2, .int (nI i)), (3, .int (nI u)), (4, .int (nI j)), (5, .int (nI n))]) [0, 1, 2, 3, 4, 5, 6] rfl ?_
                              refine l_mcopy1 (S := S) (S0 := S) hk hu (show i + n ≤ 60 by omega) (show j + n ≤ 60 by omega) k3 (fun S2 F R => ?_) n 0 S (by omega) vs_fx.rf (fun x hx => absurd hx (by omega))
                              refine vs_iconst (v := 0) dX10_copy_156 rfl rfl ?_
                              refine vs_istore [(6, .int (0)), (0, .ref (G.2.2.2 + 118)), (1, .int (nI k)), (2, .int (nI i)), (3, .int (nI u)), (4, .int (nI j)), (5, .int (nI n))] dX10_copy_157 rfl rfl rfl ?_
                              refine vs_pick (L2 := [(6, .int (nI 0)), (0, .ref (G.2.2.2 + 118)), (1, .int (nI k)), (2, .int (nI i)), (3, .int (nI u)), (4, .int (nI j)), (5, .int (nI n))]) [0, 1, 2, 3, 4, 5, 6] rfl ?_
                              refine l_mcopy2 (S := S) (S0 := S2) hk hu (show i + n ≤ 60 by omega) (show j + n ≤ 60 by omega) R (lR.fx u3 F (by simp)) (fun S3 F3 R3 O3 => ?_) n 0 S2 (by omega) vs_fx.rf (fun y hy => by unfold va_cpy; rw [if_neg (by omega)]; exact lR.fx u3 F (by simp) y hy) (fun _ _ => rfl)
                              have F4 : vs_fx S S3 [] [] [122, 123] := vs_fx.tr (vs_fx.tr vs_fx.rf F (by simp) (by simp) (by simp)) F3 (by simp) (by simp) (by simp)
                              have kk := k_mcells hM hu F4 R3 (fun t ht hne x hx => (O3.k t ht hne x hx).trans (by rw [F.2.2.1 122 (by simp)]))
                              exact mpost (v := 1) (a' := s_sh a u (aLo a u) (aLn a u) (aSz a u) (va_cpy (aW a k) (aW a u) i j n)) (by unfold sp_copy; (try simp only [Int.toNat_natCast]); repeat (first | rw [if_pos (by omega)] | rw [if_pos trivial] | rw [if_neg (by omega)])) rfl kk.1 kk.2
                          · have q_110 : ¬ ((zcmp (j + n) (aSz a u)) : Int) ≤ ((0 : Nat) : Int) := fun hh => c_110 ((qi_le rfl (by first | exact nI_Z _ | (simp only [fa_lit, nI_add, pk_mul, nI_1]; exact nI_Z _)) (by have := zcmp_b (j + n) (aSz a u); omega) (by have := zcmp_b (j + n) (aSz a u); omega) (by decide) (by decide)).mpr hh)
                            have hq2 : ¬ j + n ≤ (aSz a u : Int) := fun e => q_110 (zcmp_le.mpr e)
                            refine vs_aload_n 0 dX10_copy_113 rfl rfl 0 rfl ?_
                            refine vs_iconst (v := 2) dX10_copy_114 rfl rfl ?_
                            refine vs_callV (st := []) (c_meets (c := 2) (by decide) (by decide)) lk_X10_129 lm_X10_meets rfl rfl rfl rfl (Nat.le_of_ble_eq_true rfl) rfl ⟨rfl, rfl⟩ dX10_copy_115 rfl ?_
                            show vs_V _ _ _ _ _ (.int (nZ (-10 - ((2 : Nat) : Int))) :: _) _
                            exact vs_iretP dX10_copy_118 (mpost (v := -10 - ((2 : Nat) : Int)) (a' := s_cs a 2) (by unfold sp_copy; (try simp only [Int.toNat_natCast]); (repeat (first | rw [if_pos (by omega)] | rw [if_pos trivial] | rw [if_neg (by omega)])); rfl) rfl (k_meets hM (by decide) (by decide)).1 (k_meets hM (by decide) (by decide)).2)
                · have q_55 : ¬ (((aLn a k) : Nat) : Int) = (((aLn a u) : Nat) : Int) := fun hh => c_55 ((qi_eq (nI_Z _) (nI_Z _) (by omega) (by omega) (by omega) (by omega)).mpr hh)
                  refine vs_aload_n 0 dX10_copy_58 rfl rfl 0 rfl ?_
                  refine vs_iconst (v := 4) dX10_copy_59 rfl rfl ?_
                  refine vs_callV (st := []) (c_meets (c := 4) (by decide) (by decide)) lk_X10_129 lm_X10_meets rfl rfl rfl rfl (Nat.le_of_ble_eq_true rfl) rfl ⟨rfl, rfl⟩ dX10_copy_60 rfl ?_
                  show vs_V _ _ _ _ _ (.int (nZ (-10 - ((4 : Nat) : Int))) :: _) _
                  exact vs_iretP dX10_copy_63 (mpost (v := -10 - ((4 : Nat) : Int)) (a' := s_cs a 4) (by unfold sp_copy; (try simp only [Int.toNat_natCast]); (repeat (first | rw [if_pos (by omega)] | rw [if_pos trivial] | rw [if_neg (by omega)])); rfl) rfl (k_meets hM (by decide) (by decide)).1 (k_meets hM (by decide) (by decide)).2)
              · have q_34 : (((aLn a u) : Nat) : Int) = (-1 : Int) := (qi_eq (nI_Z _) rfl (by omega) (by omega) (by omega) (by omega)).mp c_34
                omega
          · have lnu : S.2.1 120 u = nZ (-1) := by rw [u1]; exact if_neg lou
            refine vs_aload_n 0 dX10_copy_17 rfl rfl 0 rfl ?_
            refine vs_get (v := .ref (G.2.2.2 + 120)) lf_X10_13 rfl rfl dX10_copy_18 rfl ?_
            refine vs_iload_n 1 dX10_copy_21 rfl rfl 1 rfl ?_
            refine vs_iald (k := k) rfl rfl (by omega) rfl dX10_copy_22 rfl ?_
            refine vs_topi (fun z9 e_z9 => ?_)
            have f_z9 : z9 = nI (aLn a k) := (by rw [e_z9]; exact lnk)
            subst f_z9
            clear e_z9
            refine vs_iconst (v := -1) dX10_copy_23 rfl rfl ?_
            refine vs_icmp_eq 37 dX10_copy_24 rfl rfl (fun c_24 => ?_) (fun c_24 => ?_)
            · have q_24 : (((aLn a k) : Nat) : Int) = (-1 : Int) := (qi_eq (nI_Z _) rfl (by omega) (by omega) (by omega) (by omega)).mp c_24
              omega
            · have q_24 : ¬ (((aLn a k) : Nat) : Int) = (-1 : Int) := fun hh => c_24 ((qi_eq (nI_Z _) rfl (by omega) (by omega) (by omega) (by omega)).mpr hh)
              refine vs_aload_n 0 dX10_copy_27 rfl rfl 0 rfl ?_
              refine vs_get (v := .ref (G.2.2.2 + 120)) lf_X10_13 rfl rfl dX10_copy_28 rfl ?_
              refine vs_iload_n 3 dX10_copy_31 rfl rfl 3 rfl ?_
              refine vs_iald (k := u) rfl rfl (by omega) rfl dX10_copy_32 rfl ?_
              refine vs_topi (fun z10 e_z10 => ?_)
              have f_z10 : z10 = nZ (-1) := (by rw [e_z10]; exact lnu)
              subst f_z10
              clear e_z10
              refine vs_iconst (v := -1) dX10_copy_33 rfl rfl ?_
              refine vs_icmp_ne 43 dX10_copy_34 rfl rfl (fun c_34 => ?_) (fun c_34 => ?_)
              · have q_34 : ¬ ((-1) : Int) = (-1 : Int) := fun hh => c_34 ((qi_eq rfl rfl (by omega) (by omega) (by omega) (by omega)).mpr hh)
                omega
              · have q_34 : ((-1) : Int) = (-1 : Int) := (qi_eq rfl rfl (by omega) (by omega) (by omega) (by omega)).mp c_34
                refine vs_aload_n 0 dX10_copy_37 rfl rfl 0 rfl ?_
                refine vs_iconst (v := 1) dX10_copy_38 rfl rfl ?_
                refine vs_callV (st := []) (c_meets (c := 1) (by decide) (by decide)) lk_X10_129 lm_X10_meets rfl rfl rfl rfl (Nat.le_of_ble_eq_true rfl) rfl ⟨rfl, rfl⟩ dX10_copy_39 rfl ?_
                show vs_V _ _ _ _ _ (.int (nZ (-10 - ((1 : Nat) : Int))) :: _) _
                exact vs_iretP dX10_copy_42 (mpost (v := -10 - ((1 : Nat) : Int)) (a' := s_cs a 1) (by unfold sp_copy; (try simp only [Int.toNat_natCast]); (repeat (first | rw [if_pos (by omega)] | rw [if_pos trivial] | rw [if_neg (by omega)])); rfl) rfl (k_meets hM (by decide) (by decide)).1 (k_meets hM (by decide) (by decide)).2)
        · have lnk : S.2.1 120 k = nZ (-1) := by rw [k1]; exact if_neg lok
          by_cases lou : aLo a u = 0
          · have lnu : S.2.1 120 u = nI (aLn a u) := by rw [u1]; exact if_pos lou
            refine vs_aload_n 0 dX10_copy_17 rfl rfl 0 rfl ?_
            refine vs_get (v := .ref (G.2.2.2 + 120)) lf_X10_13 rfl rfl dX10_copy_18 rfl ?_
            refine vs_iload_n 1 dX10_copy_21 rfl rfl 1 rfl ?_
            refine vs_iald (k := k) rfl rfl (by omega) rfl dX10_copy_22 rfl ?_
            refine vs_topi (fun z11 e_z11 => ?_)
            have f_z11 : z11 = nZ (-1) := (by rw [e_z11]; exact lnk)
            subst f_z11
            clear e_z11
            refine vs_iconst (v := -1) dX10_copy_23 rfl rfl ?_
            refine vs_icmp_eq 37 dX10_copy_24 rfl rfl (fun c_24 => ?_) (fun c_24 => ?_)
            · have q_24 : ((-1) : Int) = (-1 : Int) := (qi_eq rfl rfl (by omega) (by omega) (by omega) (by omega)).mp c_24
              refine vs_aload_n 0 dX10_copy_37 rfl rfl 0 rfl ?_
              refine vs_iconst (v := 1) dX10_copy_38 rfl rfl ?_
              refine vs_callV (st := []) (c_meets (c := 1) (by decide) (by decide)) lk_X10_129 lm_X10_meets rfl rfl rfl rfl (Nat.le_of_ble_eq_true rfl) rfl ⟨rfl, rfl⟩ dX10_copy_39 rfl ?_
              show vs_V _ _ _ _ _ (.int (nZ (-10 - ((1 : Nat) : Int))) :: _) _
              exact vs_iretP dX10_copy_42 (mpost (v := -10 - ((1 : Nat) : Int)) (a' := s_cs a 1) (by unfold sp_copy; (try simp only [Int.toNat_natCast]); (repeat (first | rw [if_pos (by omega)] | rw [if_pos trivial] | rw [if_neg (by omega)])); rfl) rfl (k_meets hM (by decide) (by decide)).1 (k_meets hM (by decide) (by decide)).2)
            · have q_24 : ¬ ((-1) : Int) = (-1 : Int) := fun hh => c_24 ((qi_eq rfl rfl (by omega) (by omega) (by omega) (by omega)).mpr hh)
              omega
          · have lnu : S.2.1 120 u = nZ (-1) := by rw [u1]; exact if_neg lou
            refine vs_aload_n 0 dX10_copy_17 rfl rfl 0 rfl ?_
            refine vs_get (v := .ref (G.2.2.2 + 120)) lf_X10_13 rfl rfl dX10_copy_18 rfl ?_
            refine vs_iload_n 1 dX10_copy_21 rfl rfl 1 rfl ?_
            refine vs_iald (k := k) rfl rfl (by omega) rfl dX10_copy_22 rfl ?_
            refine vs_topi (fun z12 e_z12 => ?_)
            have f_z12 : z12 = nZ (-1) := (by rw [e_z12]; exact lnk)
            subst f_z12
            clear e_z12
            refine vs_iconst (v := -1) dX10_copy_23 rfl rfl ?_
            refine vs_icmp_eq 37 dX10_copy_24 rfl rfl (fun c_24 => ?_) (fun c_24 => ?_)
            · have q_24 : ((-1) : Int) = (-1 : Int) := (qi_eq rfl rfl (by omega) (by omega) (by omega) (by omega)).mp c_24
              refine vs_aload_n 0 dX10_copy_37 rfl rfl 0 rfl ?_
              refine vs_iconst (v := 1) dX10_copy_38 rfl rfl ?_
              refine vs_callV (st := []) (c_meets (c := 1) (by decide) (by decide)) lk_X10_129 lm_X10_meets rfl rfl rfl rfl (Nat.le_of_ble_eq_true rfl) rfl ⟨rfl, rfl⟩ dX10_copy_39 rfl ?_
              show vs_V _ _ _ _ _ (.int (nZ (-10 - ((1 : Nat) : Int))) :: _) _
              exact vs_iretP dX10_copy_42 (mpost (v := -10 - ((1 : Nat) : Int)) (a' := s_cs a 1) (by unfold sp_copy; (try simp only [Int.toNat_natCast]); (repeat (first | rw [if_pos (by omega)] | rw [if_pos trivial] | rw [if_neg (by omega)])); rfl) rfl (k_meets hM (by decide) (by decide)).1 (k_meets hM (by decide) (by decide)).2)
            · have q_24 : ¬ ((-1) : Int) = (-1 : Int) := fun hh => c_24 ((qi_eq rfl rfl (by omega) (by omega) (by omega) (by omega)).mpr hh)
              omega
    · rw [nn_is0] at c_11
      refine vs_bipush (v := -101) dX10_copy_14 rfl rfl ?_
      exact vs_iretP dX10_copy_16 (mpost (v := -101) (a' := a) (by unfold sp_copy; (try simp only [Int.toNat_natCast]); repeat (first | rw [if_pos (by omega)] | rw [if_pos trivial] | rw [if_neg (by omega)])) rfl hM frM.rf)

