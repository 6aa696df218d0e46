theorem vs_ia_1 {S : vs_S} {o : Nat} {f : Nat → Int32} : (vs_ia S o f).1 = S.1 := rfl
def s_c (a : aS) (c : Nat) : Int × aS := (-10 - (c : Int), s_cs a c)
def sp_prime (a : aS) (z : Int) : Int × aS := if ¬ (2 ≤ z ∧ z ≤ 30011 ∧ prk z.toNat 200 2 = true) then (-102, a) else if 0 < aN a ∨ 0 < aH a then (-103, a) else ((aP a : Int), s_pr a z.toNat)
def sp_sheet (a : aS) (s l n : Int) : Int × aS := if ¬ (0 ≤ s ∧ s < 4) then (-101, a) else if ¬ (0 ≤ l ∧ l < 4) ∨ 60 < n then (-102, a) else if n < 0 then s_c a 3 else (n, s_sh a s.toNat 0 l.toNat n.toNat (fun _ => 0))
def sp_put (a : aS) (s l i : Int) (v : Int64) : Int × aS := if ¬ (0 ≤ s ∧ s < 4) then (-101, a) else if ¬ (0 ≤ l ∧ l < 4) then (-102, a) else if aLo a s.toNat ≠ 0 then s_c a 1 else if ¬ (aLn a s.toNat : Int) = l then s_c a 4 else if ¬ (0 ≤ i ∧ i + 1 ≤ aSz a s.toNat) then s_c a 2 else (1, s_sh a s.toNat (aLo a s.toNat) (aLn a s.toNat) (aSz a s.toNat) (vp_updL (aW a s.toNat) i.toNat (cst (aLn a s.toNat) v)))
def sp_copy (a : aS) (s i t j n : Int) : Int × aS := if ¬ (0 ≤ s ∧ s < 4) ∨ ¬ (0 ≤ t ∧ t < 4) then (-101, a) else if aLo a s.toNat ≠ 0 ∨ aLo a t.toNat ≠ 0 then s_c a 1 else if aLn a s.toNat ≠ aLn a t.toNat then s_c a 4 else if ¬ (0 ≤ n ∧ 0 ≤ i ∧ i + n ≤ aSz a s.toNat) ∨ ¬ (0 ≤ n ∧ 0 ≤ j ∧ j + n ≤ aSz a t.toNat) then s_c a 2 else (1, s_sh a t.toNat (aLo a t.toNat) (aLn a t.toNat) (aSz a t.toNat) (va_cpy (aW a s.toNat) (aW a t.toNat) i.toNat j.toNat n.toNat))
def sp_lose (a : aS) (s : Int) : Int × aS := if ¬ (0 ≤ s ∧ s < 4) then (-101, a) else if aLo a s.toNat ≠ 0 then s_c a 1 else ((aSz a s.toNat : Int), s_sh a s.toNat 1 (aLn a s.toNat) (aSz a s.toNat) (aW a s.toNat))
/-- a series is kept, if there is room -/
def sp_kp (a : aS) (n : Nat) (g : Nat → Nat) : Int × aS := if aN a = 10 then (-104, a) else ((aN a : Int), s_se a n g)
def sp_series (a : aS) (s i n : Int) : Int × aS := if ¬ (0 ≤ s ∧ s < 4) then (-101, a) else if ¬ (0 ≤ n ∧ n ≤ 40) then (-102, a) else if aLo a s.toNat ≠ 0 then s_c a 1 else if ¬ (0 ≤ i ∧ i + n + 1 ≤ aSz a s.toNat) then s_c a 2 else sp_kp a n.toNat (rdk (aW a s.toNat) (aP a) i.toNat (n.toNat + 1))
/-- the first numbers of a share become a series -/
def sp_ku (a : aS) (p q : Nat → Nat) (n : Nat) : Int × aS := if q 0 = 0 then s_c a 5 else sp_kp a n (ufk p q (ipw (q 0) (aP a)) (aP a) (n + 1))
def sp_share (a : aS) (s i l m n : Int) : Int × aS := if ¬ (0 ≤ s ∧ s < 4) then (-101, a) else if ¬ (0 ≤ l ∧ l ≤ 40) ∨ ¬ (0 ≤ m ∧ m ≤ 40) ∨ ¬ (0 ≤ n ∧ n ≤ 40) then (-102, a) else if aLo a s.toNat ≠ 0 then s_c a 1 else if ¬ (0 ≤ i ∧ i + l + m + 2 ≤ aSz a s.toNat) then s_c a 2 else sp_ku a (rdk (aW a s.toNat) (aP a) i.toNat (l.toNat + 1)) (rdk (aW a s.toNat) (aP a) (i.toNat + l.toNat + 1) (m.toNat + 1)) n.toNat
def sp_unfold (a : aS) (n : Int) : Int × aS := if ¬ (0 ≤ n ∧ n ≤ 40) then (-102, a) else sp_ku a (aA a) (aB a) n.toNat
def isS (a : aS) (f : Int) : Prop := 0 ≤ f ∧ f < aN a
theorem cpost {S S' : vs_S} {r : Option Value} {x : Int × aS} {v : Int} {a' : aS} (h : x = (v, a')) (hr : r = some (.int (nZ v))) (hC : CSt S' a') (hf : frC S S') : r = some (.int (nZ x.1)) ∧ CSt S' x.2 ∧ frC S S' := by
  subst h
  exact ⟨hr, hC, hf⟩
theorem k_caused {S : vs_S} {a : aS} {c : Nat} (hC : CSt S a) (h1 : 1 ≤ c) (h5 : c ≤ 5) : CSt (vs_ia (vs_sc S 0 12 (nI c)) 79 (upd (S.2.1 79) c (S.2.1 79 c + 1))) (s_cs a c) ∧ frC S (vs_ia (vs_sc S 0 12 (nI c)) 79 (upd (S.2.1 79) c (S.2.1 79 c + 1))) := by
  have F : vs_fx S (vs_ia (vs_sc S 0 12 (nI c)) 79 (upd (S.2.1 79) c (S.2.1 79 c + 1))) [79] [(0, 12)] [] := vs_fx.ia (vs_fx.sc vs_fx.rf (by simp)) (by simp)
  exact ⟨CSt.cs hC F h1 (vs_sc_at (S := S) (o := 0) (k := 12) (v := nI c)) vs_ia_at h5 (by simp) (by simp) (by simp) (cJ.fx hC.2.2.2.2.2.2.2.2 F (by simp [scr])), F.C (by simp) (by simp) (by simp)⟩
theorem rdk_c {w w' : Nat → Int64} {P i n : Nat} (h : ∀ k, k < 60 → w k = w' k) (hi : i + n ≤ 60) : rdk w P i n = rdk w' P i n := by
  funext k
  unfold rdk
  by_cases h2 : k < n
  · rw [if_pos h2, if_pos h2, h (i + k) (by omega)]
  · rw [if_neg h2, if_neg h2]
theorem k_prime {G : vv_G} {S : vs_S} {a : aS} (hC : CSt S a) (hG : aG a) {z : Int} (hz1 : -2147483648 ≤ z) (hz2 : z < 2147483648) : vs_CP G yX9_prime cX9_prime 3 (some .int) { frames := 3, locals := 64 } [.ref (G.2.2.2 + 0), .int (nZ z)] S (fun r S2 => r = some (.int (nZ (sp_prime a z).1)) ∧ CSt S2 (sp_prime a z).2 ∧ frC S S2) := by
  refine vs_ofP [(0, .ref (G.2.2.2 + 0)), (1, .int (nZ z))] (by decide) rfl rfl ?_
  obtain ⟨⟨cP, cN, cH⟩, ⟨cX, cY⟩, ⟨cA, cB⟩, cSe, cJs, cSh, ⟨cK0, cK⟩, ⟨cR1, cR2, cD⟩, cJ0⟩ := id hC
  obtain ⟨gP, gP2, gN, gH, gSe, gSh, gXY, gB31, gInj, gA, gB, gAz, gBz⟩ := hG
  have gP1 := gP.1
  refine vs_iload_n 1 dX9_prime_0 rfl rfl 1 rfl ?_
  refine vs_callS (st := []) (c_allowed hz1 hz2) lk_X9_86 lm_X9_isAllowedPrime rfl rfl (Nat.le_of_ble_eq_true rfl) rfl ⟨rfl, rfl⟩ dX9_prime_1 rfl ?_
  show vs_V _ _ _ _ _ (.int ((if 2 ≤ z ∧ z ≤ 30011 ∧ prk z.toNat 200 2 = true then 1 else 0)) :: _) _
  refine vs_if_ne 10 dX9_prime_4 rfl rfl (fun c_4 => ?_) (fun c_4 => ?_)
  · rw [nn_is0, Classical.not_not] at c_4
    obtain ⟨p, rfl⟩ : ∃ p : Nat, z = p := ⟨z.toNat, by omega⟩
    rw [nZ_n]
    have zp : ((p : Nat) : Int).toNat = p := by omega
    refine vs_aload_n 0 dX9_prime_10 rfl rfl 0 rfl ?_
    refine vs_get (v := .int (nI (aN a))) lf_X9_28 rfl (congrArg (fun z => some (Value.int z)) cN) dX9_prime_11 rfl ?_
    refine vs_if_gt 27 dX9_prime_14 rfl rfl (fun c_14 => ?_) (fun c_14 => ?_)
    · have q_14 : (((aN a) : Nat) : Int) > ((0 : Nat) : Int) := (qi_gt (nI_Z _) (by first | exact nI_Z _ | (simp only [fa_lit, nI_add, pk_mul, nI_1]; exact nI_Z _)) (by omega) (by omega) (by omega) (by omega)).mp c_14
      refine vs_bipush (v := -103) dX9_prime_27 rfl rfl ?_
      exact vs_iretP dX9_prime_29 (cpost (show sp_prime a p = (-103, a) from by unfold sp_prime; rw [if_neg (Classical.not_not.mpr c_4), if_pos (by omega)]) rfl hC frC.rf)
    · have q_14 : ¬ (((aN a) : Nat) : Int) > ((0 : Nat) : Int) := fun hh => c_14 ((qi_gt (nI_Z _) (by first | exact nI_Z _ | (simp only [fa_lit, nI_add, pk_mul, nI_1]; exact nI_Z _)) (by omega) (by omega) (by omega) (by omega)).mpr hh)
      refine vs_aload_n 0 dX9_prime_17 rfl rfl 0 rfl ?_
      refine vs_get (v := .ref (G.2.2.2 + 4)) lf_X9_35 rfl rfl dX9_prime_18 rfl ?_
      refine vs_get (v := .int (nI (aH a))) lf_X9_90 rfl (congrArg (fun z => some (Value.int z)) cH) dX9_prime_21 rfl ?_
      refine vs_if_le 30 dX9_prime_24 rfl rfl (fun c_24 => ?_) (fun c_24 => ?_)
      · have q_24 : (((aH a) : Nat) : Int) ≤ ((0 : Nat) : Int) := (qi_le (nI_Z _) (by first | exact nI_Z _ | (simp only [fa_lit, nI_add, pk_mul, nI_1]; exact nI_Z _)) (by omega) (by omega) (by omega) (by omega)).mp c_24
        refine vs_aload_n 0 dX9_prime_30 rfl rfl 0 rfl ?_
        refine vs_get (v := .ref (G.2.2.2 + 1)) lf_X9_12 rfl rfl dX9_prime_31 rfl ?_
        refine vs_get (v := .int (nI (aP a))) lf_X9_93 rfl (congrArg (fun z => some (Value.int z)) cP) dX9_prime_34 rfl ?_
        refine vs_istore_n 2 [(2, .int (nI (aP a))), (0, .ref (G.2.2.2 + 0)), (1, .int (nI p))] dX9_prime_37 rfl rfl rfl rfl ?_
        refine vs_aload_n 0 dX9_prime_38 rfl rfl 1 rfl ?_
        refine vs_get (v := .ref (G.2.2.2 + 1)) lf_X9_12 rfl rfl dX9_prime_39 rfl ?_
        refine vs_iload_n 1 dX9_prime_42 rfl rfl 2 rfl ?_
        refine vs_put lf_X9_93 rfl rfl rfl rfl dX9_prime_43 rfl ?_
        refine vs_aload_n 0 dX9_prime_46 rfl rfl 1 rfl ?_
        refine vs_get (v := .ref (G.2.2.2 + 7)) lf_X9_42 rfl rfl dX9_prime_47 rfl ?_
        refine vs_callV (st := []) (c_becomeZero (o := 7) ⟨rfl, ⟨rfl, rfl⟩, ⟨rfl, rfl⟩⟩ cA cB) lk_X9_96 lm_X7_becomeZero rfl rfl rfl rfl (Nat.le_of_ble_eq_true rfl) rfl ⟨rfl, rfl⟩ dX9_prime_50 rfl ?_
        have F : vs_fx S (vs_ia (vs_ia (vs_sc S 1 0 (nI p)) 9 (nA (pcon 0))) 11 (nA (pcon 1))) [9, 11] [(1, 0)] [] := vs_fx.ia (vs_fx.ia (vs_fx.sc vs_fx.rf (by simp)) (by simp)) (by simp)
        refine vs_iload_n 2 dX9_prime_53 rfl rfl 0 rfl ?_
        exact vs_iretP dX9_prime_54 (cpost (show sp_prime a p = ((aP a : Int), s_pr a p) from by unfold sp_prime; rw [if_neg (Classical.not_not.mpr c_4), if_neg (by omega), zp]) (by rw [nZ_n]) (CSt.pr hC F (vs_sc_at (S := S) (o := 1) (k := 0) (v := nI p)) ⟨by repeat (first | exact vs_ia_at | rw [vs_ia_ne (by omega)]), pcon_z 0⟩ ⟨vs_ia_at, pcon_z 1⟩ (by simp <;> omega) (by simp) (by simp) (cJ.fx cJ0 F (by simp [scr]))) (F.C (by simp) (by simp) (by simp)))
      · have q_24 : ¬ (((aH a) : Nat) : Int) ≤ ((0 : Nat) : Int) := fun hh => c_24 ((qi_le (nI_Z _) (by first | exact nI_Z _ | (simp only [fa_lit, nI_add, pk_mul, nI_1]; exact nI_Z _)) (by omega) (by omega) (by omega) (by omega)).mpr hh)
        refine vs_bipush (v := -103) dX9_prime_27 rfl rfl ?_
        exact vs_iretP dX9_prime_29 (cpost (show sp_prime a p = (-103, a) from by unfold sp_prime; rw [if_neg (Classical.not_not.mpr c_4), if_pos (by omega)]) rfl hC frC.rf)
  · rw [nn_is0] at c_4
    refine vs_bipush (v := -102) dX9_prime_7 rfl rfl ?_
    exact vs_iretP dX9_prime_9 (cpost (show sp_prime a z = (-102, a) from if_pos c_4) rfl hC frC.rf)

theorem k_sheet {G : vv_G} {S : vs_S} {a : aS} (hC : CSt S a) (hG : aG a) {s : Int} (hs1 : -2147483648 ≤ s) (hs2 : s < 2147483648) {l : Int} (hl1 : -2147483648 ≤ l) (hl2 : l < 2147483648) {n : Int} (hn1 : -2147483648 ≤ n) (hn2 : n < 2147483648) : vs_CP G yX9_sheet cX9_sheet 5 (some .int) { frames := 2, locals := 46 } [.ref (G.2.2.2 + 0), .int (nZ s), .int (nZ l), .int (nZ n)] S (fun r S2 => r = some (.int (nZ (sp_sheet a s l n).1)) ∧ CSt S2 (sp_sheet a s l n).2 ∧ frC S S2) := by
  refine vs_ofP [(0, .ref (G.2.2.2 + 0)), (1, .int (nZ s)), (2, .int (nZ l)), (3, .int (nZ n))] (by decide) rfl rfl ?_
  obtain ⟨⟨cP, cN, cH⟩, ⟨cX, cY⟩, ⟨cA, cB⟩, cSe, cJs, cSh, ⟨cK0, cK⟩, ⟨cR1, cR2, cD⟩, cJ0⟩ := id hC
  obtain ⟨gP, gP2, gN, gH, gSe, gSh, gXY, gB31, gInj, gA, gB, gAz, gBz⟩ := hG
  have gP1 := gP.1
  by_cases hks : 0 ≤ s ∧ s < 4
  · obtain ⟨k, rfl⟩ : ∃ k : Nat, s = k := ⟨s.toNat, by omega⟩
    rw [nZ_n]
    have hk : k < 4 := by omega
    obtain ⟨k1, k2, k3, k4⟩ := cSh k hk
    obtain ⟨k5, k6, k7⟩ := gSh k hk
    have k8 : (((k : Nat) : Int)).toNat = k := by omega
    refine vs_aload_n 0 dX9_sheet_0 rfl rfl 0 rfl ?_
    refine vs_iload_n 1 dX9_sheet_1 rfl rfl 1 rfl ?_
    refine vs_callV (st := []) (c_sheetNo hk (cR1 k hk)) lk_X9_99 lm_X9_sheetNumbered rfl rfl rfl rfl (Nat.le_of_ble_eq_true rfl) rfl ⟨rfl, rfl⟩ dX9_sheet_2 rfl ?_
    show vs_V _ _ _ _ _ (.ref (G.2.2.2 + (80 + 2 * k)) :: _) _
    refine vs_astore [(4, .ref (G.2.2.2 + (80 + 2 * k))), (0, .ref (G.2.2.2 + 0)), (1, .int (nI k)), (2, .int (nZ l)), (3, .int (nZ n))] dX9_sheet_5 rfl rfl rfl ?_
    refine vs_aload dX9_sheet_7 rfl 0 rfl ?_
    refine vs_ifnonnull 15 dX9_sheet_9 rfl ?_
    refine vs_iload_n 2 dX9_sheet_15 rfl rfl 3 rfl ?_
    refine vs_callS (st := []) (c_isLane hl1 hl2) lk_X9_103 lm_X9_isLane rfl rfl (Nat.le_of_ble_eq_true rfl) rfl ⟨rfl, rfl⟩ dX9_sheet_16 rfl ?_
    show vs_V _ _ _ _ _ (.int ((if 0 ≤ l ∧ l < 4 then 1 else 0)) :: _) _
    refine vs_if_eq 28 dX9_sheet_19 rfl rfl (fun c_19 => ?_) (fun c_19 => ?_)
    · rw [nn_is0] at c_19
      refine vs_bipush (v := -102) dX9_sheet_28 rfl rfl ?_
      exact vs_iretP dX9_sheet_30 (cpost (v := -102) (a' := a) (by unfold sp_sheet; (try simp only [Int.toNat_natCast]); repeat (first | rw [if_pos (by omega)] | rw [if_neg (by omega)])) rfl hC frC.rf)
    · rw [nn_is0, Classical.not_not] at c_19
      refine vs_iload_n 3 dX9_sheet_22 rfl rfl 4 rfl ?_
      refine vs_bipush (v := 60) dX9_sheet_23 rfl rfl ?_
      refine vs_icmp_le 31 dX9_sheet_25 rfl rfl (fun c_25 => ?_) (fun c_25 => ?_)
      · have q_25 : (n : Int) ≤ ((60 : Nat) : Int) := (qi_le rfl (by first | exact nI_Z _ | (simp only [fa_lit, nI_add, pk_mul, nI_1]; exact nI_Z _)) (by omega) (by omega) (by omega) (by omega)).mp c_25
        refine vs_iload_n 3 dX9_sheet_31 rfl rfl 4 rfl ?_
        refine vs_if_ge 41 dX9_sheet_32 rfl rfl (fun c_32 => ?_) (fun c_32 => ?_)
        · have q_32 : (n : Int) ≥ ((0 : Nat) : Int) := (qi_ge rfl (by first | exact nI_Z _ | (simp only [fa_lit, nI_add, pk_mul, nI_1]; exact nI_Z _)) (by omega) (by omega) (by omega) (by omega)).mp c_32
          obtain ⟨l, rfl⟩ : ∃ l0 : Nat, l = l0 := ⟨l.toNat, by omega⟩
          obtain ⟨n, rfl⟩ : ∃ n0 : Nat, n = n0 := ⟨n.toNat, by omega⟩
          rw [nZ_n, nZ_n]
          have l8 : ((l : Nat) : Int).toNat = l := by omega
          have n8 : ((n : Nat) : Int).toNat = n := by omega
          refine vs_aload dX9_sheet_41 rfl 0 rfl ?_
          refine vs_iload_n 2 dX9_sheet_43 rfl rfl 3 rfl ?_
          refine vs_iload_n 3 dX9_sheet_44 rfl rfl 4 rfl ?_
          refine vs_callV (st := []) (c_renew (vs_St_k hk)) lk_X9_110 lm_X8_renew rfl (vs_St_k hk).1 rfl rfl (Nat.le_of_ble_eq_true rfl) rfl ⟨rfl, rfl⟩ dX9_sheet_45 rfl ?_
          have F := (vs_fx.sc (o := 80 + 2 * k) (k := 3) (v := nI n) (vs_fx.sc (o := 80 + 2 * k) (k := 2) (v := nI l) (vs_fx.sc (o := 80 + 2 * k) (k := 1) (v := 0) (vs_fx.la (o := 80 + 2 * k + 1) (f := nfill (S.2.2.1 (80 + 2 * k + 1)) 0 60) (vs_fx.rf (S := S) (il := []) (sl := [(80 + 2 * k, 1), (80 + 2 * k, 2), (80 + 2 * k, 3)]) (ll := [80 + 2 * k + 1])) (by simp)) (by simp)) (by simp)) (by simp))
          refine vs_iload_n 3 dX9_sheet_48 rfl rfl 4 rfl ?_
          exact vs_iretP dX9_sheet_49 (cpost (show sp_sheet a k l n = ((n : Int), s_sh a k 0 l n (fun _ => 0)) from (by unfold sp_sheet; (try simp only [Int.toNat_natCast]); repeat (first | rw [if_pos (by omega)] | rw [if_neg (by omega)]))) (by rw [nZ_n]) (CSt.sh hC F hk (by rw [vs_sc_nf (by omega), vs_sc_nf (by omega), vs_sc_at]; rfl) (by rw [vs_sc_nf (by omega), vs_sc_at]) vs_sc_at (fun j hj => by show vs_u2 _ _ _ _ j = _; rw [vs_u2_s]; exact if_pos hj) (by simp) (by simp) (by simp) (cJ.fx cJ0 F (by simp))) (F.C (by simp) (by simp <;> omega) (by simp <;> omega)))
        · have q_32 : ¬ (n : Int) ≥ ((0 : Nat) : Int) := fun hh => c_32 ((qi_ge rfl (by first | exact nI_Z _ | (simp only [fa_lit, nI_add, pk_mul, nI_1]; exact nI_Z _)) (by omega) (by omega) (by omega) (by omega)).mpr hh)
          refine vs_aload_n 0 dX9_sheet_35 rfl rfl 1 rfl ?_
          refine vs_iconst (v := 3) dX9_sheet_36 rfl rfl ?_
          refine vs_callV (st := []) (c_caused (c := 3) (by decide) (by decide)) lk_X9_106 lm_X9_caused rfl rfl rfl rfl (Nat.le_of_ble_eq_true rfl) rfl ⟨rfl, rfl⟩ dX9_sheet_37 rfl ?_
          show vs_V _ _ _ _ _ (.int (nZ (-10 - ((3 : Nat) : Int))) :: _) _
          exact vs_iretP dX9_sheet_40 (cpost (v := -10 - ((3 : Nat) : Int)) (a' := s_cs a 3) (by unfold sp_sheet; (try simp only [Int.toNat_natCast]); (repeat (first | rw [if_pos (by omega)] | rw [if_neg (by omega)])); rfl) rfl (k_caused hC (by decide) (by decide)).1 (k_caused hC (by decide) (by decide)).2)
      · have q_25 : ¬ (n : Int) ≤ ((60 : Nat) : Int) := fun hh => c_25 ((qi_le rfl (by first | exact nI_Z _ | (simp only [fa_lit, nI_add, pk_mul, nI_1]; exact nI_Z _)) (by omega) (by omega) (by omega) (by omega)).mpr hh)
        refine vs_bipush (v := -102) dX9_sheet_28 rfl rfl ?_
        exact vs_iretP dX9_sheet_30 (cpost (v := -102) (a' := a) (by unfold sp_sheet; (try simp only [Int.toNat_natCast]); repeat (first | rw [if_pos (by omega)] | rw [if_neg (by omega)])) rfl hC frC.rf)
  · refine vs_aload_n 0 dX9_sheet_0 rfl rfl 0 rfl ?_
    refine vs_iload_n 1 dX9_sheet_1 rfl rfl 1 rfl ?_
    refine vs_callV (st := []) (c_sheetNull hs1 hs2 hks) lk_X9_99 lm_X9_sheetNumbered rfl rfl rfl rfl (Nat.le_of_ble_eq_true rfl) rfl ⟨rfl, rfl⟩ dX9_sheet_2 rfl ?_
    show vs_V _ _ _ _ _ (.null :: _) _
    refine vs_astoreN [(4, .null), (0, .ref (G.2.2.2 + 0)), (1, .int (nZ s)), (2, .int (nZ l)), (3, .int (nZ n))] dX9_sheet_5 rfl rfl rfl ?_
    refine vs_aloadN dX9_sheet_7 rfl 0 rfl ?_
    refine vs_ifnonnullN dX9_sheet_9 rfl ?_
    refine vs_bipush (v := -101) dX9_sheet_12 rfl rfl ?_
    exact vs_iretP dX9_sheet_14 (cpost (v := -101) (a' := a) (by unfold sp_sheet; (try simp only [Int.toNat_natCast]); repeat (first | rw [if_pos (by omega)] | rw [if_neg (by omega)])) rfl hC frC.rf)

