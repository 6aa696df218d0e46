theorem c_hasPl {G : vv_G} {S : vs_S} {o : Nat} (ht : vs_St o) {sz : Nat} (hsz : S.1 o 3 = nI sz) (hsz2 : sz ≤ 60) {x y : Int} (hx1 : -2147483648 ≤ x) (hx2 : x < 2147483648) (hy1 : -2147483648 ≤ y) (hy2 : y < 2147483648) : vs_C G yX8_hasPlaces cX8_hasPlaces 3 (some .boolean) { frames := 0, locals := 0 } [.ref (G.2.2.2 + o), .int (nZ x), .int (nZ y)] S (some (.int (if 0 ≤ y ∧ 0 ≤ x ∧ x + y ≤ sz then 1 else 0))) S := vs_cal (c_hasPlaces ht hsz hsz2) (by rw [nZ_i hx1 hx2, nZ_i hy1 hy2]) rfl
theorem k_cells {S : vs_S} {a : aS} {s : Nat} {f w : Nat → Int64} (hC : CSt S a) (hs : s < 4) (hw : ∀ k, k < 60 → f k = w k) : CSt (vs_la S (80 + 2 * s + 1) f) (s_sh a s (aLo a s) (aLn a s) (aSz a s) w) ∧ frC S (vs_la S (80 + 2 * s + 1) f) := by
  have F : vs_fx S (vs_la S (80 + 2 * s + 1) f) [] [] [80 + 2 * s + 1] := vs_fx.la vs_fx.rf (by simp)
  obtain ⟨d1, d2, d3, d4⟩ := hC.2.2.2.2.2.1 s hs
  exact ⟨CSt.sh hC F hs d1 d2 d3 (fun k hk => by rw [vs_la_at]; exact hw k hk) (by simp) (by simp) (by simp) (cJ.fx hC.2.2.2.2.2.2.2.2 F (by simp)), F.C (by simp) (by simp) (by simp <;> omega)⟩
theorem vp_updL_c {f w : Nat → Int64} {i n : Nat} {x : Int64} (h : ∀ k, k < n → f k = w k) : ∀ k, k < n → vp_updL f i x k = vp_updL w i x k := fun k hk => by
  unfold vp_updL
  by_cases e : k = i
  · rw [if_pos e, if_pos e]
  · rw [if_neg e, if_neg e, h k hk]
theorem va_cpy_c {f g w v : Nat → Int64} {i j n : Nat} (h : ∀ k, k < 60 → f k = w k) (h2 : ∀ k, k < 60 → g k = v k) (hn : i + n ≤ 60) : ∀ k, k < 60 → va_cpy f g i j n k = va_cpy w v i j n k := fun k hk => by
  unfold va_cpy
  by_cases e : j ≤ k ∧ k < j + n
  · rw [if_pos e, if_pos e, h _ (by omega)]
  · rw [if_neg e, if_neg e, h2 k hk]
theorem k_put {G : vv_G} {S : vs_S} {a : aS} (hC : CSt S a) (hG : aG a) {s : Int} (hs1 : -2147483648 ≤ s) (hs2 : s < 2147483648) {l : Int} (hl1 : -2147483648 ≤ l) (hl2 : l < 2147483648) {i : Int} (hi1 : -2147483648 ≤ i) (hi2 : i < 2147483648) {v : Int64} : vs_CP G yX9_put cX9_put 7 (some .int) { frames := 2, locals := 45 } [.ref (G.2.2.2 + 0), .int (nZ s), .int (nZ l), .int (nZ i), .long (v)] S (fun r S2 => r = some (.int (nZ (sp_put a s l i v).1)) ∧ CSt S2 (sp_put a s l i v).2 ∧ frC S S2) := by
  refine vs_ofP [(0, .ref (G.2.2.2 + 0)), (1, .int (nZ s)), (2, .int (nZ l)), (3, .int (nZ i)), (4, .long (v))] (by decide) rfl rfl ?_
  obtain ⟨⟨cP, cN, cH⟩, ⟨cX, cY⟩, ⟨cA, cB⟩, cSe, cJs, cSh, ⟨cK0, cK⟩, ⟨cR1, cR2, cD⟩, cJ0⟩ := id hC
  obtain ⟨gP, gP2, gN, gH, gSe, gSh, gXY, gB31, gInj, gA, gB, gAz, gBz⟩ := hG
  have gP1 := gP.1
  by_cases hks : 0 ≤ s ∧ s < 4
  · obtain ⟨k, rfl⟩ : ∃ k : Nat, s = k := ⟨s.toNat, by omega⟩
    rw [nZ_n]
    have hk : k < 4 := by omega
    obtain ⟨k1, k2, k3, k4⟩ := cSh k hk
    obtain ⟨k5, k6, k7⟩ := gSh k hk
    have k8 : (((k : Nat) : Int)).toNat = k := by omega
    refine vs_aload_n 0 dX9_put_0 rfl rfl 0 rfl ?_
    refine vs_iload_n 1 dX9_put_1 rfl rfl 1 rfl ?_
    refine vs_callV (st := []) (c_sheetNo hk (cR1 k hk)) lk_X9_99 lm_X9_sheetNumbered rfl rfl rfl rfl (Nat.le_of_ble_eq_true rfl) rfl ⟨rfl, rfl⟩ dX9_put_2 rfl ?_
    show vs_V _ _ _ _ _ (.ref (G.2.2.2 + (80 + 2 * k)) :: _) _
    refine vs_astore [(6, .ref (G.2.2.2 + (80 + 2 * k))), (0, .ref (G.2.2.2 + 0)), (1, .int (nI k)), (2, .int (nZ l)), (3, .int (nZ i)), (4, .long (v))] dX9_put_5 rfl rfl rfl ?_
    refine vs_aload dX9_put_7 rfl 0 rfl ?_
    refine vs_ifnonnull 15 dX9_put_9 rfl ?_
    refine vs_iload_n 2 dX9_put_15 rfl rfl 3 rfl ?_
    refine vs_callS (st := []) (c_isLane hl1 hl2) lk_X9_103 lm_X9_isLane rfl rfl (Nat.le_of_ble_eq_true rfl) rfl ⟨rfl, rfl⟩ dX9_put_16 rfl ?_
    show vs_V _ _ _ _ _ (.int ((if 0 ≤ l ∧ l < 4 then 1 else 0)) :: _) _
    refine vs_if_ne 25 dX9_put_19 rfl rfl (fun c_19 => ?_) (fun c_19 => ?_)
    · rw [nn_is0, Classical.not_not] at c_19
      refine vs_aload dX9_put_25 rfl 0 rfl ?_
      refine vs_get (v := .int (nI (aLo a k))) lf_X9_114 (vs_St_k hk).1 (congrArg (fun z => some (Value.int z)) k1) dX9_put_27 rfl ?_
      refine vs_if_eq 39 dX9_put_30 rfl rfl (fun c_30 => ?_) (fun c_30 => ?_)
      · have q_30 : (((aLo a k) : Nat) : Int) = ((0 : Nat) : Int) := (qi_eq (nI_Z _) (by first | exact nI_Z _ | (simp only [fa_lit, nI_add, pk_mul, nI_1]; exact nI_Z _)) (by omega) (by omega) (by omega) (by omega)).mp c_30
        refine vs_aload dX9_put_39 rfl 0 rfl ?_
        refine vs_get (v := .int (nI (aLn a k))) lf_X9_118 (vs_St_k hk).1 (congrArg (fun z => some (Value.int z)) k2) dX9_put_41 rfl ?_
        refine vs_iload_n 2 dX9_put_44 rfl rfl 3 rfl ?_
        refine vs_icmp_eq 54 dX9_put_45 rfl rfl (fun c_45 => ?_) (fun c_45 => ?_)
        · have q_45 : (((aLn a k) : Nat) : Int) = (l : Int) := (qi_eq (nI_Z _) rfl (by omega) (by omega) (by omega) (by omega)).mp c_45
          refine vs_aload dX9_put_54 rfl 0 rfl ?_
          refine vs_iload_n 3 dX9_put_56 rfl rfl 4 rfl ?_
          refine vs_iconst (v := 1) dX9_put_57 rfl rfl ?_
          refine vs_callV (st := []) (c_hasPl (vs_St_k hk) k3 k7 (x := i) (y := 1) hi1 hi2 (by decide) (by decide)) lk_X9_121 lm_X8_hasPlaces rfl (vs_St_k hk).1 rfl rfl (Nat.le_of_ble_eq_true rfl) rfl ⟨rfl, rfl⟩ dX9_put_58 rfl ?_
          show vs_V _ _ _ _ _ (.int ((if 0 ≤ (1 : Int) ∧ 0 ≤ i ∧ i + 1 ≤ (aSz a k : Int) then 1 else 0)) :: _) _
          refine vs_if_ne 70 dX9_put_61 rfl rfl (fun c_61 => ?_) (fun c_61 => ?_)
          · rw [nn_is0, Classical.not_not] at c_61
            skip
            · obtain ⟨i, rfl⟩ : ∃ z0 : Nat, i = z0 := ⟨i.toNat, by omega⟩
              rw [nZ_n i]
              refine vs_aload dX9_put_70 rfl 0 rfl ?_
              refine vs_iload_n 3 dX9_put_72 rfl rfl 4 rfl ?_
              refine vs_lload dX9_put_73 rfl 5 rfl ?_
              refine vs_callV (st := []) (c_write (vs_St_k hk) k2 k6 (k := i) (by omega)) lk_X9_125 lm_X8_write rfl (vs_St_k hk).1 rfl rfl (Nat.le_of_ble_eq_true rfl) rfl ⟨rfl, rfl⟩ dX9_put_75 rfl ?_
              refine vs_iconst (v := 1) dX9_put_78 rfl rfl ?_
              exact vs_iretP dX9_put_79 (cpost (v := 1) (a' := s_sh a k (aLo a k) (aLn a k) (aSz a k) (vp_updL (aW a k) i (cst (aLn a k) v))) (by unfold sp_put; (try simp only [Int.toNat_natCast]); repeat (first | rw [if_pos (by omega)] | rw [if_neg (by omega)])) rfl (k_cells hC hk (vp_updL_c k4)).1 (k_cells hC hk (vp_updL_c k4)).2)
          · rw [nn_is0] at c_61
            refine vs_aload_n 0 dX9_put_64 rfl rfl 1 rfl ?_
            refine vs_iconst (v := 2) dX9_put_65 rfl rfl ?_
            refine vs_callV (st := []) (c_caused (c := 2) (by decide) (by decide)) lk_X9_106 lm_X9_caused rfl rfl rfl rfl (Nat.le_of_ble_eq_true rfl) rfl ⟨rfl, rfl⟩ dX9_put_66 rfl ?_
            show vs_V _ _ _ _ _ (.int (nZ (-10 - ((2 : Nat) : Int))) :: _) _
            exact vs_iretP dX9_put_69 (cpost (v := -10 - ((2 : Nat) : Int)) (a' := s_cs a 2) (by unfold sp_put; (try simp only [Int.toNat_natCast]); (repeat (first | rw [if_pos (by omega)] | rw [if_neg (by omega)])); rfl) rfl (k_caused hC (by decide) (by decide)).1 (k_caused hC (by decide) (by decide)).2)
        · have q_45 : ¬ (((aLn a k) : Nat) : Int) = (l : Int) := fun hh => c_45 ((qi_eq (nI_Z _) rfl (by omega) (by omega) (by omega) (by omega)).mpr hh)
          refine vs_aload_n 0 dX9_put_48 rfl rfl 1 rfl ?_
          refine vs_iconst (v := 4) dX9_put_49 rfl rfl ?_
          refine vs_callV (st := []) (c_caused (c := 4) (by decide) (by decide)) lk_X9_106 lm_X9_caused rfl rfl rfl rfl (Nat.le_of_ble_eq_true rfl) rfl ⟨rfl, rfl⟩ dX9_put_50 rfl ?_
          show vs_V _ _ _ _ _ (.int (nZ (-10 - ((4 : Nat) : Int))) :: _) _
          exact vs_iretP dX9_put_53 (cpost (v := -10 - ((4 : Nat) : Int)) (a' := s_cs a 4) (by unfold sp_put; (try simp only [Int.toNat_natCast]); (repeat (first | rw [if_pos (by omega)] | rw [if_neg (by omega)])); rfl) rfl (k_caused hC (by decide) (by decide)).1 (k_caused hC (by decide) (by decide)).2)
      · have q_30 : ¬ (((aLo a k) : Nat) : Int) = ((0 : Nat) : Int) := fun hh => c_30 ((qi_eq (nI_Z _) (by first | exact nI_Z _ | (simp only [fa_lit, nI_add, pk_mul, nI_1]; exact nI_Z _)) (by omega) (by omega) (by omega) (by omega)).mpr hh)
        refine vs_aload_n 0 dX9_put_33 rfl rfl 1 rfl ?_
        refine vs_iconst (v := 1) dX9_put_34 rfl rfl ?_
        refine vs_callV (st := []) (c_caused (c := 1) (by decide) (by decide)) lk_X9_106 lm_X9_caused rfl rfl rfl rfl (Nat.le_of_ble_eq_true rfl) rfl ⟨rfl, rfl⟩ dX9_put_35 rfl ?_
        show vs_V _ _ _ _ _ (.int (nZ (-10 - ((1 : Nat) : Int))) :: _) _
        exact vs_iretP dX9_put_38 (cpost (v := -10 - ((1 : Nat) : Int)) (a' := s_cs a 1) (by unfold sp_put; (try simp only [Int.toNat_natCast]); (repeat (first | rw [if_pos (by omega)] | rw [if_neg (by omega)])); rfl) rfl (k_caused hC (by decide) (by decide)).1 (k_caused hC (by decide) (by decide)).2)
    · rw [nn_is0] at c_19
      refine vs_bipush (v := -102) dX9_put_22 rfl rfl ?_
      exact vs_iretP dX9_put_24 (cpost (v := -102) (a' := a) (by unfold sp_put; (try simp only [Int.toNat_natCast]); repeat (first | rw [if_pos (by omega)] | rw [if_neg (by omega)])) rfl hC frC.rf)
  · refine vs_aload_n 0 dX9_put_0 rfl rfl 0 rfl ?_
    refine vs_iload_n 1 dX9_put_1 rfl rfl 1 rfl ?_
    refine vs_callV (st := []) (c_sheetNull hs1 hs2 hks) lk_X9_99 lm_X9_sheetNumbered rfl rfl rfl rfl (Nat.le_of_ble_eq_true rfl) rfl ⟨rfl, rfl⟩ dX9_put_2 rfl ?_
    show vs_V _ _ _ _ _ (.null :: _) _
    refine vs_astoreN [(6, .null), (0, .ref (G.2.2.2 + 0)), (1, .int (nZ s)), (2, .int (nZ l)), (3, .int (nZ i)), (4, .long (v))] dX9_put_5 rfl rfl rfl ?_
    refine vs_aloadN dX9_put_7 rfl 0 rfl ?_
    refine vs_ifnonnullN dX9_put_9 rfl ?_
    refine vs_bipush (v := -101) dX9_put_12 rfl rfl ?_
    exact vs_iretP dX9_put_14 (cpost (v := -101) (a' := a) (by unfold sp_put; (try simp only [Int.toNat_natCast]); repeat (first | rw [if_pos (by omega)] | rw [if_neg (by omega)])) rfl hC frC.rf)

theorem k_copy {G : vv_G} {S : vs_S} {a : aS} (hC : CSt S a) (hG : aG a) {s : Int} (hs1 : -2147483648 ≤ s) (hs2 : s < 2147483648) {i : Int} (hi1 : -2147483648 ≤ i) (hi2 : i < 2147483648) {t : Int} (ht1 : -2147483648 ≤ t) (ht2 : t < 2147483648) {j : Int} (hj1 : -2147483648 ≤ j) (hj2 : j < 2147483648) {n : Int} (hn1 : -2147483648 ≤ n) (hn2 : n < 2147483648) : vs_CP G yX9_copy cX9_copy 8 (some .int) { frames := 1, locals := 40 } [.ref (G.2.2.2 + 0), .int (nZ s), .int (nZ i), .int (nZ t), .int (nZ j), .int (nZ n)] S (fun r S2 => r = some (.int (nZ (sp_copy a s i t j n).1)) ∧ CSt S2 (sp_copy a s i t j n).2 ∧ frC S S2) := by
  refine vs_ofP [(0, .ref (G.2.2.2 + 0)), (1, .int (nZ s)), (2, .int (nZ i)), (3, .int (nZ t)), (4, .int (nZ j)), (5, .int (nZ n))] (by decide) rfl rfl ?_
  obtain ⟨⟨cP, cN, cH⟩, ⟨cX, cY⟩, ⟨cA, cB⟩, cSe, cJs, cSh, ⟨cK0, cK⟩, ⟨cR1, cR2, cD⟩, cJ0⟩ := id hC
  obtain ⟨gP, gP2, gN, gH, gSe, gSh, gXY, gB31, gInj, gA, gB, gAz, gBz⟩ := hG
  have gP1 := gP.1
  by_cases hks : 0 ≤ s ∧ s < 4
  · obtain ⟨k, rfl⟩ : ∃ k : Nat, s = k := ⟨s.toNat, by omega⟩
    rw [nZ_n]
    have hk : k < 4 := by omega
    obtain ⟨k1, k2, k3, k4⟩ := cSh k hk
    obtain ⟨k5, k6, k7⟩ := gSh k hk
    have k8 : (((k : Nat) : Int)).toNat = k := by omega
    refine vs_aload_n 0 dX9_copy_0 rfl rfl 0 rfl ?_
    refine vs_iload_n 1 dX9_copy_1 rfl rfl 1 rfl ?_
    refine vs_callV (st := []) (c_sheetNo hk (cR1 k hk)) lk_X9_99 lm_X9_sheetNumbered rfl rfl rfl rfl (Nat.le_of_ble_eq_true rfl) rfl ⟨rfl, rfl⟩ dX9_copy_2 rfl ?_
    show vs_V _ _ _ _ _ (.ref (G.2.2.2 + (80 + 2 * k)) :: _) _
    refine vs_astore [(6, .ref (G.2.2.2 + (80 + 2 * k))), (0, .ref (G.2.2.2 + 0)), (1, .int (nI k)), (2, .int (nZ i)), (3, .int (nZ t)), (4, .int (nZ j)), (5, .int (nZ n))] dX9_copy_5 rfl rfl rfl ?_
    by_cases hus : 0 ≤ t ∧ t < 4
    · obtain ⟨u, rfl⟩ : ∃ u : Nat, t = u := ⟨t.toNat, by omega⟩
      rw [nZ_n]
      have hu : u < 4 := by omega
      obtain ⟨u1, u2, u3, u4⟩ := cSh u hu
      obtain ⟨u5, u6, u7⟩ := gSh u hu
      have u8 : (((u : Nat) : Int)).toNat = u := by omega
      refine vs_aload_n 0 dX9_copy_7 rfl rfl 1 rfl ?_
      refine vs_iload_n 3 dX9_copy_8 rfl rfl 4 rfl ?_
      refine vs_callV (st := []) (c_sheetNo hu (cR1 u hu)) lk_X9_99 lm_X9_sheetNumbered rfl rfl rfl rfl (Nat.le_of_ble_eq_true rfl) rfl ⟨rfl, rfl⟩ dX9_copy_9 rfl ?_
      show vs_V _ _ _ _ _ (.ref (G.2.2.2 + (80 + 2 * u)) :: _) _
      refine vs_astore [(7, .ref (G.2.2.2 + (80 + 2 * u))), (6, .ref (G.2.2.2 + (80 + 2 * k))), (0, .ref (G.2.2.2 + 0)), (1, .int (nI k)), (2, .int (nZ i)), (3, .int (nI u)), (4, .int (nZ j)), (5, .int (nZ n))] dX9_copy_12 rfl rfl rfl ?_
      refine vs_aload dX9_copy_14 rfl 1 rfl ?_
      refine vs_ifnull dX9_copy_16 rfl ?_
      refine vs_aload dX9_copy_19 rfl 0 rfl ?_
      refine vs_ifnonnull 27 dX9_copy_21 rfl ?_
      refine vs_aload dX9_copy_27 rfl 1 rfl ?_
      refine vs_get (v := .int (nI (aLo a k))) lf_X9_114 (vs_St_k hk).1 (congrArg (fun z => some (Value.int z)) k1) dX9_copy_29 rfl ?_
      refine vs_if_ne 43 dX9_copy_32 rfl rfl (fun c_32 => ?_) (fun c_32 => ?_)
      · have q_32 : ¬ (((aLo a k) : Nat) : Int) = ((0 : Nat) : Int) := fun hh => c_32 ((qi_eq (nI_Z _) (by first | exact nI_Z _ | (simp only [fa_lit, nI_add, pk_mul, nI_1]; exact nI_Z _)) (by omega) (by omega) (by omega) (by omega)).mpr hh)
        refine vs_aload_n 0 dX9_copy_43 rfl rfl 2 rfl ?_
        refine vs_iconst (v := 1) dX9_copy_44 rfl rfl ?_
        refine vs_callV (st := []) (c_caused (c := 1) (by decide) (by decide)) lk_X9_106 lm_X9_caused rfl rfl rfl rfl (Nat.le_of_ble_eq_true rfl) rfl ⟨rfl, rfl⟩ dX9_copy_45 rfl ?_
        show vs_V _ _ _ _ _ (.int (nZ (-10 - ((1 : Nat) : Int))) :: _) _
        exact vs_iretP dX9_copy_48 (cpost (v := -10 - ((1 : Nat) : Int)) (a' := s_cs a 1) (by unfold sp_copy; (try simp only [Int.toNat_natCast]); (repeat (first | rw [if_pos (by omega)] | rw [if_neg (by omega)])); rfl) rfl (k_caused hC (by decide) (by decide)).1 (k_caused hC (by decide) (by decide)).2)
      · have q_32 : (((aLo a k) : Nat) : Int) = ((0 : Nat) : Int) := (qi_eq (nI_Z _) (by first | exact nI_Z _ | (simp only [fa_lit, nI_add, pk_mul, nI_1]; exact nI_Z _)) (by omega) (by omega) (by omega) (by omega)).mp c_32
        refine vs_aload dX9_copy_35 rfl 0 rfl ?_
        refine vs_get (v := .int (nI (aLo a u))) lf_X9_114 (vs_St_k hu).1 (congrArg (fun z => some (Value.int z)) u1) dX9_copy_37 rfl ?_
        refine vs_if_eq 49 dX9_copy_40 rfl rfl (fun c_40 => ?_) (fun c_40 => ?_)
        · have q_40 : (((aLo a u) : Nat) : Int) = ((0 : Nat) : Int) := (qi_eq (nI_Z _) (by first | exact nI_Z _ | (simp only [fa_lit, nI_add, pk_mul, nI_1]; exact nI_Z _)) (by omega) (by omega) (by omega) (by omega)).mp c_40
          refine vs_aload dX9_copy_49 rfl 1 rfl ?_
          refine vs_get (v := .int (nI (aLn a k))) lf_X9_118 (vs_St_k hk).1 (congrArg (fun z => some (Value.int z)) k2) dX9_copy_51 rfl ?_
          refine vs_aload dX9_copy_54 rfl 0 rfl ?_
          refine vs_get (v := .int (nI (aLn a u))) lf_X9_118 (vs_St_k hu).1 (congrArg (fun z => some (Value.int z)) u2) dX9_copy_56 rfl ?_
          refine vs_icmp_eq 68 dX9_copy_59 rfl rfl (fun c_59 => ?_) (fun c_59 => ?_)
          · have q_59 : (((aLn a k) : Nat) : Int) = (((aLn a u) : Nat) : Int) := (qi_eq (nI_Z _) (nI_Z _) (by omega) (by omega) (by omega) (by omega)).mp c_59
            refine vs_aload dX9_copy_68 rfl 1 rfl ?_
            refine vs_iload_n 2 dX9_copy_70 rfl rfl 4 rfl ?_
            refine vs_iload dX9_copy_71 rfl 7 rfl ?_
            refine vs_callV (st := []) (c_hasPl (vs_St_k hk) k3 k7 (x := i) (y := n) hi1 hi2 hn1 hn2) lk_X9_121 lm_X8_hasPlaces rfl (vs_St_k hk).1 rfl rfl (Nat.le_of_ble_eq_true rfl) rfl ⟨rfl, rfl⟩ dX9_copy_73 rfl ?_
            show vs_V _ _ _ _ _ (.int ((if 0 ≤ n ∧ 0 ≤ i ∧ i + n ≤ (aSz a k : Int) then 1 else 0)) :: _) _
            refine vs_if_eq 91 dX9_copy_76 rfl rfl (fun c_76 => ?_) (fun c_76 => ?_)
            · rw [nn_is0] at c_76
              refine vs_aload_n 0 dX9_copy_91 rfl rfl 2 rfl ?_
              refine vs_iconst (v := 2) dX9_copy_92 rfl rfl ?_
              refine vs_callV (st := []) (c_caused (c := 2) (by decide) (by decide)) lk_X9_106 lm_X9_caused rfl rfl rfl rfl (Nat.le_of_ble_eq_true rfl) rfl ⟨rfl, rfl⟩ dX9_copy_93 rfl ?_
              show vs_V _ _ _ _ _ (.int (nZ (-10 - ((2 : Nat) : Int))) :: _) _
              exact vs_iretP dX9_copy_96 (cpost (v := -10 - ((2 : Nat) : Int)) (a' := s_cs a 2) (by unfold sp_copy; (try simp only [Int.toNat_natCast]); (repeat (first | rw [if_pos (by omega)] | rw [if_neg (by omega)])); rfl) rfl (k_caused hC (by decide) (by decide)).1 (k_caused hC (by decide) (by decide)).2)
            · rw [nn_is0, Classical.not_not] at c_76
              refine vs_aload dX9_copy_79 rfl 0 rfl ?_
              refine vs_iload dX9_copy_81 rfl 6 rfl ?_
              refine vs_iload dX9_copy_83 rfl 7 rfl ?_
              refine vs_callV (st := []) (c_hasPl (vs_St_k hu) u3 u7 (x := j) (y := n) hj1 hj2 hn1 hn2) lk_X9_121 lm_X8_hasPlaces rfl (vs_St_k hu).1 rfl rfl (Nat.le_of_ble_eq_true rfl) rfl ⟨rfl, rfl⟩ dX9_copy_85 rfl ?_
              show vs_V _ _ _ _ _ (.int ((if 0 ≤ n ∧ 0 ≤ j ∧ j + n ≤ (aSz a u : Int) then 1 else 0)) :: _) _
              refine vs_if_ne 97 dX9_copy_88 rfl rfl (fun c_88 => ?_) (fun c_88 => ?_)
              · rw [nn_is0, Classical.not_not] at c_88
                skip
                · obtain ⟨i, rfl⟩ : ∃ z0 : Nat, i = z0 := ⟨i.toNat, by omega⟩
                  obtain ⟨j, rfl⟩ : ∃ z0 : Nat, j = z0 := ⟨j.toNat, by omega⟩
                  obtain ⟨n, rfl⟩ : ∃ z0 : Nat, n = z0 := ⟨n.toNat, by omega⟩
                  rw [nZ_n i, nZ_n j, nZ_n n]
                  refine vs_aload dX9_copy_97 rfl 1 rfl ?_
                  refine vs_get (v := .ref (G.2.2.2 + (80 + 2 * k + 1))) lf_X9_129 (vs_St_k hk).1 rfl dX9_copy_99 rfl ?_
                  refine vs_iload_n 2 dX9_copy_102 rfl rfl 4 rfl ?_
                  refine vs_aload dX9_copy_103 rfl 0 rfl ?_
                  refine vs_get (v := .ref (G.2.2.2 + (80 + 2 * u + 1))) lf_X9_129 (vs_St_k hu).1 rfl dX9_copy_105 rfl ?_
                  refine vs_iload dX9_copy_108 rfl 6 rfl ?_
                  refine vs_iload dX9_copy_110 rfl 7 rfl ?_
                  refine vs_copyl (st := []) (sp := i) (dp := j) (k := n) vc_lk_X9_133 (vs_St_k hk).2 (vs_St_k hu).2 rfl rfl rfl (by decide) (by decide) (show i + n ≤ 60 by omega) (show j + n ≤ 60 by omega) rfl rfl dX9_copy_112 rfl ?_
                  refine vs_iconst (v := 1) dX9_copy_115 rfl rfl ?_
                  exact vs_iretP dX9_copy_116 (cpost (v := 1) (a' := s_sh a u (aLo a u) (aLn a u) (aSz a u) (va_cpy (aW a k) (aW a u) i j n)) (by unfold sp_copy; (try simp only [Int.toNat_natCast]); repeat (first | rw [if_pos (by omega)] | rw [if_neg (by omega)])) rfl (k_cells hC hu (va_cpy_c k4 u4 (by omega))).1 (k_cells hC hu (va_cpy_c k4 u4 (by omega))).2)
              · rw [nn_is0] at c_88
                refine vs_aload_n 0 dX9_copy_91 rfl rfl 2 rfl ?_
                refine vs_iconst (v := 2) dX9_copy_92 rfl rfl ?_
                refine vs_callV (st := []) (c_caused (c := 2) (by decide) (by decide)) lk_X9_106 lm_X9_caused rfl rfl rfl rfl (Nat.le_of_ble_eq_true rfl) rfl ⟨rfl, rfl⟩ dX9_copy_93 rfl ?_
                show vs_V _ _ _ _ _ (.int (nZ (-10 - ((2 : Nat) : Int))) :: _) _
                exact vs_iretP dX9_copy_96 (cpost (v := -10 - ((2 : Nat) : Int)) (a' := s_cs a 2) (by unfold sp_copy; (try simp only [Int.toNat_natCast]); (repeat (first | rw [if_pos (by omega)] | rw [if_neg (by omega)])); rfl) rfl (k_caused hC (by decide) (by decide)).1 (k_caused hC (by decide) (by decide)).2)
          · have q_59 : ¬ (((aLn a k) : Nat) : Int) = (((aLn a u) : Nat) : Int) := fun hh => c_59 ((qi_eq (nI_Z _) (nI_Z _) (by omega) (by omega) (by omega) (by omega)).mpr hh)
            refine vs_aload_n 0 dX9_copy_62 rfl rfl 2 rfl ?_
            refine vs_iconst (v := 4) dX9_copy_63 rfl rfl ?_
            refine vs_callV (st := []) (c_caused (c := 4) (by decide) (by decide)) lk_X9_106 lm_X9_caused rfl rfl rfl rfl (Nat.le_of_ble_eq_true rfl) rfl ⟨rfl, rfl⟩ dX9_copy_64 rfl ?_
            show vs_V _ _ _ _ _ (.int (nZ (-10 - ((4 : Nat) : Int))) :: _) _
            exact vs_iretP dX9_copy_67 (cpost (v := -10 - ((4 : Nat) : Int)) (a' := s_cs a 4) (by unfold sp_copy; (try simp only [Int.toNat_natCast]); (repeat (first | rw [if_pos (by omega)] | rw [if_neg (by omega)])); rfl) rfl (k_caused hC (by decide) (by decide)).1 (k_caused hC (by decide) (by decide)).2)
        · have q_40 : ¬ (((aLo a u) : Nat) : Int) = ((0 : Nat) : Int) := fun hh => c_40 ((qi_eq (nI_Z _) (by first | exact nI_Z _ | (simp only [fa_lit, nI_add, pk_mul, nI_1]; exact nI_Z _)) (by omega) (by omega) (by omega) (by omega)).mpr hh)
          refine vs_aload_n 0 dX9_copy_43 rfl rfl 2 rfl ?_
          refine vs_iconst (v := 1) dX9_copy_44 rfl rfl ?_
          refine vs_callV (st := []) (c_caused (c := 1) (by decide) (by decide)) lk_X9_106 lm_X9_caused rfl rfl rfl rfl (Nat.le_of_ble_eq_true rfl) rfl ⟨rfl, rfl⟩ dX9_copy_45 rfl ?_
          show vs_V _ _ _ _ _ (.int (nZ (-10 - ((1 : Nat) : Int))) :: _) _
          exact vs_iretP dX9_copy_48 (cpost (v := -10 - ((1 : Nat) : Int)) (a' := s_cs a 1) (by unfold sp_copy; (try simp only [Int.toNat_natCast]); (repeat (first | rw [if_pos (by omega)] | rw [if_neg (by omega)])); rfl) rfl (k_caused hC (by decide) (by decide)).1 (k_caused hC (by decide) (by decide)).2)
    · refine vs_aload_n 0 dX9_copy_7 rfl rfl 1 rfl ?_
      refine vs_iload_n 3 dX9_copy_8 rfl rfl 4 rfl ?_
      refine vs_callV (st := []) (c_sheetNull ht1 ht2 hus) lk_X9_99 lm_X9_sheetNumbered rfl rfl rfl rfl (Nat.le_of_ble_eq_true rfl) rfl ⟨rfl, rfl⟩ dX9_copy_9 rfl ?_
      show vs_V _ _ _ _ _ (.null :: _) _
      refine vs_astoreN [(7, .null), (6, .ref (G.2.2.2 + (80 + 2 * k))), (0, .ref (G.2.2.2 + 0)), (1, .int (nI k)), (2, .int (nZ i)), (3, .int (nZ t)), (4, .int (nZ j)), (5, .int (nZ n))] dX9_copy_12 rfl rfl rfl ?_
      refine vs_aload dX9_copy_14 rfl 1 rfl ?_
      refine vs_ifnull dX9_copy_16 rfl ?_
      refine vs_aloadN dX9_copy_19 rfl 0 rfl ?_
      refine vs_ifnonnullN dX9_copy_21 rfl ?_
      refine vs_bipush (v := -101) dX9_copy_24 rfl rfl ?_
      exact vs_iretP dX9_copy_26 (cpost (v := -101) (a' := a) (by unfold sp_copy; (try simp only [Int.toNat_natCast]); repeat (first | rw [if_pos (by omega)] | rw [if_neg (by omega)])) rfl hC frC.rf)
  · refine vs_aload_n 0 dX9_copy_0 rfl rfl 0 rfl ?_
    refine vs_iload_n 1 dX9_copy_1 rfl rfl 1 rfl ?_
    refine vs_callV (st := []) (c_sheetNull hs1 hs2 hks) lk_X9_99 lm_X9_sheetNumbered rfl rfl rfl rfl (Nat.le_of_ble_eq_true rfl) rfl ⟨rfl, rfl⟩ dX9_copy_2 rfl ?_
    show vs_V _ _ _ _ _ (.null :: _) _
    refine vs_astoreN [(6, .null), (0, .ref (G.2.2.2 + 0)), (1, .int (nZ s)), (2, .int (nZ i)), (3, .int (nZ t)), (4, .int (nZ j)), (5, .int (nZ n))] dX9_copy_5 rfl rfl rfl ?_
    by_cases hus : 0 ≤ t ∧ t < 4
    · obtain ⟨u, rfl⟩ : ∃ u : Nat, t = u := ⟨t.toNat, by omega⟩
      rw [nZ_n]
      have hu : u < 4 := by omega
      obtain ⟨u1, u2, u3, u4⟩ := cSh u hu
      obtain ⟨u5, u6, u7⟩ := gSh u hu
      have u8 : (((u : Nat) : Int)).toNat = u := by omega
      refine vs_aload_n 0 dX9_copy_7 rfl rfl 1 rfl ?_
      refine vs_iload_n 3 dX9_copy_8 rfl rfl 4 rfl ?_
      refine vs_callV (st := []) (c_sheetNo hu (cR1 u hu)) lk_X9_99 lm_X9_sheetNumbered rfl rfl rfl rfl (Nat.le_of_ble_eq_true rfl) rfl ⟨rfl, rfl⟩ dX9_copy_9 rfl ?_
      show vs_V _ _ _ _ _ (.ref (G.2.2.2 + (80 + 2 * u)) :: _) _
      refine vs_astore [(7, .ref (G.2.2.2 + (80 + 2 * u))), (6, .null), (0, .ref (G.2.2.2 + 0)), (1, .int (nZ s)), (2, .int (nZ i)), (3, .int (nI u)), (4, .int (nZ j)), (5, .int (nZ n))] dX9_copy_12 rfl rfl rfl ?_
      refine vs_aloadN dX9_copy_14 rfl 1 rfl ?_
      refine vs_ifnullN 24 dX9_copy_16 rfl ?_
      refine vs_bipush (v := -101) dX9_copy_24 rfl rfl ?_
      exact vs_iretP dX9_copy_26 (cpost (v := -101) (a' := a) (by unfold sp_copy; (try simp only [Int.toNat_natCast]); repeat (first | rw [if_pos (by omega)] | rw [if_neg (by omega)])) rfl hC frC.rf)
    · refine vs_aload_n 0 dX9_copy_7 rfl rfl 1 rfl ?_
      refine vs_iload_n 3 dX9_copy_8 rfl rfl 4 rfl ?_
      refine vs_callV (st := []) (c_sheetNull ht1 ht2 hus) lk_X9_99 lm_X9_sheetNumbered rfl rfl rfl rfl (Nat.le_of_ble_eq_true rfl) rfl ⟨rfl, rfl⟩ dX9_copy_9 rfl ?_
      show vs_V _ _ _ _ _ (.null :: _) _
      refine vs_astoreN [(7, .null), (6, .null), (0, .ref (G.2.2.2 + 0)), (1, .int (nZ s)), (2, .int (nZ i)), (3, .int (nZ t)), (4, .int (nZ j)), (5, .int (nZ n))] dX9_copy_12 rfl rfl rfl ?_
      refine vs_aloadN dX9_copy_14 rfl 1 rfl ?_
      refine vs_ifnullN 24 dX9_copy_16 rfl ?_
      refine vs_bipush (v := -101) dX9_copy_24 rfl rfl ?_
      exact vs_iretP dX9_copy_26 (cpost (v := -101) (a' := a) (by unfold sp_copy; (try simp only [Int.toNat_natCast]); repeat (first | rw [if_pos (by omega)] | rw [if_neg (by omega)])) rfl hC frC.rf)

theorem k_lose {G : vv_G} {S : vs_S} {a : aS} (hC : CSt S a) (hG : aG a) {s : Int} (hs1 : -2147483648 ≤ s) (hs2 : s < 2147483648) : vs_CP G yX9_lose cX9_lose 3 (some .int) { frames := 1, locals := 21 } [.ref (G.2.2.2 + 0), .int (nZ s)] S (fun r S2 => r = some (.int (nZ (sp_lose a s).1)) ∧ CSt S2 (sp_lose a s).2 ∧ frC S S2) := by
  refine vs_ofP [(0, .ref (G.2.2.2 + 0)), (1, .int (nZ s))] (by decide) rfl rfl ?_
  obtain ⟨⟨cP, cN, cH⟩, ⟨cX, cY⟩, ⟨cA, cB⟩, cSe, cJs, cSh, ⟨cK0, cK⟩, ⟨cR1, cR2, cD⟩, cJ0⟩ := id hC
  obtain ⟨gP, gP2, gN, gH, gSe, gSh, gXY, gB31, gInj, gA, gB, gAz, gBz⟩ := hG
  have gP1 := gP.1
  by_cases hks : 0 ≤ s ∧ s < 4
  · obtain ⟨k, rfl⟩ : ∃ k : Nat, s = k := ⟨s.toNat, by omega⟩
    rw [nZ_n]
    have hk : k < 4 := by omega
    obtain ⟨k1, k2, k3, k4⟩ := cSh k hk
    obtain ⟨k5, k6, k7⟩ := gSh k hk
    have k8 : (((k : Nat) : Int)).toNat = k := by omega
    refine vs_aload_n 0 dX9_lose_0 rfl rfl 0 rfl ?_
    refine vs_iload_n 1 dX9_lose_1 rfl rfl 1 rfl ?_
    refine vs_callV (st := []) (c_sheetNo hk (cR1 k hk)) lk_X9_99 lm_X9_sheetNumbered rfl rfl rfl rfl (Nat.le_of_ble_eq_true rfl) rfl ⟨rfl, rfl⟩ dX9_lose_2 rfl ?_
    show vs_V _ _ _ _ _ (.ref (G.2.2.2 + (80 + 2 * k)) :: _) _
    refine vs_astore_n 2 [(2, .ref (G.2.2.2 + (80 + 2 * k))), (0, .ref (G.2.2.2 + 0)), (1, .int (nI k))] dX9_lose_5 rfl rfl rfl rfl ?_
    refine vs_aload_n 2 dX9_lose_6 rfl rfl 0 rfl ?_
    refine vs_ifnonnull 13 dX9_lose_7 rfl ?_
    refine vs_aload_n 2 dX9_lose_13 rfl rfl 0 rfl ?_
    refine vs_get (v := .int (nI (aLo a k))) lf_X9_114 (vs_St_k hk).1 (congrArg (fun z => some (Value.int z)) k1) dX9_lose_14 rfl ?_
    refine vs_if_eq 26 dX9_lose_17 rfl rfl (fun c_17 => ?_) (fun c_17 => ?_)
    · have q_17 : (((aLo a k) : Nat) : Int) = ((0 : Nat) : Int) := (qi_eq (nI_Z _) (by first | exact nI_Z _ | (simp only [fa_lit, nI_add, pk_mul, nI_1]; exact nI_Z _)) (by omega) (by omega) (by omega) (by omega)).mp c_17
      refine vs_aload_n 2 dX9_lose_26 rfl rfl 0 rfl ?_
      refine vs_iconst (v := 1) dX9_lose_27 rfl rfl ?_
      refine vs_put lf_X9_114 (vs_St_k hk).1 rfl rfl rfl dX9_lose_28 rfl ?_
      refine vs_aload_n 2 dX9_lose_31 rfl rfl 0 rfl ?_
      have F : vs_fx S (vs_sc S (80 + 2 * k) 1 1) [] [(80 + 2 * k, 1), (80 + 2 * k, 2), (80 + 2 * k, 3)] [80 + 2 * k + 1] := vs_fx.sc vs_fx.rf (by simp)
      refine vs_get (v := .int (nI (aSz a k))) lf_X9_139 (vs_St_k hk).1 (congrArg (fun z => some (Value.int z)) ((vs_sc_nf (by omega)).trans k3)) dX9_lose_32 rfl ?_
      exact vs_iretP dX9_lose_35 (cpost (v := (aSz a k : Int)) (a' := s_sh a k 1 (aLn a k) (aSz a k) (aW a k)) (by unfold sp_lose; (try simp only [Int.toNat_natCast]); repeat (first | rw [if_pos (by omega)] | rw [if_neg (by omega)])) (by rw [nZ_n]) (CSt.sh hC F hk (vs_sc_at.trans rfl) ((vs_sc_nf (by omega)).trans k2) ((vs_sc_nf (by omega)).trans k3) k4 (by simp) (by simp) (by simp) (cJ.fx cJ0 F (by simp))) (F.C (by simp) (by simp <;> omega) (by simp <;> omega)))
    · have q_17 : ¬ (((aLo a k) : Nat) : Int) = ((0 : Nat) : Int) := fun hh => c_17 ((qi_eq (nI_Z _) (by first | exact nI_Z _ | (simp only [fa_lit, nI_add, pk_mul, nI_1]; exact nI_Z _)) (by omega) (by omega) (by omega) (by omega)).mpr hh)
      refine vs_aload_n 0 dX9_lose_20 rfl rfl 1 rfl ?_
      refine vs_iconst (v := 1) dX9_lose_21 rfl rfl ?_
      refine vs_callV (st := []) (c_caused (c := 1) (by decide) (by decide)) lk_X9_106 lm_X9_caused rfl rfl rfl rfl (Nat.le_of_ble_eq_true rfl) rfl ⟨rfl, rfl⟩ dX9_lose_22 rfl ?_
      show vs_V _ _ _ _ _ (.int (nZ (-10 - ((1 : Nat) : Int))) :: _) _
      exact vs_iretP dX9_lose_25 (cpost (v := -10 - ((1 : Nat) : Int)) (a' := s_cs a 1) (by unfold sp_lose; (try simp only [Int.toNat_natCast]); (repeat (first | rw [if_pos (by omega)] | rw [if_neg (by omega)])); rfl) rfl (k_caused hC (by decide) (by decide)).1 (k_caused hC (by decide) (by decide)).2)
  · refine vs_aload_n 0 dX9_lose_0 rfl rfl 0 rfl ?_
    refine vs_iload_n 1 dX9_lose_1 rfl rfl 1 rfl ?_
    refine vs_callV (st := []) (c_sheetNull hs1 hs2 hks) lk_X9_99 lm_X9_sheetNumbered rfl rfl rfl rfl (Nat.le_of_ble_eq_true rfl) rfl ⟨rfl, rfl⟩ dX9_lose_2 rfl ?_
    show vs_V _ _ _ _ _ (.null :: _) _
    refine vs_astore_nN 2 [(2, .null), (0, .ref (G.2.2.2 + 0)), (1, .int (nZ s))] dX9_lose_5 rfl rfl rfl rfl ?_
    refine vs_aload_nN 2 dX9_lose_6 rfl rfl 0 rfl ?_
    refine vs_ifnonnullN dX9_lose_7 rfl ?_
    refine vs_bipush (v := -101) dX9_lose_10 rfl rfl ?_
    exact vs_iretP dX9_lose_12 (cpost (v := -101) (a' := a) (by unfold sp_lose; (try simp only [Int.toNat_natCast]); repeat (first | rw [if_pos (by omega)] | rw [if_neg (by omega)])) rfl hC frC.rf)

theorem k_ku {G : vv_G} {S : vs_S} {a : aS} (hC : CSt S a) (hG : aG a) {o : Nat} (hs : vs_Sh o) (ho : o < 70) {p q : Nat → Nat} (hp : pR S (o + 1) p) (hq : pR S (o + 3) q) (hpb : ∀ k, p k < aP a) (hqb : ∀ k, q k < aP a) {n : Nat} (hn : n ≤ 40) : vs_CP G yX9_keepUnfolded cX9_keepUnfolded 4 (some .int) { frames := 3, locals := 77 } [.ref (G.2.2.2 + 0), .ref (G.2.2.2 + o), .int (nI n)] S (fun r S2 => r = some (.int (nZ (sp_ku a p q n).1)) ∧ CSt S2 (sp_ku a p q n).2 ∧ frC S S2) := by
  refine vs_ofP [(0, .ref (G.2.2.2 + 0)), (1, .ref (G.2.2.2 + o)), (2, .int (nI n))] (by decide) rfl rfl ?_
  obtain ⟨⟨cP, cN, cH⟩, ⟨cX, cY⟩, ⟨cA, cB⟩, cSe, cJs, cSh, ⟨cK0, cK⟩, ⟨cR1, cR2, cD⟩, cJ0⟩ := id hC
  obtain ⟨gP, gP2, gN, gH, gSe, gSh, gXY, gB31, gInj, gA, gB, gAz, gBz⟩ := hG
  have gP1 := gP.1
  have hq0 := hqb 0
  have F : vs_fx S S [88 + 3 * aN a + 1 + 1] [(0, 3), (88 + 3 * aN a, 1)] [] := vs_fx.rf
  refine vs_aload_n 1 dX9_keepUnfolded_0 rfl rfl 1 rfl ?_
  refine vs_get (v := .ref (G.2.2.2 + (o + 3))) lf_X9_163 hs.1 rfl dX9_keepUnfolded_1 rfl ?_
  refine vs_iconst (v := 0) dX9_keepUnfolded_4 rfl rfl ?_
  refine vs_callV (st := []) (c_atN hs.2.2 hq (k := 0) (by omega)) lk_X9_186 lm_X3_at rfl hs.2.2.1 rfl rfl (Nat.le_of_ble_eq_true rfl) rfl ⟨rfl, rfl⟩ dX9_keepUnfolded_5 rfl ?_
  show vs_V _ _ _ _ _ (.int (nI (q 0)) :: _) _
  refine vs_if_ne 17 dX9_keepUnfolded_8 rfl rfl (fun c_8 => ?_) (fun c_8 => ?_)
  · have q_8 : ¬ (((q 0) : Nat) : Int) = ((0 : Nat) : Int) := fun hh => c_8 ((qi_eq (nI_Z _) (by first | exact nI_Z _ | (simp only [fa_lit, nI_add, pk_mul, nI_1]; exact nI_Z _)) (by omega) (by omega) (by omega) (by omega)).mpr hh)
    by_cases hN : aN a < 10
    · obtain ⟨gn, hgn⟩ := cJs (aN a) hN
      refine vs_aload_n 0 dX9_keepUnfolded_17 rfl rfl 0 rfl ?_
      refine vs_iload_n 2 dX9_keepUnfolded_18 rfl rfl 2 rfl ?_
      refine vs_callV (st := []) (c_fresh cN hN (cR2 (aN a) hN) hgn) lk_X9_145 lm_X9_freshSeries rfl rfl rfl rfl (Nat.le_of_ble_eq_true rfl) rfl ⟨rfl, rfl⟩ dX9_keepUnfolded_19 rfl ?_
      show vs_V _ _ _ _ _ (.ref (G.2.2.2 + (88 + 3 * aN a)) :: _) _
      refine vs_gen (fun T1 e_T1 => ?_)
      have cP : T1.1 1 0 = nI (aP a) := by rw [e_T1]; repeat (first | exact cP | rw [vs_ia_ne (by omega)] | rw [vs_ia_1] | rw [vs_sc_ne (by omega)] | rw [vs_sc_nf (by omega)])
      have cN : T1.1 0 3 = nI (aN a) := by rw [e_T1]; repeat (first | exact cN | rw [vs_ia_ne (by omega)] | rw [vs_ia_1] | rw [vs_sc_ne (by omega)] | rw [vs_sc_nf (by omega)])
      have F : vs_fx S T1 [88 + 3 * aN a + 1 + 1] [(0, 3), (88 + 3 * aN a, 1)] [] := by rw [e_T1]; repeat (first | exact F | refine vs_fx.ia ?_ (by simp <;> omega) | refine vs_fx.sc ?_ (by simp <;> omega) | refine vs_fx.la ?_ (by simp <;> omega))
      have hp : pR T1 (o + 1) p := ⟨by rw [e_T1]; repeat (first | exact hp.1 | rw [vs_ia_ne (by omega)]), hp.2⟩
      have hq : pR T1 (o + 3) q := ⟨by rw [e_T1]; repeat (first | exact hq.1 | rw [vs_ia_ne (by omega)]), hq.2⟩
      have hnum : pR T1 (88 + 3 * aN a + 1) (pcon 0) := ⟨by rw [e_T1]; repeat (first | exact vs_ia_at | rw [vs_ia_ne (by omega)]), (pcon_z 0)⟩
      have hlast : T1.1 (88 + 3 * aN a) 1 = nI n := by rw [e_T1]; repeat (first | exact vs_ia_at | exact vs_sc_at | rw [vs_ia_ne (by omega)] | rw [vs_ia_1] | rw [vs_sc_ne (by omega)] | rw [vs_sc_nf (by omega)])
      clear e_T1
      refine vs_astore_n 3 [(3, .ref (G.2.2.2 + (88 + 3 * aN a))), (0, .ref (G.2.2.2 + 0)), (1, .ref (G.2.2.2 + o)), (2, .int (nI n))] dX9_keepUnfolded_22 rfl rfl rfl rfl ?_
      refine vs_aload_n 3 dX9_keepUnfolded_23 rfl rfl 0 rfl ?_
      refine vs_ifnonnull 30 dX9_keepUnfolded_24 rfl ?_
      refine vs_aload_n 1 dX9_keepUnfolded_30 rfl rfl 2 rfl ?_
      refine vs_aload_n 3 dX9_keepUnfolded_31 rfl rfl 0 rfl ?_
      refine vs_get (v := .ref (G.2.2.2 + (88 + 3 * aN a + 1))) lf_X9_149 (vs_Se_k hN).1 rfl dX9_keepUnfolded_32 rfl ?_
      refine vs_iload_n 2 dX9_keepUnfolded_35 rfl rfl 3 rfl ?_
      refine vs_aload_n 0 dX9_keepUnfolded_36 rfl rfl 1 rfl ?_
      refine vs_get (v := .ref (G.2.2.2 + 1)) lf_X9_12 rfl rfl dX9_keepUnfolded_37 rfl ?_
      refine vs_callV (st := []) (c_unfoldInto hs hp hq (vs_Se_k hN).2 (by omega) (by omega) cP gP1 gP2 hpb hqb (l := n) (by omega) hnum) lk_X9_295 lm_X7_unfoldInto rfl hs.1 rfl rfl (Nat.le_of_ble_eq_true rfl) rfl ⟨rfl, rfl⟩ dX9_keepUnfolded_40 rfl ?_
      refine vs_gen (fun T2 e_T2 => ?_)
      have cP : T2.1 1 0 = nI (aP a) := by rw [e_T2]; repeat (first | exact cP | rw [vs_ia_ne (by omega)] | rw [vs_ia_1] | rw [vs_sc_ne (by omega)] | rw [vs_sc_nf (by omega)])
      have cN : T2.1 0 3 = nI (aN a) := by rw [e_T2]; repeat (first | exact cN | rw [vs_ia_ne (by omega)] | rw [vs_ia_1] | rw [vs_sc_ne (by omega)] | rw [vs_sc_nf (by omega)])
      have F : vs_fx S T2 [88 + 3 * aN a + 1 + 1] [(0, 3), (88 + 3 * aN a, 1)] [] := by rw [e_T2]; repeat (first | exact F | refine vs_fx.ia ?_ (by simp <;> omega) | refine vs_fx.sc ?_ (by simp <;> omega) | refine vs_fx.la ?_ (by simp <;> omega))
      have hp : pR T2 (o + 1) p := ⟨by rw [e_T2]; repeat (first | exact hp.1 | rw [vs_ia_ne (by omega)]), hp.2⟩
      have hq : pR T2 (o + 3) q := ⟨by rw [e_T2]; repeat (first | exact hq.1 | rw [vs_ia_ne (by omega)]), hq.2⟩
      have hlast : T2.1 (88 + 3 * aN a) 1 = nI n := by rw [e_T2]; repeat (first | exact hlast | rw [vs_ia_ne (by omega)] | rw [vs_ia_1] | rw [vs_sc_ne (by omega)] | rw [vs_sc_nf (by omega)])
      have hnum : pR T2 (88 + 3 * aN a + 1) (ufk p q (ipw (q 0) (aP a)) (aP a) (n + 1)) := ⟨by rw [e_T2]; repeat (first | exact vs_ia_at | rw [vs_ia_ne (by omega)]), (fun k hk => ufk_z _ k (by omega))⟩
      clear e_T2
      refine vs_aload_n 0 dX9_keepUnfolded_43 rfl rfl 1 rfl ?_
      refine vs_callV (st := []) (c_keepFresh cN (by omega)) lk_X9_156 lm_X9_keepFresh rfl rfl rfl rfl (Nat.le_of_ble_eq_true rfl) rfl ⟨rfl, rfl⟩ dX9_keepUnfolded_44 rfl ?_
      show vs_V _ _ _ _ _ (.int (nI (aN a)) :: _) _
      refine vs_gen (fun T3 e_T3 => ?_)
      have cP : T3.1 1 0 = nI (aP a) := by rw [e_T3]; repeat (first | exact cP | rw [vs_ia_ne (by omega)] | rw [vs_ia_1] | rw [vs_sc_ne (by omega)] | rw [vs_sc_nf (by omega)])
      have F : vs_fx S T3 [88 + 3 * aN a + 1 + 1] [(0, 3), (88 + 3 * aN a, 1)] [] := by rw [e_T3]; repeat (first | exact F | refine vs_fx.ia ?_ (by simp <;> omega) | refine vs_fx.sc ?_ (by simp <;> omega) | refine vs_fx.la ?_ (by simp <;> omega))
      have hp : pR T3 (o + 1) p := ⟨by rw [e_T3]; repeat (first | exact hp.1 | rw [vs_ia_ne (by omega)]), hp.2⟩
      have hq : pR T3 (o + 3) q := ⟨by rw [e_T3]; repeat (first | exact hq.1 | rw [vs_ia_ne (by omega)]), hq.2⟩
      have hnum : pR T3 (88 + 3 * aN a + 1) (ufk p q (ipw (q 0) (aP a)) (aP a) (n + 1)) := ⟨by rw [e_T3]; repeat (first | exact hnum.1 | rw [vs_ia_ne (by omega)]), hnum.2⟩
      have hlast : T3.1 (88 + 3 * aN a) 1 = nI n := by rw [e_T3]; repeat (first | exact hlast | rw [vs_ia_ne (by omega)] | rw [vs_ia_1] | rw [vs_sc_ne (by omega)] | rw [vs_sc_nf (by omega)])
      have cN : T3.1 0 3 = nI (aN a + 1) := by rw [e_T3]; repeat (first | exact vs_ia_at | exact vs_sc_at | rw [vs_ia_ne (by omega)] | rw [vs_ia_1] | rw [vs_sc_ne (by omega)] | rw [vs_sc_nf (by omega)])
      clear e_T3
      exact vs_iretP dX9_keepUnfolded_47 (cpost (v := (aN a : Int)) (a' := s_se a n ((ufk p q (ipw (q 0) (aP a)) (aP a) (n + 1)))) (by unfold sp_ku sp_kp; (try simp only [Int.toNat_natCast]); repeat (first | rw [if_pos (by omega)] | rw [if_neg (by omega)])) (by rw [nZ_n]) (CSt.se hC F hN cN hlast hnum (by simp <;> omega) (by simp) (by simp) (cJ.fx cJ0 F (by simp [scr] <;> omega))) (F.C (by simp <;> omega) (by simp <;> omega) (by simp)))
    · have hN10 : aN a = 10 := by omega
      rw [hN10] at cN
      refine vs_aload_n 0 dX9_keepUnfolded_17 rfl rfl 0 rfl ?_
      refine vs_iload_n 2 dX9_keepUnfolded_18 rfl rfl 2 rfl ?_
      refine vs_callV (st := []) (c_freshNull cN) lk_X9_145 lm_X9_freshSeries rfl rfl rfl rfl (Nat.le_of_ble_eq_true rfl) rfl ⟨rfl, rfl⟩ dX9_keepUnfolded_19 rfl ?_
      show vs_V _ _ _ _ _ (.null :: _) _
      refine vs_astore_nN 3 [(3, .null), (0, .ref (G.2.2.2 + 0)), (1, .ref (G.2.2.2 + o)), (2, .int (nI n))] dX9_keepUnfolded_22 rfl rfl rfl rfl ?_
      refine vs_aload_nN 3 dX9_keepUnfolded_23 rfl rfl 0 rfl ?_
      refine vs_ifnonnullN dX9_keepUnfolded_24 rfl ?_
      refine vs_bipush (v := -104) dX9_keepUnfolded_27 rfl rfl ?_
      exact vs_iretP dX9_keepUnfolded_29 (cpost (v := -104) (a' := a) (by unfold sp_ku sp_kp; (try simp only [Int.toNat_natCast]); repeat (first | rw [if_pos (by omega)] | rw [if_neg (by omega)])) rfl hC frC.rf)
  · have q_8 : (((q 0) : Nat) : Int) = ((0 : Nat) : Int) := (qi_eq (nI_Z _) (by first | exact nI_Z _ | (simp only [fa_lit, nI_add, pk_mul, nI_1]; exact nI_Z _)) (by omega) (by omega) (by omega) (by omega)).mp c_8
    refine vs_aload_n 0 dX9_keepUnfolded_11 rfl rfl 0 rfl ?_
    refine vs_iconst (v := 5) dX9_keepUnfolded_12 rfl rfl ?_
    refine vs_callV (st := []) (c_caused (c := 5) (by decide) (by decide)) lk_X9_106 lm_X9_caused rfl rfl rfl rfl (Nat.le_of_ble_eq_true rfl) rfl ⟨rfl, rfl⟩ dX9_keepUnfolded_13 rfl ?_
    show vs_V _ _ _ _ _ (.int (nZ (-10 - ((5 : Nat) : Int))) :: _) _
    exact vs_iretP dX9_keepUnfolded_16 (cpost (v := -10 - ((5 : Nat) : Int)) (a' := s_cs a 5) (by unfold sp_ku; (try simp only [Int.toNat_natCast]); (repeat (first | rw [if_pos (by omega)] | rw [if_neg (by omega)])); rfl) rfl (k_caused hC (by decide) (by decide)).1 (k_caused hC (by decide) (by decide)).2)

theorem k_unfold {G : vv_G} {S : vs_S} {a : aS} (hC : CSt S a) (hG : aG a) {n : Int} (hn1 : -2147483648 ≤ n) (hn2 : n < 2147483648) : vs_CP G yX9_unfold cX9_unfold 2 (some .int) { frames := 4, locals := 100 } [.ref (G.2.2.2 + 0), .int (nZ n)] S (fun r S2 => r = some (.int (nZ (sp_unfold a n).1)) ∧ CSt S2 (sp_unfold a n).2 ∧ frC S S2) := by
  refine vs_ofP [(0, .ref (G.2.2.2 + 0)), (1, .int (nZ n))] (by decide) rfl rfl ?_
  have hG0 := hG
  obtain ⟨⟨cP, cN, cH⟩, ⟨cX, cY⟩, ⟨cA, cB⟩, cSe, cJs, cSh, ⟨cK0, cK⟩, ⟨cR1, cR2, cD⟩, cJ0⟩ := id hC
  obtain ⟨gP, gP2, gN, gH, gSe, gSh, gXY, gB31, gInj, gA, gB, gAz, gBz⟩ := hG
  have gP1 := gP.1
  refine vs_iload_n 1 dX9_unfold_0 rfl rfl 1 rfl ?_
  refine vs_callS (st := []) (c_isLength hn1 hn2) lk_X9_142 lm_X9_isLength rfl rfl (Nat.le_of_ble_eq_true rfl) rfl ⟨rfl, rfl⟩ dX9_unfold_1 rfl ?_
  show vs_V _ _ _ _ _ (.int ((if 0 ≤ n ∧ n ≤ 40 then 1 else 0)) :: _) _
  refine vs_if_eq 19 dX9_unfold_4 rfl rfl (fun c_4 => ?_) (fun c_4 => ?_)
  · rw [nn_is0] at c_4
    refine vs_bipush (v := -102) dX9_unfold_19 rfl rfl ?_
    skip
    · exact vs_iretP dX9_unfold_21 (cpost (v := -102) (a' := a) (by unfold sp_unfold; (try simp only [Int.toNat_natCast]); repeat (first | rw [if_pos (by omega)] | rw [if_neg (by omega)])) rfl hC frC.rf)
  · rw [nn_is0, Classical.not_not] at c_4
    skip
    · obtain ⟨n, rfl⟩ : ∃ z0 : Nat, n = z0 := ⟨n.toNat, by omega⟩
      rw [nZ_n n]
      refine vs_aload_n 0 dX9_unfold_7 rfl rfl 0 rfl ?_
      refine vs_aload_n 0 dX9_unfold_8 rfl rfl 0 rfl ?_
      refine vs_get (v := .ref (G.2.2.2 + 7)) lf_X9_42 rfl rfl dX9_unfold_9 rfl ?_
      refine vs_iload_n 1 dX9_unfold_12 rfl rfl 1 rfl ?_
      refine vs_callVP (st := []) (k_ku (o := 7) hC hG0 ⟨rfl, ⟨rfl, rfl⟩, ⟨rfl, rfl⟩⟩ (by decide) cA cB gA gB (n := n) (by omega)) lk_X9_166 lm_X9_keepUnfolded rfl rfl rfl rfl (Nat.le_of_ble_eq_true rfl) rfl ⟨rfl, rfl⟩ dX9_unfold_13 rfl (fun rr S1 hh => ?_)
      obtain ⟨rfl, hC2, hf2⟩ := hh
      show vs_V _ _ _ _ _ (.int (nZ ((sp_ku a (aA a) (aB a) n).1)) :: _) _
      have hsp : sp_unfold a n = sp_ku a (aA a) (aB a) n := (by unfold sp_unfold; (try simp only [Int.toNat_natCast]); repeat (first | rw [if_pos (by omega)] | rw [if_neg (by omega)]))
      refine vs_goto 21 dX9_unfold_16 rfl ?_
      skip
      · exact vs_iretP dX9_unfold_21 (by rw [hsp]; exact ⟨rfl, hC2, hf2⟩)

theorem k_series {G : vv_G} {S : vs_S} {a : aS} (hC : CSt S a) (hG : aG a) {s : Int} (hs1 : -2147483648 ≤ s) (hs2 : s < 2147483648) {i : Int} (hi1 : -2147483648 ≤ i) (hi2 : i < 2147483648) {n : Int} (hn1 : -2147483648 ≤ n) (hn2 : n < 2147483648) : vs_CP G yX9_series cX9_series 6 (some .int) { frames := 3, locals := 69 } [.ref (G.2.2.2 + 0), .int (nZ s), .int (nZ i), .int (nZ n)] S (fun r S2 => r = some (.int (nZ (sp_series a s i n).1)) ∧ CSt S2 (sp_series a s i n).2 ∧ frC S S2) := by
  refine vs_ofP [(0, .ref (G.2.2.2 + 0)), (1, .int (nZ s)), (2, .int (nZ i)), (3, .int (nZ n))] (by decide) rfl rfl ?_
  obtain ⟨⟨cP, cN, cH⟩, ⟨cX, cY⟩, ⟨cA, cB⟩, cSe, cJs, cSh, ⟨cK0, cK⟩, ⟨cR1, cR2, cD⟩, cJ0⟩ := id hC
  obtain ⟨gP, gP2, gN, gH, gSe, gSh, gXY, gB31, gInj, gA, gB, gAz, gBz⟩ := hG
  have gP1 := gP.1
  have F : vs_fx S S [88 + 3 * aN a + 1 + 1] [(0, 3), (88 + 3 * aN a, 1)] [] := vs_fx.rf
  by_cases hks : 0 ≤ s ∧ s < 4
  · obtain ⟨k, rfl⟩ : ∃ k : Nat, s = k := ⟨s.toNat, by omega⟩
    rw [nZ_n]
    have hk : k < 4 := by omega
    obtain ⟨k1, k2, k3, k4⟩ := cSh k hk
    obtain ⟨k5, k6, k7⟩ := gSh k hk
    have k8 : (((k : Nat) : Int)).toNat = k := by omega
    refine vs_aload_n 0 dX9_series_0 rfl rfl 0 rfl ?_
    refine vs_iload_n 1 dX9_series_1 rfl rfl 1 rfl ?_
    refine vs_callV (st := []) (c_sheetNo hk (cR1 k hk)) lk_X9_99 lm_X9_sheetNumbered rfl rfl rfl rfl (Nat.le_of_ble_eq_true rfl) rfl ⟨rfl, rfl⟩ dX9_series_2 rfl ?_
    show vs_V _ _ _ _ _ (.ref (G.2.2.2 + (80 + 2 * k)) :: _) _
    refine vs_astore [(4, .ref (G.2.2.2 + (80 + 2 * k))), (0, .ref (G.2.2.2 + 0)), (1, .int (nI k)), (2, .int (nZ i)), (3, .int (nZ n))] dX9_series_5 rfl rfl rfl ?_
    refine vs_aload dX9_series_7 rfl 0 rfl ?_
    refine vs_ifnonnull 15 dX9_series_9 rfl ?_
    refine vs_iload_n 3 dX9_series_15 rfl rfl 4 rfl ?_
    refine vs_callS (st := []) (c_isLength hn1 hn2) lk_X9_142 lm_X9_isLength rfl rfl (Nat.le_of_ble_eq_true rfl) rfl ⟨rfl, rfl⟩ dX9_series_16 rfl ?_
    show vs_V _ _ _ _ _ (.int ((if 0 ≤ n ∧ n ≤ 40 then 1 else 0)) :: _) _
    refine vs_if_ne 25 dX9_series_19 rfl rfl (fun c_19 => ?_) (fun c_19 => ?_)
    · rw [nn_is0, Classical.not_not] at c_19
      refine vs_aload dX9_series_25 rfl 0 rfl ?_
      refine vs_get (v := .int (nI (aLo a k))) lf_X9_114 (vs_St_k hk).1 (congrArg (fun z => some (Value.int z)) k1) dX9_series_27 rfl ?_
      refine vs_if_eq 39 dX9_series_30 rfl rfl (fun c_30 => ?_) (fun c_30 => ?_)
      · have q_30 : (((aLo a k) : Nat) : Int) = ((0 : Nat) : Int) := (qi_eq (nI_Z _) (by first | exact nI_Z _ | (simp only [fa_lit, nI_add, pk_mul, nI_1]; exact nI_Z _)) (by omega) (by omega) (by omega) (by omega)).mp c_30
        refine vs_aload dX9_series_39 rfl 0 rfl ?_
        refine vs_iload_n 2 dX9_series_41 rfl rfl 3 rfl ?_
        refine vs_iload_n 3 dX9_series_42 rfl rfl 4 rfl ?_
        refine vs_iconst (v := 1) dX9_series_43 rfl rfl ?_
        refine vs_iadd dX9_series_44 rfl ?_
        refine vs_topi (fun z1 e_z1 => ?_)
        have f_z1 : z1 = nZ (n + 1) := (by rw [e_z1]; exact nZ_add n 1)
        subst f_z1
        clear e_z1
        refine vs_callV (st := []) (c_hasPl (vs_St_k hk) k3 k7 (x := i) (y := n + 1) hi1 hi2 (by omega) (by omega)) lk_X9_121 lm_X8_hasPlaces rfl (vs_St_k hk).1 rfl rfl (Nat.le_of_ble_eq_true rfl) rfl ⟨rfl, rfl⟩ dX9_series_45 rfl ?_
        show vs_V _ _ _ _ _ (.int ((if 0 ≤ n + 1 ∧ 0 ≤ i ∧ i + (n + 1) ≤ (aSz a k : Int) then 1 else 0)) :: _) _
        refine vs_if_ne 57 dX9_series_48 rfl rfl (fun c_48 => ?_) (fun c_48 => ?_)
        · rw [nn_is0, Classical.not_not] at c_48
          skip
          · obtain ⟨i, rfl⟩ : ∃ z0 : Nat, i = z0 := ⟨i.toNat, by omega⟩
            obtain ⟨n, rfl⟩ : ∃ z0 : Nat, n = z0 := ⟨n.toNat, by omega⟩
            rw [nZ_n i, nZ_n n]
            refine vs_aload_n 0 dX9_series_57 rfl rfl 1 rfl ?_
            by_cases hN : aN a < 10
            · obtain ⟨gn, hgn⟩ := cJs (aN a) hN
              refine vs_iload_n 3 dX9_series_58 rfl rfl 4 rfl ?_
              refine vs_callV (st := []) (c_fresh cN hN (cR2 (aN a) hN) hgn) lk_X9_145 lm_X9_freshSeries rfl rfl rfl rfl (Nat.le_of_ble_eq_true rfl) rfl ⟨rfl, rfl⟩ dX9_series_59 rfl ?_
              show vs_V _ _ _ _ _ (.ref (G.2.2.2 + (88 + 3 * aN a)) :: _) _
              refine vs_gen (fun T1 e_T1 => ?_)
              have cP : T1.1 1 0 = nI (aP a) := by rw [e_T1]; repeat (first | exact cP | rw [vs_ia_ne (by omega)] | rw [vs_ia_1] | rw [vs_sc_ne (by omega)] | rw [vs_sc_nf (by omega)])
              have cN : T1.1 0 3 = nI (aN a) := by rw [e_T1]; repeat (first | exact cN | rw [vs_ia_ne (by omega)] | rw [vs_ia_1] | rw [vs_sc_ne (by omega)] | rw [vs_sc_nf (by omega)])
              have F : vs_fx S T1 [88 + 3 * aN a + 1 + 1] [(0, 3), (88 + 3 * aN a, 1)] [] := by rw [e_T1]; repeat (first | exact F | refine vs_fx.ia ?_ (by simp <;> omega) | refine vs_fx.sc ?_ (by simp <;> omega) | refine vs_fx.la ?_ (by simp <;> omega))
              have hnum : pR T1 (88 + 3 * aN a + 1) (pcon 0) := ⟨by rw [e_T1]; repeat (first | exact vs_ia_at | rw [vs_ia_ne (by omega)]), (pcon_z 0)⟩
              have hlast : T1.1 (88 + 3 * aN a) 1 = nI n := by rw [e_T1]; repeat (first | exact vs_ia_at | exact vs_sc_at | rw [vs_ia_ne (by omega)] | rw [vs_ia_1] | rw [vs_sc_ne (by omega)] | rw [vs_sc_nf (by omega)])
              clear e_T1
              refine vs_astore [(5, .ref (G.2.2.2 + (88 + 3 * aN a))), (4, .ref (G.2.2.2 + (80 + 2 * k))), (0, .ref (G.2.2.2 + 0)), (1, .int (nI k)), (2, .int (nI i)), (3, .int (nI n))] dX9_series_62 rfl rfl rfl ?_
              refine vs_aload dX9_series_64 rfl 0 rfl ?_
              refine vs_ifnonnull 72 dX9_series_66 rfl ?_
              refine vs_aload_n 0 dX9_series_72 rfl rfl 2 rfl ?_
              refine vs_aload dX9_series_73 rfl 1 rfl ?_
              refine vs_iload_n 2 dX9_series_75 rfl rfl 4 rfl ?_
              refine vs_iload_n 3 dX9_series_76 rfl rfl 5 rfl ?_
              refine vs_iconst (v := 1) dX9_series_77 rfl rfl ?_
              refine vs_iadd dX9_series_78 rfl ?_
              refine vs_topi (fun z2 e_z2 => ?_)
              have f_z2 : z2 = nI (n + 1) := (by rw [e_z2]; exact nI_1 _)
              subst f_z2
              clear e_z2
              refine vs_aload dX9_series_79 rfl 0 rfl ?_
              refine vs_get (v := .ref (G.2.2.2 + (88 + 3 * aN a + 1))) lf_X9_149 (vs_Se_k hN).1 rfl dX9_series_81 rfl ?_
              refine vs_callV (st := []) (c_readTerms (vs_St_k hk) (vs_Se_k hN).2 cP gP1 gP2 (i := i) (n := n + 1) (by omega) (by omega) hnum) lk_X9_152 lm_X9_readTerms rfl rfl rfl rfl (Nat.le_of_ble_eq_true rfl) rfl ⟨rfl, rfl⟩ dX9_series_84 rfl ?_
              rw [rdk_c (w' := aW a k) (fun j hj => (show T1.2.2.1 (80 + 2 * k + 1) j = _ from by rw [F.2.2.1 _ (by simp)]; exact k4 j hj)) (show i + (n + 1) ≤ 60 by omega)]
              refine vs_gen (fun T2 e_T2 => ?_)
              have cP : T2.1 1 0 = nI (aP a) := by rw [e_T2]; repeat (first | exact cP | rw [vs_ia_ne (by omega)] | rw [vs_ia_1] | rw [vs_sc_ne (by omega)] | rw [vs_sc_nf (by omega)])
              have cN : T2.1 0 3 = nI (aN a) := by rw [e_T2]; repeat (first | exact cN | rw [vs_ia_ne (by omega)] | rw [vs_ia_1] | rw [vs_sc_ne (by omega)] | rw [vs_sc_nf (by omega)])
              have F : vs_fx S T2 [88 + 3 * aN a + 1 + 1] [(0, 3), (88 + 3 * aN a, 1)] [] := by rw [e_T2]; repeat (first | exact F | refine vs_fx.ia ?_ (by simp <;> omega) | refine vs_fx.sc ?_ (by simp <;> omega) | refine vs_fx.la ?_ (by simp <;> omega))
              have hlast : T2.1 (88 + 3 * aN a) 1 = nI n := by rw [e_T2]; repeat (first | exact hlast | rw [vs_ia_ne (by omega)] | rw [vs_ia_1] | rw [vs_sc_ne (by omega)] | rw [vs_sc_nf (by omega)])
              have hnum : pR T2 (88 + 3 * aN a + 1) (rdk (aW a k) (aP a) i (n + 1)) := ⟨by rw [e_T2]; repeat (first | exact vs_ia_at | rw [vs_ia_ne (by omega)]), (rdk_z (by omega))⟩
              clear e_T2
              refine vs_aload_n 0 dX9_series_87 rfl rfl 2 rfl ?_
              refine vs_callV (st := []) (c_keepFresh cN (by omega)) lk_X9_156 lm_X9_keepFresh rfl rfl rfl rfl (Nat.le_of_ble_eq_true rfl) rfl ⟨rfl, rfl⟩ dX9_series_88 rfl ?_
              show vs_V _ _ _ _ _ (.int (nI (aN a)) :: _) _
              refine vs_gen (fun T3 e_T3 => ?_)
              have cP : T3.1 1 0 = nI (aP a) := by rw [e_T3]; repeat (first | exact cP | rw [vs_ia_ne (by omega)] | rw [vs_ia_1] | rw [vs_sc_ne (by omega)] | rw [vs_sc_nf (by omega)])
              have F : vs_fx S T3 [88 + 3 * aN a + 1 + 1] [(0, 3), (88 + 3 * aN a, 1)] [] := by rw [e_T3]; repeat (first | exact F | refine vs_fx.ia ?_ (by simp <;> omega) | refine vs_fx.sc ?_ (by simp <;> omega) | refine vs_fx.la ?_ (by simp <;> omega))
              have hnum : pR T3 (88 + 3 * aN a + 1) (rdk (aW a k) (aP a) i (n + 1)) := ⟨by rw [e_T3]; repeat (first | exact hnum.1 | rw [vs_ia_ne (by omega)]), hnum.2⟩
              have hlast : T3.1 (88 + 3 * aN a) 1 = nI n := by rw [e_T3]; repeat (first | exact hlast | rw [vs_ia_ne (by omega)] | rw [vs_ia_1] | rw [vs_sc_ne (by omega)] | rw [vs_sc_nf (by omega)])
              have cN : T3.1 0 3 = nI (aN a + 1) := by rw [e_T3]; repeat (first | exact vs_ia_at | exact vs_sc_at | rw [vs_ia_ne (by omega)] | rw [vs_ia_1] | rw [vs_sc_ne (by omega)] | rw [vs_sc_nf (by omega)])
              clear e_T3
              exact vs_iretP dX9_series_91 (cpost (v := (aN a : Int)) (a' := s_se a n ((rdk (aW a k) (aP a) i (n + 1)))) (by unfold sp_series sp_kp; (try simp only [Int.toNat_natCast]); repeat (first | rw [if_pos (by omega)] | rw [if_neg (by omega)])) (by rw [nZ_n]) (CSt.se hC F hN cN hlast hnum (by simp <;> omega) (by simp) (by simp) (cJ.fx cJ0 F (by simp [scr] <;> omega))) (F.C (by simp <;> omega) (by simp <;> omega) (by simp)))
            · have hN10 : aN a = 10 := by omega
              rw [hN10] at cN
              refine vs_iload_n 3 dX9_series_58 rfl rfl 4 rfl ?_
              refine vs_callV (st := []) (c_freshNull cN) lk_X9_145 lm_X9_freshSeries rfl rfl rfl rfl (Nat.le_of_ble_eq_true rfl) rfl ⟨rfl, rfl⟩ dX9_series_59 rfl ?_
              show vs_V _ _ _ _ _ (.null :: _) _
              refine vs_astoreN [(5, .null), (4, .ref (G.2.2.2 + (80 + 2 * k))), (0, .ref (G.2.2.2 + 0)), (1, .int (nI k)), (2, .int (nI i)), (3, .int (nI n))] dX9_series_62 rfl rfl rfl ?_
              refine vs_aloadN dX9_series_64 rfl 0 rfl ?_
              refine vs_ifnonnullN dX9_series_66 rfl ?_
              refine vs_bipush (v := -104) dX9_series_69 rfl rfl ?_
              exact vs_iretP dX9_series_71 (cpost (v := -104) (a' := a) (by unfold sp_series sp_kp; (try simp only [Int.toNat_natCast]); repeat (first | rw [if_pos (by omega)] | rw [if_neg (by omega)])) rfl hC frC.rf)
        · rw [nn_is0] at c_48
          refine vs_aload_n 0 dX9_series_51 rfl rfl 1 rfl ?_
          refine vs_iconst (v := 2) dX9_series_52 rfl rfl ?_
          refine vs_callV (st := []) (c_caused (c := 2) (by decide) (by decide)) lk_X9_106 lm_X9_caused rfl rfl rfl rfl (Nat.le_of_ble_eq_true rfl) rfl ⟨rfl, rfl⟩ dX9_series_53 rfl ?_
          show vs_V _ _ _ _ _ (.int (nZ (-10 - ((2 : Nat) : Int))) :: _) _
          exact vs_iretP dX9_series_56 (cpost (v := -10 - ((2 : Nat) : Int)) (a' := s_cs a 2) (by unfold sp_series; (try simp only [Int.toNat_natCast]); (repeat (first | rw [if_pos (by omega)] | rw [if_neg (by omega)])); rfl) rfl (k_caused hC (by decide) (by decide)).1 (k_caused hC (by decide) (by decide)).2)
      · have q_30 : ¬ (((aLo a k) : Nat) : Int) = ((0 : Nat) : Int) := fun hh => c_30 ((qi_eq (nI_Z _) (by first | exact nI_Z _ | (simp only [fa_lit, nI_add, pk_mul, nI_1]; exact nI_Z _)) (by omega) (by omega) (by omega) (by omega)).mpr hh)
        refine vs_aload_n 0 dX9_series_33 rfl rfl 1 rfl ?_
        refine vs_iconst (v := 1) dX9_series_34 rfl rfl ?_
        refine vs_callV (st := []) (c_caused (c := 1) (by decide) (by decide)) lk_X9_106 lm_X9_caused rfl rfl rfl rfl (Nat.le_of_ble_eq_true rfl) rfl ⟨rfl, rfl⟩ dX9_series_35 rfl ?_
        show vs_V _ _ _ _ _ (.int (nZ (-10 - ((1 : Nat) : Int))) :: _) _
        exact vs_iretP dX9_series_38 (cpost (v := -10 - ((1 : Nat) : Int)) (a' := s_cs a 1) (by unfold sp_series; (try simp only [Int.toNat_natCast]); (repeat (first | rw [if_pos (by omega)] | rw [if_neg (by omega)])); rfl) rfl (k_caused hC (by decide) (by decide)).1 (k_caused hC (by decide) (by decide)).2)
    · rw [nn_is0] at c_19
      refine vs_bipush (v := -102) dX9_series_22 rfl rfl ?_
      exact vs_iretP dX9_series_24 (cpost (v := -102) (a' := a) (by unfold sp_series; (try simp only [Int.toNat_natCast]); repeat (first | rw [if_pos (by omega)] | rw [if_neg (by omega)])) rfl hC frC.rf)
  · refine vs_aload_n 0 dX9_series_0 rfl rfl 0 rfl ?_
    refine vs_iload_n 1 dX9_series_1 rfl rfl 1 rfl ?_
    refine vs_callV (st := []) (c_sheetNull hs1 hs2 hks) lk_X9_99 lm_X9_sheetNumbered rfl rfl rfl rfl (Nat.le_of_ble_eq_true rfl) rfl ⟨rfl, rfl⟩ dX9_series_2 rfl ?_
    show vs_V _ _ _ _ _ (.null :: _) _
    refine vs_astoreN [(4, .null), (0, .ref (G.2.2.2 + 0)), (1, .int (nZ s)), (2, .int (nZ i)), (3, .int (nZ n))] dX9_series_5 rfl rfl rfl ?_
    refine vs_aloadN dX9_series_7 rfl 0 rfl ?_
    refine vs_ifnonnullN dX9_series_9 rfl ?_
    refine vs_bipush (v := -101) dX9_series_12 rfl rfl ?_
    exact vs_iretP dX9_series_14 (cpost (v := -101) (a' := a) (by unfold sp_series; (try simp only [Int.toNat_natCast]); repeat (first | rw [if_pos (by omega)] | rw [if_neg (by omega)])) rfl hC frC.rf)

theorem k_share {G : vv_G} {S : vs_S} {a : aS} (hC : CSt S a) (hG : aG a) {s : Int} (hs1 : -2147483648 ≤ s) (hs2 : s < 2147483648) {i : Int} (hi1 : -2147483648 ≤ i) (hi2 : i < 2147483648) {l : Int} (hl1 : -2147483648 ≤ l) (hl2 : l < 2147483648) {m : Int} (hm1 : -2147483648 ≤ m) (hm2 : m < 2147483648) {n : Int} (hn1 : -2147483648 ≤ n) (hn2 : n < 2147483648) : vs_CP G yX9_share cX9_share 7 (some .int) { frames := 4, locals := 100 } [.ref (G.2.2.2 + 0), .int (nZ s), .int (nZ i), .int (nZ l), .int (nZ m), .int (nZ n)] S (fun r S2 => r = some (.int (nZ (sp_share a s i l m n).1)) ∧ CSt S2 (sp_share a s i l m n).2 ∧ frC S S2) := by
  refine vs_ofP [(0, .ref (G.2.2.2 + 0)), (1, .int (nZ s)), (2, .int (nZ i)), (3, .int (nZ l)), (4, .int (nZ m)), (5, .int (nZ n))] (by decide) rfl rfl ?_
  have hG0 := hG
  obtain ⟨⟨cP, cN, cH⟩, ⟨cX, cY⟩, ⟨cA, cB⟩, cSe, cJs, cSh, ⟨cK0, cK⟩, ⟨cR1, cR2, cD⟩, cJ0⟩ := id hC
  obtain ⟨gP, gP2, gN, gH, gSe, gSh, gXY, gB31, gInj, gA, gB, gAz, gBz⟩ := hG
  have gP1 := gP.1
  obtain ⟨g13, h13⟩ := cJ0 13 (by simp)
  obtain ⟨g15, h15⟩ := cJ0 15 (by simp)
  have F : vs_fx S S [14, 16] [] [] := vs_fx.rf
  by_cases hks : 0 ≤ s ∧ s < 4
  · obtain ⟨k, rfl⟩ : ∃ k : Nat, s = k := ⟨s.toNat, by omega⟩
    rw [nZ_n]
    have hk : k < 4 := by omega
    obtain ⟨k1, k2, k3, k4⟩ := cSh k hk
    obtain ⟨k5, k6, k7⟩ := gSh k hk
    have k8 : (((k : Nat) : Int)).toNat = k := by omega
    refine vs_aload_n 0 dX9_share_0 rfl rfl 0 rfl ?_
    refine vs_iload_n 1 dX9_share_1 rfl rfl 1 rfl ?_
    refine vs_callV (st := []) (c_sheetNo hk (cR1 k hk)) lk_X9_99 lm_X9_sheetNumbered rfl rfl rfl rfl (Nat.le_of_ble_eq_true rfl) rfl ⟨rfl, rfl⟩ dX9_share_2 rfl ?_
    show vs_V _ _ _ _ _ (.ref (G.2.2.2 + (80 + 2 * k)) :: _) _
    refine vs_astore [(6, .ref (G.2.2.2 + (80 + 2 * k))), (0, .ref (G.2.2.2 + 0)), (1, .int (nI k)), (2, .int (nZ i)), (3, .int (nZ l)), (4, .int (nZ m)), (5, .int (nZ n))] dX9_share_5 rfl rfl rfl ?_
    refine vs_aload dX9_share_7 rfl 0 rfl ?_
    refine vs_ifnonnull 15 dX9_share_9 rfl ?_
    refine vs_iload_n 3 dX9_share_15 rfl rfl 4 rfl ?_
    refine vs_callS (st := []) (c_isLength hl1 hl2) lk_X9_142 lm_X9_isLength rfl rfl (Nat.le_of_ble_eq_true rfl) rfl ⟨rfl, rfl⟩ dX9_share_16 rfl ?_
    show vs_V _ _ _ _ _ (.int ((if 0 ≤ l ∧ l ≤ 40 then 1 else 0)) :: _) _
    refine vs_if_eq 38 dX9_share_19 rfl rfl (fun c_19 => ?_) (fun c_19 => ?_)
    · rw [nn_is0] at c_19
      refine vs_bipush (v := -102) dX9_share_38 rfl rfl ?_
      exact vs_iretP dX9_share_40 (cpost (v := -102) (a' := a) (by unfold sp_share; (try simp only [Int.toNat_natCast]); repeat (first | rw [if_pos (by omega)] | rw [if_neg (by omega)])) rfl hC frC.rf)
    · rw [nn_is0, Classical.not_not] at c_19
      refine vs_iload dX9_share_22 rfl 5 rfl ?_
      refine vs_callS (st := []) (c_isLength hm1 hm2) lk_X9_142 lm_X9_isLength rfl rfl (Nat.le_of_ble_eq_true rfl) rfl ⟨rfl, rfl⟩ dX9_share_24 rfl ?_
      show vs_V _ _ _ _ _ (.int ((if 0 ≤ m ∧ m ≤ 40 then 1 else 0)) :: _) _
      refine vs_if_eq 38 dX9_share_27 rfl rfl (fun c_27 => ?_) (fun c_27 => ?_)
      · rw [nn_is0] at c_27
        refine vs_bipush (v := -102) dX9_share_38 rfl rfl ?_
        exact vs_iretP dX9_share_40 (cpost (v := -102) (a' := a) (by unfold sp_share; (try simp only [Int.toNat_natCast]); repeat (first | rw [if_pos (by omega)] | rw [if_neg (by omega)])) rfl hC frC.rf)
      · rw [nn_is0, Classical.not_not] at c_27
        refine vs_iload dX9_share_30 rfl 6 rfl ?_
        refine vs_callS (st := []) (c_isLength hn1 hn2) lk_X9_142 lm_X9_isLength rfl rfl (Nat.le_of_ble_eq_true rfl) rfl ⟨rfl, rfl⟩ dX9_share_32 rfl ?_
        show vs_V _ _ _ _ _ (.int ((if 0 ≤ n ∧ n ≤ 40 then 1 else 0)) :: _) _
        refine vs_if_ne 41 dX9_share_35 rfl rfl (fun c_35 => ?_) (fun c_35 => ?_)
        · rw [nn_is0, Classical.not_not] at c_35
          refine vs_aload dX9_share_41 rfl 0 rfl ?_
          refine vs_get (v := .int (nI (aLo a k))) lf_X9_114 (vs_St_k hk).1 (congrArg (fun z => some (Value.int z)) k1) dX9_share_43 rfl ?_
          refine vs_if_eq 55 dX9_share_46 rfl rfl (fun c_46 => ?_) (fun c_46 => ?_)
          · have q_46 : (((aLo a k) : Nat) : Int) = ((0 : Nat) : Int) := (qi_eq (nI_Z _) (by first | exact nI_Z _ | (simp only [fa_lit, nI_add, pk_mul, nI_1]; exact nI_Z _)) (by omega) (by omega) (by omega) (by omega)).mp c_46
            refine vs_aload dX9_share_55 rfl 0 rfl ?_
            refine vs_iload_n 2 dX9_share_57 rfl rfl 3 rfl ?_
            refine vs_iload_n 3 dX9_share_58 rfl rfl 4 rfl ?_
            refine vs_iload dX9_share_59 rfl 5 rfl ?_
            refine vs_iadd dX9_share_61 rfl ?_
            refine vs_iconst (v := 2) dX9_share_62 rfl rfl ?_
            refine vs_iadd dX9_share_63 rfl ?_
            refine vs_topi (fun z1 e_z1 => ?_)
            have f_z1 : z1 = nZ (l + m + 2) := (by rw [e_z1, nZ_add]; exact nZ_add (l + m) 2)
            subst f_z1
            clear e_z1
            refine vs_callV (st := []) (c_hasPl (vs_St_k hk) k3 k7 (x := i) (y := l + m + 2) hi1 hi2 (by omega) (by omega)) lk_X9_121 lm_X8_hasPlaces rfl (vs_St_k hk).1 rfl rfl (Nat.le_of_ble_eq_true rfl) rfl ⟨rfl, rfl⟩ dX9_share_64 rfl ?_
            show vs_V _ _ _ _ _ (.int ((if 0 ≤ l + m + 2 ∧ 0 ≤ i ∧ i + (l + m + 2) ≤ (aSz a k : Int) then 1 else 0)) :: _) _
            refine vs_if_ne 76 dX9_share_67 rfl rfl (fun c_67 => ?_) (fun c_67 => ?_)
            · rw [nn_is0, Classical.not_not] at c_67
              skip
              · obtain ⟨i, rfl⟩ : ∃ z0 : Nat, i = z0 := ⟨i.toNat, by omega⟩
                obtain ⟨l, rfl⟩ : ∃ z0 : Nat, l = z0 := ⟨l.toNat, by omega⟩
                obtain ⟨m, rfl⟩ : ∃ z0 : Nat, m = z0 := ⟨m.toNat, by omega⟩
                obtain ⟨n, rfl⟩ : ∃ z0 : Nat, n = z0 := ⟨n.toNat, by omega⟩
                rw [nZ_n i, nZ_n l, nZ_n m, nZ_n n]
                refine vs_aload_n 0 dX9_share_76 rfl rfl 1 rfl ?_
                refine vs_aload dX9_share_77 rfl 0 rfl ?_
                refine vs_iload_n 2 dX9_share_79 rfl rfl 3 rfl ?_
                refine vs_iload_n 3 dX9_share_80 rfl rfl 4 rfl ?_
                refine vs_iconst (v := 1) dX9_share_81 rfl rfl ?_
                refine vs_iadd dX9_share_82 rfl ?_
                refine vs_topi (fun z2 e_z2 => ?_)
                have f_z2 : z2 = nI (l + 1) := (by rw [e_z2]; exact nI_1 _)
                subst f_z2
                clear e_z2
                refine vs_aload_n 0 dX9_share_83 rfl rfl 1 rfl ?_
                refine vs_get (v := .ref (G.2.2.2 + 12)) lf_X9_46 rfl rfl dX9_share_84 rfl ?_
                refine vs_get (v := .ref (G.2.2.2 + 13)) lf_X9_160 rfl rfl dX9_share_87 rfl ?_
                refine vs_callV (st := []) (c_readTerms (t := 13) (vs_St_k hk) ⟨rfl, rfl⟩ cP gP1 gP2 (i := i) (n := l + 1) (by omega) (by omega) h13) lk_X9_152 lm_X9_readTerms rfl rfl rfl rfl (Nat.le_of_ble_eq_true rfl) rfl ⟨rfl, rfl⟩ dX9_share_90 rfl ?_
                rw [rdk_c (w' := aW a k) k4 (show i + (l + 1) ≤ 60 by omega)]
                refine vs_gen (fun T1 e_T1 => ?_)
                have cP : T1.1 1 0 = nI (aP a) := by rw [e_T1]; repeat (first | exact cP | rw [vs_ia_ne (by omega)] | rw [vs_ia_1] | rw [vs_sc_ne (by omega)] | rw [vs_sc_nf (by omega)])
                have h15 : pR T1 15 g15 := ⟨by rw [e_T1]; repeat (first | exact h15.1 | rw [vs_ia_ne (by omega)]), h15.2⟩
                have F : vs_fx S T1 [14, 16] [] [] := by rw [e_T1]; repeat (first | exact F | refine vs_fx.ia ?_ (by simp <;> omega) | refine vs_fx.sc ?_ (by simp <;> omega) | refine vs_fx.la ?_ (by simp <;> omega))
                have h13 : pR T1 13 (rdk (aW a k) (aP a) i (l + 1)) := ⟨by rw [e_T1]; repeat (first | exact vs_ia_at | rw [vs_ia_ne (by omega)]), (rdk_z (by omega))⟩
                clear e_T1
                refine vs_aload_n 0 dX9_share_93 rfl rfl 1 rfl ?_
                refine vs_aload dX9_share_94 rfl 0 rfl ?_
                refine vs_iload_n 2 dX9_share_96 rfl rfl 3 rfl ?_
                refine vs_iload_n 3 dX9_share_97 rfl rfl 4 rfl ?_
                refine vs_iadd dX9_share_98 rfl ?_
                refine vs_iconst (v := 1) dX9_share_99 rfl rfl ?_
                refine vs_iadd dX9_share_100 rfl ?_
                refine vs_topi (fun z3 e_z3 => ?_)
                have f_z3 : z3 = nI (i + l + 1) := (by rw [e_z3]; simp only [fa_lit, nI_add])
                subst f_z3
                clear e_z3
                refine vs_iload dX9_share_101 rfl 5 rfl ?_
                refine vs_iconst (v := 1) dX9_share_103 rfl rfl ?_
                refine vs_iadd dX9_share_104 rfl ?_
                refine vs_topi (fun z4 e_z4 => ?_)
                have f_z4 : z4 = nI (m + 1) := (by rw [e_z4]; exact nI_1 _)
                subst f_z4
                clear e_z4
                refine vs_aload_n 0 dX9_share_105 rfl rfl 1 rfl ?_
                refine vs_get (v := .ref (G.2.2.2 + 12)) lf_X9_46 rfl rfl dX9_share_106 rfl ?_
                refine vs_get (v := .ref (G.2.2.2 + 15)) lf_X9_163 rfl rfl dX9_share_109 rfl ?_
                refine vs_callV (st := []) (c_readTerms (t := 15) (vs_St_k hk) ⟨rfl, rfl⟩ cP gP1 gP2 (i := i + l + 1) (n := m + 1) (by omega) (by omega) h15) lk_X9_152 lm_X9_readTerms rfl rfl rfl rfl (Nat.le_of_ble_eq_true rfl) rfl ⟨rfl, rfl⟩ dX9_share_112 rfl ?_
                rw [rdk_c (w' := aW a k) (fun j hj => (show T1.2.2.1 (80 + 2 * k + 1) j = _ from by rw [F.2.2.1 _ (by simp)]; exact k4 j hj)) (show i + l + 1 + (m + 1) ≤ 60 by omega)]
                refine vs_gen (fun T2 e_T2 => ?_)
                have cP : T2.1 1 0 = nI (aP a) := by rw [e_T2]; repeat (first | exact cP | rw [vs_ia_ne (by omega)] | rw [vs_ia_1] | rw [vs_sc_ne (by omega)] | rw [vs_sc_nf (by omega)])
                have h13 : pR T2 13 (rdk (aW a k) (aP a) i (l + 1)) := ⟨by rw [e_T2]; repeat (first | exact h13.1 | rw [vs_ia_ne (by omega)]), h13.2⟩
                have F : vs_fx S T2 [14, 16] [] [] := by rw [e_T2]; repeat (first | exact F | refine vs_fx.ia ?_ (by simp <;> omega) | refine vs_fx.sc ?_ (by simp <;> omega) | refine vs_fx.la ?_ (by simp <;> omega))
                have h15 : pR T2 15 (rdk (aW a k) (aP a) (i + l + 1) (m + 1)) := ⟨by rw [e_T2]; repeat (first | exact vs_ia_at | rw [vs_ia_ne (by omega)]), (rdk_z (by omega))⟩
                clear e_T2
                have hC1 : CSt T2 a := CSt.sr hC F (by simp [scr]) (by simp) (by simp) (fun o ho => by simp at ho; rcases ho with rfl | rfl | ho; exact ⟨_, h13⟩; exact ⟨_, h15⟩; exact F.j (by simp <;> omega) (cJ0 o (by simp; omega)))
                have hf1 : frC S T2 := F.C (by simp) (by simp) (by simp)
                refine vs_aload_n 0 dX9_share_115 rfl rfl 1 rfl ?_
                refine vs_aload_n 0 dX9_share_116 rfl rfl 1 rfl ?_
                refine vs_get (v := .ref (G.2.2.2 + 12)) lf_X9_46 rfl rfl dX9_share_117 rfl ?_
                refine vs_iload dX9_share_120 rfl 6 rfl ?_
                refine vs_callVP (st := []) (k_ku (o := 12) hC1 hG0 ⟨rfl, ⟨rfl, rfl⟩, ⟨rfl, rfl⟩⟩ (by decide) h13 h15 (rdk_b (by omega)) (rdk_b (by omega)) (n := n) (by omega)) lk_X9_166 lm_X9_keepUnfolded rfl rfl rfl rfl (Nat.le_of_ble_eq_true rfl) rfl ⟨rfl, rfl⟩ dX9_share_122 rfl (fun rr S1 hh => ?_)
                obtain ⟨rfl, hC2, hf2⟩ := hh
                show vs_V _ _ _ _ _ (.int (nZ ((sp_ku a (rdk (aW a k) (aP a) i (l + 1)) (rdk (aW a k) (aP a) (i + l + 1) (m + 1)) n).1)) :: _) _
                have hsp : sp_share a k i l m n = sp_ku a (rdk (aW a k) (aP a) i (l + 1)) (rdk (aW a k) (aP a) (i + l + 1) (m + 1)) n := (by unfold sp_share; (try simp only [Int.toNat_natCast]); repeat (first | rw [if_pos (by omega)] | rw [if_neg (by omega)]))
                exact vs_iretP dX9_share_125 (by rw [hsp]; exact ⟨rfl, hC2, hf1.tr hf2⟩)
            · rw [nn_is0] at c_67
              refine vs_aload_n 0 dX9_share_70 rfl rfl 1 rfl ?_
              refine vs_iconst (v := 2) dX9_share_71 rfl rfl ?_
              refine vs_callV (st := []) (c_caused (c := 2) (by decide) (by decide)) lk_X9_106 lm_X9_caused rfl rfl rfl rfl (Nat.le_of_ble_eq_true rfl) rfl ⟨rfl, rfl⟩ dX9_share_72 rfl ?_
              show vs_V _ _ _ _ _ (.int (nZ (-10 - ((2 : Nat) : Int))) :: _) _
              exact vs_iretP dX9_share_75 (cpost (v := -10 - ((2 : Nat) : Int)) (a' := s_cs a 2) (by unfold sp_share; (try simp only [Int.toNat_natCast]); (repeat (first | rw [if_pos (by omega)] | rw [if_neg (by omega)])); rfl) rfl (k_caused hC (by decide) (by decide)).1 (k_caused hC (by decide) (by decide)).2)
          · have q_46 : ¬ (((aLo a k) : Nat) : Int) = ((0 : Nat) : Int) := fun hh => c_46 ((qi_eq (nI_Z _) (by first | exact nI_Z _ | (simp only [fa_lit, nI_add, pk_mul, nI_1]; exact nI_Z _)) (by omega) (by omega) (by omega) (by omega)).mpr hh)
            refine vs_aload_n 0 dX9_share_49 rfl rfl 1 rfl ?_
            refine vs_iconst (v := 1) dX9_share_50 rfl rfl ?_
            refine vs_callV (st := []) (c_caused (c := 1) (by decide) (by decide)) lk_X9_106 lm_X9_caused rfl rfl rfl rfl (Nat.le_of_ble_eq_true rfl) rfl ⟨rfl, rfl⟩ dX9_share_51 rfl ?_
            show vs_V _ _ _ _ _ (.int (nZ (-10 - ((1 : Nat) : Int))) :: _) _
            exact vs_iretP dX9_share_54 (cpost (v := -10 - ((1 : Nat) : Int)) (a' := s_cs a 1) (by unfold sp_share; (try simp only [Int.toNat_natCast]); (repeat (first | rw [if_pos (by omega)] | rw [if_neg (by omega)])); rfl) rfl (k_caused hC (by decide) (by decide)).1 (k_caused hC (by decide) (by decide)).2)
        · rw [nn_is0] at c_35
          refine vs_bipush (v := -102) dX9_share_38 rfl rfl ?_
          exact vs_iretP dX9_share_40 (cpost (v := -102) (a' := a) (by unfold sp_share; (try simp only [Int.toNat_natCast]); repeat (first | rw [if_pos (by omega)] | rw [if_neg (by omega)])) rfl hC frC.rf)
  · refine vs_aload_n 0 dX9_share_0 rfl rfl 0 rfl ?_
    refine vs_iload_n 1 dX9_share_1 rfl rfl 1 rfl ?_
    refine vs_callV (st := []) (c_sheetNull hs1 hs2 hks) lk_X9_99 lm_X9_sheetNumbered rfl rfl rfl rfl (Nat.le_of_ble_eq_true rfl) rfl ⟨rfl, rfl⟩ dX9_share_2 rfl ?_
    show vs_V _ _ _ _ _ (.null :: _) _
    refine vs_astoreN [(6, .null), (0, .ref (G.2.2.2 + 0)), (1, .int (nZ s)), (2, .int (nZ i)), (3, .int (nZ l)), (4, .int (nZ m)), (5, .int (nZ n))] dX9_share_5 rfl rfl rfl ?_
    refine vs_aloadN dX9_share_7 rfl 0 rfl ?_
    refine vs_ifnonnullN dX9_share_9 rfl ?_
    refine vs_bipush (v := -101) dX9_share_12 rfl rfl ?_
    exact vs_iretP dX9_share_14 (cpost (v := -101) (a' := a) (by unfold sp_share; (try simp only [Int.toNat_natCast]); repeat (first | rw [if_pos (by omega)] | rw [if_neg (by omega)])) rfl hC frC.rf)

