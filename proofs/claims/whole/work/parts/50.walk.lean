theorem law_loop {G : vv_G} {b L : Nat} {xs : Nat → Int32} {nm : String} {cells slots : Nat} (hL : L ≤ 3072) (hfc : cells ≤ 600000) (hfs : slots ≤ 7302250) : ∀ (d i : Nat), L + 1 ≤ i + d → i ≤ L + 6 → ∀ (S : vs_S) (a : aS), aG a → CSt S a → MSt S a → lV G b L xs nm cells slots 18 i [] S := by
  have top : ∀ (i : Nat), i ≤ L + 6 → ∀ S : vs_S, (i + 6 ≤ L → lV G b L xs nm cells slots 27 i [] S) → lV G b L xs nm cells slots 18 i [] S := by
    intro i hi S k
    have key : (nI L - 6 < nI i) ↔ ((L : Int) - 6 < i) := by
      rw [nI_Z L, nI_Z i, show (6 : Int32) = nZ 6 from rfl, nZ_sub]
      exact nZ_lt (by omega) (by omega) (by omega) (by omega)
    refine vv_iload_n 3 dL_law_18 rfl rfl 0 rfl ?_
    refine vv_aload_n 0 dL_law_19 rfl rfl 1 rfl ?_
    refine lL_len dL_law_20 rfl ?_
    refine vv_bipush (v := 6) dL_law_21 rfl rfl ?_
    refine vv_isub dL_law_23 rfl ?_
    refine vv_icmp_gt 1175 dL_law_24 rfl rfl (fun _ => ?_) (fun c => ?_)
    · refine vv_iconst (v := 1) dL_law_1175 rfl rfl ?_
      exact lL_ret dL_law_1176 hfc hfs
    · have h9 : ¬ ((L : Int) - 6 < i) := fun z => c (key.mpr z)
      exact k (by omega)
  intro d
  induction d with
  | zero =>
    intro i h1 h2 S a hG hC hM
    exact top i h2 S (fun h3 => absurd h3 (by omega))
  | succ d ih =>
    intro i h1 h2 S a hG hC hM
    refine top i h2 S (fun hi => ?_)
    have kk : ∀ (S' : vs_S) (a' : aS), aG a' → CSt S' a' → MSt S' a' → lV G b L xs nm cells slots 18 (i + 6) [] S' := fun S' a' g1 g2 g3 => ih (i + 6) (by omega) (by omega) S' a' g1 g2 g3
    refine vv_aload_n 0 dL_law_27 rfl rfl 1 rfl ?_
    refine vv_iload_n 3 dL_law_28 rfl rfl 0 rfl ?_
    refine lL_ld (k := i) rfl (by omega) hL dL_law_29 rfl ?_
    refine vv_bipush (v := 31) dL_law_30 rfl rfl ?_
    refine vv_iand dL_law_32 rfl ?_
    obtain ⟨k, hk, he⟩ := z_31 (nZ (xs i).toInt)
    rw [he]
    match k, hk with
    | 0, _ => exact vv_tabIn (off := 135) 168 dL_law_33 (by decide) (by decide) rfl rfl (law_prime hi hL hfc hfs hG hC hM kk)
    | 1, _ => exact vv_tabIn (off := 158) 191 dL_law_33 (by decide) (by decide) rfl rfl (law_sheet hi hL hfc hfs hG hC hM kk)
    | 2, _ => exact vv_tabIn (off := 201) 234 dL_law_33 (by decide) (by decide) rfl rfl (law_put hi hL hfc hfs hG hC hM kk)
    | 3, _ => exact vv_tabIn (off := 284) 317 dL_law_33 (by decide) (by decide) rfl rfl (law_copy hi hL hfc hfs hG hC hM kk)
    | 4, _ => exact vv_tabIn (off := 347) 380 dL_law_33 (by decide) (by decide) rfl rfl (law_lose hi hL hfc hfs hG hC hM kk)
    | 5, _ => exact vv_tabIn (off := 370) 403 dL_law_33 (by decide) (by decide) rfl rfl (law_series hi hL hfc hfs hG hC hM kk)
    | 6, _ => exact vv_tabIn (off := 413) 446 dL_law_33 (by decide) (by decide) rfl rfl (law_share hi hL hfc hfs hG hC hM kk)
    | 7, _ => exact vv_tabIn (off := 476) 509 dL_law_33 (by decide) (by decide) rfl rfl (law_unfold hi hL hfc hfs hG hC hM kk)
    | 8, _ => exact vv_tabIn (off := 499) 532 dL_law_33 (by decide) (by decide) rfl rfl (law_plus hi hL hfc hfs hG hC hM kk)
    | 9, _ => exact vv_tabIn (off := 542) 575 dL_law_33 (by decide) (by decide) rfl rfl (law_times hi hL hfc hfs hG hC hM kk)
    | 10, _ => exact vv_tabIn (off := 575) 608 dL_law_33 (by decide) (by decide) rfl rfl (law_under hi hL hfc hfs hG hC hM kk)
    | 11, _ => exact vv_tabIn (off := 598) 631 dL_law_33 (by decide) (by decide) rfl rfl (law_moved hi hL hfc hfs hG hC hM kk)
    | 12, _ => exact vv_tabIn (off := 641) 674 dL_law_33 (by decide) (by decide) rfl rfl (law_number hi hL hfc hfs hG hC hM kk)
    | 13, _ => exact vv_tabIn (off := 674) 707 dL_law_33 (by decide) (by decide) rfl rfl (law_length hi hL hfc hfs hG hC hM kk)
    | 14, _ => exact vv_tabIn (off := 697) 730 dL_law_33 (by decide) (by decide) rfl rfl (law_clear hi hL hfc hfs hG hC hM kk)
    | 15, _ => exact vv_tabIn (off := 710) 743 dL_law_33 (by decide) (by decide) rfl rfl (law_entry hi hL hfc hfs hG hC hM kk)
    | 16, _ => exact vv_tabIn (off := 753) 786 dL_law_33 (by decide) (by decide) rfl rfl (law_worth hi hL hfc hfs hG hC hM kk)
    | 17, _ => exact vv_tabIn (off := 796) 829 dL_law_33 (by decide) (by decide) rfl rfl (law_block hi hL hfc hfs hG hC hM kk)
    | 18, _ => exact vv_tabIn (off := 849) 882 dL_law_33 (by decide) (by decide) rfl rfl (law_stair hi hL hfc hfs hG hC hM kk)
    | 19, _ => exact vv_tabIn (off := 882) 915 dL_law_33 (by decide) (by decide) rfl rfl (law_recur hi hL hfc hfs hG hC hM kk)
    | 20, _ => exact vv_tabIn (off := 905) 938 dL_law_33 (by decide) (by decide) rfl rfl (law_point hi hL hfc hfs hG hC hM kk)
    | 21, _ => exact vv_tabIn (off := 938) 971 dL_law_33 (by decide) (by decide) rfl rfl (law_wipe hi hL hfc hfs hG hC hM kk)
    | 22, _ => exact vv_tabIn (off := 951) 984 dL_law_33 (by decide) (by decide) rfl rfl (law_join hi hL hfc hfs hG hC hM kk)
    | 23, _ => exact vv_tabIn (off := 984) 1017 dL_law_33 (by decide) (by decide) rfl rfl (law_degree hi hL hfc hfs hG hC hM kk)
    | 24, _ => exact vv_tabIn (off := 1007) 1040 dL_law_33 (by decide) (by decide) rfl rfl (law_term hi hL hfc hfs hG hC hM kk)
    | 25, _ => exact vv_tabIn (off := 1040) 1073 dL_law_33 (by decide) (by decide) rfl rfl (law_value hi hL hfc hfs hG hC hM kk)
    | 26, _ => exact vv_tabIn (off := 1063) 1096 dL_law_33 (by decide) (by decide) rfl rfl (law_cause hi hL hfc hfs hG hC hM kk)
    | 27, _ => exact vv_tabIn (off := 1076) 1109 dL_law_33 (by decide) (by decide) rfl rfl (law_causes hi hL hfc hfs hG hC hM kk)
    | 28, _ => exact vv_tabIn (off := 1099) 1132 dL_law_33 (by decide) (by decide) rfl rfl (law_count hi hL hfc hfs hG hC hM kk)
    | 29, _ => exact vv_tabIn (off := 1122) 1155 dL_law_33 (by decide) (by decide) rfl rfl (law_digest hi hL hfc hfs hG hC hM kk)
    | 30, _ => exact vv_tabOut 1169 dL_law_33 (Or.inr (by decide)) rfl (lL_fin kk hM hC (fun o _ => ⟨rfl, rfl, rfl, rfl⟩) hG)
    | 31, _ => exact vv_tabOut 1169 dL_law_33 (Or.inr (by decide)) rfl (lL_fin kk hM hC (fun o _ => ⟨rfl, rfl, rfl, rfl⟩) hG)
    | k + 32, h => exact absurd h (by omega)
/-- the classes, as the tables have them -/
theorem z_K {s : State} {args : Array Value} (hts : ∀ w ∈ lw_tbl, w.before args s = true) : ∃ (D : va_G) (cA : Nat → ClassId), va_K D vv_cl (vv_ty cA) s := by
  have hg : ∀ w ∈ vv_gd, w.before args s = true := fun w hw => hts w (List.mem_filter.mp hw).1
  have ha : ∀ w ∈ vv_aw, w.before args s = true := fun w hw => hts w (List.mem_filter.mp hw).1
  have key : ∀ k : Nat, ∃ (cC : ClassId) (iS : Nat → Nat), ∀ r : vw_C, vv_cl[k]? = some r → u_Kn s r.1 r.2.1 r.2.2 cC iS := by
    intro k
    match k with
    | 0 => obtain ⟨c, i, h⟩ := u_known (C := RX0) (T := TX0) (N := 1) (n := 1) hg vw_in0 (hg _ (vv_g 119 (by decide +kernel) rfl)); exact ⟨c, i, fun r hr => by cases (show some (RX0, TX0, 1) = some r from hr); exact h⟩
    | 1 => obtain ⟨c, i, h⟩ := u_known (C := RX1) (T := TX1) (N := 5) (n := 5) hg vw_in1 (hg _ (vv_g 93 (by decide +kernel) rfl)); exact ⟨c, i, fun r hr => by cases (show some (RX1, TX1, 5) = some r from hr); exact h⟩
    | 2 => obtain ⟨c, i, h⟩ := u_known (C := RX2) (T := TX2) (N := 3) (n := 3) hg vw_in2 (hg _ (vv_g 39 (by decide +kernel) rfl)); exact ⟨c, i, fun r hr => by cases (show some (RX2, TX2, 3) = some r from hr); exact h⟩
    | 3 => obtain ⟨c, i, h⟩ := u_known (C := RX3) (T := TX3) (N := 1) (n := 1) hg vw_in3 (hg _ (vv_g 63 (by decide +kernel) rfl)); exact ⟨c, i, fun r hr => by cases (show some (RX3, TX3, 1) = some r from hr); exact h⟩
    | 4 => obtain ⟨c, i, h⟩ := u_known (C := RX4) (T := TX4) (N := 3) (n := 3) hg vw_in4 (hg _ (vv_g 131 (by decide +kernel) rfl)); exact ⟨c, i, fun r hr => by cases (show some (RX4, TX4, 3) = some r from hr); exact h⟩
    | 5 => obtain ⟨c, i, h⟩ := u_known (C := RX5) (T := TX5) (N := 1) (n := 1) hg vw_in5 (hg _ (vv_g 24 (by decide +kernel) rfl)); exact ⟨c, i, fun r hr => by cases (show some (RX5, TX5, 1) = some r from hr); exact h⟩
    | 6 => obtain ⟨c, i, h⟩ := u_known (C := RX6) (T := TX6) (N := 2) (n := 2) hg vw_in6 (hg _ (vv_g 173 (by decide +kernel) rfl)); exact ⟨c, i, fun r hr => by cases (show some (RX6, TX6, 2) = some r from hr); exact h⟩
    | 7 => obtain ⟨c, i, h⟩ := u_known (C := RX7) (T := TX7) (N := 2) (n := 2) hg vw_in7 (hg _ (vv_g 57 (by decide +kernel) rfl)); exact ⟨c, i, fun r hr => by cases (show some (RX7, TX7, 2) = some r from hr); exact h⟩
    | 8 => obtain ⟨c, i, h⟩ := u_known (C := RX8) (T := TX8) (N := 4) (n := 4) hg vw_in8 (hg _ (vv_g 150 (by decide +kernel) rfl)); exact ⟨c, i, fun r hr => by cases (show some (RX8, TX8, 4) = some r from hr); exact h⟩
    | 9 => obtain ⟨c, i, h⟩ := u_known (C := RX9) (T := TX9) (N := 13) (n := 13) hg vw_in9 (hg _ (vv_g 16 (by decide +kernel) rfl)); exact ⟨c, i, fun r hr => by cases (show some (RX9, TX9, 13) = some r from hr); exact h⟩
    | 10 => obtain ⟨c, i, h⟩ := u_known (C := RX10) (T := TX10) (N := 31) (n := 31) hg vw_in10 (hg _ (vv_g 634 (by decide +kernel) rfl)); exact ⟨c, i, fun r hr => by cases (show some (RX10, TX10, 31) = some r from hr); exact h⟩
    | k + 11 => exact ⟨0, fun _ => 0, fun r hr => absurd hr (by simp [vv_cl])⟩
  obtain ⟨c0, k0, p0, f0, g0, h0⟩ := Cond.arrayClass_spec (hg _ (vv_g 55 (by decide +kernel) rfl : Cond.arrayClass .int ∈ vv_gd))
  obtain ⟨c1, k1, p1, f1, g1, h1⟩ := Cond.arrayClass_spec (hg _ (vv_g 172 (by decide +kernel) rfl : Cond.arrayClass .long ∈ vv_gd))
  obtain ⟨p2, c2, k2, f2, -, g2, h2, m2⟩ := Cond.arrayOver_spec (ha _ (vv_aw_of (vv_tb 35 rfl) rfl : Cond.arrayOver (.object RX8) ∈ vv_aw))
  obtain ⟨p3, c3, k3, f3, -, g3, h3, m3⟩ := Cond.arrayOver_spec (ha _ (vv_aw_of (vv_tb 37 rfl) rfl : Cond.arrayOver (.object RX6) ∈ vv_aw))
  obtain ⟨p4, c4, k4, f4, -, g4, h4, m4⟩ := arrayOverA_spec (ha _ vv_aoI)
  refine ⟨(fun k => Classical.choose (key k), fun k => Classical.choose (Classical.choose_spec (key k))), fun k => if k = 0 then c0 else if k = 1 then c1 else if k = 2 then c2 else if k = 3 then c3 else c4, fun k r hr => Classical.choose_spec (Classical.choose_spec (key k)) r hr, fun k r hr => ?_⟩
  match k, hr with
  | 0, hr => cases (show some (c0, FieldType.int) = some r from hr); exact ⟨fun n z => ⟨fun k h => (by cases h), k0, g0, p0, h0⟩, f0⟩
  | 1, hr => cases (show some (c1, FieldType.long) = some r from hr); exact ⟨fun n z => ⟨fun k h => (by cases h), k1, g1, p1, h1⟩, f1⟩
  | 2, hr => cases (show some (c2, FieldType.object RX8) = some r from hr); exact ⟨fun n z => ⟨fun k h => (by cases h), k2, g2, p2, h2⟩, k2, p2, g2, h2, f2, m2⟩
  | 3, hr => cases (show some (c3, FieldType.object RX6) = some r from hr); exact ⟨fun n z => ⟨fun k h => (by cases h), k3, g3, p3, h3⟩, k3, p3, g3, h3, f3, m3⟩
  | 4, hr => cases (show some (c4, FieldType.array .int) = some r from hr); exact ⟨fun n z => ⟨fun k h => (by cases h), k4, g4, p4, h4⟩, m4⟩
  | k + 5, hr => exact absurd hr (by simp [vv_ty])
theorem z_aw {w : Cond} (h : vv_isA w = true) {A : Array Value} {U : State} (hb : w.before A U = true) : w.before #[] U = true := by
  cases w <;> first | exact hb | (simp [vv_isA] at h; done)
/-- the law, from its entry: both are made, then the loop -/
theorem law_walk {G : vv_G} {b L : Nat} {xs : Nat → Int32} {nm : String} (hL : L ≤ 3072) : vn_V G cL_law (lM b L xs nm G.2.2.2) 0 0 0 [(0, .ref b)] [] [] := by
  refine vn_new (o := 0) ln_L_7 (c2 := 1) (s2 := 13) rfl rfl rfl rfl dL_law_0 rfl rfl (X' := [.inr (9, [.null, .null, .null, .int 0, .null, .null, .null, .null, .null, .null, .null, .null, .int 0])]) rfl ?_
  refine vv_dup dL_law_3 rfl rfl ?_
  refine vn_callI (o := 0) (Y := []) (blk := .inr (9, [.null, .null, .null, .int 0, .null, .null, .null, .null, .null, .null, .null, .null, .int 0])) (made := mCls G) c_iCls rfl rfl (X' := mCls G) (List.nil_append _) lk_L_9 lm_X9_init rfl (Nat.le_of_ble_eq_true rfl) rfl dL_law_4 rfl (c2 := 118) (s2 := 2995) rfl rfl rfl rfl ?_
  refine vv_astore_n 1 [(1, .ref (G.2.2.2 + 0)), (0, .ref b)] dL_law_7 rfl rfl rfl rfl ?_
  refine vn_new (o := 118) ln_L_10 (c2 := 119) (s2 := 3026) rfl rfl rfl rfl dL_law_8 rfl (vn_l4 (rF_len 10)) (X' := mCls G ++ [.inr (10, [.int 0, .null, .int 0, .null, .null, .null, .null, .int 0, .null, .null, .null, .null, .null, .null, .null, .null, .null, .null, .null, .null, .null, .null, .null, .null, .null, .null, .null, .null, .int 0, .null, .null])]) rfl ?_
  refine vv_dup dL_law_11 rfl rfl ?_
  refine vn_callI (o := 118) (Y := mCls G) (made := mMod G 118) (c_iMod (vn_l4 (rF_len 10))) rfl (vn_l4 (rF_len 10)) (X' := mCls G ++ mMod G 118) rfl lk_L_12 lm_X10_init rfl (Nat.le_of_ble_eq_true rfl) rfl dL_law_12 rfl (c2 := 146) (s2 := 6667) rfl rfl rfl rfl ?_
  refine vv_astore_n 2 [(2, .ref (G.2.2.2 + 118)), (1, .ref (G.2.2.2 + 0)), (0, .ref b)] dL_law_15 rfl rfl rfl rfl ?_
  refine vv_iconst (v := 0) dL_law_16 rfl rfl ?_
  refine vv_istore_n 3 [(3, .int 0), (2, .ref (G.2.2.2 + 118)), (1, .ref (G.2.2.2 + 0)), (0, .ref b)] dL_law_17 rfl rfl rfl rfl ?_
  refine vv_pick (L2 := lL G b 0) [0, 3, 2, 1] rfl ?_
  rw [z_len, z_lay]
  exact law_loop hL (by decide) (by decide) (L + 1) 0 (by omega) (by omega) S_0 a_0 z_G z_C z_M
/-- from the entry, for every script of at most 3072 ints, the law comes to its end with true -/
theorem whole_start {p : Program} {e : Env} {s : State} {m : MethodId} {below : List Frame} {meth : Method} {c : Code} (l : Launch) {b L : Nat} {xs : Nat → Int32} (hL : L ≤ 3072) (C0 : lw_At p s m meth c b L xs) : W p l e room_1 s m #[Value.ref b] below meth c s.heap [] 0 0 (lw_Z below #[Value.ref b] s) (entryFrame m ([Value.ref b] : List Value).toArray 4) := by
  obtain ⟨hx, hb, hr, hml, hown, hts, hX, hbl, hlocks, hgv⟩ := C0
  obtain ⟨D, cA, hK⟩ := z_K hts
  have hl := lv_entry ([.ref b]) (n := 4) (Nat.le_of_ble_eq_true rfl)
  rw [lg_entry_eq]
  refine law_walk (G := (l, D, cA, s.heap.size)) (b := b) (L := L) (xs := xs) (nm := meth.name) hL p e s m _ below meth c s.heap [] _ ⟨hx, hb, hml, hown, fun w hw => hts w (List.mem_filter.mp hw).1, ⟨hK, fun w hw => va_Nw.of (vv_nest_on (List.mem_filter.mp hw).2) (hts w (List.mem_filter.mp hw).1), fun w hw => z_aw (List.mem_filter.mp hw).2 (hts w (List.mem_filter.mp hw).1)⟩, hlocks, hr, rfl, ⟨hX, hbl, rfl⟩, Nat.le_refl _⟩ ⟨rfl, fun a e he => ?_, va_S.rf, fun a e he => ?_⟩ hl
  · unfold vl at he
    split at he
    · cases he
    · simp at he
  · unfold vl at he
    split at he
    · cases he
    · simp at he
