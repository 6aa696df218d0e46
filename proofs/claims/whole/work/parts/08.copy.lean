theorem vc_nat : Cond.native arraycopyName ∈ vv_gd := vv_g 287 (by decide +kernel) rfl
theorem vc_sta : Cond.static arraycopyName ∈ vv_gd := vv_g 286 (by decide +kernel) rfl
theorem vc_ini : Cond.initialized "java/lang/System" ∈ vv_gd := vv_g 13 (by decide +kernel) rfl
theorem vc_lk_X9_133 : Cond.methodLink RX9 133 arraycopyName ∈ vv_gd := vv_g 285 (by decide +kernel) rfl
theorem vc_lk_X3_21 : Cond.methodLink RX3 21 arraycopyName ∈ vv_gd := vv_g 379 (by decide +kernel) rfl
set_option maxHeartbeats 4000000 in
theorem vv_copyi {G : vv_G} {cc : ByteArray} {M : vv_M} {cells slots pc q : Nat} {L : List (Nat × Value)} {st : List Value} {n : Nat} {h : vv_H} {i a0 a n0 n1 sp dp k : Nat} {f g : Nat → Int32} {xs xd xk : Int32} (hlk : Cond.methodLink M.1 i arraycopyName ∈ vv_gd) (h0 : h a0 = some (.inl (G.2.2.1 0, n0, .inl f))) (h1 : h a = some (.inl (G.2.2.1 0, n1, .inl g))) (hs : xs = nI sp) (hd : xd = nI dp) (hk : xk = nI k) (hn0 : n0 < 2 ^ 30) (hn1 : n1 < 2 ^ 30) (h4 : sp + k ≤ n0) (h5 : dp + k ≤ n1) (hfr : Nat.ble 1 M.2.2.2.2.1.frames = true) (hlo : Nat.ble ((st.map fun v => v.category).sum + (nativeFrameWords "java/lang/System" "arraycopy" 5 + 11)) M.2.2.2.2.1.locals = true) (hdg : decode cc pc = .ok (.invokestatic i, 3)) (hq : pc + 3 = q) (kk : vv_V G cc M cells slots q L st n (vv_up h a (.inl (G.2.2.1 0, n1, .inl (va_cpy f g sp dp k))))) : vv_V G cc M cells slots pc L (.int xk :: .int xd :: .ref a :: .int xs :: .ref a0 :: st) n h := by
  subst hq
  intro p e s m args below meth c H locs ls F X hl
  subst hs hd hk
  have c1 : (nI sp).toNatClampNeg = sp := nI_clamp (by omega)
  have c2 : (nI dp).toNatClampNeg = dp := nI_clamp (by omega)
  have c3 : (nI k).toNatClampNeg = k := nI_clamp (by omega)
  have hts := F.2.2.2.2.1
  have hK := F.2.2.2.2.2.1.1
  have hc0 : H[a0]? = some (vp_cell (G.2.2.1 0) (n0, .inl f)) := X.2.1 a0 _ h0
  have hc1 : H[a]? = some (vp_cell (G.2.2.1 0) (n1, .inl g)) := X.2.1 a _ h1
  obtain ⟨-, k0, hk0, cm0, hkk0⟩ := (hK.2 0 _ rfl).1 n0 (fun j => .int (f j))
  obtain ⟨-, k1, hk1, cm1, hkk1⟩ := (hK.2 0 _ rfl).1 n1 (fun j => .int (g j))
  intro T hT XX
  obtain ⟨vm', X', step⟩ := XX.arraycopy F.1 F.2.2.2.1 (hts _ hlk) (hts _ vc_nat) (hts _ vc_sta) (hts _ vc_ini) (src := a0) (dst := a) (cs := vp_cell (G.2.2.1 0) (n0, .inl f)) (cd := vp_cell (G.2.2.1 0) (n1, .inl g)) (srcPos := nI sp) (destPos := nI dp) (n := nI k) (by rw [hT]; exact hc0) (by rw [hT]; exact hc1)
    (fun _ h => by cases h) (fun _ h => by cases h) (fun h => by cases h) (fun h => by cases h) hk0 hk1 hkk0 hkk1 (by simp [refKind]) (nI_pos (by omega)) (nI_pos (by omega)) (nI_pos (by omega))
    (by rw [nI_toInt (by omega), nI_toInt (by omega)]; show ¬ _ > ((arrV (G.2.2.1 0) n0 (fun j => .int (f j))).slots.size : Int); rw [arrV_size]; omega)
    (by rw [nI_toInt (by omega), nI_toInt (by omega)]; show ¬ _ > ((arrV (G.2.2.1 0) n1 (fun j => .int (g j))).slots.size : Int); rw [arrV_size]; omega)
    (fun vm₁ _ i hi => by
      rw [c3] at hi
      have e : (vp_cell (G.2.2.1 0) (n0, .inl f)).slots.getD ((nI sp).toNatClampNeg + i) .null = .int (f (sp + i)) := by
        show (arrV (G.2.2.1 0) n0 (fun j => .int (f j))).slots.getD _ _ = _
        rw [c1, Array.getD_eq_getD_getElem?, arrV_read _ _ (by omega)]
        rfl
      refine ⟨?_, ?_⟩
      · rw [e]
        rfl
      · rw [e]
        exact trivial)
    (g := F0 m pc ls (.int (nI k) :: .int (nI dp) :: .ref a :: .int (nI sp) :: .ref a0 :: st)) rfl (by rw [F.2.2.1]; exact hl.1) (rest := st) rfl (by rw [F.2.1]; exact hdg) (Nat.le_of_ble_eq_true hfr) (by show 2 * 0 + _ + _ ≤ _; have := Nat.le_of_ble_eq_true hlo; omega)
  have e1 : copied (vp_cell (G.2.2.1 0) (n0, .inl f)) (vp_cell (G.2.2.1 0) (n1, .inl g)) (nI sp) (nI dp) (nI k) = vp_cell (G.2.2.1 0) (n1, .inl (va_cpy f g sp dp k)) := by
    have := va_copied (fun z => .int z) (G.2.2.1 0) (G.2.2.1 0) (n0 := n0) (n1 := n1) (sp := (nI sp).toNatClampNeg) (dp := (nI dp).toNatClampNeg) (n := (nI k).toNatClampNeg) f g (by rw [c1, c3]; exact h4)
    rw [c1, c2, c3] at this
    rw [← c1, ← c2, ← c3] at this ⊢
    simp only [c1, c2, c3] at this ⊢
    first | exact this | (unfold copied; simp only [c1, c2, c3]; exact this)
  rw [e1] at X' step
  have hlt : a < H.size := (Array.getElem?_eq_some_iff.mp hc1).1
  have hheap : ((T.setVm vm').setCell a (vp_cell (G.2.2.1 0) (n1, .inl (va_cpy f g sp dp k)))).heap = H.setIfInBounds a (vp_cell (G.2.2.1 0) (n1, .inl (va_cpy f g sp dp k))) := by rw [← hT]; rfl
  have oq : ∀ x : Nat, x ≠ a → (H.setIfInBounds a (vp_cell (G.2.2.1 0) (n1, .inl (va_cpy f g sp dp k))))[x]? = H[x]? := fun x hx => by simp [Array.getElem?_setIfInBounds, Ne.symm hx]
  have XN := vv_X_up (k := 0) (H' := H.setIfInBounds a (vp_cell (G.2.2.1 0) (n1, .inl (va_cpy f g sp dp k)))) (e := .inl (G.2.2.1 0, n1, .inl (va_cpy f g sp dp k))) X h1 (show (H.setIfInBounds a _)[a]? = some _ by simp [Array.getElem?_setIfInBounds, hlt]) (by simp) oq
  obtain ⟨t, a1, b1⟩ := kk p e s m args below meth c _ _ ls F ⟨XN.1, XN.2.1, ⟨XN.2.2.1.1, XN.2.2.1.2.1, fun x hx => by
      rcases List.mem_append.mp hx with z | z
      · exact X.2.2.1.2.2 x z
      · obtain ⟨z9, -, hz⟩ := List.mem_map.mp z
        rw [← hz]
        exact X.2.2.2 a _ h1⟩, XN.2.2.2⟩ hl _ hheap X'
  exact ⟨t, step t a1, b1⟩
theorem vs_copyi {G : vv_G} {cc : ByteArray} {M : vv_M} {pc q : Nat} {L : List (Nat × Value)} {st : List Value} {S : vs_S} {i o0 o n0 n1 sp dp k : Nat} {xs xd xk : Int32} (hlk : Cond.methodLink M.1 i arraycopyName ∈ vv_gd) (h0 : vs_T[o0]? = some (.inl (0, n0))) (h1 : vs_T[o]? = some (.inl (0, n1))) (hs : xs = nI sp) (hd : xd = nI dp) (hk : xk = nI k) (hn0 : n0 < 2 ^ 30) (hn1 : n1 < 2 ^ 30) (h4 : sp + k ≤ n0) (h5 : dp + k ≤ n1) (hfr : Nat.ble 1 M.2.2.2.2.1.frames = true) (hlo : Nat.ble ((st.map fun v => v.category).sum + (nativeFrameWords "java/lang/System" "arraycopy" 5 + 11)) M.2.2.2.2.1.locals = true) (hdg : decode cc pc = .ok (.invokestatic i, 3)) (hq : pc + 3 = q) (kk : vs_V G cc M q L st (vs_ia S o (va_cpy (S.2.1 o0) (S.2.1 o) sp dp k))) : vs_V G cc M pc L (.int xk :: .int xd :: .ref (G.2.2.2 + o) :: .int xs :: .ref (G.2.2.2 + o0) :: st) S := by
  refine vv_copyi hlk (vs_lay_at h0) (vs_lay_at h1) hs hd hk hn0 hn1 h4 h5 hfr hlo hdg hq ?_
  rw [vs_lay_ia h1]
  exact kk
set_option maxHeartbeats 4000000 in
theorem vv_copyl {G : vv_G} {cc : ByteArray} {M : vv_M} {cells slots pc q : Nat} {L : List (Nat × Value)} {st : List Value} {n : Nat} {h : vv_H} {i a0 a n0 n1 sp dp k : Nat} {f g : Nat → Int64} {xs xd xk : Int32} (hlk : Cond.methodLink M.1 i arraycopyName ∈ vv_gd) (h0 : h a0 = some (.inl (G.2.2.1 1, n0, .inr (.inl f)))) (h1 : h a = some (.inl (G.2.2.1 1, n1, .inr (.inl g)))) (hs : xs = nI sp) (hd : xd = nI dp) (hk : xk = nI k) (hn0 : n0 < 2 ^ 30) (hn1 : n1 < 2 ^ 30) (h4 : sp + k ≤ n0) (h5 : dp + k ≤ n1) (hfr : Nat.ble 1 M.2.2.2.2.1.frames = true) (hlo : Nat.ble ((st.map fun v => v.category).sum + (nativeFrameWords "java/lang/System" "arraycopy" 5 + 11)) M.2.2.2.2.1.locals = true) (hdg : decode cc pc = .ok (.invokestatic i, 3)) (hq : pc + 3 = q) (kk : vv_V G cc M cells slots q L st n (vv_up h a (.inl (G.2.2.1 1, n1, .inr (.inl (va_cpy f g sp dp k)))))) : vv_V G cc M cells slots pc L (.int xk :: .int xd :: .ref a :: .int xs :: .ref a0 :: st) n h := by
  subst hq
  intro p e s m args below meth c H locs ls F X hl
  subst hs hd hk
  have c1 : (nI sp).toNatClampNeg = sp := nI_clamp (by omega)
  have c2 : (nI dp).toNatClampNeg = dp := nI_clamp (by omega)
  have c3 : (nI k).toNatClampNeg = k := nI_clamp (by omega)
  have hts := F.2.2.2.2.1
  have hK := F.2.2.2.2.2.1.1
  have hc0 : H[a0]? = some (vp_cell (G.2.2.1 1) (n0, .inr (.inl f))) := X.2.1 a0 _ h0
  have hc1 : H[a]? = some (vp_cell (G.2.2.1 1) (n1, .inr (.inl g))) := X.2.1 a _ h1
  obtain ⟨-, k0, hk0, cm0, hkk0⟩ := (hK.2 1 _ rfl).1 n0 (fun j => .long (f j))
  obtain ⟨-, k1, hk1, cm1, hkk1⟩ := (hK.2 1 _ rfl).1 n1 (fun j => .long (g j))
  intro T hT XX
  obtain ⟨vm', X', step⟩ := XX.arraycopy F.1 F.2.2.2.1 (hts _ hlk) (hts _ vc_nat) (hts _ vc_sta) (hts _ vc_ini) (src := a0) (dst := a) (cs := vp_cell (G.2.2.1 1) (n0, .inr (.inl f))) (cd := vp_cell (G.2.2.1 1) (n1, .inr (.inl g))) (srcPos := nI sp) (destPos := nI dp) (n := nI k) (by rw [hT]; exact hc0) (by rw [hT]; exact hc1)
    (fun _ h => by cases h) (fun _ h => by cases h) (fun h => by cases h) (fun h => by cases h) hk0 hk1 hkk0 hkk1 (by simp [refKind]) (nI_pos (by omega)) (nI_pos (by omega)) (nI_pos (by omega))
    (by rw [nI_toInt (by omega), nI_toInt (by omega)]; show ¬ _ > ((arrV (G.2.2.1 1) n0 (fun j => .long (f j))).slots.size : Int); rw [arrV_size]; omega)
    (by rw [nI_toInt (by omega), nI_toInt (by omega)]; show ¬ _ > ((arrV (G.2.2.1 1) n1 (fun j => .long (g j))).slots.size : Int); rw [arrV_size]; omega)
    (fun vm₁ _ i hi => by
      rw [c3] at hi
      have e : (vp_cell (G.2.2.1 1) (n0, .inr (.inl f))).slots.getD ((nI sp).toNatClampNeg + i) .null = .long (f (sp + i)) := by
        show (arrV (G.2.2.1 1) n0 (fun j => .long (f j))).slots.getD _ _ = _
        rw [c1, Array.getD_eq_getD_getElem?, arrV_read _ _ (by omega)]
        rfl
      refine ⟨?_, ?_⟩
      · rw [e]
        rfl
      · rw [e]
        exact trivial)
    (g := F0 m pc ls (.int (nI k) :: .int (nI dp) :: .ref a :: .int (nI sp) :: .ref a0 :: st)) rfl (by rw [F.2.2.1]; exact hl.1) (rest := st) rfl (by rw [F.2.1]; exact hdg) (Nat.le_of_ble_eq_true hfr) (by show 2 * 0 + _ + _ ≤ _; have := Nat.le_of_ble_eq_true hlo; omega)
  have e1 : copied (vp_cell (G.2.2.1 1) (n0, .inr (.inl f))) (vp_cell (G.2.2.1 1) (n1, .inr (.inl g))) (nI sp) (nI dp) (nI k) = vp_cell (G.2.2.1 1) (n1, .inr (.inl (va_cpy f g sp dp k))) := by
    have := va_copied (fun z => .long z) (G.2.2.1 1) (G.2.2.1 1) (n0 := n0) (n1 := n1) (sp := (nI sp).toNatClampNeg) (dp := (nI dp).toNatClampNeg) (n := (nI k).toNatClampNeg) f g (by rw [c1, c3]; exact h4)
    rw [c1, c2, c3] at this
    rw [← c1, ← c2, ← c3] at this ⊢
    simp only [c1, c2, c3] at this ⊢
    first | exact this | (unfold copied; simp only [c1, c2, c3]; exact this)
  rw [e1] at X' step
  have hlt : a < H.size := (Array.getElem?_eq_some_iff.mp hc1).1
  have hheap : ((T.setVm vm').setCell a (vp_cell (G.2.2.1 1) (n1, .inr (.inl (va_cpy f g sp dp k))))).heap = H.setIfInBounds a (vp_cell (G.2.2.1 1) (n1, .inr (.inl (va_cpy f g sp dp k)))) := by rw [← hT]; rfl
  have oq : ∀ x : Nat, x ≠ a → (H.setIfInBounds a (vp_cell (G.2.2.1 1) (n1, .inr (.inl (va_cpy f g sp dp k)))))[x]? = H[x]? := fun x hx => by simp [Array.getElem?_setIfInBounds, Ne.symm hx]
  have XN := vv_X_up (k := 0) (H' := H.setIfInBounds a (vp_cell (G.2.2.1 1) (n1, .inr (.inl (va_cpy f g sp dp k))))) (e := .inl (G.2.2.1 1, n1, .inr (.inl (va_cpy f g sp dp k)))) X h1 (show (H.setIfInBounds a _)[a]? = some _ by simp [Array.getElem?_setIfInBounds, hlt]) (by simp) oq
  obtain ⟨t, a1, b1⟩ := kk p e s m args below meth c _ _ ls F ⟨XN.1, XN.2.1, ⟨XN.2.2.1.1, XN.2.2.1.2.1, fun x hx => by
      rcases List.mem_append.mp hx with z | z
      · exact X.2.2.1.2.2 x z
      · obtain ⟨z9, -, hz⟩ := List.mem_map.mp z
        rw [← hz]
        exact X.2.2.2 a _ h1⟩, XN.2.2.2⟩ hl _ hheap X'
  exact ⟨t, step t a1, b1⟩
theorem vs_copyl {G : vv_G} {cc : ByteArray} {M : vv_M} {pc q : Nat} {L : List (Nat × Value)} {st : List Value} {S : vs_S} {i o0 o n0 n1 sp dp k : Nat} {xs xd xk : Int32} (hlk : Cond.methodLink M.1 i arraycopyName ∈ vv_gd) (h0 : vs_T[o0]? = some (.inl (1, n0))) (h1 : vs_T[o]? = some (.inl (1, n1))) (hs : xs = nI sp) (hd : xd = nI dp) (hk : xk = nI k) (hn0 : n0 < 2 ^ 30) (hn1 : n1 < 2 ^ 30) (h4 : sp + k ≤ n0) (h5 : dp + k ≤ n1) (hfr : Nat.ble 1 M.2.2.2.2.1.frames = true) (hlo : Nat.ble ((st.map fun v => v.category).sum + (nativeFrameWords "java/lang/System" "arraycopy" 5 + 11)) M.2.2.2.2.1.locals = true) (hdg : decode cc pc = .ok (.invokestatic i, 3)) (hq : pc + 3 = q) (kk : vs_V G cc M q L st (vs_la S o (va_cpy (S.2.2.1 o0) (S.2.2.1 o) sp dp k))) : vs_V G cc M pc L (.int xk :: .int xd :: .ref (G.2.2.2 + o) :: .int xs :: .ref (G.2.2.2 + o0) :: st) S := by
  refine vv_copyl hlk (vs_lay_at h0) (vs_lay_at h1) hs hd hk hn0 hn1 h4 h5 hfr hlo hdg hq ?_
  rw [vs_lay_la h1]
  exact kk
theorem vc_mk_X9_176 : Cond.methodLink RX9 176 Lib.Math.min.name ∈ vv_gd := vv_g 364 (by decide +kernel) rfl
theorem vc_ms : Cond.static Lib.Math.min.name ∈ vv_gd := vv_g 365 (by decide +kernel) rfl
theorem vc_mi : Cond.initialized "java/lang/Math" ∈ vv_gd := vv_g 14 (by decide +kernel) rfl
theorem vc_mc : Cond.code Lib.Math.min.name Lib.Math.min.code 2 (some .int) ∈ vv_gd := vv_g 366 (by decide +kernel) rfl
theorem vs_min {G : vv_G} {cc : ByteArray} {M : vv_M} {pc q : Nat} {L : List (Nat × Value)} {st : List Value} {S : vs_S} {i : Nat} {x y : Int32} (hlk : Cond.methodLink M.1 i Lib.Math.min.name ∈ vv_gd) (hfr : Nat.ble 1 M.2.2.2.2.1.frames = true) (hlo : Nat.ble ((st.map fun v => v.category).sum + 13) M.2.2.2.2.1.locals = true) (hdg : decode cc pc = .ok (.invokestatic i, 3)) (hq : pc + 3 = q) (kk : vs_V G cc M q L (.int (if y < x then y else x) :: st) S) : vs_V G cc M pc L (.int y :: .int x :: st) S := by
  subst hq
  intro p e s m args below meth c H locs ls F X hl
  have hts := F.2.2.2.2.1
  exact va_mmin F.1 F.2.1 (F.2.2.1.trans hl.1.symm) F.2.2.2.1 (hts _ hlk) (hts _ vc_ms) (hts _ vc_mi) (hts _ vc_mc) (Nat.le_of_ble_eq_true hfr) (Nat.le_of_ble_eq_true hlo) (Nat.zero_le _) (Nat.zero_le _) hdg (kk p e s m args below meth c H locs ls F X hl)
