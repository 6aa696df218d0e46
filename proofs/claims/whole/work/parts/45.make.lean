/-! the system's cells while they are made: a list, in the order of their making -/
def vl (G : vv_G) (X : List va_E) : vv_H := fun a => if a < G.2.2.2 then none else X[a - G.2.2.2]?
abbrev vn_V (G : vv_G) (cc : ByteArray) (M : vv_M) (cells slots pc : Nat) (L : List (Nat × Value)) (st : List Value) (X : List va_E) : Prop := vv_V G cc M cells slots pc L st (G.2.2.2 + X.length) (vl G X)
abbrev vn_C (G : vv_G) (y : MethodName) (cc : ByteArray) (maxL : Nat) (rm : Room) (av : List Value) (X X' : List va_E) : Prop := vv_C G y cc maxL none rm av (G.2.2.2 + X.length) (vl G X) none (G.2.2.2 + X'.length) (vl G X')
theorem vl_at {G : vv_G} {X : List va_E} {o : Nat} {e : va_E} (h : X[o]? = some e) : vl G X (G.2.2.2 + o) = some e := by
  unfold vl
  rw [if_neg (by omega), Nat.add_sub_cancel_left, h]
theorem vl_set {G : vv_G} {X : List va_E} {o : Nat} {e : va_E} (h : o < X.length) : vv_up (vl G X) (G.2.2.2 + o) e = vl G (X.set o e) := by
  funext a
  unfold vv_up vl
  by_cases h1 : a = G.2.2.2 + o
  · subst h1
    rw [if_pos rfl, if_neg (by omega), Nat.add_sub_cancel_left, List.getElem?_set, if_pos rfl, if_pos h]
  · rw [if_neg h1]
    by_cases h2 : a < G.2.2.2
    · rw [if_pos h2, if_pos h2]
    · rw [if_neg h2, if_neg h2, List.getElem?_set, if_neg (by omega)]
theorem vl_app {G : vv_G} {X : List va_E} {e : va_E} : vv_up (vl G X) (G.2.2.2 + X.length) e = vl G (X ++ [e]) := by
  funext a
  unfold vv_up vl
  by_cases h1 : a = G.2.2.2 + X.length
  · subst h1
    rw [if_pos rfl, if_neg (by omega), Nat.add_sub_cancel_left, List.getElem?_append_right (Nat.le_refl _), Nat.sub_self]; rfl
  · rw [if_neg h1]
    by_cases h2 : a < G.2.2.2
    · rw [if_pos h2, if_pos h2]
    · rw [if_neg h2, if_neg h2]
      by_cases h3 : a - G.2.2.2 < X.length
      · rw [List.getElem?_append_left h3]
      · rw [List.getElem?_append_right (by omega), List.getElem?_eq_none (by omega), List.getElem?_eq_none (by simp; omega)]
/-- a new object of a class -/
def vv_LN (own : String) (i ci N : Nat) (fs : List Value) : Prop := ∃ (C : String) (T : u_T) (t0 : Nat → FieldType), vv_cl[ci]? = some (C, T, N) ∧ (∀ w ∈ u_ws C T N, w ∈ vv_gd) ∧ (∀ k, k < N → parseFieldDescriptor (T k).2.2.1 = some (t0 k)) ∧ (∀ j, j < N → defaultValue (t0 j) = vp_V fs j) ∧ Cond.classLink own i C ∈ vv_gd ∧ Cond.instantiable C N ∈ vv_gd ∧ Cond.initialized C ∈ vv_gd
def vv_LFF (own : String) (i ci k : Nat) (ty : FieldType) : Prop := ∃ (C : String) (T : u_T) (N : Nat) (t0 : Nat → FieldType), vv_cl[ci]? = some (C, T, N) ∧ k < N ∧ (∀ w ∈ u_ws C T N, w ∈ vv_gd) ∧ (∀ k, k < N → parseFieldDescriptor (T k).2.2.1 = some (t0 k)) ∧ (∀ a, a < N → ∀ b, b < N → a ≠ b → (T a).2.1 ≠ (T b).2.1) ∧ t0 k = ty ∧ (T k).2.2.2 = true ∧ (T k).1 = C ∧ C = own ∧ Cond.fieldLink own i (T k).1 (T k).2.1 (T k).2.2.1 ∈ vv_gd
def vv_LO (own : String) (i : Nat) : Prop := Cond.methodLink own i Lib.objectInit ∈ vv_gd
section VVN
variable {G : vv_G} {cc : ByteArray} {M : vv_M} {cells slots pc q : Nat} {L : List (Nat × Value)} {st : List Value} {n : Nat} {h : vv_H}
theorem vv_X_new {s : State} {H H' : Heap} {locs : List Loc} {e : va_E} (X : vv_X G n h s H locs) (hB : G.2.2.2 ≤ s.heap.size) (he : va_at G.2.1 vv_cl (n, e) H') (hz : H'.size = n + 1) (ho : ∀ x : Nat, x < n → H'[x]? = H[x]?) : vv_X G (n + 1) (vv_up h n e) s H' locs := by
  have hn := X.1
  have hs := X.2.2.1.1
  refine ⟨hz, fun b e' hb => ?_, ⟨by omega, fun x h1 h2 => (ho x (by omega)).trans (X.2.2.1.2.1 x h1 h2), X.2.2.1.2.2⟩, fun b e' hb => ?_⟩
  · unfold vv_up at hb
    by_cases hab : b = n
    · subst hab
      rw [if_pos rfl] at hb
      cases hb
      exact he
    · rw [if_neg hab] at hb
      have h1 := X.2.1 b e' hb
      have h2 : b < H.size := h1.lt
      exact h1.kept (ho b (by omega))
  · unfold vv_up at hb
    by_cases hab : b = n
    · omega
    · rw [if_neg hab] at hb
      exact X.2.2.2 b e' hb
theorem vv_new {i ci N : Nat} {fs : List Value} (hf : vv_LN M.1 i ci N fs) (hfc : Nat.ble (cells + 1) M.2.2.2.2.1.cells = true) (hfs : Nat.ble (slots + N) M.2.2.2.2.1.slots = true) (hd : decode cc pc = .ok (.new i, 3)) (hq : pc + 3 = q) (kk : vv_V G cc M (cells + 1) (slots + N) q L (.ref n :: st) (n + 1) (vv_up h n (.inr (ci, fs)))) : vv_V G cc M cells slots pc L st n h := by
  subst hq
  intro p e s m args below meth c H locs ls F X hl
  obtain ⟨C, T, t0, hc, hin, hty, hdf, w1, w2, w3⟩ := hf
  have hts := F.2.2.2.2.1
  have hKn := F.2.2.2.2.2.1.1.1 ci _ hc
  refine W.newcK F.1 F.2.1 F.2.2.2.1 (hts _ w1) (hts _ w2) (hts _ w3) rfl hd (Nat.le_of_ble_eq_true hfc) (Nat.le_of_ble_eq_true hfs) hKn.2.1 X.1 fun H1 kC hkC e1 z1 o1 => ?_
  exact kk p e s m args below meth c H1 locs ls F (vv_X_new X F.2.2.2.2.2.2.2.2.2.2 ⟨_, hc, (u_born t0 hts hin hKn hkC e1 hty).to hdf⟩ z1 o1) hl
theorem vv_newarr {atype : ArrayType} {ty : FieldType} {cA : ClassId} {t N : Nat} {a0 : vp_A} {x : Int32} (hty : newarray.typeOf atype = ty) (ht : (vv_ty G.2.2.1)[t]? = some (cA, ty)) (hra : ∀ s : State, va_RA s cA ty → s.vm.findClass ("[" ++ ty.toString) = some cA) (w : Cond.arrayClass ty ∈ vv_gd) (ha : ∀ cA : ClassId, vp_cell cA a0 = arrV cA N (fun _ => defaultValue ty)) (hx : x = nI N) (hN : N < 100000) (hcb : componentBytes ty ≤ 8) (hfc : Nat.ble (cells + 1) M.2.2.2.2.1.cells = true) (hfs : Nat.ble (slots + N) M.2.2.2.2.1.slots = true) (hd : decode cc pc = .ok (.newarray atype, 2)) (hq : pc + 2 = q) (kk : vv_V G cc M (cells + 1) (slots + N) q L (.ref n :: st) (n + 1) (vv_up h n (.inl (cA, a0)))) : vv_V G cc M cells slots pc L (.int x :: st) n h := by
  subst hq hty
  intro p e s m args below meth c H locs ls F X hl
  have hts := F.2.2.2.2.1
  obtain ⟨v1, v2⟩ := vv_in (k := N) (N := N + 1) hx (by omega) (Nat.ble_eq_true_of_le (by omega))
  have h0 : ¬ x < 0 := fun q => v1 (Or.inl q)
  have hbytes : N * componentBytes (newarray.typeOf atype) ≤ 536870912 := Nat.le_trans (Nat.mul_le_mul (Nat.le_of_lt hN) hcb) (by decide)
  refine va_newaK F.1 F.2.1 (hts _ w) rfl hd rfl h0 v2 hbytes (Nat.le_of_ble_eq_true hfc) (Nat.le_of_ble_eq_true hfs) X.1 fun H1 cB e1 z1 o1 hAr hNm => ?_
  have hcB : cB = cA := Option.some.inj (hNm.symm.trans (hra s (F.2.2.2.2.2.1.1.2 t _ ht).2))
  subst hcB
  refine kk p e s m args below meth c H1 locs ls F (vv_X_new X F.2.2.2.2.2.2.2.2.2.2 ?_ z1 o1) hl
  show H1[n]? = some (vp_cell _ _)
  rw [ha]
  exact e1
theorem vv_newI {N : Nat} {x : Int32} (hx : x = nI N) (hN : N < 100000) (hfc : Nat.ble (cells + 1) M.2.2.2.2.1.cells = true) (hfs : Nat.ble (slots + N) M.2.2.2.2.1.slots = true) (hd : decode cc pc = .ok (.newarray .int, 2)) (hq : pc + 2 = q) (kk : vv_V G cc M (cells + 1) (slots + N) q L (.ref n :: st) (n + 1) (vv_up h n (.inl (G.2.2.1 0, N, .inl (fun _ => 0))))) : vv_V G cc M cells slots pc L (.int x :: st) n h :=
  vv_newarr (ty := .int) (t := 0) rfl rfl (fun _ z => z) (vv_g 55 (by decide +kernel) rfl) (fun _ => rfl) hx hN (by decide) hfc hfs hd hq kk
theorem vv_newL {N : Nat} {x : Int32} (hx : x = nI N) (hN : N < 100000) (hfc : Nat.ble (cells + 1) M.2.2.2.2.1.cells = true) (hfs : Nat.ble (slots + N) M.2.2.2.2.1.slots = true) (hd : decode cc pc = .ok (.newarray .long, 2)) (hq : pc + 2 = q) (kk : vv_V G cc M (cells + 1) (slots + N) q L (.ref n :: st) (n + 1) (vv_up h n (.inl (G.2.2.1 1, N, .inr (.inl (fun _ => 0)))))) : vv_V G cc M cells slots pc L (.int x :: st) n h :=
  vv_newarr (ty := .long) (t := 1) rfl rfl (fun _ z => z) (vv_g 172 (by decide +kernel) rfl) (fun _ => rfl) hx hN (by decide) hfc hfs hd hq kk
theorem vv_newQ {C : String} {i t N : Nat} {cA : ClassId} {x : Int32} (ht : (vv_ty G.2.2.1)[t]? = some (cA, .object C)) (w1 : Cond.classLink M.1 i C ∈ vv_gd) (w2 : Cond.arrayOver (.object C) ∈ vv_aw) (hx : x = nI N) (hN : N < 100000) (hfc : Nat.ble (cells + 1) M.2.2.2.2.1.cells = true) (hfs : Nat.ble (slots + N) M.2.2.2.2.1.slots = true) (hd : decode cc pc = .ok (.anewarray i, 3)) (hq : pc + 3 = q) (kk : vv_V G cc M (cells + 1) (slots + N) q L (.ref n :: st) (n + 1) (vv_up h n (.inl (cA, N, .inr (.inr (.inr (.inr (fun _ => none)))))))) : vv_V G cc M cells slots pc L (.int x :: st) n h := by
  subst hq
  intro p e s m args below meth c H locs ls F X hl
  have hts := F.2.2.2.2.1
  obtain ⟨v1, v2⟩ := vv_in (k := N) (N := N + 1) hx (by omega) (Nat.ble_eq_true_of_le (by omega))
  have h0 : ¬ x < 0 := fun q => v1 (Or.inl q)
  subst v2
  refine W.anew F.1 F.2.1 F.2.2.2.1 (hts _ w1) (F.2.2.2.2.2.1.2.2 _ w2) rfl hd rfl h0 (by omega) (Nat.le_of_ble_eq_true hfc) (Nat.le_of_ble_eq_true hfs) fun cB kA comp f1 f2 f3 f4 => ?_
  obtain ⟨kA', comp', k1, k2, k3, k4⟩ := (F.2.2.2.2.2.1.1.2 t _ ht).2
  have hcB : cB = cA := Option.some.inj (f1.symm.trans k4)
  subst hcB
  generalize hH1 : H.push ({ cls := cB, slots := Array.replicate x.toNatClampNeg .null, vm := .none } : Cell) = H1
  have hn := X.1
  have z1 : H1.size = n + 1 := by rw [← hH1, Array.size_push, hn]
  have e1 : H1[n]? = some (arrV cB x.toNatClampNeg (fun _ => .null)) := by rw [← hH1, ← hn, Array.getElem?_push_size, ← arrV_new]
  have o1 : ∀ q : Nat, q < n → H1[q]? = H[q]? := fun q hq => by rw [← hH1, Array.getElem?_push, if_neg (by omega)]
  rw [hn]
  refine kk p e s m args below meth c H1 locs ls F (vv_X_new X F.2.2.2.2.2.2.2.2.2.2 ?_ z1 o1) hl
  show H1[n]? = some (vp_cell _ _)
  rw [vp_cell_q]
  exact e1
theorem vv_obj {i a : Nat} (w : vv_LO M.1 i) (hW : (st.map fun v => v.category).sum ≤ 8) (hR : Nat.ble 1 M.2.2.2.2.1.frames = true) (hR2 : Nat.ble 20 M.2.2.2.2.1.locals = true) (hd : decode cc pc = .ok (.invokespecial i, 3)) (hq : pc + 3 = q) (kk : vv_V G cc M cells slots q L st n h) : vv_V G cc M cells slots pc L (.ref a :: st) n h := by
  subst hq
  intro p e s m args below meth c H locs ls F X hl
  have hts := F.2.2.2.2.1
  have h2 := Nat.le_of_ble_eq_true hR2
  refine W.objInit F.1 F.2.1 F.2.2.2.1 (hts _ w) (hts _ (vv_g 21 (by decide +kernel) rfl)) (hts _ (vv_g 22 (by decide +kernel) rfl)) rfl (by rw [F.2.2.1]; exact hl.1) rfl hd (Nat.le_of_ble_eq_true hR) ?_ (kk p e s m args below meth c H locs ls F X hl)
  have := lv_room (m := m) (pc := pc) (ls := ls) (rest := .ref a :: st) hW
  omega
theorem vv_putF {a ci k i : Nat} {fs : List Value} {v : Value} {ty : FieldType} (hf : vv_LFF M.1 i ci k ty) (hnm0 : M.2.2.2.1 = "<init>") (he : h a = some (.inr (ci, fs))) (hn : narrow ty v = v) (hfit : fits ty v = true) (hl0 : Nat.blt k fs.length = true) (hd : decode cc pc = .ok (.putfield i, 3)) (hq : pc + 3 = q) (kk : vv_V G cc M cells slots q L st n (vv_up h a (.inr (ci, fs.set k v)))) : vv_V G cc M cells slots pc L (v :: .ref a :: st) n h := by
  subst hq
  intro p e s m args below meth c H locs ls F X hl
  obtain ⟨C, T, N, t0, hc, hk, hin, hty, hnm, hty2, hfin, hdc, hCM, hlk⟩ := hf
  have hl0 := Nat.le_of_ble_eq_true hl0
  have hK := F.2.2.2.2.2.1.1
  have hts := F.2.2.2.2.1
  have hap := va_apart (own := M.1) hts hin t0 hty hnm hK hc
  obtain ⟨r, h1, cell, q1, q2, q3, q4⟩ := X.2.1 a _ he
  have hr : r = (C, T, N) := Option.some.inj (h1.symm.trans hc)
  subst hr
  obtain ⟨hS, hfc, kC, hkC, hkind⟩ := hK.1 ci _ hc
  obtain ⟨cf, kf, fi, f, hi, hsl⟩ := hS k hk
  have hlay := hts _ (hin _ (u_in_lay hk))
  unfold u_lay at hlay
  rw [if_pos hfin] at hlay
  have hst := (u_facts hfc hkC (u_lays hts hin hk) hi).1
  have hcf : m.cls = cf := by
    obtain ⟨_, _, c', _, _, _, -, -, hf', -, -, -, hown2, -⟩ := Cond.laysFinal_spec hlay
    have e1 : c' = cf := by have := hi.symm.trans hf'; simp at this; exact this.1.symm
    rw [hdc, hCM] at hown2
    rw [← e1]; exact Option.some.inj (F.2.2.2.1.symm.trans hown2)
  have h6 := u_fits hfc hkC hkind (Or.inr hlay) hi (hty k hk) (by rw [hty2]; exact hn) (by rw [hty2]; exact hfit)
  refine W.putFinK F.1 F.2.1 F.2.2.2.1 (hts _ hlk) hi hst hcf (F.2.2.2.2.2.2.2.2.1.trans hnm0) (by rw [q2]; exact h6) q1 q3 (by rw [hsl]; exact k2_hasslot (q4 k hk)) rfl rfl hd fun H' e1 e2 e3 => ?_
  rw [hsl] at e1 ⊢
  exact kk p e s m args below meth c H' _ ls F (vv_X_up X he ⟨_, hc, t_OB.to (V := updV (vp_V fs) k v) ⟨_, e1, q2, q3, t_set q4 hap hk v⟩ (fun j _ => vp_updV_set hl0 v j)⟩ e2 e3) hl
/-- a reference to an object into a row of its class -/
theorem vv_aastO {a v k N ci t0 : Nat} {cA : ClassId} {f : Nat → Option Nat} {r : vw_C} {vs : List Value} {i : Int32} (ha : h a = some (.inl (cA, N, .inr (.inr (.inr (.inr f)))))) (ht : (vv_ty G.2.2.1)[t0]? = some (cA, .object r.1)) (hv : h v = some (.inr (ci, vs))) (hc : vv_cl[ci]? = some r) (hi : i = nI k) (hk : k < N) (hN : Nat.blt N 2147483648 = true) (hd : decode cc pc = .ok (.aastore, 1)) (hq : pc + 1 = q) (kk : vv_V G cc M cells slots q L st n (vv_up h a (.inl (cA, N, .inr (.inr (.inr (.inr (va_up f k (some v))))))))) : vv_V G cc M cells slots pc L (.ref v :: .int i :: .ref a :: st) n h := by
  subst hq
  intro p e s m args below meth c H locs ls F X hl
  obtain ⟨h1, h2⟩ := vv_in hi hk hN
  have hlt : i.toNatClampNeg < N := Nat.not_le.mp fun q => h1 (Or.inr q)
  have h0 : ¬ i < 0 := fun q => h1 (Or.inl q)
  have hK := F.2.2.2.2.2.1.1
  obtain ⟨r', hr', cellV, g1, g2, g3, -⟩ := X.2.1 v _ hv
  have hcls := (hK.1 ci r hc).2
  obtain ⟨kA, comp, k1, k2, k3, -⟩ := (hK.2 t0 _ ht).2
  have hcomp : comp = G.2.1.1 ci := Option.some.inj (k3.symm.trans hcls.1)
  subst hcomp
  obtain ⟨kC, hkC, -⟩ := hcls.2
  refine W.aast F.1 F.2.1 (X.2.1 a _ ha) (fun q h => by cases h) (fun h => by cases h) k1 k2 rfl hkC ⟨h0, by show _ < (arrV _ _ _).slots.size; rw [arrV_size]; exact hlt⟩ g1 (fun q h => by rw [g3] at h; cases h) (by rw [g2]; exact hkC) (by rw [g2]; exact va_assign hcls) rfl rfl hd fun H1 e1 z oq => ?_
  refine kk p e s m args below meth c H1 _ ls F (vv_X_up X ha ?_ z oq) hl
  show H1[a]? = some (vp_cell _ _)
  rw [e1, h2]
  rw [vp_cell_q, vp_cell_q, arrV_store]
  congr 2
  funext x9
  by_cases hx : x9 = k
  · subst hx
    simp [updV, va_up, va_rf]
  · simp [updV, va_up, hx]
/-- rows of ints -/
def vg_H (h : vv_H) (n N K : Nat) (c4 c0 : ClassId) : vv_H := fun a => if a = n then some (.inl (c4, N, .inr (.inr (.inr (.inr (fun j => some (n + 1 + j))))))) else if n < a ∧ a < n + 1 + N then some (.inl (c0, K, .inl (fun _ => 0))) else h a
theorem arr_rep {cA : ClassId} {K : Nat} {v : Value} : ({ cls := cA, slots := Array.replicate K v, vm := .none } : Cell) = arrV cA K (fun _ => v) := arrV_new _ _ _
theorem outerC_arr (c : ClassId) (N h0 : Nat) : ∀ i, Jvm.Free.Multi.outerC c N h0 i = arrV c N (fun j => if j < i then .ref (h0 + 1 + j) else .null)
  | 0 => by
    show ({ cls := c, slots := Array.replicate N .null, vm := .none } : Cell) = _
    rw [arrV_new]
    congr 1
  | i + 1 => by
    show (Jvm.Free.Multi.outerC c N h0 i).setSlot i (.ref (h0 + 1 + i)) = _
    rw [outerC_arr c N h0 i, arrV_store]
    congr 1
    funext j
    unfold updV
    by_cases e : j = i
    · subst e; rw [if_pos rfl, if_pos (by omega)]
    · rw [if_neg e]
      dsimp only
      by_cases e2 : j < i
      · rw [if_pos e2, if_pos (by omega)]
      · rw [if_neg e2, if_neg (by omega)]
theorem arrV_c {c : ClassId} {N : Nat} {f g : Nat → Value} (h : ∀ j, j < N → f j = g j) : arrV c N f = arrV c N g := by
  unfold arrV
  congr 2
  funext j
  exact h j j.2
theorem vv_grid {i N K : Nat} {x y : Int32} (w1 : Cond.classLink M.1 i "[[I" ∈ vv_gd) (hx : x = nI N) (hy : y = nI K) (hN : N < 1000) (hK0 : K < 1000) (hfc : Nat.ble (cells + (1 + N)) M.2.2.2.2.1.cells = true) (hfs : Nat.ble (slots + (N + N * K)) M.2.2.2.2.1.slots = true) (hd : decode cc pc = .ok (.multianewarray i 2, 4)) (hq : pc + 4 = q) (kk : vv_V G cc M (cells + 1 + N) (slots + N + N * K) q L (.ref n :: st) (n + 1 + N) (vg_H h n N K (G.2.2.1 4) (G.2.2.1 0))) : vv_V G cc M cells slots pc L (.int y :: .int x :: st) n h := by
  subst hq
  intro p e s m args below meth c H locs ls F X hl T hT XX
  have hts := F.2.2.2.2.1
  have hB := F.2.2.2.2.2.2.2.2.2.2
  obtain ⟨v1, v2⟩ := vv_in (k := N) (N := N + 1) hx (by omega) (Nat.ble_eq_true_of_le (by omega))
  obtain ⟨v3, v4⟩ := vv_in (k := K) (N := K + 1) hy (by omega) (Nat.ble_eq_true_of_le (by omega))
  have hKs := F.2.2.2.2.2.1
  have hT4 := hKs.1.2 4 _ rfl
  have hT0 := hKs.1.2 0 _ rfl
  have e0 : s.vm.findClass (FieldType.array .int).toString = some (G.2.2.1 0) := hT0.2
  have e4 : s.vm.findClass ("[" ++ (FieldType.array .int).toString) = some (G.2.2.1 4) := hT4.2
  obtain ⟨vm1, cA, comp, hWm, hfA, hfC, hO, hI, X1, stp⟩ := XX.multianewarray2F F.1 (ty := .int) F.2.2.2.1 (hts _ w1) (hKs.2.2 _ vv_aoI) (hts _ (vv_g 55 (by decide +kernel) rfl)) (g := F0 m pc ls (.int y :: .int x :: st)) rfl (by rw [F.2.1]; exact hd) rfl (fun q => v1 (Or.inl q)) (fun q => v3 (Or.inl q)) (by rw [v2]; omega) (by rw [v4]; exact Nat.le_trans (Nat.mul_le_mul (Nat.le_of_lt hK0) (show componentBytes .int ≤ 8 by decide)) (by decide)) (by rw [v4]; omega) rfl rfl (by rw [v2]; exact Nat.le_of_ble_eq_true hfc) (by rw [v2, v4]; exact Nat.le_of_ble_eq_true hfs)
  cases e0.symm.trans hfC
  cases e4.symm.trans hfA
  rw [v2, v4] at X1 stp
  obtain ⟨f1, f2, f3, f4⟩ := Jvm.Free.Multi.fill_facts (T.setVm vm1) (G.2.2.1 4) (G.2.2.1 0) N K (defaultValue .int) N
  have fo := fun (a : Addr) (ha : a < T.heap.size) => Jvm.Free.Multi.fill_old (T.setVm vm1) (G.2.2.1 4) (G.2.2.1 0) N K (defaultValue .int) (a := a) ha N
  have fi := fun (j : Nat) (hj : j < N) => Jvm.Free.Multi.fill_inner (T.setVm vm1) (G.2.2.1 4) (G.2.2.1 0) N K (defaultValue .int) N j hj
  have hn : T.heap.size = n := by rw [hT]; exact X.1
  have f1' : (Jvm.Free.Multi.fill (T.setVm vm1) (G.2.2.1 4) (G.2.2.1 0) N K (defaultValue .int) N).heap.size = n + 1 + N := by rw [f1]; show T.heap.size + 1 + N = _; rw [hn]
  have f2' : (Jvm.Free.Multi.fill (T.setVm vm1) (G.2.2.1 4) (G.2.2.1 0) N K (defaultValue .int) N).heap[n]? = some (Jvm.Free.Multi.outerC (G.2.2.1 4) N n N) := by rw [← hn]; exact f2
  have fi' : ∀ j : Nat, j < N → (Jvm.Free.Multi.fill (T.setVm vm1) (G.2.2.1 4) (G.2.2.1 0) N K (defaultValue .int) N).heap[n + 1 + j]? = some (arrV (G.2.2.1 0) K (fun _ => .int 0)) := fun j hj => by rw [← hn, ← arr_rep]; exact fi j hj
  have fo' : ∀ a : Nat, a < n → (Jvm.Free.Multi.fill (T.setVm vm1) (G.2.2.1 4) (G.2.2.1 0) N K (defaultValue .int) N).heap[a]? = H[a]? := fun a ha => by rw [← hT]; exact fo a (Nat.lt_of_lt_of_eq ha hn.symm)
  have hS := X.2.2.1
  have hHn := X.1
  have hsn := hS.1
  have hout : Jvm.Free.Multi.outerC (G.2.2.1 4) N n N = arrV (G.2.2.1 4) N (fun j => va_rf (some (n + 1 + j))) := by
    rw [outerC_arr]
    exact arrV_c (fun j hj => if_pos hj)
  rw [hn] at stp
  have hX1 : vv_X G (n + 1 + N) (vg_H h n N K (G.2.2.1 4) (G.2.2.1 0)) s (Jvm.Free.Multi.fill (T.setVm vm1) (G.2.2.1 4) (G.2.2.1 0) N K (defaultValue .int) N).heap locs := by
   refine ⟨f1', fun b e' hb => ?_, ⟨by rw [f1']; omega, fun x h1 h2 => (fo' x (by omega)).trans (hS.2.1 x h1 h2), hS.2.2⟩, fun b e' hb => ?_⟩
   · unfold vg_H at hb
     by_cases hab : b = n
     · subst hab
       rw [if_pos rfl] at hb
       cases hb
       show _ = some (vp_cell _ _)
       rw [vp_cell_q, f2', hout]
     · rw [if_neg hab] at hb
       by_cases hr : n < b ∧ b < n + 1 + N
       · rw [if_pos hr] at hb
         cases hb
         show _ = some (vp_cell _ _)
         rw [vp_cell_i]
         have := fi' (b - (n + 1)) (by omega)
         rwa [show n + 1 + (b - (n + 1)) = b by omega] at this
       · rw [if_neg hr] at hb
         have h1 := X.2.1 b e' hb
         have h2 : b < H.size := h1.lt
         exact h1.kept (fo' b (by omega))
   · unfold vg_H at hb
     by_cases hab : b = n
     · omega
     · rw [if_neg hab] at hb
       by_cases hr : n < b ∧ b < n + 1 + N
       · omega
       · rw [if_neg hr] at hb
         exact X.2.2.2 b e' hb
  obtain ⟨t2, a1, b1⟩ := kk p e s m args below meth c _ locs ls F hX1 hl _ rfl X1
  exact ⟨t2, stp t2 a1, b1⟩
end VVN
theorem vl_grid {G : vv_G} {X : List va_E} {N K : Nat} : vg_H (vl G X) (G.2.2.2 + X.length) N K (G.2.2.1 4) (G.2.2.1 0) = vl G (X ++ (.inl (G.2.2.1 4, N, .inr (.inr (.inr (.inr (fun j => some (G.2.2.2 + X.length + 1 + j)))))) :: List.replicate N (.inl (G.2.2.1 0, K, .inl (fun _ => 0))))) := by
  funext a
  unfold vg_H vl
  by_cases h1 : a = G.2.2.2 + X.length
  · subst h1
    rw [if_pos rfl, if_neg (by omega), Nat.add_sub_cancel_left, List.getElem?_append_right (Nat.le_refl _), Nat.sub_self]; rfl
  · rw [if_neg h1]
    by_cases h2 : a < G.2.2.2
    · rw [if_neg (by omega), if_pos h2, if_pos h2]
    · rw [if_neg h2, if_neg h2]
      by_cases h3 : a - G.2.2.2 < X.length
      · rw [if_neg (by omega), List.getElem?_append_left h3]
      · rw [List.getElem?_append_right (by omega), show a - G.2.2.2 - X.length = (a - G.2.2.2 - X.length - 1) + 1 by omega, List.getElem?_cons_succ]
        by_cases h4 : G.2.2.2 + X.length < a ∧ a < G.2.2.2 + X.length + 1 + N
        · rw [if_pos h4, List.getElem?_replicate, if_pos (by omega)]
        · rw [if_neg h4, List.getElem?_replicate, if_neg (by omega), List.getElem?_eq_none (by omega)]
theorem vn_at {α : Type} {Y l : List α} {j : Nat} {e : α} (h : l[j]? = some e) : (Y ++ l)[Y.length + j]? = some e := by
  rw [List.getElem?_append_right (by omega), Nat.add_sub_cancel_left, h]
theorem vn_app {α : Type} {Y l l' m : List α} (h : l ++ m = l') : (Y ++ l) ++ m = Y ++ l' := by rw [List.append_assoc, h]
theorem vn_st {α : Type} {Y l l' : List α} {j : Nat} {e : α} (h : l.set j e = l') : (Y ++ l).set (Y.length + j) e = Y ++ l' := by
  rw [List.set_append_right _ _ (by omega), Nat.add_sub_cancel_left, h]
theorem vn_len {α : Type} {Y l : List α} {j : Nat} (h : l.length = j) : (Y ++ l).length = Y.length + j := by rw [List.length_append, h]
theorem vn_lt {α : Type} {X : List α} {o : Nat} {e : α} (h : X[o]? = some e) : o < X.length := (List.getElem?_eq_some_iff.mp h).1
section VNL
variable {G : vv_G} {cc : ByteArray} {M : vv_M} {cells slots pc q c2 s2 : Nat} {L : List (Nat × Value)} {st : List Value} {X X' : List va_E}
theorem vn_eq (h : X = X') (k : vn_V G cc M cells slots pc L st X') : vn_V G cc M cells slots pc L st X := h ▸ k
theorem vn_new {i ci N o : Nat} {fs : List Value} (hf : vv_LN M.1 i ci N fs) (hc2 : cells + 1 = c2) (hs2 : slots + N = s2) (hfc : Nat.ble c2 M.2.2.2.2.1.cells = true) (hfs : Nat.ble s2 M.2.2.2.2.1.slots = true) (hd : decode cc pc = .ok (.new i, 3)) (hq : pc + 3 = q) (ho : X.length = o) (hX : X ++ [.inr (ci, fs)] = X') (kk : vn_V G cc M c2 s2 q L (.ref (G.2.2.2 + o) :: st) X') : vn_V G cc M cells slots pc L st X := by
  subst hc2 hs2 ho hX
  refine vv_new hf hfc hfs hd hq ?_
  rw [vl_app]
  have : (X ++ [(.inr (ci, fs) : va_E)]).length = X.length + 1 := by simp
  unfold vn_V at kk
  rw [this] at kk
  exact kk
theorem vn_newI {N o : Nat} {x : Int32} (hx : x = nI N) (hN : Nat.blt N 100000 = true) (hc2 : cells + 1 = c2) (hs2 : slots + N = s2) (hfc : Nat.ble c2 M.2.2.2.2.1.cells = true) (hfs : Nat.ble s2 M.2.2.2.2.1.slots = true) (hd : decode cc pc = .ok (.newarray .int, 2)) (hq : pc + 2 = q) (ho : X.length = o) (hX : X ++ [.inl (G.2.2.1 0, N, .inl (fun _ => 0))] = X') (kk : vn_V G cc M c2 s2 q L (.ref (G.2.2.2 + o) :: st) X') : vn_V G cc M cells slots pc L (.int x :: st) X := by
  subst hc2 hs2 ho hX
  refine vv_newI hx (Nat.le_of_ble_eq_true hN) hfc hfs hd hq ?_
  rw [vl_app]
  have : (X ++ [(.inl (G.2.2.1 0, N, .inl (fun _ => 0)) : va_E)]).length = X.length + 1 := by simp
  unfold vn_V at kk
  rw [this] at kk
  exact kk
theorem vn_newL {N o : Nat} {x : Int32} (hx : x = nI N) (hN : Nat.blt N 100000 = true) (hc2 : cells + 1 = c2) (hs2 : slots + N = s2) (hfc : Nat.ble c2 M.2.2.2.2.1.cells = true) (hfs : Nat.ble s2 M.2.2.2.2.1.slots = true) (hd : decode cc pc = .ok (.newarray .long, 2)) (hq : pc + 2 = q) (ho : X.length = o) (hX : X ++ [.inl (G.2.2.1 1, N, .inr (.inl (fun _ => 0)))] = X') (kk : vn_V G cc M c2 s2 q L (.ref (G.2.2.2 + o) :: st) X') : vn_V G cc M cells slots pc L (.int x :: st) X := by
  subst hc2 hs2 ho hX
  refine vv_newL hx (Nat.le_of_ble_eq_true hN) hfc hfs hd hq ?_
  rw [vl_app]
  have : (X ++ [(.inl (G.2.2.1 1, N, .inr (.inl (fun _ => 0))) : va_E)]).length = X.length + 1 := by simp
  unfold vn_V at kk
  rw [this] at kk
  exact kk
theorem vn_newQ {C : String} {i t N o : Nat} {cA : ClassId} {x : Int32} (ht : (vv_ty G.2.2.1)[t]? = some (cA, .object C)) (w1 : Cond.classLink M.1 i C ∈ vv_gd) (w2 : Cond.arrayOver (.object C) ∈ vv_aw) (hx : x = nI N) (hN : Nat.blt N 100000 = true) (hc2 : cells + 1 = c2) (hs2 : slots + N = s2) (hfc : Nat.ble c2 M.2.2.2.2.1.cells = true) (hfs : Nat.ble s2 M.2.2.2.2.1.slots = true) (hd : decode cc pc = .ok (.anewarray i, 3)) (hq : pc + 3 = q) (ho : X.length = o) (hX : X ++ [.inl (cA, N, .inr (.inr (.inr (.inr (fun _ => none)))))] = X') (kk : vn_V G cc M c2 s2 q L (.ref (G.2.2.2 + o) :: st) X') : vn_V G cc M cells slots pc L (.int x :: st) X := by
  subst hc2 hs2 ho hX
  refine vv_newQ ht w1 w2 hx (Nat.le_of_ble_eq_true hN) hfc hfs hd hq ?_
  rw [vl_app]
  have : (X ++ [(.inl (cA, N, .inr (.inr (.inr (.inr (fun _ => none))))) : va_E)]).length = X.length + 1 := by simp
  unfold vn_V at kk
  rw [this] at kk
  exact kk
theorem vn_grid {i N K o : Nat} {x y : Int32} (w1 : Cond.classLink M.1 i "[[I" ∈ vv_gd) (hx : x = nI N) (hy : y = nI K) (hN : Nat.blt N 1000 = true) (hK0 : Nat.blt K 1000 = true) (hc2 : cells + 1 + N = c2) (hs2 : slots + N + N * K = s2) (hfc : Nat.ble c2 M.2.2.2.2.1.cells = true) (hfs : Nat.ble s2 M.2.2.2.2.1.slots = true) (hd : decode cc pc = .ok (.multianewarray i 2, 4)) (hq : pc + 4 = q) (ho : X.length = o) (hX : X ++ (.inl (G.2.2.1 4, N, .inr (.inr (.inr (.inr (fun j => some (G.2.2.2 + o + 1 + j)))))) :: List.replicate N (.inl (G.2.2.1 0, K, .inl (fun _ => 0)))) = X') (kk : vn_V G cc M c2 s2 q L (.ref (G.2.2.2 + o) :: st) X') : vn_V G cc M cells slots pc L (.int y :: .int x :: st) X := by
  subst hc2 hs2 ho hX
  refine vv_grid w1 hx hy (Nat.le_of_ble_eq_true hN) (Nat.le_of_ble_eq_true hK0) (by rw [← Nat.add_assoc]; exact hfc) (by rw [← Nat.add_assoc]; exact hfs) hd hq ?_
  rw [vl_grid]
  unfold vn_V at kk
  rw [show (X ++ (.inl (G.2.2.1 4, N, .inr (.inr (.inr (.inr (fun j => some (G.2.2.2 + X.length + 1 + j)))))) :: List.replicate N (.inl (G.2.2.1 0, K, .inl (fun _ => 0)) : va_E))).length = X.length + 1 + N by simp; omega, ← Nat.add_assoc, ← Nat.add_assoc] at kk
  exact kk
theorem vn_get {o ci k i : Nat} {fs : List Value} {v : Value} {ty : FieldType} {fin : Bool} (hf : vv_LF M.1 i ci k ty fin) (he : X[o]? = some (.inr (ci, fs))) (hv : fs[k]? = some v) (hd : decode cc pc = .ok (.getfield i, 3)) (hq : pc + 3 = q) (kk : vn_V G cc M cells slots q L (v :: st) X) : vn_V G cc M cells slots pc L (.ref (G.2.2.2 + o) :: st) X := vv_get hf (vl_at he) hv hd hq kk
theorem vn_put {o ci k i : Nat} {fs : List Value} {v : Value} {ty : FieldType} (hf : vv_LF M.1 i ci k ty false) (he : X[o]? = some (.inr (ci, fs))) (hn : narrow ty v = v) (hfit : fits ty v = true) (hl0 : Nat.blt k fs.length = true) (hd : decode cc pc = .ok (.putfield i, 3)) (hq : pc + 3 = q) (hX : X.set o (.inr (ci, fs.set k v)) = X') (kk : vn_V G cc M cells slots q L st X') : vn_V G cc M cells slots pc L (v :: .ref (G.2.2.2 + o) :: st) X := by
  subst hX
  refine vv_put hf (vl_at he) hn hfit hl0 hd hq ?_
  rw [vl_set (vn_lt he)]
  unfold vn_V at kk
  rw [List.length_set] at kk
  exact kk
theorem vn_putF {o ci k i : Nat} {fs : List Value} {v : Value} {ty : FieldType} (hf : vv_LFF M.1 i ci k ty) (hnm : M.2.2.2.1 = "<init>") (he : X[o]? = some (.inr (ci, fs))) (hn : narrow ty v = v) (hfit : fits ty v = true) (hl0 : Nat.blt k fs.length = true) (hd : decode cc pc = .ok (.putfield i, 3)) (hq : pc + 3 = q) (hX : X.set o (.inr (ci, fs.set k v)) = X') (kk : vn_V G cc M cells slots q L st X') : vn_V G cc M cells slots pc L (v :: .ref (G.2.2.2 + o) :: st) X := by
  subst hX
  refine vv_putF hf hnm (vl_at he) hn hfit hl0 hd hq ?_
  rw [vl_set (vn_lt he)]
  unfold vn_V at kk
  rw [List.length_set] at kk
  exact kk
theorem vn_iast {o k N : Nat} {f : Nat → Int32} {i x : Int32} (he : X[o]? = some (.inl (G.2.2.1 0, N, .inl f))) (hi : i = nI k) (hk : k < N) (hN : Nat.blt N 2147483648 = true) (hd : decode cc pc = .ok (.iastore, 1)) (hq : pc + 1 = q) (hX : X.set o (.inl (G.2.2.1 0, N, .inl (upd f k x))) = X') (kk : vn_V G cc M cells slots q L st X') : vn_V G cc M cells slots pc L (.int x :: .int i :: .ref (G.2.2.2 + o) :: st) X := by
  subst hX
  refine vv_iast (vl_at he) hi hk hN hd hq ?_
  rw [vl_set (vn_lt he)]
  unfold vn_V at kk
  rw [List.length_set] at kk
  exact kk
theorem vn_aast {o w k N ci t0 : Nat} {cA : ClassId} {f : Nat → Option Nat} {r : vw_C} {vs : List Value} {i : Int32} (he : X[o]? = some (.inl (cA, N, .inr (.inr (.inr (.inr f)))))) (ht : (vv_ty G.2.2.1)[t0]? = some (cA, .object r.1)) (hv : X[w]? = some (.inr (ci, vs))) (hc : vv_cl[ci]? = some r) (hi : i = nI k) (hk : k < N) (hN : Nat.blt N 2147483648 = true) (hd : decode cc pc = .ok (.aastore, 1)) (hq : pc + 1 = q) (hX : X.set o (.inl (cA, N, .inr (.inr (.inr (.inr (va_up f k (some (G.2.2.2 + w)))))))) = X') (kk : vn_V G cc M cells slots q L st X') : vn_V G cc M cells slots pc L (.ref (G.2.2.2 + w) :: .int i :: .ref (G.2.2.2 + o) :: st) X := by
  subst hX
  refine vv_aastO (vl_at he) ht (vl_at hv) hc hi hk hN hd hq ?_
  rw [vl_set (vn_lt he)]
  unfold vn_V at kk
  rw [List.length_set] at kk
  exact kk
theorem vn_callI {y : MethodName} {bytes : ByteArray} {maxL : Nat} {rm : Room} {o i : Nat} {Y made : List va_E} {blk : va_E} {stk : List Value} (hc : vn_C G y bytes maxL rm [.ref (G.2.2.2 + Y.length)] (Y ++ [blk]) (Y ++ made)) (hX : X = Y ++ [blk]) (ho : Y.length = o) (hX' : Y ++ made = X') (hlk : vv_LK M.1 i y) (hy : vv_LI y bytes maxL 0) (hst : stk = .ref (G.2.2.2 + o) :: st) (hW : (st.map fun v => v.category).sum ≤ 8) (hR : vv_rm rm maxL M.2.2.2.2.1 = true) (hd : decode cc pc = .ok (.invokespecial i, 3)) (hq : pc + 3 = q) (hc2 : cells + rm.cells = c2) (hs2 : slots + rm.slots = s2) (hfc : Nat.ble c2 M.2.2.2.2.1.cells = true) (hfs : Nat.ble s2 M.2.2.2.2.1.slots = true) (kk : vn_V G cc M c2 s2 q L st X') : vn_V G cc M cells slots pc L stk X := by
  subst hX ho hX' hst
  exact vv_callI hlk hy hc rfl rfl hW hR hd hq hc2 hs2 hfc hfs kk
theorem vn_of {y : MethodName} {maxL : Nat} {rm : Room} {av : List Value} (L : List (Nat × Value)) (hy : plainName y.cls = true) (hl : lv_args 0 av = L) (hs : Nat.ble (lg_sl av).length maxL = true)
    (k : vn_V G cc (y.cls, maxL, none, y.name, rm, fun _ => True, vv_Q G none (G.2.2.2 + X'.length) (vl G X') rm.cells rm.slots) 0 0 0 L [] X) : vn_C G y cc maxL rm av X X' := vv_of L hy hl hs k
end VNL
