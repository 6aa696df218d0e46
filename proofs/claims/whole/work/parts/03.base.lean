/-- the good words of the tables, and those of nest mates and array classes -/
def vv_nest : Cond → Bool
  | .fieldLinkNest _ _ _ _ _ _ => true
  | .methodLinkNest _ _ _ _ => true
  | _ => false
def vv_gd : List Cond := lw_tbl.filter goodWord
def vv_nw : List Cond := lw_tbl.filter vv_nest
def vv_isA : Cond → Bool
  | .arrayOver _ => true
  | _ => false
def vv_aw : List Cond := lw_tbl.filter vv_isA
theorem vv_gd_of {w : Cond} (h : w ∈ lw_tbl) (hg : goodWord w = true) : w ∈ vv_gd := List.mem_filter.mpr ⟨h, hg⟩
theorem vv_nw_of {w : Cond} (h : w ∈ lw_tbl) (hg : vv_nest w = true) : w ∈ vv_nw := List.mem_filter.mpr ⟨h, hg⟩
theorem vv_tb {w : Cond} (i : Nat) (h : tables_1[i]? = some w) : w ∈ lw_tbl := List.mem_append_right _ (List.mem_of_getElem? h)
theorem vv_sb {w : Cond} (i : Nat) (h : (k2_sels lw_privs)[i]? = some w) : w ∈ lw_tbl := List.mem_append_left _ (List.mem_of_getElem? h)
theorem vv_gin {y : MethodName} {b : ByteArray} {k : Nat} {r : Option FieldType} (h : Cond.code y b k r ∈ vv_gd) : GoodIn vv_gd (Cond.code y b k r :: vv_gd) := by
  intro w hw
  have hm : w ∈ vv_gd := by
    rcases List.mem_cons.mp hw with e | e
    · rw [e]; exact h
    · exact e
  exact ⟨hm, good_of_word (List.mem_filter.mp hm).2⟩
/-- the classes of the system -/
def vv_cl : List vw_C := [(RX0, TX0, 1), (RX1, TX1, 5), (RX2, TX2, 3), (RX3, TX3, 1), (RX4, TX4, 3), (RX5, TX5, 1), (RX6, TX6, 2), (RX7, TX7, 2), (RX8, TX8, 4), (RX9, TX9, 13), (RX10, TX10, 31)]
def vv_ty (c : Nat → ClassId) : List (ClassId × FieldType) := [(c 0, .int), (c 1, .long), (c 2, .object RX8), (c 3, .object RX6), (c 4, .array .int)]
/-- launch, classes' numbers, array classes' numbers, the first address of the system's cells -/
abbrev vv_G : Type := Launch × va_G × (Nat → ClassId) × Nat
abbrev vv_H : Type := Nat → Option va_E
def vv_HP (D : va_G) (h : vv_H) (H : Heap) : Prop := ∀ (a : Nat) (e : va_E), h a = some e → va_at D vv_cl (a, e) H
def vv_up (h : vv_H) (a : Nat) (e : va_E) : vv_H := fun b => if b = a then some e else h b
def vv_K (G : vv_G) (U : State) : Prop := va_K G.2.1 vv_cl (vv_ty G.2.2.1) U ∧ (∀ w ∈ vv_nw, va_Nw w U) ∧ ∀ w ∈ vv_aw, w.before #[] U = true
theorem vv_aw_moved {ty : FieldType} {u U : State} (hvm : u.vm.Alike U.vm) (h : (Cond.arrayOver ty).before #[] u = true) : (Cond.arrayOver ty).before #[] U = true := by
  have key : ∀ comp : ClassId, (u.vm.classes.findIdx? fun (x : Class) => match x.kind with | .array component _ => component == comp | _ => false) = (U.vm.classes.findIdx? fun (x : Class) => match x.kind with | .array component _ => component == comp | _ => false) := fun comp => by
    have e0 : u.vm.bare = U.vm.bare := by first | exact hvm.bare_eq | exact hvm.bare_eq.symm
    have e1 := va_idx_bare u.vm comp
    rw [e0] at e1
    exact e1.symm.trans (va_idx_bare U.vm comp)
  have kc : ∀ c : Nat, ((u.vm.classes[c]?).map fun (k : Class) => match k.kind with | .array _ t => decide (t = ty) && decide (u.vm.findClass ("[" ++ ty.toString) = some c) | _ => false) = some true → ((U.vm.classes[c]?).map fun (k : Class) => match k.kind with | .array _ t => decide (t = ty) && decide (U.vm.findClass ("[" ++ ty.toString) = some c) | _ => false) = some true := fun c hc => by
    obtain ⟨k, h1, h2⟩ := Option.map_eq_some_iff.mp hc
    obtain ⟨k', hk', he⟩ := hvm.2.2 _ _ h1
    rw [hk', hvm.findClass]
    have hkind : k'.kind = k.kind := by rw [he]
    simp only [Option.map_some, hkind]
    rw [h2]
  unfold Cond.before Cond.holds at h ⊢
  simp only [Cond.value, beq_iff_eq] at h ⊢
  obtain ⟨comp, e1, h⟩ := Option.bind_eq_some_iff.mp h
  obtain ⟨c, e2, h⟩ := Option.bind_eq_some_iff.mp h
  refine Option.bind_eq_some_iff.mpr ⟨comp, ?_, Option.bind_eq_some_iff.mpr ⟨c, ?_, kc c h⟩⟩
  · cases ty <;> first | exact e1 | (simp only [hvm.findClass] at *; exact e1)
  · exact (key comp).symm.trans e2
def vv_A (G : vv_G) : Nat → Prop := fun q => G.2.2.2 ≤ q
/-- own class, how many locals, what it returns, its name, its room, what else holds at its start, what it comes to -/
abbrev vv_M : Type := String × Nat × Option FieldType × String × Room × (State → Prop) × (List Frame → Array Value → State → State → Prop)
def vv_F (G : vv_G) (cc : ByteArray) (M : vv_M) (p : Program) (s : State) (m : MethodId) (args : Array Value) (meth : Method) (c : Code) : Prop :=
  p.tables.exec = Jvm.exec ∧ c.code = cc ∧ c.maxLocals = M.2.1 ∧ s.vm.findClass M.1 = some m.cls ∧ (∀ w ∈ vv_gd, w.before args s = true) ∧ vv_K G s ∧ meth.locks = false ∧ meth.sig.returnType = M.2.2.1 ∧ meth.name = M.2.2.2.1 ∧ M.2.2.2.2.2.1 s ∧ G.2.2.2 ≤ s.heap.size
def vv_X (G : vv_G) (n : Nat) (h : vv_H) (s : State) (H : Heap) (locs : List Loc) : Prop := H.size = n ∧ vv_HP G.2.1 h H ∧ va_S (vv_A G) s.heap H locs ∧ ∀ (a : Nat) (e : va_E), h a = some e → G.2.2.2 ≤ a
def vv_V (G : vv_G) (cc : ByteArray) (M : vv_M) (cells slots pc : Nat) (L : List (Nat × Value)) (st : List Value) (n : Nat) (h : vv_H) : Prop :=
  ∀ (p : Program) (e : Env) (s : State) (m : MethodId) (args : Array Value) (below : List Frame) (meth : Method) (c : Code) (H : Heap) (locs : List Loc) (ls : Array Slot), vv_F G cc M p s m args meth c → vv_X G n h s H locs → lv_has ls M.2.1 L →
    W p G.1 e M.2.2.2.2.1 s m args below meth c H locs cells slots (M.2.2.2.2.2.2 below args s) (F0 m pc ls st)
/-- a contract: from (n, h) with these arguments, the answer r and the heap (n', h') -/
def vv_QQ (G : vv_G) (r : Option Value) (n' : Nat) (h' : vv_H) : Array Value → State → Outcome → State → Prop := fun _ st o t => o = .returned r ∧ t.heap.size = n' ∧ vv_HP G.2.1 h' t.heap ∧ va_F (vv_A G) st t ∧ ∀ (a : Nat) (e : va_E), h' a = some e → G.2.2.2 ≤ a
def vv_PP (G : vv_G) (av : List Value) (n : Nat) (h : vv_H) : Array Value → State → Prop := va_Pc av (fun U => U.heap.size = n ∧ vv_HP G.2.1 h U.heap ∧ vv_K G U ∧ G.2.2.2 ≤ n ∧ ∀ (a : Nat) (e : va_E), h a = some e → G.2.2.2 ≤ a)
def vv_Q (G : vv_G) (r : Option Value) (n' : Nat) (h' : vv_H) (mc ms : Nat) : List Frame → Array Value → State → State → Prop := fun below args s => MQ below (vv_QQ G r n' h') args s mc ms (vv_A G)
def vv_C (G : vv_G) (y : MethodName) (cc : ByteArray) (maxL : Nat) (ret : Option FieldType) (rm : Room) (av : List Value) (n : Nat) (h : vv_H) (r : Option Value) (n' : Nat) (h' : vv_H) : Prop :=
  Met G.1 y (Cond.code y cc maxL ret :: vv_gd) rm (vv_PP G av n h) (vv_QQ G r n' h') rm.cells rm.slots (vv_A G)
theorem vv_nest_on {w : Cond} (h : vv_nest w = true) : w.onTables = true := by
  cases w <;> first | rfl | (simp [vv_nest] at h; done)
theorem vv_nest_warm {w : Cond} (h : vv_nest w = true) {s U : State} (hW : s.WarmedH U.vm) (hZ : va_Nw w s) : va_Nw w U := by
  cases w <;> first | exact va_Nw.warmF hW hZ | exact va_Nw.warmM hW hZ | (simp [vv_nest] at h; done)
theorem vv_isA_moved {w : Cond} (h : vv_isA w = true) {u U : State} (hvm : u.vm.Alike U.vm) (hZ : w.before #[] u = true) : w.before #[] U = true := by
  cases w <;> first | exact vv_aw_moved hvm hZ | (simp [vv_isA] at h; done)
theorem vv_K.warm {G : vv_G} {s U : State} (hW : s.WarmedH U.vm) (h : vv_K G s) : vv_K G U := ⟨va_K.moved hW.alike h.1, fun w hw => vv_nest_warm (List.mem_filter.mp hw).2 hW (h.2.1 w hw), fun w hw => vv_isA_moved (List.mem_filter.mp hw).2 hW.alike (h.2.2 w hw)⟩
theorem vv_K.call {G : vv_G} {U : State} {g : JFrame} {mk : MethodId} {a : Array Value} (h : vv_K G U) : vv_K G (U.calling g mk a) := ⟨va_K.moved (u := U) (U := U.calling g mk a) (Vm.Alike.refl U.vm) h.1, fun w hw => va_Nw.same (vv_nest_on (List.mem_filter.mp hw).2) (u := U) (U := U.calling g mk a) rfl (h.2.1 w hw), fun w hw => vv_isA_moved (List.mem_filter.mp hw).2 (u := U) (U := U.calling g mk a) (Vm.Alike.refl U.vm) (h.2.2 w hw)⟩
theorem vv_blind {G : vv_G} {av : List Value} {n : Nat} {h : vv_H} : FrameBlind (vv_PP G av n h) := fun a U g mk q => ⟨q.1, q.2.1, q.2.2.1, q.2.2.2.1.call, q.2.2.2.2.1, q.2.2.2.2.2⟩
/-- the contract out of a walk from its entry -/
theorem vv_of {G : vv_G} {y : MethodName} {cc : ByteArray} {maxL : Nat} {ret : Option FieldType} {rm : Room} {av : List Value} {n : Nat} {h : vv_H} {r : Option Value} {n' : Nat} {h' : vv_H} (L : List (Nat × Value)) (hy : plainName y.cls = true) (hl : lv_args 0 av = L) (hs : Nat.ble (lg_sl av).length maxL = true)
    (k : vv_V G cc (y.cls, maxL, ret, y.name, rm, fun _ => True, vv_Q G r n' h' rm.cells rm.slots) 0 0 0 L [] n h) : vv_C G y cc maxL ret rm av n h r n' h' := by
  refine Met.ofW (cc := cc) (maxL := maxL) (ret := ret) hy rfl ?_
  intro p e s m args below meth c s₁ B hml hv
  obtain ⟨rfl, hsz, hP, hK, hB, hd⟩ := hv
  have hts := atoms_spec (ws := Cond.code y cc maxL ret :: vv_gd) B.pre
  have hown : s.vm.findClass y.cls = some m.cls := findClass_of_methodNamed B.named
  have hl1 := lv_entry av (n := maxL) (Nat.le_of_ble_eq_true hs)
  rw [hl] at hl1
  rw [lg_entry_eq]
  exact k p e s m _ below meth c s.heap [] _ ⟨B.exec, B.bytes, hml, hown, fun w hw => hts w (List.mem_cons_of_mem _ hw), hK, B.notSynchronized, B.returns, (name_of_methodNamed B.named B.method).1, trivial, by rw [hsz]; exact hB⟩ ⟨hsz, hP, va_S.rf, hd⟩ hl1
section VVR
variable {G : vv_G} {cc : ByteArray} {M : vv_M} {cells slots pc q : Nat} {L : List (Nat × Value)} {st : List Value} {n : Nat} {h : vv_H}
theorem vv_eqh {h2 : vv_H} (e : h = h2) (k : vv_V G cc M cells slots pc L st n h2) : vv_V G cc M cells slots pc L st n h := e ▸ k
theorem vv_eqL {L2 : List (Nat × Value)} {st2 : List Value} (e : L = L2) (e2 : st = st2) (k : vv_V G cc M cells slots pc L2 st2 n h) : vv_V G cc M cells slots pc L st n h := e ▸ e2 ▸ k
theorem vv_sub {L2 : List (Nat × Value)} (hs : ∀ x ∈ L2, x ∈ L) (k : vv_V G cc M cells slots pc L2 st n h) : vv_V G cc M cells slots pc L st n h := fun p e s m args below meth c H locs ls F X hl => k p e s m args below meth c H locs ls F X ⟨hl.1, hl.2.1, fun x hx => hl.2.2 x (hs x hx)⟩
theorem vv_pick {L2 : List (Nat × Value)} (ks : List Nat) (hs : lv_pick L ks = L2) (k : vv_V G cc M cells slots pc L2 st n h) : vv_V G cc M cells slots pc L st n h := fun p e s m args below meth c H locs ls F X hl => k p e s m args below meth c H locs ls F X (lv_sub hl ks hs)
theorem vv_widen {c2 s2 : Nat} (h1 : cells ≤ c2) (h2 : slots ≤ s2) (k : vv_V G cc M c2 s2 pc L st n h) : vv_V G cc M cells slots pc L st n h := fun p e s m args below meth c H locs ls F X hl => W.widen h1 h2 (k p e s m args below meth c H locs ls F X hl)

theorem vv_iconst {i : Int} {v : Int32} (hd : decode cc pc = .ok (.iconst i, 1)) (hq : pc + 1 = q) (hv : Int32.ofInt i = v) (k : vv_V G cc M cells slots q L (.int v :: st) n h) : vv_V G cc M cells slots pc L (st) n h := by
  subst hq
  intro p e s m args below meth c H locs ls F X hl
  exact lv_iconst F.1 F.2.1 hd hv (k p e s m args below meth c H locs ls F X hl)
theorem vv_bipush {i : Int} {v : Int32} (hd : decode cc pc = .ok (.bipush i, 2)) (hq : pc + 2 = q) (hv : (Int8.ofInt i).toInt32 = v) (k : vv_V G cc M cells slots q L (.int v :: st) n h) : vv_V G cc M cells slots pc L (st) n h := by
  subst hq
  intro p e s m args below meth c H locs ls F X hl
  exact lv_bipush F.1 F.2.1 hd hv (k p e s m args below meth c H locs ls F X hl)
theorem vv_sipush {i : Int} {v : Int32} (hd : decode cc pc = .ok (.sipush i, 3)) (hq : pc + 3 = q) (hv : (Int16.ofInt i).toInt32 = v) (k : vv_V G cc M cells slots q L (.int v :: st) n h) : vv_V G cc M cells slots pc L (st) n h := by
  subst hq
  intro p e s m args below meth c H locs ls F X hl
  exact lv_sipush F.1 F.2.1 hd hv (k p e s m args below meth c H locs ls F X hl)
theorem vv_lconst {i : Fin 2} {v : Int64} (hd : decode cc pc = .ok (.lconst i, 1)) (hq : pc + 1 = q) (hv : Int64.ofNat (i : Nat) = v) (k : vv_V G cc M cells slots q L (.long v :: st) n h) : vv_V G cc M cells slots pc L (st) n h := by
  subst hq
  intro p e s m args below meth c H locs ls F X hl
  exact lv_lconst F.1 F.2.1 hd hv (k p e s m args below meth c H locs ls F X hl)
theorem vv_null  (hd : decode cc pc = .ok (.aconst_null, 1)) (hq : pc + 1 = q) (k : vv_V G cc M cells slots q L (.null :: st) n h) : vv_V G cc M cells slots pc L (st) n h := by
  subst hq
  intro p e s m args below meth c H locs ls F X hl
  exact lv_null F.1 F.2.1 hd (k p e s m args below meth c H locs ls F X hl)
theorem vv_iadd {x y : Int32} (hd : decode cc pc = .ok (.iadd, 1)) (hq : pc + 1 = q) (k : vv_V G cc M cells slots q L (.int (x + y) :: st) n h) : vv_V G cc M cells slots pc L (.int y :: .int x :: st) n h := by
  subst hq
  intro p e s m args below meth c H locs ls F X hl
  exact lv_iadd F.1 F.2.1 hd (k p e s m args below meth c H locs ls F X hl)
theorem vv_isub {x y : Int32} (hd : decode cc pc = .ok (.isub, 1)) (hq : pc + 1 = q) (k : vv_V G cc M cells slots q L (.int (x - y) :: st) n h) : vv_V G cc M cells slots pc L (.int y :: .int x :: st) n h := by
  subst hq
  intro p e s m args below meth c H locs ls F X hl
  exact lv_isub F.1 F.2.1 hd (k p e s m args below meth c H locs ls F X hl)
theorem vv_imul {x y : Int32} (hd : decode cc pc = .ok (.imul, 1)) (hq : pc + 1 = q) (k : vv_V G cc M cells slots q L (.int (x * y) :: st) n h) : vv_V G cc M cells slots pc L (.int y :: .int x :: st) n h := by
  subst hq
  intro p e s m args below meth c H locs ls F X hl
  exact lv_imul F.1 F.2.1 hd (k p e s m args below meth c H locs ls F X hl)
theorem vv_iand {x y : Int32} (hd : decode cc pc = .ok (.iand, 1)) (hq : pc + 1 = q) (k : vv_V G cc M cells slots q L (.int (x &&& y) :: st) n h) : vv_V G cc M cells slots pc L (.int y :: .int x :: st) n h := by
  subst hq
  intro p e s m args below meth c H locs ls F X hl
  exact lv_iand F.1 F.2.1 hd (k p e s m args below meth c H locs ls F X hl)
theorem vv_ishr {x y : Int32} (hd : decode cc pc = .ok (.ishr, 1)) (hq : pc + 1 = q) (k : vv_V G cc M cells slots q L (.int (x >>> (y &&& 31)) :: st) n h) : vv_V G cc M cells slots pc L (.int y :: .int x :: st) n h := by
  subst hq
  intro p e s m args below meth c H locs ls F X hl
  exact lv_ishr F.1 F.2.1 hd (k p e s m args below meth c H locs ls F X hl)
theorem vv_irem {x y : Int32} (hd : decode cc pc = .ok (.irem, 1)) (hq : pc + 1 = q) (hne : ¬ y = 0) (k : vv_V G cc M cells slots q L (.int (x - x / y * y) :: st) n h) : vv_V G cc M cells slots pc L (.int y :: .int x :: st) n h := by
  subst hq
  intro p e s m args below meth c H locs ls F X hl
  exact lv_irem F.1 F.2.1 hd hne (k p e s m args below meth c H locs ls F X hl)
theorem vv_ladd {x y : Int64} (hd : decode cc pc = .ok (.ladd, 1)) (hq : pc + 1 = q) (k : vv_V G cc M cells slots q L (.long (x + y) :: st) n h) : vv_V G cc M cells slots pc L (.long y :: .long x :: st) n h := by
  subst hq
  intro p e s m args below meth c H locs ls F X hl
  exact lv_ladd F.1 F.2.1 hd (k p e s m args below meth c H locs ls F X hl)
theorem vv_lsub {x y : Int64} (hd : decode cc pc = .ok (.lsub, 1)) (hq : pc + 1 = q) (k : vv_V G cc M cells slots q L (.long (x - y) :: st) n h) : vv_V G cc M cells slots pc L (.long y :: .long x :: st) n h := by
  subst hq
  intro p e s m args below meth c H locs ls F X hl
  exact lv_lsub F.1 F.2.1 hd (k p e s m args below meth c H locs ls F X hl)
theorem vv_lmul {x y : Int64} (hd : decode cc pc = .ok (.lmul, 1)) (hq : pc + 1 = q) (k : vv_V G cc M cells slots q L (.long (x * y) :: st) n h) : vv_V G cc M cells slots pc L (.long y :: .long x :: st) n h := by
  subst hq
  intro p e s m args below meth c H locs ls F X hl
  exact lv_lmul F.1 F.2.1 hd (k p e s m args below meth c H locs ls F X hl)
theorem vv_land {x y : Int64} (hd : decode cc pc = .ok (.land, 1)) (hq : pc + 1 = q) (k : vv_V G cc M cells slots q L (.long (x &&& y) :: st) n h) : vv_V G cc M cells slots pc L (.long y :: .long x :: st) n h := by
  subst hq
  intro p e s m args below meth c H locs ls F X hl
  exact lv_land F.1 F.2.1 hd (k p e s m args below meth c H locs ls F X hl)
theorem vv_lor {x y : Int64} (hd : decode cc pc = .ok (.lor, 1)) (hq : pc + 1 = q) (k : vv_V G cc M cells slots q L (.long (x ||| y) :: st) n h) : vv_V G cc M cells slots pc L (.long y :: .long x :: st) n h := by
  subst hq
  intro p e s m args below meth c H locs ls F X hl
  exact lv_lor F.1 F.2.1 hd (k p e s m args below meth c H locs ls F X hl)
theorem vv_lrem {x y : Int64} (hd : decode cc pc = .ok (.lrem, 1)) (hq : pc + 1 = q) (hne : ¬ y = 0) (k : vv_V G cc M cells slots q L (.long (x - x / y * y) :: st) n h) : vv_V G cc M cells slots pc L (.long y :: .long x :: st) n h := by
  subst hq
  intro p e s m args below meth c H locs ls F X hl
  exact lv_lrem F.1 F.2.1 hd hne (k p e s m args below meth c H locs ls F X hl)
theorem vv_ineg {x : Int32} (hd : decode cc pc = .ok (.ineg, 1)) (hq : pc + 1 = q) (k : vv_V G cc M cells slots q L (.int (-x) :: st) n h) : vv_V G cc M cells slots pc L (.int x :: st) n h := by
  subst hq
  intro p e s m args below meth c H locs ls F X hl
  exact lv_ineg F.1 F.2.1 hd (k p e s m args below meth c H locs ls F X hl)
theorem vv_lneg {x : Int64} (hd : decode cc pc = .ok (.lneg, 1)) (hq : pc + 1 = q) (k : vv_V G cc M cells slots q L (.long (-x) :: st) n h) : vv_V G cc M cells slots pc L (.long x :: st) n h := by
  subst hq
  intro p e s m args below meth c H locs ls F X hl
  exact lv_lneg F.1 F.2.1 hd (k p e s m args below meth c H locs ls F X hl)
theorem vv_lshl {x : Int64} {y : Int32} (hd : decode cc pc = .ok (.lshl, 1)) (hq : pc + 1 = q) (k : vv_V G cc M cells slots q L (.long (x <<< (y.toInt64 &&& 63)) :: st) n h) : vv_V G cc M cells slots pc L (.int y :: .long x :: st) n h := by
  subst hq
  intro p e s m args below meth c H locs ls F X hl
  exact lv_lshl F.1 F.2.1 hd rfl (k p e s m args below meth c H locs ls F X hl)
theorem vv_i2l {x : Int32} (hd : decode cc pc = .ok (.i2l, 1)) (hq : pc + 1 = q) (k : vv_V G cc M cells slots q L (.long x.toInt64 :: st) n h) : vv_V G cc M cells slots pc L (.int x :: st) n h := by
  subst hq
  intro p e s m args below meth c H locs ls F X hl
  exact lv_i2l F.1 F.2.1 hd rfl (k p e s m args below meth c H locs ls F X hl)
theorem vv_l2i {x : Int64} (hd : decode cc pc = .ok (.l2i, 1)) (hq : pc + 1 = q) (k : vv_V G cc M cells slots q L (.int x.toInt32 :: st) n h) : vv_V G cc M cells slots pc L (.long x :: st) n h := by
  subst hq
  intro p e s m args below meth c H locs ls F X hl
  exact lv_l2i F.1 F.2.1 hd rfl (k p e s m args below meth c H locs ls F X hl)
theorem vv_i2b {x : Int32} (hd : decode cc pc = .ok (.i2b, 1)) (hq : pc + 1 = q) (k : vv_V G cc M cells slots q L (.int x.toInt8.toInt32 :: st) n h) : vv_V G cc M cells slots pc L (.int x :: st) n h := by
  subst hq
  intro p e s m args below meth c H locs ls F X hl
  exact lv_i2b F.1 F.2.1 hd rfl (k p e s m args below meth c H locs ls F X hl)
theorem vv_i2s {x : Int32} (hd : decode cc pc = .ok (.i2s, 1)) (hq : pc + 1 = q) (k : vv_V G cc M cells slots q L (.int x.toInt16.toInt32 :: st) n h) : vv_V G cc M cells slots pc L (.int x :: st) n h := by
  subst hq
  intro p e s m args below meth c H locs ls F X hl
  exact lv_i2s F.1 F.2.1 hd rfl (k p e s m args below meth c H locs ls F X hl)
theorem vv_lcmp {x y : Int64} (hd : decode cc pc = .ok (.lcmp, 1)) (hq : pc + 1 = q) (k : vv_V G cc M cells slots q L (.int (lg_cmp x y) :: st) n h) : vv_V G cc M cells slots pc L (.long y :: .long x :: st) n h := by
  subst hq
  intro p e s m args below meth c H locs ls F X hl
  exact W.lcmp F.1 F.2.1 hd (k p e s m args below meth c H locs ls F X hl)
theorem vv_dup {v : Value} (hd : decode cc pc = .ok (.dup, 1)) (hq : pc + 1 = q) (hc : v.category = 1) (k : vv_V G cc M cells slots q L (v :: v :: st) n h) : vv_V G cc M cells slots pc L (v :: st) n h := by
  subst hq
  intro p e s m args below meth c H locs ls F X hl
  exact lv_dup F.1 F.2.1 hd hc (k p e s m args below meth c H locs ls F X hl)
theorem vv_dup2 {va vb : Value} (hd : decode cc pc = .ok (.dup2, 1)) (hq : pc + 1 = q) (h1 : va.category = 1) (h2 : vb.category = 1) (k : vv_V G cc M cells slots q L (va :: vb :: va :: vb :: st) n h) : vv_V G cc M cells slots pc L (va :: vb :: st) n h := by
  subst hq
  intro p e s m args below meth c H locs ls F X hl
  exact lv_dup2_11 F.1 F.2.1 hd h1 h2 (k p e s m args below meth c H locs ls F X hl)
theorem vv_iload_n {x : Int32} {k : Fin 4} (i : Nat) (hd : decode cc pc = .ok (.iload_n k, 1)) (hq : pc + 1 = q) (hi : (k : Nat) = i) (j : Nat) (hj : L[j]? = some (i, .int x)) (kk : vv_V G cc M cells slots q L (.int x :: st) n h) : vv_V G cc M cells slots pc L st n h := by
  subst hq
  intro p e s m args below meth c H locs ls F X hl
  exact lv_iload_n F.1 F.2.1 hd hi (lv_at hl j hj) (kk p e s m args below meth c H locs ls F X hl)
theorem vv_iload {x : Int32} {i : Nat} (hd : decode cc pc = .ok (.iload i, 2)) (hq : pc + 2 = q) (j : Nat) (hj : L[j]? = some (i, .int x)) (kk : vv_V G cc M cells slots q L (.int x :: st) n h) : vv_V G cc M cells slots pc L st n h := by
  subst hq
  intro p e s m args below meth c H locs ls F X hl
  exact lv_iload F.1 F.2.1 hd (lv_at hl j hj) (kk p e s m args below meth c H locs ls F X hl)
theorem vv_lload_n {x : Int64} {k : Fin 4} (i : Nat) (hd : decode cc pc = .ok (.lload_n k, 1)) (hq : pc + 1 = q) (hi : (k : Nat) = i) (j : Nat) (hj : L[j]? = some (i, .long x)) (kk : vv_V G cc M cells slots q L (.long x :: st) n h) : vv_V G cc M cells slots pc L st n h := by
  subst hq
  intro p e s m args below meth c H locs ls F X hl
  exact lv_lload_n F.1 F.2.1 hd hi (lv_at hl j hj) (kk p e s m args below meth c H locs ls F X hl)
theorem vv_lload {x : Int64} {i : Nat} (hd : decode cc pc = .ok (.lload i, 2)) (hq : pc + 2 = q) (j : Nat) (hj : L[j]? = some (i, .long x)) (kk : vv_V G cc M cells slots q L (.long x :: st) n h) : vv_V G cc M cells slots pc L st n h := by
  subst hq
  intro p e s m args below meth c H locs ls F X hl
  exact lv_lload F.1 F.2.1 hd (lv_at hl j hj) (kk p e s m args below meth c H locs ls F X hl)
theorem vv_aload_n {x : Nat} {k : Fin 4} (i : Nat) (hd : decode cc pc = .ok (.aload_n k, 1)) (hq : pc + 1 = q) (hi : (k : Nat) = i) (j : Nat) (hj : L[j]? = some (i, .ref x)) (kk : vv_V G cc M cells slots q L (.ref x :: st) n h) : vv_V G cc M cells slots pc L st n h := by
  subst hq
  intro p e s m args below meth c H locs ls F X hl
  exact lv_aload_n F.1 F.2.1 hd hi (lv_at hl j hj) (kk p e s m args below meth c H locs ls F X hl)
theorem vv_aload {x : Nat} {i : Nat} (hd : decode cc pc = .ok (.aload i, 2)) (hq : pc + 2 = q) (j : Nat) (hj : L[j]? = some (i, .ref x)) (kk : vv_V G cc M cells slots q L (.ref x :: st) n h) : vv_V G cc M cells slots pc L st n h := by
  subst hq
  intro p e s m args below meth c H locs ls F X hl
  exact lv_aload F.1 F.2.1 hd (lv_at hl j hj) (kk p e s m args below meth c H locs ls F X hl)
theorem vv_aload_nN {k : Fin 4} (i : Nat) (hd : decode cc pc = .ok (.aload_n k, 1)) (hq : pc + 1 = q) (hi : (k : Nat) = i) (j : Nat) (hj : L[j]? = some (i, .null)) (kk : vv_V G cc M cells slots q L (.null :: st) n h) : vv_V G cc M cells slots pc L st n h := by
  subst hq
  intro p e s m args below meth c H locs ls F X hl
  exact lv_aload_nN F.1 F.2.1 hd hi (lv_at hl j hj) (kk p e s m args below meth c H locs ls F X hl)
theorem vv_aloadN {i : Nat} (hd : decode cc pc = .ok (.aload i, 2)) (hq : pc + 2 = q) (j : Nat) (hj : L[j]? = some (i, .null)) (kk : vv_V G cc M cells slots q L (.null :: st) n h) : vv_V G cc M cells slots pc L st n h := by
  subst hq
  intro p e s m args below meth c H locs ls F X hl
  exact lv_aloadN F.1 F.2.1 hd (lv_at hl j hj) (kk p e s m args below meth c H locs ls F X hl)
theorem vv_istore_n {x : Int32} {k : Fin 4} (i : Nat) (L' : List (Nat × Value)) (hd : decode cc pc = .ok (.istore_n k, 1)) (hq : pc + 1 = q) (hi : (k : Nat) = i) (hn : Nat.blt (i) M.2.1 = true) (hl' : (i, ((.int x) : Value)) :: L.filter (fun x9 => !(x9.1 == i) && !(x9.1 + 1 == i && x9.2.category == 2)) = L') (kk : vv_V G cc M cells slots q L' st n h) : vv_V G cc M cells slots pc L (.int x :: st) n h := by
  subst hq
  intro p e s m args below meth c H locs ls F X hl
  exact lv_istore_n F.1 F.2.1 hd hi hl (Nat.le_of_ble_eq_true hn) hl' (fun ls' hl2 => kk p e s m args below meth c H locs ls' F X hl2)
theorem vv_istore {x : Int32} {i : Nat} (L' : List (Nat × Value)) (hd : decode cc pc = .ok (.istore i, 2)) (hq : pc + 2 = q) (hn : Nat.blt (i) M.2.1 = true) (hl' : (i, ((.int x) : Value)) :: L.filter (fun x9 => !(x9.1 == i) && !(x9.1 + 1 == i && x9.2.category == 2)) = L') (kk : vv_V G cc M cells slots q L' st n h) : vv_V G cc M cells slots pc L (.int x :: st) n h := by
  subst hq
  intro p e s m args below meth c H locs ls F X hl
  exact lv_istore F.1 F.2.1 hd hl (Nat.le_of_ble_eq_true hn) hl' (fun ls' hl2 => kk p e s m args below meth c H locs ls' F X hl2)
theorem vv_lstore_n {x : Int64} {k : Fin 4} (i : Nat) (L' : List (Nat × Value)) (hd : decode cc pc = .ok (.lstore_n k, 1)) (hq : pc + 1 = q) (hi : (k : Nat) = i) (hn : Nat.blt (i + 1) M.2.1 = true) (hl' : (i, ((.long x) : Value)) :: L.filter (fun x9 => !(x9.1 == i) && (!(x9.1 == i + 1) && !(x9.1 + 1 == i && x9.2.category == 2))) = L') (kk : vv_V G cc M cells slots q L' st n h) : vv_V G cc M cells slots pc L (.long x :: st) n h := by
  subst hq
  intro p e s m args below meth c H locs ls F X hl
  exact lv_lstore_n F.1 F.2.1 hd hi hl (Nat.le_of_ble_eq_true hn) hl' (fun ls' hl2 => kk p e s m args below meth c H locs ls' F X hl2)
theorem vv_lstore {x : Int64} {i : Nat} (L' : List (Nat × Value)) (hd : decode cc pc = .ok (.lstore i, 2)) (hq : pc + 2 = q) (hn : Nat.blt (i + 1) M.2.1 = true) (hl' : (i, ((.long x) : Value)) :: L.filter (fun x9 => !(x9.1 == i) && (!(x9.1 == i + 1) && !(x9.1 + 1 == i && x9.2.category == 2))) = L') (kk : vv_V G cc M cells slots q L' st n h) : vv_V G cc M cells slots pc L (.long x :: st) n h := by
  subst hq
  intro p e s m args below meth c H locs ls F X hl
  exact lv_lstore F.1 F.2.1 hd hl (Nat.le_of_ble_eq_true hn) hl' (fun ls' hl2 => kk p e s m args below meth c H locs ls' F X hl2)
theorem vv_astore_n {x : Nat} {k : Fin 4} (i : Nat) (L' : List (Nat × Value)) (hd : decode cc pc = .ok (.astore_n k, 1)) (hq : pc + 1 = q) (hi : (k : Nat) = i) (hn : Nat.blt (i) M.2.1 = true) (hl' : (i, ((.ref x) : Value)) :: L.filter (fun x9 => !(x9.1 == i) && !(x9.1 + 1 == i && x9.2.category == 2)) = L') (kk : vv_V G cc M cells slots q L' st n h) : vv_V G cc M cells slots pc L (.ref x :: st) n h := by
  subst hq
  intro p e s m args below meth c H locs ls F X hl
  exact lv_astore_n F.1 F.2.1 hd hi hl (Nat.le_of_ble_eq_true hn) hl' (fun ls' hl2 => kk p e s m args below meth c H locs ls' F X hl2)
theorem vv_astore {x : Nat} {i : Nat} (L' : List (Nat × Value)) (hd : decode cc pc = .ok (.astore i, 2)) (hq : pc + 2 = q) (hn : Nat.blt (i) M.2.1 = true) (hl' : (i, ((.ref x) : Value)) :: L.filter (fun x9 => !(x9.1 == i) && !(x9.1 + 1 == i && x9.2.category == 2)) = L') (kk : vv_V G cc M cells slots q L' st n h) : vv_V G cc M cells slots pc L (.ref x :: st) n h := by
  subst hq
  intro p e s m args below meth c H locs ls F X hl
  exact lv_astore F.1 F.2.1 hd hl (Nat.le_of_ble_eq_true hn) hl' (fun ls' hl2 => kk p e s m args below meth c H locs ls' F X hl2)
theorem vv_astore_nN  {k : Fin 4} (i : Nat) (L' : List (Nat × Value)) (hd : decode cc pc = .ok (.astore_n k, 1)) (hq : pc + 1 = q) (hi : (k : Nat) = i) (hn : Nat.blt (i) M.2.1 = true) (hl' : (i, ((.null) : Value)) :: L.filter (fun x9 => !(x9.1 == i) && !(x9.1 + 1 == i && x9.2.category == 2)) = L') (kk : vv_V G cc M cells slots q L' st n h) : vv_V G cc M cells slots pc L (.null :: st) n h := by
  subst hq
  intro p e s m args below meth c H locs ls F X hl
  exact lv_astore_nN F.1 F.2.1 hd hi hl (Nat.le_of_ble_eq_true hn) hl' (fun ls' hl2 => kk p e s m args below meth c H locs ls' F X hl2)
theorem vv_astoreN  {i : Nat} (L' : List (Nat × Value)) (hd : decode cc pc = .ok (.astore i, 2)) (hq : pc + 2 = q) (hn : Nat.blt (i) M.2.1 = true) (hl' : (i, ((.null) : Value)) :: L.filter (fun x9 => !(x9.1 == i) && !(x9.1 + 1 == i && x9.2.category == 2)) = L') (kk : vv_V G cc M cells slots q L' st n h) : vv_V G cc M cells slots pc L (.null :: st) n h := by
  subst hq
  intro p e s m args below meth c H locs ls F X hl
  exact lv_astoreN F.1 F.2.1 hd hl (Nat.le_of_ble_eq_true hn) hl' (fun ls' hl2 => kk p e s m args below meth c H locs ls' F X hl2)
theorem vv_iinc {x v : Int32} {i : Nat} {d : Int} (L' : List (Nat × Value)) (hd : decode cc pc = .ok (.iinc i d, 3)) (hq : pc + 3 = q) (j : Nat) (hj : L[j]? = some (i, .int x)) (hv : x + Int32.ofInt d = v) (hn : Nat.blt i M.2.1 = true) (hl' : (i, Value.int v) :: L.filter (fun x9 => !(x9.1 == i) && !(x9.1 + 1 == i && x9.2.category == 2)) = L') (kk : vv_V G cc M cells slots q L' st n h) : vv_V G cc M cells slots pc L st n h := by
  subst hq
  intro p e s m args below meth c H locs ls F X hl
  exact lv_iinc F.1 F.2.1 hd hl hj hv (Nat.le_of_ble_eq_true hn) hl' (fun ls' hl2 => kk p e s m args below meth c H locs ls' F X hl2)
theorem vv_if_eq {x : Int32} {off : Int} (t : Nat) (hd : decode cc pc = .ok (.ifCond .eq off, 3)) (ht : (pc : Int) + off = (t : Int)) (hq : pc + 3 = q) (kt : x = 0 → vv_V G cc M cells slots t L st n h) (kf : ¬ x = 0 → vv_V G cc M cells slots q L st n h) : vv_V G cc M cells slots pc L (.int x :: st) n h := by
  subst hq
  intro p e s m args below meth c H locs ls F X hl
  exact lv_if_eq F.1 F.2.1 hd ht (fun z => kt z p e s m args below meth c H locs ls F X hl) (fun z => kf z p e s m args below meth c H locs ls F X hl)
theorem vv_icmp_eq {x y : Int32} {off : Int} (t : Nat) (hd : decode cc pc = .ok (.if_icmp .eq off, 3)) (ht : (pc : Int) + off = (t : Int)) (hq : pc + 3 = q) (kt : x = y → vv_V G cc M cells slots t L st n h) (kf : ¬ x = y → vv_V G cc M cells slots q L st n h) : vv_V G cc M cells slots pc L (.int y :: .int x :: st) n h := by
  subst hq
  intro p e s m args below meth c H locs ls F X hl
  exact lv_icmp_eq F.1 F.2.1 hd ht (fun z => kt z p e s m args below meth c H locs ls F X hl) (fun z => kf z p e s m args below meth c H locs ls F X hl)
theorem vv_if_ne {x : Int32} {off : Int} (t : Nat) (hd : decode cc pc = .ok (.ifCond .ne off, 3)) (ht : (pc : Int) + off = (t : Int)) (hq : pc + 3 = q) (kt : ¬ x = 0 → vv_V G cc M cells slots t L st n h) (kf : x = 0 → vv_V G cc M cells slots q L st n h) : vv_V G cc M cells slots pc L (.int x :: st) n h := by
  subst hq
  intro p e s m args below meth c H locs ls F X hl
  exact lv_if_ne F.1 F.2.1 hd ht (fun z => kt z p e s m args below meth c H locs ls F X hl) (fun z => kf z p e s m args below meth c H locs ls F X hl)
theorem vv_icmp_ne {x y : Int32} {off : Int} (t : Nat) (hd : decode cc pc = .ok (.if_icmp .ne off, 3)) (ht : (pc : Int) + off = (t : Int)) (hq : pc + 3 = q) (kt : ¬ x = y → vv_V G cc M cells slots t L st n h) (kf : x = y → vv_V G cc M cells slots q L st n h) : vv_V G cc M cells slots pc L (.int y :: .int x :: st) n h := by
  subst hq
  intro p e s m args below meth c H locs ls F X hl
  exact lv_icmp_ne F.1 F.2.1 hd ht (fun z => kt z p e s m args below meth c H locs ls F X hl) (fun z => kf z p e s m args below meth c H locs ls F X hl)
theorem vv_if_lt {x : Int32} {off : Int} (t : Nat) (hd : decode cc pc = .ok (.ifCond .lt off, 3)) (ht : (pc : Int) + off = (t : Int)) (hq : pc + 3 = q) (kt : x < 0 → vv_V G cc M cells slots t L st n h) (kf : ¬ x < 0 → vv_V G cc M cells slots q L st n h) : vv_V G cc M cells slots pc L (.int x :: st) n h := by
  subst hq
  intro p e s m args below meth c H locs ls F X hl
  exact lv_if_lt F.1 F.2.1 hd ht (fun z => kt z p e s m args below meth c H locs ls F X hl) (fun z => kf z p e s m args below meth c H locs ls F X hl)
theorem vv_icmp_lt {x y : Int32} {off : Int} (t : Nat) (hd : decode cc pc = .ok (.if_icmp .lt off, 3)) (ht : (pc : Int) + off = (t : Int)) (hq : pc + 3 = q) (kt : x < y → vv_V G cc M cells slots t L st n h) (kf : ¬ x < y → vv_V G cc M cells slots q L st n h) : vv_V G cc M cells slots pc L (.int y :: .int x :: st) n h := by
  subst hq
  intro p e s m args below meth c H locs ls F X hl
  exact lv_icmp_lt F.1 F.2.1 hd ht (fun z => kt z p e s m args below meth c H locs ls F X hl) (fun z => kf z p e s m args below meth c H locs ls F X hl)
theorem vv_if_ge {x : Int32} {off : Int} (t : Nat) (hd : decode cc pc = .ok (.ifCond .ge off, 3)) (ht : (pc : Int) + off = (t : Int)) (hq : pc + 3 = q) (kt : 0 ≤ x → vv_V G cc M cells slots t L st n h) (kf : ¬ 0 ≤ x → vv_V G cc M cells slots q L st n h) : vv_V G cc M cells slots pc L (.int x :: st) n h := by
  subst hq
  intro p e s m args below meth c H locs ls F X hl
  exact lv_if_ge F.1 F.2.1 hd ht (fun z => kt z p e s m args below meth c H locs ls F X hl) (fun z => kf z p e s m args below meth c H locs ls F X hl)
theorem vv_icmp_ge {x y : Int32} {off : Int} (t : Nat) (hd : decode cc pc = .ok (.if_icmp .ge off, 3)) (ht : (pc : Int) + off = (t : Int)) (hq : pc + 3 = q) (kt : y ≤ x → vv_V G cc M cells slots t L st n h) (kf : ¬ y ≤ x → vv_V G cc M cells slots q L st n h) : vv_V G cc M cells slots pc L (.int y :: .int x :: st) n h := by
  subst hq
  intro p e s m args below meth c H locs ls F X hl
  exact lv_icmp_ge F.1 F.2.1 hd ht (fun z => kt z p e s m args below meth c H locs ls F X hl) (fun z => kf z p e s m args below meth c H locs ls F X hl)
theorem vv_if_gt {x : Int32} {off : Int} (t : Nat) (hd : decode cc pc = .ok (.ifCond .gt off, 3)) (ht : (pc : Int) + off = (t : Int)) (hq : pc + 3 = q) (kt : 0 < x → vv_V G cc M cells slots t L st n h) (kf : ¬ 0 < x → vv_V G cc M cells slots q L st n h) : vv_V G cc M cells slots pc L (.int x :: st) n h := by
  subst hq
  intro p e s m args below meth c H locs ls F X hl
  exact lv_if_gt F.1 F.2.1 hd ht (fun z => kt z p e s m args below meth c H locs ls F X hl) (fun z => kf z p e s m args below meth c H locs ls F X hl)
theorem vv_icmp_gt {x y : Int32} {off : Int} (t : Nat) (hd : decode cc pc = .ok (.if_icmp .gt off, 3)) (ht : (pc : Int) + off = (t : Int)) (hq : pc + 3 = q) (kt : y < x → vv_V G cc M cells slots t L st n h) (kf : ¬ y < x → vv_V G cc M cells slots q L st n h) : vv_V G cc M cells slots pc L (.int y :: .int x :: st) n h := by
  subst hq
  intro p e s m args below meth c H locs ls F X hl
  exact lv_icmp_gt F.1 F.2.1 hd ht (fun z => kt z p e s m args below meth c H locs ls F X hl) (fun z => kf z p e s m args below meth c H locs ls F X hl)
theorem vv_if_le {x : Int32} {off : Int} (t : Nat) (hd : decode cc pc = .ok (.ifCond .le off, 3)) (ht : (pc : Int) + off = (t : Int)) (hq : pc + 3 = q) (kt : x ≤ 0 → vv_V G cc M cells slots t L st n h) (kf : ¬ x ≤ 0 → vv_V G cc M cells slots q L st n h) : vv_V G cc M cells slots pc L (.int x :: st) n h := by
  subst hq
  intro p e s m args below meth c H locs ls F X hl
  exact lv_if_le F.1 F.2.1 hd ht (fun z => kt z p e s m args below meth c H locs ls F X hl) (fun z => kf z p e s m args below meth c H locs ls F X hl)
theorem vv_icmp_le {x y : Int32} {off : Int} (t : Nat) (hd : decode cc pc = .ok (.if_icmp .le off, 3)) (ht : (pc : Int) + off = (t : Int)) (hq : pc + 3 = q) (kt : x ≤ y → vv_V G cc M cells slots t L st n h) (kf : ¬ x ≤ y → vv_V G cc M cells slots q L st n h) : vv_V G cc M cells slots pc L (.int y :: .int x :: st) n h := by
  subst hq
  intro p e s m args below meth c H locs ls F X hl
  exact lv_icmp_le F.1 F.2.1 hd ht (fun z => kt z p e s m args below meth c H locs ls F X hl) (fun z => kf z p e s m args below meth c H locs ls F X hl)
theorem vv_goto {off : Int} (t : Nat) (hd : decode cc pc = .ok (.goto off, 3)) (ht : (pc : Int) + off = (t : Int)) (k : vv_V G cc M cells slots t L st n h) : vv_V G cc M cells slots pc L st n h := by
  intro p e s m args below meth c H locs ls F X hl
  exact lv_goto F.1 F.2.1 hd ht (k p e s m args below meth c H locs ls F X hl)
theorem vv_ifnonnull {x : Nat} {off : Int} (t : Nat) (hd : decode cc pc = .ok (.ifnonnull off, 3)) (ht : (pc : Int) + off = (t : Int)) (k : vv_V G cc M cells slots t L st n h) : vv_V G cc M cells slots pc L (.ref x :: st) n h := by
  intro p e s m args below meth c H locs ls F X hl
  exact lv_ifnonnull F.1 F.2.1 hd ht (k p e s m args below meth c H locs ls F X hl)
theorem vv_ifnonnullN {off : Int} (hd : decode cc pc = .ok (.ifnonnull off, 3)) (hq : pc + 3 = q) (k : vv_V G cc M cells slots q L st n h) : vv_V G cc M cells slots pc L (.null :: st) n h := by
  subst hq
  intro p e s m args below meth c H locs ls F X hl
  exact lv_ifnonnullN F.1 F.2.1 hd (k p e s m args below meth c H locs ls F X hl)
theorem vv_ifnull {x : Nat} {off : Int} (hd : decode cc pc = .ok (.ifnull off, 3)) (hq : pc + 3 = q) (k : vv_V G cc M cells slots q L st n h) : vv_V G cc M cells slots pc L (.ref x :: st) n h := by
  subst hq
  intro p e s m args below meth c H locs ls F X hl
  exact lv_ifnull F.1 F.2.1 hd (k p e s m args below meth c H locs ls F X hl)
theorem vv_ifnullN {off : Int} (t : Nat) (hd : decode cc pc = .ok (.ifnull off, 3)) (ht : (pc : Int) + off = (t : Int)) (k : vv_V G cc M cells slots t L st n h) : vv_V G cc M cells slots pc L (.null :: st) n h := by
  intro p e s m args below meth c H locs ls F X hl
  exact lv_ifnullN F.1 F.2.1 hd ht (k p e s m args below meth c H locs ls F X hl)
theorem vv_tabIn {dflt lo hi : Int} {offs : Array Int} {len : Nat} {x : Int32} {off : Int} (t : Nat) (hd : decode cc pc = .ok (.tableswitch dflt lo hi offs, len)) (h1 : ¬ x.toInt < lo) (h2 : ¬ hi < x.toInt) (ho : offs[(x.toInt - lo).toNat]? = some off) (ht : (pc : Int) + off = (t : Int)) (k : vv_V G cc M cells slots t L st n h) : vv_V G cc M cells slots pc L (.int x :: st) n h := by
  intro p e s m args below meth c H locs ls F X hl
  exact lv_tableIn F.1 F.2.1 hd h1 h2 ho ht (k p e s m args below meth c H locs ls F X hl)
theorem vv_tabOut {dflt lo hi : Int} {offs : Array Int} {len : Nat} {x : Int32} (t : Nat) (hd : decode cc pc = .ok (.tableswitch dflt lo hi offs, len)) (h1 : x.toInt < lo ∨ hi < x.toInt) (ht : (pc : Int) + dflt = (t : Int)) (k : vv_V G cc M cells slots t L st n h) : vv_V G cc M cells slots pc L (.int x :: st) n h := by
  intro p e s m args below meth c H locs ls F X hl
  exact lv_tableOut F.1 F.2.1 hd h1 ht (k p e s m args below meth c H locs ls F X hl)
theorem vv_ldc2 {i : Nat} {v : Int64} (hw : Cond.constantLong M.1 i v ∈ vv_gd) (hd : decode cc pc = .ok (.ldc2_w i, 3)) (hq : pc + 3 = q) (k : vv_V G cc M cells slots q L (.long v :: st) n h) : vv_V G cc M cells slots pc L st n h := by
  subst hq
  intro p e s m args below meth c H locs ls F X hl
  exact lv_ldc2 F.1 F.2.1 F.2.2.2.1 (F.2.2.2.2.1 _ hw) hd (k p e s m args below meth c H locs ls F X hl)


/-! fields -/
def vv_LF (own : String) (i ci k : Nat) (ty : FieldType) (fin : Bool) : Prop := ∃ (C : String) (T : u_T) (N : Nat) (t0 : Nat → FieldType), vv_cl[ci]? = some (C, T, N) ∧ k < N ∧ (∀ w ∈ u_ws C T N, w ∈ vv_gd) ∧ (∀ k, k < N → parseFieldDescriptor (T k).2.2.1 = some (t0 k)) ∧ (∀ a, a < N → ∀ b, b < N → a ≠ b → (T a).2.1 ≠ (T b).2.1) ∧ t0 k = ty ∧ (T k).2.2.2 = fin ∧ (T k).1 = C ∧ (Cond.fieldLink own i (T k).1 (T k).2.1 (T k).2.2.1 ∈ vv_gd ∨ ∃ host, Cond.fieldLinkNest own i (T k).1 (T k).2.1 (T k).2.2.1 host ∈ vv_nw)
theorem vv_one {D : va_G} {a : Nat} {e : va_E} {H : Heap} (hP : vv_HP D h H) (he : h a = some e) : va_P D vv_cl [(a, e)] H := fun k x hk => by
  match k, hk with
  | 0, hk => cases hk; exact hP a e he
  | k + 1, hk => simp at hk
theorem vv_HP_up {D : va_G} {a : Nat} {e : va_E} {H H' : Heap} (hP : vv_HP D h H) (he : va_at D vv_cl (a, e) H') (ho : ∀ x : Nat, x ≠ a → H'[x]? = H[x]?) : vv_HP D (vv_up h a e) H' := by
  intro b e' hb
  unfold vv_up at hb
  by_cases hab : b = a
  · subst hab
    rw [if_pos rfl] at hb
    cases hb
    exact he
  · rw [if_neg hab] at hb
    exact (hP b e' hb).kept (ho b hab)
theorem vv_X_up {s : State} {H H' : Heap} {locs : List Loc} {a k : Nat} {e e0 : va_E} (X : vv_X G n h s H locs) (h0 : h a = some e0) (he : va_at G.2.1 vv_cl (a, e) H') (hz : H'.size = H.size) (ho : ∀ x : Nat, x ≠ a → H'[x]? = H[x]?) : vv_X G n (vv_up h a e) s H' (locs ++ [⟨a, k⟩]) := by
  refine ⟨hz.trans X.1, vv_HP_up X.2.1 he ho, X.2.2.1.put hz ho (X.2.2.2 a e0 h0), fun b e' hb => ?_⟩
  unfold vv_up at hb
  by_cases hab : b = a
  · subst hab
    exact X.2.2.2 _ e0 h0
  · rw [if_neg hab] at hb
    exact X.2.2.2 b e' hb
theorem vv_get {a ci k i : Nat} {fs : List Value} {v : Value} {ty : FieldType} {fin : Bool} (hf : vv_LF M.1 i ci k ty fin) (he : h a = some (.inr (ci, fs))) (hv : fs[k]? = some v) (hd : decode cc pc = .ok (.getfield i, 3)) (hq : pc + 3 = q) (kk : vv_V G cc M cells slots q L (v :: st) n h) : vv_V G cc M cells slots pc L (.ref a :: st) n h := by
  subst hq
  intro p e s m args below meth c H locs ls F X hl
  obtain ⟨C, T, N, t0, hc, hk, hin, hty, hnm, -, -, hdc, hlk⟩ := hf
  have hP := vv_one X.2.1 he
  rcases hlk with hlk | ⟨host, hlk⟩
  · exact va_get F.1 F.2.1 F.2.2.2.2.1 hin F.2.2.2.1 F.2.2.2.2.2.1.1 hP 0 rfl hc k hk (F.2.2.2.2.1 _ hlk) (fun _ z => z) hv hd (kk p e s m args below meth c H locs ls F X hl)
  · exact va_getN F.1 F.2.1 F.2.2.2.2.1 hin F.2.2.2.1 F.2.2.2.2.2.1.1 hP 0 rfl hc k hk (va_Nw.use rfl (F.2.2.2.2.2.1.2.1 _ hlk)) (fun _ z => z) hv hd (kk p e s m args below meth c H locs ls F X hl)
theorem vv_put {a ci k i : Nat} {fs : List Value} {v : Value} {ty : FieldType} (hf : vv_LF M.1 i ci k ty false) (he : h a = some (.inr (ci, fs))) (hn : narrow ty v = v) (hfit : fits ty v = true) (hl0 : Nat.blt k fs.length = true) (hd : decode cc pc = .ok (.putfield i, 3)) (hq : pc + 3 = q) (kk : vv_V G cc M cells slots q L st n (vv_up h a (.inr (ci, fs.set k v)))) : vv_V G cc M cells slots pc L (v :: .ref a :: st) n h := by
  subst hq
  intro p e s m args below meth c H locs ls F X hl
  obtain ⟨C, T, N, t0, hc, hk, hin, hty, hnm, hty2, hfin, hdc, hlk⟩ := hf
  have hl0 := Nat.le_of_ble_eq_true hl0
  have hK := F.2.2.2.2.2.1.1
  have hts := F.2.2.2.2.1
  have hap := va_apart (own := M.1) hts hin t0 hty hnm hK hc
  obtain ⟨r, h1, cell, q1, q2, q3, q4⟩ := X.2.1 a _ he
  have hr : r = (C, T, N) := Option.some.inj (h1.symm.trans hc)
  subst hr
  obtain ⟨hS, hfc, kC, hkC, hkind⟩ := hK.1 ci _ hc
  obtain ⟨cf, kf, fi, f, hi, hsl⟩ := hS k hk
  have hlay := hts _ (hin _ (u_in_lay hk))
  unfold u_lay at hlay
  rw [if_neg (by rw [hfin]; decide)] at hlay
  have hst := (u_facts hfc hkC (u_lays hts hin hk) hi).1
  have h6 := u_store hfc hkC hkind hlay hi (hty k hk) (by rw [hty2]; exact hn) (by rw [hty2]; exact hfit)
  have fin : ∀ H' : Heap, H'[a]? = some (cell.setSlot (G.2.1.2 ci k) v) → H'.size = H.size → (∀ x : Nat, x ≠ a → H'[x]? = H[x]?) → W p G.1 e M.2.2.2.2.1 s m args below meth c H' (locs ++ [⟨a, G.2.1.2 ci k⟩]) cells slots (M.2.2.2.2.2.2 below args s) (F0 m (pc + 3) ls st) := fun H' e1 e2 e3 =>
    kk p e s m args below meth c H' _ ls F (vv_X_up X he ⟨_, hc, t_OB.to (V := updV (vp_V fs) k v) ⟨_, e1, q2, q3, t_set q4 hap hk v⟩ (fun j _ => vp_updV_set hl0 v j)⟩ e2 e3) hl
  rcases hlk with hlk | ⟨host, hlk⟩
  · refine W.putK F.1 F.2.1 (f := f) ⟨F.2.2.2.1, hts _ hlk, ⟨_, _, _, hi⟩, hst⟩ (by rw [q2]; exact h6) q1 q3 (by rw [hsl]; exact k2_hasslot (q4 k hk)) rfl rfl hd fun H' e1 e2 e3 => ?_
    rw [hsl] at e1 ⊢
    exact fin H' e1 e2 e3
  · refine va_WputK F.1 F.2.1 (f := f) F.2.2.2.1 (va_Nw.use rfl (F.2.2.2.2.2.1.2.1 _ hlk)) hi hst (by rw [q2]; exact h6) q1 q3 (by rw [hsl]; exact k2_hasslot (q4 k hk)) rfl rfl hd fun H' e1 e2 e3 => ?_
    rw [hsl] at e1 ⊢
    exact fin H' e1 e2 e3
/-! arrays: places by their number -/
theorem vv_in {i : Int32} {k N : Nat} (hi : i = nI k) (hk : k < N) (hN : Nat.blt N 2147483648 = true) : vp_in i N ∧ i.toNatClampNeg = k := by
  have h1 : N < 2 ^ 31 := Nat.le_of_ble_eq_true hN
  subst hi
  exact ⟨vp_in_nI hk h1, nI_clamp (by omega)⟩
theorem vv_iald {a k N : Nat} {f : Nat → Int32} {i : Int32} (ha : h a = some (.inl (G.2.2.1 0, N, .inl f))) (hi : i = nI k) (hk : k < N) (hN : Nat.blt N 2147483648 = true) (hd : decode cc pc = .ok (.iaload, 1)) (hq : pc + 1 = q) (kk : vv_V G cc M cells slots q L (.int (f k) :: st) n h) : vv_V G cc M cells slots pc L (.int i :: .ref a :: st) n h := by
  subst hq
  intro p e s m args below meth c H locs ls F X hl
  obtain ⟨h1, h2⟩ := vv_in hi hk hN
  refine va_iald F.1 F.2.1 F.2.2.2.2.2.1.1 (vv_one X.2.1 ha) 0 0 rfl rfl h1 hd ?_
  rw [h2]
  exact kk p e s m args below meth c H locs ls F X hl
theorem vv_lald {a k N : Nat} {f : Nat → Int64} {i : Int32} (ha : h a = some (.inl (G.2.2.1 1, N, .inr (.inl f)))) (hi : i = nI k) (hk : k < N) (hN : Nat.blt N 2147483648 = true) (hd : decode cc pc = .ok (.laload, 1)) (hq : pc + 1 = q) (kk : vv_V G cc M cells slots q L (.long (f k) :: st) n h) : vv_V G cc M cells slots pc L (.int i :: .ref a :: st) n h := by
  subst hq
  intro p e s m args below meth c H locs ls F X hl
  obtain ⟨h1, h2⟩ := vv_in hi hk hN
  refine va_lald F.1 F.2.1 F.2.2.2.2.2.1.1 (vv_one X.2.1 ha) 0 1 rfl rfl h1 hd ?_
  rw [h2]
  exact kk p e s m args below meth c H locs ls F X hl
theorem vv_aald {a k N t0 : Nat} {f : Nat → Option Nat} {i : Int32} {ty : FieldType} {cA : ClassId} (ht : (vv_ty G.2.2.1)[t0]? = some (cA, ty)) (hrf : ty.isReference = true) (ha : h a = some (.inl (cA, N, .inr (.inr (.inr (.inr f)))))) (hi : i = nI k) (hk : k < N) (hN : Nat.blt N 2147483648 = true) (hd : decode cc pc = .ok (.aaload, 1)) (hq : pc + 1 = q) (kk : vv_V G cc M cells slots q L (va_rf (f k) :: st) n h) : vv_V G cc M cells slots pc L (.int i :: .ref a :: st) n h := by
  subst hq
  intro p e s m args below meth c H locs ls F X hl
  obtain ⟨h1, h2⟩ := vv_in hi hk hN
  have kk2 := kk p e s m args below meth c H locs ls F X hl
  rw [← h2] at kk2
  exact W.aald (v := va_rf (f i.toNatClampNeg)) (ty := ty) F.1 F.2.1 (X.2.1 a _ ha) ((F.2.2.2.2.2.1.1.2 t0 _ ht).1 N (fun j => va_rf (f j))) hrf (fun x => by cases x) (by show ¬ (i < 0 ∨ (arrV _ _ _).slots.size ≤ _); rw [arrV_size]; exact h1) (by show (arrV _ _ _).slots[_]? = _; rw [arrV_read _ _ (by rw [h2]; exact hk)]) rfl rfl hd kk2
theorem vv_iast {a k N : Nat} {f : Nat → Int32} {i x : Int32} (ha : h a = some (.inl (G.2.2.1 0, N, .inl f))) (hi : i = nI k) (hk : k < N) (hN : Nat.blt N 2147483648 = true) (hd : decode cc pc = .ok (.iastore, 1)) (hq : pc + 1 = q) (kk : vv_V G cc M cells slots q L st n (vv_up h a (.inl (G.2.2.1 0, N, .inl (upd f k x))))) : vv_V G cc M cells slots pc L (.int x :: .int i :: .ref a :: st) n h := by
  subst hq
  intro p e s m args below meth c H locs ls F X hl
  obtain ⟨h1, h2⟩ := vv_in hi hk hN
  refine W.iast F.1 F.2.1 (X.2.1 a _ ha) ((F.2.2.2.2.2.1.1.2 0 _ rfl).1 N (fun j => .int (f j))) (fun x => by cases x) (by show ¬ (i < 0 ∨ (arrV _ _ _).slots.size ≤ _); rw [arrV_size]; exact h1) rfl rfl hd fun H1 e1 z oq => ?_
  refine kk p e s m args below meth c H1 _ ls F (vv_X_up X ha ?_ z oq) hl
  show H1[a]? = some (vp_cell _ _)
  rw [e1, h2]
  rw [vp_cell_i, vp_cell_i, arrV_store]
  congr 2
  funext x9
  by_cases hx : x9 = k
  · subst hx
    simp [updV, upd]
  · simp [updV, upd, hx]
theorem vv_last {a k N : Nat} {f : Nat → Int64} {i : Int32} {x : Int64} (ha : h a = some (.inl (G.2.2.1 1, N, .inr (.inl f)))) (hi : i = nI k) (hk : k < N) (hN : Nat.blt N 2147483648 = true) (hd : decode cc pc = .ok (.lastore, 1)) (hq : pc + 1 = q) (kk : vv_V G cc M cells slots q L st n (vv_up h a (.inl (G.2.2.1 1, N, .inr (.inl (vp_updL f k x)))))) : vv_V G cc M cells slots pc L (.long x :: .int i :: .ref a :: st) n h := by
  subst hq
  intro p e s m args below meth c H locs ls F X hl
  obtain ⟨h1, h2⟩ := vv_in hi hk hN
  refine W.last F.1 F.2.1 (X.2.1 a _ ha) ((F.2.2.2.2.2.1.1.2 1 _ rfl).1 N (fun j => .long (f j))) (fun x => by cases x) (by show ¬ (i < 0 ∨ (arrV _ _ _).slots.size ≤ _); rw [arrV_size]; exact h1) rfl rfl hd fun H1 e1 z oq => ?_
  refine kk p e s m args below meth c H1 _ ls F (vv_X_up X ha ?_ z oq) hl
  show H1[a]? = some (vp_cell _ _)
  rw [e1, h2]
  rw [vp_cell_l, vp_cell_l, arrV_store]
  congr 2
  funext x9
  by_cases hx : x9 = k
  · subst hx
    simp [updV, vp_updL]
  · simp [updV, vp_updL, hx]
theorem vv_alen {a N : Nat} {f : Nat → Int32} (ha : h a = some (.inl (G.2.2.1 0, N, .inl f))) (hd : decode cc pc = .ok (.arraylength, 1)) (hq : pc + 1 = q) (kk : vv_V G cc M cells slots q L (.int (nI N) :: st) n h) : vv_V G cc M cells slots pc L (.ref a :: st) n h := by
  subst hq
  intro p e s m args below meth c H locs ls F X hl
  exact W.alen (n := nI N) F.1 F.2.1 (X.2.1 a _ ha) ((F.2.2.2.2.2.1.1.2 0 _ rfl).1 N (fun j => .int (f j))) (by show (arrV _ _ _).slots.size.toInt32 = _; rw [arrV_size]; rfl) rfl rfl hd (kk p e s m args below meth c H locs ls F X hl)
theorem vv_alenL {a N : Nat} {f : Nat → Int64} (ha : h a = some (.inl (G.2.2.1 1, N, .inr (.inl f)))) (hd : decode cc pc = .ok (.arraylength, 1)) (hq : pc + 1 = q) (kk : vv_V G cc M cells slots q L (.int (nI N) :: st) n h) : vv_V G cc M cells slots pc L (.ref a :: st) n h := by
  subst hq
  intro p e s m args below meth c H locs ls F X hl
  exact W.alen (n := nI N) F.1 F.2.1 (X.2.1 a _ ha) ((F.2.2.2.2.2.1.1.2 1 _ rfl).1 N (fun j => .long (f j))) (by show (arrV _ _ _).slots.size.toInt32 = _; rw [arrV_size]; rfl) rfl rfl hd (kk p e s m args below meth c H locs ls F X hl)
/-! ends -/
theorem vv_iret {r : Option Value} {n' : Nat} {h' : vv_H} {rm : Room} {Ex : State → Prop} {own nm : String} {nL : Nat} {v : Int32} (hd : decode cc pc = .ok (.ireturn, 1)) (hr : r = some (.int v)) (hn : n = n') (hh : h = h') : vv_V G cc (own, nL, some .int, nm, rm, Ex, vv_Q G r n' h' cells slots) cells slots pc L [.int v] n h := by
  subst hr hn hh
  intro p e s m args below meth c H locs ls F X hl
  exact W.iret F.1 F.2.1 F.2.2.2.2.2.2.2.1 (fun t ht hW => ⟨rfl, by rw [ht]; exact X.1, by rw [ht]; exact X.2.1, X.2.2.1.F ht, X.2.2.2⟩) X.2.2.1.2.2 hd F.2.2.2.2.2.2.1
theorem vv_zret {r : Option Value} {n' : Nat} {h' : vv_H} {rm : Room} {Ex : State → Prop} {own nm : String} {nL : Nat} {v : Int32} (hd : decode cc pc = .ok (.ireturn, 1)) (hv : v = 0 ∨ v = 1) (hr : r = some (.int v)) (hn : n = n') (hh : h = h') : vv_V G cc (own, nL, some .boolean, nm, rm, Ex, vv_Q G r n' h' cells slots) cells slots pc L [.int v] n h := by
  subst hr hn hh
  intro p e s m args below meth c H locs ls F X hl
  exact W.zret F.1 F.2.1 F.2.2.2.2.2.2.2.1 (by rcases hv with rfl | rfl <;> rfl) (fun t ht hW => ⟨rfl, by rw [ht]; exact X.1, by rw [ht]; exact X.2.1, X.2.2.1.F ht, X.2.2.2⟩) X.2.2.1.2.2 hd F.2.2.2.2.2.2.1
theorem vv_lret {r : Option Value} {n' : Nat} {h' : vv_H} {rm : Room} {Ex : State → Prop} {own nm : String} {nL : Nat} {v : Int64} (hd : decode cc pc = .ok (.lreturn, 1)) (hr : r = some (.long v)) (hn : n = n') (hh : h = h') : vv_V G cc (own, nL, some .long, nm, rm, Ex, vv_Q G r n' h' cells slots) cells slots pc L [.long v] n h := by
  subst hr hn hh
  intro p e s m args below meth c H locs ls F X hl
  exact W.lret F.1 F.2.1 F.2.2.2.2.2.2.2.1 (fun t ht hW => ⟨rfl, by rw [ht]; exact X.1, by rw [ht]; exact X.2.1, X.2.2.1.F ht, X.2.2.2⟩) X.2.2.1.2.2 hd F.2.2.2.2.2.2.1
theorem vv_aret {r : Option Value} {n' : Nat} {h' : vv_H} {rm : Room} {Ex : State → Prop} {own nm C : String} {nL : Nat} {v : Value} (hd : decode cc pc = .ok (.areturn, 1)) (hv : v = .null ∨ ∃ a, v = .ref a) (hr : r = some v) (hn : n = n') (hh : h = h') : vv_V G cc (own, nL, some (.object C), nm, rm, Ex, vv_Q G r n' h' cells slots) cells slots pc L [v] n h := by
  subst hr hn hh
  intro p e s m args below meth c H locs ls F X hl
  exact W.aret F.1 F.2.1 F.2.2.2.2.2.2.2.1 (Or.inl ⟨_, rfl⟩) hv (fun t ht hW => ⟨rfl, by rw [ht]; exact X.1, by rw [ht]; exact X.2.1, X.2.2.1.F ht, X.2.2.2⟩) X.2.2.1.2.2 hd F.2.2.2.2.2.2.1
theorem vv_vret {r : Option Value} {n' : Nat} {h' : vv_H} {rm : Room} {Ex : State → Prop} {own nm : String} {nL : Nat} (hd : decode cc pc = .ok (.return_, 1)) (hr : r = none) (hn : n = n') (hh : h = h') : vv_V G cc (own, nL, none, nm, rm, Ex, vv_Q G r n' h' cells slots) cells slots pc L [] n h := by
  subst hr hn hh
  intro p e s m args below meth c H locs ls F X hl
  exact W.vret F.1 F.2.1 F.2.2.2.2.2.2.2.1 (fun t ht hW => ⟨rfl, by rw [ht]; exact X.1, by rw [ht]; exact X.2.1, X.2.2.1.F ht, X.2.2.2⟩) X.2.2.1.2.2 hd F.2.2.2.2.2.2.1
/-! calls -/
def vv_LB (y : MethodName) (bytes : ByteArray) (maxL : Nat) (ret : Option FieldType) (k : Nat) : Prop := Cond.initialized y.cls ∈ vv_gd ∧ Cond.code y bytes maxL ret ∈ vv_gd ∧ y.cls ≠ "java/lang/invoke/MethodHandle" ∧ y.cls ≠ "java/lang/invoke/VarHandle" ∧ (parseMethodDescriptor y.desc).map (fun d => d.parameters.length) = some k
def vv_LK (own : String) (i : Nat) (y : MethodName) : Prop := Cond.methodLink own i y ∈ vv_gd ∨ ∃ host, Cond.methodLinkNest own i y host ∈ vv_nw
def vv_LV (y : MethodName) (bytes : ByteArray) (maxL : Nat) (ret : Option FieldType) (k : Nat) : Prop := vv_LB y bytes maxL ret k ∧ Cond.instanceMethod y ∈ vv_gd ∧ Cond.selects y.cls y y ∈ vv_gd
def vv_LS (y : MethodName) (bytes : ByteArray) (maxL : Nat) (ret : Option FieldType) (k : Nat) : Prop := vv_LB y bytes maxL ret k ∧ Cond.static y ∈ vv_gd
def vv_LI (y : MethodName) (bytes : ByteArray) (maxL : Nat) (k : Nat) : Prop := vv_LB y bytes maxL none k ∧ Cond.instanceMethod y ∈ vv_gd ∧ y.name = "<init>"
def vv_rm (rm : Room) (maxL : Nat) (R : Room) : Bool := Nat.ble (rm.frames + 1) R.frames && Nat.ble (8 + (maxL + 11) + rm.locals) R.locals
theorem vv_pre {G : vv_G} {s : State} {H : Heap} {locs : List Loc} {av : List Value} (hK : vv_K G s) (hB : G.2.2.2 ≤ s.heap.size) (X : vv_X G n h s H locs) : ∀ U : State, U.heap = H → s.WarmedH U.vm → vv_PP G av n h av.toArray U := fun U hU hW => ⟨rfl, by rw [hU]; exact X.1, by rw [hU]; exact X.2.1, hK.warm hW, by rw [← X.1]; exact Nat.le_trans hB X.2.2.1.1, X.2.2.2⟩
theorem vv_back {p : Program} {e : Env} {s : State} {m : MethodId} {args : Array Value} {below : List Frame} {meth : Method} {c : Code} {H : Heap} {locs : List Loc} {ls : Array Slot} {r : Option Value} {n' : Nat} {h' : vv_H} {mc ms : Nat} {a : Array Value} {st0 : List Value}
    (F : vv_F G cc M p s m args meth c) (X : vv_X G n h s H locs) (hl : lv_has ls M.2.1 L) (hr : va_Run p G.1 e M.2.2.2.2.1 s m args below meth c H locs cells slots mc ms (F0 m pc ls st0) st (vv_QQ G r n' h' a) (vv_A G)) (kk : vv_V G cc M (cells + mc) (slots + ms) (pc + 3) L (r.toList ++ st) n' h') : W p G.1 e M.2.2.2.2.1 s m args below meth c H locs cells slots (M.2.2.2.2.2.2 below args s) (F0 m pc ls st0) := by
  intro T hT XX
  obtain ⟨v, st₀, t, T', L9, h0, X', hL, e1, e2, ⟨hv, hz, hP, hF, hd⟩, stp⟩ := hr T hT XX
  cases hv
  obtain ⟨hF1, hF2⟩ := hF
  rw [h0] at hF1 hF2
  have hS := X.2.2.1
  obtain ⟨t2, a1, b1⟩ := kk p e s m args below meth c T'.heap (locs ++ L9) ls F ⟨by rw [e1]; exact hz, by rw [e1]; exact hP, ⟨Nat.le_trans hS.1 (by rw [e1]; exact hF1), fun x h1 h2 => by rw [e1, hF2 x (Nat.lt_of_lt_of_le h1 hS.1) h2]; exact hS.2.1 x h1 h2, fun x hx => by
      rcases List.mem_append.mp hx with z | z
      · exact hS.2.2 x z
      · exact hL x z⟩, hd⟩ hl T' rfl X'
  exact ⟨t2, stp t2 a1, b1⟩
theorem vv_callV {y : MethodName} {bytes : ByteArray} {maxL : Nat} {ret : Option FieldType} {rm : Room} {As : List Value} {b ci i k : Nat} {fs : List Value} {r : Option Value} {n' : Nat} {h' : vv_H} {T : u_T} {N c2 s2 : Nat} {stk : List Value} (hlk : vv_LK M.1 i y) (hy : vv_LV y bytes maxL ret k) (hc : vv_C G y bytes maxL ret rm (.ref b :: As) n h r n' h') (hcl : vv_cl[ci]? = some (y.cls, T, N)) (he : h b = some (.inr (ci, fs))) (hn : As.length = k) (hst : stk = As.reverse ++ .ref b :: st) (hW : (st.map fun v => v.category).sum ≤ 8) (hR : vv_rm rm maxL M.2.2.2.2.1 = true) (hd : decode cc pc = .ok (.invokevirtual i, 3)) (hq : pc + 3 = q) (hc2 : cells + rm.cells = c2) (hs2 : slots + rm.slots = s2) (hfc : Nat.ble c2 M.2.2.2.2.1.cells = true) (hfs : Nat.ble s2 M.2.2.2.2.1.slots = true) (kk : vv_V G cc M c2 s2 q L (r.toList ++ st) n' h') : vv_V G cc M cells slots pc L stk n h := by
  subst hq hc2 hs2 hst
  intro p e s m args below meth c H locs ls F X hl
  obtain ⟨⟨hini, hcode, hd1, hd2, hd3⟩, hinst, hsel⟩ := hy
  have hts := F.2.2.2.2.1
  have hR1 := Bool.and_eq_true_iff.mp hR
  have hRR : rm.frames + 1 ≤ M.2.2.2.2.1.frames ∧ 8 + (maxL + 11) + rm.locals ≤ M.2.2.2.2.1.locals := ⟨Nat.le_of_ble_eq_true hR1.1, Nat.le_of_ble_eq_true hR1.2⟩
  have hrecv := va_recv F.2.2.2.2.2.1.1 (vv_one X.2.1 he) hcl (q0 := 0) rfl
  refine vv_back F X hl (a := (Value.ref b :: As).toArray) ?_ kk
  rcases hlk with hlk | ⟨host, hlk⟩
  · exact va_runV ⟨F.1, F.2.1, F.2.2.1, F.2.2.2.1, hts⟩ hc ⟨callB_of k hts (vv_gin hcode) rfl rfl rfl (hts _ hini) (hts _ hlk) ⟨hd1, hd2, hd3⟩ hRR, hts _ hinst, hts _ hsel⟩ ⟨vv_blind, hrecv, vv_pre F.2.2.2.2.2.1 F.2.2.2.2.2.2.2.2.2.2 X⟩ rfl hn hl.1 rfl (lv_room hW) hd ⟨Nat.le_of_ble_eq_true hfc, Nat.le_of_ble_eq_true hfs⟩
  · exact va_runVN ⟨F.1, F.2.1, F.2.2.1, F.2.2.2.1, hts⟩ hc ⟨va_cnB k hts (vv_gin hcode) rfl rfl rfl (F.2.2.2.2.2.1.2.1 _ hlk) (hts _ hini) ⟨hd1, hd2, hd3⟩ hRR, hts _ hinst, hts _ hsel⟩ ⟨vv_blind, hrecv, vv_pre F.2.2.2.2.2.1 F.2.2.2.2.2.2.2.2.2.2 X⟩ rfl hn hl.1 rfl (lv_room hW) hd ⟨Nat.le_of_ble_eq_true hfc, Nat.le_of_ble_eq_true hfs⟩
theorem vv_callS {y : MethodName} {bytes : ByteArray} {maxL : Nat} {ret : Option FieldType} {rm : Room} {As : List Value} {i k : Nat} {r : Option Value} {n' : Nat} {h' : vv_H} {c2 s2 : Nat} {stk : List Value} (hlk : vv_LK M.1 i y) (hy : vv_LS y bytes maxL ret k) (hc : vv_C G y bytes maxL ret rm As n h r n' h') (hn : As.length = k) (hst : stk = As.reverse ++ st) (hW : (st.map fun v => v.category).sum ≤ 8) (hR : vv_rm rm maxL M.2.2.2.2.1 = true) (hd : decode cc pc = .ok (.invokestatic i, 3)) (hq : pc + 3 = q) (hc2 : cells + rm.cells = c2) (hs2 : slots + rm.slots = s2) (hfc : Nat.ble c2 M.2.2.2.2.1.cells = true) (hfs : Nat.ble s2 M.2.2.2.2.1.slots = true) (kk : vv_V G cc M c2 s2 q L (r.toList ++ st) n' h') : vv_V G cc M cells slots pc L stk n h := by
  subst hq hc2 hs2 hst
  intro p e s m args below meth c H locs ls F X hl
  obtain ⟨⟨hini, hcode, hd1, hd2, hd3⟩, hstat⟩ := hy
  have hts := F.2.2.2.2.1
  have hR1 := Bool.and_eq_true_iff.mp hR
  have hRR : rm.frames + 1 ≤ M.2.2.2.2.1.frames ∧ 8 + (maxL + 11) + rm.locals ≤ M.2.2.2.2.1.locals := ⟨Nat.le_of_ble_eq_true hR1.1, Nat.le_of_ble_eq_true hR1.2⟩
  refine vv_back F X hl (a := As.toArray) ?_ kk
  rcases hlk with hlk | ⟨host, hlk⟩
  · exact va_runS ⟨F.1, F.2.1, F.2.2.1, F.2.2.2.1, hts⟩ hc ⟨callB_of k hts (vv_gin hcode) rfl rfl rfl (hts _ hini) (hts _ hlk) ⟨hd1, hd2, hd3⟩ hRR, hts _ hstat⟩ ⟨vv_blind, vv_pre F.2.2.2.2.2.1 F.2.2.2.2.2.2.2.2.2.2 X⟩ rfl hn hl.1 rfl (lv_room hW) hd ⟨Nat.le_of_ble_eq_true hfc, Nat.le_of_ble_eq_true hfs⟩
  · exact va_runSN ⟨F.1, F.2.1, F.2.2.1, F.2.2.2.1, hts⟩ hc ⟨va_cnB k hts (vv_gin hcode) rfl rfl rfl (F.2.2.2.2.2.1.2.1 _ hlk) (hts _ hini) ⟨hd1, hd2, hd3⟩ hRR, hts _ hstat, trivial⟩ ⟨vv_blind, vv_pre F.2.2.2.2.2.1 F.2.2.2.2.2.2.2.2.2.2 X⟩ rfl hn hl.1 rfl (lv_room hW) hd ⟨Nat.le_of_ble_eq_true hfc, Nat.le_of_ble_eq_true hfs⟩
theorem vv_callI {y : MethodName} {bytes : ByteArray} {maxL : Nat} {rm : Room} {As : List Value} {b i k : Nat} {r : Option Value} {n' : Nat} {h' : vv_H} {c2 s2 : Nat} {stk : List Value} (hlk : vv_LK M.1 i y) (hy : vv_LI y bytes maxL k) (hc : vv_C G y bytes maxL none rm (.ref b :: As) n h r n' h') (hn : As.length = k) (hst : stk = As.reverse ++ .ref b :: st) (hW : (st.map fun v => v.category).sum ≤ 8) (hR : vv_rm rm maxL M.2.2.2.2.1 = true) (hd : decode cc pc = .ok (.invokespecial i, 3)) (hq : pc + 3 = q) (hc2 : cells + rm.cells = c2) (hs2 : slots + rm.slots = s2) (hfc : Nat.ble c2 M.2.2.2.2.1.cells = true) (hfs : Nat.ble s2 M.2.2.2.2.1.slots = true) (kk : vv_V G cc M c2 s2 q L (r.toList ++ st) n' h') : vv_V G cc M cells slots pc L stk n h := by
  subst hq hc2 hs2 hst
  intro p e s m args below meth c H locs ls F X hl
  obtain ⟨⟨hini, hcode, hd1, hd2, hd3⟩, hinst, hnm⟩ := hy
  have hts := F.2.2.2.2.1
  have hR1 := Bool.and_eq_true_iff.mp hR
  have hRR : rm.frames + 1 ≤ M.2.2.2.2.1.frames ∧ 8 + (maxL + 11) + rm.locals ≤ M.2.2.2.2.1.locals := ⟨Nat.le_of_ble_eq_true hR1.1, Nat.le_of_ble_eq_true hR1.2⟩
  refine vv_back F X hl (a := (Value.ref b :: As).toArray) ?_ kk
  rcases hlk with hlk | ⟨host, hlk⟩
  · exact va_runI ⟨F.1, F.2.1, F.2.2.1, F.2.2.2.1, hts⟩ hc ⟨callB_of k hts (vv_gin hcode) rfl rfl rfl (hts _ hini) (hts _ hlk) ⟨hd1, hd2, hd3⟩ hRR, hnm, hts _ hinst⟩ ⟨vv_blind, vv_pre F.2.2.2.2.2.1 F.2.2.2.2.2.2.2.2.2.2 X⟩ rfl hn hl.1 rfl (lv_room hW) hd ⟨Nat.le_of_ble_eq_true hfc, Nat.le_of_ble_eq_true hfs⟩
  · exact va_runIN ⟨F.1, F.2.1, F.2.2.1, F.2.2.2.1, hts⟩ hc ⟨va_cnB k hts (vv_gin hcode) rfl rfl rfl (F.2.2.2.2.2.1.2.1 _ hlk) (hts _ hini) ⟨hd1, hd2, hd3⟩ hRR, hnm, hts _ hinst⟩ ⟨vv_blind, vv_pre F.2.2.2.2.2.1 F.2.2.2.2.2.2.2.2.2.2 X⟩ rfl hn hl.1 rfl (lv_room hW) hd ⟨Nat.le_of_ble_eq_true hfc, Nat.le_of_ble_eq_true hfs⟩

end VVR
