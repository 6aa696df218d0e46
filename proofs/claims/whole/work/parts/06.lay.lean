/-- scalars (cell, field), int arrays (cell, place), long arrays, arrays of references (cell, place: the cell's number) -/
abbrev vs_S : Type := (Nat → Nat → Int32) × (Nat → Nat → Int32) × (Nat → Nat → Int64) × (Nat → Nat → Option Nat)
/-- a cell: an array (its kind, its length), or an object (its class, its fields: a scalar, or the cell that it holds) -/
abbrev vs_D : Type := (Nat × Nat) ⊕ (Nat × List (Option Nat))
def vs_T : List vs_D := [.inr (9, [some 1, some 2, some 3, none, some 4, some 7, some 12, some 17, some 28, some 70, some 77, some 79, none]), .inr (5, [none]), .inl (2, 4), .inl (3, 10), .inr (2, [some 5, some 6, none]), .inl (0, 20), .inl (0, 20), .inr (7, [some 8, some 10]), .inr (3, [some 9]), .inl (0, 42), .inr (3, [some 11]), .inl (0, 42), .inr (7, [some 13, some 15]), .inr (3, [some 14]), .inl (0, 42), .inr (3, [some 16]), .inl (0, 42), .inr (1, [some 18, some 20, some 22, some 24, some 26]), .inr (3, [some 19]), .inl (0, 42), .inr (3, [some 21]), .inl (0, 42), .inr (3, [some 23]), .inl (0, 42), .inr (3, [some 25]), .inl (0, 42), .inr (3, [some 27]), .inl (0, 42), .inr (0, [some 29]), .inl (4, 40), .inl (0, 40), .inl (0, 40), .inl (0, 40), .inl (0, 40), .inl (0, 40), .inl (0, 40), .inl (0, 40), .inl (0, 40), .inl (0, 40), .inl (0, 40), .inl (0, 40), .inl (0, 40), .inl (0, 40), .inl (0, 40), .inl (0, 40), .inl (0, 40), .inl (0, 40), .inl (0, 40), .inl (0, 40), .inl (0, 40), .inl (0, 40), .inl (0, 40), .inl (0, 40), .inl (0, 40), .inl (0, 40), .inl (0, 40), .inl (0, 40), .inl (0, 40), .inl (0, 40), .inl (0, 40), .inl (0, 40), .inl (0, 40), .inl (0, 40), .inl (0, 40), .inl (0, 40), .inl (0, 40), .inl (0, 40), .inl (0, 40), .inl (0, 40), .inl (0, 40), .inr (4, [some 71, some 73, some 75]), .inr (3, [some 72]), .inl (0, 42), .inr (3, [some 74]), .inl (0, 42), .inr (3, [some 76]), .inl (0, 42), .inr (3, [some 78]), .inl (0, 42), .inl (0, 6), .inr (8, [some 81, none, none, none]), .inl (1, 60), .inr (8, [some 83, none, none, none]), .inl (1, 60), .inr (8, [some 85, none, none, none]), .inl (1, 60), .inr (8, [some 87, none, none, none]), .inl (1, 60), .inr (6, [some 89, none]), .inr (3, [some 90]), .inl (0, 42), .inr (6, [some 92, none]), .inr (3, [some 93]), .inl (0, 42), .inr (6, [some 95, none]), .inr (3, [some 96]), .inl (0, 42), .inr (6, [some 98, none]), .inr (3, [some 99]), .inl (0, 42), .inr (6, [some 101, none]), .inr (3, [some 102]), .inl (0, 42), .inr (6, [some 104, none]), .inr (3, [some 105]), .inl (0, 42), .inr (6, [some 107, none]), .inr (3, [some 108]), .inl (0, 42), .inr (6, [some 110, none]), .inr (3, [some 111]), .inl (0, 42), .inr (6, [some 113, none]), .inr (3, [some 114]), .inl (0, 42), .inr (6, [some 116, none]), .inr (3, [some 117]), .inl (0, 42), .inr (10, [none, some 119, none, some 120, some 121, some 122, some 123, none, some 124, some 125, some 126, some 127, some 128, some 129, some 130, some 131, some 132, some 133, some 134, some 135, some 136, some 137, some 138, some 139, some 140, some 141, some 142, some 143, none, some 144, some 145]), .inl (0, 6), .inl (0, 4), .inl (0, 4), .inl (1, 240), .inl (1, 60), .inl (0, 10), .inl (0, 410), .inl (0, 41), .inl (0, 90), .inl (0, 90), .inl (0, 1936), .inl (0, 44), .inl (0, 44), .inl (0, 46), .inl (0, 46), .inl (0, 90), .inl (0, 90), .inl (0, 41), .inl (0, 46), .inl (0, 46), .inl (0, 41), .inl (0, 41), .inl (0, 45), .inl (0, 45), .inl (0, 45), .inl (0, 20), .inl (0, 20)]
def vs_fs (B : Nat) (f : Nat → Int32) : Nat → List (Option Nat) → List Value
  | _, [] => []
  | i, none :: r => .int (f i) :: vs_fs B f (i + 1) r
  | i, some o :: r => .ref (B + o) :: vs_fs B f (i + 1) r
def vs_rf (B : Nat) (f : Nat → Option Nat) : Nat → Option Nat := fun i => (f i).map (fun x => B + x)
def vs_den (c : Nat → ClassId) (B : Nat) (S : vs_S) (k : Nat) : vs_D → va_E
  | .inl (0, N) => .inl (c 0, N, .inl (S.2.1 k))
  | .inl (1, N) => .inl (c 1, N, .inr (.inl (S.2.2.1 k)))
  | .inl (t, N) => .inl (c t, N, .inr (.inr (.inr (.inr (vs_rf B (S.2.2.2 k))))))
  | .inr (ci, fds) => .inr (ci, vs_fs B (S.1 k) 0 fds)
def vs_lay (G : vv_G) (S : vs_S) : vv_H := fun a => if a < G.2.2.2 then none else (vs_T[a - G.2.2.2]?).map (vs_den G.2.2.1 G.2.2.2 S (a - G.2.2.2))
def vs_u2 {α : Type} (f : Nat → Nat → α) (a : Nat) (g : Nat → α) : Nat → Nat → α := fun b => if b = a then g else f b
def vs_sc (S : vs_S) (o k : Nat) (v : Int32) : vs_S := (vs_u2 S.1 o (upd (S.1 o) k v), S.2)
def vs_ia (S : vs_S) (o : Nat) (f : Nat → Int32) : vs_S := (S.1, vs_u2 S.2.1 o f, S.2.2)
def vs_la (S : vs_S) (o : Nat) (f : Nat → Int64) : vs_S := (S.1, S.2.1, vs_u2 S.2.2.1 o f, S.2.2.2)
def vs_ra (S : vs_S) (o : Nat) (f : Nat → Option Nat) : vs_S := (S.1, S.2.1, S.2.2.1, vs_u2 S.2.2.2 o f)
theorem vs_u2_s {α : Type} {f : Nat → Nat → α} {a : Nat} {g : Nat → α} : vs_u2 f a g a = g := if_pos rfl
theorem vs_u2_n {α : Type} {f : Nat → Nat → α} {a b : Nat} {g : Nat → α} (h : b ≠ a) : vs_u2 f a g b = f b := if_neg h
theorem vs_u2_u {α : Type} {f : Nat → Nat → α} {a : Nat} {g g' : Nat → α} : vs_u2 (vs_u2 f a g) a g' = vs_u2 f a g' := by
  funext b
  unfold vs_u2
  by_cases h : b = a <;> simp [h]
theorem vs_u2_self {α : Type} {f : Nat → Nat → α} {a : Nat} : vs_u2 f a (f a) = f := by
  funext b
  unfold vs_u2
  by_cases h : b = a
  · rw [if_pos h, h]
  · rw [if_neg h]
theorem vs_u2_c {α : Type} {f : Nat → Nat → α} {a b : Nat} {g g' : Nat → α} (h : a ≠ b) : vs_u2 (vs_u2 f a g) b g' = vs_u2 (vs_u2 f b g') a g := by
  funext x
  unfold vs_u2
  by_cases h1 : x = a <;> by_cases h2 : x = b <;> simp [h1, h2]
  · subst h1; exact absurd h2 h
  · intro e; exact absurd e h
  · intro e; exact absurd e.symm h
theorem vs_lay_at {G : vv_G} {S : vs_S} {o : Nat} {d : vs_D} (hT : vs_T[o]? = some d) : vs_lay G S (G.2.2.2 + o) = some (vs_den G.2.2.1 G.2.2.2 S o d) := by
  unfold vs_lay
  rw [if_neg (by omega), Nat.add_sub_cancel_left, hT]
  rfl
/-- two states that agree but at one cell -/
theorem vs_lay_up {G : vv_G} {S S' : vs_S} {o : Nat} {d : vs_D} {e : va_E} (hT : vs_T[o]? = some d) (he : vs_den G.2.2.1 G.2.2.2 S' o d = e) (hk : ∀ (k : Nat) (d' : vs_D), k ≠ o → vs_den G.2.2.1 G.2.2.2 S' k d' = vs_den G.2.2.1 G.2.2.2 S k d') : vv_up (vs_lay G S) (G.2.2.2 + o) e = vs_lay G S' := by
  funext a
  unfold vv_up
  by_cases h1 : a = G.2.2.2 + o
  · subst h1
    rw [if_pos rfl, vs_lay_at hT, he]
  · rw [if_neg h1]
    unfold vs_lay
    by_cases h2 : a < G.2.2.2
    · rw [if_pos h2, if_pos h2]
    · rw [if_neg h2, if_neg h2]
      cases hd : vs_T[a - G.2.2.2]? with
      | none => rfl
      | some d' =>
        simp only [Option.map_some]
        rw [hk (a - G.2.2.2) d' (by omega)]
theorem vs_den_k {c : Nat → ClassId} {B : Nat} {S S' : vs_S} {k : Nat} (h1 : S'.1 k = S.1 k) (h2 : S'.2.1 k = S.2.1 k) (h3 : S'.2.2.1 k = S.2.2.1 k) (h4 : S'.2.2.2 k = S.2.2.2 k) (d : vs_D) : vs_den c B S' k d = vs_den c B S k d := by
  unfold vs_den
  split <;> simp only [h1, h2, h3, h4]
theorem vs_fs_set {B : Nat} {f : Nat → Int32} {v : Int32} : ∀ (fds : List (Option Nat)) (i k : Nat), fds[k]? = some none → (vs_fs B f i fds).set k (.int v) = vs_fs B (upd f (i + k) v) i fds
  | [], i, k, h => by simp at h
  | none :: r, i, 0, h => by
    have e : ∀ (r : List (Option Nat)) (j : Nat), i < j → vs_fs B (upd f (i + 0) v) j r = vs_fs B f j r := by
      intro r
      induction r with
      | nil => intro j _; rfl
      | cons x r ih =>
        intro j hj
        cases x with
        | none =>
          show Value.int (upd f (i + 0) v j) :: vs_fs B (upd f (i + 0) v) (j + 1) r = _
          rw [ih (j + 1) (by omega)]
          simp [upd, show ¬ j = i by omega, vs_fs]
        | some o =>
          show Value.ref (B + o) :: vs_fs B (upd f (i + 0) v) (j + 1) r = _
          rw [ih (j + 1) (by omega)]
          rfl
    show Value.int v :: vs_fs B f (i + 1) r = Value.int (upd f (i + 0) v i) :: vs_fs B (upd f (i + 0) v) (i + 1) r
    rw [e r (i + 1) (by omega)]
    simp [upd]
  | none :: r, i, k + 1, h => by
    show Value.int (f i) :: (vs_fs B f (i + 1) r).set k (.int v) = Value.int (upd f (i + (k + 1)) v i) :: vs_fs B (upd f (i + (k + 1)) v) (i + 1) r
    rw [vs_fs_set r (i + 1) k (by simpa using h), show i + 1 + k = i + (k + 1) by omega]
    simp [upd]
  | some o :: r, i, 0, h => by simp at h
  | some o :: r, i, k + 1, h => by
    show Value.ref (B + o) :: (vs_fs B f (i + 1) r).set k (.int v) = Value.ref (B + o) :: vs_fs B (upd f (i + (k + 1)) v) (i + 1) r
    rw [vs_fs_set r (i + 1) k (by simpa using h), show i + 1 + k = i + (k + 1) by omega]
theorem vs_fs_len {B : Nat} {f : Nat → Int32} : ∀ (fds : List (Option Nat)) (i : Nat), (vs_fs B f i fds).length = fds.length
  | [], _ => rfl
  | none :: r, i => by show (vs_fs B f (i + 1) r).length + 1 = _; rw [vs_fs_len r]; rfl
  | some _ :: r, i => by show (vs_fs B f (i + 1) r).length + 1 = _; rw [vs_fs_len r]; rfl
theorem vs_lay_sc {G : vv_G} {S : vs_S} {o k ci : Nat} {fds : List (Option Nat)} {v : Int32} (hT : vs_T[o]? = some (.inr (ci, fds))) (hk : fds[k]? = some none) : vv_up (vs_lay G S) (G.2.2.2 + o) (.inr (ci, (vs_fs G.2.2.2 (S.1 o) 0 fds).set k (.int v))) = vs_lay G (vs_sc S o k v) := by
  refine vs_lay_up hT ?_ (fun j d' hj => vs_den_k (S := S) (S' := vs_sc S o k v) (vs_u2_n hj) rfl rfl rfl d')
  show Sum.inr (ci, vs_fs _ (vs_u2 S.1 o (upd (S.1 o) k v) o) 0 fds) = _
  rw [vs_u2_s, vs_fs_set fds 0 k hk, Nat.zero_add]
theorem vs_lay_ia {G : vv_G} {S : vs_S} {o N : Nat} {f : Nat → Int32} (hT : vs_T[o]? = some (.inl (0, N))) : vv_up (vs_lay G S) (G.2.2.2 + o) (.inl (G.2.2.1 0, N, .inl f)) = vs_lay G (vs_ia S o f) := by
  refine vs_lay_up hT ?_ (fun j d' hj => vs_den_k (S := S) (S' := vs_ia S o f) rfl (vs_u2_n hj) rfl rfl d')
  show Sum.inl (_, N, Sum.inl (vs_u2 S.2.1 o f o)) = _
  rw [vs_u2_s]
theorem vs_lay_la {G : vv_G} {S : vs_S} {o N : Nat} {f : Nat → Int64} (hT : vs_T[o]? = some (.inl (1, N))) : vv_up (vs_lay G S) (G.2.2.2 + o) (.inl (G.2.2.1 1, N, .inr (.inl f))) = vs_lay G (vs_la S o f) := by
  refine vs_lay_up hT ?_ (fun j d' hj => vs_den_k (S := S) (S' := vs_la S o f) rfl rfl (vs_u2_n hj) rfl d')
  show Sum.inl (_, N, Sum.inr (Sum.inl (vs_u2 S.2.2.1 o f o))) = _
  rw [vs_u2_s]
/-- a contract over the system's state -/
def vs_C (G : vv_G) (y : MethodName) (cc : ByteArray) (maxL : Nat) (ret : Option FieldType) (rm : Room) (av : List Value) (S : vs_S) (r : Option Value) (S' : vs_S) : Prop := vv_C G y cc maxL ret rm av (G.2.2.2 + 146) (vs_lay G S) r (G.2.2.2 + 146) (vs_lay G S')
def vs_V (G : vv_G) (cc : ByteArray) (M : vv_M) (pc : Nat) (L : List (Nat × Value)) (st : List Value) (S : vs_S) : Prop := vv_V G cc M 0 0 pc L st (G.2.2.2 + 146) (vs_lay G S)
section VSR
variable {G : vv_G} {cc : ByteArray} {M : vv_M} {pc q : Nat} {L : List (Nat × Value)} {st : List Value} {S : vs_S}
theorem vs_eq {S2 : vs_S} (e : S = S2) (k : vs_V G cc M pc L st S2) : vs_V G cc M pc L st S := e ▸ k
theorem vs_pick {L2 : List (Nat × Value)} (ks : List Nat) (hs : lv_pick L ks = L2) (k : vs_V G cc M pc L2 st S) : vs_V G cc M pc L st S := vv_pick ks hs k
theorem vs_topi {x : Int32} (k : ∀ y : Int32, y = x → vs_V G cc M pc L (.int y :: st) S) : vs_V G cc M pc L (.int x :: st) S := k x rfl
theorem vs_topl {x : Int64} (k : ∀ y : Int64, y = x → vs_V G cc M pc L (.long y :: st) S) : vs_V G cc M pc L (.long x :: st) S := k x rfl
theorem vs_get {o ci k i : Nat} {fds : List (Option Nat)} {v : Value} {ty : FieldType} {fin : Bool} (hf : vv_LF M.1 i ci k ty fin) (hT : vs_T[o]? = some (.inr (ci, fds))) (hv : (vs_fs G.2.2.2 (S.1 o) 0 fds)[k]? = some v) (hd : decode cc pc = .ok (.getfield i, 3)) (hq : pc + 3 = q) (kk : vs_V G cc M q L (v :: st) S) : vs_V G cc M pc L (.ref (G.2.2.2 + o) :: st) S := vv_get hf (vs_lay_at hT) hv hd hq kk
theorem vs_put {o ci k i : Nat} {fds : List (Option Nat)} {v : Int32} {ty : FieldType} (hf : vv_LF M.1 i ci k ty false) (hT : vs_T[o]? = some (.inr (ci, fds))) (hk : fds[k]? = some none) (hn : narrow ty (.int v) = .int v) (hfit : fits ty (.int v) = true) (hd : decode cc pc = .ok (.putfield i, 3)) (hq : pc + 3 = q) (kk : vs_V G cc M q L st (vs_sc S o k v)) : vs_V G cc M pc L (.int v :: .ref (G.2.2.2 + o) :: st) S := by
  refine vv_put (fs := vs_fs G.2.2.2 (S.1 o) 0 fds) hf (vs_lay_at hT) hn hfit ?_ hd hq ?_
  · rw [vs_fs_len]
    exact Nat.ble_eq_true_of_le (List.getElem?_eq_some_iff.mp hk).1
  · rw [vs_lay_sc hT hk]
    exact kk
theorem vs_iald {o k N : Nat} {i : Int32} (hT : vs_T[o]? = some (.inl (0, N))) (hi : i = nI k) (hk : k < N) (hN : Nat.blt N 2147483648 = true) (hd : decode cc pc = .ok (.iaload, 1)) (hq : pc + 1 = q) (kk : vs_V G cc M q L (.int (S.2.1 o k) :: st) S) : vs_V G cc M pc L (.int i :: .ref (G.2.2.2 + o) :: st) S := vv_iald (vs_lay_at hT) hi hk hN hd hq kk
theorem vs_lald {o k N : Nat} {i : Int32} (hT : vs_T[o]? = some (.inl (1, N))) (hi : i = nI k) (hk : k < N) (hN : Nat.blt N 2147483648 = true) (hd : decode cc pc = .ok (.laload, 1)) (hq : pc + 1 = q) (kk : vs_V G cc M q L (.long (S.2.2.1 o k) :: st) S) : vs_V G cc M pc L (.int i :: .ref (G.2.2.2 + o) :: st) S := vv_lald (vs_lay_at hT) hi hk hN hd hq kk
theorem vs_iast {o k N : Nat} {i x : Int32} (hT : vs_T[o]? = some (.inl (0, N))) (hi : i = nI k) (hk : k < N) (hN : Nat.blt N 2147483648 = true) (hd : decode cc pc = .ok (.iastore, 1)) (hq : pc + 1 = q) (kk : vs_V G cc M q L st (vs_ia S o (upd (S.2.1 o) k x))) : vs_V G cc M pc L (.int x :: .int i :: .ref (G.2.2.2 + o) :: st) S := by
  refine vv_iast (vs_lay_at hT) hi hk hN hd hq ?_
  rw [vs_lay_ia hT]
  exact kk
theorem vs_last {o k N : Nat} {i : Int32} {x : Int64} (hT : vs_T[o]? = some (.inl (1, N))) (hi : i = nI k) (hk : k < N) (hN : Nat.blt N 2147483648 = true) (hd : decode cc pc = .ok (.lastore, 1)) (hq : pc + 1 = q) (kk : vs_V G cc M q L st (vs_la S o (vp_updL (S.2.2.1 o) k x))) : vs_V G cc M pc L (.long x :: .int i :: .ref (G.2.2.2 + o) :: st) S := by
  refine vv_last (vs_lay_at hT) hi hk hN hd hq ?_
  rw [vs_lay_la hT]
  exact kk
theorem vs_aald {o k N t : Nat} {i : Int32} {ty : FieldType} {a : Nat} (hT : vs_T[o]? = some (.inl (t + 2, N))) (ht : (vv_ty G.2.2.1)[t + 2]? = some (G.2.2.1 (t + 2), ty)) (hrf : ty.isReference = true) (hi : i = nI k) (hk : k < N) (hN : Nat.blt N 2147483648 = true) (ha : S.2.2.2 o k = some a) (hd : decode cc pc = .ok (.aaload, 1)) (hq : pc + 1 = q) (kk : vs_V G cc M q L (.ref (G.2.2.2 + a) :: st) S) : vs_V G cc M pc L (.int i :: .ref (G.2.2.2 + o) :: st) S := by
  refine vv_aald ht hrf (vs_lay_at hT) hi hk hN hd hq ?_
  show vv_V G cc M 0 0 q L (va_rf ((S.2.2.2 o k).map _) :: st) _ _
  rw [ha]
  exact kk
theorem vs_alen {o N : Nat} (hT : vs_T[o]? = some (.inl (0, N))) (hd : decode cc pc = .ok (.arraylength, 1)) (hq : pc + 1 = q) (kk : vs_V G cc M q L (.int (nI N) :: st) S) : vs_V G cc M pc L (.ref (G.2.2.2 + o) :: st) S := vv_alen (vs_lay_at hT) hd hq kk
theorem vs_alenL {o N : Nat} (hT : vs_T[o]? = some (.inl (1, N))) (hd : decode cc pc = .ok (.arraylength, 1)) (hq : pc + 1 = q) (kk : vs_V G cc M q L (.int (nI N) :: st) S) : vs_V G cc M pc L (.ref (G.2.2.2 + o) :: st) S := vv_alenL (vs_lay_at hT) hd hq kk
theorem vs_callV {y : MethodName} {bytes : ByteArray} {maxL : Nat} {ret : Option FieldType} {rm : Room} {As : List Value} {o ci i k : Nat} {fds : List (Option Nat)} {r : Option Value} {S' : vs_S} {T : u_T} {N : Nat} {stk : List Value} (hc : vs_C G y bytes maxL ret rm (.ref (G.2.2.2 + o) :: As) S r S') (hlk : vv_LK M.1 i y) (hy : vv_LV y bytes maxL ret k) (hcl : vv_cl[ci]? = some (y.cls, T, N)) (hT : vs_T[o]? = some (.inr (ci, fds))) (hn : As.length = k) (hst : stk = As.reverse ++ .ref (G.2.2.2 + o) :: st) (hW : (st.map fun v => v.category).sum ≤ 8) (hR : vv_rm rm maxL M.2.2.2.2.1 = true) (h0 : rm.cells = 0 ∧ rm.slots = 0) (hd : decode cc pc = .ok (.invokevirtual i, 3)) (hq : pc + 3 = q) (kk : vs_V G cc M q L (r.toList ++ st) S') : vs_V G cc M pc L stk S :=
  vv_callV (c2 := 0) (s2 := 0) hlk hy hc hcl (vs_lay_at hT) hn hst hW hR hd hq (by rw [h0.1]) (by rw [h0.2]) (Nat.ble_eq_true_of_le (Nat.zero_le _)) (Nat.ble_eq_true_of_le (Nat.zero_le _)) kk
theorem vs_callS {y : MethodName} {bytes : ByteArray} {maxL : Nat} {ret : Option FieldType} {rm : Room} {As : List Value} {i k : Nat} {r : Option Value} {S' : vs_S} {stk : List Value} (hc : vs_C G y bytes maxL ret rm As S r S') (hlk : vv_LK M.1 i y) (hy : vv_LS y bytes maxL ret k) (hn : As.length = k) (hst : stk = As.reverse ++ st) (hW : (st.map fun v => v.category).sum ≤ 8) (hR : vv_rm rm maxL M.2.2.2.2.1 = true) (h0 : rm.cells = 0 ∧ rm.slots = 0) (hd : decode cc pc = .ok (.invokestatic i, 3)) (hq : pc + 3 = q) (kk : vs_V G cc M q L (r.toList ++ st) S') : vs_V G cc M pc L stk S :=
  vv_callS (c2 := 0) (s2 := 0) hlk hy hc hn hst hW hR hd hq (by rw [h0.1]) (by rw [h0.2]) (Nat.ble_eq_true_of_le (Nat.zero_le _)) (Nat.ble_eq_true_of_le (Nat.zero_le _)) kk
end VSR
def vs_M (y : MethodName) (maxL : Nat) (ret : Option FieldType) (rm : Room) (G : vv_G) (r : Option Value) (S' : vs_S) : vv_M := (y.cls, maxL, ret, y.name, rm, fun _ => True, vv_Q G r (G.2.2.2 + 146) (vs_lay G S') 0 0)
theorem vs_of {G : vv_G} {y : MethodName} {cc : ByteArray} {maxL : Nat} {ret : Option FieldType} {fr lo : Nat} {av : List Value} {S : vs_S} {r : Option Value} {S' : vs_S} (L : List (Nat × Value)) (hy : plainName y.cls = true) (hl : lv_args 0 av = L) (hs : Nat.ble (lg_sl av).length maxL = true)
    (k : vs_V G cc (vs_M y maxL ret { frames := fr, locals := lo } G r S') 0 L [] S) : vs_C G y cc maxL ret { frames := fr, locals := lo } av S r S' := vv_of L hy hl hs k
section VSE
variable {G : vv_G} {cc : ByteArray} {pc q : Nat} {L : List (Nat × Value)} {S S' : vs_S} {y : MethodName} {maxL : Nat} {rm : Room} {r : Option Value}
theorem vs_iret {v : Int32} (hd : decode cc pc = .ok (.ireturn, 1)) (hr : r = some (.int v)) (hh : S = S') : vs_V G cc (vs_M y maxL (some .int) rm G r S') pc L [.int v] S := vv_iret hd hr rfl (by rw [hh])
theorem vs_zret {v : Int32} (hd : decode cc pc = .ok (.ireturn, 1)) (hv : v = 0 ∨ v = 1) (hr : r = some (.int v)) (hh : S = S') : vs_V G cc (vs_M y maxL (some .boolean) rm G r S') pc L [.int v] S := vv_zret hd hv hr rfl (by rw [hh])
theorem vs_lret {v : Int64} (hd : decode cc pc = .ok (.lreturn, 1)) (hr : r = some (.long v)) (hh : S = S') : vs_V G cc (vs_M y maxL (some .long) rm G r S') pc L [.long v] S := vv_lret hd hr rfl (by rw [hh])
theorem vs_aret {C : String} {v : Value} (hd : decode cc pc = .ok (.areturn, 1)) (hv : v = .null ∨ ∃ a, v = .ref a) (hr : r = some v) (hh : S = S') : vs_V G cc (vs_M y maxL (some (.object C)) rm G r S') pc L [v] S := vv_aret hd hv hr rfl (by rw [hh])
theorem vs_vret (hd : decode cc pc = .ok (.return_, 1)) (hr : r = none) (hh : S = S') : vs_V G cc (vs_M y maxL none rm G r S') pc L [] S := vv_vret hd hr rfl (by rw [hh])
end VSE
section VST
variable {G : vv_G} {cc : ByteArray} {M : vv_M} {pc q : Nat} {L : List (Nat × Value)} {st : List Value} {S : vs_S}
theorem vs_iconst {i : Int} {v : Int32} (hd : decode cc pc = .ok (.iconst i, 1)) (hq : pc + 1 = q) (hv : Int32.ofInt i = v) (k : vs_V G cc M q L (.int v :: st) S) : vs_V G cc M pc L (st) S := vv_iconst hd hq hv k
theorem vs_bipush {i : Int} {v : Int32} (hd : decode cc pc = .ok (.bipush i, 2)) (hq : pc + 2 = q) (hv : (Int8.ofInt i).toInt32 = v) (k : vs_V G cc M q L (.int v :: st) S) : vs_V G cc M pc L (st) S := vv_bipush hd hq hv k
theorem vs_sipush {i : Int} {v : Int32} (hd : decode cc pc = .ok (.sipush i, 3)) (hq : pc + 3 = q) (hv : (Int16.ofInt i).toInt32 = v) (k : vs_V G cc M q L (.int v :: st) S) : vs_V G cc M pc L (st) S := vv_sipush hd hq hv k
theorem vs_lconst {i : Fin 2} {v : Int64} (hd : decode cc pc = .ok (.lconst i, 1)) (hq : pc + 1 = q) (hv : Int64.ofNat (i : Nat) = v) (k : vs_V G cc M q L (.long v :: st) S) : vs_V G cc M pc L (st) S := vv_lconst hd hq hv k
theorem vs_null  (hd : decode cc pc = .ok (.aconst_null, 1)) (hq : pc + 1 = q) (k : vs_V G cc M q L (.null :: st) S) : vs_V G cc M pc L (st) S := vv_null hd hq k
theorem vs_iadd {x y : Int32} (hd : decode cc pc = .ok (.iadd, 1)) (hq : pc + 1 = q) (k : vs_V G cc M q L (.int (x + y) :: st) S) : vs_V G cc M pc L (.int y :: .int x :: st) S := vv_iadd hd hq k
theorem vs_isub {x y : Int32} (hd : decode cc pc = .ok (.isub, 1)) (hq : pc + 1 = q) (k : vs_V G cc M q L (.int (x - y) :: st) S) : vs_V G cc M pc L (.int y :: .int x :: st) S := vv_isub hd hq k
theorem vs_imul {x y : Int32} (hd : decode cc pc = .ok (.imul, 1)) (hq : pc + 1 = q) (k : vs_V G cc M q L (.int (x * y) :: st) S) : vs_V G cc M pc L (.int y :: .int x :: st) S := vv_imul hd hq k
theorem vs_iand {x y : Int32} (hd : decode cc pc = .ok (.iand, 1)) (hq : pc + 1 = q) (k : vs_V G cc M q L (.int (x &&& y) :: st) S) : vs_V G cc M pc L (.int y :: .int x :: st) S := vv_iand hd hq k
theorem vs_ishr {x y : Int32} (hd : decode cc pc = .ok (.ishr, 1)) (hq : pc + 1 = q) (k : vs_V G cc M q L (.int (x >>> (y &&& 31)) :: st) S) : vs_V G cc M pc L (.int y :: .int x :: st) S := vv_ishr hd hq k
theorem vs_irem {x y : Int32} (hd : decode cc pc = .ok (.irem, 1)) (hq : pc + 1 = q) (hne : ¬ y = 0) (k : vs_V G cc M q L (.int (x - x / y * y) :: st) S) : vs_V G cc M pc L (.int y :: .int x :: st) S := vv_irem hd hq hne k
theorem vs_ladd {x y : Int64} (hd : decode cc pc = .ok (.ladd, 1)) (hq : pc + 1 = q) (k : vs_V G cc M q L (.long (x + y) :: st) S) : vs_V G cc M pc L (.long y :: .long x :: st) S := vv_ladd hd hq k
theorem vs_lsub {x y : Int64} (hd : decode cc pc = .ok (.lsub, 1)) (hq : pc + 1 = q) (k : vs_V G cc M q L (.long (x - y) :: st) S) : vs_V G cc M pc L (.long y :: .long x :: st) S := vv_lsub hd hq k
theorem vs_lmul {x y : Int64} (hd : decode cc pc = .ok (.lmul, 1)) (hq : pc + 1 = q) (k : vs_V G cc M q L (.long (x * y) :: st) S) : vs_V G cc M pc L (.long y :: .long x :: st) S := vv_lmul hd hq k
theorem vs_land {x y : Int64} (hd : decode cc pc = .ok (.land, 1)) (hq : pc + 1 = q) (k : vs_V G cc M q L (.long (x &&& y) :: st) S) : vs_V G cc M pc L (.long y :: .long x :: st) S := vv_land hd hq k
theorem vs_lor {x y : Int64} (hd : decode cc pc = .ok (.lor, 1)) (hq : pc + 1 = q) (k : vs_V G cc M q L (.long (x ||| y) :: st) S) : vs_V G cc M pc L (.long y :: .long x :: st) S := vv_lor hd hq k
theorem vs_lrem {x y : Int64} (hd : decode cc pc = .ok (.lrem, 1)) (hq : pc + 1 = q) (hne : ¬ y = 0) (k : vs_V G cc M q L (.long (x - x / y * y) :: st) S) : vs_V G cc M pc L (.long y :: .long x :: st) S := vv_lrem hd hq hne k
theorem vs_ineg {x : Int32} (hd : decode cc pc = .ok (.ineg, 1)) (hq : pc + 1 = q) (k : vs_V G cc M q L (.int (-x) :: st) S) : vs_V G cc M pc L (.int x :: st) S := vv_ineg hd hq k
theorem vs_lneg {x : Int64} (hd : decode cc pc = .ok (.lneg, 1)) (hq : pc + 1 = q) (k : vs_V G cc M q L (.long (-x) :: st) S) : vs_V G cc M pc L (.long x :: st) S := vv_lneg hd hq k
theorem vs_lshl {x : Int64} {y : Int32} (hd : decode cc pc = .ok (.lshl, 1)) (hq : pc + 1 = q) (k : vs_V G cc M q L (.long (x <<< (y.toInt64 &&& 63)) :: st) S) : vs_V G cc M pc L (.int y :: .long x :: st) S := vv_lshl hd hq k
theorem vs_i2l {x : Int32} (hd : decode cc pc = .ok (.i2l, 1)) (hq : pc + 1 = q) (k : vs_V G cc M q L (.long x.toInt64 :: st) S) : vs_V G cc M pc L (.int x :: st) S := vv_i2l hd hq k
theorem vs_l2i {x : Int64} (hd : decode cc pc = .ok (.l2i, 1)) (hq : pc + 1 = q) (k : vs_V G cc M q L (.int x.toInt32 :: st) S) : vs_V G cc M pc L (.long x :: st) S := vv_l2i hd hq k
theorem vs_i2b {x : Int32} (hd : decode cc pc = .ok (.i2b, 1)) (hq : pc + 1 = q) (k : vs_V G cc M q L (.int x.toInt8.toInt32 :: st) S) : vs_V G cc M pc L (.int x :: st) S := vv_i2b hd hq k
theorem vs_i2s {x : Int32} (hd : decode cc pc = .ok (.i2s, 1)) (hq : pc + 1 = q) (k : vs_V G cc M q L (.int x.toInt16.toInt32 :: st) S) : vs_V G cc M pc L (.int x :: st) S := vv_i2s hd hq k
theorem vs_lcmp {x y : Int64} (hd : decode cc pc = .ok (.lcmp, 1)) (hq : pc + 1 = q) (k : vs_V G cc M q L (.int (lg_cmp x y) :: st) S) : vs_V G cc M pc L (.long y :: .long x :: st) S := vv_lcmp hd hq k
theorem vs_dup {v : Value} (hd : decode cc pc = .ok (.dup, 1)) (hq : pc + 1 = q) (hc : v.category = 1) (k : vs_V G cc M q L (v :: v :: st) S) : vs_V G cc M pc L (v :: st) S := vv_dup hd hq hc k
theorem vs_dup2 {va vb : Value} (hd : decode cc pc = .ok (.dup2, 1)) (hq : pc + 1 = q) (h1 : va.category = 1) (h2 : vb.category = 1) (k : vs_V G cc M q L (va :: vb :: va :: vb :: st) S) : vs_V G cc M pc L (va :: vb :: st) S := vv_dup2 hd hq h1 h2 k
theorem vs_iload_n {x : Int32} {k : Fin 4} (i : Nat) (hd : decode cc pc = .ok (.iload_n k, 1)) (hq : pc + 1 = q) (hi : (k : Nat) = i) (j : Nat) (hj : L[j]? = some (i, .int x)) (kk : vs_V G cc M q L (.int x :: st) S) : vs_V G cc M pc L st S := vv_iload_n i hd hq hi j hj kk
theorem vs_iload {x : Int32} {i : Nat} (hd : decode cc pc = .ok (.iload i, 2)) (hq : pc + 2 = q) (j : Nat) (hj : L[j]? = some (i, .int x)) (kk : vs_V G cc M q L (.int x :: st) S) : vs_V G cc M pc L st S := vv_iload hd hq j hj kk
theorem vs_lload_n {x : Int64} {k : Fin 4} (i : Nat) (hd : decode cc pc = .ok (.lload_n k, 1)) (hq : pc + 1 = q) (hi : (k : Nat) = i) (j : Nat) (hj : L[j]? = some (i, .long x)) (kk : vs_V G cc M q L (.long x :: st) S) : vs_V G cc M pc L st S := vv_lload_n i hd hq hi j hj kk
theorem vs_lload {x : Int64} {i : Nat} (hd : decode cc pc = .ok (.lload i, 2)) (hq : pc + 2 = q) (j : Nat) (hj : L[j]? = some (i, .long x)) (kk : vs_V G cc M q L (.long x :: st) S) : vs_V G cc M pc L st S := vv_lload hd hq j hj kk
theorem vs_aload_n {x : Nat} {k : Fin 4} (i : Nat) (hd : decode cc pc = .ok (.aload_n k, 1)) (hq : pc + 1 = q) (hi : (k : Nat) = i) (j : Nat) (hj : L[j]? = some (i, .ref x)) (kk : vs_V G cc M q L (.ref x :: st) S) : vs_V G cc M pc L st S := vv_aload_n i hd hq hi j hj kk
theorem vs_aload {x : Nat} {i : Nat} (hd : decode cc pc = .ok (.aload i, 2)) (hq : pc + 2 = q) (j : Nat) (hj : L[j]? = some (i, .ref x)) (kk : vs_V G cc M q L (.ref x :: st) S) : vs_V G cc M pc L st S := vv_aload hd hq j hj kk
theorem vs_aload_nN {k : Fin 4} (i : Nat) (hd : decode cc pc = .ok (.aload_n k, 1)) (hq : pc + 1 = q) (hi : (k : Nat) = i) (j : Nat) (hj : L[j]? = some (i, .null)) (kk : vs_V G cc M q L (.null :: st) S) : vs_V G cc M pc L st S := vv_aload_nN i hd hq hi j hj kk
theorem vs_aloadN {i : Nat} (hd : decode cc pc = .ok (.aload i, 2)) (hq : pc + 2 = q) (j : Nat) (hj : L[j]? = some (i, .null)) (kk : vs_V G cc M q L (.null :: st) S) : vs_V G cc M pc L st S := vv_aloadN hd hq j hj kk
theorem vs_istore_n {x : Int32} {k : Fin 4} (i : Nat) (L' : List (Nat × Value)) (hd : decode cc pc = .ok (.istore_n k, 1)) (hq : pc + 1 = q) (hi : (k : Nat) = i) (hn : Nat.blt (i) M.2.1 = true) (hl' : (i, ((.int x) : Value)) :: L.filter (fun x9 => !(x9.1 == i) && !(x9.1 + 1 == i && x9.2.category == 2)) = L') (kk : vs_V G cc M q L' st S) : vs_V G cc M pc L (.int x :: st) S := vv_istore_n i L' hd hq hi hn hl' kk
theorem vs_istore {x : Int32} {i : Nat} (L' : List (Nat × Value)) (hd : decode cc pc = .ok (.istore i, 2)) (hq : pc + 2 = q) (hn : Nat.blt (i) M.2.1 = true) (hl' : (i, ((.int x) : Value)) :: L.filter (fun x9 => !(x9.1 == i) && !(x9.1 + 1 == i && x9.2.category == 2)) = L') (kk : vs_V G cc M q L' st S) : vs_V G cc M pc L (.int x :: st) S := vv_istore L' hd hq hn hl' kk
theorem vs_lstore_n {x : Int64} {k : Fin 4} (i : Nat) (L' : List (Nat × Value)) (hd : decode cc pc = .ok (.lstore_n k, 1)) (hq : pc + 1 = q) (hi : (k : Nat) = i) (hn : Nat.blt (i + 1) M.2.1 = true) (hl' : (i, ((.long x) : Value)) :: L.filter (fun x9 => !(x9.1 == i) && (!(x9.1 == i + 1) && !(x9.1 + 1 == i && x9.2.category == 2))) = L') (kk : vs_V G cc M q L' st S) : vs_V G cc M pc L (.long x :: st) S := vv_lstore_n i L' hd hq hi hn hl' kk
theorem vs_lstore {x : Int64} {i : Nat} (L' : List (Nat × Value)) (hd : decode cc pc = .ok (.lstore i, 2)) (hq : pc + 2 = q) (hn : Nat.blt (i + 1) M.2.1 = true) (hl' : (i, ((.long x) : Value)) :: L.filter (fun x9 => !(x9.1 == i) && (!(x9.1 == i + 1) && !(x9.1 + 1 == i && x9.2.category == 2))) = L') (kk : vs_V G cc M q L' st S) : vs_V G cc M pc L (.long x :: st) S := vv_lstore L' hd hq hn hl' kk
theorem vs_astore_n {x : Nat} {k : Fin 4} (i : Nat) (L' : List (Nat × Value)) (hd : decode cc pc = .ok (.astore_n k, 1)) (hq : pc + 1 = q) (hi : (k : Nat) = i) (hn : Nat.blt (i) M.2.1 = true) (hl' : (i, ((.ref x) : Value)) :: L.filter (fun x9 => !(x9.1 == i) && !(x9.1 + 1 == i && x9.2.category == 2)) = L') (kk : vs_V G cc M q L' st S) : vs_V G cc M pc L (.ref x :: st) S := vv_astore_n i L' hd hq hi hn hl' kk
theorem vs_astore {x : Nat} {i : Nat} (L' : List (Nat × Value)) (hd : decode cc pc = .ok (.astore i, 2)) (hq : pc + 2 = q) (hn : Nat.blt (i) M.2.1 = true) (hl' : (i, ((.ref x) : Value)) :: L.filter (fun x9 => !(x9.1 == i) && !(x9.1 + 1 == i && x9.2.category == 2)) = L') (kk : vs_V G cc M q L' st S) : vs_V G cc M pc L (.ref x :: st) S := vv_astore L' hd hq hn hl' kk
theorem vs_astore_nN  {k : Fin 4} (i : Nat) (L' : List (Nat × Value)) (hd : decode cc pc = .ok (.astore_n k, 1)) (hq : pc + 1 = q) (hi : (k : Nat) = i) (hn : Nat.blt (i) M.2.1 = true) (hl' : (i, ((.null) : Value)) :: L.filter (fun x9 => !(x9.1 == i) && !(x9.1 + 1 == i && x9.2.category == 2)) = L') (kk : vs_V G cc M q L' st S) : vs_V G cc M pc L (.null :: st) S := vv_astore_nN i L' hd hq hi hn hl' kk
theorem vs_astoreN  {i : Nat} (L' : List (Nat × Value)) (hd : decode cc pc = .ok (.astore i, 2)) (hq : pc + 2 = q) (hn : Nat.blt (i) M.2.1 = true) (hl' : (i, ((.null) : Value)) :: L.filter (fun x9 => !(x9.1 == i) && !(x9.1 + 1 == i && x9.2.category == 2)) = L') (kk : vs_V G cc M q L' st S) : vs_V G cc M pc L (.null :: st) S := vv_astoreN L' hd hq hn hl' kk
theorem vs_iinc {x v : Int32} {i : Nat} {d : Int} (L' : List (Nat × Value)) (hd : decode cc pc = .ok (.iinc i d, 3)) (hq : pc + 3 = q) (j : Nat) (hj : L[j]? = some (i, .int x)) (hv : x + Int32.ofInt d = v) (hn : Nat.blt i M.2.1 = true) (hl' : (i, Value.int v) :: L.filter (fun x9 => !(x9.1 == i) && !(x9.1 + 1 == i && x9.2.category == 2)) = L') (kk : vs_V G cc M q L' st S) : vs_V G cc M pc L st S := vv_iinc L' hd hq j hj hv hn hl' kk
theorem vs_if_eq {x : Int32} {off : Int} (t : Nat) (hd : decode cc pc = .ok (.ifCond .eq off, 3)) (ht : (pc : Int) + off = (t : Int)) (hq : pc + 3 = q) (kt : x = 0 → vs_V G cc M t L st S) (kf : ¬ x = 0 → vs_V G cc M q L st S) : vs_V G cc M pc L (.int x :: st) S := vv_if_eq t hd ht hq kt kf
theorem vs_icmp_eq {x y : Int32} {off : Int} (t : Nat) (hd : decode cc pc = .ok (.if_icmp .eq off, 3)) (ht : (pc : Int) + off = (t : Int)) (hq : pc + 3 = q) (kt : x = y → vs_V G cc M t L st S) (kf : ¬ x = y → vs_V G cc M q L st S) : vs_V G cc M pc L (.int y :: .int x :: st) S := vv_icmp_eq t hd ht hq kt kf
theorem vs_if_ne {x : Int32} {off : Int} (t : Nat) (hd : decode cc pc = .ok (.ifCond .ne off, 3)) (ht : (pc : Int) + off = (t : Int)) (hq : pc + 3 = q) (kt : ¬ x = 0 → vs_V G cc M t L st S) (kf : x = 0 → vs_V G cc M q L st S) : vs_V G cc M pc L (.int x :: st) S := vv_if_ne t hd ht hq kt kf
theorem vs_icmp_ne {x y : Int32} {off : Int} (t : Nat) (hd : decode cc pc = .ok (.if_icmp .ne off, 3)) (ht : (pc : Int) + off = (t : Int)) (hq : pc + 3 = q) (kt : ¬ x = y → vs_V G cc M t L st S) (kf : x = y → vs_V G cc M q L st S) : vs_V G cc M pc L (.int y :: .int x :: st) S := vv_icmp_ne t hd ht hq kt kf
theorem vs_if_lt {x : Int32} {off : Int} (t : Nat) (hd : decode cc pc = .ok (.ifCond .lt off, 3)) (ht : (pc : Int) + off = (t : Int)) (hq : pc + 3 = q) (kt : x < 0 → vs_V G cc M t L st S) (kf : ¬ x < 0 → vs_V G cc M q L st S) : vs_V G cc M pc L (.int x :: st) S := vv_if_lt t hd ht hq kt kf
theorem vs_icmp_lt {x y : Int32} {off : Int} (t : Nat) (hd : decode cc pc = .ok (.if_icmp .lt off, 3)) (ht : (pc : Int) + off = (t : Int)) (hq : pc + 3 = q) (kt : x < y → vs_V G cc M t L st S) (kf : ¬ x < y → vs_V G cc M q L st S) : vs_V G cc M pc L (.int y :: .int x :: st) S := vv_icmp_lt t hd ht hq kt kf
theorem vs_if_ge {x : Int32} {off : Int} (t : Nat) (hd : decode cc pc = .ok (.ifCond .ge off, 3)) (ht : (pc : Int) + off = (t : Int)) (hq : pc + 3 = q) (kt : 0 ≤ x → vs_V G cc M t L st S) (kf : ¬ 0 ≤ x → vs_V G cc M q L st S) : vs_V G cc M pc L (.int x :: st) S := vv_if_ge t hd ht hq kt kf
theorem vs_icmp_ge {x y : Int32} {off : Int} (t : Nat) (hd : decode cc pc = .ok (.if_icmp .ge off, 3)) (ht : (pc : Int) + off = (t : Int)) (hq : pc + 3 = q) (kt : y ≤ x → vs_V G cc M t L st S) (kf : ¬ y ≤ x → vs_V G cc M q L st S) : vs_V G cc M pc L (.int y :: .int x :: st) S := vv_icmp_ge t hd ht hq kt kf
theorem vs_if_gt {x : Int32} {off : Int} (t : Nat) (hd : decode cc pc = .ok (.ifCond .gt off, 3)) (ht : (pc : Int) + off = (t : Int)) (hq : pc + 3 = q) (kt : 0 < x → vs_V G cc M t L st S) (kf : ¬ 0 < x → vs_V G cc M q L st S) : vs_V G cc M pc L (.int x :: st) S := vv_if_gt t hd ht hq kt kf
theorem vs_icmp_gt {x y : Int32} {off : Int} (t : Nat) (hd : decode cc pc = .ok (.if_icmp .gt off, 3)) (ht : (pc : Int) + off = (t : Int)) (hq : pc + 3 = q) (kt : y < x → vs_V G cc M t L st S) (kf : ¬ y < x → vs_V G cc M q L st S) : vs_V G cc M pc L (.int y :: .int x :: st) S := vv_icmp_gt t hd ht hq kt kf
theorem vs_if_le {x : Int32} {off : Int} (t : Nat) (hd : decode cc pc = .ok (.ifCond .le off, 3)) (ht : (pc : Int) + off = (t : Int)) (hq : pc + 3 = q) (kt : x ≤ 0 → vs_V G cc M t L st S) (kf : ¬ x ≤ 0 → vs_V G cc M q L st S) : vs_V G cc M pc L (.int x :: st) S := vv_if_le t hd ht hq kt kf
theorem vs_icmp_le {x y : Int32} {off : Int} (t : Nat) (hd : decode cc pc = .ok (.if_icmp .le off, 3)) (ht : (pc : Int) + off = (t : Int)) (hq : pc + 3 = q) (kt : x ≤ y → vs_V G cc M t L st S) (kf : ¬ x ≤ y → vs_V G cc M q L st S) : vs_V G cc M pc L (.int y :: .int x :: st) S := vv_icmp_le t hd ht hq kt kf
theorem vs_goto {off : Int} (t : Nat) (hd : decode cc pc = .ok (.goto off, 3)) (ht : (pc : Int) + off = (t : Int)) (k : vs_V G cc M t L st S) : vs_V G cc M pc L st S := vv_goto t hd ht k
theorem vs_ifnonnull {x : Nat} {off : Int} (t : Nat) (hd : decode cc pc = .ok (.ifnonnull off, 3)) (ht : (pc : Int) + off = (t : Int)) (k : vs_V G cc M t L st S) : vs_V G cc M pc L (.ref x :: st) S := vv_ifnonnull t hd ht k
theorem vs_ifnonnullN {off : Int} (hd : decode cc pc = .ok (.ifnonnull off, 3)) (hq : pc + 3 = q) (k : vs_V G cc M q L st S) : vs_V G cc M pc L (.null :: st) S := vv_ifnonnullN hd hq k
theorem vs_ifnull {x : Nat} {off : Int} (hd : decode cc pc = .ok (.ifnull off, 3)) (hq : pc + 3 = q) (k : vs_V G cc M q L st S) : vs_V G cc M pc L (.ref x :: st) S := vv_ifnull hd hq k
theorem vs_ifnullN {off : Int} (t : Nat) (hd : decode cc pc = .ok (.ifnull off, 3)) (ht : (pc : Int) + off = (t : Int)) (k : vs_V G cc M t L st S) : vs_V G cc M pc L (.null :: st) S := vv_ifnullN t hd ht k
theorem vs_tabIn {dflt lo hi : Int} {offs : Array Int} {len : Nat} {x : Int32} {off : Int} (t : Nat) (hd : decode cc pc = .ok (.tableswitch dflt lo hi offs, len)) (h1 : ¬ x.toInt < lo) (h2 : ¬ hi < x.toInt) (ho : offs[(x.toInt - lo).toNat]? = some off) (ht : (pc : Int) + off = (t : Int)) (k : vs_V G cc M t L st S) : vs_V G cc M pc L (.int x :: st) S := vv_tabIn t hd h1 h2 ho ht k
theorem vs_tabOut {dflt lo hi : Int} {offs : Array Int} {len : Nat} {x : Int32} (t : Nat) (hd : decode cc pc = .ok (.tableswitch dflt lo hi offs, len)) (h1 : x.toInt < lo ∨ hi < x.toInt) (ht : (pc : Int) + dflt = (t : Int)) (k : vs_V G cc M t L st S) : vs_V G cc M pc L (.int x :: st) S := vv_tabOut t hd h1 ht k
theorem vs_ldc2 {i : Nat} {v : Int64} (hw : Cond.constantLong M.1 i v ∈ vv_gd) (hd : decode cc pc = .ok (.ldc2_w i, 3)) (hq : pc + 3 = q) (k : vs_V G cc M q L (.long v :: st) S) : vs_V G cc M pc L st S := vv_ldc2 hw hd hq k
end VST
