theorem vv_aw_of {w : Cond} (h : w ∈ lw_tbl) (hg : vv_isA w = true) : w ∈ vv_aw := List.mem_filter.mpr ⟨h, hg⟩
theorem vv_aoI : Cond.arrayOver (.array .int) ∈ vv_aw := vv_aw_of (vv_tb 125 rfl) rfl
/-- what the word of the rows of int arrays says of the machine's classes -/
theorem vv_gridI {s : State} (h : (Cond.arrayOver (.array .int)).before #[] s = true) : ∃ (x : ClassId) (y : ClassId) (ky : Class), s.vm.findClass (FieldType.array .int).toString = some x ∧ s.vm.findClass ("[" ++ (FieldType.array .int).toString) = some y ∧ s.vm.classes[y]? = some ky ∧ ky.kind = .array x (.array .int) := by
  simp only [Cond.before, Cond.holds, Cond.value, beq_iff_eq, Option.bind_eq_some_iff, Option.map_eq_some_iff] at h
  obtain ⟨x, hx, y, hy, ky, hky, hz⟩ := h
  have hp := (Array.findIdx?_eq_some_iff_getElem.mp hy).2.1
  rw [(Array.getElem?_eq_some_iff.mp hky).2] at hp
  generalize hkd : ky.kind = kd at hz hp
  cases kd <;> simp at hz hp
  exact ⟨x, y, ky, hx, hz.2, hky, by rw [hkd, hp, hz.1]⟩
theorem vv_asg (vm : Vm) (x : ClassId) : vm.assignable x x = true := by
  unfold Vm.assignable
  rw [Vm.assignableAux, beq_self_eq_true, Bool.true_or]
section VAA
variable {G : vv_G} {cc : ByteArray} {M : vv_M} {cells slots pc q n : Nat} {L : List (Nat × Value)} {st : List Value} {h : vv_H}
theorem vv_aastA {a v k N N2 : Nat} {f : Nat → Option Nat} {g : Nat → Int32} {i : Int32} (ha : h a = some (.inl (G.2.2.1 4, N, .inr (.inr (.inr (.inr f)))))) (hv : h v = some (.inl (G.2.2.1 0, N2, .inl g))) (hi : i = nI k) (hk : k < N) (hN : Nat.blt N 2147483648 = true) (hd : decode cc pc = .ok (.aastore, 1)) (hq : pc + 1 = q) (kk : vv_V G cc M cells slots q L st n (vv_up h a (.inl (G.2.2.1 4, N, .inr (.inr (.inr (.inr (va_up f k (some v))))))))) : vv_V G cc M cells slots pc L (.ref v :: .int i :: .ref a :: st) n h := by
  subst hq
  intro p e s m args below meth c H locs ls F X hl
  obtain ⟨h1, h2⟩ := vv_in hi hk hN
  have hlt : i.toNatClampNeg < N := Nat.not_le.mp fun q => h1 (Or.inr q)
  have h0 : ¬ i < 0 := fun q => h1 (Or.inl q)
  have hK := F.2.2.2.2.2.1
  have hT4 := hK.1.2 4 _ rfl
  have hT0 := hK.1.2 0 _ rfl
  obtain ⟨comp, c4, k4, g1, g5, g3, g4⟩ := vv_gridI (hK.2.2 _ vv_aoI)
  have e0 : s.vm.findClass (FieldType.array .int).toString = some (G.2.2.1 0) := hT0.2
  have e4 : s.vm.findClass ("[" ++ (FieldType.array .int).toString) = some (G.2.2.1 4) := hT4.2
  cases e0.symm.trans g1
  cases e4.symm.trans g5
  obtain ⟨-, k0, hk0, -⟩ := hT0.1 N2 (fun j => .int (g j))
  refine W.aast F.1 F.2.1 (X.2.1 a _ ha) (fun q h => by cases h) (fun h => by cases h) g3 g4 rfl hk0 ⟨h0, by show _ < (arrV _ _ _).slots.size; rw [arrV_size]; exact hlt⟩ (X.2.1 v _ hv) (fun q h => by cases h) hk0 (vv_asg _ _) rfl rfl hd fun H1 e1 z oq => ?_
  refine kk p e s m args below meth c H1 _ ls F (vv_X_up X ha ?_ z oq) hl
  show H1[a]? = some (vp_cell _ _)
  rw [e1, h2]
  rw [vp_cell_q, vp_cell_q, arrV_store]
  congr 2
  funext x9
  by_cases hx : x9 = k
  · subst hx
    simp [updV, va_up, va_rf]
  · simp [updV, va_up, hx]
end VAA
theorem vs_ra_at {S : vs_S} {o : Nat} {f : Nat → Option Nat} : (vs_ra S o f).2.2.2 o = f := vs_u2_s
def upo (f : Nat → Option Nat) (k : Nat) (x : Option Nat) : Nat → Option Nat := fun j => if j = k then x else f j
theorem vs_lay_ra4 {G : vv_G} {S : vs_S} {o N k a : Nat} (hT : vs_T[o]? = some (.inl (4, N))) : vv_up (vs_lay G S) (G.2.2.2 + o) (.inl (G.2.2.1 4, N, .inr (.inr (.inr (.inr (va_up (vs_rf G.2.2.2 (S.2.2.2 o)) k (some (G.2.2.2 + a)))))))) = vs_lay G (vs_ra S o (upo (S.2.2.2 o) k (some a))) := by
  refine vs_lay_up hT ?_ (fun j d' hj => vs_den_k (S := S) (S' := vs_ra S o (upo (S.2.2.2 o) k (some a))) rfl rfl rfl (vs_u2_n hj) d')
  show Sum.inl (_, N, Sum.inr (Sum.inr (Sum.inr (Sum.inr (vs_rf G.2.2.2 (vs_u2 S.2.2.2 o (upo (S.2.2.2 o) k (some a)) o)))))) = _
  rw [vs_u2_s]
  congr 7
  funext j
  unfold vs_rf upo va_up
  by_cases h : j = k <;> simp [h]
section VSA
variable {G : vv_G} {cc : ByteArray} {M : vv_M} {pc q : Nat} {L : List (Nat × Value)} {st : List Value} {S : vs_S}
theorem vs_aast4 {o k N a N2 : Nat} {i : Int32} (hT : vs_T[o]? = some (.inl (4, N))) (hT2 : vs_T[a]? = some (.inl (0, N2))) (hi : i = nI k) (hk : k < N) (hN : Nat.blt N 2147483648 = true) (hd : decode cc pc = .ok (.aastore, 1)) (hq : pc + 1 = q) (kk : vs_V G cc M q L st (vs_ra S o (upo (S.2.2.2 o) k (some a)))) : vs_V G cc M pc L (.ref (G.2.2.2 + a) :: .int i :: .ref (G.2.2.2 + o) :: st) S := by
  refine vv_aastA (vs_lay_at hT) (vs_lay_at hT2) hi hk hN hd hq ?_
  rw [vs_lay_ra4 hT]
  exact kk
end VSA
theorem vs_Trow {a : Nat} (h1 : 30 ≤ a) (h2 : a < 70) : vs_T[a]? = some (.inl (0, 40)) := by
  rcases (show a = 30 ∨ a = 31 ∨ a = 32 ∨ a = 33 ∨ a = 34 ∨ a = 35 ∨ a = 36 ∨ a = 37 ∨ a = 38 ∨ a = 39 ∨ a = 40 ∨ a = 41 ∨ a = 42 ∨ a = 43 ∨ a = 44 ∨ a = 45 ∨ a = 46 ∨ a = 47 ∨ a = 48 ∨ a = 49 ∨ a = 50 ∨ a = 51 ∨ a = 52 ∨ a = 53 ∨ a = 54 ∨ a = 55 ∨ a = 56 ∨ a = 57 ∨ a = 58 ∨ a = 59 ∨ a = 60 ∨ a = 61 ∨ a = 62 ∨ a = 63 ∨ a = 64 ∨ a = 65 ∨ a = 66 ∨ a = 67 ∨ a = 68 ∨ a = 69 by omega) with rfl | rfl | rfl | rfl | rfl | rfl | rfl | rfl | rfl | rfl | rfl | rfl | rfl | rfl | rfl | rfl | rfl | rfl | rfl | rfl | rfl | rfl | rfl | rfl | rfl | rfl | rfl | rfl | rfl | rfl | rfl | rfl | rfl | rfl | rfl | rfl | rfl | rfl | rfl | rfl <;> rfl
/-- the class's table: rows anywhere among the forty, their first m places -/
def dR (S : vs_S) (ρ : Nat → Nat) (T : Nat → Nat → Nat) (m : Nat) : Prop := (∀ i, i < 40 → S.2.2.2 29 i = some (ρ i) ∧ 30 ≤ ρ i ∧ ρ i < 70) ∧ (∀ i j, i < 40 → j < 40 → ρ i = ρ j → i = j) ∧ ∀ i, i < m → ∃ g, S.2.1 (ρ i) = nA g ∧ ∀ j, j < m → g j = T i j
/-- places that a table may use -/
def frD (S S' : vs_S) : Prop := S'.1 = S.1 ∧ S'.2.2.1 = S.2.2.1 ∧ (∀ k, k < 30 ∨ 70 ≤ k → S'.2.1 k = S.2.1 k) ∧ ∀ k, k ≠ 29 → S'.2.2.2 k = S.2.2.2 k
theorem frD.rf {S : vs_S} : frD S S := ⟨rfl, rfl, fun _ _ => rfl, fun _ _ => rfl⟩
theorem frD.tr {S S1 S2 : vs_S} (h : frD S S1) (h2 : frD S1 S2) : frD S S2 := ⟨h2.1.trans h.1, h2.2.1.trans h.2.1, fun k hk => (h2.2.2.1 k hk).trans (h.2.2.1 k hk), fun k hk => (h2.2.2.2 k hk).trans (h.2.2.2 k hk)⟩
theorem frD.ia {S : vs_S} {a : Nat} {f : Nat → Int32} (h1 : 30 ≤ a) (h2 : a < 70) : frD S (vs_ia S a f) := ⟨rfl, rfl, fun k hk => vs_ia_ne (by omega), fun _ _ => rfl⟩
theorem frD.ra {S : vs_S} {f : Nat → Option Nat} : frD S (vs_ra S 29 f) := ⟨rfl, rfl, fun _ _ => rfl, fun k hk => vs_u2_n hk⟩
def mu (T : Nat → Nat → Nat) (i j x : Nat) : Nat → Nat → Nat := fun a b => if a = i ∧ b = j then x else T a b
theorem dR_get {S : vs_S} {ρ : Nat → Nat} {T : Nat → Nat → Nat} {m i j : Nat} (h : dR S ρ T m) (hi : i < m) (hj : j < m) : S.2.1 (ρ i) j = nI (T i j) := by
  obtain ⟨g, h1, h2⟩ := h.2.2 i hi
  rw [h1, ← h2 j hj]
  rfl
theorem dR_put {S : vs_S} {ρ : Nat → Nat} {T : Nat → Nat → Nat} {m i j x : Nat} (h : dR S ρ T m) (hm : m ≤ 40) (hi : i < m) : dR (vs_ia S (ρ i) (upd (S.2.1 (ρ i)) j (nI x))) ρ (mu T i j x) m := by
  refine ⟨h.1, h.2.1, fun a ha => ?_⟩
  obtain ⟨g, h1, h2⟩ := h.2.2 a ha
  by_cases e : a = i
  · subst e
    refine ⟨nu g j x, by rw [vs_ia_at, h1, nA_upd], fun b hb => ?_⟩
    unfold nu mu
    by_cases e2 : b = j
    · rw [if_pos e2, if_pos ⟨rfl, e2⟩]
    · rw [if_neg e2, if_neg (fun z => e2 z.2)]; exact h2 b hb
  · refine ⟨g, by rw [vs_ia_ne (fun z => e (h.2.1 a i (by omega) (by omega) z))]; exact h1, fun b hb => ?_⟩
    unfold mu
    rw [if_neg (fun z => e z.1)]
    exact h2 b hb
theorem dR_ex {S : vs_S} {ρ : Nat → Nat} (h : (∀ i, i < 40 → S.2.2.2 29 i = some (ρ i) ∧ 30 ≤ ρ i ∧ ρ i < 70) ∧ (∀ i j, i < 40 → j < 40 → ρ i = ρ j → i = j)) {m : Nat} : ∃ T, dR S ρ T m := by
  refine ⟨fun i => (Classical.choose (nA_ex (S.2.1 (ρ i)))), h.1, h.2, fun i _ => ⟨_, Classical.choose_spec (nA_ex (S.2.1 (ρ i))), fun _ _ => rfl⟩⟩
theorem dR_of {S : vs_S} {ρ : Nat → Nat} {T T' : Nat → Nat → Nat} {m : Nat} (h : dR S ρ T m) (he : ∀ i j, i < m → j < m → T i j = T' i j) : dR S ρ T' m := ⟨h.1, h.2.1, fun i hi => by
  obtain ⟨g, h1, h2⟩ := h.2.2 i hi
  exact ⟨g, h1, fun j hj => (h2 j hj).trans (he i j hi hj)⟩⟩
def swi {α : Type} (f : Nat → α) (a b : Nat) : Nat → α := fun i => if i = b then f a else if i = a then f b else f i
theorem dR_sw {S S' : vs_S} {ρ : Nat → Nat} {T : Nat → Nat → Nat} {m a b : Nat} (h : dR S ρ T m) (hm : m ≤ 40) (ha : a < m) (hb : b < m) (he : S'.2.1 = S.2.1) (hr : S'.2.2.2 29 = upo (upo (S.2.2.2 29) a (some (ρ b))) b (some (ρ a))) : dR S' (swi ρ a b) (swi T a b) m := by
  refine ⟨fun i hi => ?_, fun i j hi hj hij => ?_, fun i hi => ?_⟩
  · rw [hr]
    unfold upo swi
    have h1 := h.1 i hi
    have h2 := h.1 a (by omega)
    have h3 := h.1 b (by omega)
    by_cases e1 : i = b
    · rw [if_pos e1, if_pos e1]; exact ⟨rfl, h2.2⟩
    · rw [if_neg e1, if_neg e1]
      by_cases e2 : i = a
      · rw [if_pos e2, if_pos e2]; exact ⟨rfl, h3.2⟩
      · rw [if_neg e2, if_neg e2]; exact h1
  · have sg : ∀ x, x < 40 → ∃ y, y < 40 ∧ swi ρ a b x = ρ y ∧ (x = b → y = a) ∧ (x ≠ b → x = a → y = b) ∧ (x ≠ b → x ≠ a → y = x) := by
      intro x hx
      unfold swi
      by_cases e1 : x = b
      · rw [if_pos e1]; exact ⟨a, by omega, rfl, fun _ => rfl, fun z => absurd e1 z, fun z => absurd e1 z⟩
      · rw [if_neg e1]
        by_cases e2 : x = a
        · rw [if_pos e2]; exact ⟨b, by omega, rfl, fun z => absurd z e1, fun _ _ => rfl, fun _ z => absurd e2 z⟩
        · rw [if_neg e2]; exact ⟨x, hx, rfl, fun z => absurd z e1, fun _ z => absurd z e2, fun _ _ => rfl⟩
    obtain ⟨y1, g1, g2, g3, g4, g5⟩ := sg i hi
    obtain ⟨y2, k1, k2, k3, k4, k5⟩ := sg j hj
    rw [g2, k2] at hij
    have := h.2.1 y1 y2 g1 k1 hij
    subst this
    by_cases e1 : i = b <;> by_cases e2 : j = b <;> by_cases e3 : i = a <;> by_cases e4 : j = a <;> simp_all
  · rw [he]
    unfold swi
    by_cases e1 : i = b
    · rw [if_pos e1, if_pos e1]; exact h.2.2 a ha
    · rw [if_neg e1, if_neg e1]
      by_cases e2 : i = a
      · rw [if_pos e2, if_pos e2]; exact h.2.2 b hb
      · rw [if_neg e2, if_neg e2]; exact h.2.2 i hi
/-- a series of the class: its object, its numbers behind it -/
def vs_Se (o : Nat) : Prop := vs_T[o]? = some (.inr (6, [some (o + 1), none])) ∧ vs_P (o + 1)
theorem vs_Se_k {f : Nat} (h : f < 10) : vs_Se (88 + 3 * f) := by
  rcases (show f = 0 ∨ f = 1 ∨ f = 2 ∨ f = 3 ∨ f = 4 ∨ f = 5 ∨ f = 6 ∨ f = 7 ∨ f = 8 ∨ f = 9 by omega) with rfl | rfl | rfl | rfl | rfl | rfl | rfl | rfl | rfl | rfl <;> exact ⟨rfl, rfl, rfl⟩
theorem l_fill1 {G : vv_G} {S : vs_S} {asked : Nat} (hse : vs_Se asked) (hns : asked + 2 < 30 ∨ 70 ≤ asked) {c : Nat → Nat} {l sz : Nat} (hl : l ≤ 40) (hm : sz ≤ 40) {Pst : Option Value → vs_S → Prop} {ρ : Nat → Nat} {i : Nat} (hi : i < sz) : ∀ (d j : Nat) (S : vs_S) (T : Nat → Nat → Nat), j + d = sz → dR S ρ T 40 → pR S (asked + 1) c → (∀ a b, b < sz → (a < i ∨ (a = i ∧ b < j)) → T a b = pz c (l + a - b)) → (∀ (S2 : vs_S) (T2 : Nat → Nat → Nat), dR S2 ρ T2 40 → frD S S2 → (∀ a b, b < sz → (a < i ∨ (a = i ∧ b < sz)) → T2 a b = pz c (l + a - b)) → vs_V G cX0_fill (vs_MP yX0_fill 6 none { frames := 1, locals := 21 } G Pst) 62 [(4, .int (nI i)), (0, .ref (G.2.2.2 + 28)), (1, .ref (G.2.2.2 + asked)), (2, .int (nI l)), (3, .int (nI sz))] [] S2) → vs_V G cX0_fill (vs_MP yX0_fill 6 none { frames := 1, locals := 21 } G Pst) 19 [(5, .int (nI j)), (4, .int (nI i)), (0, .ref (G.2.2.2 + 28)), (1, .ref (G.2.2.2 + asked)), (2, .int (nI l)), (3, .int (nI sz))] [] S := by
  intro d
  induction d with
  | zero =>
    intro j S T hj hD hc hT K
    obtain rfl : j = sz := by omega
    refine vs_iload dX0_fill_19 rfl 0 rfl ?_
    refine vs_iload_n 3 dX0_fill_21 rfl rfl 5 rfl ?_
    refine vs_icmp_ge 62 dX0_fill_22 rfl rfl (fun c_22 => ?_) (fun c_22 => ?_)
    · have q_22 : ((j : Nat) : Int) ≥ ((j : Nat) : Int) := (qi_ge (nI_Z _) (nI_Z _) (by omega) (by omega) (by omega) (by omega)).mp c_22
      refine vs_pick (L2 := [(4, .int (nI i)), (0, .ref (G.2.2.2 + 28)), (1, .ref (G.2.2.2 + asked)), (2, .int (nI l)), (3, .int (nI j))]) [1, 2, 3, 4, 5] rfl ?_
      exact K S T hD frD.rf hT
    · have q_22 : ¬ ((j : Nat) : Int) ≥ ((j : Nat) : Int) := fun hh => c_22 ((qi_ge (nI_Z _) (nI_Z _) (by omega) (by omega) (by omega) (by omega)).mpr hh)
      omega
  | succ d ih =>
    intro j S T hj hD hc hT K
    have hri := hD.1 i (by omega)
    refine vs_iload dX0_fill_19 rfl 0 rfl ?_
    refine vs_iload_n 3 dX0_fill_21 rfl rfl 5 rfl ?_
    refine vs_icmp_ge 62 dX0_fill_22 rfl rfl (fun c_22 => ?_) (fun c_22 => ?_)
    · have q_22 : ((j : Nat) : Int) ≥ ((sz : Nat) : Int) := (qi_ge (nI_Z _) (nI_Z _) (by omega) (by omega) (by omega) (by omega)).mp c_22
      omega
    · have q_22 : ¬ ((j : Nat) : Int) ≥ ((sz : Nat) : Int) := fun hh => c_22 ((qi_ge (nI_Z _) (nI_Z _) (by omega) (by omega) (by omega) (by omega)).mpr hh)
      refine vs_iload dX0_fill_25 rfl 0 rfl ?_
      refine vs_bipush (v := 40) dX0_fill_27 rfl rfl ?_
      refine vs_icmp_ge 62 dX0_fill_29 rfl rfl (fun c_29 => ?_) (fun c_29 => ?_)
      · have q_29 : ((j : Nat) : Int) ≥ ((40 : Nat) : Int) := (qi_ge (nI_Z _) (by first | exact nI_Z _ | (simp only [fa_lit, nI_add, pk_mul, nI_1]; exact nI_Z _)) (by omega) (by omega) (by omega) (by omega)).mp c_29
        omega
      · have q_29 : ¬ ((j : Nat) : Int) ≥ ((40 : Nat) : Int) := fun hh => c_29 ((qi_ge (nI_Z _) (by first | exact nI_Z _ | (simp only [fa_lit, nI_add, pk_mul, nI_1]; exact nI_Z _)) (by omega) (by omega) (by omega) (by omega)).mpr hh)
        refine vs_aload_n 0 dX0_fill_32 rfl rfl 2 rfl ?_
        refine vs_get (v := .ref (G.2.2.2 + 29)) lf_X0_11 rfl rfl dX0_fill_33 rfl ?_
        refine vs_iload dX0_fill_36 rfl 1 rfl ?_
        refine vs_aald (t := 2) (k := i) (a := ρ i) rfl rfl rfl (by first | rfl | (simp only [fa_lit, nI_add, pk_mul, nI_1]; done) | omega) (by omega) rfl (hD.1 i (by omega)).1 dX0_fill_38 rfl ?_
        refine vs_iload dX0_fill_39 rfl 0 rfl ?_
        refine vs_aload_n 1 dX0_fill_41 rfl rfl 3 rfl ?_
        refine vs_get (v := .ref (G.2.2.2 + (asked + 1))) lf_X0_16 hse.1 rfl dX0_fill_42 rfl ?_
        refine vs_iload_n 2 dX0_fill_45 rfl rfl 4 rfl ?_
        refine vs_iload dX0_fill_46 rfl 1 rfl ?_
        refine vs_iadd dX0_fill_48 rfl ?_
        refine vs_iload dX0_fill_49 rfl 0 rfl ?_
        refine vs_isub dX0_fill_51 rfl ?_
        refine vs_topi (fun z1 e_z1 => ?_)
        have f_z1 : z1 = nZ ((l : Int) + i - j) := (by rw [e_z1]; simp only [nI_Z, nZ_add, nZ_sub])
        subst f_z1
        clear e_z1
        refine vs_callV (st := [.int (nI j), .ref (G.2.2.2 + (ρ i))]) (c_at hse.2 hc (k := nZ ((l : Int) + i - j))) lk_X0_22 lm_X3_at rfl hse.2.1 rfl rfl (Nat.le_of_ble_eq_true rfl) rfl ⟨rfl, rfl⟩ dX0_fill_52 rfl ?_
        rw [nZ_i (by omega) (by omega)]
        show vs_V _ _ _ _ _ (.int (nI (pz c ((l : Int) + i - j))) :: _) _
        refine vs_iast (k := j) (vs_Trow (hD.1 i (by omega)).2.1 (hD.1 i (by omega)).2.2) (by first | rfl | (simp only [fa_lit, nI_add, pk_mul, nI_1]; done) | omega) (by omega) rfl dX0_fill_55 rfl ?_
        have hD2 := dR_put (j := j) (x := pz c ((l : Int) + i - j)) hD (by omega) (show i < 40 by omega)
        refine vs_iinc (v := nI (j + 1)) [(5, .int (nI (j + 1))), (4, .int (nI i)), (0, .ref (G.2.2.2 + 28)), (1, .ref (G.2.2.2 + asked)), (2, .int (nI l)), (3, .int (nI sz))] dX0_fill_56 rfl 0 rfl (by first | exact nI_1 _ | (simp only [fa_lit, nI_add, pk_mul, nI_1]; rfl)) rfl rfl ?_
        refine vs_goto 19 dX0_fill_59 rfl ?_
        refine vs_pick [0, 1, 2, 3, 4, 5] rfl ?_
        refine ih (j + 1) _ _ (by omega) hD2 ⟨(vs_ia_ne (by omega)).trans hc.1, hc.2⟩ (fun a b hb hab => ?_) (fun S2 T2 h1 h2 h3 => K S2 T2 h1 ((frD.ia hri.2.1 hri.2.2).tr h2) h3)
        unfold mu
        by_cases e : a = i ∧ b = j
        · rw [if_pos e, e.1, e.2]
        · rw [if_neg e]; exact hT a b hb (by omega)

theorem l_fill2 {G : vv_G} {S : vs_S} {asked : Nat} (hse : vs_Se asked) (hns : asked + 2 < 30 ∨ 70 ≤ asked) {c : Nat → Nat} {l sz : Nat} (hl : l ≤ 40) (hm : sz ≤ 40) {Pst : Option Value → vs_S → Prop} {ρ : Nat → Nat} : ∀ (d i : Nat) (S : vs_S) (T : Nat → Nat → Nat), i + d = sz → dR S ρ T 40 → pR S (asked + 1) c → (∀ a b, b < sz → a < i → T a b = pz c (l + a - b)) → (∀ (S2 : vs_S) (T2 : Nat → Nat → Nat), dR S2 ρ T2 40 → frD S S2 → (∀ a b, a < sz → b < sz → T2 a b = pz c (l + a - b)) → Pst none S2) → vs_V G cX0_fill (vs_MP yX0_fill 6 none { frames := 1, locals := 21 } G Pst) 3 [(4, .int (nI i)), (0, .ref (G.2.2.2 + 28)), (1, .ref (G.2.2.2 + asked)), (2, .int (nI l)), (3, .int (nI sz))] [] S := by
  intro d
  induction d with
  | zero =>
    intro i S T hi hD hc hT K
    obtain rfl : i = sz := by omega
    refine vs_iload dX0_fill_3 rfl 0 rfl ?_
    refine vs_iload_n 3 dX0_fill_5 rfl rfl 4 rfl ?_
    refine vs_icmp_ge 68 dX0_fill_6 rfl rfl (fun c_6 => ?_) (fun c_6 => ?_)
    · have q_6 : ((i : Nat) : Int) ≥ ((i : Nat) : Int) := (qi_ge (nI_Z _) (nI_Z _) (by omega) (by omega) (by omega) (by omega)).mp c_6
      exact vs_vretP dX0_fill_68 (K S T hD frD.rf (fun a b h1 h2 => hT a b h2 h1))
    · have q_6 : ¬ ((i : Nat) : Int) ≥ ((i : Nat) : Int) := fun hh => c_6 ((qi_ge (nI_Z _) (nI_Z _) (by omega) (by omega) (by omega) (by omega)).mpr hh)
      omega
  | succ d ih =>
    intro i S T hi hD hc hT K
    refine vs_iload dX0_fill_3 rfl 0 rfl ?_
    refine vs_iload_n 3 dX0_fill_5 rfl rfl 4 rfl ?_
    refine vs_icmp_ge 68 dX0_fill_6 rfl rfl (fun c_6 => ?_) (fun c_6 => ?_)
    · have q_6 : ((i : Nat) : Int) ≥ ((sz : Nat) : Int) := (qi_ge (nI_Z _) (nI_Z _) (by omega) (by omega) (by omega) (by omega)).mp c_6
      omega
    · have q_6 : ¬ ((i : Nat) : Int) ≥ ((sz : Nat) : Int) := fun hh => c_6 ((qi_ge (nI_Z _) (nI_Z _) (by omega) (by omega) (by omega) (by omega)).mpr hh)
      refine vs_iload dX0_fill_9 rfl 0 rfl ?_
      refine vs_bipush (v := 40) dX0_fill_11 rfl rfl ?_
      refine vs_icmp_ge 68 dX0_fill_13 rfl rfl (fun c_13 => ?_) (fun c_13 => ?_)
      · have q_13 : ((i : Nat) : Int) ≥ ((40 : Nat) : Int) := (qi_ge (nI_Z _) (by first | exact nI_Z _ | (simp only [fa_lit, nI_add, pk_mul, nI_1]; exact nI_Z _)) (by omega) (by omega) (by omega) (by omega)).mp c_13
        omega
      · have q_13 : ¬ ((i : Nat) : Int) ≥ ((40 : Nat) : Int) := fun hh => c_13 ((qi_ge (nI_Z _) (by first | exact nI_Z _ | (simp only [fa_lit, nI_add, pk_mul, nI_1]; exact nI_Z _)) (by omega) (by omega) (by omega) (by omega)).mpr hh)
        refine vs_iconst (v := 0) dX0_fill_16 rfl rfl ?_
        refine vs_istore [(5, .int (0)), (4, .int (nI i)), (0, .ref (G.2.2.2 + 28)), (1, .ref (G.2.2.2 + asked)), (2, .int (nI l)), (3, .int (nI sz))] dX0_fill_17 rfl rfl rfl ?_
        refine vs_pick (L2 := [(5, .int (nI 0)), (4, .int (nI i)), (0, .ref (G.2.2.2 + 28)), (1, .ref (G.2.2.2 + asked)), (2, .int (nI l)), (3, .int (nI sz))]) [0, 1, 2, 3, 4, 5] rfl ?_
        refine l_fill1 (S := S) hse hns hl hm (show i < sz by omega) sz 0 _ T (by omega) hD hc (fun a b hb hab => hT a b hb (by omega)) (fun S2 T2 h1 h2 h3 => ?_)
        refine vs_iinc (v := nI (i + 1)) [(4, .int (nI (i + 1))), (0, .ref (G.2.2.2 + 28)), (1, .ref (G.2.2.2 + asked)), (2, .int (nI l)), (3, .int (nI sz))] dX0_fill_62 rfl 0 rfl (by first | exact nI_1 _ | (simp only [fa_lit, nI_add, pk_mul, nI_1]; rfl)) rfl rfl ?_
        refine vs_goto 3 dX0_fill_65 rfl ?_
        refine vs_pick [0, 1, 2, 3, 4] rfl ?_
        exact ih (i + 1) S2 T2 (by omega) h1 ⟨(h2.2.2.1 _ (by omega)).trans hc.1, hc.2⟩ (fun a b hb hab => h3 a b hb (by omega)) (fun S3 T3 g1 g2 g3 => K S3 T3 g1 (h2.tr g2) g3)

theorem c_dfill {G : vv_G} {S : vs_S} {asked : Nat} (hse : vs_Se asked) (hns : asked + 2 < 30 ∨ 70 ≤ asked) {c : Nat → Nat} {l sz : Nat} (hl : l ≤ 40) (hm : sz ≤ 40) (hc : pR S (asked + 1) c) {ρ : Nat → Nat} {T : Nat → Nat → Nat} (hD : dR S ρ T 40) : vs_CP G yX0_fill cX0_fill 6 none { frames := 1, locals := 21 } [.ref (G.2.2.2 + 28), .ref (G.2.2.2 + asked), .int (nI l), .int (nI sz)] S (fun r S2 => r = none ∧ frD S S2 ∧ ∃ ρ, dR S2 ρ (fun a b => pz c ((l : Int) + a - b)) sz) := by
  refine vs_ofP [(0, .ref (G.2.2.2 + 28)), (1, .ref (G.2.2.2 + asked)), (2, .int (nI l)), (3, .int (nI sz))] (by decide) rfl rfl ?_
  refine vs_iconst (v := 0) dX0_fill_0 rfl rfl ?_
  refine vs_istore [(4, .int (0)), (0, .ref (G.2.2.2 + 28)), (1, .ref (G.2.2.2 + asked)), (2, .int (nI l)), (3, .int (nI sz))] dX0_fill_1 rfl rfl rfl ?_
  refine vs_pick (L2 := [(4, .int (nI 0)), (0, .ref (G.2.2.2 + 28)), (1, .ref (G.2.2.2 + asked)), (2, .int (nI l)), (3, .int (nI sz))]) [0, 1, 2, 3, 4] rfl ?_
  refine l_fill2 (S := S) hse hns hl hm sz 0 _ T (by omega) hD hc (fun a b _ h => absurd h (by omega)) (fun S2 T2 h1 h2 h3 => ⟨rfl, h2, ρ, ?_⟩)
  exact dR_of ⟨h1.1, h1.2.1, fun i hi => by
    obtain ⟨g, e1, e2⟩ := h1.2.2 i (by omega)
    exact ⟨g, e1, fun j hj => e2 j (by omega)⟩⟩ h3

/-- the first row from r on with a number in this column; -1 -/
def pvr (T : Nat → Nat → Nat) (col : Nat) : Nat → Nat → Int
  | 0, _ => -1
  | d + 1, r => if T r col = 0 then pvr T col d (r + 1) else r
theorem pvr_r {T : Nat → Nat → Nat} {col : Nat} : ∀ d r, pvr T col d r = -1 ∨ ((r : Int) ≤ pvr T col d r ∧ pvr T col d r < r + d)
  | 0, _ => Or.inl rfl
  | d + 1, r => by
    unfold pvr
    by_cases h : T r col = 0
    · rw [if_pos h]
      have := pvr_r (T := T) (col := col) d (r + 1)
      omega
    · rw [if_neg h]; omega
theorem l_pivot {G : vv_G} {S : vs_S} {ρ : Nat → Nat} {T : Nat → Nat → Nat} {sz : Nat} (hD : dR S ρ T sz) (hm : sz ≤ 40) (hb : ∀ i j, i < sz → j < sz → T i j < 2147483648) {col : Nat} (hcol : col < sz) {r : Option Value} {Sf : vs_S} (hS : S = Sf) : ∀ d r0 : Nat, r0 + d = sz → r = some (.int (nZ (pvr T col d r0))) → vs_V G cX0_pivotRow (vs_M yX0_pivotRow 4 (some .int) { frames := 0, locals := 0 } G r Sf) 2 [(3, .int (nI r0)), (0, .ref (G.2.2.2 + 28)), (1, .int (nI col)), (2, .int (nI sz))] [] S := by
  intro d
  induction d with
  | zero =>
    intro r0 hi hr
    obtain rfl : r0 = sz := by omega
    refine vs_iload_n 3 dX0_pivotRow_2 rfl rfl 0 rfl ?_
    refine vs_iload_n 2 dX0_pivotRow_3 rfl rfl 3 rfl ?_
    refine vs_icmp_ge 32 dX0_pivotRow_4 rfl rfl (fun c_4 => ?_) (fun c_4 => ?_)
    · have q_4 : ((r0 : Nat) : Int) ≥ ((r0 : Nat) : Int) := (qi_ge (nI_Z _) (nI_Z _) (by omega) (by omega) (by omega) (by omega)).mp c_4
      refine vs_iconst (v := -1) dX0_pivotRow_32 rfl rfl ?_
      exact vs_iret dX0_pivotRow_33 hr hS
    · have q_4 : ¬ ((r0 : Nat) : Int) ≥ ((r0 : Nat) : Int) := fun hh => c_4 ((qi_ge (nI_Z _) (nI_Z _) (by omega) (by omega) (by omega) (by omega)).mpr hh)
      omega
  | succ d ih =>
    intro r0 hi hr
    have hb1 := hb r0 col (by omega) hcol
    refine vs_iload_n 3 dX0_pivotRow_2 rfl rfl 0 rfl ?_
    refine vs_iload_n 2 dX0_pivotRow_3 rfl rfl 3 rfl ?_
    refine vs_icmp_ge 32 dX0_pivotRow_4 rfl rfl (fun c_4 => ?_) (fun c_4 => ?_)
    · have q_4 : ((r0 : Nat) : Int) ≥ ((sz : Nat) : Int) := (qi_ge (nI_Z _) (nI_Z _) (by omega) (by omega) (by omega) (by omega)).mp c_4
      omega
    · have q_4 : ¬ ((r0 : Nat) : Int) ≥ ((sz : Nat) : Int) := fun hh => c_4 ((qi_ge (nI_Z _) (nI_Z _) (by omega) (by omega) (by omega) (by omega)).mpr hh)
      refine vs_iload_n 3 dX0_pivotRow_7 rfl rfl 0 rfl ?_
      refine vs_bipush (v := 40) dX0_pivotRow_8 rfl rfl ?_
      refine vs_icmp_ge 32 dX0_pivotRow_10 rfl rfl (fun c_10 => ?_) (fun c_10 => ?_)
      · have q_10 : ((r0 : Nat) : Int) ≥ ((40 : Nat) : Int) := (qi_ge (nI_Z _) (by first | exact nI_Z _ | (simp only [fa_lit, nI_add, pk_mul, nI_1]; exact nI_Z _)) (by omega) (by omega) (by omega) (by omega)).mp c_10
        omega
      · have q_10 : ¬ ((r0 : Nat) : Int) ≥ ((40 : Nat) : Int) := fun hh => c_10 ((qi_ge (nI_Z _) (by first | exact nI_Z _ | (simp only [fa_lit, nI_add, pk_mul, nI_1]; exact nI_Z _)) (by omega) (by omega) (by omega) (by omega)).mpr hh)
        refine vs_aload_n 0 dX0_pivotRow_13 rfl rfl 1 rfl ?_
        refine vs_get (v := .ref (G.2.2.2 + 29)) lf_X0_11 rfl rfl dX0_pivotRow_14 rfl ?_
        refine vs_iload_n 3 dX0_pivotRow_17 rfl rfl 0 rfl ?_
        refine vs_aald (t := 2) (k := r0) (a := ρ r0) rfl rfl rfl (by first | rfl | (simp only [fa_lit, nI_add, pk_mul, nI_1]; done) | omega) (by omega) rfl (hD.1 r0 (by omega)).1 dX0_pivotRow_18 rfl ?_
        refine vs_iload_n 1 dX0_pivotRow_19 rfl rfl 2 rfl ?_
        refine vs_iald (k := col) (vs_Trow (hD.1 r0 (by omega)).2.1 (hD.1 r0 (by omega)).2.2) (by first | rfl | (simp only [fa_lit, nI_add, pk_mul, nI_1]; done) | omega) (by omega) rfl dX0_pivotRow_20 rfl ?_
        refine vs_topi (fun z1 e_z1 => ?_)
        have f_z1 : z1 = nI (T r0 col) := (by rw [e_z1]; exact dR_get hD (by omega) hcol)
        subst f_z1
        clear e_z1
        refine vs_if_eq 26 dX0_pivotRow_21 rfl rfl (fun c_21 => ?_) (fun c_21 => ?_)
        · have q_21 : (((T r0 col) : Nat) : Int) = ((0 : Nat) : Int) := (qi_eq (nI_Z _) (by first | exact nI_Z _ | (simp only [fa_lit, nI_add, pk_mul, nI_1]; exact nI_Z _)) (by omega) (by omega) (by omega) (by omega)).mp c_21
          have hz : T r0 col = 0 := by omega
          rw [show pvr T col (d + 1) r0 = pvr T col d (r0 + 1) from if_pos hz] at hr
          refine vs_iinc (v := nI (r0 + 1)) [(3, .int (nI (r0 + 1))), (0, .ref (G.2.2.2 + 28)), (1, .int (nI col)), (2, .int (nI sz))] dX0_pivotRow_26 rfl 0 rfl (by first | exact nI_1 _ | (simp only [fa_lit, nI_add, pk_mul, nI_1]; rfl)) rfl rfl ?_
          refine vs_goto 2 dX0_pivotRow_29 rfl ?_
          refine vs_pick [0, 1, 2, 3] rfl ?_
          exact ih (r0 + 1) (by omega) hr
        · have q_21 : ¬ (((T r0 col) : Nat) : Int) = ((0 : Nat) : Int) := fun hh => c_21 ((qi_eq (nI_Z _) (by first | exact nI_Z _ | (simp only [fa_lit, nI_add, pk_mul, nI_1]; exact nI_Z _)) (by omega) (by omega) (by omega) (by omega)).mpr hh)
          have hz : ¬ T r0 col = 0 := by omega
          rw [show pvr T col (d + 1) r0 = (r0 : Int) from if_neg hz, nZ_n] at hr
          refine vs_iload_n 3 dX0_pivotRow_24 rfl rfl 0 rfl ?_
          exact vs_iret dX0_pivotRow_25 hr hS

theorem c_pivotRow {G : vv_G} {S : vs_S} {ρ : Nat → Nat} {T : Nat → Nat → Nat} {sz : Nat} (hD : dR S ρ T sz) (hm : sz ≤ 40) (hb : ∀ i j, i < sz → j < sz → T i j < 2147483648) {col : Nat} (hcol : col < sz) : vs_C G yX0_pivotRow cX0_pivotRow 4 (some .int) { frames := 0, locals := 0 } [.ref (G.2.2.2 + 28), .int (nI col), .int (nI sz)] S (some (.int (nZ (pvr T col (sz - col) col)))) S := by
  refine vs_of [(0, .ref (G.2.2.2 + 28)), (1, .int (nI col)), (2, .int (nI sz))] (by decide) rfl rfl ?_
  refine vs_iload_n 1 dX0_pivotRow_0 rfl rfl 1 rfl ?_
  refine vs_istore_n 3 [(3, .int (nI col)), (0, .ref (G.2.2.2 + 28)), (1, .int (nI col)), (2, .int (nI sz))] dX0_pivotRow_1 rfl rfl rfl rfl ?_
  refine vs_pick (L2 := [(3, .int (nI col)), (0, .ref (G.2.2.2 + 28)), (1, .int (nI col)), (2, .int (nI sz))]) [0, 1, 2, 3] rfl ?_
  exact l_pivot hD hm hb hcol rfl (sz - col) col (by omega) rfl

theorem c_swapRows {G : vv_G} {S : vs_S} {ρ : Nat → Nat} {T : Nat → Nat → Nat} {sz : Nat} (hD : dR S ρ T sz) (hm : sz ≤ 40) {a b : Nat} (ha : a < sz) (hb : b < sz) : vs_CP G yX0_swapRows cX0_swapRows 4 none { frames := 0, locals := 0 } [.ref (G.2.2.2 + 28), .int (nI a), .int (nI b)] S (fun r S2 => r = none ∧ frD S S2 ∧ dR S2 (swi ρ a b) (swi T a b) sz) := by
  refine vs_ofP [(0, .ref (G.2.2.2 + 28)), (1, .int (nI a)), (2, .int (nI b))] (by decide) rfl rfl ?_
  refine vs_aload_n 0 dX0_swapRows_0 rfl rfl 0 rfl ?_
  refine vs_get (v := .ref (G.2.2.2 + 29)) lf_X0_11 rfl rfl dX0_swapRows_1 rfl ?_
  refine vs_iload_n 1 dX0_swapRows_4 rfl rfl 1 rfl ?_
  refine vs_aald (t := 2) (k := a) (a := ρ a) rfl rfl rfl (by first | rfl | (simp only [fa_lit, nI_add, pk_mul, nI_1]; done) | omega) (by omega) rfl (hD.1 a (by omega)).1 dX0_swapRows_5 rfl ?_
  refine vs_astore_n 3 [(3, .ref (G.2.2.2 + (ρ a))), (0, .ref (G.2.2.2 + 28)), (1, .int (nI a)), (2, .int (nI b))] dX0_swapRows_6 rfl rfl rfl rfl ?_
  refine vs_aload_n 0 dX0_swapRows_7 rfl rfl 1 rfl ?_
  refine vs_get (v := .ref (G.2.2.2 + 29)) lf_X0_11 rfl rfl dX0_swapRows_8 rfl ?_
  refine vs_iload_n 1 dX0_swapRows_11 rfl rfl 2 rfl ?_
  refine vs_aload_n 0 dX0_swapRows_12 rfl rfl 1 rfl ?_
  refine vs_get (v := .ref (G.2.2.2 + 29)) lf_X0_11 rfl rfl dX0_swapRows_13 rfl ?_
  refine vs_iload_n 2 dX0_swapRows_16 rfl rfl 3 rfl ?_
  refine vs_aald (t := 2) (k := b) (a := ρ b) rfl rfl rfl (by first | rfl | (simp only [fa_lit, nI_add, pk_mul, nI_1]; done) | omega) (by omega) rfl (hD.1 b (by omega)).1 dX0_swapRows_17 rfl ?_
  refine vs_aast4 (k := a) (a := ρ b) rfl (vs_Trow (hD.1 b (by omega)).2.1 (hD.1 b (by omega)).2.2) (by first | rfl | (simp only [fa_lit, nI_add, pk_mul, nI_1]; done) | omega) (by omega) rfl dX0_swapRows_18 rfl ?_
  refine vs_aload_n 0 dX0_swapRows_19 rfl rfl 1 rfl ?_
  refine vs_get (v := .ref (G.2.2.2 + 29)) lf_X0_11 rfl rfl dX0_swapRows_20 rfl ?_
  refine vs_iload_n 2 dX0_swapRows_23 rfl rfl 3 rfl ?_
  refine vs_aload_n 3 dX0_swapRows_24 rfl rfl 0 rfl ?_
  refine vs_aast4 (k := b) (a := ρ a) rfl (vs_Trow (hD.1 a (by omega)).2.1 (hD.1 a (by omega)).2.2) (by first | rfl | (simp only [fa_lit, nI_add, pk_mul, nI_1]; done) | omega) (by omega) rfl dX0_swapRows_25 rfl ?_
  exact vs_vretP dX0_swapRows_26 ⟨rfl, frD.ra.tr frD.ra, dR_sw hD hm ha hb rfl (by rw [vs_ra_at, vs_ra_at])⟩

/-- what is left of a row when the pivot's row was taken off -/
def clv (P : Nat) (T : Nat → Nat → Nat) (col i j : Nat) : Nat := nn_m ((T i j : Int) - (T i col * ipw (T col col) P % P : Nat) * T col j) P
def clk (P : Nat) (T : Nat → Nat → Nat) (col i0 j0 : Nat) : Nat → Nat → Nat := fun i j => if col < i ∧ col ≤ j ∧ (i < i0 ∨ (i = i0 ∧ j < j0)) then clv P T col i j else T i j
def clr (P : Nat) (T : Nat → Nat → Nat) (col : Nat) : Nat → Nat → Nat := fun i j => if col < i ∧ col ≤ j then clv P T col i j else T i j
theorem clk_s {P : Nat} {T : Nat → Nat → Nat} {col i0 j0 : Nat} (h1 : col < i0) (h2 : col ≤ j0) : mu (clk P T col i0 j0) i0 j0 (clv P T col i0 j0) = clk P T col i0 (j0 + 1) := by
  funext i j
  unfold mu clk
  by_cases e : i = i0 ∧ j = j0
  · rw [if_pos e, e.1, e.2, if_pos (by omega)]
  · rw [if_neg e]
    by_cases e2 : col < i ∧ col ≤ j ∧ (i < i0 ∨ (i = i0 ∧ j < j0))
    · rw [if_pos e2, if_pos (by omega)]
    · rw [if_neg e2, if_neg (by omega)]
theorem clk_p {P : Nat} {T : Nat → Nat → Nat} {col i0 j0 i j : Nat} (h : i ≤ col ∨ j < col ∨ i0 < i ∨ (i = i0 ∧ j0 ≤ j)) : clk P T col i0 j0 i j = T i j := by
  unfold clk
  rw [if_neg (by omega)]
theorem nn_msub2 {a b c P : Nat} (ha : a < P) (hb : b < P) (hc : c < P) (hP : P ≤ 30011) : ((nI c).toInt64 - (nI a).toInt64 * (nI b).toInt64).toInt = (c : Int) - (a : Int) * b := nn_msub (by omega) (by omega) (by omega)
theorem clk_row {P : Nat} {T : Nat → Nat → Nat} {col i m a b : Nat} (hb : b < m) : clk P T col i m a b = clk P T col (i + 1) col a b := by
  unfold clk
  by_cases h : col < a ∧ col ≤ b ∧ (a < i ∨ (a = i ∧ b < m))
  · rw [if_pos h, if_pos (by omega)]
  · rw [if_neg h, if_neg (by omega)]
theorem clk_end {P : Nat} {T : Nat → Nat → Nat} {col m a b : Nat} (ha : a < m) : clk P T col m col a b = clr P T col a b := by
  unfold clk clr
  by_cases h : col < a ∧ col ≤ b
  · rw [if_pos h, if_pos (by omega)]
  · rw [if_neg h, if_neg (by omega)]
theorem clk_beg {P : Nat} {T : Nat → Nat → Nat} {col a b : Nat} : clk P T col (col + 1) col a b = T a b := by
  unfold clk
  rw [if_neg (by omega)]
theorem l_clr1 {G : vv_G} {S : vs_S} {ρ : Nat → Nat} {T : Nat → Nat → Nat} {sz : Nat} (hm : sz ≤ 40) {P : Nat} (hP1 : 2 ≤ P) (hP2 : P ≤ 30011) (hb : ∀ i j, i < sz → j < sz → T i j < P) {col : Nat} (hcol : col < sz) {Pst : Option Value → vs_S → Prop} {i : Nat} (hi : i < sz) (hi2 : col < i) : ∀ (d j : Nat) (S : vs_S), j + d = sz → col ≤ j → S.1 1 0 = nI P → dR S ρ (clk P T col i j) sz → (∀ S2 : vs_S, S2.1 = S.1 → dR S2 ρ (clk P T col i sz) sz → frD S S2 → vs_V G cX0_clearBelow (vs_MP yX0_clearBelow 8 none { frames := 2, locals := 49 } G Pst) 111 [(5, .int (nI i)), (4, .int (nI (ipw (T col col) P))), (0, .ref (G.2.2.2 + 28)), (1, .int (nI col)), (2, .int (nI sz)), (3, .ref (G.2.2.2 + 1))] [] S2) → vs_V G cX0_clearBelow (vs_MP yX0_clearBelow 8 none { frames := 2, locals := 49 } G Pst) 52 [(7, .int (nI j)), (6, .int (nI (T i col * ipw (T col col) P % P))), (5, .int (nI i)), (4, .int (nI (ipw (T col col) P))), (0, .ref (G.2.2.2 + 28)), (1, .int (nI col)), (2, .int (nI sz)), (3, .ref (G.2.2.2 + 1))] [] S := by
  intro d
  induction d with
  | zero =>
    intro j S hj hcj hP hD K
    obtain rfl : j = sz := by omega
    refine vs_iload dX0_clearBelow_52 rfl 0 rfl ?_
    refine vs_iload_n 2 dX0_clearBelow_54 rfl rfl 6 rfl ?_
    refine vs_icmp_ge 111 dX0_clearBelow_55 rfl rfl (fun c_55 => ?_) (fun c_55 => ?_)
    · have q_55 : ((j : Nat) : Int) ≥ ((j : Nat) : Int) := (qi_ge (nI_Z _) (nI_Z _) (by omega) (by omega) (by omega) (by omega)).mp c_55
      refine vs_pick (L2 := [(5, .int (nI i)), (4, .int (nI (ipw (T col col) P))), (0, .ref (G.2.2.2 + 28)), (1, .int (nI col)), (2, .int (nI j)), (3, .ref (G.2.2.2 + 1))]) [2, 3, 4, 5, 6, 7] rfl ?_
      exact K S rfl hD frD.rf
    · have q_55 : ¬ ((j : Nat) : Int) ≥ ((j : Nat) : Int) := fun hh => c_55 ((qi_ge (nI_Z _) (nI_Z _) (by omega) (by omega) (by omega) (by omega)).mpr hh)
      omega
  | succ d ih =>
    intro j S hj hcj hP hD K
    have hri := hD.1 i (by omega)
    have b1 := hb i j (by omega) (by omega)
    have b2 := hb col j (by omega) (by omega)
    have b3 := Nat.mod_lt (T i col * ipw (T col col) P) (show P > 0 by omega)
    have e1 : clk P T col i j i j = T i j := clk_p (by omega)
    have e2 : clk P T col i j col j = T col j := clk_p (by omega)
    refine vs_iload dX0_clearBelow_52 rfl 0 rfl ?_
    refine vs_iload_n 2 dX0_clearBelow_54 rfl rfl 6 rfl ?_
    refine vs_icmp_ge 111 dX0_clearBelow_55 rfl rfl (fun c_55 => ?_) (fun c_55 => ?_)
    · have q_55 : ((j : Nat) : Int) ≥ ((sz : Nat) : Int) := (qi_ge (nI_Z _) (nI_Z _) (by omega) (by omega) (by omega) (by omega)).mp c_55
      omega
    · have q_55 : ¬ ((j : Nat) : Int) ≥ ((sz : Nat) : Int) := fun hh => c_55 ((qi_ge (nI_Z _) (nI_Z _) (by omega) (by omega) (by omega) (by omega)).mpr hh)
      refine vs_iload dX0_clearBelow_58 rfl 0 rfl ?_
      refine vs_bipush (v := 40) dX0_clearBelow_60 rfl rfl ?_
      refine vs_icmp_ge 111 dX0_clearBelow_62 rfl rfl (fun c_62 => ?_) (fun c_62 => ?_)
      · have q_62 : ((j : Nat) : Int) ≥ ((40 : Nat) : Int) := (qi_ge (nI_Z _) (by first | exact nI_Z _ | (simp only [fa_lit, nI_add, pk_mul, nI_1]; exact nI_Z _)) (by omega) (by omega) (by omega) (by omega)).mp c_62
        omega
      · have q_62 : ¬ ((j : Nat) : Int) ≥ ((40 : Nat) : Int) := fun hh => c_62 ((qi_ge (nI_Z _) (by first | exact nI_Z _ | (simp only [fa_lit, nI_add, pk_mul, nI_1]; exact nI_Z _)) (by omega) (by omega) (by omega) (by omega)).mpr hh)
        refine vs_aload_n 0 dX0_clearBelow_65 rfl rfl 4 rfl ?_
        refine vs_get (v := .ref (G.2.2.2 + 29)) lf_X0_11 rfl rfl dX0_clearBelow_66 rfl ?_
        refine vs_iload dX0_clearBelow_69 rfl 2 rfl ?_
        refine vs_aald (t := 2) (k := i) (a := ρ i) rfl rfl rfl (by first | rfl | (simp only [fa_lit, nI_add, pk_mul, nI_1]; done) | omega) (by omega) rfl (hD.1 i (by omega)).1 dX0_clearBelow_71 rfl ?_
        refine vs_iload dX0_clearBelow_72 rfl 0 rfl ?_
        refine vs_aload_n 3 dX0_clearBelow_74 rfl rfl 7 rfl ?_
        refine vs_aload_n 0 dX0_clearBelow_75 rfl rfl 4 rfl ?_
        refine vs_get (v := .ref (G.2.2.2 + 29)) lf_X0_11 rfl rfl dX0_clearBelow_76 rfl ?_
        refine vs_iload dX0_clearBelow_79 rfl 2 rfl ?_
        refine vs_aald (t := 2) (k := i) (a := ρ i) rfl rfl rfl (by first | rfl | (simp only [fa_lit, nI_add, pk_mul, nI_1]; done) | omega) (by omega) rfl (hD.1 i (by omega)).1 dX0_clearBelow_81 rfl ?_
        refine vs_iload dX0_clearBelow_82 rfl 0 rfl ?_
        refine vs_iald (k := j) (vs_Trow (hD.1 i (by omega)).2.1 (hD.1 i (by omega)).2.2) (by first | rfl | (simp only [fa_lit, nI_add, pk_mul, nI_1]; done) | omega) (by omega) rfl dX0_clearBelow_84 rfl ?_
        refine vs_topi (fun z1 e_z1 => ?_)
        have f_z1 : z1 = nI (T i j) := (by rw [e_z1, dR_get hD (by omega) (by omega), e1])
        subst f_z1
        clear e_z1
        refine vs_i2l dX0_clearBelow_85 rfl ?_
        refine vs_iload dX0_clearBelow_86 rfl 1 rfl ?_
        refine vs_i2l dX0_clearBelow_88 rfl ?_
        refine vs_aload_n 0 dX0_clearBelow_89 rfl rfl 4 rfl ?_
        refine vs_get (v := .ref (G.2.2.2 + 29)) lf_X0_11 rfl rfl dX0_clearBelow_90 rfl ?_
        refine vs_iload_n 1 dX0_clearBelow_93 rfl rfl 5 rfl ?_
        refine vs_aald (t := 2) (k := col) (a := ρ col) rfl rfl rfl (by first | rfl | (simp only [fa_lit, nI_add, pk_mul, nI_1]; done) | omega) (by omega) rfl (hD.1 col (by omega)).1 dX0_clearBelow_94 rfl ?_
        refine vs_iload dX0_clearBelow_95 rfl 0 rfl ?_
        refine vs_iald (k := j) (vs_Trow (hD.1 col (by omega)).2.1 (hD.1 col (by omega)).2.2) (by first | rfl | (simp only [fa_lit, nI_add, pk_mul, nI_1]; done) | omega) (by omega) rfl dX0_clearBelow_97 rfl ?_
        refine vs_topi (fun z2 e_z2 => ?_)
        have f_z2 : z2 = nI (T col j) := (by rw [e_z2, dR_get hD (by omega) (by omega), e2])
        subst f_z2
        clear e_z2
        refine vs_i2l dX0_clearBelow_98 rfl ?_
        refine vs_lmul dX0_clearBelow_99 rfl ?_
        refine vs_lsub dX0_clearBelow_100 rfl ?_
        refine vs_callV (st := [.int (nI j), .ref (G.2.2.2 + (ρ i))]) (c_ofZ (z := (T i j : Int) - ((T i col * ipw (T col col) P % P) : Nat) * T col j) (nn_msub2 b3 b2 b1 hP2) hP hP1 hP2) lk_X0_51 lm_X5_of rfl rfl rfl rfl (Nat.le_of_ble_eq_true rfl) rfl ⟨rfl, rfl⟩ dX0_clearBelow_101 rfl ?_
        show vs_V _ _ _ _ _ (.int (nI (clv P T col i j)) :: _) _
        refine vs_iast (k := j) (vs_Trow (hD.1 i (by omega)).2.1 (hD.1 i (by omega)).2.2) (by first | rfl | (simp only [fa_lit, nI_add, pk_mul, nI_1]; done) | omega) (by omega) rfl dX0_clearBelow_104 rfl ?_
        have hD2 := dR_put (j := j) (x := clv P T col i j) hD hm hi
        rw [clk_s hi2 hcj] at hD2
        refine vs_iinc (v := nI (j + 1)) [(7, .int (nI (j + 1))), (6, .int (nI (T i col * ipw (T col col) P % P))), (5, .int (nI i)), (4, .int (nI (ipw (T col col) P))), (0, .ref (G.2.2.2 + 28)), (1, .int (nI col)), (2, .int (nI sz)), (3, .ref (G.2.2.2 + 1))] dX0_clearBelow_105 rfl 0 rfl (by first | exact nI_1 _ | (simp only [fa_lit, nI_add, pk_mul, nI_1]; rfl)) rfl rfl ?_
        refine vs_goto 52 dX0_clearBelow_108 rfl ?_
        refine vs_pick [0, 1, 2, 3, 4, 5, 6, 7] rfl ?_
        exact ih (j + 1) _ (by omega) (by omega) hP hD2 (fun S2 h0 h1 h2 => K S2 h0 h1 ((frD.ia hri.2.1 hri.2.2).tr h2))

theorem l_clr2 {G : vv_G} {S : vs_S} {ρ : Nat → Nat} {T : Nat → Nat → Nat} {sz : Nat} (hm : sz ≤ 40) {P : Nat} (hP1 : 2 ≤ P) (hP2 : P ≤ 30011) (hb : ∀ i j, i < sz → j < sz → T i j < P) {col : Nat} (hcol : col < sz) {Pst : Option Value → vs_S → Prop} : ∀ (d i : Nat) (S : vs_S), i + d = sz → col < i → S.1 1 0 = nI P → dR S ρ (clk P T col i col) sz → (∀ S2 : vs_S, dR S2 ρ (clr P T col) sz → frD S S2 → Pst none S2) → vs_V G cX0_clearBelow (vs_MP yX0_clearBelow 8 none { frames := 2, locals := 49 } G Pst) 19 [(5, .int (nI i)), (4, .int (nI (ipw (T col col) P))), (0, .ref (G.2.2.2 + 28)), (1, .int (nI col)), (2, .int (nI sz)), (3, .ref (G.2.2.2 + 1))] [] S := by
  intro d
  induction d with
  | zero =>
    intro i S hi hc hP hD K
    obtain rfl : i = sz := by omega
    refine vs_iload dX0_clearBelow_19 rfl 0 rfl ?_
    refine vs_iload_n 2 dX0_clearBelow_21 rfl rfl 4 rfl ?_
    refine vs_icmp_ge 117 dX0_clearBelow_22 rfl rfl (fun c_22 => ?_) (fun c_22 => ?_)
    · have q_22 : ((i : Nat) : Int) ≥ ((i : Nat) : Int) := (qi_ge (nI_Z _) (nI_Z _) (by omega) (by omega) (by omega) (by omega)).mp c_22
      exact vs_vretP dX0_clearBelow_117 (K S (dR_of hD (fun a b ha _ => clk_end ha)) frD.rf)
    · have q_22 : ¬ ((i : Nat) : Int) ≥ ((i : Nat) : Int) := fun hh => c_22 ((qi_ge (nI_Z _) (nI_Z _) (by omega) (by omega) (by omega) (by omega)).mpr hh)
      omega
  | succ d ih =>
    intro i S hi hc hP hD K
    have b1 := hb i col (by omega) (by omega)
    have b2 := ipw_lt (a := T col col) hP1
    have e1 : clk P T col i col i col = T i col := clk_p (by omega)
    refine vs_iload dX0_clearBelow_19 rfl 0 rfl ?_
    refine vs_iload_n 2 dX0_clearBelow_21 rfl rfl 4 rfl ?_
    refine vs_icmp_ge 117 dX0_clearBelow_22 rfl rfl (fun c_22 => ?_) (fun c_22 => ?_)
    · have q_22 : ((i : Nat) : Int) ≥ ((sz : Nat) : Int) := (qi_ge (nI_Z _) (nI_Z _) (by omega) (by omega) (by omega) (by omega)).mp c_22
      omega
    · have q_22 : ¬ ((i : Nat) : Int) ≥ ((sz : Nat) : Int) := fun hh => c_22 ((qi_ge (nI_Z _) (nI_Z _) (by omega) (by omega) (by omega) (by omega)).mpr hh)
      refine vs_iload dX0_clearBelow_25 rfl 0 rfl ?_
      refine vs_bipush (v := 40) dX0_clearBelow_27 rfl rfl ?_
      refine vs_icmp_ge 117 dX0_clearBelow_29 rfl rfl (fun c_29 => ?_) (fun c_29 => ?_)
      · have q_29 : ((i : Nat) : Int) ≥ ((40 : Nat) : Int) := (qi_ge (nI_Z _) (by first | exact nI_Z _ | (simp only [fa_lit, nI_add, pk_mul, nI_1]; exact nI_Z _)) (by omega) (by omega) (by omega) (by omega)).mp c_29
        omega
      · have q_29 : ¬ ((i : Nat) : Int) ≥ ((40 : Nat) : Int) := fun hh => c_29 ((qi_ge (nI_Z _) (by first | exact nI_Z _ | (simp only [fa_lit, nI_add, pk_mul, nI_1]; exact nI_Z _)) (by omega) (by omega) (by omega) (by omega)).mpr hh)
        refine vs_aload_n 3 dX0_clearBelow_32 rfl rfl 5 rfl ?_
        refine vs_aload_n 0 dX0_clearBelow_33 rfl rfl 2 rfl ?_
        refine vs_get (v := .ref (G.2.2.2 + 29)) lf_X0_11 rfl rfl dX0_clearBelow_34 rfl ?_
        refine vs_iload dX0_clearBelow_37 rfl 0 rfl ?_
        refine vs_aald (t := 2) (k := i) (a := ρ i) rfl rfl rfl (by first | rfl | (simp only [fa_lit, nI_add, pk_mul, nI_1]; done) | omega) (by omega) rfl (hD.1 i (by omega)).1 dX0_clearBelow_39 rfl ?_
        refine vs_iload_n 1 dX0_clearBelow_40 rfl rfl 3 rfl ?_
        refine vs_iald (k := col) (vs_Trow (hD.1 i (by omega)).2.1 (hD.1 i (by omega)).2.2) (by first | rfl | (simp only [fa_lit, nI_add, pk_mul, nI_1]; done) | omega) (by omega) rfl dX0_clearBelow_41 rfl ?_
        refine vs_topi (fun z1 e_z1 => ?_)
        have f_z1 : z1 = nI (T i col) := (by rw [e_z1, dR_get hD (by omega) (by omega), e1])
        subst f_z1
        clear e_z1
        refine vs_iload dX0_clearBelow_42 rfl 1 rfl ?_
        refine vs_callV (st := []) (c_rproduct (x := T i col) (y := (ipw (T col col) P)) hP hP1 (by omega) (by omega) (by omega)) lk_X0_41 lm_X5_product rfl rfl rfl rfl (Nat.le_of_ble_eq_true rfl) rfl ⟨rfl, rfl⟩ dX0_clearBelow_44 rfl ?_
        show vs_V _ _ _ _ _ (.int (nI (T i col * ipw (T col col) P % P)) :: _) _
        refine vs_istore [(6, .int (nI (T i col * ipw (T col col) P % P))), (5, .int (nI i)), (4, .int (nI (ipw (T col col) P))), (0, .ref (G.2.2.2 + 28)), (1, .int (nI col)), (2, .int (nI sz)), (3, .ref (G.2.2.2 + 1))] dX0_clearBelow_47 rfl rfl rfl ?_
        refine vs_iload_n 1 dX0_clearBelow_49 rfl rfl 4 rfl ?_
        refine vs_istore [(7, .int (nI col)), (6, .int (nI (T i col * ipw (T col col) P % P))), (5, .int (nI i)), (4, .int (nI (ipw (T col col) P))), (0, .ref (G.2.2.2 + 28)), (1, .int (nI col)), (2, .int (nI sz)), (3, .ref (G.2.2.2 + 1))] dX0_clearBelow_50 rfl rfl rfl ?_
        refine vs_pick (L2 := [(7, .int (nI col)), (6, .int (nI (T i col * ipw (T col col) P % P))), (5, .int (nI i)), (4, .int (nI (ipw (T col col) P))), (0, .ref (G.2.2.2 + 28)), (1, .int (nI col)), (2, .int (nI sz)), (3, .ref (G.2.2.2 + 1))]) [0, 1, 2, 3, 4, 5, 6, 7] rfl ?_
        refine l_clr1 (S := S) hm hP1 hP2 hb hcol (show i < sz by omega) hc (sz - col) col _ (by omega) (Nat.le_refl _) hP hD (fun S2 h0 h1 h2 => ?_)
        refine vs_iinc (v := nI (i + 1)) [(5, .int (nI (i + 1))), (4, .int (nI (ipw (T col col) P))), (0, .ref (G.2.2.2 + 28)), (1, .int (nI col)), (2, .int (nI sz)), (3, .ref (G.2.2.2 + 1))] dX0_clearBelow_111 rfl 0 rfl (by first | exact nI_1 _ | (simp only [fa_lit, nI_add, pk_mul, nI_1]; rfl)) rfl rfl ?_
        refine vs_goto 19 dX0_clearBelow_114 rfl ?_
        refine vs_pick [0, 1, 2, 3, 4, 5] rfl ?_
        exact ih (i + 1) S2 (by omega) (by omega) (by rw [h0]; exact hP) (dR_of h1 (fun a b _ hb => clk_row hb)) (fun S3 g1 g2 => K S3 g1 (h2.tr g2))

theorem c_clearBelow {G : vv_G} {S : vs_S} {ρ : Nat → Nat} {T : Nat → Nat → Nat} {sz : Nat} (hm : sz ≤ 40) {P : Nat} (hP1 : 2 ≤ P) (hP2 : P ≤ 30011) (hb : ∀ i j, i < sz → j < sz → T i j < P) {col : Nat} (hcol : col < sz) (hP : S.1 1 0 = nI P) (hD : dR S ρ T sz) : vs_CP G yX0_clearBelow cX0_clearBelow 8 none { frames := 2, locals := 49 } [.ref (G.2.2.2 + 28), .int (nI col), .int (nI sz), .ref (G.2.2.2 + 1)] S (fun r S2 => r = none ∧ frD S S2 ∧ dR S2 ρ (clr P T col) sz) := by
  refine vs_ofP [(0, .ref (G.2.2.2 + 28)), (1, .int (nI col)), (2, .int (nI sz)), (3, .ref (G.2.2.2 + 1))] (by decide) rfl rfl ?_
  have b1 := hb col col (by omega) (by omega)
  refine vs_aload_n 3 dX0_clearBelow_0 rfl rfl 3 rfl ?_
  refine vs_aload_n 0 dX0_clearBelow_1 rfl rfl 0 rfl ?_
  refine vs_get (v := .ref (G.2.2.2 + 29)) lf_X0_11 rfl rfl dX0_clearBelow_2 rfl ?_
  refine vs_iload_n 1 dX0_clearBelow_5 rfl rfl 1 rfl ?_
  refine vs_aald (t := 2) (k := col) (a := ρ col) rfl rfl rfl (by first | rfl | (simp only [fa_lit, nI_add, pk_mul, nI_1]; done) | omega) (by omega) rfl (hD.1 col (by omega)).1 dX0_clearBelow_6 rfl ?_
  refine vs_iload_n 1 dX0_clearBelow_7 rfl rfl 1 rfl ?_
  refine vs_iald (k := col) (vs_Trow (hD.1 col (by omega)).2.1 (hD.1 col (by omega)).2.2) (by first | rfl | (simp only [fa_lit, nI_add, pk_mul, nI_1]; done) | omega) (by omega) rfl dX0_clearBelow_8 rfl ?_
  refine vs_topi (fun z1 e_z1 => ?_)
  have f_z1 : z1 = nI (T col col) := (by rw [e_z1]; exact dR_get hD (by omega) (by omega))
  subst f_z1
  clear e_z1
  refine vs_callV (st := []) (c_rinverse (a := T col col) hP hP1 hP2 b1) lk_X0_48 lm_X5_inverse rfl rfl rfl rfl (Nat.le_of_ble_eq_true rfl) rfl ⟨rfl, rfl⟩ dX0_clearBelow_9 rfl ?_
  show vs_V _ _ _ _ _ (.int (nI (ipw (T col col) P)) :: _) _
  refine vs_istore [(4, .int (nI (ipw (T col col) P))), (0, .ref (G.2.2.2 + 28)), (1, .int (nI col)), (2, .int (nI sz)), (3, .ref (G.2.2.2 + 1))] dX0_clearBelow_12 rfl rfl rfl ?_
  refine vs_iload_n 1 dX0_clearBelow_14 rfl rfl 2 rfl ?_
  refine vs_iconst (v := 1) dX0_clearBelow_15 rfl rfl ?_
  refine vs_iadd dX0_clearBelow_16 rfl ?_
  refine vs_topi (fun z2 e_z2 => ?_)
  have f_z2 : z2 = nI (col + 1) := (by rw [e_z2]; exact nI_1 _)
  subst f_z2
  clear e_z2
  refine vs_istore [(5, .int (nI (col + 1))), (4, .int (nI (ipw (T col col) P))), (0, .ref (G.2.2.2 + 28)), (1, .int (nI col)), (2, .int (nI sz)), (3, .ref (G.2.2.2 + 1))] dX0_clearBelow_17 rfl rfl rfl ?_
  refine vs_pick (L2 := [(5, .int (nI (col + 1))), (4, .int (nI (ipw (T col col) P))), (0, .ref (G.2.2.2 + 28)), (1, .int (nI col)), (2, .int (nI sz)), (3, .ref (G.2.2.2 + 1))]) [0, 1, 2, 3, 4, 5] rfl ?_
  exact l_clr2 (S := S) hm hP1 hP2 hb hcol (sz - (col + 1)) (col + 1) _ (by omega) (by omega) hP (dR_of hD (fun a b _ _ => clk_beg.symm)) (fun S2 h1 h2 => ⟨rfl, h2, h1⟩)

