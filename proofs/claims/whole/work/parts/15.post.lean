/-- contracts that say of the state behind them what holds there -/
def vp_QQ (G : vv_G) (Pst : Option Value → vs_S → Prop) : Array Value → State → Outcome → State → Prop := fun _ st o t => ∃ (r : Option Value) (S' : vs_S), o = .returned r ∧ Pst r S' ∧ t.heap.size = G.2.2.2 + 146 ∧ vv_HP G.2.1 (vs_lay G S') t.heap ∧ va_F (vv_A G) st t
def vs_CP (G : vv_G) (y : MethodName) (cc : ByteArray) (maxL : Nat) (ret : Option FieldType) (rm : Room) (av : List Value) (S : vs_S) (Pst : Option Value → vs_S → Prop) : Prop := Met G.1 y (Cond.code y cc maxL ret :: vv_gd) rm (vv_PP G av (G.2.2.2 + 146) (vs_lay G S)) (vp_QQ G Pst) rm.cells rm.slots (vv_A G)
def vs_MP (y : MethodName) (maxL : Nat) (ret : Option FieldType) (rm : Room) (G : vv_G) (Pst : Option Value → vs_S → Prop) : vv_M := (y.cls, maxL, ret, y.name, rm, fun _ => True, fun below args s => MQ below (vp_QQ G Pst) args s 0 0 (vv_A G))
theorem vs_lay_dom {G : vv_G} {S : vs_S} : ∀ (a : Nat) (e : va_E), vs_lay G S a = some e → G.2.2.2 ≤ a := fun a e h => by
  unfold vs_lay at h
  by_cases h1 : a < G.2.2.2
  · rw [if_pos h1] at h; cases h
  · omega
theorem vs_ofP {G : vv_G} {y : MethodName} {cc : ByteArray} {maxL : Nat} {ret : Option FieldType} {fr lo : Nat} {av : List Value} {S : vs_S} {Pst : Option Value → vs_S → Prop} (L : List (Nat × Value)) (hy : plainName y.cls = true) (hl : lv_args 0 av = L) (hs : Nat.ble (lg_sl av).length maxL = true)
    (k : vs_V G cc (vs_MP y maxL ret { frames := fr, locals := lo } G Pst) 0 L [] S) : vs_CP G y cc maxL ret { frames := fr, locals := lo } av S Pst := by
  refine Met.ofW (cc := cc) (maxL := maxL) (ret := ret) hy rfl ?_
  intro p e s m args below meth c s₁ B hml hv
  obtain ⟨rfl, hsz, hP, hK, hB, hd⟩ := hv
  have hts := atoms_spec (ws := Cond.code y cc maxL ret :: vv_gd) B.pre
  have hown : s.vm.findClass y.cls = some m.cls := findClass_of_methodNamed B.named
  have hl1 := lv_entry av (n := maxL) (Nat.le_of_ble_eq_true hs)
  rw [hl] at hl1
  rw [lg_entry_eq]
  exact k p e s m _ below meth c s.heap [] _ ⟨B.exec, B.bytes, hml, hown, fun w hw => hts w (List.mem_cons_of_mem _ hw), hK, B.notSynchronized, B.returns, (name_of_methodNamed B.named B.method).1, trivial, by rw [hsz]; exact hB⟩ ⟨hsz, hP, va_S.rf, hd⟩ hl1
section VPE
variable {G : vv_G} {cc : ByteArray} {pc q : Nat} {L : List (Nat × Value)} {S : vs_S} {y : MethodName} {maxL : Nat} {rm : Room} {Pst : Option Value → vs_S → Prop}
theorem vs_iretP {v : Int32} (hd : decode cc pc = .ok (.ireturn, 1)) (hr : Pst (some (.int v)) S) : vs_V G cc (vs_MP y maxL (some .int) rm G Pst) pc L [.int v] S := by
  intro p e s m args below meth c H locs ls F X hl
  exact W.iret F.1 F.2.1 F.2.2.2.2.2.2.2.1 (fun t ht hW => ⟨_, S, rfl, hr, by rw [ht]; exact X.1, by rw [ht]; exact X.2.1, X.2.2.1.F ht⟩) X.2.2.1.2.2 hd F.2.2.2.2.2.2.1
theorem vs_zretP {v : Int32} (hd : decode cc pc = .ok (.ireturn, 1)) (hv : v = 0 ∨ v = 1) (hr : Pst (some (.int v)) S) : vs_V G cc (vs_MP y maxL (some .boolean) rm G Pst) pc L [.int v] S := by
  intro p e s m args below meth c H locs ls F X hl
  exact W.zret F.1 F.2.1 F.2.2.2.2.2.2.2.1 (by rcases hv with rfl | rfl <;> rfl) (fun t ht hW => ⟨_, S, rfl, hr, by rw [ht]; exact X.1, by rw [ht]; exact X.2.1, X.2.2.1.F ht⟩) X.2.2.1.2.2 hd F.2.2.2.2.2.2.1
theorem vs_lretP {v : Int64} (hd : decode cc pc = .ok (.lreturn, 1)) (hr : Pst (some (.long v)) S) : vs_V G cc (vs_MP y maxL (some .long) rm G Pst) pc L [.long v] S := by
  intro p e s m args below meth c H locs ls F X hl
  exact W.lret F.1 F.2.1 F.2.2.2.2.2.2.2.1 (fun t ht hW => ⟨_, S, rfl, hr, by rw [ht]; exact X.1, by rw [ht]; exact X.2.1, X.2.2.1.F ht⟩) X.2.2.1.2.2 hd F.2.2.2.2.2.2.1
theorem vs_aretP {C : String} {v : Value} (hd : decode cc pc = .ok (.areturn, 1)) (hv : v = .null ∨ ∃ a, v = .ref a) (hr : Pst (some v) S) : vs_V G cc (vs_MP y maxL (some (.object C)) rm G Pst) pc L [v] S := by
  intro p e s m args below meth c H locs ls F X hl
  exact W.aret F.1 F.2.1 F.2.2.2.2.2.2.2.1 (Or.inl ⟨_, rfl⟩) hv (fun t ht hW => ⟨_, S, rfl, hr, by rw [ht]; exact X.1, by rw [ht]; exact X.2.1, X.2.2.1.F ht⟩) X.2.2.1.2.2 hd F.2.2.2.2.2.2.1
theorem vs_vretP (hd : decode cc pc = .ok (.return_, 1)) (hr : Pst none S) : vs_V G cc (vs_MP y maxL none rm G Pst) pc L [] S := by
  intro p e s m args below meth c H locs ls F X hl
  exact W.vret F.1 F.2.1 F.2.2.2.2.2.2.2.1 (fun t ht hW => ⟨_, S, rfl, hr, by rw [ht]; exact X.1, by rw [ht]; exact X.2.1, X.2.2.1.F ht⟩) X.2.2.1.2.2 hd F.2.2.2.2.2.2.1
end VPE
section VPC
variable {G : vv_G} {cc : ByteArray} {M : vv_M} {pc q : Nat} {L : List (Nat × Value)} {st : List Value} {S : vs_S}
theorem vs_backP {p : Program} {e : Env} {s : State} {m : MethodId} {args : Array Value} {below : List Frame} {meth : Method} {c : Code} {H : Heap} {locs : List Loc} {ls : Array Slot} {Pst : Option Value → vs_S → Prop} {a : Array Value} {st0 : List Value}
    (F : vv_F G cc M p s m args meth c) (X : vv_X G (G.2.2.2 + 146) (vs_lay G S) s H locs) (hl : lv_has ls M.2.1 L) (hr : va_Run p G.1 e M.2.2.2.2.1 s m args below meth c H locs 0 0 0 0 (F0 m pc ls st0) st (vp_QQ G Pst a) (vv_A G)) (kk : ∀ (r : Option Value) (S' : vs_S), Pst r S' → vs_V G cc M (pc + 3) L (r.toList ++ st) S') : W p G.1 e M.2.2.2.2.1 s m args below meth c H locs 0 0 (M.2.2.2.2.2.2 below args s) (F0 m pc ls st0) := by
  intro T hT XX
  obtain ⟨v, st₀, t, T', L9, h0, X', hL, e1, e2, ⟨r, S', hv, hp, hz, hP, hF⟩, stp⟩ := hr T hT XX
  cases hv
  obtain ⟨hF1, hF2⟩ := hF
  rw [h0] at hF1 hF2
  have hS := X.2.2.1
  obtain ⟨t2, a1, b1⟩ := kk v S' hp p e s m args below meth c T'.heap (locs ++ L9) ls F ⟨by rw [e1]; exact hz, by rw [e1]; exact hP, ⟨Nat.le_trans hS.1 (by rw [e1]; exact hF1), fun x h1 h2 => by rw [e1, hF2 x (Nat.lt_of_lt_of_le h1 hS.1) h2]; exact hS.2.1 x h1 h2, fun x hx => by
      rcases List.mem_append.mp hx with z | z
      · exact hS.2.2 x z
      · exact hL x z⟩, vs_lay_dom⟩ hl T' rfl X'
  exact ⟨t2, stp t2 a1, b1⟩
theorem vs_callVP {y : MethodName} {bytes : ByteArray} {maxL : Nat} {ret : Option FieldType} {rm : Room} {As : List Value} {o ci i k : Nat} {fds : List (Option Nat)} {Pst : Option Value → vs_S → Prop} {T : u_T} {N : Nat} {stk : List Value} (hc : vs_CP G y bytes maxL ret rm (.ref (G.2.2.2 + o) :: As) S Pst) (hlk : vv_LK M.1 i y) (hy : vv_LV y bytes maxL ret k) (hcl : vv_cl[ci]? = some (y.cls, T, N)) (hT : vs_T[o]? = some (.inr (ci, fds))) (hn : As.length = k) (hst : stk = As.reverse ++ .ref (G.2.2.2 + o) :: st) (hW : (st.map fun v => v.category).sum ≤ 8) (hR : vv_rm rm maxL M.2.2.2.2.1 = true) (h0 : rm.cells = 0 ∧ rm.slots = 0) (hd : decode cc pc = .ok (.invokevirtual i, 3)) (hq : pc + 3 = q) (kk : ∀ (r : Option Value) (S' : vs_S), Pst r S' → vs_V G cc M q L (r.toList ++ st) S') : vs_V G cc M pc L stk S := by
  subst hq hst
  intro p e s m args below meth c H locs ls F X hl
  obtain ⟨⟨hini, hcode, hd1, hd2, hd3⟩, hinst, hsel⟩ := hy
  have hts := F.2.2.2.2.1
  have hR1 := Bool.and_eq_true_iff.mp hR
  have hRR : rm.frames + 1 ≤ M.2.2.2.2.1.frames ∧ 8 + (maxL + 11) + rm.locals ≤ M.2.2.2.2.1.locals := ⟨Nat.le_of_ble_eq_true hR1.1, Nat.le_of_ble_eq_true hR1.2⟩
  have hrecv := va_recv F.2.2.2.2.2.1.1 (vv_one X.2.1 (vs_lay_at hT)) hcl (q0 := 0) rfl
  refine vs_backP F X hl (a := (Value.ref (G.2.2.2 + o) :: As).toArray) ?_ kk
  have hc' := hc
  unfold vs_CP at hc'
  rw [h0.1, h0.2] at hc'
  rcases hlk with hlk | ⟨host, hlk⟩
  · exact va_runV ⟨F.1, F.2.1, F.2.2.1, F.2.2.2.1, hts⟩ hc' ⟨callB_of k hts (vv_gin hcode) rfl h0.1 h0.2 (hts _ hini) (hts _ hlk) ⟨hd1, hd2, hd3⟩ hRR, hts _ hinst, hts _ hsel⟩ ⟨vv_blind, hrecv, vv_pre F.2.2.2.2.2.1 F.2.2.2.2.2.2.2.2.2.2 X⟩ rfl hn hl.1 rfl (lv_room hW) hd ⟨Nat.zero_le _, Nat.zero_le _⟩
  · exact va_runVN ⟨F.1, F.2.1, F.2.2.1, F.2.2.2.1, hts⟩ hc' ⟨va_cnB k hts (vv_gin hcode) rfl h0.1 h0.2 (F.2.2.2.2.2.1.2.1 _ hlk) (hts _ hini) ⟨hd1, hd2, hd3⟩ hRR, hts _ hinst, hts _ hsel⟩ ⟨vv_blind, hrecv, vv_pre F.2.2.2.2.2.1 F.2.2.2.2.2.2.2.2.2.2 X⟩ rfl hn hl.1 rfl (lv_room hW) hd ⟨Nat.zero_le _, Nat.zero_le _⟩
end VPC
theorem vs_CP_of {G : vv_G} {y : MethodName} {cc : ByteArray} {maxL : Nat} {ret : Option FieldType} {rm : Room} {av : List Value} {S : vs_S} {P1 P2 : Option Value → vs_S → Prop} (h : vs_CP G y cc maxL ret rm av S P1) (hp : ∀ r S', P1 r S' → P2 r S') : vs_CP G y cc maxL ret rm av S P2 := by
  intro p e ha hc hk s m args below hf happ hp1 hk1
  obtain ⟨n, o, g1, g2, g3, ⟨r, S', h1, h2, h3⟩, h4⟩ := h p e ha hc hk s m args below hf happ hp1 hk1
  exact ⟨n, o, g1, g2, g3, ⟨r, S', h1, hp r S' h2, h3⟩, h4⟩
theorem vs_CP_eq {G : vv_G} {y : MethodName} {cc : ByteArray} {maxL : Nat} {ret : Option FieldType} {rm : Room} {av : List Value} {S S' : vs_S} {r : Option Value} (h : vs_C G y cc maxL ret rm av S r S') : vs_CP G y cc maxL ret rm av S (fun r2 S2 => r2 = r ∧ S2 = S') := by
  intro p e ha hc hk s m args below hf happ hp1 hk1
  obtain ⟨n, o, g1, g2, g3, ⟨h1, h2, h3, h4, h5⟩, h6⟩ := h p e ha hc hk s m args below hf happ hp1 hk1
  exact ⟨n, o, g1, g2, g3, ⟨r, S', h1, ⟨rfl, rfl⟩, h2, h3, h4⟩, h6⟩
/-- the same but for some int arrays -/
def vs_fr (S S' : vs_S) (l : List Nat) : Prop := S'.1 = S.1 ∧ S'.2.2 = S.2.2 ∧ ∀ k, k ∉ l → S'.2.1 k = S.2.1 k
theorem vs_fr.rf {S : vs_S} {l : List Nat} : vs_fr S S l := ⟨rfl, rfl, fun _ _ => rfl⟩
theorem vs_fr.ia {S S' : vs_S} {l : List Nat} {o : Nat} {f : Nat → Int32} (h : vs_fr S S' l) (ho : o ∈ l) : vs_fr S (vs_ia S' o f) l := ⟨h.1, h.2.1, fun k hk => (vs_u2_n (fun e => hk (by rw [e]; exact ho))).trans (h.2.2 k hk)⟩
theorem vs_fr.tr {S S1 S2 : vs_S} {l l1 : List Nat} (h : vs_fr S S1 l) (h2 : vs_fr S1 S2 l1) (hs : ∀ x ∈ l1, x ∈ l) : vs_fr S S2 l := ⟨h2.1.trans h.1, h2.2.1.trans h.2.1, fun k hk => (h2.2.2 k (fun e => hk (hs k e))).trans (h.2.2 k hk)⟩
theorem vs_fr.p {S S' : vs_S} {l : List Nat} {o : Nat} {g : Nat → Nat} (h : vs_fr S S' l) (ho : o + 1 ∉ l) (hg : pR S o g) : pR S' o g := ⟨(h.2.2 _ ho).trans hg.1, hg.2⟩

