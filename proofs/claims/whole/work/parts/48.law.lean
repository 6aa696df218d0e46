def R_law : String := "SharesOfSeriesLaw"
def lw_P (b : Addr) (xs : List Int32) (args : Array Value) (s : State) : Prop := args = #[.ref b] ∧ s.IntsAt b xs ∧ xs.length ≤ 3072 ∧ (Jvm.Cond.and given_1 narrow_1).before args s = true
def lw_Q (_ : Array Value) (s : State) (o : Outcome) (t : State) : Prop := o = .returned (some (.int 1)) ∧ Framed s o t [] 600000 7302250
def lw_Z (below : List Frame) (a : Array Value) (s : State) : State → Prop := fun t => ∃ o, t.status = .running ∧ Ended t below o ∧ lw_Q a s o t
theorem lw_retA {p : Program} {l : Launch} {e : Env} {s : State} {m : MethodId} {args : Array Value} {below : List Frame} {meth : Method} {c : Code} (hx : p.tables.exec = Jvm.exec) (hb : c.code = code) (hr : meth.sig.returnType = ret) (hlocks : meth.locks = false) {pc : Nat} {H : Heap} {ls : Array Slot} (hdg : decode code pc = .ok (.ireturn, 1)) : W p l e room_1 s m args below meth c H [] 600000 7302250 (lw_Z below args s) (F0 m pc ls [.int 1]) := by
  intro T hT X
  obtain ⟨fs, hret, hrun, hended, hW, hframe⟩ := X.leave (v := some (.int 1)) (hlocks := hlocks) (fun h => by rw [hr] at h; cases h)
  have hmeth' : T.vm.method? m = some meth := X.method'
  refine ⟨T.setFrames fs, ?_, .returned (some (.int 1)), hrun, hended, rfl, ⟨_, rfl⟩, hW, hframe⟩
  jvm_step X.here [X.here.top, hx, hb, hdg, hmeth', hr, ret, narrow_b1]
  (try refine ⟨rfl, ?_⟩); (try refine ⟨rfl, ?_⟩)
  first | (intro acts; rw [hret _ acts rfl rfl rfl]) | rw [hret _ _ rfl rfl rfl]
  exact Steps.refl _
/-- what holds at the law's entry -/
def lw_At (p : Program) (s : State) (m : MethodId) (meth : Method) (c : Code) (b L : Nat) (xs : Nat → Int32) : Prop :=
  p.tables.exec = Jvm.exec ∧ c.code = code ∧ meth.sig.returnType = ret ∧ c.maxLocals = 4 ∧ s.vm.findClass R_law = some m.cls ∧ (∀ w ∈ lw_tbl, w.before #[Value.ref b] s = true) ∧ va_X b L xs s s.heap ∧ b < s.heap.size ∧ meth.locks = false ∧ (Jvm.Cond.and given_1 narrow_1).before #[Value.ref b] s = true
/-- the law's own method, its script at b -/
abbrev lM (b L : Nat) (xs : Nat → Int32) (nm : String) (B : Nat) : vv_M := (RL, 4, ret, nm, room_1, fun s => va_X b L xs s s.heap ∧ b < s.heap.size ∧ s.heap.size = B, fun below args s => lw_Z below args s)
abbrev lL (G : vv_G) (b i : Nat) : List (Nat × Value) := [(3, .int (nI i)), (0, .ref b), (1, .ref (G.2.2.2 + 0)), (2, .ref (G.2.2.2 + 118))]
abbrev lV (G : vv_G) (b L : Nat) (xs : Nat → Int32) (nm : String) (cells slots pc i : Nat) (st : List Value) (S : vs_S) : Prop := vv_V G cL_law (lM b L xs nm G.2.2.2) cells slots pc (lL G b i) st (G.2.2.2 + 146) (vs_lay G S)
theorem z_lo (x : Int32) : -2147483648 ≤ x.toInt := by
  have := Int32.le_toInt x
  omega
theorem z_hi (x : Int32) : x.toInt < 2147483648 := by
  have := Int32.toInt_lt x
  omega
theorem z_31 (x : Int32) : ∃ k : Nat, k < 32 ∧ x &&& 31 = nI k := by
  refine ⟨(x &&& 31).toBitVec.toNat, ?_, ?_⟩
  · rw [Int32.toBitVec_and, BitVec.toNat_and]
    have h : (31 : Int32).toBitVec.toNat = 31 := rfl
    rw [h]
    exact Nat.lt_succ_of_le Nat.and_le_right
  · apply Int32.toBitVec_inj.mp
    show _ = BitVec.ofNat 32 _
    rw [BitVec.ofNat_toNat, BitVec.setWidth_eq]
section LAW
variable {G : vv_G} {b L : Nat} {xs : Nat → Int32} {nm : String} {cells slots pc q i : Nat} {Lo : List (Nat × Value)} {st : List Value} {n : Nat} {h : vv_H}
theorem lL_ret (hd : decode cL_law pc = .ok (.ireturn, 1)) (hc : cells ≤ 600000) (hs : slots ≤ 7302250) : vv_V G cL_law (lM b L xs nm G.2.2.2) cells slots pc Lo [.int 1] n h := by
  intro p e s m args below meth c H locs ls F X hl
  obtain ⟨hX, hbl, hB⟩ := F.2.2.2.2.2.2.2.2.2.1
  refine va_forget (fun q hq => ?_) ?_
  · have h1 : G.2.2.2 ≤ q.base := X.2.2.1.2.2 q hq
    omega
  · refine W.widen hc hs ?_
    exact lw_retA F.1 F.2.1 F.2.2.2.2.2.2.2.1 F.2.2.2.2.2.2.1 hd
theorem lL_len (hd : decode cL_law pc = .ok (.arraylength, 1)) (hq : pc + 1 = q) (kk : vv_V G cL_law (lM b L xs nm G.2.2.2) cells slots q Lo (.int (nI L) :: st) n h) : vv_V G cL_law (lM b L xs nm G.2.2.2) cells slots pc Lo (.ref b :: st) n h := by
  subst hq
  intro p e s m args below meth c H locs ls F X hl
  obtain ⟨hX, hbl, hB⟩ := F.2.2.2.2.2.2.2.2.2.1
  exact va_slen F.1 F.2.1 hX hbl (A := vv_A G) (by show ¬ G.2.2.2 ≤ b; omega) X.2.2.1 hd (kk p e s m args below meth c H locs ls F X hl)
theorem lL_ld {k : Nat} {x : Int32} (hx : x = nI k) (hk : k < L) (hL : L ≤ 3072) (hd : decode cL_law pc = .ok (.iaload, 1)) (hq : pc + 1 = q) (kk : vv_V G cL_law (lM b L xs nm G.2.2.2) cells slots q Lo (.int (nZ (xs k).toInt) :: st) n h) : vv_V G cL_law (lM b L xs nm G.2.2.2) cells slots pc Lo (.int x :: .ref b :: st) n h := by
  subst hq
  intro p e s m args below meth c H locs ls F X hl
  obtain ⟨hX, hbl, hB⟩ := F.2.2.2.2.2.2.2.2.2.1
  obtain ⟨h1, h2⟩ := vv_in hx hk (Nat.ble_eq_true_of_le (by omega))
  refine va_sld F.1 F.2.1 hX hbl (A := vv_A G) (by show ¬ G.2.2.2 ≤ b; omega) X.2.2.1 h1 hd ?_
  rw [h2, ← nZ_of (xs k)]
  exact kk p e s m args below meth c H locs ls F X hl
theorem lL_arg {k : Nat} {ki : Int} (hkv : Int32.ofInt ki = nI k) (hk : i + k < L) (hL : L ≤ 3072) (d0 : decode cL_law pc = .ok (.aload_n 0, 1)) (d1 : decode cL_law (pc + 1) = .ok (.iload_n 3, 1)) (d2 : decode cL_law (pc + 2) = .ok (.iconst ki, 1)) (d3 : decode cL_law (pc + 3) = .ok (.iadd, 1)) (d4 : decode cL_law (pc + 4) = .ok (.iaload, 1)) (hq : pc + 5 = q) (kk : vv_V G cL_law (lM b L xs nm G.2.2.2) cells slots q (lL G b i) (.int (nZ (xs (i + k)).toInt) :: st) n h) : vv_V G cL_law (lM b L xs nm G.2.2.2) cells slots pc (lL G b i) st n h := by
  subst hq
  refine vv_aload_n 0 d0 rfl rfl 1 rfl ?_
  refine vv_iload_n 3 d1 rfl rfl 0 rfl ?_
  refine vv_iconst (v := nI k) d2 rfl hkv ?_
  refine vv_iadd d3 rfl ?_
  exact lL_ld (k := i + k) (nI_add i k) hk hL d4 rfl kk
theorem lL_backP {cc : ByteArray} {M : vv_M} {S : vs_S} {p : Program} {e : Env} {s : State} {m : MethodId} {args : Array Value} {below : List Frame} {meth : Method} {c : Code} {H : Heap} {locs : List Loc} {ls : Array Slot} {Pst : Option Value → vs_S → Prop} {a : Array Value} {st0 : List Value}
    (F : vv_F G cc M p s m args meth c) (X : vv_X G (G.2.2.2 + 146) (vs_lay G S) s H locs) (hl : lv_has ls M.2.1 Lo) (hr : va_Run p G.1 e M.2.2.2.2.1 s m args below meth c H locs cells slots 0 0 (F0 m pc ls st0) st (vp_QQ G Pst a) (vv_A G)) (kk : ∀ (r : Option Value) (S' : vs_S), Pst r S' → vv_V G cc M cells slots (pc + 3) Lo (r.toList ++ st) (G.2.2.2 + 146) (vs_lay G S')) : W p G.1 e M.2.2.2.2.1 s m args below meth c H locs cells slots (M.2.2.2.2.2.2 below args s) (F0 m pc ls st0) := by
  intro T hT XX
  obtain ⟨v, st₀, t, T', L9, h0, X', hL, e1, e2, ⟨r, S', hv, hp, hz, hP, hF⟩, stp⟩ := hr T hT XX
  cases hv
  obtain ⟨hF1, hF2⟩ := hF
  rw [h0] at hF1 hF2
  have hS := X.2.2.1
  obtain ⟨t2, a1, b1⟩ := kk v S' hp p e s m args below meth c T'.heap (locs ++ L9) ls F ⟨by rw [e1]; exact hz, by rw [e1]; exact hP, ⟨Nat.le_trans hS.1 (by rw [e1]; exact hF1), fun x h1 h2 => by rw [e1, hF2 x (Nat.lt_of_lt_of_le h1 hS.1) h2]; exact hS.2.1 x h1 h2, fun x hx => by
      rcases List.mem_append.mp hx with z | z
      · exact hS.2.2 x z
      · exact hL x z⟩, vs_lay_dom⟩ hl T' rfl X'
  exact ⟨t2, stp t2 a1, b1⟩
theorem lL_callP {cc : ByteArray} {M : vv_M} {S : vs_S} {y : MethodName} {bytes : ByteArray} {maxL : Nat} {ret : Option FieldType} {rm : Room} {As : List Value} {o ci i k : Nat} {fds : List (Option Nat)} {Pst : Option Value → vs_S → Prop} {T : u_T} {N : Nat} {stk : List Value} (hc : vs_CP G y bytes maxL ret rm (.ref (G.2.2.2 + o) :: As) S Pst) (hlk : vv_LK M.1 i y) (hy : vv_LV y bytes maxL ret k) (hcl : vv_cl[ci]? = some (y.cls, T, N)) (hT : vs_T[o]? = some (.inr (ci, fds))) (hn : As.length = k) (hst : stk = As.reverse ++ .ref (G.2.2.2 + o) :: st) (hW : (st.map fun v => v.category).sum ≤ 8) (hR : vv_rm rm maxL M.2.2.2.2.1 = true) (h0 : rm.cells = 0 ∧ rm.slots = 0) (hfc : Nat.ble cells M.2.2.2.2.1.cells = true) (hfs : Nat.ble slots M.2.2.2.2.1.slots = true) (hd : decode cc pc = .ok (.invokevirtual i, 3)) (hq : pc + 3 = q) (kk : ∀ (r : Option Value) (S' : vs_S), Pst r S' → vv_V G cc M cells slots q Lo (r.toList ++ st) (G.2.2.2 + 146) (vs_lay G S')) : vv_V G cc M cells slots pc Lo stk (G.2.2.2 + 146) (vs_lay G S) := by
  subst hq hst
  intro p e s m args below meth c H locs ls F X hl
  obtain ⟨⟨hini, hcode, hd1, hd2, hd3⟩, hinst, hsel⟩ := hy
  have hts := F.2.2.2.2.1
  have hR1 := Bool.and_eq_true_iff.mp hR
  have hRR : rm.frames + 1 ≤ M.2.2.2.2.1.frames ∧ 8 + (maxL + 11) + rm.locals ≤ M.2.2.2.2.1.locals := ⟨Nat.le_of_ble_eq_true hR1.1, Nat.le_of_ble_eq_true hR1.2⟩
  have hrecv := va_recv F.2.2.2.2.2.1.1 (vv_one X.2.1 (vs_lay_at hT)) hcl (q0 := 0) rfl
  refine lL_backP F X hl (a := (Value.ref (G.2.2.2 + o) :: As).toArray) ?_ kk
  have hc' := hc
  unfold vs_CP at hc'
  rw [h0.1, h0.2] at hc'
  rcases hlk with hlk | ⟨host, hlk⟩
  · exact va_runV ⟨F.1, F.2.1, F.2.2.1, F.2.2.2.1, hts⟩ hc' ⟨callB_of k hts (vv_gin hcode) rfl h0.1 h0.2 (hts _ hini) (hts _ hlk) ⟨hd1, hd2, hd3⟩ hRR, hts _ hinst, hts _ hsel⟩ ⟨vv_blind, hrecv, vv_pre F.2.2.2.2.2.1 F.2.2.2.2.2.2.2.2.2.2 X⟩ rfl hn hl.1 rfl (lv_room hW) hd ⟨Nat.le_of_ble_eq_true hfc, Nat.le_of_ble_eq_true hfs⟩
  · exact va_runVN ⟨F.1, F.2.1, F.2.2.1, F.2.2.2.1, hts⟩ hc' ⟨va_cnB k hts (vv_gin hcode) rfl h0.1 h0.2 (F.2.2.2.2.2.1.2.1 _ hlk) (hts _ hini) ⟨hd1, hd2, hd3⟩ hRR, hts _ hinst, hts _ hsel⟩ ⟨vv_blind, hrecv, vv_pre F.2.2.2.2.2.1 F.2.2.2.2.2.2.2.2.2.2 X⟩ rfl hn hl.1 rfl (lv_room hW) hd ⟨Nat.le_of_ble_eq_true hfc, Nat.le_of_ble_eq_true hfs⟩
/-- a call whose answer is known, and what it leaves -/
theorem lL_call {S : vs_S} {y : MethodName} {bytes : ByteArray} {maxL : Nat} {ret : Option FieldType} {rm : Room} {As : List Value} {o ci j k : Nat} {fds : List (Option Nat)} {v : Value} {Ps : vs_S → Prop} {T : u_T} {N : Nat} {stk : List Value} (hc : vs_CP G y bytes maxL ret rm (.ref (G.2.2.2 + o) :: As) S (fun r S2 => r = some v ∧ Ps S2)) (hlk : vv_LK RL j y) (hy : vv_LV y bytes maxL ret k) (hcl : vv_cl[ci]? = some (y.cls, T, N)) (hT : vs_T[o]? = some (.inr (ci, fds))) (hn : As.length = k) (hst : stk = As.reverse ++ .ref (G.2.2.2 + o) :: st) (hW : (st.map fun v => v.category).sum ≤ 8) (hR : vv_rm rm maxL room_1 = true) (h0 : rm.cells = 0 ∧ rm.slots = 0) (hfc : cells ≤ 600000) (hfs : slots ≤ 7302250) (hd : decode cL_law pc = .ok (.invokevirtual j, 3)) (hq : pc + 3 = q) (kk : ∀ (S' : vs_S), Ps S' → lV G b L xs nm cells slots q i (v :: st) S') : lV G b L xs nm cells slots pc i stk S :=
  lL_callP (M := lM b L xs nm G.2.2.2) hc hlk hy hcl hT hn hst hW hR h0 (Nat.ble_eq_true_of_le hfc) (Nat.ble_eq_true_of_le hfs) hd hq (fun r S' hp => by obtain ⟨hr, hp⟩ := hp; subst hr; exact kk S' hp)
/-- on to the next call -/
theorem lL_fin {S1 S2 : vs_S} {a' : aS} (kk : ∀ (S' : vs_S) (a' : aS), aG a' → CSt S' a' → MSt S' a' → lV G b L xs nm cells slots 18 (i + 6) [] S') (hM : MSt S2 a') (hC : CSt S1 a') (F : frM S1 S2) (hG : aG a') : lV G b L xs nm cells slots 1169 i [] S2 := by
  refine vv_iinc (v := nI (i + 6)) (lL G b (i + 6)) dL_law_1169 rfl 0 rfl (nI_add i 6) rfl rfl ?_
  refine vv_goto 18 dL_law_1172 rfl ?_
  exact kk S2 a' hG (hC.frM hG F) hM
end LAW
