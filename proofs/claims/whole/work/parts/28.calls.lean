theorem cJ_of {S : vs_S} (h1 : jk S 13) (h2 : jk S 15) (h3 : jk S 18) (h4 : jk S 20) (h5 : jk S 22) (h6 : jk S 24) (h7 : jk S 26) (h8 : jk S 71) (h9 : jk S 73) (h10 : jk S 75) (h11 : jk S 77) : cJ S := fun o ho => by
  simp at ho
  rcases ho with rfl | rfl | rfl | rfl | rfl | rfl | rfl | rfl | rfl | rfl | rfl <;> assumption
theorem fsh_b {P l : Nat} {m s : Nat → Nat} (h : 0 < P) : (∀ k, (fsh P l m s).1 k < P) ∧ ∀ k, (fsh P l m s).2 k < P := dcf_b h
theorem ent_b {P l m : Nat} {c : Nat → Nat} (h : 0 < P) : (∀ k, (ent P c l m).1 k < P) ∧ ∀ k, (ent P c l m).2 k < P := dcf_b h
/-- how far an entry agrees -/
def eag (P : Nat) (c : Nat → Nat) (l m la : Nat) : Nat := agr (ufk (ent P c l m).1 (ent P c l m).2 (ipw ((ent P c l m).2 0) P) P (la + 1)) c (la + 1) 0
def sp_entry (a : aS) (f l m : Int) : Int × aS := if ¬ (0 ≤ f ∧ f < aN a) then (-101, a) else if ¬ (0 ≤ l ∧ 0 ≤ m ∧ l + m ≤ aLa a f.toNat) then (-102, a) else ((eag (aP a) (aC a f.toNat) l.toNat m.toNat (aLa a f.toNat) : Int), s_re a (ent (aP a) (aC a f.toNat) l.toNat m.toNat).1 (ent (aP a) (aC a f.toNat) l.toNat m.toNat).2)
def sp_worth (a : aS) (f l m : Int) : Int × aS := if ¬ (0 ≤ f ∧ f < aN a) then (-101, a) else if ¬ (0 ≤ l ∧ 0 ≤ m ∧ l + m ≤ aLa a f.toNat) then (-102, a) else ((dtk (aP a) m.toNat 0 (fun i j => pz (aC a f.toNat) (l + i - j)) 1 : Int), a)
def sp_block (a : aS) (f l m w : Int) : Int × aS := if ¬ (0 ≤ f ∧ f < aN a) then (-101, a) else if ¬ (0 ≤ l ∧ 0 ≤ m ∧ l + m ≤ aLa a f.toNat) ∨ ¬ (0 ≤ w ∧ w ≤ 2) then (-102, a) else if tp (ent (aP a) (aC a f.toNat) l.toNat m.toNat).1 42 = 0 then s_c a 5 else if w = 0 then ((tp (ent (aP a) (aC a f.toNat) l.toNat m.toNat).1 42 : Int) - 1, a) else if w = 1 then ((tp (ent (aP a) (aC a f.toNat) l.toNat m.toNat).2 42 : Int) - 1, a) else if aLa a f.toNat < eag (aP a) (aC a f.toNat) l.toNat m.toNat (aLa a f.toNat) then (-1, a) else ((eag (aP a) (aC a f.toNat) l.toNat m.toNat (aLa a f.toNat) : Int) - ((tp (ent (aP a) (aC a f.toNat) l.toNat m.toNat).1 42 : Int) - 1) - ((tp (ent (aP a) (aC a f.toNat) l.toNat m.toNat).2 42 : Int) - 1), a)
/-- what is left of a series when a stair was gone down -/
def stn (P : Nat) (g : Nat → Nat) (n : Nat) : Nat → Nat := fun k => ufk (pcon (g 0)) g (ipw (g 0) P) P (n + 1) (k + 1)
def stk (P la : Nat) : Nat → Nat → (Nat → Nat) → Option Nat
  | 0, _, g => some (g 0)
  | d + 1, s, g => if g 0 = 0 then none else stk P la d (s + 1) (stn P g (la - s))
def sp_stair (a : aS) (f k : Int) : Int × aS := if ¬ (0 ≤ f ∧ f < aN a) then (-101, a) else if ¬ (0 ≤ k ∧ k ≤ aLa a f.toNat) then (-102, a) else if k = 0 then ((aC a f.toNat 0 : Int), a) else match stk (aP a) (aLa a f.toNat) (k.toNat - 1) 1 (fun j => aC a f.toNat (j + 1)) with
  | none => s_c a 5
  | some v => ((v : Int), a)
def sp_recur (a : aS) (f : Int) : Int × aS := if ¬ (0 ≤ f ∧ f < aN a) then (-101, a) else if (bmi (aP a) (aC a f.toNat) (aLa a f.toNat + 1)).1 = 0 then (0, s_re a (pcon 0) (pcon 1)) else if 2 * (bmi (aP a) (aC a f.toNat) (aLa a f.toNat + 1)).1 - 1 ≤ aLa a f.toNat then (((bmi (aP a) (aC a f.toNat) (aLa a f.toNat + 1)).1 : Int), s_re a (ent (aP a) (aC a f.toNat) ((bmi (aP a) (aC a f.toNat) (aLa a f.toNat + 1)).1 - 1) (bmi (aP a) (aC a f.toNat) (aLa a f.toNat + 1)).1).1 (ent (aP a) (aC a f.toNat) ((bmi (aP a) (aC a f.toNat) (aLa a f.toNat + 1)).1 - 1) (bmi (aP a) (aC a f.toNat) (aLa a f.toNat + 1)).1).2) else (((bmi (aP a) (aC a f.toNat) (aLa a f.toNat + 1)).1 : Int), a)
theorem k_entry {G : vv_G} {S : vs_S} {a : aS} (hC : CSt S a) (hG : aG a) {f : Int} (hf1 : -2147483648 ≤ f) (hf2 : f < 2147483648) {l : Int} (hl1 : -2147483648 ≤ l) (hl2 : l < 2147483648) {m : Int} (hm1 : -2147483648 ≤ m) (hm2 : m < 2147483648) : vs_CP G yX9_entry cX9_entry 5 (some .int) { frames := 6, locals := 157 } [.ref (G.2.2.2 + 0), .int (nZ f), .int (nZ l), .int (nZ m)] S (fun r S2 => r = some (.int (nZ (sp_entry a f l m).1)) ∧ CSt S2 (sp_entry a f l m).2 ∧ frC S S2) := by
  refine vs_ofP [(0, .ref (G.2.2.2 + 0)), (1, .int (nZ f)), (2, .int (nZ l)), (3, .int (nZ m))] (by decide) rfl rfl ?_
  obtain ⟨⟨cP, cN, cH⟩, ⟨cX, cY⟩, ⟨cA, cB⟩, cSe, cJs, cSh, ⟨cK0, cK⟩, ⟨cR1, cR2, cD⟩, cJ0⟩ := id hC
  obtain ⟨gP, gP2, gN, gH, gSe, gSh, gXY, gB31, gInj, gA, gB, gAz, gBz⟩ := hG
  have gP1 := gP.1
  have j13 := cJ0 13 (by simp)
  have j15 := cJ0 15 (by simp)
  have j18 := cJ0 18 (by simp)
  have j20 := cJ0 20 (by simp)
  have j22 := cJ0 22 (by simp)
  have j24 := cJ0 24 (by simp)
  have j26 := cJ0 26 (by simp)
  have j71 := cJ0 71 (by simp)
  have j73 := cJ0 73 (by simp)
  have j75 := cJ0 75 (by simp)
  obtain ⟨g77, j77⟩ := cJ0 77 (by simp)
  have F : vs_fx S S [19, 21, 23, 25, 27, 9, 11, 78] [] [] := vs_fx.rf
  by_cases hfs : 0 ≤ f ∧ f < aN a
  · obtain ⟨f, rfl⟩ : ∃ z0 : Nat, f = z0 := ⟨f.toNat, by omega⟩
    rw [nZ_n f]
    have hf : f < 10 := by omega
    have hfN : f < aN a := by omega
    obtain ⟨f1, f2⟩ := cSe f hfN
    obtain ⟨f3, f4⟩ := gSe f hfN
    refine vs_aload_n 0 dX9_entry_0 rfl rfl 0 rfl ?_
    refine vs_iload_n 1 dX9_entry_1 rfl rfl 1 rfl ?_
    refine vs_callV (st := []) (c_seriesNo cN gN hfN (cR2 f hf)) lk_X9_170 lm_X9_seriesNumbered rfl rfl rfl rfl (Nat.le_of_ble_eq_true rfl) rfl ⟨rfl, rfl⟩ dX9_entry_2 rfl ?_
    show vs_V _ _ _ _ _ (.ref (G.2.2.2 + (88 + 3 * f)) :: _) _
    refine vs_astore [(4, .ref (G.2.2.2 + (88 + 3 * f))), (0, .ref (G.2.2.2 + 0)), (1, .int (nI f)), (2, .int (nZ l)), (3, .int (nZ m))] dX9_entry_5 rfl rfl rfl ?_
    refine vs_aload dX9_entry_7 rfl 0 rfl ?_
    refine vs_ifnonnull 15 dX9_entry_9 rfl ?_
    refine vs_aload dX9_entry_15 rfl 0 rfl ?_
    refine vs_iload_n 2 dX9_entry_17 rfl rfl 3 rfl ?_
    refine vs_iload_n 3 dX9_entry_18 rfl rfl 4 rfl ?_
    refine vs_callS (st := []) (c_isPairOf (vs_Se_k hf) f1 f3 hl1 hl2 hm1 hm2) lk_X9_203 lm_X9_isPairOf rfl rfl (Nat.le_of_ble_eq_true rfl) rfl ⟨rfl, rfl⟩ dX9_entry_19 rfl ?_
    show vs_V _ _ _ _ _ (.int ((if 0 ≤ l ∧ 0 ≤ m ∧ l + m ≤ (aLa a f : Int) then 1 else 0)) :: _) _
    refine vs_if_ne 28 dX9_entry_22 rfl rfl (fun c_22 => ?_) (fun c_22 => ?_)
    · rw [nn_is0, Classical.not_not] at c_22
      skip
      · obtain ⟨l, rfl⟩ : ∃ z0 : Nat, l = z0 := ⟨l.toNat, by omega⟩
        obtain ⟨m, rfl⟩ : ∃ z0 : Nat, m = z0 := ⟨m.toNat, by omega⟩
        rw [nZ_n l, nZ_n m]
        obtain ⟨hb1, hb2⟩ := ent_b (P := aP a) (l := l) (m := m) (c := aC a f) (by omega)
        refine vs_aload_n 0 dX9_entry_28 rfl rfl 1 rfl ?_
        refine vs_aload dX9_entry_29 rfl 0 rfl ?_
        refine vs_iload_n 2 dX9_entry_31 rfl rfl 3 rfl ?_
        refine vs_iload_n 3 dX9_entry_32 rfl rfl 4 rfl ?_
        refine vs_aload_n 0 dX9_entry_33 rfl rfl 1 rfl ?_
        refine vs_get (v := .ref (G.2.2.2 + 7)) lf_X9_42 rfl rfl dX9_entry_34 rfl ?_
        refine vs_callVP (st := []) (c_findEntry (o := 7) ⟨rfl, ⟨rfl, rfl⟩, ⟨rfl, rfl⟩⟩ (by omega) (vs_Se_k hf) (by omega) gP1 gP2 f4 (l := l) (m := m) (by omega) cP f2 cA cB j18 j20 j22 j24 j26) lk_X9_207 lm_X9_findEntry rfl rfl rfl rfl (Nat.le_of_ble_eq_true rfl) rfl ⟨rfl, rfl⟩ dX9_entry_37 rfl (fun rr S1 hh => ?_)
        obtain ⟨rfl, F2, e1, e2, j18, j20, j22, j24, j26⟩ := hh
        show vs_V _ _ _ _ _ [] _
        have cP : S1.1 1 0 = nI (aP a) := by rw [F2.1]; exact cP
        have cN : S1.1 0 3 = nI (aN a) := by rw [F2.1]; exact cN
        have j13 : jk S1 13 := by obtain ⟨g, hg⟩ := j13; exact ⟨g, F2.p (by simp <;> omega) hg⟩
        have j15 : jk S1 15 := by obtain ⟨g, hg⟩ := j15; exact ⟨g, F2.p (by simp <;> omega) hg⟩
        have j71 : jk S1 71 := by obtain ⟨g, hg⟩ := j71; exact ⟨g, F2.p (by simp <;> omega) hg⟩
        have j73 : jk S1 73 := by obtain ⟨g, hg⟩ := j73; exact ⟨g, F2.p (by simp <;> omega) hg⟩
        have j75 : jk S1 75 := by obtain ⟨g, hg⟩ := j75; exact ⟨g, F2.p (by simp <;> omega) hg⟩
        have j77 : pR S1 77 g77 := F2.p (by simp <;> omega) j77
        have F : vs_fx S S1 [19, 21, 23, 25, 27, 9, 11, 78] [] [] := vs_fx.tr F F2.fx (by simp <;> omega) (by simp) (by simp)
        have f1 : S1.1 (88 + 3 * f) 1 = nI (aLa a f) := by rw [F2.1]; exact f1
        have f2 : pR S1 (88 + 3 * f + 1) (aC a f) := F2.p (by simp <;> omega) f2
        refine vs_aload_n 0 dX9_entry_40 rfl rfl 1 rfl ?_
        refine vs_aload dX9_entry_41 rfl 0 rfl ?_
        refine vs_aload_n 0 dX9_entry_43 rfl rfl 1 rfl ?_
        refine vs_get (v := .ref (G.2.2.2 + 7)) lf_X9_42 rfl rfl dX9_entry_44 rfl ?_
        refine vs_callV (st := []) (c_agreement (vs_Se_k hf) f2 gP1 gP2 f4 f1 f3 (o := 7) ⟨rfl, ⟨rfl, rfl⟩, ⟨rfl, rfl⟩⟩ (by decide) e1 e2 hb1 hb2 cP (by omega) j77) lk_X9_211 lm_X9_agreement rfl rfl rfl rfl (Nat.le_of_ble_eq_true rfl) rfl ⟨rfl, rfl⟩ dX9_entry_47 rfl ?_
        show vs_V _ _ _ _ _ (.int (nI (eag (aP a) (aC a f) l m (aLa a f))) :: _) _
        refine vs_gen (fun T1 e_T1 => ?_)
        have cP : T1.1 1 0 = nI (aP a) := by rw [e_T1]; repeat (first | exact cP | rw [vs_ia_ne (by omega)] | rw [vs_ia_1] | rw [vs_sc_ne (by omega)] | rw [vs_sc_nf (by omega)])
        have cN : T1.1 0 3 = nI (aN a) := by rw [e_T1]; repeat (first | exact cN | rw [vs_ia_ne (by omega)] | rw [vs_ia_1] | rw [vs_sc_ne (by omega)] | rw [vs_sc_nf (by omega)])
        have j13 : jk T1 13 := by obtain ⟨g, hg⟩ := j13; exact ⟨g, by rw [e_T1]; repeat (first | exact hg.1 | rw [vs_ia_ne (by omega)]), hg.2⟩
        have j15 : jk T1 15 := by obtain ⟨g, hg⟩ := j15; exact ⟨g, by rw [e_T1]; repeat (first | exact hg.1 | rw [vs_ia_ne (by omega)]), hg.2⟩
        have j18 : jk T1 18 := by obtain ⟨g, hg⟩ := j18; exact ⟨g, by rw [e_T1]; repeat (first | exact hg.1 | rw [vs_ia_ne (by omega)]), hg.2⟩
        have j20 : jk T1 20 := by obtain ⟨g, hg⟩ := j20; exact ⟨g, by rw [e_T1]; repeat (first | exact hg.1 | rw [vs_ia_ne (by omega)]), hg.2⟩
        have j22 : jk T1 22 := by obtain ⟨g, hg⟩ := j22; exact ⟨g, by rw [e_T1]; repeat (first | exact hg.1 | rw [vs_ia_ne (by omega)]), hg.2⟩
        have j24 : jk T1 24 := by obtain ⟨g, hg⟩ := j24; exact ⟨g, by rw [e_T1]; repeat (first | exact hg.1 | rw [vs_ia_ne (by omega)]), hg.2⟩
        have j26 : jk T1 26 := by obtain ⟨g, hg⟩ := j26; exact ⟨g, by rw [e_T1]; repeat (first | exact hg.1 | rw [vs_ia_ne (by omega)]), hg.2⟩
        have j71 : jk T1 71 := by obtain ⟨g, hg⟩ := j71; exact ⟨g, by rw [e_T1]; repeat (first | exact hg.1 | rw [vs_ia_ne (by omega)]), hg.2⟩
        have j73 : jk T1 73 := by obtain ⟨g, hg⟩ := j73; exact ⟨g, by rw [e_T1]; repeat (first | exact hg.1 | rw [vs_ia_ne (by omega)]), hg.2⟩
        have j75 : jk T1 75 := by obtain ⟨g, hg⟩ := j75; exact ⟨g, by rw [e_T1]; repeat (first | exact hg.1 | rw [vs_ia_ne (by omega)]), hg.2⟩
        have F : vs_fx S T1 [19, 21, 23, 25, 27, 9, 11, 78] [] [] := by rw [e_T1]; repeat (first | exact F | refine vs_fx.ia ?_ (by simp <;> omega) | refine vs_fx.sc ?_ (by simp <;> omega) | refine vs_fx.la ?_ (by simp <;> omega))
        have f1 : T1.1 (88 + 3 * f) 1 = nI (aLa a f) := by rw [e_T1]; repeat (first | exact f1 | rw [vs_ia_ne (by omega)] | rw [vs_ia_1] | rw [vs_sc_ne (by omega)] | rw [vs_sc_nf (by omega)])
        have f2 : pR T1 (88 + 3 * f + 1) (aC a f) := ⟨by rw [e_T1]; repeat (first | exact f2.1 | rw [vs_ia_ne (by omega)]), f2.2⟩
        have e1 : pR T1 8 (ent (aP a) (aC a f) l m).1 := ⟨by rw [e_T1]; repeat (first | exact e1.1 | rw [vs_ia_ne (by omega)]), e1.2⟩
        have e2 : pR T1 10 (ent (aP a) (aC a f) l m).2 := ⟨by rw [e_T1]; repeat (first | exact e2.1 | rw [vs_ia_ne (by omega)]), e2.2⟩
        have j77 : jk T1 77 := ⟨_, by rw [e_T1]; exact vs_ia_at, fun k hk => ufk_z _ k (by omega)⟩
        clear e_T1
        exact vs_iretP dX9_entry_50 (cpost (v := (eag (aP a) (aC a f) l m (aLa a f) : Int)) (a' := s_re a (ent (aP a) (aC a f) l m).1 (ent (aP a) (aC a f) l m).2) (by unfold sp_entry; (try simp only [Int.toNat_natCast]); repeat (first | rw [if_pos (by omega)] | rw [if_neg (by omega)])) (by rw [nZ_n]) (CSt.re hC F e1 e2 (by simp [scr]) (by simp) (by simp) (cJ_of j13 j15 j18 j20 j22 j24 j26 j71 j73 j75 j77)) (F.C (by simp) (by simp) (by simp)))
    · rw [nn_is0] at c_22
      refine vs_bipush (v := -102) dX9_entry_25 rfl rfl ?_
      exact vs_iretP dX9_entry_27 (cpost (v := -102) (a' := a) (by unfold sp_entry; (try simp only [Int.toNat_natCast]); repeat (first | rw [if_pos (by omega)] | rw [if_neg (by omega)])) rfl hC frC.rf)
  · refine vs_aload_n 0 dX9_entry_0 rfl rfl 0 rfl ?_
    refine vs_iload_n 1 dX9_entry_1 rfl rfl 1 rfl ?_
    refine vs_callV (st := []) (c_seriesNull cN gN hf1 hf2 hfs) lk_X9_170 lm_X9_seriesNumbered rfl rfl rfl rfl (Nat.le_of_ble_eq_true rfl) rfl ⟨rfl, rfl⟩ dX9_entry_2 rfl ?_
    show vs_V _ _ _ _ _ (.null :: _) _
    refine vs_astoreN [(4, .null), (0, .ref (G.2.2.2 + 0)), (1, .int (nZ f)), (2, .int (nZ l)), (3, .int (nZ m))] dX9_entry_5 rfl rfl rfl ?_
    refine vs_aloadN dX9_entry_7 rfl 0 rfl ?_
    refine vs_ifnonnullN dX9_entry_9 rfl ?_
    refine vs_bipush (v := -101) dX9_entry_12 rfl rfl ?_
    exact vs_iretP dX9_entry_14 (cpost (v := -101) (a' := a) (by unfold sp_entry; (try simp only [Int.toNat_natCast]); repeat (first | rw [if_pos (by omega)] | rw [if_neg (by omega)])) rfl hC frC.rf)

theorem k_worth {G : vv_G} {S : vs_S} {a : aS} (hC : CSt S a) (hG : aG a) {f : Int} (hf1 : -2147483648 ≤ f) (hf2 : f < 2147483648) {l : Int} (hl1 : -2147483648 ≤ l) (hl2 : l < 2147483648) {m : Int} (hm1 : -2147483648 ≤ m) (hm2 : m < 2147483648) : vs_CP G yX9_worth cX9_worth 5 (some .int) { frames := 4, locals := 101 } [.ref (G.2.2.2 + 0), .int (nZ f), .int (nZ l), .int (nZ m)] S (fun r S2 => r = some (.int (nZ (sp_worth a f l m).1)) ∧ CSt S2 (sp_worth a f l m).2 ∧ frC S S2) := by
  refine vs_ofP [(0, .ref (G.2.2.2 + 0)), (1, .int (nZ f)), (2, .int (nZ l)), (3, .int (nZ m))] (by decide) rfl rfl ?_
  obtain ⟨⟨cP, cN, cH⟩, ⟨cX, cY⟩, ⟨cA, cB⟩, cSe, cJs, cSh, ⟨cK0, cK⟩, ⟨cR1, cR2, cD⟩, cJ0⟩ := id hC
  obtain ⟨gP, gP2, gN, gH, gSe, gSh, gXY, gB31, gInj, gA, gB, gAz, gBz⟩ := hG
  have gP1 := gP.1
  obtain ⟨ρ, T0, hD0⟩ := cD
  obtain ⟨T, hD⟩ := dR_ex (m := 40) ⟨hD0.1, hD0.2.1⟩
  by_cases hfs : 0 ≤ f ∧ f < aN a
  · obtain ⟨f, rfl⟩ : ∃ z0 : Nat, f = z0 := ⟨f.toNat, by omega⟩
    rw [nZ_n f]
    have hf : f < 10 := by omega
    have hfN : f < aN a := by omega
    obtain ⟨f1, f2⟩ := cSe f hfN
    obtain ⟨f3, f4⟩ := gSe f hfN
    refine vs_aload_n 0 dX9_worth_0 rfl rfl 0 rfl ?_
    refine vs_iload_n 1 dX9_worth_1 rfl rfl 1 rfl ?_
    refine vs_callV (st := []) (c_seriesNo cN gN hfN (cR2 f hf)) lk_X9_170 lm_X9_seriesNumbered rfl rfl rfl rfl (Nat.le_of_ble_eq_true rfl) rfl ⟨rfl, rfl⟩ dX9_worth_2 rfl ?_
    show vs_V _ _ _ _ _ (.ref (G.2.2.2 + (88 + 3 * f)) :: _) _
    refine vs_astore [(4, .ref (G.2.2.2 + (88 + 3 * f))), (0, .ref (G.2.2.2 + 0)), (1, .int (nI f)), (2, .int (nZ l)), (3, .int (nZ m))] dX9_worth_5 rfl rfl rfl ?_
    refine vs_aload dX9_worth_7 rfl 0 rfl ?_
    refine vs_ifnonnull 15 dX9_worth_9 rfl ?_
    refine vs_aload dX9_worth_15 rfl 0 rfl ?_
    refine vs_iload_n 2 dX9_worth_17 rfl rfl 3 rfl ?_
    refine vs_iload_n 3 dX9_worth_18 rfl rfl 4 rfl ?_
    refine vs_callS (st := []) (c_isPairOf (vs_Se_k hf) f1 f3 hl1 hl2 hm1 hm2) lk_X9_203 lm_X9_isPairOf rfl rfl (Nat.le_of_ble_eq_true rfl) rfl ⟨rfl, rfl⟩ dX9_worth_19 rfl ?_
    show vs_V _ _ _ _ _ (.int ((if 0 ≤ l ∧ 0 ≤ m ∧ l + m ≤ (aLa a f : Int) then 1 else 0)) :: _) _
    refine vs_if_ne 28 dX9_worth_22 rfl rfl (fun c_22 => ?_) (fun c_22 => ?_)
    · rw [nn_is0, Classical.not_not] at c_22
      skip
      · obtain ⟨l, rfl⟩ : ∃ z0 : Nat, l = z0 := ⟨l.toNat, by omega⟩
        obtain ⟨m, rfl⟩ : ∃ z0 : Nat, m = z0 := ⟨m.toNat, by omega⟩
        rw [nZ_n l, nZ_n m]
        refine vs_aload_n 0 dX9_worth_28 rfl rfl 1 rfl ?_
        refine vs_get (v := .ref (G.2.2.2 + 28)) lf_X9_59 rfl rfl dX9_worth_29 rfl ?_
        refine vs_aload dX9_worth_32 rfl 0 rfl ?_
        refine vs_iload_n 2 dX9_worth_34 rfl rfl 3 rfl ?_
        refine vs_iload_n 3 dX9_worth_35 rfl rfl 4 rfl ?_
        refine vs_callVP (st := []) (c_dfill (vs_Se_k hf) (by omega) (l := l) (sz := m) (by omega) (by omega) f2 hD) lk_X9_215 lm_X0_fill rfl rfl rfl rfl (Nat.le_of_ble_eq_true rfl) rfl ⟨rfl, rfl⟩ dX9_worth_36 rfl (fun rr S1 hh => ?_)
        obtain ⟨rfl, F1, ρ2, hD2⟩ := hh
        have cP : S1.1 1 0 = nI (aP a) := by rw [F1.1]; exact cP
        show vs_V _ _ _ _ _ [] _
        refine vs_aload_n 0 dX9_worth_39 rfl rfl 1 rfl ?_
        refine vs_get (v := .ref (G.2.2.2 + 28)) lf_X9_59 rfl rfl dX9_worth_40 rfl ?_
        refine vs_iload_n 3 dX9_worth_43 rfl rfl 4 rfl ?_
        refine vs_aload_n 0 dX9_worth_44 rfl rfl 1 rfl ?_
        refine vs_get (v := .ref (G.2.2.2 + 1)) lf_X9_12 rfl rfl dX9_worth_45 rfl ?_
        refine vs_callVP (st := []) (c_compute hD2 (by omega) cP gP1 gP2 (fun i j _ _ => pz_lt (by omega) f4)) lk_X9_219 lm_X0_compute rfl rfl rfl rfl (Nat.le_of_ble_eq_true rfl) rfl ⟨rfl, rfl⟩ dX9_worth_48 rfl (fun rr S2 hh => ?_)
        obtain ⟨rfl, F2, hd⟩ := hh
        show vs_V _ _ _ _ _ (.int (nI (dtk (aP a) m 0 (fun i j => pz (aC a f) ((l : Int) + i - j)) 1)) :: _) _
        exact vs_iretP dX9_worth_51 (cpost (v := (dtk (aP a) m 0 (fun i j => pz (aC a f) ((l : Int) + i - j)) 1 : Int)) (a' := a) (by unfold sp_worth; (try simp only [Int.toNat_natCast]); repeat (first | rw [if_pos (by omega)] | rw [if_neg (by omega)])) (by rw [nZ_n]) (CSt.D hC (F1.tr F2) hd) (F1.tr F2).C)
    · rw [nn_is0] at c_22
      refine vs_bipush (v := -102) dX9_worth_25 rfl rfl ?_
      exact vs_iretP dX9_worth_27 (cpost (v := -102) (a' := a) (by unfold sp_worth; (try simp only [Int.toNat_natCast]); repeat (first | rw [if_pos (by omega)] | rw [if_neg (by omega)])) rfl hC frC.rf)
  · refine vs_aload_n 0 dX9_worth_0 rfl rfl 0 rfl ?_
    refine vs_iload_n 1 dX9_worth_1 rfl rfl 1 rfl ?_
    refine vs_callV (st := []) (c_seriesNull cN gN hf1 hf2 hfs) lk_X9_170 lm_X9_seriesNumbered rfl rfl rfl rfl (Nat.le_of_ble_eq_true rfl) rfl ⟨rfl, rfl⟩ dX9_worth_2 rfl ?_
    show vs_V _ _ _ _ _ (.null :: _) _
    refine vs_astoreN [(4, .null), (0, .ref (G.2.2.2 + 0)), (1, .int (nZ f)), (2, .int (nZ l)), (3, .int (nZ m))] dX9_worth_5 rfl rfl rfl ?_
    refine vs_aloadN dX9_worth_7 rfl 0 rfl ?_
    refine vs_ifnonnullN dX9_worth_9 rfl ?_
    refine vs_bipush (v := -101) dX9_worth_12 rfl rfl ?_
    exact vs_iretP dX9_worth_14 (cpost (v := -101) (a' := a) (by unfold sp_worth; (try simp only [Int.toNat_natCast]); repeat (first | rw [if_pos (by omega)] | rw [if_neg (by omega)])) rfl hC frC.rf)

theorem k_block {G : vv_G} {S : vs_S} {a : aS} (hC : CSt S a) (hG : aG a) {f : Int} (hf1 : -2147483648 ≤ f) (hf2 : f < 2147483648) {l : Int} (hl1 : -2147483648 ≤ l) (hl2 : l < 2147483648) {m : Int} (hm1 : -2147483648 ≤ m) (hm2 : m < 2147483648) {w : Int} (hw1 : -2147483648 ≤ w) (hw2 : w < 2147483648) : vs_CP G yX9_block cX9_block 9 (some .int) { frames := 6, locals := 157 } [.ref (G.2.2.2 + 0), .int (nZ f), .int (nZ l), .int (nZ m), .int (nZ w)] S (fun r S2 => r = some (.int (nZ (sp_block a f l m w).1)) ∧ CSt S2 (sp_block a f l m w).2 ∧ frC S S2) := by
  refine vs_ofP [(0, .ref (G.2.2.2 + 0)), (1, .int (nZ f)), (2, .int (nZ l)), (3, .int (nZ m)), (4, .int (nZ w))] (by decide) rfl rfl ?_
  obtain ⟨⟨cP, cN, cH⟩, ⟨cX, cY⟩, ⟨cA, cB⟩, cSe, cJs, cSh, ⟨cK0, cK⟩, ⟨cR1, cR2, cD⟩, cJ0⟩ := id hC
  obtain ⟨gP, gP2, gN, gH, gSe, gSh, gXY, gB31, gInj, gA, gB, gAz, gBz⟩ := hG
  have gP1 := gP.1
  have j18 := cJ0 18 (by simp)
  have j20 := cJ0 20 (by simp)
  have j22 := cJ0 22 (by simp)
  have j24 := cJ0 24 (by simp)
  have j26 := cJ0 26 (by simp)
  have j71 := cJ0 71 (by simp)
  have j73 := cJ0 73 (by simp)
  have j75 := cJ0 75 (by simp)
  obtain ⟨g77, j77⟩ := cJ0 77 (by simp)
  obtain ⟨g13, h13⟩ := cJ0 13 (by simp)
  obtain ⟨g15, h15⟩ := cJ0 15 (by simp)
  have F : vs_fx S S [19, 21, 23, 25, 27, 14, 16, 78] [] [] := vs_fx.rf
  by_cases hfs : 0 ≤ f ∧ f < aN a
  · obtain ⟨f, rfl⟩ : ∃ z0 : Nat, f = z0 := ⟨f.toNat, by omega⟩
    rw [nZ_n f]
    have hf : f < 10 := by omega
    have hfN : f < aN a := by omega
    obtain ⟨f1, f2⟩ := cSe f hfN
    obtain ⟨f3, f4⟩ := gSe f hfN
    refine vs_aload_n 0 dX9_block_0 rfl rfl 0 rfl ?_
    refine vs_iload_n 1 dX9_block_1 rfl rfl 1 rfl ?_
    refine vs_callV (st := []) (c_seriesNo cN gN hfN (cR2 f hf)) lk_X9_170 lm_X9_seriesNumbered rfl rfl rfl rfl (Nat.le_of_ble_eq_true rfl) rfl ⟨rfl, rfl⟩ dX9_block_2 rfl ?_
    show vs_V _ _ _ _ _ (.ref (G.2.2.2 + (88 + 3 * f)) :: _) _
    refine vs_astore [(5, .ref (G.2.2.2 + (88 + 3 * f))), (0, .ref (G.2.2.2 + 0)), (1, .int (nI f)), (2, .int (nZ l)), (3, .int (nZ m)), (4, .int (nZ w))] dX9_block_5 rfl rfl rfl ?_
    refine vs_aload dX9_block_7 rfl 0 rfl ?_
    refine vs_ifnonnull 15 dX9_block_9 rfl ?_
    refine vs_aload dX9_block_15 rfl 0 rfl ?_
    refine vs_iload_n 2 dX9_block_17 rfl rfl 3 rfl ?_
    refine vs_iload_n 3 dX9_block_18 rfl rfl 4 rfl ?_
    refine vs_callS (st := []) (c_isPairOf (vs_Se_k hf) f1 f3 hl1 hl2 hm1 hm2) lk_X9_203 lm_X9_isPairOf rfl rfl (Nat.le_of_ble_eq_true rfl) rfl ⟨rfl, rfl⟩ dX9_block_19 rfl ?_
    show vs_V _ _ _ _ _ (.int ((if 0 ≤ l ∧ 0 ≤ m ∧ l + m ≤ (aLa a f : Int) then 1 else 0)) :: _) _
    refine vs_if_eq 36 dX9_block_22 rfl rfl (fun c_22 => ?_) (fun c_22 => ?_)
    · rw [nn_is0] at c_22
      refine vs_bipush (v := -102) dX9_block_36 rfl rfl ?_
      exact vs_iretP dX9_block_38 (cpost (v := -102) (a' := a) (by unfold sp_block; (try simp only [Int.toNat_natCast]); repeat (first | rw [if_pos (by omega)] | rw [if_neg (by omega)])) rfl hC frC.rf)
    · rw [nn_is0, Classical.not_not] at c_22
      refine vs_iload dX9_block_25 rfl 5 rfl ?_
      refine vs_if_lt 36 dX9_block_27 rfl rfl (fun c_27 => ?_) (fun c_27 => ?_)
      · have q_27 : (w : Int) < ((0 : Nat) : Int) := (qi_lt rfl (by first | exact nI_Z _ | (simp only [fa_lit, nI_add, pk_mul, nI_1]; exact nI_Z _)) (by omega) (by omega) (by omega) (by omega)).mp c_27
        refine vs_bipush (v := -102) dX9_block_36 rfl rfl ?_
        exact vs_iretP dX9_block_38 (cpost (v := -102) (a' := a) (by unfold sp_block; (try simp only [Int.toNat_natCast]); repeat (first | rw [if_pos (by omega)] | rw [if_neg (by omega)])) rfl hC frC.rf)
      · have q_27 : ¬ (w : Int) < ((0 : Nat) : Int) := fun hh => c_27 ((qi_lt rfl (by first | exact nI_Z _ | (simp only [fa_lit, nI_add, pk_mul, nI_1]; exact nI_Z _)) (by omega) (by omega) (by omega) (by omega)).mpr hh)
        refine vs_iload dX9_block_30 rfl 5 rfl ?_
        refine vs_iconst (v := 2) dX9_block_32 rfl rfl ?_
        refine vs_icmp_le 39 dX9_block_33 rfl rfl (fun c_33 => ?_) (fun c_33 => ?_)
        · have q_33 : (w : Int) ≤ ((2 : Nat) : Int) := (qi_le rfl (by first | exact nI_Z _ | (simp only [fa_lit, nI_add, pk_mul, nI_1]; exact nI_Z _)) (by omega) (by omega) (by omega) (by omega)).mp c_33
          skip
          · obtain ⟨l, rfl⟩ : ∃ z0 : Nat, l = z0 := ⟨l.toNat, by omega⟩
            obtain ⟨m, rfl⟩ : ∃ z0 : Nat, m = z0 := ⟨m.toNat, by omega⟩
            rw [nZ_n l, nZ_n m]
            obtain ⟨hb1, hb2⟩ := ent_b (P := aP a) (l := l) (m := m) (c := aC a f) (by omega)
            have t1 := tp_le (ent (aP a) (aC a f) l m).1 42
            have t2 := tp_le (ent (aP a) (aC a f) l m).2 42
            have t3 := (agr_le (u := ufk (ent (aP a) (aC a f) l m).1 (ent (aP a) (aC a f) l m).2 (ipw ((ent (aP a) (aC a f) l m).2 0) (aP a)) (aP a) (aLa a f + 1)) (c := aC a f) (aLa a f + 1) 0).2
            have t4 : eag (aP a) (aC a f) l m (aLa a f) ≤ 0 + (aLa a f + 1) := t3
            refine vs_aload_n 0 dX9_block_39 rfl rfl 1 rfl ?_
            refine vs_aload dX9_block_40 rfl 0 rfl ?_
            refine vs_iload_n 2 dX9_block_42 rfl rfl 3 rfl ?_
            refine vs_iload_n 3 dX9_block_43 rfl rfl 4 rfl ?_
            refine vs_aload_n 0 dX9_block_44 rfl rfl 1 rfl ?_
            refine vs_get (v := .ref (G.2.2.2 + 12)) lf_X9_46 rfl rfl dX9_block_45 rfl ?_
            refine vs_callVP (st := []) (c_findEntry (o := 12) ⟨rfl, ⟨rfl, rfl⟩, ⟨rfl, rfl⟩⟩ (by omega) (vs_Se_k hf) (by omega) gP1 gP2 f4 (l := l) (m := m) (by omega) cP f2 h13 h15 j18 j20 j22 j24 j26) lk_X9_207 lm_X9_findEntry rfl rfl rfl rfl (Nat.le_of_ble_eq_true rfl) rfl ⟨rfl, rfl⟩ dX9_block_48 rfl (fun rr S1 hh => ?_)
            obtain ⟨rfl, F2, e1, e2, j18, j20, j22, j24, j26⟩ := hh
            show vs_V _ _ _ _ _ [] _
            have cP : S1.1 1 0 = nI (aP a) := by rw [F2.1]; exact cP
            have cN : S1.1 0 3 = nI (aN a) := by rw [F2.1]; exact cN
            have j71 : jk S1 71 := by obtain ⟨g, hg⟩ := j71; exact ⟨g, F2.p (by simp <;> omega) hg⟩
            have j73 : jk S1 73 := by obtain ⟨g, hg⟩ := j73; exact ⟨g, F2.p (by simp <;> omega) hg⟩
            have j75 : jk S1 75 := by obtain ⟨g, hg⟩ := j75; exact ⟨g, F2.p (by simp <;> omega) hg⟩
            have j77 : pR S1 77 g77 := F2.p (by simp <;> omega) j77
            have F : vs_fx S S1 [19, 21, 23, 25, 27, 14, 16, 78] [] [] := vs_fx.tr F F2.fx (by simp <;> omega) (by simp) (by simp)
            have f1 : S1.1 (88 + 3 * f) 1 = nI (aLa a f) := by rw [F2.1]; exact f1
            have f2 : pR S1 (88 + 3 * f + 1) (aC a f) := F2.p (by simp <;> omega) f2
            refine vs_aload_n 0 dX9_block_51 rfl rfl 1 rfl ?_
            refine vs_get (v := .ref (G.2.2.2 + 12)) lf_X9_46 rfl rfl dX9_block_52 rfl ?_
            refine vs_get (v := .ref (G.2.2.2 + 13)) lf_X9_160 rfl rfl dX9_block_55 rfl ?_
            refine vs_callV (st := []) (c_top (o := 13) ⟨rfl, rfl⟩ e1 (fun k => by have := hb1 k; omega)) lk_X9_223 lm_X3_top rfl rfl rfl rfl (Nat.le_of_ble_eq_true rfl) rfl ⟨rfl, rfl⟩ dX9_block_58 rfl ?_
            show vs_V _ _ _ _ _ (.int (nZ ((tp (ent (aP a) (aC a f) l m).1 42 : Int) - 1)) :: _) _
            refine vs_topi (fun v6 e_v6 => ?_)
            have e2_v6 : v6 = nZ ((tp (ent (aP a) (aC a f) l m).1 42 : Int) - 1) := e_v6
            clear e_v6
            subst e2_v6
            refine vs_istore [(6, .int (nZ ((tp (ent (aP a) (aC a f) l m).1 42 : Int) - 1))), (5, .ref (G.2.2.2 + (88 + 3 * f))), (0, .ref (G.2.2.2 + 0)), (1, .int (nI f)), (2, .int (nI l)), (3, .int (nI m)), (4, .int (nZ w))] dX9_block_61 rfl rfl rfl ?_
            refine vs_aload_n 0 dX9_block_63 rfl rfl 2 rfl ?_
            refine vs_get (v := .ref (G.2.2.2 + 12)) lf_X9_46 rfl rfl dX9_block_64 rfl ?_
            refine vs_get (v := .ref (G.2.2.2 + 15)) lf_X9_163 rfl rfl dX9_block_67 rfl ?_
            refine vs_callV (st := []) (c_top (o := 15) ⟨rfl, rfl⟩ e2 (fun k => by have := hb2 k; omega)) lk_X9_223 lm_X3_top rfl rfl rfl rfl (Nat.le_of_ble_eq_true rfl) rfl ⟨rfl, rfl⟩ dX9_block_70 rfl ?_
            show vs_V _ _ _ _ _ (.int (nZ ((tp (ent (aP a) (aC a f) l m).2 42 : Int) - 1)) :: _) _
            refine vs_topi (fun v7 e_v7 => ?_)
            have e2_v7 : v7 = nZ ((tp (ent (aP a) (aC a f) l m).2 42 : Int) - 1) := e_v7
            clear e_v7
            subst e2_v7
            refine vs_istore [(7, .int (nZ ((tp (ent (aP a) (aC a f) l m).2 42 : Int) - 1))), (6, .int (nZ ((tp (ent (aP a) (aC a f) l m).1 42 : Int) - 1))), (5, .ref (G.2.2.2 + (88 + 3 * f))), (0, .ref (G.2.2.2 + 0)), (1, .int (nI f)), (2, .int (nI l)), (3, .int (nI m)), (4, .int (nZ w))] dX9_block_73 rfl rfl rfl ?_
            refine vs_iload dX9_block_75 rfl 1 rfl ?_
            refine vs_if_ge 86 dX9_block_77 rfl rfl (fun c_77 => ?_) (fun c_77 => ?_)
            · have q_77 : (((tp (ent (aP a) (aC a f) l m).1 42 : Int) - 1) : Int) ≥ ((0 : Nat) : Int) := (qi_ge rfl (by first | exact nI_Z _ | (simp only [fa_lit, nI_add, pk_mul, nI_1]; exact nI_Z _)) (by omega) (by omega) (by omega) (by omega)).mp c_77
              refine vs_iload dX9_block_86 rfl 7 rfl ?_
              refine vs_iconst (v := 2) dX9_block_88 rfl rfl ?_
              refine vs_icmp_ge 105 dX9_block_89 rfl rfl (fun c_89 => ?_) (fun c_89 => ?_)
              · have q_89 : (w : Int) ≥ ((2 : Nat) : Int) := (qi_ge rfl (by first | exact nI_Z _ | (simp only [fa_lit, nI_add, pk_mul, nI_1]; exact nI_Z _)) (by omega) (by omega) (by omega) (by omega)).mp c_89
                refine vs_aload_n 0 dX9_block_105 rfl rfl 3 rfl ?_
                refine vs_aload dX9_block_106 rfl 2 rfl ?_
                refine vs_aload_n 0 dX9_block_108 rfl rfl 3 rfl ?_
                refine vs_get (v := .ref (G.2.2.2 + 12)) lf_X9_46 rfl rfl dX9_block_109 rfl ?_
                refine vs_callV (st := []) (c_agreement (vs_Se_k hf) f2 gP1 gP2 f4 f1 f3 (o := 12) ⟨rfl, ⟨rfl, rfl⟩, ⟨rfl, rfl⟩⟩ (by decide) e1 e2 hb1 hb2 cP (by omega) j77) lk_X9_211 lm_X9_agreement rfl rfl rfl rfl (Nat.le_of_ble_eq_true rfl) rfl ⟨rfl, rfl⟩ dX9_block_112 rfl ?_
                show vs_V _ _ _ _ _ (.int (nI (eag (aP a) (aC a f) l m (aLa a f))) :: _) _
                refine vs_gen (fun T1 e_T1 => ?_)
                have cP : T1.1 1 0 = nI (aP a) := by rw [e_T1]; repeat (first | exact cP | rw [vs_ia_ne (by omega)] | rw [vs_ia_1] | rw [vs_sc_ne (by omega)] | rw [vs_sc_nf (by omega)])
                have cN : T1.1 0 3 = nI (aN a) := by rw [e_T1]; repeat (first | exact cN | rw [vs_ia_ne (by omega)] | rw [vs_ia_1] | rw [vs_sc_ne (by omega)] | rw [vs_sc_nf (by omega)])
                have j18 : jk T1 18 := by obtain ⟨g, hg⟩ := j18; exact ⟨g, by rw [e_T1]; repeat (first | exact hg.1 | rw [vs_ia_ne (by omega)]), hg.2⟩
                have j20 : jk T1 20 := by obtain ⟨g, hg⟩ := j20; exact ⟨g, by rw [e_T1]; repeat (first | exact hg.1 | rw [vs_ia_ne (by omega)]), hg.2⟩
                have j22 : jk T1 22 := by obtain ⟨g, hg⟩ := j22; exact ⟨g, by rw [e_T1]; repeat (first | exact hg.1 | rw [vs_ia_ne (by omega)]), hg.2⟩
                have j24 : jk T1 24 := by obtain ⟨g, hg⟩ := j24; exact ⟨g, by rw [e_T1]; repeat (first | exact hg.1 | rw [vs_ia_ne (by omega)]), hg.2⟩
                have j26 : jk T1 26 := by obtain ⟨g, hg⟩ := j26; exact ⟨g, by rw [e_T1]; repeat (first | exact hg.1 | rw [vs_ia_ne (by omega)]), hg.2⟩
                have j71 : jk T1 71 := by obtain ⟨g, hg⟩ := j71; exact ⟨g, by rw [e_T1]; repeat (first | exact hg.1 | rw [vs_ia_ne (by omega)]), hg.2⟩
                have j73 : jk T1 73 := by obtain ⟨g, hg⟩ := j73; exact ⟨g, by rw [e_T1]; repeat (first | exact hg.1 | rw [vs_ia_ne (by omega)]), hg.2⟩
                have j75 : jk T1 75 := by obtain ⟨g, hg⟩ := j75; exact ⟨g, by rw [e_T1]; repeat (first | exact hg.1 | rw [vs_ia_ne (by omega)]), hg.2⟩
                have F : vs_fx S T1 [19, 21, 23, 25, 27, 14, 16, 78] [] [] := by rw [e_T1]; repeat (first | exact F | refine vs_fx.ia ?_ (by simp <;> omega) | refine vs_fx.sc ?_ (by simp <;> omega) | refine vs_fx.la ?_ (by simp <;> omega))
                have f1 : T1.1 (88 + 3 * f) 1 = nI (aLa a f) := by rw [e_T1]; repeat (first | exact f1 | rw [vs_ia_ne (by omega)] | rw [vs_ia_1] | rw [vs_sc_ne (by omega)] | rw [vs_sc_nf (by omega)])
                have f2 : pR T1 (88 + 3 * f + 1) (aC a f) := ⟨by rw [e_T1]; repeat (first | exact f2.1 | rw [vs_ia_ne (by omega)]), f2.2⟩
                have e1 : pR T1 13 (ent (aP a) (aC a f) l m).1 := ⟨by rw [e_T1]; repeat (first | exact e1.1 | rw [vs_ia_ne (by omega)]), e1.2⟩
                have e2 : pR T1 15 (ent (aP a) (aC a f) l m).2 := ⟨by rw [e_T1]; repeat (first | exact e2.1 | rw [vs_ia_ne (by omega)]), e2.2⟩
                have j77 : jk T1 77 := ⟨_, by rw [e_T1]; exact vs_ia_at, fun k hk => ufk_z _ k (by omega)⟩
                clear e_T1
                refine vs_istore [(8, .int (nI (eag (aP a) (aC a f) l m (aLa a f)))), (7, .int (nZ ((tp (ent (aP a) (aC a f) l m).2 42 : Int) - 1))), (6, .int (nZ ((tp (ent (aP a) (aC a f) l m).1 42 : Int) - 1))), (5, .ref (G.2.2.2 + (88 + 3 * f))), (0, .ref (G.2.2.2 + 0)), (1, .int (nI f)), (2, .int (nI l)), (3, .int (nI m)), (4, .int (nZ w))] dX9_block_115 rfl rfl rfl ?_
                refine vs_iload dX9_block_117 rfl 0 rfl ?_
                refine vs_aload dX9_block_119 rfl 3 rfl ?_
                refine vs_get (v := .int (nI (aLa a f))) lf_X9_173 (vs_Se_k hf).1 (congrArg (fun z => some (Value.int z)) f1) dX9_block_121 rfl ?_
                refine vs_icmp_le 131 dX9_block_124 rfl rfl (fun c_124 => ?_) (fun c_124 => ?_)
                · have q_124 : (((eag (aP a) (aC a f) l m (aLa a f)) : Nat) : Int) ≤ (((aLa a f) : Nat) : Int) := (qi_le (nI_Z _) (nI_Z _) (by omega) (by omega) (by omega) (by omega)).mp c_124
                  refine vs_iload dX9_block_131 rfl 0 rfl ?_
                  refine vs_iload dX9_block_133 rfl 2 rfl ?_
                  refine vs_isub dX9_block_135 rfl ?_
                  refine vs_topi (fun z1 e_z1 => ?_)
                  have f_z1 : z1 = nZ ((eag (aP a) (aC a f) l m (aLa a f) : Int) - ((tp (ent (aP a) (aC a f) l m).1 42 : Int) - 1)) := (by rw [e_z1, nI_Z, nZ_sub])
                  subst f_z1
                  clear e_z1
                  refine vs_iload dX9_block_136 rfl 1 rfl ?_
                  refine vs_isub dX9_block_138 rfl ?_
                  refine vs_topi (fun z2 e_z2 => ?_)
                  have f_z2 : z2 = nZ ((eag (aP a) (aC a f) l m (aLa a f) : Int) - ((tp (ent (aP a) (aC a f) l m).1 42 : Int) - 1) - ((tp (ent (aP a) (aC a f) l m).2 42 : Int) - 1)) := (by rw [e_z2, nZ_sub])
                  subst f_z2
                  clear e_z2
                  exact vs_iretP dX9_block_139 (cpost (v := (eag (aP a) (aC a f) l m (aLa a f) : Int) - ((tp (ent (aP a) (aC a f) l m).1 42 : Int) - 1) - ((tp (ent (aP a) (aC a f) l m).2 42 : Int) - 1)) (a' := a) (by unfold sp_block; (try simp only [Int.toNat_natCast]); repeat (first | rw [if_pos (by omega)] | rw [if_neg (by omega)])) rfl (CSt.sr hC F (by simp [scr]) (by simp) (by simp) (cJ_of ⟨_, e1⟩ ⟨_, e2⟩ j18 j20 j22 j24 j26 j71 j73 j75 j77)) (F.C (by simp) (by simp) (by simp)))
                · have q_124 : ¬ (((eag (aP a) (aC a f) l m (aLa a f)) : Nat) : Int) ≤ (((aLa a f) : Nat) : Int) := fun hh => c_124 ((qi_le (nI_Z _) (nI_Z _) (by omega) (by omega) (by omega) (by omega)).mpr hh)
                  refine vs_iconst (v := -1) dX9_block_127 rfl rfl ?_
                  refine vs_goto 139 dX9_block_128 rfl ?_
                  exact vs_iretP dX9_block_139 (cpost (v := -1) (a' := a) (by unfold sp_block; (try simp only [Int.toNat_natCast]); repeat (first | rw [if_pos (by omega)] | rw [if_neg (by omega)])) rfl (CSt.sr hC F (by simp [scr]) (by simp) (by simp) (cJ_of ⟨_, e1⟩ ⟨_, e2⟩ j18 j20 j22 j24 j26 j71 j73 j75 j77)) (F.C (by simp) (by simp) (by simp)))
              · have q_89 : ¬ (w : Int) ≥ ((2 : Nat) : Int) := fun hh => c_89 ((qi_ge rfl (by first | exact nI_Z _ | (simp only [fa_lit, nI_add, pk_mul, nI_1]; exact nI_Z _)) (by omega) (by omega) (by omega) (by omega)).mpr hh)
                refine vs_iload dX9_block_92 rfl 7 rfl ?_
                refine vs_if_ne 102 dX9_block_94 rfl rfl (fun c_94 => ?_) (fun c_94 => ?_)
                · have q_94 : ¬ (w : Int) = ((0 : Nat) : Int) := fun hh => c_94 ((qi_eq rfl (by first | exact nI_Z _ | (simp only [fa_lit, nI_add, pk_mul, nI_1]; exact nI_Z _)) (by omega) (by omega) (by omega) (by omega)).mpr hh)
                  refine vs_iload dX9_block_102 rfl 0 rfl ?_
                  exact vs_iretP dX9_block_104 (cpost (v := (tp (ent (aP a) (aC a f) l m).2 42 : Int) - 1) (a' := a) (by unfold sp_block; (try simp only [Int.toNat_natCast]); repeat (first | rw [if_pos (by omega)] | rw [if_neg (by omega)])) rfl (CSt.sr hC F (by simp [scr]) (by simp) (by simp) (cJ_of ⟨_, e1⟩ ⟨_, e2⟩ j18 j20 j22 j24 j26 j71 j73 j75 ⟨_, j77⟩)) (F.C (by simp) (by simp) (by simp)))
                · have q_94 : (w : Int) = ((0 : Nat) : Int) := (qi_eq rfl (by first | exact nI_Z _ | (simp only [fa_lit, nI_add, pk_mul, nI_1]; exact nI_Z _)) (by omega) (by omega) (by omega) (by omega)).mp c_94
                  refine vs_iload dX9_block_97 rfl 1 rfl ?_
                  refine vs_goto 104 dX9_block_99 rfl ?_
                  exact vs_iretP dX9_block_104 (cpost (v := (tp (ent (aP a) (aC a f) l m).1 42 : Int) - 1) (a' := a) (by unfold sp_block; (try simp only [Int.toNat_natCast]); repeat (first | rw [if_pos (by omega)] | rw [if_neg (by omega)])) rfl (CSt.sr hC F (by simp [scr]) (by simp) (by simp) (cJ_of ⟨_, e1⟩ ⟨_, e2⟩ j18 j20 j22 j24 j26 j71 j73 j75 ⟨_, j77⟩)) (F.C (by simp) (by simp) (by simp)))
            · have q_77 : ¬ (((tp (ent (aP a) (aC a f) l m).1 42 : Int) - 1) : Int) ≥ ((0 : Nat) : Int) := fun hh => c_77 ((qi_ge rfl (by first | exact nI_Z _ | (simp only [fa_lit, nI_add, pk_mul, nI_1]; exact nI_Z _)) (by omega) (by omega) (by omega) (by omega)).mpr hh)
              have hC3 : CSt S1 a := (CSt.sr hC F (by simp [scr]) (by simp) (by simp) (cJ_of ⟨_, e1⟩ ⟨_, e2⟩ j18 j20 j22 j24 j26 j71 j73 j75 ⟨_, j77⟩))
              have hf3 : frC S S1 := (F.C (by simp) (by simp) (by simp))
              refine vs_aload_n 0 dX9_block_80 rfl rfl 3 rfl ?_
              refine vs_iconst (v := 5) dX9_block_81 rfl rfl ?_
              refine vs_callV (st := []) (c_caused (c := 5) (by decide) (by decide)) lk_X9_106 lm_X9_caused rfl rfl rfl rfl (Nat.le_of_ble_eq_true rfl) rfl ⟨rfl, rfl⟩ dX9_block_82 rfl ?_
              show vs_V _ _ _ _ _ (.int (nZ (-10 - ((5 : Nat) : Int))) :: _) _
              exact vs_iretP dX9_block_85 (cpost (v := -10 - ((5 : Nat) : Int)) (a' := s_cs a 5) (by unfold sp_block; (try simp only [Int.toNat_natCast]); (repeat (first | rw [if_pos (by omega)] | rw [if_neg (by omega)])); rfl) rfl (k_caused hC3 (by decide) (by decide)).1 (hf3.tr (k_caused hC3 (by decide) (by decide)).2))
        · have q_33 : ¬ (w : Int) ≤ ((2 : Nat) : Int) := fun hh => c_33 ((qi_le rfl (by first | exact nI_Z _ | (simp only [fa_lit, nI_add, pk_mul, nI_1]; exact nI_Z _)) (by omega) (by omega) (by omega) (by omega)).mpr hh)
          refine vs_bipush (v := -102) dX9_block_36 rfl rfl ?_
          exact vs_iretP dX9_block_38 (cpost (v := -102) (a' := a) (by unfold sp_block; (try simp only [Int.toNat_natCast]); repeat (first | rw [if_pos (by omega)] | rw [if_neg (by omega)])) rfl hC frC.rf)
  · refine vs_aload_n 0 dX9_block_0 rfl rfl 0 rfl ?_
    refine vs_iload_n 1 dX9_block_1 rfl rfl 1 rfl ?_
    refine vs_callV (st := []) (c_seriesNull cN gN hf1 hf2 hfs) lk_X9_170 lm_X9_seriesNumbered rfl rfl rfl rfl (Nat.le_of_ble_eq_true rfl) rfl ⟨rfl, rfl⟩ dX9_block_2 rfl ?_
    show vs_V _ _ _ _ _ (.null :: _) _
    refine vs_astoreN [(5, .null), (0, .ref (G.2.2.2 + 0)), (1, .int (nZ f)), (2, .int (nZ l)), (3, .int (nZ m)), (4, .int (nZ w))] dX9_block_5 rfl rfl rfl ?_
    refine vs_aloadN dX9_block_7 rfl 0 rfl ?_
    refine vs_ifnonnullN dX9_block_9 rfl ?_
    refine vs_bipush (v := -101) dX9_block_12 rfl rfl ?_
    exact vs_iretP dX9_block_14 (cpost (v := -101) (a' := a) (by unfold sp_block; (try simp only [Int.toNat_natCast]); repeat (first | rw [if_pos (by omega)] | rw [if_neg (by omega)])) rfl hC frC.rf)

theorem stn_b {P n : Nat} {g : Nat → Nat} (h : 0 < P) : ∀ k, stn P g n k < P := fun k => ufk_b h _ _
theorem l_stair {G : vv_G} {S : vs_S} {f : Nat} (hf : f < 10) {P : Nat} (gP1 : 2 ≤ P) (gP2 : P ≤ 30011) {la k : Nat} (hla2 : la ≤ 40) (hk : k ≤ la) {S0 : vs_S} {Pst : Option Value → vs_S → Prop} : ∀ (d s : Nat) (g : Nat → Nat) (S : vs_S), s + d = k → 1 ≤ s → (∀ j, g j < P) → S.1 1 0 = nI P → S.1 (88 + 3 * f) 1 = nI la → pR S 77 g → jk S 13 → jk S 15 → vs_fx S0 S [14, 16, 78] [] [] → (∀ S2 : vs_S, vs_fx S0 S2 [14, 16, 78] [] [] → jk S2 77 → jk S2 13 → jk S2 15 → (∀ v, stk P la d s g = some v → Pst (some (.int (nI v))) S2) ∧ (stk P la d s g = none → Pst (some (.int (nZ (-15)))) (vs_ia (vs_sc S2 0 12 (nI 5)) 79 (upd (S2.2.1 79) 5 (S2.2.1 79 5 + 1))))) → vs_V G cX9_stair (vs_MP yX9_stair 6 (some .int) { frames := 4, locals := 99 } G Pst) 64 [(5, .int (nI s)), (4, .ref (G.2.2.2 + 77)), (3, .ref (G.2.2.2 + (88 + 3 * f))), (2, .int (nI k)), (0, .ref (G.2.2.2 + 0))] [] S := by
  intro d
  induction d with
  | zero =>
    intro s g S hs hs1 hb cP hla hg h13 h15 F K
    obtain rfl : s = k := by omega
    have K2 := (K S F ⟨_, hg⟩ h13 h15).1 (g 0) rfl
    refine vs_iload dX9_stair_64 rfl 0 rfl ?_
    refine vs_iload_n 2 dX9_stair_66 rfl rfl 3 rfl ?_
    refine vs_icmp_ge 104 dX9_stair_67 rfl rfl (fun c_67 => ?_) (fun c_67 => ?_)
    · have q_67 : ((s : Nat) : Int) ≥ ((s : Nat) : Int) := (qi_ge (nI_Z _) (nI_Z _) (by omega) (by omega) (by omega) (by omega)).mp c_67
      refine vs_aload dX9_stair_104 rfl 1 rfl ?_
      refine vs_iconst (v := 0) dX9_stair_106 rfl rfl ?_
      refine vs_callV (st := []) (c_atN vs_P77 hg (k := 0) (by omega)) lk_X9_186 lm_X3_at rfl rfl rfl rfl (Nat.le_of_ble_eq_true rfl) rfl ⟨rfl, rfl⟩ dX9_stair_107 rfl ?_
      show vs_V _ _ _ _ _ (.int (nI (g 0)) :: _) _
      exact vs_iretP dX9_stair_110 K2
    · have q_67 : ¬ ((s : Nat) : Int) ≥ ((s : Nat) : Int) := fun hh => c_67 ((qi_ge (nI_Z _) (nI_Z _) (by omega) (by omega) (by omega) (by omega)).mpr hh)
      omega
  | succ d ih =>
    intro s g S hs hs1 hb cP hla hg h13 h15 F K
    have b0 := hb 0
    refine vs_iload dX9_stair_64 rfl 0 rfl ?_
    refine vs_iload_n 2 dX9_stair_66 rfl rfl 3 rfl ?_
    refine vs_icmp_ge 104 dX9_stair_67 rfl rfl (fun c_67 => ?_) (fun c_67 => ?_)
    · have q_67 : ((s : Nat) : Int) ≥ ((k : Nat) : Int) := (qi_ge (nI_Z _) (nI_Z _) (by omega) (by omega) (by omega) (by omega)).mp c_67
      omega
    · have q_67 : ¬ ((s : Nat) : Int) ≥ ((k : Nat) : Int) := fun hh => c_67 ((qi_ge (nI_Z _) (nI_Z _) (by omega) (by omega) (by omega) (by omega)).mpr hh)
      refine vs_aload dX9_stair_70 rfl 1 rfl ?_
      refine vs_iconst (v := 0) dX9_stair_72 rfl rfl ?_
      refine vs_callV (st := []) (c_atN vs_P77 hg (k := 0) (by omega)) lk_X9_186 lm_X3_at rfl rfl rfl rfl (Nat.le_of_ble_eq_true rfl) rfl ⟨rfl, rfl⟩ dX9_stair_73 rfl ?_
      show vs_V _ _ _ _ _ (.int (nI (g 0)) :: _) _
      refine vs_if_ne 85 dX9_stair_76 rfl rfl (fun c_76 => ?_) (fun c_76 => ?_)
      · have q_76 : ¬ (((g 0) : Nat) : Int) = ((0 : Nat) : Int) := fun hh => c_76 ((qi_eq (nI_Z _) (by first | exact nI_Z _ | (simp only [fa_lit, nI_add, pk_mul, nI_1]; exact nI_Z _)) (by omega) (by omega) (by omega) (by omega)).mpr hh)
        have hst : stk P la (d + 1) s g = stk P la d (s + 1) (stn P g (la - s)) := if_neg (by omega)
        refine vs_aload_n 0 dX9_stair_85 rfl rfl 4 rfl ?_
        refine vs_aload dX9_stair_86 rfl 1 rfl ?_
        refine vs_aload_n 3 dX9_stair_88 rfl rfl 2 rfl ?_
        refine vs_get (v := .int (nI la)) lf_X9_173 (vs_Se_k hf).1 (congrArg (fun z => some (Value.int z)) hla) dX9_stair_89 rfl ?_
        refine vs_iload dX9_stair_92 rfl 0 rfl ?_
        refine vs_isub dX9_stair_94 rfl ?_
        refine vs_topi (fun z1 e_z1 => ?_)
        have f_z1 : z1 = nI (la - s) := (by rw [e_z1]; exact pk_sub (by omega))
        subst f_z1
        clear e_z1
        refine vs_callVP (st := []) (c_stepDown cP gP1 gP2 hg hb h13 h15 (n := la - s) (by omega)) lk_X9_229 lm_X9_stepDown rfl rfl rfl rfl (Nat.le_of_ble_eq_true rfl) rfl ⟨rfl, rfl⟩ dX9_stair_95 rfl (fun rr S1 hh => ?_)
        obtain ⟨rfl, F2, hg, h13, h15⟩ := hh
        show vs_V _ _ _ _ _ [] _
        have cP : S1.1 1 0 = nI P := by rw [F2.1]; exact cP
        have hla : S1.1 (88 + 3 * f) 1 = nI la := by rw [F2.1]; exact hla
        have F : vs_fx S0 S1 [14, 16, 78] [] [] := vs_fx.tr F F2.fx (by simp <;> omega) (by simp) (by simp)
        refine vs_iinc (v := nI (s + 1)) [(5, .int (nI (s + 1))), (4, .ref (G.2.2.2 + 77)), (3, .ref (G.2.2.2 + (88 + 3 * f))), (2, .int (nI k)), (0, .ref (G.2.2.2 + 0))] dX9_stair_98 rfl 0 rfl (by first | exact nI_1 _ | (simp only [fa_lit, nI_add, pk_mul, nI_1]; rfl)) rfl rfl ?_
        refine vs_goto 64 dX9_stair_101 rfl ?_
        refine vs_pick [0, 1, 2, 3, 4] rfl ?_
        rw [hst] at K
        exact ih (s + 1) _ _ (by omega) (by omega) (stn_b (by omega)) cP hla hg h13 h15 F K
      · have q_76 : (((g 0) : Nat) : Int) = ((0 : Nat) : Int) := (qi_eq (nI_Z _) (by first | exact nI_Z _ | (simp only [fa_lit, nI_add, pk_mul, nI_1]; exact nI_Z _)) (by omega) (by omega) (by omega) (by omega)).mp c_76
        have K2 := (K S F ⟨_, hg⟩ h13 h15).2 (if_pos (by omega))
        refine vs_aload_n 0 dX9_stair_79 rfl rfl 4 rfl ?_
        refine vs_iconst (v := 5) dX9_stair_80 rfl rfl ?_
        refine vs_callV (st := []) (c_caused (c := 5) (by decide) (by decide)) lk_X9_106 lm_X9_caused rfl rfl rfl rfl (Nat.le_of_ble_eq_true rfl) rfl ⟨rfl, rfl⟩ dX9_stair_81 rfl ?_
        show vs_V _ _ _ _ _ (.int (nZ (-10 - ((5 : Nat) : Int))) :: _) _
        exact vs_iretP dX9_stair_84 K2

theorem k_stair {G : vv_G} {S : vs_S} {a : aS} (hC : CSt S a) (hG : aG a) {f : Int} (hf1 : -2147483648 ≤ f) (hf2 : f < 2147483648) {k : Int} (hk1 : -2147483648 ≤ k) (hk2 : k < 2147483648) : vs_CP G yX9_stair cX9_stair 6 (some .int) { frames := 4, locals := 99 } [.ref (G.2.2.2 + 0), .int (nZ f), .int (nZ k)] S (fun r S2 => r = some (.int (nZ (sp_stair a f k).1)) ∧ CSt S2 (sp_stair a f k).2 ∧ frC S S2) := by
  refine vs_ofP [(0, .ref (G.2.2.2 + 0)), (1, .int (nZ f)), (2, .int (nZ k))] (by decide) rfl rfl ?_
  obtain ⟨⟨cP, cN, cH⟩, ⟨cX, cY⟩, ⟨cA, cB⟩, cSe, cJs, cSh, ⟨cK0, cK⟩, ⟨cR1, cR2, cD⟩, cJ0⟩ := id hC
  obtain ⟨gP, gP2, gN, gH, gSe, gSh, gXY, gB31, gInj, gA, gB, gAz, gBz⟩ := hG
  have gP1 := gP.1
  have j13 := cJ0 13 (by simp)
  have j15 := cJ0 15 (by simp)
  have j18 := cJ0 18 (by simp)
  have j20 := cJ0 20 (by simp)
  have j22 := cJ0 22 (by simp)
  have j24 := cJ0 24 (by simp)
  have j26 := cJ0 26 (by simp)
  have j71 := cJ0 71 (by simp)
  have j73 := cJ0 73 (by simp)
  have j75 := cJ0 75 (by simp)
  obtain ⟨g77, j77⟩ := cJ0 77 (by simp)
  have F : vs_fx S S [14, 16, 78] [] [] := vs_fx.rf
  by_cases hfs : 0 ≤ f ∧ f < aN a
  · obtain ⟨f, rfl⟩ : ∃ z0 : Nat, f = z0 := ⟨f.toNat, by omega⟩
    rw [nZ_n f]
    have hf : f < 10 := by omega
    have hfN : f < aN a := by omega
    obtain ⟨f1, f2⟩ := cSe f hfN
    obtain ⟨f3, f4⟩ := gSe f hfN
    refine vs_aload_n 0 dX9_stair_0 rfl rfl 0 rfl ?_
    refine vs_iload_n 1 dX9_stair_1 rfl rfl 1 rfl ?_
    refine vs_callV (st := []) (c_seriesNo cN gN hfN (cR2 f hf)) lk_X9_170 lm_X9_seriesNumbered rfl rfl rfl rfl (Nat.le_of_ble_eq_true rfl) rfl ⟨rfl, rfl⟩ dX9_stair_2 rfl ?_
    show vs_V _ _ _ _ _ (.ref (G.2.2.2 + (88 + 3 * f)) :: _) _
    refine vs_astore_n 3 [(3, .ref (G.2.2.2 + (88 + 3 * f))), (0, .ref (G.2.2.2 + 0)), (1, .int (nI f)), (2, .int (nZ k))] dX9_stair_5 rfl rfl rfl rfl ?_
    refine vs_aload_n 3 dX9_stair_6 rfl rfl 0 rfl ?_
    refine vs_ifnonnull 13 dX9_stair_7 rfl ?_
    refine vs_iload_n 2 dX9_stair_13 rfl rfl 3 rfl ?_
    refine vs_if_lt 25 dX9_stair_14 rfl rfl (fun c_14 => ?_) (fun c_14 => ?_)
    · have q_14 : (k : Int) < ((0 : Nat) : Int) := (qi_lt rfl (by first | exact nI_Z _ | (simp only [fa_lit, nI_add, pk_mul, nI_1]; exact nI_Z _)) (by omega) (by omega) (by omega) (by omega)).mp c_14
      refine vs_bipush (v := -102) dX9_stair_25 rfl rfl ?_
      exact vs_iretP dX9_stair_27 (cpost (v := -102) (a' := a) (by unfold sp_stair; (try simp only [Int.toNat_natCast]); repeat (first | rw [if_pos (by omega)] | rw [if_neg (by omega)])) rfl hC frC.rf)
    · have q_14 : ¬ (k : Int) < ((0 : Nat) : Int) := fun hh => c_14 ((qi_lt rfl (by first | exact nI_Z _ | (simp only [fa_lit, nI_add, pk_mul, nI_1]; exact nI_Z _)) (by omega) (by omega) (by omega) (by omega)).mpr hh)
      refine vs_iload_n 2 dX9_stair_17 rfl rfl 3 rfl ?_
      refine vs_aload_n 3 dX9_stair_18 rfl rfl 0 rfl ?_
      refine vs_get (v := .int (nI (aLa a f))) lf_X9_173 (vs_Se_k hf).1 (congrArg (fun z => some (Value.int z)) f1) dX9_stair_19 rfl ?_
      refine vs_icmp_le 28 dX9_stair_22 rfl rfl (fun c_22 => ?_) (fun c_22 => ?_)
      · have q_22 : (k : Int) ≤ (((aLa a f) : Nat) : Int) := (qi_le rfl (nI_Z _) (by omega) (by omega) (by omega) (by omega)).mp c_22
        skip
        · obtain ⟨k, rfl⟩ : ∃ z0 : Nat, k = z0 := ⟨k.toNat, by omega⟩
          rw [nZ_n k]
          refine vs_iload_n 2 dX9_stair_28 rfl rfl 3 rfl ?_
          refine vs_if_ne 41 dX9_stair_29 rfl rfl (fun c_29 => ?_) (fun c_29 => ?_)
          · have q_29 : ¬ ((k : Nat) : Int) = ((0 : Nat) : Int) := fun hh => c_29 ((qi_eq (nI_Z _) (by first | exact nI_Z _ | (simp only [fa_lit, nI_add, pk_mul, nI_1]; exact nI_Z _)) (by omega) (by omega) (by omega) (by omega)).mpr hh)
            refine vs_aload_n 0 dX9_stair_41 rfl rfl 1 rfl ?_
            refine vs_get (v := .ref (G.2.2.2 + 77)) lf_X9_73 rfl rfl dX9_stair_42 rfl ?_
            refine vs_astore [(4, .ref (G.2.2.2 + 77)), (3, .ref (G.2.2.2 + (88 + 3 * f))), (0, .ref (G.2.2.2 + 0)), (1, .int (nI f)), (2, .int (nI k))] dX9_stair_45 rfl rfl rfl ?_
            refine vs_aload dX9_stair_47 rfl 0 rfl ?_
            refine vs_aload_n 3 dX9_stair_49 rfl rfl 1 rfl ?_
            refine vs_get (v := .ref (G.2.2.2 + (88 + 3 * f + 1))) lf_X9_149 (vs_Se_k hf).1 rfl dX9_stair_50 rfl ?_
            refine vs_callV (st := []) (c_become vs_P77 j77 (vs_Se_k hf).2 f2) lk_X9_196 lm_X3_become rfl rfl rfl rfl (Nat.le_of_ble_eq_true rfl) rfl ⟨rfl, rfl⟩ dX9_stair_53 rfl ?_
            refine vs_gen (fun T1 e_T1 => ?_)
            have cP : T1.1 1 0 = nI (aP a) := by rw [e_T1]; repeat (first | exact cP | rw [vs_ia_ne (by omega)] | rw [vs_ia_1] | rw [vs_sc_ne (by omega)] | rw [vs_sc_nf (by omega)])
            have cN : T1.1 0 3 = nI (aN a) := by rw [e_T1]; repeat (first | exact cN | rw [vs_ia_ne (by omega)] | rw [vs_ia_1] | rw [vs_sc_ne (by omega)] | rw [vs_sc_nf (by omega)])
            have j13 : jk T1 13 := by obtain ⟨g, hg⟩ := j13; exact ⟨g, by rw [e_T1]; repeat (first | exact hg.1 | rw [vs_ia_ne (by omega)]), hg.2⟩
            have j15 : jk T1 15 := by obtain ⟨g, hg⟩ := j15; exact ⟨g, by rw [e_T1]; repeat (first | exact hg.1 | rw [vs_ia_ne (by omega)]), hg.2⟩
            have F : vs_fx S T1 [14, 16, 78] [] [] := by rw [e_T1]; repeat (first | exact F | refine vs_fx.ia ?_ (by simp <;> omega) | refine vs_fx.sc ?_ (by simp <;> omega) | refine vs_fx.la ?_ (by simp <;> omega))
            have f1 : T1.1 (88 + 3 * f) 1 = nI (aLa a f) := by rw [e_T1]; repeat (first | exact f1 | rw [vs_ia_ne (by omega)] | rw [vs_ia_1] | rw [vs_sc_ne (by omega)] | rw [vs_sc_nf (by omega)])
            have f2 : pR T1 (88 + 3 * f + 1) (aC a f) := ⟨by rw [e_T1]; repeat (first | exact f2.1 | rw [vs_ia_ne (by omega)]), f2.2⟩
            have j77 : pR T1 77 (aC a f) := ⟨by rw [e_T1]; repeat (first | exact vs_ia_at | rw [vs_ia_ne (by omega)]), f2.2⟩
            clear e_T1
            refine vs_aload dX9_stair_56 rfl 0 rfl ?_
            refine vs_callV (st := []) (c_dropLowest vs_P77 j77) lk_X9_226 lm_X3_dropLowest rfl rfl rfl rfl (Nat.le_of_ble_eq_true rfl) rfl ⟨rfl, rfl⟩ dX9_stair_58 rfl ?_
            refine vs_gen (fun T2 e_T2 => ?_)
            have cP : T2.1 1 0 = nI (aP a) := by rw [e_T2]; repeat (first | exact cP | rw [vs_ia_ne (by omega)] | rw [vs_ia_1] | rw [vs_sc_ne (by omega)] | rw [vs_sc_nf (by omega)])
            have cN : T2.1 0 3 = nI (aN a) := by rw [e_T2]; repeat (first | exact cN | rw [vs_ia_ne (by omega)] | rw [vs_ia_1] | rw [vs_sc_ne (by omega)] | rw [vs_sc_nf (by omega)])
            have j13 : jk T2 13 := by obtain ⟨g, hg⟩ := j13; exact ⟨g, by rw [e_T2]; repeat (first | exact hg.1 | rw [vs_ia_ne (by omega)]), hg.2⟩
            have j15 : jk T2 15 := by obtain ⟨g, hg⟩ := j15; exact ⟨g, by rw [e_T2]; repeat (first | exact hg.1 | rw [vs_ia_ne (by omega)]), hg.2⟩
            have F : vs_fx S T2 [14, 16, 78] [] [] := by rw [e_T2]; repeat (first | exact F | refine vs_fx.ia ?_ (by simp <;> omega) | refine vs_fx.sc ?_ (by simp <;> omega) | refine vs_fx.la ?_ (by simp <;> omega))
            have f1 : T2.1 (88 + 3 * f) 1 = nI (aLa a f) := by rw [e_T2]; repeat (first | exact f1 | rw [vs_ia_ne (by omega)] | rw [vs_ia_1] | rw [vs_sc_ne (by omega)] | rw [vs_sc_nf (by omega)])
            have f2 : pR T2 (88 + 3 * f + 1) (aC a f) := ⟨by rw [e_T2]; repeat (first | exact f2.1 | rw [vs_ia_ne (by omega)]), f2.2⟩
            have j77 : pR T2 77 (fun j => aC a f (j + 1)) := ⟨by rw [e_T2]; repeat (first | exact vs_ia_at | rw [vs_ia_ne (by omega)]), (fun j hj => f2.2 (j + 1) (by omega))⟩
            clear e_T2
            refine vs_iconst (v := 1) dX9_stair_61 rfl rfl ?_
            refine vs_istore [(5, .int (1)), (4, .ref (G.2.2.2 + 77)), (3, .ref (G.2.2.2 + (88 + 3 * f))), (0, .ref (G.2.2.2 + 0)), (1, .int (nI f)), (2, .int (nI k))] dX9_stair_62 rfl rfl rfl ?_
            refine vs_pick (L2 := [(5, .int (nI 1)), (4, .ref (G.2.2.2 + 77)), (3, .ref (G.2.2.2 + (88 + 3 * f))), (2, .int (nI k)), (0, .ref (G.2.2.2 + 0))]) [0, 1, 2, 5, 3] rfl ?_
            refine l_stair (S := S) (S0 := S) hf gP1 gP2 f3 (show k ≤ aLa a f by omega) (k - 1) 1 _ _ (by omega) (by omega) (fun j => f4 (j + 1)) cP f1 j77 j13 j15 F (fun S2 F2 q77 q13 q15 => ?_)
            have hC3 : CSt S2 a := CSt.sr hC F2 (by simp [scr]) (by simp) (by simp) (cJ_of q13 q15 (F2.j (by simp) j18) (F2.j (by simp) j20) (F2.j (by simp) j22) (F2.j (by simp) j24) (F2.j (by simp) j26) (F2.j (by simp) j71) (F2.j (by simp) j73) (F2.j (by simp) j75) q77)
            have hf3 : frC S S2 := F2.C (by simp) (by simp) (by simp)
            refine ⟨fun v hv => ?_, fun hv => ?_⟩
            · exact cpost (v := (v : Int)) (a' := a) (by unfold sp_stair; (try simp only [Int.toNat_natCast]); (repeat (first | rw [if_pos (by omega)] | rw [if_neg (by omega)])); rw [hv]) (by rw [nZ_n]) hC3 hf3
            · exact cpost (v := -10 - ((5 : Nat) : Int)) (a' := s_cs a 5) (by unfold sp_stair; (try simp only [Int.toNat_natCast]); (repeat (first | rw [if_pos (by omega)] | rw [if_neg (by omega)])); rw [hv]; rfl) rfl (k_caused hC3 (by decide) (by decide)).1 (hf3.tr (k_caused hC3 (by decide) (by decide)).2)
          · have q_29 : ((k : Nat) : Int) = ((0 : Nat) : Int) := (qi_eq (nI_Z _) (by first | exact nI_Z _ | (simp only [fa_lit, nI_add, pk_mul, nI_1]; exact nI_Z _)) (by omega) (by omega) (by omega) (by omega)).mp c_29
            refine vs_aload_n 3 dX9_stair_32 rfl rfl 0 rfl ?_
            refine vs_get (v := .ref (G.2.2.2 + (88 + 3 * f + 1))) lf_X9_149 (vs_Se_k hf).1 rfl dX9_stair_33 rfl ?_
            refine vs_iconst (v := 0) dX9_stair_36 rfl rfl ?_
            refine vs_callV (st := []) (c_atN (vs_Se_k hf).2 f2 (k := 0) (by omega)) lk_X9_186 lm_X3_at rfl (vs_Se_k hf).2.1 rfl rfl (Nat.le_of_ble_eq_true rfl) rfl ⟨rfl, rfl⟩ dX9_stair_37 rfl ?_
            show vs_V _ _ _ _ _ (.int (nI (aC a f 0)) :: _) _
            exact vs_iretP dX9_stair_40 (cpost (v := (aC a f 0 : Int)) (a' := a) (by unfold sp_stair; (try simp only [Int.toNat_natCast]); repeat (first | rw [if_pos (by omega)] | rw [if_neg (by omega)])) (by rw [nZ_n]) hC frC.rf)
      · have q_22 : ¬ (k : Int) ≤ (((aLa a f) : Nat) : Int) := fun hh => c_22 ((qi_le rfl (nI_Z _) (by omega) (by omega) (by omega) (by omega)).mpr hh)
        refine vs_bipush (v := -102) dX9_stair_25 rfl rfl ?_
        exact vs_iretP dX9_stair_27 (cpost (v := -102) (a' := a) (by unfold sp_stair; (try simp only [Int.toNat_natCast]); repeat (first | rw [if_pos (by omega)] | rw [if_neg (by omega)])) rfl hC frC.rf)
  · refine vs_aload_n 0 dX9_stair_0 rfl rfl 0 rfl ?_
    refine vs_iload_n 1 dX9_stair_1 rfl rfl 1 rfl ?_
    refine vs_callV (st := []) (c_seriesNull cN gN hf1 hf2 hfs) lk_X9_170 lm_X9_seriesNumbered rfl rfl rfl rfl (Nat.le_of_ble_eq_true rfl) rfl ⟨rfl, rfl⟩ dX9_stair_2 rfl ?_
    show vs_V _ _ _ _ _ (.null :: _) _
    refine vs_astore_nN 3 [(3, .null), (0, .ref (G.2.2.2 + 0)), (1, .int (nZ f)), (2, .int (nZ k))] dX9_stair_5 rfl rfl rfl rfl ?_
    refine vs_aload_nN 3 dX9_stair_6 rfl rfl 0 rfl ?_
    refine vs_ifnonnullN dX9_stair_7 rfl ?_
    refine vs_bipush (v := -101) dX9_stair_10 rfl rfl ?_
    exact vs_iretP dX9_stair_12 (cpost (v := -101) (a' := a) (by unfold sp_stair; (try simp only [Int.toNat_natCast]); repeat (first | rw [if_pos (by omega)] | rw [if_neg (by omega)])) rfl hC frC.rf)

theorem k_recur {G : vv_G} {S : vs_S} {a : aS} (hC : CSt S a) (hG : aG a) {f : Int} (hf1 : -2147483648 ≤ f) (hf2 : f < 2147483648) : vs_CP G yX9_recur cX9_recur 4 (some .int) { frames := 6, locals := 157 } [.ref (G.2.2.2 + 0), .int (nZ f)] S (fun r S2 => r = some (.int (nZ (sp_recur a f).1)) ∧ CSt S2 (sp_recur a f).2 ∧ frC S S2) := by
  refine vs_ofP [(0, .ref (G.2.2.2 + 0)), (1, .int (nZ f))] (by decide) rfl rfl ?_
  obtain ⟨⟨cP, cN, cH⟩, ⟨cX, cY⟩, ⟨cA, cB⟩, cSe, cJs, cSh, ⟨cK0, cK⟩, ⟨cR1, cR2, cD⟩, cJ0⟩ := id hC
  obtain ⟨gP, gP2, gN, gH, gSe, gSh, gXY, gB31, gInj, gA, gB, gAz, gBz⟩ := hG
  have gP1 := gP.1
  have j13 := cJ0 13 (by simp)
  have j15 := cJ0 15 (by simp)
  have j18 := cJ0 18 (by simp)
  have j20 := cJ0 20 (by simp)
  have j22 := cJ0 22 (by simp)
  have j24 := cJ0 24 (by simp)
  have j26 := cJ0 26 (by simp)
  have j71 := cJ0 71 (by simp)
  have j73 := cJ0 73 (by simp)
  have j75 := cJ0 75 (by simp)
  have j77 := cJ0 77 (by simp)
  have F : vs_fx S S [72, 74, 76, 19, 21, 23, 25, 27, 9, 11] [] [] := vs_fx.rf
  by_cases hfs : 0 ≤ f ∧ f < aN a
  · obtain ⟨f, rfl⟩ : ∃ z0 : Nat, f = z0 := ⟨f.toNat, by omega⟩
    rw [nZ_n f]
    have hf : f < 10 := by omega
    have hfN : f < aN a := by omega
    obtain ⟨f1, f2⟩ := cSe f hfN
    obtain ⟨f3, f4⟩ := gSe f hfN
    refine vs_aload_n 0 dX9_recur_0 rfl rfl 0 rfl ?_
    refine vs_iload_n 1 dX9_recur_1 rfl rfl 1 rfl ?_
    refine vs_callV (st := []) (c_seriesNo cN gN hfN (cR2 f hf)) lk_X9_170 lm_X9_seriesNumbered rfl rfl rfl rfl (Nat.le_of_ble_eq_true rfl) rfl ⟨rfl, rfl⟩ dX9_recur_2 rfl ?_
    show vs_V _ _ _ _ _ (.ref (G.2.2.2 + (88 + 3 * f)) :: _) _
    refine vs_astore_n 2 [(2, .ref (G.2.2.2 + (88 + 3 * f))), (0, .ref (G.2.2.2 + 0)), (1, .int (nI f))] dX9_recur_5 rfl rfl rfl rfl ?_
    refine vs_aload_n 2 dX9_recur_6 rfl rfl 0 rfl ?_
    refine vs_ifnonnull 13 dX9_recur_7 rfl ?_
    refine vs_aload_n 0 dX9_recur_13 rfl rfl 1 rfl ?_
    refine vs_get (v := .ref (G.2.2.2 + 70)) lf_X9_66 rfl rfl dX9_recur_14 rfl ?_
    refine vs_aload_n 2 dX9_recur_17 rfl rfl 0 rfl ?_
    refine vs_aload_n 0 dX9_recur_18 rfl rfl 1 rfl ?_
    refine vs_get (v := .ref (G.2.2.2 + 1)) lf_X9_12 rfl rfl dX9_recur_19 rfl ?_
    refine vs_callVP (st := []) (c_least (vs_Se_k hf) (by omega) f2 cP gP1 gP2 f4 f1 f3 j71 j73 j75) lk_X9_233 lm_X4_least rfl rfl rfl rfl (Nat.le_of_ble_eq_true rfl) rfl ⟨rfl, rfl⟩ dX9_recur_22 rfl (fun rr S1 hh => ?_)
    obtain ⟨rfl, F1, j71, j73, j75⟩ := hh
    show vs_V _ _ _ _ _ (.int (nI ((bmi (aP a) (aC a f) (aLa a f + 1)).1)) :: _) _
    have cP : S1.1 1 0 = nI (aP a) := by rw [F1.1]; exact cP
    have cN : S1.1 0 3 = nI (aN a) := by rw [F1.1]; exact cN
    have j13 : jk S1 13 := by obtain ⟨g, hg⟩ := j13; exact ⟨g, F1.p (by simp <;> omega) hg⟩
    have j15 : jk S1 15 := by obtain ⟨g, hg⟩ := j15; exact ⟨g, F1.p (by simp <;> omega) hg⟩
    have j18 : jk S1 18 := by obtain ⟨g, hg⟩ := j18; exact ⟨g, F1.p (by simp <;> omega) hg⟩
    have j20 : jk S1 20 := by obtain ⟨g, hg⟩ := j20; exact ⟨g, F1.p (by simp <;> omega) hg⟩
    have j22 : jk S1 22 := by obtain ⟨g, hg⟩ := j22; exact ⟨g, F1.p (by simp <;> omega) hg⟩
    have j24 : jk S1 24 := by obtain ⟨g, hg⟩ := j24; exact ⟨g, F1.p (by simp <;> omega) hg⟩
    have j26 : jk S1 26 := by obtain ⟨g, hg⟩ := j26; exact ⟨g, F1.p (by simp <;> omega) hg⟩
    have j77 : jk S1 77 := by obtain ⟨g, hg⟩ := j77; exact ⟨g, F1.p (by simp <;> omega) hg⟩
    have cA : pR S1 8 (aA a) := F1.p (by simp <;> omega) cA
    have cB : pR S1 10 (aB a) := F1.p (by simp <;> omega) cB
    have F : vs_fx S S1 [72, 74, 76, 19, 21, 23, 25, 27, 9, 11] [] [] := vs_fx.tr F F1.fx (by simp <;> omega) (by simp) (by simp)
    have f1 : S1.1 (88 + 3 * f) 1 = nI (aLa a f) := by rw [F1.1]; exact f1
    have f2 : pR S1 (88 + 3 * f + 1) (aC a f) := F1.p (by simp <;> omega) f2
    have hbm : (bmi (aP a) (aC a f) (aLa a f + 1)).1 ≤ aLa a f + 1 := (bmi_g gP1 (aLa a f + 1)).1
    refine vs_istore_n 3 [(3, .int (nI ((bmi (aP a) (aC a f) (aLa a f + 1)).1))), (2, .ref (G.2.2.2 + (88 + 3 * f))), (0, .ref (G.2.2.2 + 0)), (1, .int (nI f))] dX9_recur_25 rfl rfl rfl rfl ?_
    refine vs_iload_n 3 dX9_recur_26 rfl rfl 0 rfl ?_
    refine vs_if_ne 40 dX9_recur_27 rfl rfl (fun c_27 => ?_) (fun c_27 => ?_)
    · have q_27 : ¬ ((((bmi (aP a) (aC a f) (aLa a f + 1)).1) : Nat) : Int) = ((0 : Nat) : Int) := fun hh => c_27 ((qi_eq (nI_Z _) (by first | exact nI_Z _ | (simp only [fa_lit, nI_add, pk_mul, nI_1]; exact nI_Z _)) (by omega) (by omega) (by omega) (by omega)).mpr hh)
      refine vs_iconst (v := 2) dX9_recur_40 rfl rfl ?_
      refine vs_iload_n 3 dX9_recur_41 rfl rfl 0 rfl ?_
      refine vs_imul dX9_recur_42 rfl ?_
      refine vs_iconst (v := 1) dX9_recur_43 rfl rfl ?_
      refine vs_isub dX9_recur_44 rfl ?_
      refine vs_topi (fun z1 e_z1 => ?_)
      have f_z1 : z1 = nZ (2 * ((bmi (aP a) (aC a f) (aLa a f + 1)).1 : Int) - 1) := (by rw [e_z1, nI_Z, show (2 : Int32) = nZ 2 from rfl, show (1 : Int32) = nZ 1 from rfl, nZ_mul, nZ_sub])
      subst f_z1
      clear e_z1
      refine vs_aload_n 2 dX9_recur_45 rfl rfl 1 rfl ?_
      refine vs_get (v := .int (nI (aLa a f))) lf_X9_173 (vs_Se_k hf).1 (congrArg (fun z => some (Value.int z)) f1) dX9_recur_46 rfl ?_
      refine vs_icmp_gt 65 dX9_recur_49 rfl rfl (fun c_49 => ?_) (fun c_49 => ?_)
      · have q_49 : ((2 * ((bmi (aP a) (aC a f) (aLa a f + 1)).1 : Int) - 1) : Int) > (((aLa a f) : Nat) : Int) := (qi_gt rfl (nI_Z _) (by omega) (by omega) (by omega) (by omega)).mp c_49
        refine vs_iload_n 3 dX9_recur_65 rfl rfl 0 rfl ?_
        exact vs_iretP dX9_recur_66 (cpost (v := ((bmi (aP a) (aC a f) (aLa a f + 1)).1 : Int)) (a' := a) (by unfold sp_recur; (try simp only [Int.toNat_natCast]); repeat (first | rw [if_pos (by omega)] | rw [if_neg (by omega)])) (by rw [nZ_n]) (CSt.sr hC F1.fx (by simp [scr]) (by simp) (by simp) (cJ_of j13 j15 j18 j20 j22 j24 j26 j71 j73 j75 j77)) (F1.fx.C (by simp) (by simp) (by simp)))
      · have q_49 : ¬ ((2 * ((bmi (aP a) (aC a f) (aLa a f + 1)).1 : Int) - 1) : Int) > (((aLa a f) : Nat) : Int) := fun hh => c_49 ((qi_gt rfl (nI_Z _) (by omega) (by omega) (by omega) (by omega)).mpr hh)
        refine vs_aload_n 0 dX9_recur_52 rfl rfl 2 rfl ?_
        refine vs_aload_n 2 dX9_recur_53 rfl rfl 1 rfl ?_
        refine vs_iload_n 3 dX9_recur_54 rfl rfl 0 rfl ?_
        refine vs_iconst (v := 1) dX9_recur_55 rfl rfl ?_
        refine vs_isub dX9_recur_56 rfl ?_
        refine vs_topi (fun z2 e_z2 => ?_)
        have f_z2 : z2 = nI ((bmi (aP a) (aC a f) (aLa a f + 1)).1 - 1) := (by rw [e_z2]; exact pk_sub (b := 1) (by omega))
        subst f_z2
        clear e_z2
        refine vs_iload_n 3 dX9_recur_57 rfl rfl 0 rfl ?_
        refine vs_aload_n 0 dX9_recur_58 rfl rfl 2 rfl ?_
        refine vs_get (v := .ref (G.2.2.2 + 7)) lf_X9_42 rfl rfl dX9_recur_59 rfl ?_
        refine vs_callVP (st := []) (c_findEntry (o := 7) ⟨rfl, ⟨rfl, rfl⟩, ⟨rfl, rfl⟩⟩ (by omega) (vs_Se_k hf) (by omega) gP1 gP2 f4 (l := (bmi (aP a) (aC a f) (aLa a f + 1)).1 - 1) (m := (bmi (aP a) (aC a f) (aLa a f + 1)).1) (by omega) cP f2 cA cB j18 j20 j22 j24 j26) lk_X9_207 lm_X9_findEntry rfl rfl rfl rfl (Nat.le_of_ble_eq_true rfl) rfl ⟨rfl, rfl⟩ dX9_recur_62 rfl (fun rr S2 hh => ?_)
        obtain ⟨rfl, F2, e1, e2, j18, j20, j22, j24, j26⟩ := hh
        show vs_V _ _ _ _ _ [] _
        have cP : S2.1 1 0 = nI (aP a) := by rw [F2.1]; exact cP
        have cN : S2.1 0 3 = nI (aN a) := by rw [F2.1]; exact cN
        have j13 : jk S2 13 := by obtain ⟨g, hg⟩ := j13; exact ⟨g, F2.p (by simp <;> omega) hg⟩
        have j15 : jk S2 15 := by obtain ⟨g, hg⟩ := j15; exact ⟨g, F2.p (by simp <;> omega) hg⟩
        have j71 : jk S2 71 := by obtain ⟨g, hg⟩ := j71; exact ⟨g, F2.p (by simp <;> omega) hg⟩
        have j73 : jk S2 73 := by obtain ⟨g, hg⟩ := j73; exact ⟨g, F2.p (by simp <;> omega) hg⟩
        have j75 : jk S2 75 := by obtain ⟨g, hg⟩ := j75; exact ⟨g, F2.p (by simp <;> omega) hg⟩
        have j77 : jk S2 77 := by obtain ⟨g, hg⟩ := j77; exact ⟨g, F2.p (by simp <;> omega) hg⟩
        have F : vs_fx S S2 [72, 74, 76, 19, 21, 23, 25, 27, 9, 11] [] [] := vs_fx.tr F F2.fx (by simp <;> omega) (by simp) (by simp)
        have f1 : S2.1 (88 + 3 * f) 1 = nI (aLa a f) := by rw [F2.1]; exact f1
        have f2 : pR S2 (88 + 3 * f + 1) (aC a f) := F2.p (by simp <;> omega) f2
        refine vs_iload_n 3 dX9_recur_65 rfl rfl 0 rfl ?_
        exact vs_iretP dX9_recur_66 (cpost (v := ((bmi (aP a) (aC a f) (aLa a f + 1)).1 : Int)) (a' := s_re a (ent (aP a) (aC a f) ((bmi (aP a) (aC a f) (aLa a f + 1)).1 - 1) (bmi (aP a) (aC a f) (aLa a f + 1)).1).1 (ent (aP a) (aC a f) ((bmi (aP a) (aC a f) (aLa a f + 1)).1 - 1) (bmi (aP a) (aC a f) (aLa a f + 1)).1).2) (by unfold sp_recur; (try simp only [Int.toNat_natCast]); repeat (first | rw [if_pos (by omega)] | rw [if_neg (by omega)])) (by rw [nZ_n]) (CSt.re hC F e1 e2 (by simp [scr]) (by simp) (by simp) (cJ_of j13 j15 j18 j20 j22 j24 j26 j71 j73 j75 j77)) (F.C (by simp) (by simp) (by simp)))
    · have q_27 : ((((bmi (aP a) (aC a f) (aLa a f + 1)).1) : Nat) : Int) = ((0 : Nat) : Int) := (qi_eq (nI_Z _) (by first | exact nI_Z _ | (simp only [fa_lit, nI_add, pk_mul, nI_1]; exact nI_Z _)) (by omega) (by omega) (by omega) (by omega)).mp c_27
      refine vs_aload_n 0 dX9_recur_30 rfl rfl 2 rfl ?_
      refine vs_get (v := .ref (G.2.2.2 + 7)) lf_X9_42 rfl rfl dX9_recur_31 rfl ?_
      refine vs_callV (st := []) (c_becomeZero (o := 7) ⟨rfl, ⟨rfl, rfl⟩, ⟨rfl, rfl⟩⟩ cA cB) lk_X9_96 lm_X7_becomeZero rfl rfl rfl rfl (Nat.le_of_ble_eq_true rfl) rfl ⟨rfl, rfl⟩ dX9_recur_34 rfl ?_
      refine vs_gen (fun T1 e_T1 => ?_)
      have cP : T1.1 1 0 = nI (aP a) := by rw [e_T1]; repeat (first | exact cP | rw [vs_ia_ne (by omega)] | rw [vs_ia_1] | rw [vs_sc_ne (by omega)] | rw [vs_sc_nf (by omega)])
      have cN : T1.1 0 3 = nI (aN a) := by rw [e_T1]; repeat (first | exact cN | rw [vs_ia_ne (by omega)] | rw [vs_ia_1] | rw [vs_sc_ne (by omega)] | rw [vs_sc_nf (by omega)])
      have j13 : jk T1 13 := by obtain ⟨g, hg⟩ := j13; exact ⟨g, by rw [e_T1]; repeat (first | exact hg.1 | rw [vs_ia_ne (by omega)]), hg.2⟩
      have j15 : jk T1 15 := by obtain ⟨g, hg⟩ := j15; exact ⟨g, by rw [e_T1]; repeat (first | exact hg.1 | rw [vs_ia_ne (by omega)]), hg.2⟩
      have j18 : jk T1 18 := by obtain ⟨g, hg⟩ := j18; exact ⟨g, by rw [e_T1]; repeat (first | exact hg.1 | rw [vs_ia_ne (by omega)]), hg.2⟩
      have j20 : jk T1 20 := by obtain ⟨g, hg⟩ := j20; exact ⟨g, by rw [e_T1]; repeat (first | exact hg.1 | rw [vs_ia_ne (by omega)]), hg.2⟩
      have j22 : jk T1 22 := by obtain ⟨g, hg⟩ := j22; exact ⟨g, by rw [e_T1]; repeat (first | exact hg.1 | rw [vs_ia_ne (by omega)]), hg.2⟩
      have j24 : jk T1 24 := by obtain ⟨g, hg⟩ := j24; exact ⟨g, by rw [e_T1]; repeat (first | exact hg.1 | rw [vs_ia_ne (by omega)]), hg.2⟩
      have j26 : jk T1 26 := by obtain ⟨g, hg⟩ := j26; exact ⟨g, by rw [e_T1]; repeat (first | exact hg.1 | rw [vs_ia_ne (by omega)]), hg.2⟩
      have j71 : jk T1 71 := by obtain ⟨g, hg⟩ := j71; exact ⟨g, by rw [e_T1]; repeat (first | exact hg.1 | rw [vs_ia_ne (by omega)]), hg.2⟩
      have j73 : jk T1 73 := by obtain ⟨g, hg⟩ := j73; exact ⟨g, by rw [e_T1]; repeat (first | exact hg.1 | rw [vs_ia_ne (by omega)]), hg.2⟩
      have j75 : jk T1 75 := by obtain ⟨g, hg⟩ := j75; exact ⟨g, by rw [e_T1]; repeat (first | exact hg.1 | rw [vs_ia_ne (by omega)]), hg.2⟩
      have j77 : jk T1 77 := by obtain ⟨g, hg⟩ := j77; exact ⟨g, by rw [e_T1]; repeat (first | exact hg.1 | rw [vs_ia_ne (by omega)]), hg.2⟩
      have F : vs_fx S T1 [72, 74, 76, 19, 21, 23, 25, 27, 9, 11] [] [] := by rw [e_T1]; repeat (first | exact F | refine vs_fx.ia ?_ (by simp <;> omega) | refine vs_fx.sc ?_ (by simp <;> omega) | refine vs_fx.la ?_ (by simp <;> omega))
      have f1 : T1.1 (88 + 3 * f) 1 = nI (aLa a f) := by rw [e_T1]; repeat (first | exact f1 | rw [vs_ia_ne (by omega)] | rw [vs_ia_1] | rw [vs_sc_ne (by omega)] | rw [vs_sc_nf (by omega)])
      have f2 : pR T1 (88 + 3 * f + 1) (aC a f) := ⟨by rw [e_T1]; repeat (first | exact f2.1 | rw [vs_ia_ne (by omega)]), f2.2⟩
      have cA : pR T1 8 (pcon 0) := ⟨by rw [e_T1]; repeat (first | exact vs_ia_at | rw [vs_ia_ne (by omega)]), (pcon_z 0)⟩
      have cB : pR T1 10 (pcon 1) := ⟨by rw [e_T1]; repeat (first | exact vs_ia_at | rw [vs_ia_ne (by omega)]), (pcon_z 1)⟩
      clear e_T1
      refine vs_goto 65 dX9_recur_37 rfl ?_
      refine vs_iload_n 3 dX9_recur_65 rfl rfl 0 rfl ?_
      exact vs_iretP dX9_recur_66 (cpost (v := 0) (a' := s_re a (pcon 0) (pcon 1)) (by unfold sp_recur; (try simp only [Int.toNat_natCast]); repeat (first | rw [if_pos (by omega)] | rw [if_neg (by omega)])) (by rw [show (bmi (aP a) (aC a f) (aLa a f + 1)).1 = 0 by omega]; rfl) (CSt.re hC F cA cB (by simp [scr]) (by simp) (by simp) (cJ_of j13 j15 j18 j20 j22 j24 j26 j71 j73 j75 j77)) (F.C (by simp) (by simp) (by simp)))
  · refine vs_aload_n 0 dX9_recur_0 rfl rfl 0 rfl ?_
    refine vs_iload_n 1 dX9_recur_1 rfl rfl 1 rfl ?_
    refine vs_callV (st := []) (c_seriesNull cN gN hf1 hf2 hfs) lk_X9_170 lm_X9_seriesNumbered rfl rfl rfl rfl (Nat.le_of_ble_eq_true rfl) rfl ⟨rfl, rfl⟩ dX9_recur_2 rfl ?_
    show vs_V _ _ _ _ _ (.null :: _) _
    refine vs_astore_nN 2 [(2, .null), (0, .ref (G.2.2.2 + 0)), (1, .int (nZ f))] dX9_recur_5 rfl rfl rfl rfl ?_
    refine vs_aload_nN 2 dX9_recur_6 rfl rfl 0 rfl ?_
    refine vs_ifnonnullN dX9_recur_7 rfl ?_
    refine vs_bipush (v := -101) dX9_recur_10 rfl rfl ?_
    exact vs_iretP dX9_recur_12 (cpost (v := -101) (a' := a) (by unfold sp_recur; (try simp only [Int.toNat_natCast]); repeat (first | rw [if_pos (by omega)] | rw [if_neg (by omega)])) rfl hC frC.rf)

