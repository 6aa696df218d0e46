theorem aG_cs {a : aS} {c : Nat} (h : aG a) : aG (s_cs a c) := h
theorem aG_c {a : aS} {c : Nat} (h : aG a) : aG (s_c a c).2 := h
theorem aG_re {a : aS} {p q : Nat → Nat} (h : aG a) (h1 : ∀ k, p k < aP a) (h2 : ∀ k, q k < aP a) (h3 : ∀ k, 42 ≤ k → p k = 0) (h4 : ∀ k, 42 ≤ k → q k = 0) : aG (s_re a p q) := by
  obtain ⟨gP, gP2, gN, gH, gSe, gSh, gXY, gB31, gInj, gA, gB, gAz, gBz⟩ := h
  exact ⟨gP, gP2, gN, gH, gSe, gSh, gXY, gB31, gInj, h1, h2, h3, h4⟩
theorem aG_pr {a : aS} {P : Nat} (h : aG a) (h1 : aN a = 0) (h2 : aH a = 0) (h3 : q_pr P) (h4 : P ≤ 30011) : aG (s_pr a P) := by
  obtain ⟨gP, gP2, gN, gH, gSe, gSh, gXY, gB31, gInj, gA, gB, gAz, gBz⟩ := h
  have h5 := h3.1
  exact ⟨h3, h4, gN, gH, fun f hf => absurd (show f < aN a from hf) (by omega), gSh, fun k hk => absurd (show k < aH a from hk) (by omega), gB31, gInj, pcon_b (show 0 < P by omega), pcon_b (show 1 < P by omega), fun k hk => if_neg (by omega), fun k hk => if_neg (by omega)⟩
theorem aG_se {a : aS} {n : Nat} {g : Nat → Nat} (h : aG a) (h1 : ¬ aN a = 10) (h2 : n ≤ 40) (h3 : ∀ k, g k < aP a) : aG (s_se a n g) := by
  obtain ⟨gP, gP2, gN, gH, gSe, gSh, gXY, gB31, gInj, gA, gB, gAz, gBz⟩ := h
  refine ⟨gP, gP2, show aN a + 1 ≤ 10 by omega, gH, fun f hf => ?_, gSh, gXY, gB31, gInj, gA, gB, gAz, gBz⟩
  have hf : f < aN a + 1 := hf
  show nu (aLa a) (aN a) n f ≤ 40 ∧ ∀ k, (if f = aN a then g else aC a f) k < aP a
  by_cases e : f = aN a
  · rw [e, if_pos rfl, show nu (aLa a) (aN a) n (aN a) = n from if_pos rfl]; exact ⟨h2, h3⟩
  · rw [if_neg e, nu_n e]; exact gSe f (by omega)
theorem aG_cl {a : aS} (h : aG a) : aG (s_cl a) := by
  obtain ⟨gP, gP2, gN, gH, gSe, gSh, gXY, gB31, gInj, gA, gB, gAz, gBz⟩ := h
  exact ⟨gP, gP2, show 0 ≤ 10 by omega, gH, fun f hf => absurd (show f < 0 from hf) (by omega), gSh, gXY, gB31, gInj, gA, gB, gAz, gBz⟩
theorem aG_wi {a : aS} (h : aG a) : aG (s_wi a) := by
  obtain ⟨gP, gP2, gN, gH, gSe, gSh, gXY, gB31, gInj, gA, gB, gAz, gBz⟩ := h
  exact ⟨gP, gP2, gN, show 0 ≤ 20 by omega, gSe, gSh, fun f hf => absurd (show f < 0 from hf) (by omega), gB31, fun f _ hf => absurd (show f < 0 from hf) (by omega), gA, gB, gAz, gBz⟩
theorem aG_sh {a : aS} {s lo ln sz : Nat} {w : Nat → Int64} (h : aG a) (h1 : lo ≤ 1) (h2 : ln ≤ 3) (h3 : sz ≤ 60) : aG (s_sh a s lo ln sz w) := by
  obtain ⟨gP, gP2, gN, gH, gSe, gSh, gXY, gB31, gInj, gA, gB, gAz, gBz⟩ := h
  refine ⟨gP, gP2, gN, gH, gSe, fun t ht => ?_, gXY, gB31, gInj, gA, gB, gAz, gBz⟩
  show nu (aLo a) s lo t ≤ 1 ∧ nu (aLn a) s ln t ≤ 3 ∧ nu (aSz a) s sz t ≤ 60
  by_cases e : t = s
  · rw [e]; unfold nu; rw [if_pos rfl, if_pos rfl, if_pos rfl]; exact ⟨h1, h2, h3⟩
  · rw [nu_n e, nu_n e, nu_n e]; exact gSh t ht
theorem aG_pt {a : aS} {x y : Nat} (h : aG a) (h1 : aH a < 20) (h2 : x < aP a) (h3 : y < aP a) (h4 : ∀ k, k < aH a → aX a k ≠ x) : aG (s_pt a x y) := by
  obtain ⟨gP, gP2, gN, gH, gSe, gSh, gXY, gB31, gInj, gA, gB, gAz, gBz⟩ := h
  have hX : ∀ k, k ≠ aH a → nu (aX a) (aH a) x k = aX a k := fun k hk => nu_n hk
  have hY : ∀ k, k ≠ aH a → nu (aY a) (aH a) y k = aY a k := fun k hk => nu_n hk
  have hX0 : nu (aX a) (aH a) x (aH a) = x := if_pos rfl
  have hY0 : nu (aY a) (aH a) y (aH a) = y := if_pos rfl
  refine ⟨gP, gP2, gN, show aH a + 1 ≤ 20 by omega, gSe, gSh, fun k hk => ?_, fun k => ?_, fun i j hi hj he => ?_, gA, gB, gAz, gBz⟩
  · have hk : k < aH a + 1 := hk
    show nu (aX a) (aH a) x k < aP a ∧ nu (aY a) (aH a) y k < aP a
    by_cases e : k = aH a
    · rw [e, hX0, hY0]; exact ⟨h2, h3⟩
    · rw [hX k e, hY k e]; exact gXY k (by omega)
  · show nu (aX a) (aH a) x k < 2147483648 ∧ nu (aY a) (aH a) y k < 2147483648
    by_cases e : k = aH a
    · rw [e, hX0, hY0]; omega
    · rw [hX k e, hY k e]; exact gB31 k
  · have hi : i < aH a + 1 := hi
    have hj : j < aH a + 1 := hj
    have he : nu (aX a) (aH a) x i = nu (aX a) (aH a) x j := he
    by_cases e : i = aH a <;> by_cases e2 : j = aH a
    · omega
    · rw [e, hX0, hX j e2] at he; exact absurd he.symm (h4 j (by omega))
    · rw [e2, hX0, hX i e] at he; exact absurd he (h4 i (by omega))
    · rw [hX i e, hX j e2] at he; exact gInj i j (by omega) (by omega) he
theorem fidx_all {f : Nat → Nat} {x : Nat} : ∀ d i, fidx f x d i < 0 → ∀ k, i ≤ k → k < i + d → f k ≠ x
  | 0, _, _, _, h1, h2 => absurd h1 (by omega)
  | d + 1, i, h, k, h1, h2 => by
    unfold fidx at h
    by_cases e : f i = x
    · rw [if_pos e] at h; omega
    · rw [if_neg e] at h
      by_cases e2 : k = i
      · rw [e2]; exact e
      · exact fidx_all d (i + 1) h k (by omega) (by omega)
theorem aG_kp {a : aS} {n : Nat} {g : Nat → Nat} (h : aG a) (h2 : n ≤ 40) (h3 : ∀ k, g k < aP a) : aG (sp_kp a n g).2 := by
  unfold sp_kp
  split
  · exact h
  · exact aG_se h ‹_› h2 h3
theorem aG_ku {a : aS} {n : Nat} {p q : Nat → Nat} (h : aG a) (h2 : n ≤ 40) : aG (sp_ku a p q n).2 := by
  have hP := h.1.1
  unfold sp_ku
  split
  · exact aG_c h
  · exact aG_kp h h2 (ufk_b (by omega) _)
theorem G_prime {a : aS} (h : aG a) (z : Int) : aG (sp_prime a z).2 := by
  unfold sp_prime
  by_cases h1 : 2 ≤ z ∧ z ≤ 30011 ∧ prk z.toNat 200 2 = true
  · rw [if_neg (Classical.not_not.mpr h1)]
    split
    · exact h
    · exact aG_pr h (by omega) (by omega) (prk_q (by omega) (by omega) h1.2.2) (by omega)
  · rw [if_pos h1]; exact h
theorem G_sheet {a : aS} (h : aG a) (s l n : Int) : aG (sp_sheet a s l n).2 := by
  unfold sp_sheet
  repeat' split
  all_goals first | with_reducible exact h | with_reducible exact aG_c h | exact aG_sh h (by omega) (by omega) (by omega)
theorem G_put {a : aS} (h : aG a) (s l i : Int) (v : Int64) : aG (sp_put a s l i v).2 := by
  unfold sp_put
  repeat' split
  all_goals first | with_reducible exact h | with_reducible exact aG_c h | (obtain ⟨g1, g2, g3⟩ := h.2.2.2.2.2.1 s.toNat (by omega); exact aG_sh h g1 g2 g3)
theorem G_copy {a : aS} (h : aG a) (s i t j n : Int) : aG (sp_copy a s i t j n).2 := by
  unfold sp_copy
  repeat' split
  all_goals first | with_reducible exact h | with_reducible exact aG_c h | (obtain ⟨g1, g2, g3⟩ := h.2.2.2.2.2.1 t.toNat (by omega); exact aG_sh h g1 g2 g3)
theorem G_lose {a : aS} (h : aG a) (s : Int) : aG (sp_lose a s).2 := by
  unfold sp_lose
  repeat' split
  all_goals first | with_reducible exact h | with_reducible exact aG_c h | (obtain ⟨g1, g2, g3⟩ := h.2.2.2.2.2.1 s.toNat (by omega); exact aG_sh h (by omega) g2 g3)
theorem G_series {a : aS} (h : aG a) (s i n : Int) : aG (sp_series a s i n).2 := by
  have hP := h.1.1
  unfold sp_series
  repeat' split
  all_goals first | with_reducible exact h | with_reducible exact aG_c h | exact aG_kp h (by omega) (rdk_b (by omega))
theorem G_share {a : aS} (h : aG a) (s i l m n : Int) : aG (sp_share a s i l m n).2 := by
  unfold sp_share
  repeat' split
  all_goals first | with_reducible exact h | with_reducible exact aG_c h | exact aG_ku h (by omega)
theorem G_unfold {a : aS} (h : aG a) (n : Int) : aG (sp_unfold a n).2 := by
  unfold sp_unfold
  repeat' split
  all_goals first | with_reducible exact h | with_reducible exact aG_c h | exact aG_ku h (by omega)
theorem aG_la {a : aS} {f : Nat} (h : aG a) (hf : f < aN a) : aLa a f ≤ 40 := (h.2.2.2.2.1 f hf).1
theorem G_plus {a : aS} (h : aG a) (f g b : Int) : aG (sp_plus a f g b).2 := by
  have hP := h.1.1
  unfold sp_plus
  split
  · exact h
  · have h1 := aG_la h (show f.toNat < aN a by omega)
    have h2 := mnN_le (aLa a f.toNat) (aLa a g.toNat)
    exact aG_kp h (by omega) (cut_b (by omega) (fun k => Nat.mod_lt _ (by omega)))
theorem G_times {a : aS} (h : aG a) (f g : Int) : aG (sp_times a f g).2 := by
  have hP := h.1.1
  unfold sp_times
  split
  · exact h
  · have h1 := aG_la h (show f.toNat < aN a by omega)
    have h2 := mnN_le (aLa a f.toNat) (aLa a g.toNat)
    exact aG_kp h (by omega) (cut_b (by omega) (fun k => Nat.mod_lt _ (by omega)))
theorem G_under {a : aS} (h : aG a) (f : Int) : aG (sp_under a f).2 := by
  unfold sp_under
  split
  · exact h
  · exact aG_ku h (aG_la h (by omega))
theorem G_moved {a : aS} (h : aG a) (f x k : Int) : aG (sp_moved a f x k).2 := by
  have hP := h.1.1
  unfold sp_moved
  repeat' split
  · exact h
  · exact h
  · refine aG_kp h (aG_la h (by omega)) (fun j => ?_)
    unfold mvk
    split
    · exact Nat.mod_lt _ (by omega)
    · omega
theorem G_number {a : aS} (h : aG a) (f k : Int) : aG (sp_number a f k).2 := by
  unfold sp_number
  repeat' split
  all_goals exact h
theorem G_length {a : aS} (h : aG a) (f : Int) : aG (sp_length a f).2 := by
  unfold sp_length
  repeat' split
  all_goals exact h
theorem G_clear {a : aS} (h : aG a) : aG (sp_clear a).2 := aG_cl h
theorem G_entry {a : aS} (h : aG a) (f l m : Int) : aG (sp_entry a f l m).2 := by
  have hP := h.1.1
  unfold sp_entry
  repeat' split
  · exact h
  · exact h
  · have h1 := aG_la h (show f.toNat < aN a by omega)
    obtain ⟨b1, b2⟩ := ent_b (P := aP a) (l := l.toNat) (m := m.toNat) (c := aC a f.toNat) (by omega)
    obtain ⟨z1, z2⟩ := ent_z (P := aP a) (l := l.toNat) (m := m.toNat) (c := aC a f.toNat) (by omega)
    exact aG_re h b1 b2 z1 z2
theorem G_worth {a : aS} (h : aG a) (f l m : Int) : aG (sp_worth a f l m).2 := by
  unfold sp_worth
  repeat' split
  all_goals exact h
theorem G_block {a : aS} (h : aG a) (f l m w : Int) : aG (sp_block a f l m w).2 := by
  unfold sp_block
  repeat' split
  all_goals first | with_reducible exact h | exact aG_c h
theorem G_stair {a : aS} (h : aG a) (f k : Int) : aG (sp_stair a f k).2 := by
  unfold sp_stair
  repeat' split
  all_goals first | with_reducible exact h | exact aG_c h
theorem G_recur {a : aS} (h : aG a) (f : Int) : aG (sp_recur a f).2 := by
  have hP := h.1.1
  unfold sp_recur
  repeat' split
  · exact h
  · exact aG_re h (pcon_b (by omega)) (pcon_b (by omega)) (fun k hk => if_neg (by omega)) (fun k hk => if_neg (by omega))
  · have h1 := aG_la h (show f.toNat < aN a by omega)
    generalize (bmi (aP a) (aC a f.toNat) (aLa a f.toNat + 1)).1 = B at *
    obtain ⟨b1, b2⟩ := ent_b (P := aP a) (l := B - 1) (m := B) (c := aC a f.toNat) (by omega)
    obtain ⟨z1, z2⟩ := ent_z (P := aP a) (l := B - 1) (m := B) (c := aC a f.toNat) (by omega)
    exact aG_re h b1 b2 z1 z2
  · exact h
theorem G_point {a : aS} (h : aG a) (x y : Int) : aG (sp_point a x y).2 := by
  have hP := h.1.1
  unfold sp_point
  by_cases h1 : 0 ≤ fidx (aX a) (nn_m x (aP a)) (aH a) 0
  · rw [if_pos h1]
    split
    · exact h
    · exact h
  · rw [if_neg h1]
    split
    · exact h
    · exact aG_pt h (by omega) (nn_m_lt (by omega)) (nn_m_lt (by omega)) (fun k hk => fidx_all (aH a) 0 (by omega) k (by omega) (by omega))
theorem G_wipe {a : aS} (h : aG a) : aG (sp_wipe a).2 := aG_wi h
theorem G_join {a : aS} (h : aG a) (l m : Int) : aG (sp_join a l m).2 := by
  have hP := h.1.1
  unfold sp_join
  repeat' split
  · exact h
  · exact h
  · obtain ⟨b1, b2⟩ := fsh_b (P := aP a) (l := l.toNat) (m := (ipk (aX a) (aY a) (aP a) (aH a)).1) (s := (ipk (aX a) (aY a) (aP a) (aH a)).2) (by omega)
    obtain ⟨i1, i2⟩ := ipk_z (px := aX a) (py := aY a) (P := aP a) (aH a)
    obtain ⟨z1, z2⟩ := fsh_z (P := aP a) (l := l.toNat) i1 i2
    exact aG_re h b1 b2 z1 z2
  · exact h
theorem G_degree {a : aS} (h : aG a) (s : Int) : aG (sp_degree a s).2 := by
  unfold sp_degree
  repeat' split
  all_goals exact h
theorem G_term {a : aS} (h : aG a) (s k : Int) : aG (sp_term a s k).2 := by
  unfold sp_term
  repeat' split
  all_goals exact h
theorem G_value {a : aS} (h : aG a) (x : Int) : aG (sp_value a x).2 := by
  unfold sp_value
  repeat' split
  all_goals exact h
theorem G_cause {a : aS} (h : aG a) : aG (sp_cause a).2 := h
theorem G_causes {a : aS} (h : aG a) (c : Int) : aG (sp_causes a c).2 := by
  unfold sp_causes
  repeat' split
  all_goals exact h
theorem G_count {a : aS} (h : aG a) (w : Int) : aG (sp_count a w).2 := by
  unfold sp_count
  repeat' split
  all_goals exact h
/-- the class's calls leave the model as it is, and the other way round -/
theorem MSt.frC {S S' : vs_S} {a : aS} (h : MSt S a) (F : frC S S') : MSt S' a := by
  have e1 : ∀ o, 118 ≤ o → S'.1 o = S.1 o := fun o ho => (F o ho).1
  have e2 : ∀ o, 118 ≤ o → S'.2.1 o = S.2.1 o := fun o ho => (F o ho).2.1
  have e3 : ∀ o, 118 ≤ o → S'.2.2.1 o = S.2.2.1 o := fun o ho => (F o ho).2.2.1
  unfold MSt lR aR at h ⊢
  rw [e1 118 (by omega), e2 119 (by omega), e2 120 (by omega), e2 121 (by omega), e3 122 (by omega), e2 124 (by omega), e2 125 (by omega), e2 132 (by omega), e2 133 (by omega), e2 144 (by omega), e2 145 (by omega)]
  exact h
theorem CSt.frM {S S' : vs_S} {a : aS} (h : CSt S a) (hG : aG a) (F : frM S S') : CSt S' a := by
  have e1 : ∀ o, o < 118 → S'.1 o = S.1 o := fun o ho => (F o ho).1
  have e2 : ∀ o, o < 118 → S'.2.1 o = S.2.1 o := fun o ho => (F o ho).2.1
  have e3 : ∀ o, o < 118 → S'.2.2.1 o = S.2.2.1 o := fun o ho => (F o ho).2.2.1
  have e4 : ∀ o, o < 118 → S'.2.2.2 o = S.2.2.2 o := fun o ho => (F o ho).2.2.2
  have pj : ∀ o g, o + 1 < 118 → pR S o g → pR S' o g := fun o g ho hp => ⟨by rw [e2 _ ho]; exact hp.1, hp.2⟩
  have gN := hG.2.2.1
  obtain ⟨⟨c1, c2, c3⟩, ⟨c4, c5⟩, ⟨c6, c7⟩, c8, c9, c10, ⟨c11, c12⟩, ⟨c13, c14, ρ, T, c15, c16, c17⟩, c18⟩ := h
  refine ⟨⟨by rw [e1 1 (by omega)]; exact c1, by rw [e1 0 (by omega)]; exact c2, by rw [e1 4 (by omega)]; exact c3⟩, ⟨by rw [e2 5 (by omega)]; exact c4, by rw [e2 6 (by omega)]; exact c5⟩, ⟨pj _ _ (by omega) c6, pj _ _ (by omega) c7⟩, fun f hf => ⟨by rw [e1 _ (by omega)]; exact (c8 f hf).1, pj _ _ (by omega) (c8 f hf).2⟩, fun f hf => ?_, fun s hs => ?_, ⟨by rw [e1 0 (by omega)]; exact c11, by rw [e2 79 (by omega)]; exact c12⟩, ⟨by rw [e4 2 (by omega)]; exact c13, by rw [e4 3 (by omega)]; exact c14, ρ, T, by rw [e4 29 (by omega)]; exact c15, c16, fun i hi => absurd hi (by omega)⟩, fun o ho => ?_⟩
  · obtain ⟨g, hg⟩ := c9 f hf
    exact ⟨g, pj _ _ (by omega) hg⟩
  · rw [e1 _ (by omega), e3 _ (by omega)]
    exact c10 s hs
  · obtain ⟨g, hg⟩ := c18 o ho
    refine ⟨g, pj _ _ ?_ hg⟩
    simp at ho
    omega
