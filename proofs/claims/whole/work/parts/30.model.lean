/-- the first n places of an int array -/
def aR (S : vs_S) (o n : Nat) (g : Nat → Nat) : Prop := ∀ k, k < n → S.2.1 o k = nI (g k)
theorem aR_ex (S : vs_S) (o n : Nat) : ∃ g, aR S o n g := by
  obtain ⟨g, hg⟩ := nA_ex (S.2.1 o)
  exact ⟨g, fun k _ => by rw [hg]; rfl⟩
theorem aR.put {S : vs_S} {o n j x : Nat} {g : Nat → Nat} (h : aR S o n g) : aR (vs_ia S o (upd (S.2.1 o) j (nI x))) o n (nu g j x) := fun k hk => by
  rw [vs_ia_at]
  unfold upd nu
  by_cases e : k = j
  · rw [if_pos e, if_pos e]
  · rw [if_neg e, if_neg e, h k hk]
theorem aR.push {S : vs_S} {o i : Nat} {h : Nat → Nat} (hh : aR S o i h) : aR (vs_ia S o (upd (S.2.1 o) i (nI (h i)))) o (i + 1) h := fun k hk => by
  rw [vs_ia_at]
  unfold upd
  by_cases e : k = i
  · rw [if_pos e, e]
  · rw [if_neg e]; exact hh k (by omega)
theorem aR.ne {S : vs_S} {o n c : Nat} {g : Nat → Nat} {f : Nat → Int32} (h : aR S o n g) (hc : o ≠ c) : aR (vs_ia S c f) o n g := fun k hk => by
  rw [vs_ia_ne hc]; exact h k hk
theorem aR.fx {S S' : vs_S} {il : List Nat} {sl : List (Nat × Nat)} {ll : List Nat} {o n : Nat} {g : Nat → Nat} (h : aR S o n g) (hf : vs_fx S S' il sl ll) (ho : o ∉ il) : aR S' o n g := fun k hk => by
  rw [hf.1 o ho]; exact h k hk
theorem aR.c {S : vs_S} {o n : Nat} {g g' : Nat → Nat} (h : aR S o n g) (he : ∀ k, k < n → g k = g' k) : aR S o n g' := fun k hk => by rw [h k hk, he k hk]
theorem aR.sub {S : vs_S} {o n m : Nat} {g : Nat → Nat} (h : aR S o n g) (hm : m ≤ n) : aR S o m g := fun k hk => h k (by omega)
/-- long arrays -/
def lR (S : vs_S) (o i n : Nat) (w : Nat → Int64) : Prop := ∀ k, k < n → S.2.2.1 o (i + k) = w k
theorem lR.fx {S S' : vs_S} {il : List Nat} {sl : List (Nat × Nat)} {ll : List Nat} {o i n : Nat} {w : Nat → Int64} (h : lR S o i n w) (hf : vs_fx S S' il sl ll) (ho : o ∉ ll) : lR S' o i n w := fun k hk => by
  rw [hf.2.2.1 o ho]; exact h k hk
/-- a lane as the model holds it -/
def mLn (lo ln : Nat) : Int32 := if lo = 0 then nI ln else -1
/-- the model's side shows it -/
def MSt (S : vs_S) (a : aS) : Prop := (S.1 118 2 = nI (aP a) ∧ S.1 118 7 = nI (aN a) ∧ S.1 118 28 = nI (aH a) ∧ S.1 118 0 = aK a 0) ∧ (∀ c, 1 ≤ c → c ≤ 5 → S.2.1 119 c = aK a c) ∧ (∀ s, s < 4 → S.2.1 120 s = mLn (aLo a s) (aLn a s) ∧ S.2.1 121 s = nI (aSz a s) ∧ lR S 122 (60 * s) 60 (aW a s)) ∧ (∀ f, f < aN a → S.2.1 124 f = nI (aLa a f) ∧ ∀ k, k ≤ aLa a f → S.2.1 125 (41 * f + k) = nI (aC a f k)) ∧ (aR S 132 46 (aA a) ∧ aR S 133 46 (aB a)) ∧ (aR S 144 (aH a) (aX a) ∧ aR S 145 (aH a) (aY a))
/-- the class's cells are as they were -/
def frM (S S' : vs_S) : Prop := ∀ o, o < 118 → S'.1 o = S.1 o ∧ S'.2.1 o = S.2.1 o ∧ S'.2.2.1 o = S.2.2.1 o ∧ S'.2.2.2 o = S.2.2.2 o
theorem frM.rf {S : vs_S} : frM S S := fun _ _ => ⟨rfl, rfl, rfl, rfl⟩
theorem frM.tr {S S1 S2 : vs_S} (h : frM S S1) (h2 : frM S1 S2) : frM S S2 := fun o ho => ⟨(h2 o ho).1.trans (h o ho).1, (h2 o ho).2.1.trans (h o ho).2.1, (h2 o ho).2.2.1.trans (h o ho).2.2.1, (h2 o ho).2.2.2.trans (h o ho).2.2.2⟩
theorem vs_fx.M {S S' : vs_S} {il : List Nat} {sl : List (Nat × Nat)} {ll : List Nat} (h : vs_fx S S' il sl ll) (h1 : ∀ x ∈ il, 118 ≤ x) (h2 : ∀ x ∈ sl, 118 ≤ x.1) (h3 : ∀ x ∈ ll, 118 ≤ x) : frM S S' := fun o ho => ⟨funext fun k => h.2.1 o k (fun e => by have := h2 _ e; simp at this; omega), h.1 o (fun e => by have := h1 _ e; omega), h.2.2.1 o (fun e => by have := h3 _ e; omega), by rw [h.2.2.2]⟩
/-- int arrays of the model that nobody asks for between calls -/
def mcr : List Nat := [126, 127, 128, 129, 130, 131, 134, 135, 136, 137, 138, 139, 140, 141, 142, 143]
theorem mpost {S S' : vs_S} {r : Option Value} {x : Int × aS} {v : Int} {a' : aS} (h : x = (v, a')) (hr : r = some (.int (nZ v))) (hC : MSt S' a') (hf : frM S S') : r = some (.int (nZ x.1)) ∧ MSt S' x.2 ∧ frM S S' := by
  subst h
  exact ⟨hr, hC, hf⟩
theorem MSt.sr {S S' : vs_S} {a : aS} {il : List Nat} {sl : List (Nat × Nat)} {ll : List Nat} (hM : MSt S a) (h : vs_fx S S' il sl ll)  (hil : ∀ x ∈ il, x ∈ mcr ∨ False) (hsl : ∀ x ∈ sl, False) (hll : ∀ x ∈ ll, x = 123 ∨ False) : MSt S' a := by
  obtain ⟨⟨m1, m2, m3, m4⟩, m5, m6, m7, ⟨m8, m9⟩, m10, m11⟩ := hM
  have hn : ∀ x, x ∉ mcr → ¬ (False) → x ∉ il := fun x hx h2 e => by rcases hil x e with z | z; exact hx z; exact h2 z
  have sc : ∀ o k, ¬ (False) → S'.1 o k = S.1 o k := fun o k hx => h.2.1 o k (fun e => hx (hsl _ e))
  have hnl : ∀ x, ¬ (x = 123 ∨ False) → x ∉ ll := fun x hx e => hx (hll _ e)
  exact ⟨⟨(sc 118 2 (by simp <;> omega)).trans m1, (sc 118 7 (by simp <;> omega)).trans m2, (sc 118 28 (by simp <;> omega)).trans m3, (sc 118 0 (by simp <;> omega)).trans m4⟩, fun c h1 h2 => by rw [h.1 119 (hn _ (by unfold mcr; simp <;> omega) (by first | exact (fun z => z) | omega))]; exact m5 c h1 h2, fun s hs => ⟨by rw [h.1 120 (hn _ (by unfold mcr; simp <;> omega) (by first | exact (fun z => z) | omega))]; exact (m6 s hs).1, by rw [h.1 121 (hn _ (by unfold mcr; simp <;> omega) (by first | exact (fun z => z) | omega))]; exact (m6 s hs).2.1, (m6 s hs).2.2.fx h (hnl _ (by simp))⟩, fun f hf => ⟨by rw [h.1 124 (hn _ (by unfold mcr; simp <;> omega) (by first | exact (fun z => z) | omega))]; exact (m7 f hf).1, fun k hk => by rw [h.1 125 (hn _ (by unfold mcr; simp <;> omega) (by first | exact (fun z => z) | omega))]; exact (m7 f hf).2 k hk⟩, ⟨m8.fx h (hn _ (by unfold mcr; simp <;> omega) (by first | exact (fun z => z) | omega)), m9.fx h (hn _ (by unfold mcr; simp <;> omega) (by first | exact (fun z => z) | omega))⟩, m10.fx h (hn _ (by unfold mcr; simp <;> omega) (by first | exact (fun z => z) | omega)), m11.fx h (hn _ (by unfold mcr; simp <;> omega) (by first | exact (fun z => z) | omega))⟩
theorem MSt.re {S S' : vs_S} {a : aS} {il : List Nat} {sl : List (Nat × Nat)} {ll : List Nat} (hM : MSt S a) (h : vs_fx S S' il sl ll) {p q : Nat → Nat} (k1 : aR S' 132 46 p) (k2 : aR S' 133 46 q) (hil : ∀ x ∈ il, x ∈ mcr ∨ (x = 132 ∨ x = 133)) (hsl : ∀ x ∈ sl, False) (hll : ∀ x ∈ ll, x = 123 ∨ False) : MSt S' (s_re a p q) := by
  obtain ⟨⟨m1, m2, m3, m4⟩, m5, m6, m7, ⟨m8, m9⟩, m10, m11⟩ := hM
  have hn : ∀ x, x ∉ mcr → ¬ ((x = 132 ∨ x = 133)) → x ∉ il := fun x hx h2 e => by rcases hil x e with z | z; exact hx z; exact h2 z
  have sc : ∀ o k, ¬ (False) → S'.1 o k = S.1 o k := fun o k hx => h.2.1 o k (fun e => hx (hsl _ e))
  have hnl : ∀ x, ¬ (x = 123 ∨ False) → x ∉ ll := fun x hx e => hx (hll _ e)
  exact ⟨⟨(sc 118 2 (by simp <;> omega)).trans m1, (sc 118 7 (by simp <;> omega)).trans m2, (sc 118 28 (by simp <;> omega)).trans m3, (sc 118 0 (by simp <;> omega)).trans m4⟩, fun c h1 h2 => by rw [h.1 119 (hn _ (by unfold mcr; simp <;> omega) (by first | exact (fun z => z) | omega))]; exact m5 c h1 h2, fun s hs => ⟨by rw [h.1 120 (hn _ (by unfold mcr; simp <;> omega) (by first | exact (fun z => z) | omega))]; exact (m6 s hs).1, by rw [h.1 121 (hn _ (by unfold mcr; simp <;> omega) (by first | exact (fun z => z) | omega))]; exact (m6 s hs).2.1, (m6 s hs).2.2.fx h (hnl _ (by simp))⟩, fun f hf => ⟨by rw [h.1 124 (hn _ (by unfold mcr; simp <;> omega) (by first | exact (fun z => z) | omega))]; exact (m7 f hf).1, fun k hk => by rw [h.1 125 (hn _ (by unfold mcr; simp <;> omega) (by first | exact (fun z => z) | omega))]; exact (m7 f hf).2 k hk⟩, ⟨k1, k2⟩, m10.fx h (hn _ (by unfold mcr; simp <;> omega) (by first | exact (fun z => z) | omega)), m11.fx h (hn _ (by unfold mcr; simp <;> omega) (by first | exact (fun z => z) | omega))⟩
theorem MSt.pr {S S' : vs_S} {a : aS} {il : List Nat} {sl : List (Nat × Nat)} {ll : List Nat} (hM : MSt S a) (h : vs_fx S S' il sl ll) {P : Nat} (k0 : S'.1 118 2 = nI P) (k1 : aR S' 132 46 (pcon 0)) (k2 : aR S' 133 46 (pcon 1)) (hil : ∀ x ∈ il, x ∈ mcr ∨ (x = 132 ∨ x = 133)) (hsl : ∀ x ∈ sl, x = (118, 2)) (hll : ∀ x ∈ ll, x = 123 ∨ False) : MSt S' (s_pr a P) := by
  obtain ⟨⟨m1, m2, m3, m4⟩, m5, m6, m7, ⟨m8, m9⟩, m10, m11⟩ := hM
  have hn : ∀ x, x ∉ mcr → ¬ ((x = 132 ∨ x = 133)) → x ∉ il := fun x hx h2 e => by rcases hil x e with z | z; exact hx z; exact h2 z
  have sc : ∀ o k, ¬ ((o, k) = (118, 2)) → S'.1 o k = S.1 o k := fun o k hx => h.2.1 o k (fun e => hx (hsl _ e))
  have hnl : ∀ x, ¬ (x = 123 ∨ False) → x ∉ ll := fun x hx e => hx (hll _ e)
  exact ⟨⟨k0, (sc 118 7 (by simp <;> omega)).trans m2, (sc 118 28 (by simp <;> omega)).trans m3, (sc 118 0 (by simp <;> omega)).trans m4⟩, fun c h1 h2 => by rw [h.1 119 (hn _ (by unfold mcr; simp <;> omega) (by first | exact (fun z => z) | omega))]; exact m5 c h1 h2, fun s hs => ⟨by rw [h.1 120 (hn _ (by unfold mcr; simp <;> omega) (by first | exact (fun z => z) | omega))]; exact (m6 s hs).1, by rw [h.1 121 (hn _ (by unfold mcr; simp <;> omega) (by first | exact (fun z => z) | omega))]; exact (m6 s hs).2.1, (m6 s hs).2.2.fx h (hnl _ (by simp))⟩, fun f hf => ⟨by rw [h.1 124 (hn _ (by unfold mcr; simp <;> omega) (by first | exact (fun z => z) | omega))]; exact (m7 f hf).1, fun k hk => by rw [h.1 125 (hn _ (by unfold mcr; simp <;> omega) (by first | exact (fun z => z) | omega))]; exact (m7 f hf).2 k hk⟩, ⟨k1, k2⟩, m10.fx h (hn _ (by unfold mcr; simp <;> omega) (by first | exact (fun z => z) | omega)), m11.fx h (hn _ (by unfold mcr; simp <;> omega) (by first | exact (fun z => z) | omega))⟩
theorem MSt.cs {S S' : vs_S} {a : aS} {il : List Nat} {sl : List (Nat × Nat)} {ll : List Nat} (hM : MSt S a) (h : vs_fx S S' il sl ll) {c0 : Nat} (hc1 : 1 ≤ c0) (k1 : S'.1 118 0 = nI c0) (k2 : S'.2.1 119 = upd (S.2.1 119) c0 (S.2.1 119 c0 + 1)) (hc2 : c0 ≤ 5) (hil : ∀ x ∈ il, x ∈ mcr ∨ x = 119) (hsl : ∀ x ∈ sl, x = (118, 0)) (hll : ∀ x ∈ ll, x = 123 ∨ False) : MSt S' (s_cs a c0) := by
  obtain ⟨⟨m1, m2, m3, m4⟩, m5, m6, m7, ⟨m8, m9⟩, m10, m11⟩ := hM
  have hn : ∀ x, x ∉ mcr → ¬ (x = 119) → x ∉ il := fun x hx h2 e => by rcases hil x e with z | z; exact hx z; exact h2 z
  have sc : ∀ o k, ¬ ((o, k) = (118, 0)) → S'.1 o k = S.1 o k := fun o k hx => h.2.1 o k (fun e => hx (hsl _ e))
  have hnl : ∀ x, ¬ (x = 123 ∨ False) → x ∉ ll := fun x hx e => hx (hll _ e)
  exact ⟨⟨(sc 118 2 (by simp <;> omega)).trans m1, (sc 118 7 (by simp <;> omega)).trans m2, (sc 118 28 (by simp <;> omega)).trans m3, k1⟩, fun c h1 h2 => by
    rw [k2]
    show upd _ _ _ c = if c = 0 then nI c0 else if c = c0 then aK a c0 + 1 else aK a c
    unfold upd
    rw [if_neg (show ¬ c = 0 by omega)]
    by_cases e : c = c0
    · rw [if_pos e, if_pos e, m5 c0 hc1 hc2]
    · rw [if_neg e, if_neg e, m5 c h1 h2], fun s hs => ⟨by rw [h.1 120 (hn _ (by unfold mcr; simp <;> omega) (by first | exact (fun z => z) | omega))]; exact (m6 s hs).1, by rw [h.1 121 (hn _ (by unfold mcr; simp <;> omega) (by first | exact (fun z => z) | omega))]; exact (m6 s hs).2.1, (m6 s hs).2.2.fx h (hnl _ (by simp))⟩, fun f hf => ⟨by rw [h.1 124 (hn _ (by unfold mcr; simp <;> omega) (by first | exact (fun z => z) | omega))]; exact (m7 f hf).1, fun k hk => by rw [h.1 125 (hn _ (by unfold mcr; simp <;> omega) (by first | exact (fun z => z) | omega))]; exact (m7 f hf).2 k hk⟩, ⟨m8.fx h (hn _ (by unfold mcr; simp <;> omega) (by first | exact (fun z => z) | omega)), m9.fx h (hn _ (by unfold mcr; simp <;> omega) (by first | exact (fun z => z) | omega))⟩, m10.fx h (hn _ (by unfold mcr; simp <;> omega) (by first | exact (fun z => z) | omega)), m11.fx h (hn _ (by unfold mcr; simp <;> omega) (by first | exact (fun z => z) | omega))⟩
theorem MSt.sh {S S' : vs_S} {a : aS} {il : List Nat} {sl : List (Nat × Nat)} {ll : List Nat} (hM : MSt S a) (h : vs_fx S S' il sl ll) {s0 lo ln sz : Nat} {w : Nat → Int64} (hs0 : s0 < 4) (k1 : S'.2.1 120 = upd (S.2.1 120) s0 (mLn lo ln)) (k2 : S'.2.1 121 s0 = nI sz ∧ ∀ t, t ≠ s0 → S'.2.1 121 t = S.2.1 121 t) (k3 : lR S' 122 (60 * s0) 60 w) (k4 : ∀ t, t < 4 → t ≠ s0 → ∀ k, k < 60 → S'.2.2.1 122 (60 * t + k) = S.2.2.1 122 (60 * t + k)) (hil : ∀ x ∈ il, x ∈ mcr ∨ (x = 120 ∨ x = 121)) (hsl : ∀ x ∈ sl, False) (hll : ∀ x ∈ ll, x = 123 ∨ x = 122) : MSt S' (s_sh a s0 lo ln sz w) := by
  obtain ⟨⟨m1, m2, m3, m4⟩, m5, m6, m7, ⟨m8, m9⟩, m10, m11⟩ := hM
  have hn : ∀ x, x ∉ mcr → ¬ ((x = 120 ∨ x = 121)) → x ∉ il := fun x hx h2 e => by rcases hil x e with z | z; exact hx z; exact h2 z
  have sc : ∀ o k, ¬ (False) → S'.1 o k = S.1 o k := fun o k hx => h.2.1 o k (fun e => hx (hsl _ e))
  have hnl : ∀ x, ¬ (x = 123 ∨ x = 122) → x ∉ ll := fun x hx e => hx (hll _ e)
  exact ⟨⟨(sc 118 2 (by simp <;> omega)).trans m1, (sc 118 7 (by simp <;> omega)).trans m2, (sc 118 28 (by simp <;> omega)).trans m3, (sc 118 0 (by simp <;> omega)).trans m4⟩, fun c h1 h2 => by rw [h.1 119 (hn _ (by unfold mcr; simp <;> omega) (by first | exact (fun z => z) | omega))]; exact m5 c h1 h2, fun s hs => by
    by_cases e : s = s0
    · subst e
      refine ⟨?_, k2.1.trans (congrArg nI nu_s.symm), fun k hk => ?_⟩
      · rw [k1]
        show upd _ _ _ s = mLn (nu (aLo a) s lo s) (nu (aLn a) s ln s)
        rw [nu_s, nu_s]
        exact if_pos rfl
      · show _ = (if s = s then w else aW a s) k
        rw [if_pos rfl]
        exact k3 k hk
    · obtain ⟨d1, d2, d3⟩ := m6 s hs
      refine ⟨?_, ((k2.2 s e).trans d2).trans (congrArg nI (nu_n e).symm), fun k hk => ?_⟩
      · rw [k1]
        show upd _ _ _ s = mLn (nu (aLo a) s0 lo s) (nu (aLn a) s0 ln s)
        rw [nu_n e, nu_n e, ← d1]
        exact if_neg e
      · show _ = (if s = s0 then w else aW a s) k
        rw [if_neg e, k4 s hs e k hk]
        exact d3 k hk, fun f hf => ⟨by rw [h.1 124 (hn _ (by unfold mcr; simp <;> omega) (by first | exact (fun z => z) | omega))]; exact (m7 f hf).1, fun k hk => by rw [h.1 125 (hn _ (by unfold mcr; simp <;> omega) (by first | exact (fun z => z) | omega))]; exact (m7 f hf).2 k hk⟩, ⟨m8.fx h (hn _ (by unfold mcr; simp <;> omega) (by first | exact (fun z => z) | omega)), m9.fx h (hn _ (by unfold mcr; simp <;> omega) (by first | exact (fun z => z) | omega))⟩, m10.fx h (hn _ (by unfold mcr; simp <;> omega) (by first | exact (fun z => z) | omega)), m11.fx h (hn _ (by unfold mcr; simp <;> omega) (by first | exact (fun z => z) | omega))⟩
theorem MSt.pt {S S' : vs_S} {a : aS} {il : List Nat} {sl : List (Nat × Nat)} {ll : List Nat} (hM : MSt S a) (h : vs_fx S S' il sl ll) {x0 y0 : Nat} (k1 : S'.1 118 28 = nI (aH a + 1)) (k2 : aR S' 144 (aH a + 1) (nu (aX a) (aH a) x0)) (k3 : aR S' 145 (aH a + 1) (nu (aY a) (aH a) y0)) (hil : ∀ x ∈ il, x ∈ mcr ∨ (x = 144 ∨ x = 145)) (hsl : ∀ x ∈ sl, x = (118, 28)) (hll : ∀ x ∈ ll, x = 123 ∨ False) : MSt S' (s_pt a x0 y0) := by
  obtain ⟨⟨m1, m2, m3, m4⟩, m5, m6, m7, ⟨m8, m9⟩, m10, m11⟩ := hM
  have hn : ∀ x, x ∉ mcr → ¬ ((x = 144 ∨ x = 145)) → x ∉ il := fun x hx h2 e => by rcases hil x e with z | z; exact hx z; exact h2 z
  have sc : ∀ o k, ¬ ((o, k) = (118, 28)) → S'.1 o k = S.1 o k := fun o k hx => h.2.1 o k (fun e => hx (hsl _ e))
  have hnl : ∀ x, ¬ (x = 123 ∨ False) → x ∉ ll := fun x hx e => hx (hll _ e)
  exact ⟨⟨(sc 118 2 (by simp <;> omega)).trans m1, (sc 118 7 (by simp <;> omega)).trans m2, k1, (sc 118 0 (by simp <;> omega)).trans m4⟩, fun c h1 h2 => by rw [h.1 119 (hn _ (by unfold mcr; simp <;> omega) (by first | exact (fun z => z) | omega))]; exact m5 c h1 h2, fun s hs => ⟨by rw [h.1 120 (hn _ (by unfold mcr; simp <;> omega) (by first | exact (fun z => z) | omega))]; exact (m6 s hs).1, by rw [h.1 121 (hn _ (by unfold mcr; simp <;> omega) (by first | exact (fun z => z) | omega))]; exact (m6 s hs).2.1, (m6 s hs).2.2.fx h (hnl _ (by simp))⟩, fun f hf => ⟨by rw [h.1 124 (hn _ (by unfold mcr; simp <;> omega) (by first | exact (fun z => z) | omega))]; exact (m7 f hf).1, fun k hk => by rw [h.1 125 (hn _ (by unfold mcr; simp <;> omega) (by first | exact (fun z => z) | omega))]; exact (m7 f hf).2 k hk⟩, ⟨m8.fx h (hn _ (by unfold mcr; simp <;> omega) (by first | exact (fun z => z) | omega)), m9.fx h (hn _ (by unfold mcr; simp <;> omega) (by first | exact (fun z => z) | omega))⟩, k2, k3⟩
theorem MSt.cl {S S' : vs_S} {a : aS} {il : List Nat} {sl : List (Nat × Nat)} {ll : List Nat} (hM : MSt S a) (h : vs_fx S S' il sl ll) (k1 : S'.1 118 7 = nI 0) (hil : ∀ x ∈ il, x ∈ mcr ∨ False) (hsl : ∀ x ∈ sl, x = (118, 7)) (hll : ∀ x ∈ ll, x = 123 ∨ False) : MSt S' (s_cl a) := by
  obtain ⟨⟨m1, m2, m3, m4⟩, m5, m6, m7, ⟨m8, m9⟩, m10, m11⟩ := hM
  have hn : ∀ x, x ∉ mcr → ¬ (False) → x ∉ il := fun x hx h2 e => by rcases hil x e with z | z; exact hx z; exact h2 z
  have sc : ∀ o k, ¬ ((o, k) = (118, 7)) → S'.1 o k = S.1 o k := fun o k hx => h.2.1 o k (fun e => hx (hsl _ e))
  have hnl : ∀ x, ¬ (x = 123 ∨ False) → x ∉ ll := fun x hx e => hx (hll _ e)
  exact ⟨⟨(sc 118 2 (by simp <;> omega)).trans m1, k1, (sc 118 28 (by simp <;> omega)).trans m3, (sc 118 0 (by simp <;> omega)).trans m4⟩, fun c h1 h2 => by rw [h.1 119 (hn _ (by unfold mcr; simp <;> omega) (by first | exact (fun z => z) | omega))]; exact m5 c h1 h2, fun s hs => ⟨by rw [h.1 120 (hn _ (by unfold mcr; simp <;> omega) (by first | exact (fun z => z) | omega))]; exact (m6 s hs).1, by rw [h.1 121 (hn _ (by unfold mcr; simp <;> omega) (by first | exact (fun z => z) | omega))]; exact (m6 s hs).2.1, (m6 s hs).2.2.fx h (hnl _ (by simp))⟩, fun f hf => absurd (show f < 0 from hf) (by omega), ⟨m8.fx h (hn _ (by unfold mcr; simp <;> omega) (by first | exact (fun z => z) | omega)), m9.fx h (hn _ (by unfold mcr; simp <;> omega) (by first | exact (fun z => z) | omega))⟩, m10.fx h (hn _ (by unfold mcr; simp <;> omega) (by first | exact (fun z => z) | omega)), m11.fx h (hn _ (by unfold mcr; simp <;> omega) (by first | exact (fun z => z) | omega))⟩
theorem MSt.wi {S S' : vs_S} {a : aS} {il : List Nat} {sl : List (Nat × Nat)} {ll : List Nat} (hM : MSt S a) (h : vs_fx S S' il sl ll) (k1 : S'.1 118 28 = nI 0) (hil : ∀ x ∈ il, x ∈ mcr ∨ False) (hsl : ∀ x ∈ sl, x = (118, 28)) (hll : ∀ x ∈ ll, x = 123 ∨ False) : MSt S' (s_wi a) := by
  obtain ⟨⟨m1, m2, m3, m4⟩, m5, m6, m7, ⟨m8, m9⟩, m10, m11⟩ := hM
  have hn : ∀ x, x ∉ mcr → ¬ (False) → x ∉ il := fun x hx h2 e => by rcases hil x e with z | z; exact hx z; exact h2 z
  have sc : ∀ o k, ¬ ((o, k) = (118, 28)) → S'.1 o k = S.1 o k := fun o k hx => h.2.1 o k (fun e => hx (hsl _ e))
  have hnl : ∀ x, ¬ (x = 123 ∨ False) → x ∉ ll := fun x hx e => hx (hll _ e)
  exact ⟨⟨(sc 118 2 (by simp <;> omega)).trans m1, (sc 118 7 (by simp <;> omega)).trans m2, k1, (sc 118 0 (by simp <;> omega)).trans m4⟩, fun c h1 h2 => by rw [h.1 119 (hn _ (by unfold mcr; simp <;> omega) (by first | exact (fun z => z) | omega))]; exact m5 c h1 h2, fun s hs => ⟨by rw [h.1 120 (hn _ (by unfold mcr; simp <;> omega) (by first | exact (fun z => z) | omega))]; exact (m6 s hs).1, by rw [h.1 121 (hn _ (by unfold mcr; simp <;> omega) (by first | exact (fun z => z) | omega))]; exact (m6 s hs).2.1, (m6 s hs).2.2.fx h (hnl _ (by simp))⟩, fun f hf => ⟨by rw [h.1 124 (hn _ (by unfold mcr; simp <;> omega) (by first | exact (fun z => z) | omega))]; exact (m7 f hf).1, fun k hk => by rw [h.1 125 (hn _ (by unfold mcr; simp <;> omega) (by first | exact (fun z => z) | omega))]; exact (m7 f hf).2 k hk⟩, ⟨m8.fx h (hn _ (by unfold mcr; simp <;> omega) (by first | exact (fun z => z) | omega)), m9.fx h (hn _ (by unfold mcr; simp <;> omega) (by first | exact (fun z => z) | omega))⟩, fun k hk => absurd (show k < 0 from hk) (by omega), fun k hk => absurd (show k < 0 from hk) (by omega)⟩
theorem MSt.se {S S' : vs_S} {a : aS} {il : List Nat} {sl : List (Nat × Nat)} {ll : List Nat} (hM : MSt S a) (h : vs_fx S S' il sl ll) {n : Nat} {g : Nat → Nat} (hN : aN a < 10) (k1 : S'.1 118 7 = nI (aN a + 1)) (k2 : S'.2.1 124 = upd (S.2.1 124) (aN a) (nI n)) (k3 : ∀ k, k ≤ n → S'.2.1 125 (41 * aN a + k) = nI (g k)) (k4 : ∀ j, j < 41 * aN a → S'.2.1 125 j = S.2.1 125 j) (hla : ∀ f, f < aN a → aLa a f ≤ 40) (hil : ∀ x ∈ il, x ∈ mcr ∨ (x = 124 ∨ x = 125)) (hsl : ∀ x ∈ sl, x = (118, 7)) (hll : ∀ x ∈ ll, x = 123 ∨ False) : MSt S' (s_se a n g) := by
  obtain ⟨⟨m1, m2, m3, m4⟩, m5, m6, m7, ⟨m8, m9⟩, m10, m11⟩ := hM
  have hn : ∀ x, x ∉ mcr → ¬ ((x = 124 ∨ x = 125)) → x ∉ il := fun x hx h2 e => by rcases hil x e with z | z; exact hx z; exact h2 z
  have sc : ∀ o k, ¬ ((o, k) = (118, 7)) → S'.1 o k = S.1 o k := fun o k hx => h.2.1 o k (fun e => hx (hsl _ e))
  have hnl : ∀ x, ¬ (x = 123 ∨ False) → x ∉ ll := fun x hx e => hx (hll _ e)
  exact ⟨⟨(sc 118 2 (by simp <;> omega)).trans m1, k1, (sc 118 28 (by simp <;> omega)).trans m3, (sc 118 0 (by simp <;> omega)).trans m4⟩, fun c h1 h2 => by rw [h.1 119 (hn _ (by unfold mcr; simp <;> omega) (by first | exact (fun z => z) | omega))]; exact m5 c h1 h2, fun s hs => ⟨by rw [h.1 120 (hn _ (by unfold mcr; simp <;> omega) (by first | exact (fun z => z) | omega))]; exact (m6 s hs).1, by rw [h.1 121 (hn _ (by unfold mcr; simp <;> omega) (by first | exact (fun z => z) | omega))]; exact (m6 s hs).2.1, (m6 s hs).2.2.fx h (hnl _ (by simp))⟩, fun f hf => by
    have hf : f < aN a + 1 := hf
    by_cases e : f = aN a
    · subst e
      refine ⟨?_, fun k hk => ?_⟩
      · rw [k2]
        show upd _ _ _ (aN a) = nI (nu (aLa a) (aN a) n (aN a))
        rw [nu_s]
        exact if_pos rfl
      · have hk : k ≤ nu (aLa a) (aN a) n (aN a) := hk
        rw [nu_s] at hk
        rw [k3 k hk]
        show nI (g k) = nI ((if aN a = aN a then g else aC a (aN a)) k)
        rw [if_pos rfl]
    · have hf : f < aN a := by omega
      refine ⟨?_, fun k hk => ?_⟩
      · rw [k2]
        show upd _ _ _ f = nI (nu (aLa a) (aN a) n f)
        rw [nu_n e, ← (m7 f hf).1]
        exact if_neg e
      · have hk : k ≤ nu (aLa a) (aN a) n f := hk
        rw [nu_n e] at hk
        have := hla f hf
        rw [k4 _ (by omega), (m7 f hf).2 k hk]
        show _ = nI ((if f = aN a then g else aC a f) k)
        rw [if_neg e], ⟨m8.fx h (hn _ (by unfold mcr; simp <;> omega) (by first | exact (fun z => z) | omega)), m9.fx h (hn _ (by unfold mcr; simp <;> omega) (by first | exact (fun z => z) | omega))⟩, m10.fx h (hn _ (by unfold mcr; simp <;> omega) (by first | exact (fun z => z) | omega)), m11.fx h (hn _ (by unfold mcr; simp <;> omega) (by first | exact (fun z => z) | omega))⟩
theorem c_inZ {G : vv_G} {S : vs_S} {v lo hi : Int64} {z x y : Int} (hv : v.toInt = z) (hl : lo.toInt = x) (hh : hi.toInt = y) : vs_C G yX10_in cX10_in 6 (some .boolean) { frames := 0, locals := 0 } [.long (v), .long (lo), .long (hi)] S (some (.int (if x ≤ z ∧ z ≤ y then 1 else 0))) S := vs_cal c_in (by subst hv hl hh; simp only [fb_le]) rfl
theorem c_restZ {G : vv_G} {S : vs_S} {v : Int64} {z : Int} (hv : v.toInt = z) {P : Nat} (hP : S.1 118 2 = nI P) (hP1 : 2 ≤ P) (hP2 : P ≤ 30011) : vs_C G yX10_rest cX10_rest 5 (some .int) { frames := 0, locals := 0 } [.ref (G.2.2.2 + 118), .long v] S (some (.int (nI (nn_m z P)))) S := vs_cal (c_rest hP (by omega) (by omega)) (by rw [hv]) rfl
theorem c_restN {G : vv_G} {S : vs_S} {v : Int64} {k : Nat} (hv : v.toInt = (k : Int)) {P : Nat} (hP : S.1 118 2 = nI P) (hP1 : 2 ≤ P) (hP2 : P ≤ 30011) : vs_C G yX10_rest cX10_rest 5 (some .int) { frames := 0, locals := 0 } [.ref (G.2.2.2 + 118), .long v] S (some (.int (nI (k % P)))) S := vs_cal (c_rest hP (by omega) (by omega)) (by rw [hv, nn_m_nat]) rfl
theorem c_isSheet {G : vv_G} {S : vs_S} {z : Int} (hz1 : -2147483648 ≤ z) (hz2 : z < 2147483648) : vs_C G yX10_isSheet cX10_isSheet 1 (some .boolean) { frames := 1, locals := 25 } [.int (nZ z)] S (some (.int (if 0 ≤ z ∧ z ≤ 3 then 1 else 0))) S := by
  refine vs_of [(0, .int (nZ z))] (by decide) rfl rfl ?_
  refine vs_iload_n 0 dX10_isSheet_0 rfl rfl 0 rfl ?_
  refine vs_i2l dX10_isSheet_1 rfl ?_
  refine vs_lconst (v := 0) dX10_isSheet_2 rfl rfl ?_
  refine vs_ldc2 lc_X10_124 dX10_isSheet_3 rfl ?_
  refine vs_callS (st := []) (c_inZ (z := z) (x := 0) (y := 3) (by rw [nn_i2l, nZ_i hz1 hz2]) rfl rfl) lk_X10_107 lm_X10_in rfl rfl (Nat.le_of_ble_eq_true rfl) rfl ⟨rfl, rfl⟩ dX10_isSheet_6 rfl ?_
  show vs_V _ _ _ _ _ (.int ((if 0 ≤ z ∧ z ≤ 3 then 1 else 0)) :: _) _
  exact vs_zret dX10_isSheet_9 (nn_01 _) rfl rfl

theorem c_isSeries {G : vv_G} {S : vs_S} {N : Nat} (hN : S.1 118 7 = nI N) (hN2 : N ≤ 10) {z : Int} (hz1 : -2147483648 ≤ z) (hz2 : z < 2147483648) : vs_C G yX10_isSeries cX10_isSeries 2 (some .boolean) { frames := 1, locals := 25 } [.ref (G.2.2.2 + 118), .int (nZ z)] S (some (.int (if 0 ≤ z ∧ z ≤ (N : Int) - 1 then 1 else 0))) S := by
  refine vs_of [(0, .ref (G.2.2.2 + 118)), (1, .int (nZ z))] (by decide) rfl rfl ?_
  refine vs_iload_n 1 dX10_isSeries_0 rfl rfl 1 rfl ?_
  refine vs_i2l dX10_isSeries_1 rfl ?_
  refine vs_lconst (v := 0) dX10_isSeries_2 rfl rfl ?_
  refine vs_aload_n 0 dX10_isSeries_3 rfl rfl 0 rfl ?_
  refine vs_get (v := .int (nI N)) lf_X10_115 rfl (congrArg (fun z => some (Value.int z)) hN) dX10_isSeries_4 rfl ?_
  refine vs_iconst (v := 1) dX10_isSeries_7 rfl rfl ?_
  refine vs_isub dX10_isSeries_8 rfl ?_
  refine vs_topi (fun z1 e_z1 => ?_)
  have f_z1 : z1 = nZ ((N : Int) - 1) := (by rw [e_z1, nI_Z, show (1 : Int32) = nZ 1 from rfl, nZ_sub])
  subst f_z1
  clear e_z1
  refine vs_i2l dX10_isSeries_9 rfl ?_
  refine vs_callS (st := []) (c_inZ (z := z) (x := 0) (y := ((N : Int) - 1)) (by rw [nn_i2l, nZ_i hz1 hz2]) rfl (by rw [nn_i2l, nZ_i (by omega) (by omega)])) lk_X10_107 lm_X10_in rfl rfl (Nat.le_of_ble_eq_true rfl) rfl ⟨rfl, rfl⟩ dX10_isSeries_10 rfl ?_
  show vs_V _ _ _ _ _ (.int ((if 0 ≤ z ∧ z ≤ ((N : Int) - 1) then 1 else 0)) :: _) _
  exact vs_zret dX10_isSeries_13 (nn_01 _) rfl rfl

theorem c_meets {G : vv_G} {S : vs_S} {c : Nat} (h1 : 1 ≤ c) (h5 : c ≤ 5) : vs_C G yX10_meets cX10_meets 2 (some .int) { frames := 0, locals := 0 } [.ref (G.2.2.2 + 118), .int (nI c)] S (some (.int (nZ (-10 - (c : Int))))) (vs_ia (vs_sc S 118 0 (nI c)) 119 (upd (S.2.1 119) c (S.2.1 119 c + 1))) := by
  refine vs_of [(0, .ref (G.2.2.2 + 118)), (1, .int (nI c))] (by decide) rfl rfl ?_
  refine vs_aload_n 0 dX10_meets_0 rfl rfl 0 rfl ?_
  refine vs_iload_n 1 dX10_meets_1 rfl rfl 1 rfl ?_
  refine vs_put lf_X10_96 rfl rfl rfl rfl dX10_meets_2 rfl ?_
  refine vs_aload_n 0 dX10_meets_5 rfl rfl 0 rfl ?_
  refine vs_get (v := .ref (G.2.2.2 + 119)) lf_X10_7 rfl rfl dX10_meets_6 rfl ?_
  refine vs_iload_n 1 dX10_meets_9 rfl rfl 1 rfl ?_
  refine vs_dup2 dX10_meets_10 rfl rfl rfl ?_
  refine vs_iald (k := c) rfl rfl (by omega) rfl dX10_meets_11 rfl ?_
  refine vs_iconst (v := 1) dX10_meets_12 rfl rfl ?_
  refine vs_iadd dX10_meets_13 rfl ?_
  refine vs_iast (k := c) rfl rfl (by omega) rfl dX10_meets_14 rfl ?_
  refine vs_bipush (v := -10) dX10_meets_15 rfl rfl ?_
  refine vs_iload_n 1 dX10_meets_17 rfl rfl 1 rfl ?_
  refine vs_isub dX10_meets_18 rfl ?_
  refine vs_topi (fun z1 e_z1 => ?_)
  have f_z1 : z1 = nZ (-10 - (c : Int)) := (by rw [e_z1, nI_Z, show (-10 : Int32) = nZ (-10) from rfl, nZ_sub])
  subst f_z1
  clear e_z1
  exact vs_iret dX10_meets_19 rfl rfl

theorem k_meets {S : vs_S} {a : aS} {c : Nat} (hM : MSt S a) (h1 : 1 ≤ c) (h5 : c ≤ 5) : MSt (vs_ia (vs_sc S 118 0 (nI c)) 119 (upd (S.2.1 119) c (S.2.1 119 c + 1))) (s_cs a c) ∧ frM S (vs_ia (vs_sc S 118 0 (nI c)) 119 (upd (S.2.1 119) c (S.2.1 119 c + 1))) := by
  have F : vs_fx S (vs_ia (vs_sc S 118 0 (nI c)) 119 (upd (S.2.1 119) c (S.2.1 119 c + 1))) [119] [(118, 0)] [] := vs_fx.ia (vs_fx.sc vs_fx.rf (by simp)) (by simp)
  exact ⟨MSt.cs hM F h1 (vs_sc_at (S := S) (o := 118) (k := 0) (v := nI c)) vs_ia_at h5 (by simp) (by simp) (by simp), F.M (by simp) (by simp) (by simp)⟩
theorem c_mof {G : vv_G} {S : vs_S} {f k v : Nat} (hf : f < 10) (hk : k ≤ 40) (hv : S.2.1 125 (41 * f + k) = nI v) : vs_C G yX10_of cX10_of 3 (some .int) { frames := 0, locals := 0 } [.ref (G.2.2.2 + 118), .int (nI f), .int (nI k)] S (some (.int (nI v))) S := by
  refine vs_of [(0, .ref (G.2.2.2 + 118)), (1, .int (nI f)), (2, .int (nI k))] (by decide) rfl rfl ?_
  refine vs_aload_n 0 dX10_of_0 rfl rfl 0 rfl ?_
  refine vs_get (v := .ref (G.2.2.2 + 125)) lf_X10_29 rfl rfl dX10_of_1 rfl ?_
  refine vs_bipush (v := 41) dX10_of_4 rfl rfl ?_
  refine vs_iload_n 1 dX10_of_6 rfl rfl 1 rfl ?_
  refine vs_imul dX10_of_7 rfl ?_
  refine vs_iload_n 2 dX10_of_8 rfl rfl 2 rfl ?_
  refine vs_iadd dX10_of_9 rfl ?_
  refine vs_iald (k := (41 * f + k)) rfl (by simp only [fa_lit, nI_add, pk_mul]) (by omega) rfl dX10_of_10 rfl ?_
  refine vs_topi (fun z1 e_z1 => ?_)
  have f_z1 : z1 = nI v := (by rw [e_z1]; exact hv)
  subst f_z1
  clear e_z1
  exact vs_iret dX10_of_11 rfl rfl

theorem mnN_y {x y : Nat} (h : y ≤ x) : mnN x y = y := by
  unfold mnN
  by_cases e : y < x
  · rw [if_pos e]
  · rw [if_neg e]; omega
theorem mnN_x {x y : Nat} (h : x ≤ y) : mnN x y = x := if_neg (by omega)
theorem c_lesser {G : vv_G} {S : vs_S} {f g x y : Nat} (hf : f < 10) (hg : g < 10) (hx : S.2.1 124 f = nI x) (hy : S.2.1 124 g = nI y) (hx2 : x ≤ 40) (hy2 : y ≤ 40) : vs_C G yX10_lesser cX10_lesser 3 (some .int) { frames := 0, locals := 0 } [.ref (G.2.2.2 + 118), .int (nI f), .int (nI g)] S (some (.int (nI (mnN x y)))) S := by
  refine vs_of [(0, .ref (G.2.2.2 + 118)), (1, .int (nI f)), (2, .int (nI g))] (by decide) rfl rfl ?_
  refine vs_aload_n 0 dX10_lesser_0 rfl rfl 0 rfl ?_
  refine vs_get (v := .ref (G.2.2.2 + 124)) lf_X10_26 rfl rfl dX10_lesser_1 rfl ?_
  refine vs_iload_n 1 dX10_lesser_4 rfl rfl 1 rfl ?_
  refine vs_iald (k := f) rfl rfl (by omega) rfl dX10_lesser_5 rfl ?_
  refine vs_topi (fun z1 e_z1 => ?_)
  have f_z1 : z1 = nI x := (by rw [e_z1]; exact hx)
  subst f_z1
  clear e_z1
  refine vs_aload_n 0 dX10_lesser_6 rfl rfl 0 rfl ?_
  refine vs_get (v := .ref (G.2.2.2 + 124)) lf_X10_26 rfl rfl dX10_lesser_7 rfl ?_
  refine vs_iload_n 2 dX10_lesser_10 rfl rfl 2 rfl ?_
  refine vs_iald (k := g) rfl rfl (by omega) rfl dX10_lesser_11 rfl ?_
  refine vs_topi (fun z2 e_z2 => ?_)
  have f_z2 : z2 = nI y := (by rw [e_z2]; exact hy)
  subst f_z2
  clear e_z2
  refine vs_icmp_ge 24 dX10_lesser_12 rfl rfl (fun c_12 => ?_) (fun c_12 => ?_)
  · have q_12 : ((x : Nat) : Int) ≥ ((y : Nat) : Int) := (qi_ge (nI_Z _) (nI_Z _) (by omega) (by omega) (by omega) (by omega)).mp c_12
    refine vs_aload_n 0 dX10_lesser_24 rfl rfl 0 rfl ?_
    refine vs_get (v := .ref (G.2.2.2 + 124)) lf_X10_26 rfl rfl dX10_lesser_25 rfl ?_
    refine vs_iload_n 2 dX10_lesser_28 rfl rfl 2 rfl ?_
    refine vs_iald (k := g) rfl rfl (by omega) rfl dX10_lesser_29 rfl ?_
    refine vs_topi (fun z3 e_z3 => ?_)
    have f_z3 : z3 = nI y := (by rw [e_z3]; exact hy)
    subst f_z3
    clear e_z3
    exact vs_iret dX10_lesser_30 (by first | rw [mnN_y (by omega)] | rw [mnN_x (by omega)]) rfl
  · have q_12 : ¬ ((x : Nat) : Int) ≥ ((y : Nat) : Int) := fun hh => c_12 ((qi_ge (nI_Z _) (nI_Z _) (by omega) (by omega) (by omega) (by omega)).mpr hh)
    refine vs_aload_n 0 dX10_lesser_15 rfl rfl 0 rfl ?_
    refine vs_get (v := .ref (G.2.2.2 + 124)) lf_X10_26 rfl rfl dX10_lesser_16 rfl ?_
    refine vs_iload_n 1 dX10_lesser_19 rfl rfl 1 rfl ?_
    refine vs_iald (k := f) rfl rfl (by omega) rfl dX10_lesser_20 rfl ?_
    refine vs_topi (fun z4 e_z4 => ?_)
    have f_z4 : z4 = nI x := (by rw [e_z4]; exact hx)
    subst f_z4
    clear e_z4
    refine vs_goto 30 dX10_lesser_21 rfl ?_
    exact vs_iret dX10_lesser_30 (by first | rw [mnN_y (by omega)] | rw [mnN_x (by omega)]) rfl

theorem nn_and1 {e : Nat} (he : e < 2 ^ 31) : nI e &&& 1 = nI (e % 2) := pk_andN (by omega) 1 rfl
theorem nn_shr1 {e : Nat} (he : e < 2 ^ 31) : nI e >>> ((1 : Int32) &&& 31) = nI (e / 2) := by
  have hs : (((1 : Int32) &&& 31).toBitVec.smod 32).toNat = 1 := by decide
  rw [pk_shrN he _ 1 hs]
theorem l_minv {G : vv_G} {S : vs_S} {a : Nat} {P : Nat} (hP : S.1 118 2 = nI P) (hP1 : 2 ≤ P) (hP2 : P ≤ 30011) {r : Option Value} {Sf : vs_S} (hr : r = some (.int (nI (ipw a P)))) (hS : S = Sf) : ∀ n e w s : Nat, e ≤ n → e ≤ 30011 → w < P → s < P → (w * s ^ e) % P = ipw a P → vs_V G cX10_inverse (vs_M yX10_inverse 5 (some .int) { frames := 1, locals := 22 } G r Sf) 12 [(4, .int (nI e)), (3, .int (nI s)), (2, .int (nI w)), (0, .ref (G.2.2.2 + 118))] [] S := by
  intro n
  induction n with
  | zero =>
    intro e w s he he2 hw hs hinv
    obtain rfl : e = 0 := by omega
    rw [Nat.pow_zero, Nat.mul_one, Nat.mod_eq_of_lt hw] at hinv
    refine vs_iload dX10_inverse_12 rfl 0 rfl ?_
    refine vs_if_le 48 dX10_inverse_14 rfl rfl (fun c_14 => ?_) (fun c_14 => ?_)
    · have q_14 : ((0 : Nat) : Int) ≤ ((0 : Nat) : Int) := (qi_le (nI_Z _) (by first | exact nI_Z _ | (simp only [fa_lit, nI_add, pk_mul, nI_1]; exact nI_Z _)) (by omega) (by omega) (by omega) (by omega)).mp c_14
      refine vs_iload_n 2 dX10_inverse_48 rfl rfl 2 rfl ?_
      exact vs_iret dX10_inverse_49 (by rw [hr, hinv]) hS
    · have q_14 : ¬ ((0 : Nat) : Int) ≤ ((0 : Nat) : Int) := fun hh => c_14 ((qi_le (nI_Z _) (by first | exact nI_Z _ | (simp only [fa_lit, nI_add, pk_mul, nI_1]; exact nI_Z _)) (by omega) (by omega) (by omega) (by omega)).mpr hh)
      omega
  | succ n ih =>
    intro e w s he he2 hw hs hinv
    have hst := pw_step w s e P
    rw [hinv] at hst
    refine vs_iload dX10_inverse_12 rfl 0 rfl ?_
    refine vs_if_le 48 dX10_inverse_14 rfl rfl (fun c_14 => ?_) (fun c_14 => ?_)
    · have q_14 : ((e : Nat) : Int) ≤ ((0 : Nat) : Int) := (qi_le (nI_Z _) (by first | exact nI_Z _ | (simp only [fa_lit, nI_add, pk_mul, nI_1]; exact nI_Z _)) (by omega) (by omega) (by omega) (by omega)).mp c_14
      have e0 : e = 0 := by omega
      subst e0
      rw [Nat.pow_zero, Nat.mul_one, Nat.mod_eq_of_lt hw] at hinv
      refine vs_iload_n 2 dX10_inverse_48 rfl rfl 2 rfl ?_
      exact vs_iret dX10_inverse_49 (by rw [hr, hinv]) hS
    · have q_14 : ¬ ((e : Nat) : Int) ≤ ((0 : Nat) : Int) := fun hh => c_14 ((qi_le (nI_Z _) (by first | exact nI_Z _ | (simp only [fa_lit, nI_add, pk_mul, nI_1]; exact nI_Z _)) (by omega) (by omega) (by omega) (by omega)).mpr hh)
      refine vs_iload dX10_inverse_17 rfl 0 rfl ?_
      refine vs_iconst (v := 1) dX10_inverse_19 rfl rfl ?_
      refine vs_iand dX10_inverse_20 rfl ?_
      refine vs_topi (fun z1 e_z1 => ?_)
      have f_z1 : z1 = nI (e % 2) := (by rw [e_z1]; exact nn_and1 (by omega))
      subst f_z1
      clear e_z1
      refine vs_iconst (v := 1) dX10_inverse_21 rfl rfl ?_
      refine vs_icmp_ne 32 dX10_inverse_22 rfl rfl (fun c_22 => ?_) (fun c_22 => ?_)
      · have q_22 : ¬ (((e % 2) : Nat) : Int) = ((1 : Nat) : Int) := fun hh => c_22 ((qi_eq (nI_Z _) (by first | exact nI_Z _ | (simp only [fa_lit, nI_add, pk_mul, nI_1]; exact nI_Z _)) (by omega) (by omega) (by omega) (by omega)).mpr hh)
        rw [if_neg (show ¬ e % 2 = 1 by omega)] at hst
        refine vs_aload_n 0 dX10_inverse_32 rfl rfl 3 rfl ?_
        refine vs_iload_n 3 dX10_inverse_33 rfl rfl 1 rfl ?_
        refine vs_iload_n 3 dX10_inverse_34 rfl rfl 1 rfl ?_
        refine vs_callV (st := []) (c_product (x := s) (y := s) hP (by omega) (by omega) (by omega) (by omega)) lk_X10_99 lm_X10_product rfl rfl rfl rfl (Nat.le_of_ble_eq_true rfl) rfl ⟨rfl, rfl⟩ dX10_inverse_35 rfl ?_
        show vs_V _ _ _ _ _ (.int (nI (s * s % P)) :: _) _
        refine vs_istore_n 3 [(3, .int (nI (s * s % P))), (4, .int (nI e)), (2, .int (nI w)), (0, .ref (G.2.2.2 + 118))] dX10_inverse_38 rfl rfl rfl rfl ?_
        refine vs_iload dX10_inverse_39 rfl 1 rfl ?_
        refine vs_iconst (v := 1) dX10_inverse_41 rfl rfl ?_
        refine vs_ishr dX10_inverse_42 rfl ?_
        refine vs_topi (fun z2 e_z2 => ?_)
        have f_z2 : z2 = nI (e / 2) := (by rw [e_z2]; exact nn_shr1 (by omega))
        subst f_z2
        clear e_z2
        refine vs_istore [(4, .int (nI (e / 2))), (3, .int (nI (s * s % P))), (2, .int (nI w)), (0, .ref (G.2.2.2 + 118))] dX10_inverse_43 rfl rfl rfl ?_
        refine vs_goto 12 dX10_inverse_45 rfl ?_
        refine vs_pick [0, 1, 2, 3] rfl ?_
        exact ih (e / 2) _ _ (by omega) (by omega) (by first | exact hw | exact Nat.mod_lt _ (by omega)) (Nat.mod_lt _ (by omega)) hst.symm
      · have q_22 : (((e % 2) : Nat) : Int) = ((1 : Nat) : Int) := (qi_eq (nI_Z _) (by first | exact nI_Z _ | (simp only [fa_lit, nI_add, pk_mul, nI_1]; exact nI_Z _)) (by omega) (by omega) (by omega) (by omega)).mp c_22
        rw [if_pos (show e % 2 = 1 by omega)] at hst
        refine vs_aload_n 0 dX10_inverse_25 rfl rfl 3 rfl ?_
        refine vs_iload_n 2 dX10_inverse_26 rfl rfl 2 rfl ?_
        refine vs_iload_n 3 dX10_inverse_27 rfl rfl 1 rfl ?_
        refine vs_callV (st := []) (c_product (x := w) (y := s) hP (by omega) (by omega) (by omega) (by omega)) lk_X10_99 lm_X10_product rfl rfl rfl rfl (Nat.le_of_ble_eq_true rfl) rfl ⟨rfl, rfl⟩ dX10_inverse_28 rfl ?_
        show vs_V _ _ _ _ _ (.int (nI (w * s % P)) :: _) _
        refine vs_istore_n 2 [(2, .int (nI (w * s % P))), (4, .int (nI e)), (3, .int (nI s)), (0, .ref (G.2.2.2 + 118))] dX10_inverse_31 rfl rfl rfl rfl ?_
        refine vs_aload_n 0 dX10_inverse_32 rfl rfl 3 rfl ?_
        refine vs_iload_n 3 dX10_inverse_33 rfl rfl 2 rfl ?_
        refine vs_iload_n 3 dX10_inverse_34 rfl rfl 2 rfl ?_
        refine vs_callV (st := []) (c_product (x := s) (y := s) hP (by omega) (by omega) (by omega) (by omega)) lk_X10_99 lm_X10_product rfl rfl rfl rfl (Nat.le_of_ble_eq_true rfl) rfl ⟨rfl, rfl⟩ dX10_inverse_35 rfl ?_
        show vs_V _ _ _ _ _ (.int (nI (s * s % P)) :: _) _
        refine vs_istore_n 3 [(3, .int (nI (s * s % P))), (2, .int (nI (w * s % P))), (4, .int (nI e)), (0, .ref (G.2.2.2 + 118))] dX10_inverse_38 rfl rfl rfl rfl ?_
        refine vs_iload dX10_inverse_39 rfl 2 rfl ?_
        refine vs_iconst (v := 1) dX10_inverse_41 rfl rfl ?_
        refine vs_ishr dX10_inverse_42 rfl ?_
        refine vs_topi (fun z3 e_z3 => ?_)
        have f_z3 : z3 = nI (e / 2) := (by rw [e_z3]; exact nn_shr1 (by omega))
        subst f_z3
        clear e_z3
        refine vs_istore [(4, .int (nI (e / 2))), (3, .int (nI (s * s % P))), (2, .int (nI (w * s % P))), (0, .ref (G.2.2.2 + 118))] dX10_inverse_43 rfl rfl rfl ?_
        refine vs_goto 12 dX10_inverse_45 rfl ?_
        refine vs_pick [0, 1, 2, 3] rfl ?_
        exact ih (e / 2) _ _ (by omega) (by omega) (by first | exact hw | exact Nat.mod_lt _ (by omega)) (Nat.mod_lt _ (by omega)) hst.symm

theorem c_minverse {G : vv_G} {S : vs_S} {a : Nat} {P : Nat} (hP : S.1 118 2 = nI P) (hP1 : 2 ≤ P) (hP2 : P ≤ 30011) (ha : a < P) : vs_C G yX10_inverse cX10_inverse 5 (some .int) { frames := 1, locals := 22 } [.ref (G.2.2.2 + 118), .int (nI a)] S (some (.int (nI (ipw a P)))) S := by
  refine vs_of [(0, .ref (G.2.2.2 + 118)), (1, .int (nI a))] (by decide) rfl rfl ?_
  refine vs_iconst (v := 1) dX10_inverse_0 rfl rfl ?_
  refine vs_istore_n 2 [(2, .int (1)), (0, .ref (G.2.2.2 + 118)), (1, .int (nI a))] dX10_inverse_1 rfl rfl rfl rfl ?_
  refine vs_iload_n 1 dX10_inverse_2 rfl rfl 2 rfl ?_
  refine vs_istore_n 3 [(3, .int (nI a)), (2, .int (1)), (0, .ref (G.2.2.2 + 118)), (1, .int (nI a))] dX10_inverse_3 rfl rfl rfl rfl ?_
  refine vs_aload_n 0 dX10_inverse_4 rfl rfl 2 rfl ?_
  refine vs_get (v := .int (nI P)) lf_X10_92 rfl (congrArg (fun z => some (Value.int z)) hP) dX10_inverse_5 rfl ?_
  refine vs_iconst (v := 2) dX10_inverse_8 rfl rfl ?_
  refine vs_isub dX10_inverse_9 rfl ?_
  refine vs_topi (fun z1 e_z1 => ?_)
  have f_z1 : z1 = nI (P - 2) := (by rw [e_z1, fa_lit]; exact pk_sub hP1)
  subst f_z1
  clear e_z1
  refine vs_istore [(4, .int (nI (P - 2))), (3, .int (nI a)), (2, .int (1)), (0, .ref (G.2.2.2 + 118)), (1, .int (nI a))] dX10_inverse_10 rfl rfl rfl ?_
  refine vs_pick (L2 := [(4, .int (nI (P - 2))), (3, .int (nI a)), (2, .int (nI 1)), (0, .ref (G.2.2.2 + 118))]) [0, 1, 2, 3] rfl ?_
  exact l_minv hP hP1 hP2 rfl rfl (P - 2) (P - 2) 1 a (Nat.le_refl _) (by omega) (by omega) ha (by rw [Nat.one_mul]; rfl)

theorem l_power {G : vv_G} {S : vs_S} {b n : Nat} {P : Nat} (hP : S.1 118 2 = nI P) (hP1 : 2 ≤ P) (hP2 : P ≤ 30011) (hb : b < P) (hn : n ≤ 100) {r : Option Value} {Sf : vs_S} (hr : r = some (.int (nI (b ^ n % P)))) (hS : S = Sf) : ∀ d i : Nat, i + d = n → vs_V G cX10_power (vs_M yX10_power 5 (some .int) { frames := 1, locals := 22 } G r Sf) 10 [(4, .int (nI i)), (3, .int (nI (b ^ i % P))), (0, .ref (G.2.2.2 + 118)), (1, .int (nI b)), (2, .int (nI n))] [] S := by
  intro d
  induction d with
  | zero =>
    intro i hi
    obtain rfl : i = n := by omega
    refine vs_iload dX10_power_10 rfl 0 rfl ?_
    refine vs_iload_n 2 dX10_power_12 rfl rfl 4 rfl ?_
    refine vs_icmp_ge 29 dX10_power_13 rfl rfl (fun c_13 => ?_) (fun c_13 => ?_)
    · have q_13 : ((i : Nat) : Int) ≥ ((i : Nat) : Int) := (qi_ge (nI_Z _) (nI_Z _) (by omega) (by omega) (by omega) (by omega)).mp c_13
      refine vs_iload_n 3 dX10_power_29 rfl rfl 1 rfl ?_
      exact vs_iret dX10_power_30 hr hS
    · have q_13 : ¬ ((i : Nat) : Int) ≥ ((i : Nat) : Int) := fun hh => c_13 ((qi_ge (nI_Z _) (nI_Z _) (by omega) (by omega) (by omega) (by omega)).mpr hh)
      omega
  | succ d ih =>
    intro i hi
    have h1 := Nat.mod_lt (b ^ i) (show P > 0 by omega)
    refine vs_iload dX10_power_10 rfl 0 rfl ?_
    refine vs_iload_n 2 dX10_power_12 rfl rfl 4 rfl ?_
    refine vs_icmp_ge 29 dX10_power_13 rfl rfl (fun c_13 => ?_) (fun c_13 => ?_)
    · have q_13 : ((i : Nat) : Int) ≥ ((n : Nat) : Int) := (qi_ge (nI_Z _) (nI_Z _) (by omega) (by omega) (by omega) (by omega)).mp c_13
      omega
    · have q_13 : ¬ ((i : Nat) : Int) ≥ ((n : Nat) : Int) := fun hh => c_13 ((qi_ge (nI_Z _) (nI_Z _) (by omega) (by omega) (by omega) (by omega)).mpr hh)
      refine vs_aload_n 0 dX10_power_16 rfl rfl 2 rfl ?_
      refine vs_iload_n 3 dX10_power_17 rfl rfl 1 rfl ?_
      refine vs_iload_n 1 dX10_power_18 rfl rfl 3 rfl ?_
      refine vs_callV (st := []) (c_product (x := b ^ i % P) (y := b) hP (by omega) (by omega) (by omega) (by omega)) lk_X10_99 lm_X10_product rfl rfl rfl rfl (Nat.le_of_ble_eq_true rfl) rfl ⟨rfl, rfl⟩ dX10_power_19 rfl ?_
      rw [show b ^ i % P * b % P = b ^ (i + 1) % P by rw [Nat.mod_mul_mod, Nat.pow_succ]]
      show vs_V _ _ _ _ _ (.int (nI (b ^ (i + 1) % P)) :: _) _
      refine vs_istore_n 3 [(3, .int (nI (b ^ (i + 1) % P))), (4, .int (nI i)), (0, .ref (G.2.2.2 + 118)), (1, .int (nI b)), (2, .int (nI n))] dX10_power_22 rfl rfl rfl rfl ?_
      refine vs_iinc (v := nI (i + 1)) [(4, .int (nI (i + 1))), (3, .int (nI (b ^ (i + 1) % P))), (0, .ref (G.2.2.2 + 118)), (1, .int (nI b)), (2, .int (nI n))] dX10_power_23 rfl 1 rfl (by first | exact nI_1 _ | (simp only [fa_lit, nI_add, pk_mul, nI_1]; rfl)) rfl rfl ?_
      refine vs_goto 10 dX10_power_26 rfl ?_
      refine vs_pick [0, 1, 2, 3, 4] rfl ?_
      exact ih (i + 1) (by omega)

theorem c_power {G : vv_G} {S : vs_S} {b n : Nat} {P : Nat} (hP : S.1 118 2 = nI P) (hP1 : 2 ≤ P) (hP2 : P ≤ 30011) (hb : b < P) (hn : n ≤ 100) : vs_C G yX10_power cX10_power 5 (some .int) { frames := 1, locals := 22 } [.ref (G.2.2.2 + 118), .int (nI b), .int (nI n)] S (some (.int (nI (b ^ n % P)))) S := by
  refine vs_of [(0, .ref (G.2.2.2 + 118)), (1, .int (nI b)), (2, .int (nI n))] (by decide) rfl rfl ?_
  refine vs_iconst (v := 1) dX10_power_0 rfl rfl ?_
  refine vs_aload_n 0 dX10_power_1 rfl rfl 0 rfl ?_
  refine vs_get (v := .int (nI P)) lf_X10_92 rfl (congrArg (fun z => some (Value.int z)) hP) dX10_power_2 rfl ?_
  refine vs_irem dX10_power_5 rfl (fun z => by have := (nI_n0 (show P < 2147483648 by omega)).mp z; omega) ?_
  refine vs_topi (fun z1 e_z1 => ?_)
  have f_z1 : z1 = nI (b ^ 0 % P) := (by rw [e_z1, show (1 : Int32) = nI 1 from rfl, pk_rem (by omega) (by omega) (by omega), Nat.pow_zero])
  subst f_z1
  clear e_z1
  refine vs_istore_n 3 [(3, .int (nI (b ^ 0 % P))), (0, .ref (G.2.2.2 + 118)), (1, .int (nI b)), (2, .int (nI n))] dX10_power_6 rfl rfl rfl rfl ?_
  refine vs_iconst (v := 0) dX10_power_7 rfl rfl ?_
  refine vs_istore [(4, .int (0)), (3, .int (nI (b ^ 0 % P))), (0, .ref (G.2.2.2 + 118)), (1, .int (nI b)), (2, .int (nI n))] dX10_power_8 rfl rfl rfl ?_
  refine vs_pick (L2 := [(4, .int (nI 0)), (3, .int (nI (b ^ 0 % P))), (0, .ref (G.2.2.2 + 118)), (1, .int (nI b)), (2, .int (nI n))]) [0, 1, 2, 3, 4] rfl ?_
  exact l_power hP hP1 hP2 hb hn rfl rfl n 0 (by omega)

theorem l_isPrime {G : vv_G} {S : vs_S} {p : Nat} (hp2 : p ≤ 30011) {r : Option Value} {Sf : vs_S} (hS : S = Sf) : ∀ n d : Nat, d + n = 202 → 2 ≤ d → r = some (.int (if prk p n d = true then 1 else 0)) → vs_V G cX10_isPrime (vs_M yX10_isPrime 3 (some .boolean) { frames := 0, locals := 0 } G r Sf) 13 [(2, .int (nI d)), (1, .int (nI 1)), (0, .int (nI p))] [] S := by
  intro n
  induction n with
  | zero =>
    intro d hd hd2 hr
    obtain rfl : d = 202 := by omega
    refine vs_iload_n 2 dX10_isPrime_13 rfl rfl 0 rfl ?_
    refine vs_iload_n 2 dX10_isPrime_14 rfl rfl 0 rfl ?_
    refine vs_imul dX10_isPrime_15 rfl ?_
    refine vs_topi (fun z1 e_z1 => ?_)
    have f_z1 : z1 = nI 40804 := e_z1
    subst f_z1
    clear e_z1
    refine vs_iload_n 0 dX10_isPrime_16 rfl rfl 2 rfl ?_
    refine vs_icmp_gt 42 dX10_isPrime_17 rfl rfl (fun c_17 => ?_) (fun c_17 => ?_)
    · have q_17 : ((40804 : Nat) : Int) > ((p : Nat) : Int) := (qi_gt (nI_Z _) (nI_Z _) (by omega) (by omega) (by omega) (by omega)).mp c_17
      refine vs_iload_n 1 dX10_isPrime_42 rfl rfl 1 rfl ?_
      exact vs_zret dX10_isPrime_43 (by first | exact Or.inl rfl | exact Or.inr rfl) hr hS
    · have q_17 : ¬ ((40804 : Nat) : Int) > ((p : Nat) : Int) := fun hh => c_17 ((qi_gt (nI_Z _) (nI_Z _) (by omega) (by omega) (by omega) (by omega)).mpr hh)
      omega
  | succ n ih =>
    intro d hd hd2 hr
    obtain ⟨e, he⟩ : ∃ e, e = d * d := ⟨_, rfl⟩
    have hed : e ≤ 202 * 202 := by rw [he]; exact Nat.mul_le_mul (by omega) (by omega)
    have hml := Nat.mod_lt p (show d > 0 by omega)
    have hdd : d * d < (d + 1) * (d + 1) := Nat.mul_lt_mul_of_lt_of_le (by omega) (by omega) (by omega)
    refine vs_iload_n 2 dX10_isPrime_13 rfl rfl 0 rfl ?_
    refine vs_iload_n 2 dX10_isPrime_14 rfl rfl 0 rfl ?_
    refine vs_imul dX10_isPrime_15 rfl ?_
    refine vs_topi (fun z1 e_z1 => ?_)
    have f_z1 : z1 = nI e := (by rw [e_z1, he]; exact pk_mul _ _)
    subst f_z1
    clear e_z1
    refine vs_iload_n 0 dX10_isPrime_16 rfl rfl 2 rfl ?_
    refine vs_icmp_gt 42 dX10_isPrime_17 rfl rfl (fun c_17 => ?_) (fun c_17 => ?_)
    · have q_17 : ((e : Nat) : Int) > ((p : Nat) : Int) := (qi_gt (nI_Z _) (nI_Z _) (by omega) (by omega) (by omega) (by omega)).mp c_17
      rw [show prk p (n + 1) d = true from if_pos (by omega)] at hr
      refine vs_iload_n 1 dX10_isPrime_42 rfl rfl 1 rfl ?_
      exact vs_zret dX10_isPrime_43 (by first | exact Or.inl rfl | exact Or.inr rfl) hr hS
    · have q_17 : ¬ ((e : Nat) : Int) > ((p : Nat) : Int) := fun hh => c_17 ((qi_gt (nI_Z _) (nI_Z _) (by omega) (by omega) (by omega) (by omega)).mpr hh)
      rw [show prk p (n + 1) d = (if p % d = 0 then false else prk p n (d + 1)) from if_neg (by omega)] at hr
      refine vs_iload_n 1 dX10_isPrime_20 rfl rfl 1 rfl ?_
      refine vs_if_eq 42 dX10_isPrime_21 rfl rfl (fun c_21 => ?_) (fun c_21 => ?_)
      · have q_21 : ((1 : Nat) : Int) = ((0 : Nat) : Int) := (qi_eq (nI_Z _) (by first | exact nI_Z _ | (simp only [fa_lit, nI_add, pk_mul, nI_1]; exact nI_Z _)) (by omega) (by omega) (by omega) (by omega)).mp c_21
        omega
      · have q_21 : ¬ ((1 : Nat) : Int) = ((0 : Nat) : Int) := fun hh => c_21 ((qi_eq (nI_Z _) (by first | exact nI_Z _ | (simp only [fa_lit, nI_add, pk_mul, nI_1]; exact nI_Z _)) (by omega) (by omega) (by omega) (by omega)).mpr hh)
        refine vs_iload_n 0 dX10_isPrime_24 rfl rfl 2 rfl ?_
        refine vs_iload_n 2 dX10_isPrime_25 rfl rfl 0 rfl ?_
        refine vs_irem dX10_isPrime_26 rfl (fun z => by have := (nI_n0 (show d < 2147483648 by omega)).mp z; omega) ?_
        refine vs_topi (fun z2 e_z2 => ?_)
        have f_z2 : z2 = nI (p % d) := (by rw [e_z2]; exact pk_rem (by omega) (by omega) (by omega))
        subst f_z2
        clear e_z2
        refine vs_if_eq 34 dX10_isPrime_27 rfl rfl (fun c_27 => ?_) (fun c_27 => ?_)
        · have q_27 : (((p % d) : Nat) : Int) = ((0 : Nat) : Int) := (qi_eq (nI_Z _) (by first | exact nI_Z _ | (simp only [fa_lit, nI_add, pk_mul, nI_1]; exact nI_Z _)) (by omega) (by omega) (by omega) (by omega)).mp c_27
          rw [if_pos (show p % d = 0 by omega)] at hr
          refine vs_iconst (v := 0) dX10_isPrime_34 rfl rfl ?_
          refine vs_istore_n 1 [(1, .int (0)), (2, .int (nI d)), (0, .int (nI p))] dX10_isPrime_35 rfl rfl rfl rfl ?_
          refine vs_iinc (v := nI (d + 1)) [(2, .int (nI (d + 1))), (1, .int (0)), (0, .int (nI p))] dX10_isPrime_36 rfl 1 rfl (by first | exact nI_1 _ | (simp only [fa_lit, nI_add, pk_mul, nI_1]; rfl)) rfl rfl ?_
          refine vs_goto 13 dX10_isPrime_39 rfl ?_
          obtain ⟨e2, he2⟩ : ∃ e2, e2 = (d + 1) * (d + 1) := ⟨_, rfl⟩
          have hed2 : e2 ≤ 203 * 203 := by rw [he2]; exact Nat.mul_le_mul (by omega) (by omega)
          refine vs_iload_n 2 dX10_isPrime_13 rfl rfl 0 rfl ?_
          refine vs_iload_n 2 dX10_isPrime_14 rfl rfl 0 rfl ?_
          refine vs_imul dX10_isPrime_15 rfl ?_
          refine vs_topi (fun z1 e_z1 => ?_)
          have f_z1 : z1 = nI e2 := (by rw [e_z1, he2]; exact pk_mul _ _)
          subst f_z1
          clear e_z1
          refine vs_iload_n 0 dX10_isPrime_16 rfl rfl 2 rfl ?_
          refine vs_icmp_gt 42 dX10_isPrime_17 rfl rfl (fun c_17 => ?_) (fun c_17 => ?_)
          · have q_17 : ((e2 : Nat) : Int) > ((p : Nat) : Int) := (qi_gt (nI_Z _) (nI_Z _) (by omega) (by omega) (by omega) (by omega)).mp c_17
            refine vs_iload_n 1 dX10_isPrime_42 rfl rfl 1 rfl ?_
            exact vs_zret dX10_isPrime_43 (by first | exact Or.inl rfl | exact Or.inr rfl) hr hS
          · have q_17 : ¬ ((e2 : Nat) : Int) > ((p : Nat) : Int) := fun hh => c_17 ((qi_gt (nI_Z _) (nI_Z _) (by omega) (by omega) (by omega) (by omega)).mpr hh)
            refine vs_iload_n 1 dX10_isPrime_20 rfl rfl 1 rfl ?_
            refine vs_if_eq 42 dX10_isPrime_21 rfl rfl (fun c_21 => ?_) (fun c_21 => ?_)
            · have q_21 : ((0 : Nat) : Int) = ((0 : Nat) : Int) := (qi_eq (by first | exact nI_Z _ | (simp only [fa_lit, nI_add, pk_mul, nI_1]; exact nI_Z _)) (by first | exact nI_Z _ | (simp only [fa_lit, nI_add, pk_mul, nI_1]; exact nI_Z _)) (by omega) (by omega) (by omega) (by omega)).mp c_21
              refine vs_iload_n 1 dX10_isPrime_42 rfl rfl 1 rfl ?_
              exact vs_zret dX10_isPrime_43 (by first | exact Or.inl rfl | exact Or.inr rfl) hr hS
            · have q_21 : ¬ ((0 : Nat) : Int) = ((0 : Nat) : Int) := fun hh => c_21 ((qi_eq (by first | exact nI_Z _ | (simp only [fa_lit, nI_add, pk_mul, nI_1]; exact nI_Z _)) (by first | exact nI_Z _ | (simp only [fa_lit, nI_add, pk_mul, nI_1]; exact nI_Z _)) (by omega) (by omega) (by omega) (by omega)).mpr hh)
              omega
        · have q_27 : ¬ (((p % d) : Nat) : Int) = ((0 : Nat) : Int) := fun hh => c_27 ((qi_eq (nI_Z _) (by first | exact nI_Z _ | (simp only [fa_lit, nI_add, pk_mul, nI_1]; exact nI_Z _)) (by omega) (by omega) (by omega) (by omega)).mpr hh)
          rw [if_neg (show ¬ p % d = 0 by omega)] at hr
          refine vs_iconst (v := 1) dX10_isPrime_30 rfl rfl ?_
          refine vs_goto 35 dX10_isPrime_31 rfl ?_
          refine vs_istore_n 1 [(1, .int (1)), (2, .int (nI d)), (0, .int (nI p))] dX10_isPrime_35 rfl rfl rfl rfl ?_
          refine vs_iinc (v := nI (d + 1)) [(2, .int (nI (d + 1))), (1, .int (1)), (0, .int (nI p))] dX10_isPrime_36 rfl 1 rfl (by first | exact nI_1 _ | (simp only [fa_lit, nI_add, pk_mul, nI_1]; rfl)) rfl rfl ?_
          refine vs_goto 13 dX10_isPrime_39 rfl ?_
          refine vs_pick [0, 1, 2] rfl ?_
          exact ih (d + 1) (by omega) (by omega) hr

theorem c_isPrime {G : vv_G} {S : vs_S} {p : Nat} (h2 : 2 ≤ p) (hp2 : p ≤ 30011) : vs_C G yX10_isPrime cX10_isPrime 3 (some .boolean) { frames := 0, locals := 0 } [.int (nI p)] S (some (.int (if prk p 200 2 = true then 1 else 0))) S := by
  refine vs_of [(0, .int (nI p))] (by decide) rfl rfl ?_
  refine vs_iload_n 0 dX10_isPrime_0 rfl rfl 0 rfl ?_
  refine vs_iconst (v := 1) dX10_isPrime_1 rfl rfl ?_
  refine vs_icmp_le 9 dX10_isPrime_2 rfl rfl (fun c_2 => ?_) (fun c_2 => ?_)
  · have q_2 : ((p : Nat) : Int) ≤ ((1 : Nat) : Int) := (qi_le (nI_Z _) (by first | exact nI_Z _ | (simp only [fa_lit, nI_add, pk_mul, nI_1]; exact nI_Z _)) (by omega) (by omega) (by omega) (by omega)).mp c_2
    omega
  · have q_2 : ¬ ((p : Nat) : Int) ≤ ((1 : Nat) : Int) := fun hh => c_2 ((qi_le (nI_Z _) (by first | exact nI_Z _ | (simp only [fa_lit, nI_add, pk_mul, nI_1]; exact nI_Z _)) (by omega) (by omega) (by omega) (by omega)).mpr hh)
    refine vs_iconst (v := 1) dX10_isPrime_5 rfl rfl ?_
    refine vs_goto 10 dX10_isPrime_6 rfl ?_
    refine vs_istore_n 1 [(1, .int (1)), (0, .int (nI p))] dX10_isPrime_10 rfl rfl rfl rfl ?_
    refine vs_iconst (v := 2) dX10_isPrime_11 rfl rfl ?_
    refine vs_istore_n 2 [(2, .int (2)), (1, .int (1)), (0, .int (nI p))] dX10_isPrime_12 rfl rfl rfl rfl ?_
    refine vs_pick (L2 := [(2, .int (nI 2)), (1, .int (nI 1)), (0, .int (nI p))]) [0, 1, 2] rfl ?_
    exact l_isPrime hp2 rfl 200 2 rfl (by omega) rfl

