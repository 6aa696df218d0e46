/-- what the document speaks of: the prime, how many series and points; of the series the last index; of the sheets lost, lane, size; the points; the result; the series' numbers; the sheets' cells; the causes -/
abbrev aS : Type := Nat × Nat × Nat × (Nat → Nat) × (Nat → Nat) × (Nat → Nat) × (Nat → Nat) × (Nat → Nat) × (Nat → Nat) × (Nat → Nat) × (Nat → Nat) × (Nat → Nat → Nat) × (Nat → Nat → Int64) × (Nat → Int32)
def aP (a : aS) : Nat := a.1
def aN (a : aS) : Nat := a.2.1
def aH (a : aS) : Nat := a.2.2.1
def aLa (a : aS) : Nat → Nat := a.2.2.2.1
def aLo (a : aS) : Nat → Nat := a.2.2.2.2.1
def aLn (a : aS) : Nat → Nat := a.2.2.2.2.2.1
def aSz (a : aS) : Nat → Nat := a.2.2.2.2.2.2.1
def aX (a : aS) : Nat → Nat := a.2.2.2.2.2.2.2.1
def aY (a : aS) : Nat → Nat := a.2.2.2.2.2.2.2.2.1
def aA (a : aS) : Nat → Nat := a.2.2.2.2.2.2.2.2.2.1
def aB (a : aS) : Nat → Nat := a.2.2.2.2.2.2.2.2.2.2.1
def aC (a : aS) : Nat → Nat → Nat := a.2.2.2.2.2.2.2.2.2.2.2.1
def aW (a : aS) : Nat → Nat → Int64 := a.2.2.2.2.2.2.2.2.2.2.2.2.1
def aK (a : aS) : Nat → Int32 := a.2.2.2.2.2.2.2.2.2.2.2.2.2
/-- a cause is told -/
def s_cs (a : aS) (c : Nat) : aS := (aP a, aN a, aH a, aLa a, aLo a, aLn a, aSz a, aX a, aY a, aA a, aB a, aC a, aW a, fun i => if i = 0 then nI c else if i = c then aK a c + 1 else aK a i)
/-- a result -/
def s_re (a : aS) (p q : Nat → Nat) : aS := (aP a, aN a, aH a, aLa a, aLo a, aLn a, aSz a, aX a, aY a, p, q, aC a, aW a, aK a)
/-- another prime, and the result 0 by 1 -/
def s_pr (a : aS) (P : Nat) : aS := (P, aN a, aH a, aLa a, aLo a, aLn a, aSz a, aX a, aY a, pcon 0, pcon 1, aC a, aW a, aK a)
/-- one more series -/
def s_se (a : aS) (n : Nat) (g : Nat → Nat) : aS := (aP a, aN a + 1, aH a, nu (aLa a) (aN a) n, aLo a, aLn a, aSz a, aX a, aY a, aA a, aB a, (fun f => if f = aN a then g else aC a f), aW a, aK a)
def s_cl (a : aS) : aS := (aP a, 0, aH a, aLa a, aLo a, aLn a, aSz a, aX a, aY a, aA a, aB a, aC a, aW a, aK a)
/-- a sheet: lost, lane, size, cells -/
def s_sh (a : aS) (s lo ln sz : Nat) (w : Nat → Int64) : aS := (aP a, aN a, aH a, aLa a, nu (aLo a) s lo, nu (aLn a) s ln, nu (aSz a) s sz, aX a, aY a, aA a, aB a, aC a, (fun t => if t = s then w else aW a t), aK a)
def s_pt (a : aS) (x y : Nat) : aS := (aP a, aN a, aH a + 1, aLa a, aLo a, aLn a, aSz a, nu (aX a) (aH a) x, nu (aY a) (aH a) y, aA a, aB a, aC a, aW a, aK a)
def s_wi (a : aS) : aS := (aP a, aN a, 0, aLa a, aLo a, aLn a, aSz a, aX a, aY a, aA a, aB a, aC a, aW a, aK a)
/-- what always holds of it -/
def aG (a : aS) : Prop := q_pr (aP a) ∧ aP a ≤ 30011 ∧ aN a ≤ 10 ∧ aH a ≤ 20 ∧ (∀ f, f < aN a → aLa a f ≤ 40 ∧ ∀ k, aC a f k < aP a) ∧ (∀ s, s < 4 → aLo a s ≤ 1 ∧ aLn a s ≤ 3 ∧ aSz a s ≤ 60) ∧ (∀ k, k < aH a → aX a k < aP a ∧ aY a k < aP a) ∧ (∀ k, aX a k < 2147483648 ∧ aY a k < 2147483648) ∧ (∀ i j, i < aH a → j < aH a → aX a i = aX a j → i = j) ∧ (∀ k, aA a k < aP a) ∧ (∀ k, aB a k < aP a) ∧ (∀ k, 42 ≤ k → aA a k = 0) ∧ ∀ k, 42 ≤ k → aB a k = 0
def cJ (S : vs_S) : Prop := ∀ o, o ∈ [13, 15, 18, 20, 22, 24, 26, 71, 73, 75, 77] → jk S o
/-- the class's side shows it -/
def CSt (S : vs_S) (a : aS) : Prop := (S.1 1 0 = nI (aP a) ∧ S.1 0 3 = nI (aN a) ∧ S.1 4 2 = nI (aH a)) ∧ (S.2.1 5 = nA (aX a) ∧ S.2.1 6 = nA (aY a)) ∧ (pR S 8 (aA a) ∧ pR S 10 (aB a)) ∧ (∀ f, f < aN a → S.1 (88 + 3 * f) 1 = nI (aLa a f) ∧ pR S (88 + 3 * f + 1) (aC a f)) ∧ (∀ f, f < 10 → jk S (88 + 3 * f + 1)) ∧ (∀ s, s < 4 → S.1 (80 + 2 * s) 1 = nI (aLo a s) ∧ S.1 (80 + 2 * s) 2 = nI (aLn a s) ∧ S.1 (80 + 2 * s) 3 = nI (aSz a s) ∧ ∀ k, k < 60 → S.2.2.1 (80 + 2 * s + 1) k = aW a s k) ∧ (S.1 0 12 = aK a 0 ∧ ∀ c, 1 ≤ c → c ≤ 5 → S.2.1 79 c = aK a c) ∧ ((∀ s, s < 4 → S.2.2.2 2 s = some (80 + 2 * s)) ∧ (∀ f, f < 10 → S.2.2.2 3 f = some (88 + 3 * f)) ∧ ∃ (ρ : Nat → Nat) (T : Nat → Nat → Nat), dR S ρ T 0) ∧ cJ S
/-- the other side's cells are as they were -/
def frC (S S' : vs_S) : Prop := ∀ o, 118 ≤ o → S'.1 o = S.1 o ∧ S'.2.1 o = S.2.1 o ∧ S'.2.2.1 o = S.2.2.1 o ∧ S'.2.2.2 o = S.2.2.2 o
/-- a frame: int arrays, scalars, long arrays that may have changed -/
def vs_fx (S S' : vs_S) (il : List Nat) (sl : List (Nat × Nat)) (ll : List Nat) : Prop := (∀ k, k ∉ il → S'.2.1 k = S.2.1 k) ∧ (∀ o k, (o, k) ∉ sl → S'.1 o k = S.1 o k) ∧ (∀ k, k ∉ ll → S'.2.2.1 k = S.2.2.1 k) ∧ S'.2.2.2 = S.2.2.2
theorem vs_fx.rf {S : vs_S} {il : List Nat} {sl : List (Nat × Nat)} {ll : List Nat} : vs_fx S S il sl ll := ⟨fun _ _ => rfl, fun _ _ _ => rfl, fun _ _ => rfl, rfl⟩
theorem vs_fx.ia {S S' : vs_S} {il : List Nat} {sl : List (Nat × Nat)} {ll : List Nat} {o : Nat} {f : Nat → Int32} (h : vs_fx S S' il sl ll) (ho : o ∈ il) : vs_fx S (vs_ia S' o f) il sl ll := ⟨fun k hk => (vs_ia_ne (fun e => hk (by rw [e]; exact ho))).trans (h.1 k hk), h.2⟩
theorem vs_fx.la {S S' : vs_S} {il : List Nat} {sl : List (Nat × Nat)} {ll : List Nat} {o : Nat} {f : Nat → Int64} (h : vs_fx S S' il sl ll) (ho : o ∈ ll) : vs_fx S (vs_la S' o f) il sl ll := ⟨h.1, h.2.1, fun k hk => (vs_u2_n (fun e => hk (by rw [e]; exact ho))).trans (h.2.2.1 k hk), h.2.2.2⟩
theorem vs_fx.sc {S S' : vs_S} {il : List Nat} {sl : List (Nat × Nat)} {ll : List Nat} {o k : Nat} {v : Int32} (h : vs_fx S S' il sl ll) (ho : (o, k) ∈ sl) : vs_fx S (vs_sc S' o k v) il sl ll := ⟨h.1, fun o2 k2 hk => by
  by_cases e : o2 = o
  · subst e
    rw [vs_sc_nf (fun e2 => hk (by rw [e2]; exact ho))]
    exact h.2.1 _ _ hk
  · rw [vs_sc_ne e]; exact h.2.1 _ _ hk, h.2.2⟩
theorem vs_fx.tr {S S1 S2 : vs_S} {il : List Nat} {sl : List (Nat × Nat)} {ll il2 : List Nat} {sl2 : List (Nat × Nat)} {ll2 : List Nat} (h : vs_fx S S1 il sl ll) (h2 : vs_fx S1 S2 il2 sl2 ll2) (h3 : ∀ x ∈ il2, x ∈ il) (h4 : ∀ x ∈ sl2, x ∈ sl) (h5 : ∀ x ∈ ll2, x ∈ ll) : vs_fx S S2 il sl ll := ⟨fun k hk => (h2.1 k (fun e => hk (h3 k e))).trans (h.1 k hk), fun o k hk => (h2.2.1 o k (fun e => hk (h4 _ e))).trans (h.2.1 o k hk), fun k hk => (h2.2.2.1 k (fun e => hk (h5 k e))).trans (h.2.2.1 k hk), h2.2.2.2.trans h.2.2.2⟩
theorem vs_fr.fx {S S' : vs_S} {l : List Nat} (h : vs_fr S S' l) : vs_fx S S' l [] [] := ⟨h.2.2, fun o k _ => by rw [h.1], fun k _ => by rw [h.2.1], by rw [h.2.1]⟩
theorem vs_fx.p {S S' : vs_S} {il : List Nat} {sl : List (Nat × Nat)} {ll : List Nat} {o : Nat} {g : Nat → Nat} (h : vs_fx S S' il sl ll) (ho : o + 1 ∉ il) (hg : pR S o g) : pR S' o g := ⟨(h.1 _ ho).trans hg.1, hg.2⟩
theorem vs_fx.j {S S' : vs_S} {il : List Nat} {sl : List (Nat × Nat)} {ll : List Nat} {o : Nat} (h : vs_fx S S' il sl ll) (ho : o + 1 ∉ il) (hg : jk S o) : jk S' o := by
  obtain ⟨g, hg⟩ := hg
  exact ⟨g, h.p ho hg⟩
theorem vs_fx.d {S S' : vs_S} {il : List Nat} {sl : List (Nat × Nat)} {ll : List Nat} (h : vs_fx S S' il sl ll) (hd : ∃ (ρ : Nat → Nat) (T : Nat → Nat → Nat), dR S ρ T 0) : ∃ (ρ : Nat → Nat) (T : Nat → Nat → Nat), dR S' ρ T 0 := by
  obtain ⟨ρ, T, h1, h2, h3⟩ := hd
  exact ⟨ρ, T, fun i hi => by rw [h.2.2.2]; exact h1 i hi, h2, fun i hi => absurd hi (by omega)⟩
/-- int arrays that a call may leave in disorder -/
def scr : List Nat := [14, 16, 19, 21, 23, 25, 27, 72, 74, 76, 78]
theorem vs_fx.C {S S' : vs_S} {il : List Nat} {sl : List (Nat × Nat)} {ll : List Nat} (h : vs_fx S S' il sl ll) (h1 : ∀ x ∈ il, x < 118) (h2 : ∀ x ∈ sl, x.1 < 118) (h3 : ∀ x ∈ ll, x < 118) : frC S S' := fun o ho => ⟨funext fun k => h.2.1 o k (fun e => by have := h2 _ e; simp at this; omega), h.1 o (fun e => by have := h1 _ e; omega), h.2.2.1 o (fun e => by have := h3 _ e; omega), by rw [h.2.2.2]⟩
theorem CSt.sr {S S' : vs_S} {a : aS} {il : List Nat} {sl : List (Nat × Nat)} {ll : List Nat} (hC : CSt S a) (h : vs_fx S S' il sl ll)  (hil : ∀ x ∈ il, x ∈ scr ∨ False) (hsl : ∀ x ∈ sl, False) (hll : ∀ x ∈ ll, False) (hj : cJ S') : CSt S' a := by
  obtain ⟨⟨c1, c2, c3⟩, ⟨c4, c5⟩, ⟨c6, c7⟩, c8, c9, c10, ⟨c11, c12⟩, ⟨c13, c14, c15⟩, c16⟩ := hC
  have hn : ∀ x, x ∉ scr → ¬ (False) → x ∉ il := fun x hx h2 e => by rcases hil x e with z | z; exact hx z; exact h2 z
  have sc : ∀ o k, ¬ (False) → S'.1 o k = S.1 o k := fun o k hx => h.2.1 o k (fun e => hx (hsl _ e))
  have la : ∀ x, ¬ (False) → S'.2.2.1 x = S.2.2.1 x := fun x hx => h.2.2.1 x (fun e => hx (hll _ e))
  exact ⟨⟨(sc 1 0 (by simp <;> omega)).trans c1, (sc 0 3 (by simp <;> omega)).trans c2, (sc 4 2 (by simp <;> omega)).trans c3⟩, ⟨(h.1 5 (hn _ (by unfold scr; simp <;> omega) (by first | exact (fun z => z) | omega))).trans c4, (h.1 6 (hn _ (by unfold scr; simp <;> omega) (by first | exact (fun z => z) | omega))).trans c5⟩, ⟨h.p (hn _ (by unfold scr; simp <;> omega) (by first | exact (fun z => z) | omega)) c6, h.p (hn _ (by unfold scr; simp <;> omega) (by first | exact (fun z => z) | omega)) c7⟩, fun f hf => ⟨(sc _ _ (by simp <;> omega)).trans (c8 f hf).1, h.p (hn _ (by unfold scr; simp <;> omega) (by first | exact (fun z => z) | omega)) (c8 f hf).2⟩, fun f hf => h.j (hn _ (by unfold scr; simp <;> omega) (by first | exact (fun z => z) | omega)) (c9 f hf), fun s hs => ⟨(sc _ _ (by simp <;> omega)).trans (c10 s hs).1, (sc _ _ (by simp <;> omega)).trans (c10 s hs).2.1, (sc _ _ (by simp <;> omega)).trans (c10 s hs).2.2.1, fun k hk => by rw [la _ (by first | exact (fun z => z) | omega)]; exact (c10 s hs).2.2.2 k hk⟩, ⟨(sc 0 12 (by simp <;> omega)).trans c11, fun c h1 h2 => by rw [h.1 79 (hn _ (by unfold scr; simp <;> omega) (by first | exact (fun z => z) | omega))]; exact c12 c h1 h2⟩, ⟨by rw [h.2.2.2]; exact c13, by rw [h.2.2.2]; exact c14, h.d c15⟩, hj⟩
theorem CSt.se {S S' : vs_S} {a : aS} {il : List Nat} {sl : List (Nat × Nat)} {ll : List Nat} (hC : CSt S a) (h : vs_fx S S' il sl ll) {n : Nat} {g : Nat → Nat} (hN : aN a < 10) (k1 : S'.1 0 3 = nI (aN a + 1)) (k2 : S'.1 (88 + 3 * aN a) 1 = nI n) (k3 : pR S' (88 + 3 * aN a + 1) g) (hil : ∀ x ∈ il, x ∈ scr ∨ x = 88 + 3 * aN a + 1 + 1) (hsl : ∀ x ∈ sl, x = (0, 3) ∨ x = (88 + 3 * aN a, 1)) (hll : ∀ x ∈ ll, False) (hj : cJ S') : CSt S' (s_se a n g) := by
  obtain ⟨⟨c1, c2, c3⟩, ⟨c4, c5⟩, ⟨c6, c7⟩, c8, c9, c10, ⟨c11, c12⟩, ⟨c13, c14, c15⟩, c16⟩ := hC
  have hn : ∀ x, x ∉ scr → ¬ (x = 88 + 3 * aN a + 1 + 1) → x ∉ il := fun x hx h2 e => by rcases hil x e with z | z; exact hx z; exact h2 z
  have sc : ∀ o k, ¬ ((o, k) = (0, 3) ∨ (o, k) = (88 + 3 * aN a, 1)) → S'.1 o k = S.1 o k := fun o k hx => h.2.1 o k (fun e => hx (hsl _ e))
  have la : ∀ x, ¬ (False) → S'.2.2.1 x = S.2.2.1 x := fun x hx => h.2.2.1 x (fun e => hx (hll _ e))
  exact ⟨⟨(sc 1 0 (by simp <;> omega)).trans c1, k1, (sc 4 2 (by simp <;> omega)).trans c3⟩, ⟨(h.1 5 (hn _ (by unfold scr; simp <;> omega) (by first | exact (fun z => z) | omega))).trans c4, (h.1 6 (hn _ (by unfold scr; simp <;> omega) (by first | exact (fun z => z) | omega))).trans c5⟩, ⟨h.p (hn _ (by unfold scr; simp <;> omega) (by first | exact (fun z => z) | omega)) c6, h.p (hn _ (by unfold scr; simp <;> omega) (by first | exact (fun z => z) | omega)) c7⟩, fun f hf => by
    have hf : f < aN a + 1 := hf
    by_cases e : f = aN a
    · subst e
      exact ⟨by rw [k2]; show _ = nI (nu (aLa a) (aN a) n (aN a)); rw [nu_s], by show pR S' _ (if aN a = aN a then g else aC a (aN a)); rw [if_pos rfl]; exact k3⟩
    · have hf : f < aN a := by omega
      exact ⟨by show _ = nI (nu (aLa a) (aN a) n f); rw [nu_n e]; exact (sc _ _ (by simp <;> omega)).trans (c8 f hf).1, by show pR S' _ (if f = aN a then g else aC a f); rw [if_neg e]; exact h.p (hn _ (by unfold scr; simp <;> omega) (by first | exact (fun z => z) | omega)) (c8 f hf).2⟩, fun f hf => by
    by_cases e : f = aN a
    · subst e; exact ⟨g, k3⟩
    · exact h.j (hn _ (by unfold scr; simp <;> omega) (by first | exact (fun z => z) | omega)) (c9 f hf), fun s hs => ⟨(sc _ _ (by simp <;> omega)).trans (c10 s hs).1, (sc _ _ (by simp <;> omega)).trans (c10 s hs).2.1, (sc _ _ (by simp <;> omega)).trans (c10 s hs).2.2.1, fun k hk => by rw [la _ (by first | exact (fun z => z) | omega)]; exact (c10 s hs).2.2.2 k hk⟩, ⟨(sc 0 12 (by simp <;> omega)).trans c11, fun c h1 h2 => by rw [h.1 79 (hn _ (by unfold scr; simp <;> omega) (by first | exact (fun z => z) | omega))]; exact c12 c h1 h2⟩, ⟨by rw [h.2.2.2]; exact c13, by rw [h.2.2.2]; exact c14, h.d c15⟩, hj⟩
theorem CSt.re {S S' : vs_S} {a : aS} {il : List Nat} {sl : List (Nat × Nat)} {ll : List Nat} (hC : CSt S a) (h : vs_fx S S' il sl ll) {p q : Nat → Nat} (k1 : pR S' 8 p) (k2 : pR S' 10 q) (hil : ∀ x ∈ il, x ∈ scr ∨ (x = 9 ∨ x = 11)) (hsl : ∀ x ∈ sl, False) (hll : ∀ x ∈ ll, False) (hj : cJ S') : CSt S' (s_re a p q) := by
  obtain ⟨⟨c1, c2, c3⟩, ⟨c4, c5⟩, ⟨c6, c7⟩, c8, c9, c10, ⟨c11, c12⟩, ⟨c13, c14, c15⟩, c16⟩ := hC
  have hn : ∀ x, x ∉ scr → ¬ ((x = 9 ∨ x = 11)) → x ∉ il := fun x hx h2 e => by rcases hil x e with z | z; exact hx z; exact h2 z
  have sc : ∀ o k, ¬ (False) → S'.1 o k = S.1 o k := fun o k hx => h.2.1 o k (fun e => hx (hsl _ e))
  have la : ∀ x, ¬ (False) → S'.2.2.1 x = S.2.2.1 x := fun x hx => h.2.2.1 x (fun e => hx (hll _ e))
  exact ⟨⟨(sc 1 0 (by simp <;> omega)).trans c1, (sc 0 3 (by simp <;> omega)).trans c2, (sc 4 2 (by simp <;> omega)).trans c3⟩, ⟨(h.1 5 (hn _ (by unfold scr; simp <;> omega) (by first | exact (fun z => z) | omega))).trans c4, (h.1 6 (hn _ (by unfold scr; simp <;> omega) (by first | exact (fun z => z) | omega))).trans c5⟩, ⟨k1, k2⟩, fun f hf => ⟨(sc _ _ (by simp <;> omega)).trans (c8 f hf).1, h.p (hn _ (by unfold scr; simp <;> omega) (by first | exact (fun z => z) | omega)) (c8 f hf).2⟩, fun f hf => h.j (hn _ (by unfold scr; simp <;> omega) (by first | exact (fun z => z) | omega)) (c9 f hf), fun s hs => ⟨(sc _ _ (by simp <;> omega)).trans (c10 s hs).1, (sc _ _ (by simp <;> omega)).trans (c10 s hs).2.1, (sc _ _ (by simp <;> omega)).trans (c10 s hs).2.2.1, fun k hk => by rw [la _ (by first | exact (fun z => z) | omega)]; exact (c10 s hs).2.2.2 k hk⟩, ⟨(sc 0 12 (by simp <;> omega)).trans c11, fun c h1 h2 => by rw [h.1 79 (hn _ (by unfold scr; simp <;> omega) (by first | exact (fun z => z) | omega))]; exact c12 c h1 h2⟩, ⟨by rw [h.2.2.2]; exact c13, by rw [h.2.2.2]; exact c14, h.d c15⟩, hj⟩
theorem CSt.pr {S S' : vs_S} {a : aS} {il : List Nat} {sl : List (Nat × Nat)} {ll : List Nat} (hC : CSt S a) (h : vs_fx S S' il sl ll) {P : Nat} (k0 : S'.1 1 0 = nI P) (k1 : pR S' 8 (pcon 0)) (k2 : pR S' 10 (pcon 1)) (hil : ∀ x ∈ il, x ∈ scr ∨ (x = 9 ∨ x = 11)) (hsl : ∀ x ∈ sl, x = (1, 0)) (hll : ∀ x ∈ ll, False) (hj : cJ S') : CSt S' (s_pr a P) := by
  obtain ⟨⟨c1, c2, c3⟩, ⟨c4, c5⟩, ⟨c6, c7⟩, c8, c9, c10, ⟨c11, c12⟩, ⟨c13, c14, c15⟩, c16⟩ := hC
  have hn : ∀ x, x ∉ scr → ¬ ((x = 9 ∨ x = 11)) → x ∉ il := fun x hx h2 e => by rcases hil x e with z | z; exact hx z; exact h2 z
  have sc : ∀ o k, ¬ ((o, k) = (1, 0)) → S'.1 o k = S.1 o k := fun o k hx => h.2.1 o k (fun e => hx (hsl _ e))
  have la : ∀ x, ¬ (False) → S'.2.2.1 x = S.2.2.1 x := fun x hx => h.2.2.1 x (fun e => hx (hll _ e))
  exact ⟨⟨k0, (sc 0 3 (by simp <;> omega)).trans c2, (sc 4 2 (by simp <;> omega)).trans c3⟩, ⟨(h.1 5 (hn _ (by unfold scr; simp <;> omega) (by first | exact (fun z => z) | omega))).trans c4, (h.1 6 (hn _ (by unfold scr; simp <;> omega) (by first | exact (fun z => z) | omega))).trans c5⟩, ⟨k1, k2⟩, fun f hf => ⟨(sc _ _ (by simp <;> omega)).trans (c8 f hf).1, h.p (hn _ (by unfold scr; simp <;> omega) (by first | exact (fun z => z) | omega)) (c8 f hf).2⟩, fun f hf => h.j (hn _ (by unfold scr; simp <;> omega) (by first | exact (fun z => z) | omega)) (c9 f hf), fun s hs => ⟨(sc _ _ (by simp <;> omega)).trans (c10 s hs).1, (sc _ _ (by simp <;> omega)).trans (c10 s hs).2.1, (sc _ _ (by simp <;> omega)).trans (c10 s hs).2.2.1, fun k hk => by rw [la _ (by first | exact (fun z => z) | omega)]; exact (c10 s hs).2.2.2 k hk⟩, ⟨(sc 0 12 (by simp <;> omega)).trans c11, fun c h1 h2 => by rw [h.1 79 (hn _ (by unfold scr; simp <;> omega) (by first | exact (fun z => z) | omega))]; exact c12 c h1 h2⟩, ⟨by rw [h.2.2.2]; exact c13, by rw [h.2.2.2]; exact c14, h.d c15⟩, hj⟩
theorem CSt.cs {S S' : vs_S} {a : aS} {il : List Nat} {sl : List (Nat × Nat)} {ll : List Nat} (hC : CSt S a) (h : vs_fx S S' il sl ll) {c0 : Nat} (hc1 : 1 ≤ c0) (k1 : S'.1 0 12 = nI c0) (k2 : S'.2.1 79 = upd (S.2.1 79) c0 (S.2.1 79 c0 + 1)) (hc2 : c0 ≤ 5) (hil : ∀ x ∈ il, x ∈ scr ∨ x = 79) (hsl : ∀ x ∈ sl, x = (0, 12)) (hll : ∀ x ∈ ll, False) (hj : cJ S') : CSt S' (s_cs a c0) := by
  obtain ⟨⟨c1, c2, c3⟩, ⟨c4, c5⟩, ⟨c6, c7⟩, c8, c9, c10, ⟨c11, c12⟩, ⟨c13, c14, c15⟩, c16⟩ := hC
  have hn : ∀ x, x ∉ scr → ¬ (x = 79) → x ∉ il := fun x hx h2 e => by rcases hil x e with z | z; exact hx z; exact h2 z
  have sc : ∀ o k, ¬ ((o, k) = (0, 12)) → S'.1 o k = S.1 o k := fun o k hx => h.2.1 o k (fun e => hx (hsl _ e))
  have la : ∀ x, ¬ (False) → S'.2.2.1 x = S.2.2.1 x := fun x hx => h.2.2.1 x (fun e => hx (hll _ e))
  exact ⟨⟨(sc 1 0 (by simp <;> omega)).trans c1, (sc 0 3 (by simp <;> omega)).trans c2, (sc 4 2 (by simp <;> omega)).trans c3⟩, ⟨(h.1 5 (hn _ (by unfold scr; simp <;> omega) (by first | exact (fun z => z) | omega))).trans c4, (h.1 6 (hn _ (by unfold scr; simp <;> omega) (by first | exact (fun z => z) | omega))).trans c5⟩, ⟨h.p (hn _ (by unfold scr; simp <;> omega) (by first | exact (fun z => z) | omega)) c6, h.p (hn _ (by unfold scr; simp <;> omega) (by first | exact (fun z => z) | omega)) c7⟩, fun f hf => ⟨(sc _ _ (by simp <;> omega)).trans (c8 f hf).1, h.p (hn _ (by unfold scr; simp <;> omega) (by first | exact (fun z => z) | omega)) (c8 f hf).2⟩, fun f hf => h.j (hn _ (by unfold scr; simp <;> omega) (by first | exact (fun z => z) | omega)) (c9 f hf), fun s hs => ⟨(sc _ _ (by simp <;> omega)).trans (c10 s hs).1, (sc _ _ (by simp <;> omega)).trans (c10 s hs).2.1, (sc _ _ (by simp <;> omega)).trans (c10 s hs).2.2.1, fun k hk => by rw [la _ (by first | exact (fun z => z) | omega)]; exact (c10 s hs).2.2.2 k hk⟩, ⟨k1, fun c h1 h2 => by
    rw [k2]
    show upd _ _ _ c = if c = 0 then nI c0 else if c = c0 then aK a c0 + 1 else aK a c
    unfold upd
    rw [if_neg (show ¬ c = 0 by omega)]
    by_cases e : c = c0
    · rw [if_pos e, if_pos e, c12 c0 hc1 hc2]
    · rw [if_neg e, if_neg e, c12 c h1 h2]⟩, ⟨by rw [h.2.2.2]; exact c13, by rw [h.2.2.2]; exact c14, h.d c15⟩, hj⟩
theorem CSt.sh {S S' : vs_S} {a : aS} {il : List Nat} {sl : List (Nat × Nat)} {ll : List Nat} (hC : CSt S a) (h : vs_fx S S' il sl ll) {s0 lo ln sz : Nat} {w : Nat → Int64} (hs0 : s0 < 4) (k1 : S'.1 (80 + 2 * s0) 1 = nI lo) (k2 : S'.1 (80 + 2 * s0) 2 = nI ln) (k3 : S'.1 (80 + 2 * s0) 3 = nI sz) (k4 : ∀ k, k < 60 → S'.2.2.1 (80 + 2 * s0 + 1) k = w k) (hil : ∀ x ∈ il, x ∈ scr ∨ False) (hsl : ∀ x ∈ sl, x = (80 + 2 * s0, 1) ∨ x = (80 + 2 * s0, 2) ∨ x = (80 + 2 * s0, 3)) (hll : ∀ x ∈ ll, x = 80 + 2 * s0 + 1) (hj : cJ S') : CSt S' (s_sh a s0 lo ln sz w) := by
  obtain ⟨⟨c1, c2, c3⟩, ⟨c4, c5⟩, ⟨c6, c7⟩, c8, c9, c10, ⟨c11, c12⟩, ⟨c13, c14, c15⟩, c16⟩ := hC
  have hn : ∀ x, x ∉ scr → ¬ (False) → x ∉ il := fun x hx h2 e => by rcases hil x e with z | z; exact hx z; exact h2 z
  have sc : ∀ o k, ¬ ((o, k) = (80 + 2 * s0, 1) ∨ (o, k) = (80 + 2 * s0, 2) ∨ (o, k) = (80 + 2 * s0, 3)) → S'.1 o k = S.1 o k := fun o k hx => h.2.1 o k (fun e => hx (hsl _ e))
  have la : ∀ x, ¬ (x = 80 + 2 * s0 + 1) → S'.2.2.1 x = S.2.2.1 x := fun x hx => h.2.2.1 x (fun e => hx (hll _ e))
  exact ⟨⟨(sc 1 0 (by simp <;> omega)).trans c1, (sc 0 3 (by simp <;> omega)).trans c2, (sc 4 2 (by simp <;> omega)).trans c3⟩, ⟨(h.1 5 (hn _ (by unfold scr; simp <;> omega) (by first | exact (fun z => z) | omega))).trans c4, (h.1 6 (hn _ (by unfold scr; simp <;> omega) (by first | exact (fun z => z) | omega))).trans c5⟩, ⟨h.p (hn _ (by unfold scr; simp <;> omega) (by first | exact (fun z => z) | omega)) c6, h.p (hn _ (by unfold scr; simp <;> omega) (by first | exact (fun z => z) | omega)) c7⟩, fun f hf => ⟨(sc _ _ (by simp <;> omega)).trans (c8 f hf).1, h.p (hn _ (by unfold scr; simp <;> omega) (by first | exact (fun z => z) | omega)) (c8 f hf).2⟩, fun f hf => h.j (hn _ (by unfold scr; simp <;> omega) (by first | exact (fun z => z) | omega)) (c9 f hf), fun s hs => by
    by_cases e : s = s0
    · subst e
      exact ⟨k1.trans (congrArg nI nu_s.symm), k2.trans (congrArg nI nu_s.symm), k3.trans (congrArg nI nu_s.symm), fun k hk => (k4 k hk).trans (by show _ = (if s = s then w else aW a s) k; rw [if_pos rfl])⟩
    · obtain ⟨d1, d2, d3, d4⟩ := c10 s hs
      exact ⟨((sc _ _ (by simp <;> omega)).trans d1).trans (congrArg nI (nu_n e).symm), ((sc _ _ (by simp <;> omega)).trans d2).trans (congrArg nI (nu_n e).symm), ((sc _ _ (by simp <;> omega)).trans d3).trans (congrArg nI (nu_n e).symm), fun k hk => by show _ = (if s = s0 then w else aW a s) k; rw [if_neg e, la _ (by first | exact (fun z => z) | omega)]; exact d4 k hk⟩, ⟨(sc 0 12 (by simp <;> omega)).trans c11, fun c h1 h2 => by rw [h.1 79 (hn _ (by unfold scr; simp <;> omega) (by first | exact (fun z => z) | omega))]; exact c12 c h1 h2⟩, ⟨by rw [h.2.2.2]; exact c13, by rw [h.2.2.2]; exact c14, h.d c15⟩, hj⟩
theorem CSt.pt {S S' : vs_S} {a : aS} {il : List Nat} {sl : List (Nat × Nat)} {ll : List Nat} (hC : CSt S a) (h : vs_fx S S' il sl ll) {x0 y0 : Nat} (k1 : S'.1 4 2 = nI (aH a + 1)) (k2 : S'.2.1 5 = nA (nu (aX a) (aH a) x0)) (k3 : S'.2.1 6 = nA (nu (aY a) (aH a) y0)) (hil : ∀ x ∈ il, x ∈ scr ∨ (x = 5 ∨ x = 6)) (hsl : ∀ x ∈ sl, x = (4, 2)) (hll : ∀ x ∈ ll, False) (hj : cJ S') : CSt S' (s_pt a x0 y0) := by
  obtain ⟨⟨c1, c2, c3⟩, ⟨c4, c5⟩, ⟨c6, c7⟩, c8, c9, c10, ⟨c11, c12⟩, ⟨c13, c14, c15⟩, c16⟩ := hC
  have hn : ∀ x, x ∉ scr → ¬ ((x = 5 ∨ x = 6)) → x ∉ il := fun x hx h2 e => by rcases hil x e with z | z; exact hx z; exact h2 z
  have sc : ∀ o k, ¬ ((o, k) = (4, 2)) → S'.1 o k = S.1 o k := fun o k hx => h.2.1 o k (fun e => hx (hsl _ e))
  have la : ∀ x, ¬ (False) → S'.2.2.1 x = S.2.2.1 x := fun x hx => h.2.2.1 x (fun e => hx (hll _ e))
  exact ⟨⟨(sc 1 0 (by simp <;> omega)).trans c1, (sc 0 3 (by simp <;> omega)).trans c2, k1⟩, ⟨k2, k3⟩, ⟨h.p (hn _ (by unfold scr; simp <;> omega) (by first | exact (fun z => z) | omega)) c6, h.p (hn _ (by unfold scr; simp <;> omega) (by first | exact (fun z => z) | omega)) c7⟩, fun f hf => ⟨(sc _ _ (by simp <;> omega)).trans (c8 f hf).1, h.p (hn _ (by unfold scr; simp <;> omega) (by first | exact (fun z => z) | omega)) (c8 f hf).2⟩, fun f hf => h.j (hn _ (by unfold scr; simp <;> omega) (by first | exact (fun z => z) | omega)) (c9 f hf), fun s hs => ⟨(sc _ _ (by simp <;> omega)).trans (c10 s hs).1, (sc _ _ (by simp <;> omega)).trans (c10 s hs).2.1, (sc _ _ (by simp <;> omega)).trans (c10 s hs).2.2.1, fun k hk => by rw [la _ (by first | exact (fun z => z) | omega)]; exact (c10 s hs).2.2.2 k hk⟩, ⟨(sc 0 12 (by simp <;> omega)).trans c11, fun c h1 h2 => by rw [h.1 79 (hn _ (by unfold scr; simp <;> omega) (by first | exact (fun z => z) | omega))]; exact c12 c h1 h2⟩, ⟨by rw [h.2.2.2]; exact c13, by rw [h.2.2.2]; exact c14, h.d c15⟩, hj⟩
theorem CSt.cl {S S' : vs_S} {a : aS} {il : List Nat} {sl : List (Nat × Nat)} {ll : List Nat} (hC : CSt S a) (h : vs_fx S S' il sl ll) (k1 : S'.1 0 3 = nI 0) (hil : ∀ x ∈ il, x ∈ scr ∨ False) (hsl : ∀ x ∈ sl, x = (0, 3)) (hll : ∀ x ∈ ll, False) (hj : cJ S') : CSt S' (s_cl a) := by
  obtain ⟨⟨c1, c2, c3⟩, ⟨c4, c5⟩, ⟨c6, c7⟩, c8, c9, c10, ⟨c11, c12⟩, ⟨c13, c14, c15⟩, c16⟩ := hC
  have hn : ∀ x, x ∉ scr → ¬ (False) → x ∉ il := fun x hx h2 e => by rcases hil x e with z | z; exact hx z; exact h2 z
  have sc : ∀ o k, ¬ ((o, k) = (0, 3)) → S'.1 o k = S.1 o k := fun o k hx => h.2.1 o k (fun e => hx (hsl _ e))
  have la : ∀ x, ¬ (False) → S'.2.2.1 x = S.2.2.1 x := fun x hx => h.2.2.1 x (fun e => hx (hll _ e))
  exact ⟨⟨(sc 1 0 (by simp <;> omega)).trans c1, k1, (sc 4 2 (by simp <;> omega)).trans c3⟩, ⟨(h.1 5 (hn _ (by unfold scr; simp <;> omega) (by first | exact (fun z => z) | omega))).trans c4, (h.1 6 (hn _ (by unfold scr; simp <;> omega) (by first | exact (fun z => z) | omega))).trans c5⟩, ⟨h.p (hn _ (by unfold scr; simp <;> omega) (by first | exact (fun z => z) | omega)) c6, h.p (hn _ (by unfold scr; simp <;> omega) (by first | exact (fun z => z) | omega)) c7⟩, fun f hf => absurd (show f < 0 from hf) (by omega), fun f hf => h.j (hn _ (by unfold scr; simp <;> omega) (by first | exact (fun z => z) | omega)) (c9 f hf), fun s hs => ⟨(sc _ _ (by simp <;> omega)).trans (c10 s hs).1, (sc _ _ (by simp <;> omega)).trans (c10 s hs).2.1, (sc _ _ (by simp <;> omega)).trans (c10 s hs).2.2.1, fun k hk => by rw [la _ (by first | exact (fun z => z) | omega)]; exact (c10 s hs).2.2.2 k hk⟩, ⟨(sc 0 12 (by simp <;> omega)).trans c11, fun c h1 h2 => by rw [h.1 79 (hn _ (by unfold scr; simp <;> omega) (by first | exact (fun z => z) | omega))]; exact c12 c h1 h2⟩, ⟨by rw [h.2.2.2]; exact c13, by rw [h.2.2.2]; exact c14, h.d c15⟩, hj⟩
theorem CSt.wi {S S' : vs_S} {a : aS} {il : List Nat} {sl : List (Nat × Nat)} {ll : List Nat} (hC : CSt S a) (h : vs_fx S S' il sl ll) (k1 : S'.1 4 2 = nI 0) (hil : ∀ x ∈ il, x ∈ scr ∨ False) (hsl : ∀ x ∈ sl, x = (4, 2)) (hll : ∀ x ∈ ll, False) (hj : cJ S') : CSt S' (s_wi a) := by
  obtain ⟨⟨c1, c2, c3⟩, ⟨c4, c5⟩, ⟨c6, c7⟩, c8, c9, c10, ⟨c11, c12⟩, ⟨c13, c14, c15⟩, c16⟩ := hC
  have hn : ∀ x, x ∉ scr → ¬ (False) → x ∉ il := fun x hx h2 e => by rcases hil x e with z | z; exact hx z; exact h2 z
  have sc : ∀ o k, ¬ ((o, k) = (4, 2)) → S'.1 o k = S.1 o k := fun o k hx => h.2.1 o k (fun e => hx (hsl _ e))
  have la : ∀ x, ¬ (False) → S'.2.2.1 x = S.2.2.1 x := fun x hx => h.2.2.1 x (fun e => hx (hll _ e))
  exact ⟨⟨(sc 1 0 (by simp <;> omega)).trans c1, (sc 0 3 (by simp <;> omega)).trans c2, k1⟩, ⟨(h.1 5 (hn _ (by unfold scr; simp <;> omega) (by first | exact (fun z => z) | omega))).trans c4, (h.1 6 (hn _ (by unfold scr; simp <;> omega) (by first | exact (fun z => z) | omega))).trans c5⟩, ⟨h.p (hn _ (by unfold scr; simp <;> omega) (by first | exact (fun z => z) | omega)) c6, h.p (hn _ (by unfold scr; simp <;> omega) (by first | exact (fun z => z) | omega)) c7⟩, fun f hf => ⟨(sc _ _ (by simp <;> omega)).trans (c8 f hf).1, h.p (hn _ (by unfold scr; simp <;> omega) (by first | exact (fun z => z) | omega)) (c8 f hf).2⟩, fun f hf => h.j (hn _ (by unfold scr; simp <;> omega) (by first | exact (fun z => z) | omega)) (c9 f hf), fun s hs => ⟨(sc _ _ (by simp <;> omega)).trans (c10 s hs).1, (sc _ _ (by simp <;> omega)).trans (c10 s hs).2.1, (sc _ _ (by simp <;> omega)).trans (c10 s hs).2.2.1, fun k hk => by rw [la _ (by first | exact (fun z => z) | omega)]; exact (c10 s hs).2.2.2 k hk⟩, ⟨(sc 0 12 (by simp <;> omega)).trans c11, fun c h1 h2 => by rw [h.1 79 (hn _ (by unfold scr; simp <;> omega) (by first | exact (fun z => z) | omega))]; exact c12 c h1 h2⟩, ⟨by rw [h.2.2.2]; exact c13, by rw [h.2.2.2]; exact c14, h.d c15⟩, hj⟩
theorem CSt.D {S S' : vs_S} {a : aS} (hC : CSt S a) (h : frD S S') (hd : ∃ (ρ : Nat → Nat) (T : Nat → Nat → Nat), dR S' ρ T 0) : CSt S' a := by
  obtain ⟨⟨c1, c2, c3⟩, ⟨c4, c5⟩, ⟨c6, c7⟩, c8, c9, c10, ⟨c11, c12⟩, ⟨c13, c14, c15⟩, c16⟩ := hC
  have pp : ∀ (o : Nat) (g : Nat → Nat), (o + 1 < 30 ∨ 70 ≤ o + 1) → pR S o g → pR S' o g := fun o g ho hg => ⟨(h.2.2.1 _ ho).trans hg.1, hg.2⟩
  have jj : ∀ (o : Nat), (o + 1 < 30 ∨ 70 ≤ o + 1) → jk S o → jk S' o := fun o ho hg => by obtain ⟨g, hg⟩ := hg; exact ⟨g, pp o g ho hg⟩
  refine ⟨⟨by rw [h.1]; exact c1, by rw [h.1]; exact c2, by rw [h.1]; exact c3⟩, ⟨(h.2.2.1 5 (by omega)).trans c4, (h.2.2.1 6 (by omega)).trans c5⟩, ⟨pp _ _ (by omega) c6, pp _ _ (by omega) c7⟩, fun f hf => ⟨by rw [h.1]; exact (c8 f hf).1, pp _ _ (by omega) (c8 f hf).2⟩, fun f hf => jj _ (by omega) (c9 f hf), fun s hs => by rw [h.1, h.2.1]; exact c10 s hs, ⟨by rw [h.1]; exact c11, fun c h1 h2 => by rw [h.2.2.1 79 (by omega)]; exact c12 c h1 h2⟩, ⟨by rw [h.2.2.2 2 (by omega)]; exact c13, by rw [h.2.2.2 3 (by omega)]; exact c14, hd⟩, fun o ho => ?_⟩
  refine jj o ?_ (c16 o ho)
  simp at ho
  omega
theorem frD.C {S S' : vs_S} (h : frD S S') : frC S S' := fun o ho => ⟨by rw [h.1], h.2.2.1 o (by omega), by rw [h.2.1], h.2.2.2 o (by omega)⟩
theorem frC.tr {S S1 S2 : vs_S} (h : frC S S1) (h2 : frC S1 S2) : frC S S2 := fun o ho => ⟨(h2 o ho).1.trans (h o ho).1, (h2 o ho).2.1.trans (h o ho).2.1, (h2 o ho).2.2.1.trans (h o ho).2.2.1, (h2 o ho).2.2.2.trans (h o ho).2.2.2⟩
theorem frC.rf {S : vs_S} : frC S S := fun _ _ => ⟨rfl, rfl, rfl, rfl⟩
theorem cJ.fx {S S' : vs_S} {il : List Nat} {sl : List (Nat × Nat)} {ll : List Nat} (h : cJ S) (hf : vs_fx S S' il sl ll) (hi : ∀ x ∈ il, x ∉ scr) : cJ S' := fun o ho => hf.j (fun e => hi _ e (by unfold scr; simp at ho ⊢; omega)) (h o ho)
