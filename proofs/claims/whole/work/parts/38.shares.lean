/-- sequences of numbers as sequences of ints -/
def q_n (g : Nat → Nat) : qP := fun k => (g k : Int)
def q_x (s : Nat) : qP := fun n => if n = s then 1 else 0
theorem q_x_cm (f : qP) : ∀ s n, q_cm (q_x s) f n = if n < s then 0 else f (n - s)
  | 0, n => by
    have : q_x 0 = q_1 := rfl
    rw [this, q_1_l, if_neg (by omega)]
    rfl
  | s + 1, 0 => by
    show (if 0 = s + 1 then (1 : Int) else 0) * f 0 = _
    rw [if_neg (by omega), if_pos (by omega), Int.zero_mul]
  | s + 1, n + 1 => by
    rw [q_cm_s, show q_sh (q_x (s + 1)) = q_x s from funext fun k => by
      show (if k + 1 = s + 1 then (1 : Int) else 0) = if k = s then 1 else 0
      by_cases h : k = s
      · rw [if_pos h, if_pos (by omega)]
      · rw [if_neg h, if_neg (by omega)], q_x_cm f s n]
    show (if 0 = s + 1 then (1 : Int) else 0) * f (n + 1) + _ = _
    rw [if_neg (by omega), Int.zero_mul, Int.zero_add]
    by_cases h : n < s
    · rw [if_pos h, if_pos (by omega)]
    · rw [if_neg h, if_neg (by omega), show n + 1 - (s + 1) = n - s by omega]
theorem q_md (x P : Nat) : (P : Int) ∣ ((x % P : Nat) : Int) - x := by
  rw [Int.natCast_emod]
  exact Int.dvd_sub_self_of_emod_eq rfl
theorem q_mz (v : Int) {P : Nat} (h : 0 < P) : (P : Int) ∣ ((nn_m v P : Nat) : Int) - v := by
  rw [nn_m_int h]
  exact Int.dvd_sub_self_of_emod_eq rfl
theorem q_lt_e {P : Nat} {f g : Nat → Nat} (h : q_e P (q_n f) (q_n g)) (hf : ∀ k, f k < P) (hg : ∀ k, g k < P) : f = g := by
  funext k
  have h1 := h k
  have h2 := hf k
  have h3 := hg k
  obtain ⟨c, hc⟩ := h1
  have h4 : ((f k : Nat) : Int) - g k = (P : Int) * c := hc
  have : c = 0 := by
    rcases Int.lt_trichotomy c 0 with h | h | h
    · have : (P : Int) * c ≤ (P : Int) * (-1) := Int.mul_le_mul_of_nonneg_left (by omega) (by omega)
      omega
    · exact h
    · have : (P : Int) * 1 ≤ (P : Int) * c := Int.mul_le_mul_of_nonneg_left (by omega) (by omega)
      omega
  subst this
  omega
theorem q_dvd0 {P x : Nat} (h : x < P) (hd : (P : Int) ∣ (x : Int)) : x = 0 := by
  rcases Nat.eq_zero_or_pos x with h1 | h1
  · exact h1
  · have := Int.le_of_dvd (by omega) hd
    omega
/-- adding a multiple -/
theorem q_am {g g2 : Nat → Nat} {c sh P N : Nat} (h : ∀ k, N ≤ k + sh → (P : Int) ∣ (g2 k : Int)) : q_e P (q_n (amk g g2 c sh P N)) (q_ad (q_n g) (q_cm (q_sc c (q_x sh)) (q_n g2))) := fun k => by
  rw [q_sc_l]
  show (P : Int) ∣ ((amk g g2 c sh P N k : Nat) : Int) - ((g k : Int) + c * q_cm (q_x sh) (q_n g2) k)
  rw [q_x_cm]
  unfold amk
  by_cases h1 : sh ≤ k ∧ k < N
  · rw [if_pos h1, if_neg (by omega)]
    have := q_md (g k + c * g2 (k - sh)) P
    rwa [Int.natCast_add, Int.natCast_mul] at this
  · rw [if_neg h1]
    by_cases h2 : k < sh
    · rw [if_pos h2, Int.mul_zero, Int.add_zero, Int.sub_self]; exact Int.dvd_zero _
    · rw [if_neg h2, show ∀ x y : Int, x - (x + y) = -y by omega]
      exact Int.dvd_neg.mpr (Int.dvd_mul_of_dvd_right (h (k - sh) (by omega)))
/-- the leading terms -/
theorem tp_0 {g : Nat → Nat} : ∀ n, tp g n = 0 → ∀ k, k < n → g k = 0
  | 0, _, k, hk => absurd hk (by omega)
  | n + 1, h, k, hk => by
    unfold tp at h
    by_cases e : g n = 0
    · rw [if_pos e] at h
      by_cases e2 : k = n
      · rw [e2]; exact e
      · exact tp_0 n h k (by omega)
    · rw [if_neg e] at h; omega
theorem tp_1 {g : Nat → Nat} : ∀ n, 0 < tp g n → g (tp g n - 1) ≠ 0 ∧ ∀ k, tp g n ≤ k → k < n → g k = 0
  | 0, h => absurd h (by show ¬ 0 < 0; omega)
  | n + 1, h => by
    unfold tp at h ⊢
    by_cases e : g n = 0
    · rw [if_pos e] at h ⊢
      obtain ⟨h1, h2⟩ := tp_1 n h
      refine ⟨h1, fun k hk hk2 => ?_⟩
      by_cases e2 : k = n
      · rw [e2]; exact e
      · exact h2 k hk (by omega)
    · rw [if_neg e]
      exact ⟨by rw [show n + 1 - 1 = n by omega]; exact e, fun k hk hk2 => absurd hk (by omega)⟩
/-- g is a polynomial of residues below x^N -/
def q_pl (P N : Nat) (g : Nat → Nat) : Prop := (∀ k, g k < P) ∧ ∀ k, N ≤ k → g k = 0
theorem q_pl.d {P N : Nat} {g : Nat → Nat} (h : q_pl P N g) : q_d P (q_n g) (tp g N) := fun k hk => by
  show (P : Int) ∣ ((g k : Nat) : Int)
  have : g k = 0 := by
    by_cases e : N ≤ k
    · exact h.2 k e
    · by_cases e2 : tp g N = 0
      · exact tp_0 N e2 k (by omega)
      · exact (tp_1 N (by omega)).2 k hk (by omega)
  rw [this]
  exact Int.dvd_zero _
theorem q_pl.top {P N : Nat} {g : Nat → Nat} (h : q_pl P N g) (h0 : 0 < tp g N) : q_top P (q_n g) (tp g N - 1) := by
  refine ⟨?_, fun hd => (tp_1 N h0).1 (q_dvd0 (h.1 _) hd)⟩
  have := h.d
  rwa [show tp g N - 1 + 1 = tp g N by omega]
theorem q_pl.z {P N : Nat} {g : Nat → Nat} (h : q_pl P N g) (h0 : tp g N = 0) : q_e P (q_n g) q_0 := by
  have := h.d
  rw [h0] at this
  exact q_d0.mp this
/-- long division below x^N: quotient and remainder -/
def dvn (N : Nat) (gd : Nat → Nat) (low inv P : Nat) : Nat → (Nat → Nat) × (Nat → Nat) → (Nat → Nat) × (Nat → Nat)
  | 0, x => x
  | d + 1, x => dvn N gd low inv P d (nu x.1 d (x.2 (low + d) * inv % P), amk x.2 gd (nn_m (-((x.2 (low + d) * inv % P : Nat) : Int)) P) d P N)
theorem dvk_n {gd : Nat → Nat} {low inv P : Nat} : ∀ d x, dvk gd low inv P d x = dvn 42 gd low inv P d x
  | 0, _ => rfl
  | d + 1, x => dvk_n d _
theorem q_nu {P : Nat} {q : Nat → Nat} {d v : Nat} (h : q d = 0) : q_e P (q_n (nu q d v)) (q_ad (q_n q) (q_sc v (q_x d))) := fun k => by
  show (P : Int) ∣ ((nu q d v k : Nat) : Int) - ((q k : Int) + v * (if k = d then 1 else 0))
  unfold nu
  by_cases e : k = d
  · rw [if_pos e, if_pos e, e, h, Int.mul_one]
    have : ((v : Nat) : Int) - (((0 : Nat) : Int) + v) = 0 := by omega
    rw [this]; exact Int.dvd_zero _
  · rw [if_neg e, if_neg e, Int.mul_zero, Int.add_zero, Int.sub_self]; exact Int.dvd_zero _
theorem q_sc_e {P : Nat} {a b : Int} (h : (P : Int) ∣ a - b) (f : qP) : q_e P (q_sc a f) (q_sc b f) := fun k => by
  show (P : Int) ∣ a * f k - b * f k
  rw [← Int.sub_mul]
  exact Int.dvd_mul_of_dvd_left h
theorem dvn_s {N : Nat} {gd : Nat → Nat} {low inv P : Nat} (h0 : 0 < P) (hinv : (P : Int) ∣ (inv : Int) * gd low - 1) (hgd : ∀ k, low < k → gd k = 0) : ∀ (d : Nat) (q r : Nat → Nat), low + d ≤ N → (∀ k, k < d → q k = 0) → q_d P (q_n r) (low + d) → q_e P (q_ad (q_cm (q_n (dvn N gd low inv P d (q, r)).1) (q_n gd)) (q_n (dvn N gd low inv P d (q, r)).2)) (q_ad (q_cm (q_n q) (q_n gd)) (q_n r)) ∧ q_d P (q_n (dvn N gd low inv P d (q, r)).2) low ∧ ∀ D, d ≤ D → q_d P (q_n q) D → q_d P (q_n (dvn N gd low inv P d (q, r)).1) D
  | 0, q, r, _, _, hr => ⟨q_e.rf, hr, fun D _ h => h⟩
  | d + 1, q, r, hN, hq, hr => by
    have hv : ∃ v, v = r (low + d) * inv % P := ⟨_, rfl⟩
    obtain ⟨v, hv⟩ := hv
    have hc : ∃ c, c = nn_m (-(v : Int)) P := ⟨_, rfl⟩
    obtain ⟨c, hc⟩ := hc
    have e1 : dvn N gd low inv P (d + 1) (q, r) = dvn N gd low inv P d (nu q d v, amk r gd c d P N) := by rw [hc, hv]; rfl
    rw [e1]
    have hcv : (P : Int) ∣ (c : Int) - -(v : Int) := by rw [hc]; exact q_mz _ h0
    have ea : q_e P (q_n (amk r gd c d P N)) (q_ad (q_n r) (q_cm (q_sc (-(v : Int)) (q_x d)) (q_n gd))) := (q_am (fun k hk => by rw [hgd k (by omega)]; exact Int.dvd_zero _)).tr (q_e.rf.ad ((q_sc_e hcv _).l _))
    have eb := q_nu (P := P) (v := v) (hq d (by omega))
    have hvr : (P : Int) ∣ (v : Int) - (r (low + d) : Int) * inv := by
      have := q_md (r (low + d) * inv) P
      rw [← hv, Int.natCast_mul] at this
      exact this
    have hd1 : q_d P (q_n (amk r gd c d P N)) (low + d) := by
      refine q_d.e ?_ ea.sy
      intro k hk
      show (P : Int) ∣ (r k : Int) + q_cm (q_sc (-(v : Int)) (q_x d)) (q_n gd) k
      rw [q_sc_l]
      show (P : Int) ∣ (r k : Int) + (-(v : Int)) * q_cm (q_x d) (q_n gd) k
      rw [q_x_cm, if_neg (by omega)]
      show (P : Int) ∣ (r k : Int) + (-(v : Int)) * (gd (k - d) : Int)
      by_cases e : k = low + d
      · subst e
        rw [show low + d - d = low by omega]
        have h1 : (P : Int) ∣ ((v : Int) - (r (low + d) : Int) * inv) * gd low := Int.dvd_mul_of_dvd_left hvr
        have h2 : (P : Int) ∣ (r (low + d) : Int) * ((inv : Int) * gd low - 1) := Int.dvd_mul_of_dvd_right hinv
        have h3 := Int.dvd_neg.mpr (Int.dvd_add h1 h2)
        rw [Int.sub_mul, Int.mul_sub, Int.mul_one, Int.mul_assoc] at h3
        rw [Int.neg_mul]
        rwa [show -((v : Int) * gd low - (r (low + d) : Int) * ((inv : Int) * gd low) + ((r (low + d) : Int) * ((inv : Int) * gd low) - (r (low + d) : Int))) = (r (low + d) : Int) + -((v : Int) * gd low) by omega] at h3
      · rw [hgd (k - d) (by omega)]
        show (P : Int) ∣ (r k : Int) + (-(v : Int)) * 0
        rw [Int.mul_zero, Int.add_zero]
        exact hr k (by omega)
    obtain ⟨i1, i2, i3⟩ := dvn_s (N := N) (inv := inv) h0 hinv hgd d (nu q d v) (amk r gd c d P N) (by omega) (fun k hk => by rw [nu_n (by omega)]; exact hq k (by omega)) hd1
    refine ⟨i1.tr ?_, i2, fun D hD hqD => i3 D (by omega) (fun k hk => ?_)⟩
    · refine ((eb.l (q_n gd)).ad ea).tr ?_
      rw [q_add_l]
      intro k
      show (P : Int) ∣ (q_cm (q_n q) (q_n gd) k + q_cm (q_sc (v : Int) (q_x d)) (q_n gd) k) + ((r k : Int) + q_cm (q_sc (-(v : Int)) (q_x d)) (q_n gd) k) - (q_cm (q_n q) (q_n gd) k + (r k : Int))
      rw [q_sc_l, q_sc_l]
      show (P : Int) ∣ (q_cm (q_n q) (q_n gd) k + (v : Int) * q_cm (q_x d) (q_n gd) k) + ((r k : Int) + (-(v : Int)) * q_cm (q_x d) (q_n gd) k) - (q_cm (q_n q) (q_n gd) k + (r k : Int))
      rw [Int.neg_mul]
      have : ∀ A B R : Int, (A + B) + (R + -B) - (A + R) = 0 := by omega
      rw [this]
      exact Int.dvd_zero _
    · show (P : Int) ∣ ((nu q d v k : Nat) : Int)
      rw [nu_n (by omega)]
      exact hqD k hk
theorem dvn_b {N : Nat} {gd : Nat → Nat} {low inv P : Nat} (h0 : 0 < P) : ∀ (d : Nat) (x : (Nat → Nat) × (Nat → Nat)), low + d ≤ N → q_pl P N x.1 → q_pl P N x.2 → q_pl P N (dvn N gd low inv P d x).1 ∧ q_pl P N (dvn N gd low inv P d x).2
  | 0, x, _, h1, h2 => ⟨h1, h2⟩
  | d + 1, x, hN, h1, h2 => by
    unfold dvn
    refine dvn_b h0 d _ (by omega) ⟨fun k => ?_, fun k hk => ?_⟩ ⟨amk_b h0 h2.1, fun k hk => ?_⟩
    · show nu _ _ _ k < P
      unfold nu
      by_cases h : k = d
      · rw [if_pos h]; exact Nat.mod_lt _ h0
      · rw [if_neg h]; exact h1.1 k
    · show nu _ _ _ k = 0
      rw [nu_n (by omega)]
      exact h1.2 k hk
    · show amk _ _ _ _ _ _ k = 0
      unfold amk
      rw [if_neg (by omega)]
      exact h2.2 k hk
/-- division of residues' polynomials -/
def dvp (N : Nat) (g gd : Nat → Nat) (P : Nat) : (Nat → Nat) × (Nat → Nat) := dvn N gd (tp gd N - 1) (ipw (gd (tp gd N - 1)) P) P (tp g N - (tp gd N - 1)) (fun _ => 0, g)
theorem q_ipw {P x : Nat} (hp : q_pr P) (h : x < P) (h0 : x ≠ 0) : (P : Int) ∣ (ipw x P : Int) * x - 1 := by
  have h1 := q_inv hp (a := x) (by rw [Nat.mod_eq_of_lt h]; exact h0)
  have h2 := q_md (ipw x P * x) P
  unfold ipw at h2
  rw [h1, Int.natCast_mul] at h2
  have := Int.dvd_neg.mpr h2
  rwa [Int.neg_sub] at this
theorem dvp_s {P N : Nat} (hp : q_pr P) {g gd : Nat → Nat} (hg : q_pl P N g) (hd : q_pl P N gd) (h0 : 0 < tp gd N) : q_e P (q_ad (q_cm (q_n (dvp N g gd P).1) (q_n gd)) (q_n (dvp N g gd P).2)) (q_n g) ∧ q_d P (q_n (dvp N g gd P).2) (tp gd N - 1) ∧ q_d P (q_n (dvp N g gd P).1) (tp g N - (tp gd N - 1)) ∧ q_pl P N (dvp N g gd P).1 ∧ q_pl P N (dvp N g gd P).2 := by
  have hP := hp.1
  have hl := tp_le gd N
  have hl2 := tp_le g N
  obtain ⟨t1, t2⟩ := tp_1 N h0
  have hz : ∀ k, tp gd N - 1 < k → gd k = 0 := fun k hk => by
    by_cases e : N ≤ k
    · exact hd.2 k e
    · exact t2 k (by omega) (by omega)
  have hzero : q_pl P N (fun _ => 0) := ⟨fun _ => by show 0 < P; omega, fun _ _ => rfl⟩
  unfold dvp
  by_cases hle : tp gd N - 1 ≤ tp g N
  · have hgd := hg.d
    obtain ⟨i1, i2, i3⟩ := dvn_s (N := N) (q := fun _ => 0) (r := g) (by omega) (q_ipw hp (hd.1 _) t1) hz (tp g N - (tp gd N - 1)) (by omega) (fun _ _ => rfl) (by rw [show tp gd N - 1 + (tp g N - (tp gd N - 1)) = tp g N by omega]; exact hgd)
    obtain ⟨b1, b2⟩ := dvn_b (N := N) (gd := gd) (low := tp gd N - 1) (inv := ipw (gd (tp gd N - 1)) P) (P := P) (by omega) (tp g N - (tp gd N - 1)) (fun _ => 0, g) (by omega) hzero hg
    refine ⟨i1.tr ?_, i2, i3 _ (Nat.le_refl _) (fun k _ => by show (P : Int) ∣ ((0 : Nat) : Int); exact Int.dvd_zero _), b1, b2⟩
    rw [show q_n (fun _ => 0) = q_0 from rfl, q_0_l]
    intro k
    show (P : Int) ∣ (0 + (g k : Int)) - (g k : Int)
    rw [Int.zero_add, Int.sub_self]; exact Int.dvd_zero _
  · rw [show tp g N - (tp gd N - 1) = 0 by omega]
    refine ⟨?_, hg.d.mono (by omega), (fun k _ => by show (P : Int) ∣ ((0 : Nat) : Int); exact Int.dvd_zero _), hzero, hg⟩
    show q_e P (q_ad (q_cm (q_n (fun _ => 0)) (q_n gd)) (q_n g)) (q_n g)
    rw [show q_n (fun _ => 0) = q_0 from rfl, q_0_l]
    intro k
    show (P : Int) ∣ (0 + (g k : Int)) - (g k : Int)
    rw [Int.zero_add, Int.sub_self]; exact Int.dvd_zero _
def q_f (P : Nat) (f : qP) : Prop := ∃ d, q_d P f d
theorem q_pl.f {P N : Nat} {g : Nat → Nat} (h : q_pl P N g) : q_f P (q_n g) := ⟨_, h.d⟩
theorem q_f0 {P : Nat} : q_f P q_0 := ⟨0, fun _ _ => Int.dvd_zero _⟩
theorem q_f1 {P : Nat} : q_f P q_1 := ⟨1, fun n hn => by show (P : Int) ∣ (if n = 0 then 1 else 0); rw [if_neg (by omega)]; exact Int.dvd_zero _⟩
theorem q_f.sc {P : Nat} {f : qP} (c : Int) (h : q_f P f) : q_f P (q_sc c f) := by
  obtain ⟨d, h⟩ := h
  exact ⟨d, h.sc c⟩
theorem q_f.sb {P : Nat} {f g : qP} (h : q_f P f) (h2 : q_f P g) : q_f P (q_sb f g) := q_fin_ad h (h2.sc (-1))
theorem tp_d {P N : Nat} {g : Nat → Nat} {D : Nat} (h : q_pl P N g) (hd : q_d P (q_n g) D) : tp g N ≤ D := by
  rcases Nat.eq_zero_or_pos (tp g N) with e | e
  · omega
  · have := q_top_d (h.top e) hd
    omega
theorem tp_nz {P N : Nat} {g : Nat → Nat} (h : q_pl P N g) (hn : q_nz P (q_n g)) : 0 < tp g N := by
  rcases Nat.eq_zero_or_pos (tp g N) with e | e
  · obtain ⟨n, hn⟩ := hn
    have := h.z e n
    exact absurd ((q_dv_e this).mpr (Int.dvd_zero _)) hn
  · exact e
theorem q_ad0 (f : qP) : q_ad f q_0 = f := funext fun n => Int.add_zero _
theorem q_0ad (f : qP) : q_ad q_0 f = f := funext fun n => Int.zero_add _
theorem q_adc (f g : qP) : q_ad f g = q_ad g f := funext fun n => Int.add_comm _ _
theorem q_ada (f g h : qP) : q_ad (q_ad f g) h = q_ad f (q_ad g h) := funext fun n => Int.add_assoc _ _ _
theorem q_sb_l (f g h : qP) : q_cm (q_sb f g) h = q_sb (q_cm f h) (q_cm g h) := by unfold q_sb; rw [q_add_l, q_sc_l]
/-- an exact division -/
theorem dvp_ex {P N : Nat} (hp : q_pr P) {a g : Nat → Nat} (ha : q_pl P N a) (hg : q_pl P N g) (h0 : 0 < tp g N) {w : qP} (hw : q_f P w) (he : q_e P (q_n a) (q_cm w (q_n g))) : q_e P (q_n (dvp N a g P).1) w ∧ q_pl P N (dvp N a g P).1 := by
  obtain ⟨s1, s2, s3, s4, s5⟩ := dvp_s hp ha hg h0
  refine ⟨?_, s4⟩
  have e1 : q_e P (q_cm (q_sb w (q_n (dvp N a g P).1)) (q_n g)) (q_n (dvp N a g P).2) := by
    rw [q_sb_l]
    intro n
    rw [q_sb_at]
    have h1 := s1 n
    have h2 := he n
    have h3 := Int.dvd_add h1 h2
    have h4 := Int.dvd_neg.mpr h3
    have : q_ad (q_cm (q_n (dvp N a g P).1) (q_n g)) (q_n (dvp N a g P).2) n = q_cm (q_n (dvp N a g P).1) (q_n g) n + q_n (dvp N a g P).2 n := rfl
    rw [this] at h4
    rwa [show -(q_cm (q_n (dvp N a g P).1) (q_n g) n + q_n (dvp N a g P).2 n - q_n a n + (q_n a n - q_cm w (q_n g) n)) = q_cm w (q_n g) n - q_cm (q_n (dvp N a g P).1) (q_n g) n - q_n (dvp N a g P).2 n by omega] at h4
  have hz : q_e P (q_sb w (q_n (dvp N a g P).1)) q_0 := by
    refine q_nnz (fun hn => ?_)
    obtain ⟨D, hD⟩ := hw.sb s4.f
    obtain ⟨t, _, ht⟩ := q_top_ex hD hn
    have h1 := (ht.cm hp (hg.top h0)).e e1
    have := q_top_d h1 s2
    omega
  exact (q_sb_e.mp hz).sy
def gkn (N P : Nat) : Nat → (Nat → Nat) → (Nat → Nat) → (Nat → Nat)
  | 0, r0, _ => r0
  | d + 1, r0, r1 => if tp r1 N = 0 then r0 else gkn N P d r1 (dvp N r0 r1 P).2
/-- the common factor -/
theorem gkn_s {P N : Nat} (hp : q_pr P) : ∀ (d : Nat) (r0 r1 : Nat → Nat), q_pl P N r0 → q_pl P N r1 → tp r1 N ≤ d → q_pl P N (gkn N P d r0 r1) ∧ (∃ u v, q_f P u ∧ q_f P v ∧ q_e P (q_n (gkn N P d r0 r1)) (q_ad (q_cm u (q_n r0)) (q_cm v (q_n r1)))) ∧ (∃ w, q_f P w ∧ q_e P (q_n r0) (q_cm w (q_n (gkn N P d r0 r1)))) ∧ ∃ w, q_f P w ∧ q_e P (q_n r1) (q_cm w (q_n (gkn N P d r0 r1)))
  | 0, r0, r1, h0, h1, ht => by
    have hz := h1.z (show tp r1 N = 0 by omega)
    refine ⟨h0, ⟨q_1, q_0, q_f1, q_f0, ?_⟩, ⟨q_1, q_f1, ?_⟩, ⟨q_0, q_f0, ?_⟩⟩
    · rw [q_1_l, q_0_l, q_ad0]; exact q_e.rf
    · rw [q_1_l]; exact q_e.rf
    · rw [q_0_l]; exact hz
  | d + 1, r0, r1, h0, h1, ht => by
    unfold gkn
    by_cases e : tp r1 N = 0
    · rw [if_pos e]
      have hz := h1.z e
      refine ⟨h0, ⟨q_1, q_0, q_f1, q_f0, ?_⟩, ⟨q_1, q_f1, ?_⟩, ⟨q_0, q_f0, ?_⟩⟩
      · rw [q_1_l, q_0_l, q_ad0]; exact q_e.rf
      · rw [q_1_l]; exact q_e.rf
      · rw [q_0_l]; exact hz
    · rw [if_neg e]
      obtain ⟨s1, s2, s3, s4, s5⟩ := dvp_s hp h0 h1 (by omega)
      have ht2 := tp_d s5 s2
      obtain ⟨i1, ⟨u, v, hu, hv, i2⟩, ⟨w0, hw0, i3⟩, ⟨w1, hw1, i4⟩⟩ := gkn_s hp d r1 (dvp N r0 r1 P).2 h1 s5 (by omega)
      generalize gkn N P d r1 (dvp N r0 r1 P).2 = g at i1 i2 i3 i4 ⊢
      generalize hQ : (dvp N r0 r1 P).1 = Q at s1 s3 s4
      generalize (dvp N r0 r1 P).2 = R at s1 s2 s5 i2 i4
      refine ⟨i1, ⟨v, q_sb u (q_cm v (q_n Q)), hv, hu.sb (q_fin_cm hv s4.f), ?_⟩, ⟨q_ad (q_cm (q_n Q) w0) w1, q_fin_ad (q_fin_cm s4.f hw0) hw1, ?_⟩, ⟨w0, hw0, i3⟩⟩
      · -- u r1 + v R = v r0 + (u - v Q) r1
        refine i2.tr ?_
        rw [q_sb_l, q_assoc v]
        intro n
        have h1 := (s1.r v) n
        rw [q_add_r] at h1
        show (P : Int) ∣ (q_cm u (q_n r1) n + q_cm v (q_n R) n) - (q_cm v (q_n r0) n + q_sb (q_cm u (q_n r1)) (q_cm v (q_cm (q_n Q) (q_n r1))) n)
        rw [q_sb_at]
        have h2 : (P : Int) ∣ (q_cm v (q_cm (q_n Q) (q_n r1)) n + q_cm v (q_n R) n) - q_cm v (q_n r0) n := h1
        rwa [show q_cm u (q_n r1) n + q_cm v (q_n R) n - (q_cm v (q_n r0) n + (q_cm u (q_n r1) n - q_cm v (q_cm (q_n Q) (q_n r1)) n)) = (q_cm v (q_cm (q_n Q) (q_n r1)) n + q_cm v (q_n R) n) - q_cm v (q_n r0) n by omega]
      · refine s1.sy.tr ?_
        rw [q_add_l, q_assoc]
        exact (i3.r (q_n Q)).ad i4
theorem gk_n {P : Nat} : ∀ (d : Nat) (r0 r1 : Nat → Nat), gk P d r0 r1 = gkn 42 P d r0 r1
  | 0, _, _ => rfl
  | d + 1, r0, r1 => by
    unfold gk gkn
    by_cases e : tp r1 42 = 0
    · rw [if_pos e, if_pos e]
    · rw [if_neg e, if_neg e, gk_n d]
      congr 1
      unfold dvd_ dvp
      rw [if_neg e, dvk_n]
/-- a share without common factors, the lowest term below being 1 -/
def q_rd (P : Nat) (a b A B : qP) : Prop := q_co P A B ∧ q_l1 P B ∧ q_e P (q_cm A b) (q_cm a B) ∧ q_f P A ∧ q_f P B
theorem lo_s {g : Nat → Nat} : ∀ n i, (∃ k, i ≤ k ∧ k < i + n ∧ g k ≠ 0) → ∃ k, i ≤ k ∧ g k = lo_t g n i ∧ g k ≠ 0 ∧ ∀ j, i ≤ j → j < k → g j = 0
  | 0, i, ⟨k, h1, h2, _⟩ => absurd h2 (by omega)
  | n + 1, i, ⟨k, h1, h2, h3⟩ => by
    unfold lo_t
    by_cases e : g i = 0
    · rw [if_pos e]
      obtain ⟨k2, g1, g2, g3, g4⟩ := lo_s n (i + 1) ⟨k, by
        rcases Nat.eq_or_lt_of_le h1 with h | h
        · subst h; exact absurd e h3
        · exact h, by omega, h3⟩
      exact ⟨k2, by omega, g2, g3, fun j hj hj2 => by
        by_cases e2 : j = i
        · rw [e2]; exact e
        · exact g4 j (by omega) hj2⟩
    · rw [if_neg e]
      exact ⟨i, Nat.le_refl _, rfl, e, fun j h1 h2 => absurd h1 (by omega)⟩
/-- the last step: the scaling -/
theorem q_rd_of {P N : Nat} (hp : q_pr P) {a b : qP} {qa qb : Nat → Nat} (ha : q_pl P N qa) (hb : q_pl P N qb) (hn : q_nz P (q_n qb)) {u v : qP} {c : Int} (hu : q_f P u) (hv : q_f P v) (hc : ¬ (P : Int) ∣ c) (hco : q_e P (q_ad (q_cm u (q_n qa)) (q_cm v (q_n qb))) (q_sc c q_1)) (he : q_e P (q_cm (q_n qa) b) (q_cm a (q_n qb))) {lo : Nat} (hlo : ∃ k, qb k = lo ∧ lo ≠ 0 ∧ ∀ j, j < k → qb j = 0) : q_rd P a b (q_n (fun k => qa k * ipw lo P % P)) (q_n (fun k => qb k * ipw lo P % P)) := by
  obtain ⟨k0, hk0, hl0, hlow⟩ := hlo
  have hP := hp.1
  have hll : lo < P := by rw [← hk0]; exact hb.1 k0
  have hs := q_ipw hp hll hl0
  generalize ipw lo P = s at hs
  have ea : ∀ g : Nat → Nat, q_e P (q_n (fun k => g k * s % P)) (q_sc s (q_n g)) := fun g k => by
    show (P : Int) ∣ ((g k * s % P : Nat) : Int) - (s : Int) * (g k : Int)
    have := q_md (g k * s) P
    rwa [Int.natCast_mul, Int.mul_comm ((g k : Nat) : Int)] at this
  -- an inverse of c
  have hcn : ∃ e : Int, (P : Int) ∣ e * c - 1 := by
    have h1 : nn_m c P ≠ 0 := fun z => hc (by
      have := q_mz c (show 0 < P by omega)
      rw [z] at this
      exact (q_dv_e this).mp (Int.dvd_zero _))
    have h2 := q_ipw hp (nn_m_lt (v := c) (show 0 < P by omega)) h1
    refine ⟨ipw (nn_m c P) P, ?_⟩
    have h3 : (P : Int) ∣ (ipw (nn_m c P) P : Int) * (((nn_m c P : Nat) : Int) - c) := Int.dvd_mul_of_dvd_right (q_mz c (by omega))
    rw [Int.mul_sub] at h3
    have := Int.dvd_sub h2 h3
    rwa [show ∀ x y : Int, x - 1 - (x - y) = y - 1 by omega] at this
  obtain ⟨e, he1⟩ := hcn
  refine ⟨⟨q_sc (e * lo) u, q_sc (e * lo) v, hu.sc _, hv.sc _, ?_⟩, ⟨k0, ?_, fun j hj => ?_⟩, ?_, q_fin_e (ha.f.sc _) (ea qa).sy, q_fin_e (hb.f.sc _) (ea qb).sy⟩
  · refine (((ea qa).r _).ad ((ea qb).r _)).tr ?_
    rw [q_sc_l, q_sc_l, q_sc_r, q_sc_r]
    intro n
    have h1 := hco n
    show (P : Int) ∣ e * lo * ((s : Int) * q_cm u (q_n qa) n) + e * lo * ((s : Int) * q_cm v (q_n qb) n) - q_1 n
    have h2 : (P : Int) ∣ (q_cm u (q_n qa) n + q_cm v (q_n qb) n) - c * q_1 n := h1
    have h3 : (P : Int) ∣ e * lo * (s : Int) * ((q_cm u (q_n qa) n + q_cm v (q_n qb) n) - c * q_1 n) := Int.dvd_mul_of_dvd_right h2
    have h4 : (P : Int) ∣ ((s : Int) * lo - 1) * (e * c * q_1 n) := Int.dvd_mul_of_dvd_left hs
    have h5 : (P : Int) ∣ (e * c - 1) * q_1 n := Int.dvd_mul_of_dvd_left he1
    have h6 := Int.dvd_add (Int.dvd_add h3 h4) h5
    generalize q_cm u (q_n qa) n = A at h6 ⊢
    generalize q_cm v (q_n qb) n = B at h6 ⊢
    generalize q_1 n = O at h6 ⊢
    have e6 : e * ↑lo * ↑s * (A + B - c * O) + (↑s * ↑lo - 1) * (e * c * O) + (e * c - 1) * O = e * ↑lo * (↑s * A) + e * ↑lo * (↑s * B) - O := by grind
    rwa [e6] at h6
  · refine (q_dv_e (a := q_n (fun k => qb k * s % P) k0 - 1) (b := (s : Int) * qb k0 - 1) ?_).mpr (by rw [hk0]; exact hs)
    have := ea qb k0
    have h2 : (P : Int) ∣ q_n (fun k => qb k * s % P) k0 - (s : Int) * (qb k0 : Int) := this
    rwa [show ∀ x y : Int, x - 1 - (y - 1) = x - y by omega]
  · refine (q_dv_e (ea qb j)).mpr ?_
    show (P : Int) ∣ (s : Int) * (qb j : Int)
    rw [hlow j hj]
    exact Int.dvd_mul_of_dvd_right (Int.dvd_zero _)
  · refine ((ea qa).l b).tr (q_e.tr ?_ ((ea qb).r a).sy)
    rw [q_sc_l, q_sc_r]
    exact he.sc _
theorem q_nz_lo {P N : Nat} (hp : q_pr P) {g : Nat → Nat} (h : q_pl P N g) (hn : q_nz P (q_n g)) : ∃ k, g k = lo_t g N 0 ∧ lo_t g N 0 ≠ 0 ∧ ∀ j, j < k → g j = 0 := by
  obtain ⟨n, hn⟩ := hn
  have h1 : g n ≠ 0 := fun z => hn (by show (P : Int) ∣ ((g n : Nat) : Int); rw [z]; exact Int.dvd_zero _)
  have h2 : n < N := Classical.byContradiction fun z => h1 (h.2 n (by omega))
  obtain ⟨k, g1, g2, g3, g4⟩ := lo_s N 0 ⟨n, by omega, by omega, h1⟩
  exact ⟨k, g2, by rw [← g2]; exact g3, fun j hj => g4 j (by omega) hj⟩
/-- the class's way is one -/
theorem dcf_s {P : Nat} (hp : q_pr P) {a b : Nat → Nat} (ha : q_pl P 42 a) (hb : q_pl P 42 b) (hn : q_nz P (q_n b)) : q_rd P (q_n a) (q_n b) (q_n (dcf a b P).1) (q_n (dcf a b P).2) := by
  have hl := tp_le a 42
  obtain ⟨i1, ⟨u, v, hu, hv, i2⟩, ⟨w0, hw0, i3⟩, ⟨w1, hw1, i4⟩⟩ := gkn_s hp 42 b a hb ha hl
  have hd1 : dcf1 a b P = ((dvd_ a (gkn 42 P 42 b a) P).1, (dvd_ b (gkn 42 P 42 b a) P).1) := by unfold dcf1; rw [gk_n]
  generalize gkn 42 P 42 b a = g at i1 i2 i3 i4 hd1
  have hgn : q_nz P (q_n g) := Classical.byContradiction fun z => by
    obtain ⟨n, hn⟩ := hn
    apply hn
    have h1 := ((q_nnz z).r w0) n
    rw [q_0_r] at h1
    exact (q_dv_e (i3 n)).mpr ((q_dv_e h1).mpr (Int.dvd_zero _))
  have hg0 := tp_nz i1 hgn
  have hda : dvd_ a g P = dvp 42 a g P := by unfold dvd_ dvp; rw [if_neg (by omega), dvk_n]
  have hdb : dvd_ b g P = dvp 42 b g P := by unfold dvd_ dvp; rw [if_neg (by omega), dvk_n]
  obtain ⟨ea, pa⟩ := dvp_ex hp ha i1 hg0 hw1 i4
  obtain ⟨eb, pb⟩ := dvp_ex hp hb i1 hg0 hw0 i3
  rw [hda, hdb] at hd1
  have hnb : q_nz P (q_n (dvp 42 b g P).1) := Classical.byContradiction fun z => by
    obtain ⟨n, hn⟩ := hn
    apply hn
    have h1 := ((eb.sy.tr (q_nnz z)).l (q_n g)) n
    rw [q_0_l] at h1
    exact (q_dv_e (i3 n)).mpr ((q_dv_e h1).mpr (Int.dvd_zero _))
  have hco : q_e P (q_ad (q_cm v (q_n (dvp 42 a g P).1)) (q_cm u (q_n (dvp 42 b g P).1))) (q_sc 1 q_1) := by
    refine q_cancel hp hgn ?_
    rw [q_sc_r, q_1_r, show q_sc 1 (q_n g) = q_n g from funext fun n => Int.one_mul _]
    refine q_e.tr ?_ i2.sy
    rw [q_add_r, q_adc (q_cm u (q_n b))]
    refine q_e.ad ?_ ?_
    · rw [q_comm (q_n g), q_assoc]
      refine q_e.r v ?_
      exact (ea.l (q_n g)).tr i4.sy
    · rw [q_comm (q_n g), q_assoc]
      refine q_e.r u ?_
      exact (eb.l (q_n g)).tr i3.sy
  have hr := q_rd_of (a := q_n a) (b := q_n b) hp pa pb hnb hv hu (q_1_not hp) hco (by
    refine ((i3.r _)).tr ?_
    refine q_e.tr ?_ ((i4.l _)).sy
    refine ((ea.l _)).tr ?_
    refine q_e.tr ?_ ((eb.r _)).sy
    rw [q_assoc w1, q_comm (q_n g) w0]
    exact q_e.rf) (q_nz_lo hp pb hnb)
  unfold dcf
  rw [hd1]
  exact hr
/-- two ways to the same share -/
theorem q_rd_u {P : Nat} (hp : q_pr P) {a b a2 b2 : qP} {A B A2 B2 : Nat → Nat} (h : q_rd P a b (q_n A) (q_n B)) (h2 : q_rd P a2 b2 (q_n A2) (q_n B2)) (hb : q_nz P b) (hb2 : q_nz P b2) (he : q_e P (q_cm a b2) (q_cm a2 b)) (h3 : ∀ k, A k < P) (h4 : ∀ k, B k < P) (h5 : ∀ k, A2 k < P) (h6 : ∀ k, B2 k < P) : A = A2 ∧ B = B2 := by
  obtain ⟨c1, l1, e1, f1, f2⟩ := h
  obtain ⟨c2, l2, e2, f3, f4⟩ := h2
  have key : q_e P (q_cm (q_n A) (q_n B2)) (q_cm (q_n A2) (q_n B)) := by
    refine q_cancel hp (q_dom hp hb hb2) ?_
    -- (b b2)(A B2) = (A b)(b2 B2) = a B b2 B2 ; (b b2)(A2 B) = (A2 b2)(b B) = a2 B2 b B
    have x1 : q_e P (q_cm (q_cm b b2) (q_cm (q_n A) (q_n B2))) (q_cm (q_cm a b2) (q_cm (q_n B) (q_n B2))) := by
      have := e1.l (q_cm b2 (q_n B2))
      rw [show q_cm (q_cm b b2) (q_cm (q_n A) (q_n B2)) = q_cm (q_cm (q_n A) b) (q_cm b2 (q_n B2)) by
        rw [q_comm b b2, q_assoc b2 b, ← q_assoc b (q_n A), q_comm b (q_n A), ← q_assoc b2, q_comm b2 (q_cm (q_n A) b), q_assoc (q_cm (q_n A) b)]]
      refine this.tr ?_
      rw [show q_cm (q_cm a (q_n B)) (q_cm b2 (q_n B2)) = q_cm (q_cm a b2) (q_cm (q_n B) (q_n B2)) by
        rw [q_assoc a, ← q_assoc (q_n B) b2, q_comm (q_n B) b2, q_assoc b2, ← q_assoc a b2]]
      exact q_e.rf
    have x2 : q_e P (q_cm (q_cm b b2) (q_cm (q_n A2) (q_n B))) (q_cm (q_cm a2 b) (q_cm (q_n B) (q_n B2))) := by
      have := e2.l (q_cm b (q_n B))
      rw [show q_cm (q_cm b b2) (q_cm (q_n A2) (q_n B)) = q_cm (q_cm (q_n A2) b2) (q_cm b (q_n B)) by
        rw [q_assoc b b2, ← q_assoc b2 (q_n A2), q_comm b2 (q_n A2), ← q_assoc b, q_comm b (q_cm (q_n A2) b2), q_assoc (q_cm (q_n A2) b2)]]
      refine this.tr ?_
      rw [show q_cm (q_cm a2 (q_n B2)) (q_cm b (q_n B)) = q_cm (q_cm a2 b) (q_cm (q_n B) (q_n B2)) by
        rw [q_assoc a2, ← q_assoc (q_n B2) b, q_comm (q_n B2) b, q_assoc b, ← q_assoc a2 b, q_comm (q_n B2) (q_n B)]]
      exact q_e.rf
    exact x1.tr ((he.l _).tr x2.sy)
  obtain ⟨r1, r2⟩ := q_uniq hp c1 c2 key f1 f2 f3 f4 l1 l2
  exact ⟨q_lt_e r1 h3 h5, q_lt_e r2 h4 h6⟩
theorem spk_e {P : Nat} (h0 : 0 < P) {g gl gr : Nat → Nat} : ∀ i, (∀ j, j < i → ∀ k, 42 ≤ k + j → (P : Int) ∣ (gr k : Int)) → q_e P (q_n (spk g gl gr P i)) (q_sb (q_n g) (q_cm (q_n (cut gl i)) (q_n gr)))
  | 0, _ => by
    rw [show q_n (cut gl 0) = q_0 from funext fun k => by show ((cut gl 0 k : Nat) : Int) = 0; unfold cut; rw [if_neg (by omega)]; rfl, q_0_l]
    intro n
    rw [q_sb_at]
    show (P : Int) ∣ (g n : Int) - ((g n : Int) - 0)
    rw [Int.sub_zero, Int.sub_self]; exact Int.dvd_zero _
  | i + 1, h => by
    have ih := spk_e h0 (g := g) (gl := gl) (gr := gr) i (fun j hj => h j (by omega))
    have e1 : q_e P (q_n (spk g gl gr P (i + 1))) (q_ad (q_n (spk g gl gr P i)) (q_cm (q_sc (-(gl i : Int)) (q_x i)) (q_n gr))) := (q_am (fun k hk => h i (by omega) k (by omega))).tr (q_e.rf.ad ((q_sc_e (q_mz _ h0) _).l _))
    refine e1.tr ((ih.ad q_e.rf).tr ?_)
    have e2 : q_n (cut gl (i + 1)) = q_ad (q_n (cut gl i)) (q_sc (gl i) (q_x i)) := funext fun k => by
      show ((cut gl (i + 1) k : Nat) : Int) = ((cut gl i k : Nat) : Int) + (gl i : Int) * (if k = i then 1 else 0)
      unfold cut
      by_cases e : k = i
      · rw [if_pos (by omega), if_neg (by omega), if_pos e, e, Int.mul_one]; omega
      · rw [if_neg e, Int.mul_zero, Int.add_zero]
        by_cases e3 : k < i
        · rw [if_pos e3, if_pos (by omega)]
        · rw [if_neg e3, if_neg (by omega)]
    rw [e2, q_add_l, q_sc_l, q_sc_l]
    intro n
    rw [q_sb_at]
    show (P : Int) ∣ (q_sb (q_n g) (q_cm (q_n (cut gl i)) (q_n gr)) n + (-(gl i : Int)) * q_cm (q_x i) (q_n gr) n) - (q_n g n - (q_cm (q_n (cut gl i)) (q_n gr) n + (gl i : Int) * q_cm (q_x i) (q_n gr) n))
    rw [q_sb_at, Int.neg_mul]
    have : ∀ a b c : Int, (a - b + -c) - (a - (b + c)) = 0 := by omega
    rw [this]; exact Int.dvd_zero _
theorem cut_tp {P N : Nat} {g : Nat → Nat} (h : q_pl P N g) : cut g (tp g N) = g := funext fun k => by
  unfold cut
  by_cases e : k < tp g N
  · rw [if_pos e]
  · rw [if_neg e]
    by_cases e2 : N ≤ k
    · rw [h.2 k e2]
    · by_cases e3 : tp g N = 0
      · rw [tp_0 N e3 k (by omega)]
      · exact ((tp_1 (g := g) N (by omega)).2 k (by omega) (by omega)).symm
theorem q_top.sub {P : Nat} {f g : qP} {d : Nat} (hf : q_d P f d) (hg : q_top P g d) : q_top P (q_sb f g) d := by
  refine ⟨fun n hn => ?_, fun h => hg.2 ?_⟩
  · rw [q_sb_at]; exact Int.dvd_sub (hf n (by omega)) (hg.1 n hn)
  · rw [q_sb_at] at h
    have := Int.dvd_sub (hf d (Nat.le_refl _)) h
    rwa [show f d - (f d - g d) = g d by omega] at this
/-- Euclid's way -/
theorem eu_s {P most N : Nat} (hp : q_pr P) (hN : N ≤ 41) {M s : qP} : ∀ (d : Nat) (r0 r1 t0 t1 : Nat → Nat) (D0 : Nat), q_pl P 42 r0 → q_pl P 42 r1 → q_pl P 42 t0 → q_pl P 42 t1 → (∃ w, q_f P w ∧ q_e P (q_n r0) (q_ad (q_cm w M) (q_cm (q_n t0) s))) → (∃ w, q_f P w ∧ q_e P (q_n r1) (q_ad (q_cm w M) (q_cm (q_n t1) s))) → q_top P (q_n r0) D0 → q_d P (q_n r1) D0 → most < D0 → D0 ≤ N → q_top P (q_n t1) (N - D0) → q_d P (q_n t0) (N - D0) → tp r1 42 ≤ d + (most + 1) → q_pl P 42 (eu P most d r0 r1 t0 t1).1 ∧ q_pl P 42 (eu P most d r0 r1 t0 t1).2 ∧ (∃ w, q_f P w ∧ q_e P (q_n (eu P most d r0 r1 t0 t1).1) (q_ad (q_cm w M) (q_cm (q_n (eu P most d r0 r1 t0 t1).2) s))) ∧ q_d P (q_n (eu P most d r0 r1 t0 t1).1) (most + 1) ∧ ∃ E, E + most + 1 ≤ N ∧ q_top P (q_n (eu P most d r0 r1 t0 t1).2) E
  | 0, r0, r1, t0, t1, D0, p0, p1, p2, p3, hr0, hr1, ht0, hd1, hm, hDN, htt, hdt, hf => ⟨p1, p3, hr1, p1.d.mono (by omega), N - D0, by omega, htt⟩
  | d + 1, r0, r1, t0, t1, D0, p0, p1, p2, p3, hr0, hr1, ht0, hd1, hm, hDN, htt, hdt, hf => by
    unfold eu
    by_cases hc : most + 1 < tp r1 42
    · rw [if_pos hc]
      have hP := hp.1
      have hdv : dvd_ r0 r1 P = dvp 42 r0 r1 P := by unfold dvd_ dvp; rw [if_neg (by omega), dvk_n]
      rw [hdv]
      obtain ⟨s1, s2, s3, s4, s5⟩ := dvp_s hp p0 p1 (show 0 < tp r1 42 by omega)
      have top1 := p1.top (show 0 < tp r1 42 by omega)
      obtain ⟨D1, hD1⟩ : ∃ D1, D1 = tp r1 42 - 1 := ⟨_, rfl⟩
      rw [← hD1] at s2 s3 top1
      have hlt : D1 < D0 := q_top_d top1 hd1
      have htr0 : tp r0 42 = D0 + 1 := by
        have h1 := tp_nz p0 ht0.nz
        have := q_top_u (p0.top h1) ht0
        omega
      rw [htr0] at s3
      generalize (dvp 42 r0 r1 P).1 = Q at s1 s3 s4 ⊢
      generalize (dvp 42 r0 r1 P).2 = R at s1 s2 s5 ⊢
      have htQ : tp Q 42 ≤ D0 + 1 - D1 := tp_d s4 s3
      have hsp := spk_e (g := t0) (gl := Q) (gr := t1) (show 0 < P by omega) (tp Q 42) (fun j hj k hk => htt.1 k (by omega))
      rw [cut_tp s4] at hsp
      generalize hT : spk t0 Q t1 P (tp Q 42) = T at hsp ⊢
      have pT : q_pl P 42 T := by rw [← hT]; exact ⟨spk_b (by omega) p2.1 _, spk_z p2.2 _⟩
      -- the quotient's degree
      have hQR : q_e P (q_cm (q_n Q) (q_n r1)) (q_sb (q_n r0) (q_n R)) := fun n => by
        rw [q_sb_at]
        have := s1 n
        have h2 : (P : Int) ∣ (q_cm (q_n Q) (q_n r1) n + q_n R n) - q_n r0 n := this
        rwa [show q_cm (q_n Q) (q_n r1) n - (q_n r0 n - q_n R n) = (q_cm (q_n Q) (q_n r1) n + q_n R n) - q_n r0 n by omega]
      have topQR : q_top P (q_sb (q_n r0) (q_n R)) D0 := by
        refine ⟨fun n hn => ?_, fun h => ht0.2 ?_⟩
        · rw [q_sb_at]; exact Int.dvd_sub (ht0.1 n hn) (s2 n (by omega))
        · rw [q_sb_at] at h
          have := Int.dvd_add h (s2 D0 (by omega))
          rwa [show q_n r0 D0 - q_n R D0 + q_n R D0 = q_n r0 D0 by omega] at this
      have topQ : q_top P (q_n Q) (D0 - D1) := by
        have hnz : q_nz P (q_n Q) := Classical.byContradiction fun z => by
          have h1 := ((q_nnz z).l (q_n r1)) D0
          rw [q_0_l] at h1
          exact (topQR.e hQR.sy).2 ((q_dv_e h1).mpr (Int.dvd_zero _))
        have h0 := tp_nz s4 hnz
        have h1 := s4.top h0
        have h2 := q_top_u ((h1.cm hp top1).e hQR) topQR
        rw [show D0 - D1 = tp Q 42 - 1 by omega]
        exact h1
      have topT : q_top P (q_n T) (N - D1) := by
        refine q_top.e ?_ hsp.sy
        have h1 := topQ.cm hp htt
        rw [show D0 - D1 + (N - D0) = N - D1 by omega] at h1
        exact q_top.sub (hdt.mono (by omega)) h1
      obtain ⟨w0, hw0, e0⟩ := hr0
      obtain ⟨w1, hw1, e1⟩ := hr1
      refine eu_s hp hN d r1 R t1 T D1 p1 s5 p3 pT ⟨w1, hw1, e1⟩ ⟨q_sb w0 (q_cm (q_n Q) w1), hw0.sb (q_fin_cm s4.f hw1), ?_⟩ top1 s2 (by omega) (by omega) topT (htt.1.mono (by omega)) (by have := tp_d s5 s2; omega)
      -- R = r0 - Q r1
      have x1 : q_e P (q_n R) (q_sb (q_n r0) (q_cm (q_n Q) (q_n r1))) := fun n => by
        rw [q_sb_at]
        have h2 : (P : Int) ∣ (q_cm (q_n Q) (q_n r1) n + q_n R n) - q_n r0 n := s1 n
        rwa [show q_n R n - (q_n r0 n - q_cm (q_n Q) (q_n r1) n) = (q_cm (q_n Q) (q_n r1) n + q_n R n) - q_n r0 n by omega]
      refine x1.tr ?_
      have x2 := e1.r (q_n Q)
      rw [q_add_r] at x2
      have x3 := hsp.l s
      rw [q_sb_l] at x3
      rw [q_sb_l, q_assoc (q_n Q) w1]
      intro n
      rw [q_sb_at]
      have h1 := e0 n
      have h2 := x2 n
      have h3 := x3 n
      rw [q_sb_at, q_assoc (q_n Q)] at h3
      show (P : Int) ∣ q_n r0 n - q_cm (q_n Q) (q_n r1) n - (q_sb (q_cm w0 M) (q_cm (q_n Q) (q_cm w1 M)) n + q_cm (q_n T) s n)
      rw [q_sb_at]
      have h1' : (P : Int) ∣ q_n r0 n - (q_cm w0 M n + q_cm (q_n t0) s n) := h1
      have h2' : (P : Int) ∣ q_cm (q_n Q) (q_n r1) n - (q_cm (q_n Q) (q_cm w1 M) n + q_cm (q_n Q) (q_cm (q_n t1) s) n) := h2
      have := Int.dvd_sub (Int.dvd_sub h1' h2') h3
      rwa [show ∀ a b c d e f g : Int, a - (b + c) - (d - (e + f)) - (g - (c - f)) = a - d - (b - e + g) by omega] at this
    · rw [if_neg hc]
      exact ⟨p1, p3, hr1, p1.d.mono (by omega), N - D0, by omega, htt⟩
theorem pcon_pl {P x : Nat} (h : x < P) : q_pl P 42 (pcon x) := by
  refine ⟨fun k => ?_, fun k hk => ?_⟩
  · unfold pcon
    by_cases e : k = 0
    · rw [if_pos e]; exact h
    · rw [if_neg e]; omega
  · unfold pcon
    rw [if_neg (by omega)]
theorem pcon_0 : q_n (pcon 0) = q_0 := funext fun k => by
  show ((pcon 0 k : Nat) : Int) = 0
  unfold pcon
  by_cases e : k = 0 <;> simp [e]
theorem pcon_1 : q_n (pcon 1) = q_1 := funext fun k => by
  show ((pcon 1 k : Nat) : Int) = if k = 0 then 1 else 0
  unfold pcon
  by_cases e : k = 0 <;> simp [e]
theorem fsh_s {P l N : Nat} (hp : q_pr P) (hN : N ≤ 41) (hl : l < N) {mo st : Nat → Nat} (hm : q_pl P 42 mo) (hs : q_pl P 42 st) (htop : q_top P (q_n mo) N) (hst : q_d P (q_n st) N) : ∃ r t : Nat → Nat, q_pl P 42 r ∧ q_pl P 42 t ∧ q_d P (q_n r) (l + 1) ∧ q_d P (q_n t) (N - l) ∧ q_nz P (q_n t) ∧ (∃ w, q_f P w ∧ q_e P (q_n r) (q_ad (q_cm w (q_n mo)) (q_cm (q_n t) (q_n st)))) ∧ q_rd P (q_n r) (q_n t) (q_n (fsh P l mo st).1) (q_n (fsh P l mo st).2) := by
  have hP := hp.1
  have hl2 := tp_le st 42
  obtain ⟨e1, e2, e3, e4, E, e5, e6⟩ := eu_s (most := l) (M := q_n mo) (s := q_n st) hp hN 42 mo st (pcon 0) (pcon 1) N hm hs (pcon_pl (by omega)) (pcon_pl (by omega)) ⟨q_1, q_f1, by rw [pcon_0, q_0_l, q_ad0, q_1_l]; exact q_e.rf⟩ ⟨q_0, q_f0, by rw [pcon_1, q_1_l, q_0_l, q_0ad]; exact q_e.rf⟩ htop hst hl (Nat.le_refl _) (by rw [pcon_1, Nat.sub_self]; exact ⟨fun n hn => by show (P : Int) ∣ (if n = 0 then 1 else 0); rw [if_neg (by omega)]; exact Int.dvd_zero _, q_1_not hp⟩) (by rw [pcon_0]; exact fun n _ => Int.dvd_zero _) (by omega)
  exact ⟨_, _, e1, e2, e4, e6.1.mono (by omega), e6.nz, e3, dcf_s hp e1 e2 e6.nz⟩
/-- shares that agree far enough are alike -/
theorem q_cross {P l m N : Nat} (hN : N = l + m + 1) {c r t p q : qP} (h1 : ∀ n, n < N → (P : Int) ∣ q_cm t c n - r n) (h2 : ∀ n, n < N → (P : Int) ∣ q_cm q c n - p n) (d1 : q_d P r (l + 1)) (d2 : q_d P t (m + 1)) (d3 : q_d P p (l + 1)) (d4 : q_d P q (m + 1)) : q_e P (q_cm r q) (q_cm p t) := fun n => by
  by_cases hn : n < N
  · have a1 := q_lowz (P := P) (g := q_sb (q_cm t c) r) (j := N) (fun k hk => by rw [q_sb_at]; exact h1 k hk) q n hn
    have a2 := q_lowz (P := P) (g := q_sb (q_cm q c) p) (j := N) (fun k hk => by rw [q_sb_at]; exact h2 k hk) t n hn
    rw [q_comm q, q_sb_l, q_sb_at] at a1
    rw [q_comm t, q_sb_l, q_sb_at] at a2
    rw [q_assoc q c t, q_comm c t] at a2
    rw [q_comm (q_cm t c) q] at a1
    have := Int.dvd_sub a2 a1
    rwa [show q_cm q (q_cm t c) n - q_cm p t n - (q_cm q (q_cm t c) n - q_cm r q n) = q_cm r q n - q_cm p t n by omega] at this
  · exact Int.dvd_sub (d1.cm d4 n (by omega)) (d3.cm d2 n (by omega))
theorem cut_pl {P N n : Nat} {c : Nat → Nat} (h0 : 0 < P) (h : ∀ k, c k < P) (hn : n ≤ N) : q_pl P N (cut c n) := by
  refine ⟨fun k => ?_, fun k hk => if_neg (by omega)⟩
  unfold cut
  by_cases e : k < n
  · rw [if_pos e]; exact h k
  · rw [if_neg e]; exact h0
/-- any reduced share that agrees is the entry -/
theorem ent_u {P l m : Nat} (hp : q_pr P) (hlm : l + m ≤ 40) {c : Nat → Nat} (hc : ∀ k, c k < P) {p q : qP} (hq : q_nz P q) (d3 : q_d P p (l + 1)) (d4 : q_d P q (m + 1)) (h2 : ∀ n, n < l + m + 1 → (P : Int) ∣ q_cm q (q_n (cut c (l + m + 1))) n - p n) {A B : Nat → Nat} (hA : ∀ k, A k < P) (hB : ∀ k, B k < P) (hr : q_rd P p q (q_n A) (q_n B)) : A = (ent P c l m).1 ∧ B = (ent P c l m).2 := by
  have hP := hp.1
  have hmx : q_n (nu (pcon 0) (l + m + 1) 1) = q_x (l + m + 1) := funext fun k => by
    show ((nu (pcon 0) (l + m + 1) 1 k : Nat) : Int) = if k = l + m + 1 then 1 else 0
    unfold nu pcon
    by_cases e : k = l + m + 1
    · rw [if_pos e, if_pos e]; rfl
    · rw [if_neg e, if_neg e]
      by_cases e2 : k = 0 <;> simp [e2]
  have hmo : q_pl P 42 (nu (pcon 0) (l + m + 1) 1) := by
    refine ⟨fun k => ?_, fun k hk => ?_⟩
    · unfold nu
      by_cases e : k = l + m + 1
      · rw [if_pos e]; omega
      · rw [if_neg e]; exact (pcon_pl (show 0 < P by omega)).1 k
    · rw [nu_n (by omega)]; exact (pcon_pl (show 0 < P by omega)).2 k hk
  have hst : q_pl P 42 (cut c (l + m + 1)) := cut_pl (by omega) hc (by omega)
  obtain ⟨r, t, p1, p2, d1, d2, hnt, ⟨w, hw, hwe⟩, hrd⟩ := fsh_s (l := l) (N := l + m + 1) hp (by omega) (by omega) hmo hst (by
    rw [hmx]
    refine ⟨fun n hn => ?_, ?_⟩
    · show (P : Int) ∣ (if n = l + m + 1 then 1 else 0)
      rw [if_neg (by omega)]; exact Int.dvd_zero _
    · show ¬ (P : Int) ∣ (if l + m + 1 = l + m + 1 then 1 else 0)
      rw [if_pos rfl]; exact q_1_not hp) (fun n hn => by
    show (P : Int) ∣ ((cut c (l + m + 1) n : Nat) : Int)
    unfold cut
    rw [if_neg (by omega)]; exact Int.dvd_zero _)
  have h1 : ∀ n, n < l + m + 1 → (P : Int) ∣ q_cm (q_n t) (q_n (cut c (l + m + 1))) n - q_n r n := fun n hn => by
    have a1 := hwe n
    rw [hmx] at a1
    have a2 := q_lowz (P := P) (g := q_x (l + m + 1)) (j := l + m + 1) (fun k hk => by
      show (P : Int) ∣ (if k = l + m + 1 then 1 else 0)
      rw [if_neg (by omega)]; exact Int.dvd_zero _) w n hn
    have a3 : (P : Int) ∣ q_n r n - (q_cm w (q_x (l + m + 1)) n + q_cm (q_n t) (q_n (cut c (l + m + 1))) n) := a1
    have := Int.dvd_neg.mpr (Int.dvd_add a3 a2)
    rwa [show ∀ x y z : Int, -(x - (y + z) + y) = z - x by omega] at this
  have he := q_cross (m := m) rfl h1 h2 d1 (d2.mono (by omega)) d3 d4
  have hb := (dcf_b (a := (eu P l 42 (nu (pcon 0) (l + m + 1) 1) (cut c (l + m + 1)) (pcon 0) (pcon 1)).1) (b := (eu P l 42 (nu (pcon 0) (l + m + 1) 1) (cut c (l + m + 1)) (pcon 0) (pcon 1)).2) (show 0 < P by omega))
  exact q_rd_u hp hr hrd hq hnt he.sy hA hB hb.1 hb.2
/-- the value of the first n terms at x -/
def q_ev (x : Int) : qP → Nat → Int
  | _, 0 => 0
  | f, n + 1 => f 0 + x * q_ev x (q_sh f) n
theorem ev_e {P : Nat} {x : Int} : ∀ (n : Nat) {f g : qP}, q_e P f g → (P : Int) ∣ q_ev x f n - q_ev x g n
  | 0, _, _, _ => by show (P : Int) ∣ 0 - 0; exact Int.dvd_zero _
  | n + 1, f, g, h => by
    have ih := ev_e (x := x) n (f := q_sh f) (g := q_sh g) (fun k => h (k + 1))
    show (P : Int) ∣ (f 0 + x * q_ev x (q_sh f) n) - (g 0 + x * q_ev x (q_sh g) n)
    have h1 := Int.dvd_add (h 0) (Int.dvd_mul_of_dvd_right (a := (P : Int)) (b := x) ih)
    rw [Int.mul_sub] at h1
    rwa [show ∀ a b c d : Int, a - b + (c - d) = a + c - (b + d) by omega] at h1
theorem ev_ad {x : Int} : ∀ (n : Nat) (f g : qP), q_ev x (q_ad f g) n = q_ev x f n + q_ev x g n
  | 0, _, _ => rfl
  | n + 1, f, g => by
    show (f 0 + g 0) + x * q_ev x (q_ad (q_sh f) (q_sh g)) n = (f 0 + x * q_ev x (q_sh f) n) + (g 0 + x * q_ev x (q_sh g) n)
    rw [ev_ad n, Int.mul_add]
    omega
theorem ev_sc {x c : Int} : ∀ (n : Nat) (f : qP), q_ev x (q_sc c f) n = c * q_ev x f n
  | 0, _ => (Int.mul_zero c).symm
  | n + 1, f => by
    show c * f 0 + x * q_ev x (q_sc c (q_sh f)) n = c * (f 0 + x * q_ev x (q_sh f) n)
    rw [ev_sc n, Int.mul_add, Int.mul_left_comm]
theorem ev_sb {x : Int} (n : Nat) (f g : qP) : q_ev x (q_sb f g) n = q_ev x f n - q_ev x g n := by
  unfold q_sb
  rw [ev_ad, ev_sc]
  omega
theorem ev_0 {P : Nat} {x : Int} {f : qP} (n : Nat) (h : q_e P f q_0) : (P : Int) ∣ q_ev x f n := by
  have h1 := ev_e (x := x) n h
  have h2 : ∀ n, q_ev x q_0 n = 0 := fun n => by
    induction n with
    | zero => rfl
    | succ n ih =>
      show (0 : Int) + x * q_ev x q_0 n = 0
      rw [ih, Int.mul_zero, Int.add_zero]
  rw [h2, Int.sub_zero] at h1
  exact h1
/-- more terms than there are change nothing -/
theorem ev_st {P : Nat} {x : Int} : ∀ (n : Nat) {f : qP} {d : Nat}, q_d P f d → d ≤ n → (P : Int) ∣ q_ev x f (n + 1) - q_ev x f n
  | 0, f, d, h, hd => by
    show (P : Int) ∣ (f 0 + x * 0) - 0
    rw [Int.mul_zero, Int.add_zero, Int.sub_zero]
    exact h 0 (by omega)
  | n + 1, f, d, h, hd => by
    have ih := ev_st (x := x) n (f := q_sh f) (d := d - 1) (fun k hk => h (k + 1) (by omega)) (by omega)
    show (P : Int) ∣ (f 0 + x * q_ev x (q_sh f) (n + 1)) - (f 0 + x * q_ev x (q_sh f) n)
    have := Int.dvd_mul_of_dvd_right (a := (P : Int)) (b := x) ih
    rw [Int.mul_sub] at this
    rwa [show ∀ a b c : Int, a + b - (a + c) = b - c by omega]
theorem ev_cm {P : Nat} {x : Int} {g : qP} {b : Nat} (hg : q_d P g b) : ∀ (n : Nat) {f : qP} {a : Nat}, q_d P f a → a + b ≤ n → (P : Int) ∣ q_ev x (q_cm f g) n - q_ev x f n * q_ev x g n
  | 0, f, a, hf, h => by
    show (P : Int) ∣ 0 - 0 * 0
    exact Int.dvd_zero _
  | n + 1, f, a, hf, h => by
    by_cases ha : a = 0
    · subst ha
      have h1 := q_d0.mp hf
      have h2 := h1.l g
      rw [q_0_l] at h2
      exact Int.dvd_sub (ev_0 _ h2) (Int.dvd_mul_of_dvd_left (ev_0 _ h1))
    · have ih := ev_cm (x := x) hg n (f := q_sh f) (a := a - 1) (fun k hk => hf (k + 1) (by omega)) (by omega)
      have hs := ev_st (x := x) n hg (by omega)
      have e1 : q_ev x (q_cm f g) (n + 1) = f 0 * q_ev x g (n + 1) + x * q_ev x (q_cm (q_sh f) g) n := by
        show f 0 * g 0 + x * q_ev x (q_sh (q_cm f g)) n = f 0 * (g 0 + x * q_ev x (q_sh g) n) + x * q_ev x (q_cm (q_sh f) g) n
        have e : q_sh (q_cm f g) = q_ad (q_sc (f 0) (q_sh g)) (q_cm (q_sh f) g) := rfl
        rw [e, ev_ad, ev_sc, Int.mul_add, Int.mul_add, Int.mul_left_comm x (f 0), Int.add_assoc]
      rw [e1]
      show (P : Int) ∣ f 0 * q_ev x g (n + 1) + x * q_ev x (q_cm (q_sh f) g) n - (f 0 + x * q_ev x (q_sh f) n) * q_ev x g (n + 1)
      have h1 := Int.dvd_mul_of_dvd_right (a := (P : Int)) (b := x) ih
      have h2 := Int.dvd_mul_of_dvd_right (a := (P : Int)) (b := x * q_ev x (q_sh f) n) hs
      have h3 := Int.dvd_sub h1 h2
      generalize q_ev x (q_cm (q_sh f) g) n = A at h3 ⊢
      generalize q_ev x (q_sh f) n = B at h3 ⊢
      generalize q_ev x g (n + 1) = C at h3 ⊢
      generalize q_ev x g n = D at h3
      have : x * (A - B * D) - x * B * (C - D) = f 0 * C + x * A - (f 0 + x * B) * C := by grind
      rwa [this] at h3
theorem ev_x1 (x : Int) : ∀ n, q_ev x (q_x 1) (n + 2) = x := fun n => by
  have h0 : ∀ n, q_ev x q_0 n = 0 := fun n => by
    induction n with
    | zero => rfl
    | succ n ih =>
      show (0 : Int) + x * q_ev x q_0 n = 0
      rw [ih, Int.mul_zero, Int.add_zero]
  have e1 : q_sh (q_sh (q_x 1)) = q_0 := funext fun k => by show (if k + 1 + 1 = 1 then (1 : Int) else 0) = 0; rw [if_neg (by omega)]
  show (if 0 = 1 then (1 : Int) else 0) + x * ((if 0 + 1 = 1 then (1 : Int) else 0) + x * q_ev x (q_sh (q_sh (q_x 1))) n) = x
  rw [e1, h0, if_neg (by omega), if_pos (by omega)]
  omega
theorem ev_1 (x : Int) : ∀ n, q_ev x q_1 (n + 1) = 1 := fun n => by
  have h0 : ∀ n, q_ev x q_0 n = 0 := fun n => by
    induction n with
    | zero => rfl
    | succ n ih =>
      show (0 : Int) + x * q_ev x q_0 n = 0
      rw [ih, Int.mul_zero, Int.add_zero]
  show (if 0 = 0 then (1 : Int) else 0) + x * q_ev x q_0 n = 1
  rw [h0, if_pos rfl]
  omega
/-- x less a root -/
def q_rt (a : Int) : qP := q_sb (q_x 1) (q_sc a q_1)
theorem q_rt_d {P : Nat} (a : Int) : q_d P (q_rt a) 2 := fun n hn => by
  unfold q_rt
  rw [q_sb_at]
  show (P : Int) ∣ (if n = 1 then 1 else 0) - a * (if n = 0 then 1 else 0)
  rw [if_neg (by omega), if_neg (by omega), Int.mul_zero, Int.sub_zero]
  exact Int.dvd_zero _
theorem ev_rt (a x : Int) (n : Nat) : q_ev x (q_rt a) (n + 2) = x - a := by
  unfold q_rt
  rw [ev_sb, ev_x1, ev_sc, ev_1, Int.mul_one]
theorem q_rt_cm (a : Int) (h : qP) (n : Nat) : q_cm (q_rt a) h n = (if n = 0 then 0 else h (n - 1)) - a * h n := by
  unfold q_rt
  rw [q_sb_l, q_sb_at, q_x_cm, q_sc_l]
  show _ - a * q_cm q_1 h n = _
  rw [q_1_l]
  by_cases e : n = 0
  · rw [if_pos (by omega), if_pos e]
  · rw [if_neg (by omega), if_neg e]
def q_shn (k : Nat) (f : qP) : qP := fun j => f (k + j)
/-- a polynomial that is 0 at a is a multiple of x less a -/
theorem q_root {P : Nat} {f : qP} {d : Nat} {a : Int} {n : Nat} (hf : q_d P f (d + 1)) (hn : d + 1 ≤ n) (h0 : (P : Int) ∣ q_ev a f n) : ∃ h, q_d P h d ∧ q_e P f (q_cm (q_rt a) h) := by
  refine ⟨fun k => q_ev a (q_shn (k + 1) f) n, fun k hk => ev_0 _ (q_d0.mp (fun j _ => hf _ (by omega))), fun k => ?_⟩
  rw [q_rt_cm]
  have e1 : ∀ k, (P : Int) ∣ q_ev a (q_shn k f) n - (f k + a * q_ev a (q_shn (k + 1) f) n) := fun k => by
    have h1 := ev_st (x := a) n (f := q_shn k f) (d := d + 1) (fun j hj => hf _ (by omega)) hn
    have h2 : q_ev a (q_shn k f) (n + 1) = f k + a * q_ev a (q_shn (k + 1) f) n := by
      show q_shn k f 0 + a * q_ev a (q_sh (q_shn k f)) n = _
      rw [show q_sh (q_shn k f) = q_shn (k + 1) f from funext fun j => by show f (k + (j + 1)) = f (k + 1 + j); congr 1; omega]
      rfl
    rw [h2] at h1
    have := Int.dvd_neg.mpr h1
    rwa [Int.neg_sub] at this
  have h2 := e1 k
  by_cases e : k = 0
  · subst e
    rw [if_pos rfl]
    have h3 : q_shn 0 f = f := funext fun j => by show f (0 + j) = f j; rw [Nat.zero_add]
    rw [h3] at h2
    have := Int.dvd_sub h0 h2
    show (P : Int) ∣ f 0 - (0 - a * q_ev a (q_shn (0 + 1) f) n)
    rwa [show ∀ A B C : Int, A - (A - (B + C)) = B - (0 - C) by omega] at this
  · rw [if_neg e]
    have h4 := Int.dvd_neg.mpr h2
    show (P : Int) ∣ f k - (q_ev a (q_shn (k - 1 + 1) f) n - a * q_ev a (q_shn (k + 1) f) n)
    rw [show k - 1 + 1 = k by omega]
    rwa [show ∀ A B C : Int, -(A - (B + C)) = B - (A - C) by omega] at h4
/-- no more roots than its degree -/
theorem q_roots {P : Nat} (hp : q_pr P) {n : Nat} {xs : Nat → Int} : ∀ (d : Nat) (f : qP), q_d P f d → d + 2 ≤ n → (∀ i, i < d → (P : Int) ∣ q_ev (xs i) f n) → (∀ i j, i < d → j < d → (P : Int) ∣ xs i - xs j → i = j) → q_e P f q_0
  | 0, f, hf, _, _, _ => q_d0.mp hf
  | d + 1, f, hf, hn, hr, hx => by
    obtain ⟨h, hd, he⟩ := q_root (n := n) hf (by omega) (hr d (by omega))
    have hz := q_roots hp (n := n) (xs := xs) d h hd (by omega) (fun i hi => by
      have h1 := hr i (by omega)
      have h2 := ev_e (x := xs i) n he
      have h3 := ev_cm (x := xs i) hd n (q_rt_d (P := P) (xs d)) (by omega)
      have h4 : (P : Int) ∣ q_ev (xs i) (q_rt (xs d)) n * q_ev (xs i) h n := by
        have := Int.dvd_sub (Int.dvd_sub h1 h2) h3
        rwa [show ∀ A B C : Int, A - (A - B) - (B - C) = C by omega] at this
      rw [show n = (n - 2) + 2 by omega, ev_rt, ← show n = (n - 2) + 2 by omega] at h4
      rcases q_pr_mulI hp h4 with h5 | h5
      · exact absurd (hx i d (by omega) (by omega) h5) (by omega)
      · exact h5) (fun i j hi hj => hx i j (by omega) (by omega))
    refine he.tr ?_
    have := hz.r (q_rt (xs d))
    rwa [q_0_r] at this
theorem ev_last (x : Int) : ∀ (n : Nat) (f : qP), q_ev x f (n + 1) = q_ev x f n + f n * x ^ n
  | 0, f => by
    show f 0 + x * 0 = 0 + f 0 * x ^ 0
    rw [Int.pow_zero]
    omega
  | n + 1, f => by
    have ih := ev_last x n (q_sh f)
    show f 0 + x * q_ev x (q_sh f) (n + 1) = (f 0 + x * q_ev x (q_sh f) n) + f (n + 1) * x ^ (n + 1)
    rw [ih, Int.mul_add, Int.pow_succ]
    have : x * (q_sh f n * x ^ n) = f (n + 1) * (x ^ n * x) := by
      show x * (f (n + 1) * x ^ n) = _
      rw [Int.mul_left_comm, Int.mul_comm x]
    rw [this]
    omega
/-- both sides' way to a value -/
theorem hv_e {g : Nat → Nat} {x P : Nat} : ∀ j s, (P : Int) ∣ (hv_ g x P j s : Int) - ((s : Int) * (x : Int) ^ j + q_ev x (q_n g) j)
  | 0, s => by
    show (P : Int) ∣ (s : Int) - ((s : Int) * (x : Int) ^ 0 + 0)
    rw [Int.pow_zero, Int.mul_one, Int.add_zero, Int.sub_self]; exact Int.dvd_zero _
  | j + 1, s => by
    have ih := hv_e (g := g) (x := x) (P := P) j ((s * x + g j) % P)
    have h1 := q_md (s * x + g j) P
    have h2 := Int.dvd_mul_of_dvd_left (a := (P : Int)) (c := (x : Int) ^ j) h1
    have h3 := Int.dvd_add ih h2
    show (P : Int) ∣ (hv_ g x P j ((s * x + g j) % P) : Int) - ((s : Int) * (x : Int) ^ (j + 1) + q_ev x (q_n g) (j + 1))
    rw [ev_last, Int.pow_succ]
    rw [Int.natCast_add, Int.natCast_mul] at h3
    show (P : Int) ∣ (hv_ g x P j ((s * x + g j) % P) : Int) - ((s : Int) * ((x : Int) ^ j * x) + (q_ev x (q_n g) j + (g j : Int) * (x : Int) ^ j))
    generalize (x : Int) ^ j = X at h3 ⊢
    generalize ((((s * x + g j) % P : Nat)) : Int) = Y at h3
    generalize q_ev (x : Int) (q_n g) j = E at h3 ⊢
    generalize ((hv_ g x P j ((s * x + g j) % P) : Nat) : Int) = H at h3 ⊢
    have : H - (Y * X + E) + (Y - ((s : Int) * x + g j)) * X = H - ((s : Int) * (X * x) + (E + (g j : Int) * X)) := by grind
    rwa [this] at h3
theorem hv_v {g : Nat → Nat} {x P j : Nat} : (P : Int) ∣ (hv_ g x P j 0 : Int) - q_ev x (q_n g) j := by
  have := hv_e (g := g) (x := x) (P := P) j 0
  rwa [show ((0 : Nat) : Int) * (x : Int) ^ j + q_ev x (q_n g) j = q_ev x (q_n g) j by rw [show ((0 : Nat) : Int) = 0 from rfl, Int.zero_mul, Int.zero_add]] at this
theorem ark_e {P : Nat} (h0 : 0 < P) {g : Nat → Nat} {x : Nat} (hz : ∀ k, 41 ≤ k → g k = 0) : q_e P (q_n (ark g x P 0)) (q_cm (q_rt x) (q_n g)) := fun k => by
  rw [q_rt_cm]
  show (P : Int) ∣ ((ark g x P 0 k : Nat) : Int) - ((if k = 0 then 0 else (g (k - 1) : Int)) - (x : Int) * (g k : Int))
  unfold ark
  by_cases e : k < 42
  · rw [if_pos ⟨by omega, e⟩]
    have h1 := q_mz ((pz g ((k : Int) - 1) : Int) - (x : Int) * g k) h0
    have h2 : ((pz g ((k : Int) - 1) : Nat) : Int) = if k = 0 then 0 else (g (k - 1) : Int) := by
      by_cases e2 : k = 0
      · rw [if_pos e2, e2]; rfl
      · rw [if_neg e2, show ((k : Int) - 1) = ((k - 1 : Nat) : Int) by omega, pz_n]
    rw [← h2]
    exact h1
  · rw [if_neg (by omega), if_neg (by omega), hz k (by omega), hz (k - 1) (by omega)]
    show (P : Int) ∣ ((0 : Nat) : Int) - (((0 : Nat) : Int) - (x : Int) * ((0 : Nat) : Int))
    rw [show ((0 : Nat) : Int) = 0 from rfl, Int.mul_zero, Int.sub_self]; exact Int.dvd_zero _
/-- what the interpolation makes -/
theorem ipk_s {P : Nat} (hp : q_pr P) {px py : Nat → Nat} : ∀ n, n ≤ 20 → (∀ i, i < n → px i < P ∧ py i < P) → (∀ i j, i < n → j < n → px i = px j → i = j) → q_pl P 42 (ipk px py P n).1 ∧ q_pl P 42 (ipk px py P n).2 ∧ q_top P (q_n (ipk px py P n).1) n ∧ q_d P (q_n (ipk px py P n).2) n ∧ (∀ i, i < n → (P : Int) ∣ q_ev (px i) (q_n (ipk px py P n).1) 60) ∧ (∀ i, i < n → (P : Int) ∣ q_ev (px i) (q_n (ipk px py P n).2) 60 - py i) ∧ ∀ x : Int, (∀ i, i < n → ¬ (P : Int) ∣ x - px i) → ¬ (P : Int) ∣ q_ev x (q_n (ipk px py P n).1) 60
  | 0, _, _, _ => by
    have hP := hp.1
    refine ⟨pcon_pl (by omega), pcon_pl (by omega), ?_, ?_, fun i hi => absurd hi (by omega), fun i hi => absurd hi (by omega), fun x _ => ?_⟩
    · show q_top P (q_n (pcon 1)) 0
      rw [pcon_1]
      exact ⟨fun n hn => by show (P : Int) ∣ (if n = 0 then 1 else 0); rw [if_neg (by omega)]; exact Int.dvd_zero _, q_1_not hp⟩
    · show q_d P (q_n (pcon 0)) 0
      rw [pcon_0]; exact fun n _ => Int.dvd_zero _
    · show ¬ (P : Int) ∣ q_ev x (q_n (pcon 1)) 60
      rw [pcon_1, ev_1 x 59]; exact q_1_not hp
  | n + 1, hn, hb, hd => by
    have hP := hp.1
    obtain ⟨i1, i2, i3, i4, i5, i6, i7⟩ := ipk_s hp n (by omega) (fun i hi => hb i (by omega)) (fun i j hi hj => hd i j (by omega) (by omega))
    have hR : (ipk px py P (n + 1)).1 = ark (ipk px py P n).1 (px n) P 0 := rfl
    obtain ⟨cc, hcc⟩ : ∃ cc, cc = nn_m ((py n : Int) - hv_ (ipk px py P n).2 (px n) P 42 0) P * ipw (hv_ (ipk px py P n).1 (px n) P 42 0) P % P := ⟨_, rfl⟩
    have hT : (ipk px py P (n + 1)).2 = amk (ipk px py P n).2 (ipk px py P n).1 cc 0 P 42 := by rw [hcc]; rfl
    rw [hR, hT]
    generalize (ipk px py P n).1 = R at *
    generalize (ipk px py P n).2 = T at *
    have hRz : ∀ k, 41 ≤ k → R k = 0 := fun k hk => q_dvd0 (i1.1 k) (i3.1 k (by omega))
    have eR := ark_e (x := px n) (show 0 < P by omega) hRz
    have eT : q_e P (q_n (amk T R cc 0 P 42)) (q_ad (q_n T) (q_sc cc (q_n R))) := by
      refine (q_am (fun k hk => by rw [hRz k (by omega)]; exact Int.dvd_zero _)).tr ?_
      rw [q_sc_l, show q_x 0 = q_1 from rfl, q_1_l]
      exact q_e.rf
    have vR : ∀ x : Int, (P : Int) ∣ q_ev x (q_n (ark R (px n) P 0)) 60 - (x - px n) * q_ev x (q_n R) 60 := fun x => by
      have h1 := ev_e (x := x) 60 eR
      have h2 := ev_cm (x := x) i3.1 60 (q_rt_d (P := P) (px n)) (by omega)
      rw [ev_rt (px n) x 58] at h2
      have := Int.dvd_add h1 h2
      rwa [show ∀ A B C : Int, A - B + (B - C) = A - C by omega] at this
    have vT : ∀ x : Int, (P : Int) ∣ q_ev x (q_n (amk T R cc 0 P 42)) 60 - (q_ev x (q_n T) 60 + cc * q_ev x (q_n R) 60) := fun x => by
      have h1 := ev_e (x := x) 60 eT
      rwa [ev_ad, ev_sc] at h1
    have hnew : ¬ (P : Int) ∣ q_ev (px n) (q_n R) 60 := i7 _ (fun i hi h => by
      have h1 := (hb n (by omega)).1
      have h2 := (hb i (by omega)).1
      have : px n = px i := by
        obtain ⟨c, hc⟩ := h
        have : c = 0 := by
          rcases Int.lt_trichotomy c 0 with h | h | h
          · have : (P : Int) * c ≤ (P : Int) * (-1) := Int.mul_le_mul_of_nonneg_left (by omega) (by omega)
            omega
          · exact h
          · have : (P : Int) * 1 ≤ (P : Int) * c := Int.mul_le_mul_of_nonneg_left (by omega) (by omega)
            omega
        subst this
        omega
      exact absurd (hd n i (by omega) (by omega) this) (by omega))
    -- 42 or 60 terms
    have st : ∀ (g : Nat → Nat), q_pl P 42 g → (P : Int) ∣ (hv_ g (px n) P 42 0 : Int) - q_ev (px n) (q_n g) 60 := fun g hg => by
      have h1 := hv_v (g := g) (x := px n) (P := P) (j := 42)
      have h2 : ∀ d, (P : Int) ∣ q_ev (px n) (q_n g) (42 + d) - q_ev (px n) (q_n g) 42 := fun d => by
        induction d with
        | zero => rw [Nat.add_zero, Int.sub_self]; exact Int.dvd_zero _
        | succ d ih =>
          have h3 := ev_st (x := (px n : Int)) (42 + d) hg.d (by have := tp_le g 42; omega)
          have := Int.dvd_add h3 ih
          rwa [show ∀ A B C : Int, A - B + (B - C) = A - C by omega] at this
      have h3 := Int.dvd_sub h1 (h2 18)
      rwa [show ∀ A B C : Int, A - B - (C - B) = A - C by omega] at h3
    refine ⟨⟨ark_b (by omega) i1.1, ark_z i1.2⟩, ⟨amk_b (by omega) i2.1, amk_z i2.2 (Nat.le_refl _)⟩, ?_, ?_, fun i hi => ?_, fun i hi => ?_, fun x hx => ?_⟩
    · refine q_top.e ?_ eR.sy
      have trt : q_top P (q_rt (px n)) 1 := ⟨q_rt_d _, fun h => by
        unfold q_rt at h
        rw [q_sb_at] at h
        have h2 : (P : Int) ∣ (if 1 = 1 then 1 else 0) - (px n : Int) * (if 1 = 0 then 1 else 0) := h
        rw [if_pos rfl, if_neg (by omega), Int.mul_zero, Int.sub_zero] at h2
        exact q_1_not hp h2⟩
      have := trt.cm hp i3
      rwa [show 1 + n = n + 1 by omega] at this
    · refine q_d.e ?_ eT.sy
      exact (i4.mono (by omega)).ad (q_d.sc _ i3.1)
    · have h1 := vR (px i)
      by_cases e : i = n
      · subst e
        rw [Int.sub_self, Int.zero_mul, Int.sub_zero] at h1
        exact h1
      · exact (q_dv_e h1).mpr (Int.dvd_mul_of_dvd_right (i5 i (by omega)))
    · have h1 := vT (px i)
      by_cases e : i = n
      · subst e
        have hl : hv_ R (px i) P 42 0 < P := hv_b (by omega) 42 0 (by omega)
        have hne : hv_ R (px i) P 42 0 ≠ 0 := fun z => hnew (by
          have := st R i1
          rw [z] at this
          exact (q_dv_e this).mp (Int.dvd_zero _))
        have g1 := q_ipw hp hl hne
        have g2 := st R i1
        have g3 := st T i2
        have g4 := q_mz ((py i : Int) - hv_ T (px i) P 42 0) (show 0 < P by omega)
        have g5 := q_md (nn_m ((py i : Int) - hv_ T (px i) P 42 0) P * ipw (hv_ R (px i) P 42 0) P) P
        rw [← hcc, Int.natCast_mul] at g5
        generalize q_ev (px i : Int) (q_n R) 60 = eR' at *
        generalize q_ev (px i : Int) (q_n T) 60 = eT' at *
        generalize ((hv_ R (px i) P 42 0 : Nat) : Int) = vr at *
        generalize ((hv_ T (px i) P 42 0 : Nat) : Int) = vt at *
        generalize ((ipw (hv_ R (px i) P 42 0) P : Nat) : Int) = iv at *
        generalize ((nn_m ((py i : Int) - vt) P : Nat) : Int) = mi at *
        generalize q_ev (px i : Int) (q_n (amk T R cc 0 P 42)) 60 = nw at *
        obtain ⟨k1, hk1⟩ := h1
        obtain ⟨k2, hk2⟩ := g1
        obtain ⟨k3, hk3⟩ := g2
        obtain ⟨k4, hk4⟩ := g3
        obtain ⟨k5, hk5⟩ := g4
        obtain ⟨k6, hk6⟩ := g5
        have : nw - (py i : Int) = (P : Int) * (k1 + k6 * eR' - mi * iv * k3 + mi * k2 + k5 - k4) := by grind
        rw [this]
        exact Int.dvd_mul_right _ _
      · have h2 := i5 i (by omega)
        have h3 := i6 i (by omega)
        have h4 := Int.dvd_add (Int.dvd_add h1 (Int.dvd_mul_of_dvd_right (a := (P : Int)) (b := (cc : Int)) h2)) h3
        rwa [show ∀ A B C D : Int, A - (B + C) + C + (B - D) = A - D by omega] at h4
    · intro h
      have h1 := (q_dv_e (vR x)).mp h
      rcases q_pr_mulI hp h1 with h2 | h2
      · exact hx n (by omega) h2
      · exact i7 x (fun i hi => hx i (by omega)) h2
theorem q_lin {P PT RQ WM TS pB qB rB tB mB sB wB p6 q6 m6 s6 y : Int} (c1 : P ∣ PT - pB * tB) (c2 : P ∣ RQ - rB * qB) (c3 : P ∣ rB - (WM + TS)) (c4 : P ∣ WM - wB * mB) (c5 : P ∣ TS - tB * sB) (s1 : P ∣ pB - p6) (s2 : P ∣ qB - q6) (s5 : P ∣ mB - m6) (s6' : P ∣ sB - s6) (m0 : P ∣ m6) (m1 : P ∣ s6 - y) (m2 : P ∣ p6 - y * q6) : P ∣ PT - RQ := by
  have e2 : P ∣ mB := by have := Int.dvd_add s5 m0; rwa [show mB - m6 + m6 = mB by omega] at this
  have e3 : P ∣ sB - y := by have := Int.dvd_add s6' m1; rwa [show sB - s6 + (s6 - y) = sB - y by omega] at this
  have e4 : P ∣ rB - tB * y := by
    have h1 := Int.dvd_mul_of_dvd_right (b := wB) e2
    have h2 := Int.dvd_mul_of_dvd_right (b := tB) e3
    rw [Int.mul_sub] at h2
    have := Int.dvd_add (Int.dvd_add (Int.dvd_add (Int.dvd_add c3 c4) c5) h1) h2
    rwa [show rB - (WM + TS) + (WM - wB * mB) + (TS - tB * sB) + wB * mB + (tB * sB - tB * y) = rB - tB * y by omega] at this
  have e5 : P ∣ pB - y * qB := by
    have h1 := Int.dvd_mul_of_dvd_right (b := y) s2
    rw [Int.mul_sub] at h1
    have := Int.dvd_sub (Int.dvd_add s1 m2) h1
    rwa [show pB - p6 + (p6 - y * q6) - (y * qB - y * q6) = pB - y * qB by omega] at this
  have h1 := Int.dvd_mul_of_dvd_left (c := tB) e5
  have h2 := Int.dvd_mul_of_dvd_left (c := qB) e4
  rw [Int.sub_mul] at h1 h2
  have := Int.dvd_sub (Int.dvd_add c1 h1) (Int.dvd_add c2 h2)
  rwa [show PT - pB * tB + (pB * tB - y * qB * tB) - (RQ - rB * qB + (rB * qB - tB * y * qB)) = PT - RQ + (tB * y * qB - y * qB * tB) by omega, show tB * y * qB = y * qB * tB by rw [Int.mul_assoc, Int.mul_comm], Int.sub_self, Int.add_zero] at this
/-- any reduced share through the points is the class's -/
theorem jsh_u {P l m n : Nat} (hp : q_pr P) (hn : n ≤ 20) (hlm : l + m + 1 = n) {px py : Nat → Nat} (hb : ∀ i, i < n → px i < P ∧ py i < P) (hd : ∀ i j, i < n → j < n → px i = px j → i = j) {p q : qP} (hq : q_nz P q) (d3 : q_d P p (l + 1)) (d4 : q_d P q (m + 1)) (h2 : ∀ i, i < n → (P : Int) ∣ q_ev (px i) p 60 - py i * q_ev (px i) q 60) {A B : Nat → Nat} (hA : ∀ k, A k < P) (hB : ∀ k, B k < P) (hr : q_rd P p q (q_n A) (q_n B)) : A = (fsh P l (ipk px py P n).1 (ipk px py P n).2).1 ∧ B = (fsh P l (ipk px py P n).1 (ipk px py P n).2).2 := by
  have hP := hp.1
  obtain ⟨i1, i2, i3, i4, i5, i6, i7⟩ := ipk_s hp n hn hb hd
  obtain ⟨r, t, p1, p2, d1, d2, hnt, ⟨w, ⟨dw, hw⟩, hwe⟩, hrd⟩ := fsh_s (l := l) (N := n) hp (by omega) (by omega) i1 i2 i3 i4
  have hbb := dcf_b (a := (eu P l 42 (ipk px py P n).1 (ipk px py P n).2 (pcon 0) (pcon 1)).1) (b := (eu P l 42 (ipk px py P n).1 (ipk px py P n).2 (pcon 0) (pcon 1)).2) (show 0 < P by omega)
  have he : q_e P (q_cm p (q_n t)) (q_cm (q_n r) q) := by
    refine q_sb_e.mp ?_
    refine q_roots hp (n := 60 + dw + 60) (xs := fun i => (px i : Int)) n _ ?_ (by omega) (fun i hi => ?_) (fun i j hi hj h => hd i j hi hj ?_)
    · intro k hk
      rw [q_sb_at]
      exact Int.dvd_sub (d3.cm d2 k (by omega)) (d1.cm d4 k (by omega))
    · -- all values at px i, with as many terms as are needed
      have stb : ∀ (f : qP) (D : Nat), q_d P f D → D ≤ 60 → (P : Int) ∣ q_ev (px i) f (60 + dw + 60) - q_ev (px i) f 60 := fun f D hf hD => by
        have : ∀ e, (P : Int) ∣ q_ev (px i) f (60 + e) - q_ev (px i) f 60 := fun e => by
          induction e with
          | zero => rw [Nat.add_zero, Int.sub_self]; exact Int.dvd_zero _
          | succ e ih =>
            have h3 := ev_st (x := (px i : Int)) (60 + e) hf (by omega)
            have := Int.dvd_add h3 ih
            rwa [show ∀ A B C : Int, A - B + (B - C) = A - C by omega] at this
        have := this (dw + 60)
        rwa [← Nat.add_assoc] at this
      show (P : Int) ∣ q_ev (px i) (q_sb (q_cm p (q_n t)) (q_cm (q_n r) q)) (60 + dw + 60)
      rw [ev_sb]
      have c1 := ev_cm (x := (px i : Int)) d2 (60 + dw + 60) d3 (by omega)
      have c2 := ev_cm (x := (px i : Int)) d4 (60 + dw + 60) d1 (by omega)
      have c3 := ev_e (x := (px i : Int)) (60 + dw + 60) hwe
      rw [ev_ad] at c3
      have c4 := ev_cm (x := (px i : Int)) i3.1 (60 + dw + 60) hw (by omega)
      have c5 := ev_cm (x := (px i : Int)) i4 (60 + dw + 60) d2 (by omega)
      have s1 := stb _ _ d3 (by omega)
      have s2 := stb _ _ d4 (by omega)
      have s5 := stb _ _ i3.1 (by omega)
      have s6 := stb _ _ i4 (by omega)
      have m0 := i5 i hi
      have m1 := i6 i hi
      have m2 := h2 i hi
      generalize q_ev (px i : Int) (q_cm p (q_n t)) (60 + dw + 60) = PT at *
      generalize q_ev (px i : Int) (q_cm (q_n r) q) (60 + dw + 60) = RQ at *
      generalize q_ev (px i : Int) (q_cm w (q_n (ipk px py P n).1)) (60 + dw + 60) = WM at *
      generalize q_ev (px i : Int) (q_cm (q_n t) (q_n (ipk px py P n).2)) (60 + dw + 60) = TS at *
      generalize q_ev (px i : Int) p (60 + dw + 60) = pB at *
      generalize q_ev (px i : Int) q (60 + dw + 60) = qB at *
      generalize q_ev (px i : Int) (q_n r) (60 + dw + 60) = rB at *
      generalize q_ev (px i : Int) (q_n t) (60 + dw + 60) = tB at *
      generalize q_ev (px i : Int) (q_n (ipk px py P n).1) (60 + dw + 60) = mB at *
      generalize q_ev (px i : Int) (q_n (ipk px py P n).2) (60 + dw + 60) = sB at *
      generalize q_ev (px i : Int) w (60 + dw + 60) = wB at *
      generalize q_ev (px i : Int) p 60 = p6 at *
      generalize q_ev (px i : Int) q 60 = q6 at *
      generalize q_ev (px i : Int) (q_n (ipk px py P n).1) 60 = m6 at *
      generalize q_ev (px i : Int) (q_n (ipk px py P n).2) 60 = s6' at *
      exact q_lin c1 c2 c3 c4 c5 s1 s2 s5 s6 m0 m1 m2
    · have h3 := (hb i hi).1
      have h4 := (hb j hj).1
      obtain ⟨c, hc⟩ := h
      have h5 : ((px i : Nat) : Int) - px j = (P : Int) * c := hc
      have : c = 0 := by
        rcases Int.lt_trichotomy c 0 with h | h | h
        · have : (P : Int) * c ≤ (P : Int) * (-1) := Int.mul_le_mul_of_nonneg_left (by omega) (by omega)
          omega
        · exact h
        · have : (P : Int) * 1 ≤ (P : Int) * c := Int.mul_le_mul_of_nonneg_left (by omega) (by omega)
          omega
      subst this
      omega
  exact q_rd_u hp hr hrd hq hnt he hA hB hbb.1 hbb.2
def dsm (f : Nat → Int) : Nat → Int
  | 0 => 0
  | n + 1 => dsm f n + f n
def dot (T : Nat → Nat → Nat) (x : Nat → Nat) (w i : Nat) : Int := dsm (fun j => (T i j : Int) * x j) w
theorem dsm_e {P : Nat} {f g : Nat → Int} : ∀ n, (∀ j, j < n → (P : Int) ∣ f j - g j) → (P : Int) ∣ dsm f n - dsm g n
  | 0, _ => by show (P : Int) ∣ 0 - 0; exact Int.dvd_zero _
  | n + 1, h => by
    have h1 := Int.dvd_add (dsm_e n (fun j hj => h j (by omega))) (h n (by omega))
    show (P : Int) ∣ (dsm f n + f n) - (dsm g n + g n)
    rwa [show ∀ a b c d : Int, a - b + (c - d) = a + c - (b + d) by omega] at h1
theorem dsm_0 {P : Nat} {f : Nat → Int} (n : Nat) (h : ∀ j, j < n → (P : Int) ∣ f j) : (P : Int) ∣ dsm f n := by
  induction n with
  | zero => exact Int.dvd_zero _
  | succ n ih => exact Int.dvd_add (ih (fun j hj => h j (by omega))) (h n (by omega))
theorem dsm_mul (c : Int) (f : Nat → Int) : ∀ n, dsm (fun j => c * f j) n = c * dsm f n
  | 0 => (Int.mul_zero c).symm
  | n + 1 => by
    show dsm (fun j => c * f j) n + c * f n = c * (dsm f n + f n)
    rw [dsm_mul c f n, Int.mul_add]
theorem dsm_sub (f g : Nat → Int) : ∀ n, dsm (fun j => f j - g j) n = dsm f n - dsm g n
  | 0 => rfl
  | n + 1 => by
    show dsm (fun j => f j - g j) n + (f n - g n) = (dsm f n + f n) - (dsm g n + g n)
    rw [dsm_sub f g n]
    omega
theorem dsm_one {P : Nat} {f : Nat → Int} {a : Nat} : ∀ n, a < n → (∀ j, j < n → j ≠ a → (P : Int) ∣ f j) → (P : Int) ∣ dsm f n - f a
  | 0, h, _ => absurd h (by omega)
  | n + 1, h, hz => by
    show (P : Int) ∣ dsm f n + f n - f a
    by_cases e : a = n
    · subst e
      have := dsm_0 (P := P) (f := f) a (fun j hj => hz j (by omega) (by omega))
      rwa [show dsm f a + f a - f a = dsm f a by omega]
    · have h1 := dsm_one n (by omega) (fun j hj hne => hz j (by omega) hne)
      have h2 := hz n (by omega) (fun z => e z.symm)
      have := Int.dvd_add h1 h2
      rwa [show dsm f n - f a + f n = dsm f n + f n - f a by omega] at this
theorem dsm_two {P : Nat} {f : Nat → Int} {a b : Nat} (hab : a ≠ b) : ∀ n, a < n → b < n → (∀ j, j < n → j ≠ a → j ≠ b → (P : Int) ∣ f j) → (P : Int) ∣ dsm f n - (f a + f b)
  | 0, h, _, _ => absurd h (by omega)
  | n + 1, h, h2, hz => by
    show (P : Int) ∣ dsm f n + f n - (f a + f b)
    by_cases e : a = n
    · subst e
      have h1 := dsm_one (P := P) (f := f) (a := b) a (by omega) (fun j hj hne => hz j (by omega) (by omega) hne)
      rwa [show dsm f a + f a - (f a + f b) = dsm f a - f b by omega]
    · by_cases e2 : b = n
      · subst e2
        have h1 := dsm_one (P := P) (f := f) (a := a) b (by omega) (fun j hj hne => hz j (by omega) hne (by omega))
        rwa [show dsm f b + f b - (f a + f b) = dsm f b - f a by omega]
      · have h1 := dsm_two hab n (by omega) (by omega) (fun j hj => hz j (by omega))
        have h3 := hz n (by omega) (fun z => e z.symm) (fun z => e2 z.symm)
        have := Int.dvd_add h1 h3
        rwa [show dsm f n - (f a + f b) + f n = dsm f n + f n - (f a + f b) by omega] at this
/-- what holds while the table is solved: columns below k are done -/
def gI (P n : Nat) (T0 : Nat → Nat → Nat) (k r : Nat) (free : Int) (T : Nat → Nat → Nat) (pv : Nat → Int) : Prop := (r ≤ n ∧ r ≤ k) ∧ (∀ i j, i < n → j < n + 1 → T i j < P) ∧ (∀ x : Nat → Nat, (∀ i, i < n → (P : Int) ∣ dot T x (n + 1) i) → ∀ i, i < n → (P : Int) ∣ dot T0 x (n + 1) i) ∧ (∀ c, c < k → pv c = -1 ∨ ∃ q : Nat, q < r ∧ pv c = q ∧ ∀ i, i < n → T i c = if i = q then 1 else 0) ∧ (∀ c, c < k → pv c = -1 → ∀ i, r ≤ i → i < n → T i c = 0) ∧ (∀ q : Nat, q < r → ∃ c, c < k ∧ pv c = q) ∧ (∀ c c', c < k → c' < k → pv c = pv c' → pv c ≠ -1 → c = c') ∧ (free = -1 → r = k) ∧ (free ≠ -1 → 0 ≤ free ∧ free < k ∧ pv free.toNat = -1)
def upi (f : Nat → Int) (k : Nat) (v : Int) : Nat → Int := fun j => if j = k then v else f j
theorem gI_0 {P n : Nat} {T0 : Nat → Nat → Nat} {pv : Nat → Int} (h : ∀ i j, i < n → j < n + 1 → T0 i j < P) : gI P n T0 0 0 (-1) T0 pv := ⟨⟨by omega, by omega⟩, h, fun x hx => hx, fun c hc => absurd hc (by omega), fun c hc => absurd hc (by omega), fun q hq => absurd hq (by omega), fun c c' hc => absurd hc (by omega), fun _ => rfl, fun h => absurd rfl h⟩
theorem gI_skip {P n : Nat} {T0 : Nat → Nat → Nat} {k r : Nat} {free : Int} {T : Nat → Nat → Nat} {pv : Nat → Int} (h : gI P n T0 k r free T pv) (hz : ∀ i, r ≤ i → i < n → T i k = 0) : gI P n T0 (k + 1) r k T (upi pv k (-1)) := by
  obtain ⟨⟨h1, h2⟩, h3, h4, h5, h6, h7, h8, h9, h10⟩ := h
  have un : ∀ c, c ≠ k → upi pv k (-1) c = pv c := fun c hc => if_neg hc
  have us : upi pv k (-1) k = -1 := if_pos rfl
  refine ⟨⟨h1, by omega⟩, h3, h4, fun c hc => ?_, fun c hc hp i hi hi2 => ?_, fun q hq => ?_, fun c c' hc hc' he hne => ?_, fun h => by omega, fun _ => ⟨by omega, by omega, by rw [show ((k : Nat) : Int).toNat = k by omega]; exact us⟩⟩
  · by_cases e : c = k
    · rw [e]; exact Or.inl us
    · rw [un c e]; exact h5 c (by omega)
  · by_cases e : c = k
    · rw [e]; exact hz i hi hi2
    · rw [un c e] at hp; exact h6 c (by omega) hp i hi hi2
  · obtain ⟨c, hc, hv⟩ := h7 q hq
    exact ⟨c, by omega, by rw [un c (by omega)]; exact hv⟩
  · by_cases e : c = k
    · subst e; exact absurd us hne
    · by_cases e2 : c' = k
      · subst e2
        rw [us] at he
        exact absurd he hne
      · rw [un c e, un c' e2] at he
        rw [un c e] at hne
        exact h8 c c' (by omega) (by omega) he hne
/-- one pivot's work: rows exchanged, the pivot's row scaled, the others cleared -/
def gT1 (T : Nat → Nat → Nat) (p r : Nat) : Nat → Nat → Nat := swi T p r
def gT2 (P : Nat) (T : Nat → Nat → Nat) (p r k : Nat) : Nat → Nat → Nat := fun i j => if i = r then gT1 T p r r j * ipw (gT1 T p r r k) P % P else gT1 T p r i j
def gT3 (P : Nat) (T : Nat → Nat → Nat) (p r k : Nat) : Nat → Nat → Nat := fun i j => if i = r then gT2 P T p r k r j else nn_m ((gT2 P T p r k i j : Int) - (gT2 P T p r k i k : Int) * gT2 P T p r k r j) P
theorem gI_piv {P n : Nat} (hP : q_pr P) {T0 : Nat → Nat → Nat} {k r : Nat} {free : Int} {T : Nat → Nat → Nat} {pv : Nat → Int} (h : gI P n T0 k r free T pv) (hk : k < n + 1) {p : Nat} (hp1 : r ≤ p) (hp2 : p < n) (hz : T p k ≠ 0) : gI P n T0 (k + 1) (r + 1) free (gT3 P T p r k) (upi pv k r) := by
  obtain ⟨⟨h1, h2⟩, h3, h4, h5, h6, h7, h8, h9, h10⟩ := h
  have hP2 := hP.1
  have un : ∀ c, c ≠ k → upi pv k r c = pv c := fun c hc => if_neg hc
  have us : upi pv k r k = r := if_pos rfl
  have hb1 : ∀ i j, i < n → j < n + 1 → gT1 T p r i j < P := fun i j hi hj => by
    unfold gT1 swi
    by_cases e1 : i = r
    · rw [if_pos e1]; exact h3 p j hp2 hj
    · rw [if_neg e1]
      by_cases e2 : i = p
      · rw [if_pos e2]; exact h3 r j (by omega) hj
      · rw [if_neg e2]; exact h3 i j hi hj
  have hrk : gT1 T p r r k = T p k := by unfold gT1 swi; rw [if_pos rfl]
  have hinv := q_ipw hP (h3 p k hp2 hk) hz
  have hb2 : ∀ i j, i < n → j < n + 1 → gT2 P T p r k i j < P := fun i j hi hj => by
    unfold gT2
    by_cases e : i = r
    · rw [if_pos e]; exact Nat.mod_lt _ (by omega)
    · rw [if_neg e]; exact hb1 i j hi hj
  have hb3 : ∀ i j, i < n → j < n + 1 → gT3 P T p r k i j < P := fun i j hi hj => by
    unfold gT3
    by_cases e : i = r
    · rw [if_pos e]; exact hb2 r j (by omega) hj
    · rw [if_neg e]; exact nn_m_lt (by omega)
  have h2rk : gT2 P T p r k r k = 1 := by
    unfold gT2
    rw [if_pos rfl, hrk]
    have h0 : (T p k * ipw (T p k) P % P) < P := Nat.mod_lt _ (by omega)
    have hx := q_md (T p k * ipw (T p k) P) P
    rw [Int.natCast_mul, Int.mul_comm ((T p k : Nat) : Int)] at hx
    have hy := Int.dvd_add hx hinv
    have : (P : Int) ∣ ((T p k * ipw (T p k) P % P : Nat) : Int) - 1 := by
      rwa [show ∀ a b : Int, a - b + (b - 1) = a - 1 by omega] at hy
    obtain ⟨c, hc⟩ := this
    have hc0 : c = 0 := by
      rcases Int.lt_trichotomy c 0 with h | h | h
      · have : (P : Int) * c ≤ (P : Int) * (-1) := Int.mul_le_mul_of_nonneg_left (by omega) (by omega)
        omega
      · exact h
      · have : (P : Int) * 1 ≤ (P : Int) * c := Int.mul_le_mul_of_nonneg_left (by omega) (by omega)
        omega
    subst hc0
    omega
  -- columns whose entries in rows p and r are both 0 stay
  have keep : ∀ c, c < n + 1 → (∀ i, r ≤ i → i < n → T i c = 0) → ∀ i, i < n → gT3 P T p r k i c = T i c := fun c hc hz0 i hi => by
    have g1 : ∀ i, i < n → gT1 T p r i c = T i c := fun i hi => by
      unfold gT1 swi
      by_cases e1 : i = r
      · rw [if_pos e1, e1, hz0 p hp1 hp2, hz0 r (Nat.le_refl _) (by omega)]
      · rw [if_neg e1]
        by_cases e2 : i = p
        · rw [if_pos e2, e2, hz0 p hp1 hp2, hz0 r (Nat.le_refl _) (by omega)]
        · rw [if_neg e2]
    have g2 : gT2 P T p r k r c = 0 := by
      unfold gT2
      rw [if_pos rfl, g1 r (by omega), hz0 r (Nat.le_refl _) (by omega), Nat.zero_mul, Nat.zero_mod]
    unfold gT3
    by_cases e : i = r
    · rw [if_pos e, g2, e, hz0 r (Nat.le_refl _) (by omega)]
    · rw [if_neg e, g2, show ((0 : Nat) : Int) = 0 from rfl, Int.mul_zero, Int.sub_zero]
      have g3 : gT2 P T p r k i c = T i c := by unfold gT2; rw [if_neg e, g1 i hi]
      rw [g3]
      unfold nn_m
      rw [← Int.natCast_emod]
      show T i c % P = T i c
      exact Nat.mod_eq_of_lt (h3 i c hi hc)
  have zpiv : ∀ c, c < k → ∀ i, r ≤ i → i < n → T i c = 0 := fun c hc i hi hi2 => by
    rcases h5 c hc with e | ⟨q, hq, hv, hT⟩
    · exact h6 c hc e i hi hi2
    · rw [hT i hi2, if_neg (by omega)]
  have col : ∀ i, i < n → gT3 P T p r k i k = if i = r then 1 else 0 := fun i hi => by
    unfold gT3
    by_cases e : i = r
    · rw [if_pos e, if_pos e]; exact h2rk
    · rw [if_neg e, if_neg e, h2rk, show ((1 : Nat) : Int) = 1 from rfl, Int.mul_one, Int.sub_self]
      rfl
  refine ⟨⟨by omega, by omega⟩, hb3, fun x hx => ?_, fun c hc => ?_, fun c hc hpv i hi hi2 => ?_, fun q hq => ?_, fun c c' hc hc' he hne => ?_, fun h => by have := h9 h; omega, fun h => ?_⟩
  · -- kernels
    refine h4 x ?_
    have r2 : (P : Int) ∣ dot (gT2 P T p r k) x (n + 1) r := by
      have h0 := hx r (by omega)
      refine (q_dv_e ?_).mp h0
      refine dsm_e _ (fun j hj => ?_)
      show (P : Int) ∣ (gT3 P T p r k r j : Int) * x j - (gT2 P T p r k r j : Int) * x j
      rw [show gT3 P T p r k r j = gT2 P T p r k r j from if_pos rfl, Int.sub_self]; exact Int.dvd_zero _
    have all2 : ∀ i, i < n → (P : Int) ∣ dot (gT2 P T p r k) x (n + 1) i := fun i hi => by
      by_cases e : i = r
      · rw [e]; exact r2
      · have h0 := hx i hi
        have h5' : (P : Int) ∣ dot (gT3 P T p r k) x (n + 1) i - (dot (gT2 P T p r k) x (n + 1) i - (gT2 P T p r k i k : Int) * dot (gT2 P T p r k) x (n + 1) r) := by
          unfold dot
          rw [← dsm_mul, ← dsm_sub]
          refine dsm_e _ (fun j hj => ?_)
          show (P : Int) ∣ (gT3 P T p r k i j : Int) * x j - ((gT2 P T p r k i j : Int) * x j - (gT2 P T p r k i k : Int) * ((gT2 P T p r k r j : Int) * x j))
          rw [show gT3 P T p r k i j = nn_m ((gT2 P T p r k i j : Int) - (gT2 P T p r k i k : Int) * gT2 P T p r k r j) P from if_neg e]
          have hm := Int.dvd_mul_of_dvd_left (c := (x j : Int)) (q_mz ((gT2 P T p r k i j : Int) - (gT2 P T p r k i k : Int) * gT2 P T p r k r j) (show 0 < P by omega))
          rwa [Int.sub_mul, Int.sub_mul, Int.mul_assoc (gT2 P T p r k i k : Int)] at hm
        have h6' := (q_dv_e h5').mp h0
        have h7' := Int.dvd_add h6' (Int.dvd_mul_of_dvd_right (b := (gT2 P T p r k i k : Int)) r2)
        rwa [show ∀ a b : Int, a - b + b = a by omega] at h7'
    have all1 : ∀ i, i < n → (P : Int) ∣ dot (gT1 T p r) x (n + 1) i := fun i hi => by
      by_cases e : i = r
      · subst e
        have h0 := all2 i hi
        have h5' : (P : Int) ∣ dot (gT2 P T p i k) x (n + 1) i - (ipw (T p k) P : Int) * dot (gT1 T p i) x (n + 1) i := by
          unfold dot
          rw [← dsm_mul]
          refine dsm_e _ (fun j hj => ?_)
          show (P : Int) ∣ (gT2 P T p i k i j : Int) * x j - (ipw (T p k) P : Int) * ((gT1 T p i i j : Int) * x j)
          rw [show gT2 P T p i k i j = gT1 T p i i j * ipw (gT1 T p i i k) P % P from if_pos rfl, hrk]
          have hm := Int.dvd_mul_of_dvd_left (c := (x j : Int)) (q_md (gT1 T p i i j * ipw (T p k) P) P)
          rw [Int.natCast_mul, Int.sub_mul, Int.mul_comm ((gT1 T p i i j : Nat) : Int), Int.mul_assoc] at hm
          exact hm
        have h6' := (q_dv_e h5').mp h0
        rcases q_pr_mulI hP h6' with h7' | h7'
        · exfalso
          have hh := Int.dvd_sub (Int.dvd_mul_of_dvd_left (c := (T p k : Int)) h7') hinv
          rw [show ∀ a : Int, a - (a - 1) = 1 by omega] at hh
          exact q_1_not hP hh
        · exact h7'
      · have h0 := all2 i hi
        refine (q_dv_e ?_).mp h0
        refine dsm_e _ (fun j hj => ?_)
        show (P : Int) ∣ (gT2 P T p r k i j : Int) * x j - (gT1 T p r i j : Int) * x j
        rw [show gT2 P T p r k i j = gT1 T p r i j from if_neg e, Int.sub_self]; exact Int.dvd_zero _
    intro i hi
    -- rows exchanged
    by_cases e1 : i = p
    · have h0 := all1 r (by omega)
      have : dot (gT1 T p r) x (n + 1) r = dot T x (n + 1) i := by unfold dot gT1 swi; rw [if_pos rfl, e1]
      rwa [this] at h0
    · by_cases e2 : i = r
      · have h0 := all1 p hp2
        have : dot (gT1 T p r) x (n + 1) p = dot T x (n + 1) i := by
          unfold dot gT1 swi
          rw [if_neg (by omega), if_pos rfl, e2]
        rwa [this] at h0
      · have h0 := all1 i hi
        have : dot (gT1 T p r) x (n + 1) i = dot T x (n + 1) i := by
          unfold dot gT1 swi
          rw [if_neg e2, if_neg e1]
        rwa [this] at h0
  · by_cases e : c = k
    · subst e
      exact Or.inr ⟨r, by omega, us, col⟩
    · rw [un c e]
      rcases h5 c (by omega) with e2 | ⟨q, hq, hv, hT⟩
      · exact Or.inl e2
      · exact Or.inr ⟨q, by omega, hv, fun i hi => by rw [keep c (by omega) (zpiv c (by omega)) i hi]; exact hT i hi⟩
  · by_cases e : c = k
    · subst e; rw [us] at hpv; omega
    · rw [un c e] at hpv
      rw [keep c (by omega) (zpiv c (by omega)) i hi2]
      exact h6 c (by omega) hpv i (by omega) hi2
  · by_cases e : q = r
    · exact ⟨k, by omega, by rw [us, e]⟩
    · obtain ⟨c, hc, hv⟩ := h7 q (by omega)
      exact ⟨c, by omega, by rw [un c (by omega)]; exact hv⟩
  · have lt : ∀ c, c < k → pv c < r := fun c hc => by
      rcases h5 c hc with e | ⟨q, hq, hv, _⟩
      · omega
      · omega
    by_cases e : c = k
    · by_cases e2 : c' = k
      · omega
      · rw [e, us, un c' e2] at he
        have := lt c' (by omega)
        omega
    · by_cases e2 : c' = k
      · rw [un c e, e2, us] at he
        have := lt c (by omega)
        omega
      · rw [un c e, un c' e2] at he
        rw [un c e] at hne
        exact h8 c c' (by omega) (by omega) he hne
  · obtain ⟨a1, a2, a3⟩ := h10 h
    exact ⟨a1, by omega, by rw [un _ (by omega)]; exact a3⟩
/-- the vector that is told -/
def gX (P : Nat) (free : Int) (T : Nat → Nat → Nat) (pv : Nat → Int) : Nat → Nat := fun c => if (c : Int) = free then 1 else if pv c = -1 then 0 else nn_m (-(T (pv c).toNat free.toNat : Int)) P
theorem gI_end {P n : Nat} (hP : q_pr P) {T0 : Nat → Nat → Nat} {r : Nat} {free : Int} {T : Nat → Nat → Nat} {pv : Nat → Int} (h : gI P n T0 (n + 1) r free T pv) : (0 ≤ free ∧ free < n + 1 ∧ gX P free T pv free.toNat = 1) ∧ ∀ i, i < n → (P : Int) ∣ dot T0 (gX P free T pv) (n + 1) i := by
  obtain ⟨⟨h1, h2⟩, h3, h4, h5, h6, h7, h8, h9, h10⟩ := h
  have hP2 := hP.1
  have hf : free ≠ -1 := fun e => by have := h9 e; omega
  obtain ⟨f1, f2, f3⟩ := h10 hf
  obtain ⟨f, rfl⟩ : ∃ f : Nat, free = f := ⟨free.toNat, by omega⟩
  rw [show ((f : Nat) : Int).toNat = f by omega] at f3 ⊢
  have xf : gX P f T pv f = 1 := if_pos rfl
  refine ⟨⟨by omega, by omega, xf⟩, h4 _ (fun i hi => ?_)⟩
  by_cases e : i < r
  · obtain ⟨c, hc, hv⟩ := h7 i e
    have hcf : c ≠ f := fun z => by rw [z, f3] at hv; omega
    have hTc : ∀ j, j < n → T j c = if j = i then 1 else 0 := by
      rcases h5 c hc with e2 | ⟨q, hq, hv2, hT⟩
      · omega
      · have : q = i := by omega
        subst this; exact hT
    have xc : gX P f T pv c = nn_m (-(T i f : Int)) P := by
      unfold gX
      rw [if_neg (by omega), if_neg (by omega), hv]
      rfl
    have hs := dsm_two (P := P) (f := fun j => (T i j : Int) * (gX P f T pv j : Int)) (a := c) (b := f) hcf (n + 1) hc (by omega) (fun j hj hj1 hj2 => by
      rcases h5 j hj with e2 | ⟨q, hq, hv2, hT⟩
      · show (P : Int) ∣ (T i j : Int) * (gX P f T pv j : Int)
        rw [show gX P f T pv j = 0 from by unfold gX; rw [if_neg (by omega), if_pos e2]]
        exact Int.dvd_mul_of_dvd_right (Int.dvd_zero _)
      · show (P : Int) ∣ (T i j : Int) * (gX P f T pv j : Int)
        have hqi : q ≠ i := fun z => hj1 (h8 j c hj hc (by omega) (by omega))
        rw [hT i hi, if_neg (fun z => hqi z.symm)]
        exact Int.dvd_mul_of_dvd_left (Int.dvd_zero _))
    refine (q_dv_e hs).mpr ?_
    show (P : Int) ∣ (T i c : Int) * (gX P f T pv c : Int) + (T i f : Int) * (gX P f T pv f : Int)
    rw [hTc i hi, if_pos rfl, xc, xf, show ((1 : Nat) : Int) = 1 from rfl, Int.one_mul, Int.mul_one]
    have := q_mz (-(T i f : Int)) (show 0 < P by omega)
    rwa [show ∀ a b : Int, a - -b = a + b by omega] at this
  · refine dsm_0 _ (fun j hj => ?_)
    show (P : Int) ∣ (T i j : Int) * (gX P f T pv j : Int)
    have hz : T i j = 0 := by
      rcases h5 j hj with e2 | ⟨q, hq, hv2, hT⟩
      · exact h6 j hj e2 i (by omega) hi
      · rw [hT i hi, if_neg (by omega)]
    rw [hz]
    exact Int.dvd_mul_of_dvd_left (Int.dvd_zero _)
