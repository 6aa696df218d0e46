/-- sequences of ints, by their product as series -/
abbrev qP : Type := Nat → Int
def q_sh (f : qP) : qP := fun n => f (n + 1)
def q_ad (f g : qP) : qP := fun n => f n + g n
def q_sc (c : Int) (f : qP) : qP := fun n => c * f n
def q_cm : qP → qP → Nat → Int
  | f, g, 0 => f 0 * g 0
  | f, g, n + 1 => f 0 * g (n + 1) + q_cm (q_sh f) g n
theorem q_cm_s (f g : qP) (n : Nat) : q_cm f g (n + 1) = f 0 * g (n + 1) + q_cm (q_sh f) g n := rfl
theorem q_cm_r (f g : qP) : ∀ n, q_cm f g (n + 1) = f (n + 1) * g 0 + q_cm f (q_sh g) n
  | 0 => by show f 0 * g 1 + f 1 * g 0 = f 1 * g 0 + f 0 * g 1; omega
  | n + 1 => by
    have := q_cm_r (q_sh f) g n
    rw [q_cm_s f g (n + 1), this, q_cm_s f (q_sh g) n]
    show f 0 * g (n + 2) + (f (n + 2) * g 0 + _) = f (n + 2) * g 0 + (f 0 * g (n + 2) + _)
    omega
theorem q_comm (f g : qP) : q_cm f g = q_cm g f := by
  funext n
  induction n generalizing f g with
  | zero => exact Int.mul_comm _ _
  | succ n ih => rw [q_cm_s, q_cm_r g f, ih, Int.mul_comm]
theorem q_add_l (f g h : qP) : q_cm (q_ad f g) h = q_ad (q_cm f h) (q_cm g h) := by
  funext n
  induction n generalizing f g with
  | zero => exact Int.add_mul _ _ _
  | succ n ih =>
    rw [q_cm_s, show q_sh (q_ad f g) = q_ad (q_sh f) (q_sh g) from rfl, ih]
    show (f 0 + g 0) * h (n + 1) + (q_cm (q_sh f) h n + q_cm (q_sh g) h n) = (f 0 * h (n + 1) + q_cm (q_sh f) h n) + (g 0 * h (n + 1) + q_cm (q_sh g) h n)
    rw [Int.add_mul]
    omega
theorem q_sc_l (c : Int) (f h : qP) : q_cm (q_sc c f) h = q_sc c (q_cm f h) := by
  funext n
  induction n generalizing f with
  | zero => exact Int.mul_assoc _ _ _
  | succ n ih =>
    rw [q_cm_s, show q_sh (q_sc c f) = q_sc c (q_sh f) from rfl, ih]
    show c * f 0 * h (n + 1) + c * q_cm (q_sh f) h n = c * (f 0 * h (n + 1) + q_cm (q_sh f) h n)
    rw [Int.mul_add, Int.mul_assoc]
theorem q_add_r (f g h : qP) : q_cm h (q_ad f g) = q_ad (q_cm h f) (q_cm h g) := by rw [q_comm, q_add_l, q_comm f, q_comm g]
theorem q_sc_r (c : Int) (f h : qP) : q_cm h (q_sc c f) = q_sc c (q_cm h f) := by rw [q_comm, q_sc_l, q_comm f]
theorem q_assoc (f g h : qP) : q_cm (q_cm f g) h = q_cm f (q_cm g h) := by
  funext n
  induction n generalizing f with
  | zero => exact Int.mul_assoc _ _ _
  | succ n ih =>
    have e : q_sh (q_cm f g) = q_ad (q_sc (f 0) (q_sh g)) (q_cm (q_sh f) g) := rfl
    rw [q_cm_s, e, q_add_l, q_sc_l]
    show f 0 * g 0 * h (n + 1) + (f 0 * q_cm (q_sh g) h n + q_cm (q_cm (q_sh f) g) h n) = f 0 * (g 0 * h (n + 1) + q_cm (q_sh g) h n) + q_cm (q_sh f) (q_cm g h) n
    rw [ih, Int.mul_add, Int.mul_assoc, Int.add_assoc]
def q_1 : qP := fun n => if n = 0 then 1 else 0
def q_0 : qP := fun _ => 0
theorem q_0_l (f : qP) : q_cm q_0 f = q_0 := by
  funext n
  induction n generalizing f with
  | zero => exact Int.zero_mul _
  | succ n ih =>
    rw [q_cm_s, show q_sh q_0 = q_0 from rfl, ih]
    show (0 : Int) * f (n + 1) + 0 = 0
    omega
theorem q_1_l (f : qP) : q_cm q_1 f = f := by
  funext n
  cases n with
  | zero => exact Int.one_mul _
  | succ n =>
    rw [q_cm_s, show q_sh q_1 = q_0 from rfl, q_0_l]
    show (1 : Int) * f (n + 1) + 0 = f (n + 1)
    omega
theorem q_1_r (f : qP) : q_cm f q_1 = f := by rw [q_comm, q_1_l]
theorem q_0_r (f : qP) : q_cm f q_0 = q_0 := by rw [q_comm, q_0_l]
/-- alike modulo P -/
def q_e (P : Nat) (f g : qP) : Prop := ∀ n, (P : Int) ∣ f n - g n
theorem q_e.rf {P : Nat} {f : qP} : q_e P f f := fun n => by rw [Int.sub_self]; exact Int.dvd_zero _
theorem q_e.sy {P : Nat} {f g : qP} (h : q_e P f g) : q_e P g f := fun n => by
  have := Int.dvd_neg.mpr (h n)
  rwa [Int.neg_sub] at this
theorem q_e.tr {P : Nat} {f g h : qP} (h1 : q_e P f g) (h2 : q_e P g h) : q_e P f h := fun n => by
  have := Int.dvd_add (h1 n) (h2 n)
  rwa [show f n - g n + (g n - h n) = f n - h n by omega] at this
theorem q_e.ad {P : Nat} {f g f2 g2 : qP} (h1 : q_e P f f2) (h2 : q_e P g g2) : q_e P (q_ad f g) (q_ad f2 g2) := fun n => by
  have := Int.dvd_add (h1 n) (h2 n)
  show (P : Int) ∣ (f n + g n) - (f2 n + g2 n)
  rwa [show f n - f2 n + (g n - g2 n) = (f n + g n) - (f2 n + g2 n) by omega] at this
theorem q_e.sc {P : Nat} {f f2 : qP} (c : Int) (h1 : q_e P f f2) : q_e P (q_sc c f) (q_sc c f2) := fun n => by
  show (P : Int) ∣ c * f n - c * f2 n
  rw [← Int.mul_sub]
  exact Int.dvd_mul_of_dvd_right (h1 n)
theorem q_e.l {P : Nat} {f f2 : qP} (g : qP) (h1 : q_e P f f2) : q_e P (q_cm f g) (q_cm f2 g) := by
  intro n
  induction n generalizing f f2 with
  | zero =>
    show (P : Int) ∣ f 0 * g 0 - f2 0 * g 0
    rw [← Int.sub_mul]
    exact Int.dvd_mul_of_dvd_left (h1 0)
  | succ n ih =>
    have h2 := ih (f := q_sh f) (f2 := q_sh f2) (fun n => h1 (n + 1))
    have h3 : (P : Int) ∣ (f 0 - f2 0) * g (n + 1) := Int.dvd_mul_of_dvd_left (h1 0)
    have := Int.dvd_add h3 h2
    rw [q_cm_s, q_cm_s]
    rw [Int.sub_mul] at this
    rwa [show ∀ a b c d : Int, a + b - (c + d) = a - c + (b - d) by omega]
theorem q_e.r {P : Nat} {g g2 : qP} (f : qP) (h1 : q_e P g g2) : q_e P (q_cm f g) (q_cm f g2) := by
  rw [q_comm f g, q_comm f g2]
  exact q_e.l f h1
theorem q_e.cm {P : Nat} {f f2 g g2 : qP} (h : q_e P f f2) (h1 : q_e P g g2) : q_e P (q_cm f g) (q_cm f2 g2) := (h.l g).tr (h1.r f2)
/-- primes, as both sides test them -/
def q_pr (P : Nat) : Prop := 2 ≤ P ∧ ∀ d, 2 ≤ d → d * d ≤ P → P % d ≠ 0
theorem q_pr_div {P d : Nat} (h : q_pr P) (hd : d ∣ P) : d = 1 ∨ d = P := by
  obtain ⟨e, he⟩ := hd
  have h0 : 0 < P := by have := h.1; omega
  have hd0 : d ≠ 0 := by intro z; subst z; omega
  have he0 : e ≠ 0 := by intro z; subst z; omega
  by_cases h1 : d = 1
  · exact Or.inl h1
  · by_cases h2 : e = 1
    · right; rw [he, h2, Nat.mul_one]
    · exfalso
      rcases Nat.le_total d e with hle | hle
      · exact h.2 d (by omega) (by rw [he]; exact Nat.mul_le_mul_left d hle) (by rw [he]; exact Nat.mul_mod_right d e)
      · exact h.2 e (by omega) (by rw [he]; exact Nat.mul_le_mul_right e hle) (by rw [he]; exact Nat.mul_mod_left d e)
theorem q_pr_mul {P a b : Nat} (h : q_pr P) (hd : P ∣ a * b) : P ∣ a ∨ P ∣ b := by
  rcases q_pr_div h (Nat.gcd_dvd_left P a) with h1 | h1
  · exact Or.inr (Nat.Coprime.dvd_of_dvd_mul_left h1 hd)
  · exact Or.inl (by rw [← h1]; exact Nat.gcd_dvd_right P a)
theorem q_pr_mulI {P : Nat} {a b : Int} (h : q_pr P) (hd : (P : Int) ∣ a * b) : (P : Int) ∣ a ∨ (P : Int) ∣ b := by
  have := Int.natAbs_dvd_natAbs.mpr hd
  rw [Int.natAbs_mul, Int.natAbs_natCast] at this
  rcases q_pr_mul h this with h1 | h1
  · exact Or.inl (Int.natAbs_dvd_natAbs.mp (by rw [Int.natAbs_natCast]; exact h1))
  · exact Or.inr (Int.natAbs_dvd_natAbs.mp (by rw [Int.natAbs_natCast]; exact h1))
/-- binomial numbers -/
def q_bin : Nat → Nat → Nat
  | _, 0 => 1
  | 0, _ + 1 => 0
  | n + 1, k + 1 => q_bin n k + q_bin n (k + 1)
theorem q_bin_0 (n : Nat) : q_bin n 0 = 1 := by cases n <;> rfl
theorem q_bin_z : ∀ n k, n < k → q_bin n k = 0
  | 0, 0, h => by omega
  | 0, k + 1, _ => rfl
  | n + 1, 0, h => by omega
  | n + 1, k + 1, h => by
    show q_bin n k + q_bin n (k + 1) = 0
    rw [q_bin_z n k (by omega), q_bin_z n (k + 1) (by omega)]
theorem q_bin_n : ∀ n, q_bin n n = 1
  | 0 => rfl
  | n + 1 => by
    show q_bin n n + q_bin n (n + 1) = 1
    rw [q_bin_n n, q_bin_z n (n + 1) (by omega)]
theorem q_bin_m : ∀ n k, (k + 1) * q_bin (n + 1) (k + 1) = (n + 1) * q_bin n k
  | 0, 0 => rfl
  | 0, k + 1 => by
    rw [q_bin_z 1 (k + 2) (by omega), q_bin_z 0 (k + 1) (by omega)]
    rfl
  | n + 1, 0 => by
    have h1 := q_bin_m n 0
    rw [q_bin_0 n] at h1
    show (0 + 1) * (q_bin (n + 1) 0 + q_bin (n + 1) (0 + 1)) = (n + 1 + 1) * q_bin (n + 1) 0
    rw [q_bin_0]
    omega
  | n + 1, k + 1 => by
    have h1 := q_bin_m n k
    have h2 := q_bin_m n (k + 1)
    show (k + 2) * (q_bin (n + 1) (k + 1) + q_bin (n + 1) (k + 2)) = (n + 2) * q_bin (n + 1) (k + 1)
    have h3 : q_bin (n + 1) (k + 1) = q_bin n k + q_bin n (k + 1) := rfl
    rw [Nat.mul_add, h2, Nat.add_mul k 2, Nat.add_mul n 2]
    have h4 : (k + 1) * q_bin (n + 1) (k + 1) = k * q_bin (n + 1) (k + 1) + q_bin (n + 1) (k + 1) := by rw [Nat.add_mul, Nat.one_mul]
    have h5 : (n + 1) * q_bin n k + (n + 1) * q_bin n (k + 1) = n * q_bin (n + 1) (k + 1) + q_bin (n + 1) (k + 1) := by
      rw [← Nat.mul_add, ← h3, Nat.add_mul, Nat.one_mul]
    omega
theorem q_bin_p {P k : Nat} (h : q_pr P) (h0 : 0 < k) (h1 : k < P) : P ∣ q_bin P k := by
  obtain ⟨n, rfl⟩ : ∃ n, P = n + 1 := ⟨P - 1, by omega⟩
  obtain ⟨j, rfl⟩ : ∃ j, k = j + 1 := ⟨k - 1, by omega⟩
  have e := q_bin_m n j
  rcases q_pr_mul h (show (n + 1) ∣ (j + 1) * q_bin (n + 1) (j + 1) by rw [e]; exact Nat.dvd_mul_right _ _) with h2 | h2
  · exact absurd (Nat.le_of_dvd (by omega) h2) (by omega)
  · exact h2
def q_sm (f : Nat → Nat) : Nat → Nat
  | 0 => 0
  | n + 1 => q_sm f n + f n
theorem q_sm_congr {f g : Nat → Nat} : ∀ n, (∀ k, k < n → f k = g k) → q_sm f n = q_sm g n
  | 0, _ => rfl
  | n + 1, h => by
    show q_sm f n + f n = q_sm g n + g n
    rw [q_sm_congr n (fun k hk => h k (by omega)), h n (by omega)]
theorem q_sm_add {f g : Nat → Nat} : ∀ n, q_sm (fun k => f k + g k) n = q_sm f n + q_sm g n
  | 0 => rfl
  | n + 1 => by
    show q_sm (fun k => f k + g k) n + (f n + g n) = (q_sm f n + f n) + (q_sm g n + g n)
    rw [q_sm_add n]
    omega
theorem q_sm_mul {f : Nat → Nat} (c : Nat) : ∀ n, q_sm (fun k => c * f k) n = c * q_sm f n
  | 0 => rfl
  | n + 1 => by
    show q_sm (fun k => c * f k) n + c * f n = c * (q_sm f n + f n)
    rw [q_sm_mul c n, Nat.mul_add]
theorem q_sm_first {f : Nat → Nat} : ∀ n, q_sm f (n + 1) = f 0 + q_sm (fun k => f (k + 1)) n
  | 0 => by show 0 + f 0 = f 0 + 0; omega
  | n + 1 => by
    have := q_sm_first (f := f) n
    show q_sm f (n + 1) + f (n + 1) = f 0 + (q_sm (fun k => f (k + 1)) n + f (n + 1))
    omega
theorem q_sm_dvd {f : Nat → Nat} {P : Nat} : ∀ n, (∀ k, k < n → P ∣ f k) → P ∣ q_sm f n
  | 0, _ => Nat.dvd_zero P
  | n + 1, h => Nat.dvd_add (q_sm_dvd n (fun k hk => h k (by omega))) (h n (by omega))
/-- the powers of a number and one -/
theorem q_binom (a : Nat) : ∀ n, (a + 1) ^ n = q_sm (fun k => q_bin n k * a ^ k) (n + 1)
  | 0 => rfl
  | n + 1 => by
    have ih := q_binom a n
    have e1 : q_sm (fun k => q_bin (n + 1) k * a ^ k) (n + 2) = 1 + q_sm (fun k => q_bin n k * a ^ (k + 1) + q_bin n (k + 1) * a ^ (k + 1)) (n + 1) := by
      rw [q_sm_first, q_bin_0, Nat.pow_zero]
      congr 1
      exact q_sm_congr _ (fun k _ => by show (q_bin n k + q_bin n (k + 1)) * a ^ (k + 1) = _; rw [Nat.add_mul])
    have e2 : q_sm (fun k => q_bin n k * a ^ (k + 1)) (n + 1) = a * (a + 1) ^ n := by
      rw [ih, ← q_sm_mul]
      exact q_sm_congr _ (fun k _ => by rw [Nat.pow_succ, Nat.mul_comm (a ^ k) a, Nat.mul_left_comm])
    have e3 : 1 + q_sm (fun k => q_bin n (k + 1) * a ^ (k + 1)) (n + 1) = (a + 1) ^ n := by
      have h1 : q_sm (fun k => q_bin n (k + 1) * a ^ (k + 1)) (n + 1) = q_sm (fun k => q_bin n (k + 1) * a ^ (k + 1)) n := by
        show _ + q_bin n (n + 1) * a ^ (n + 1) = _
        rw [q_bin_z n (n + 1) (by omega), Nat.zero_mul, Nat.add_zero]
      rw [h1, ih, q_sm_first, q_bin_0, Nat.pow_zero]
    show (a + 1) ^ (n + 1) = q_sm (fun k => q_bin (n + 1) k * a ^ k) (n + 2)
    rw [e1, q_sm_add, e2, Nat.pow_succ, Nat.mul_add, Nat.mul_one]
    rw [Nat.mul_comm ((a + 1) ^ n) a]
    omega
/-- Fermat -/
theorem q_fermat {P : Nat} (h : q_pr P) : ∀ a, a ^ P % P = a % P
  | 0 => by rw [Nat.zero_pow (by have := h.1; omega)]
  | a + 1 => by
    have ih := q_fermat h a
    obtain ⟨n, hn⟩ : ∃ n, P = n + 1 := ⟨P - 1, by have := h.1; omega⟩
    have e1 : (a + 1) ^ P = 1 + (q_sm (fun k => q_bin P (k + 1) * a ^ (k + 1)) n + a ^ P) := by
      rw [q_binom, q_sm_first, q_bin_0, Nat.pow_zero]
      congr 1
      rw [hn]
      show q_sm (fun k => q_bin (n + 1) (k + 1) * a ^ (k + 1)) n + q_bin (n + 1) (n + 1) * a ^ (n + 1) = _
      rw [q_bin_n, Nat.one_mul]
    obtain ⟨c, hc⟩ : P ∣ q_sm (fun k => q_bin P (k + 1) * a ^ (k + 1)) n := q_sm_dvd n (fun k hk => Nat.dvd_mul_right_of_dvd (q_bin_p h (by omega) (by omega)) _)
    rw [e1, hc, show 1 + (P * c + a ^ P) = (1 + a ^ P) + P * c by omega, Nat.add_mul_mod_self_left, Nat.add_mod, ih, ← Nat.add_mod, Nat.add_comm]
/-- a number's power P - 2 is its inverse -/
theorem q_inv {P a : Nat} (h : q_pr P) (ha : a % P ≠ 0) : (a ^ (P - 2) % P) * a % P = 1 := by
  have h2 := h.1
  have hf := q_fermat h a
  have e : a ^ P = a ^ (P - 2) * a * a := by
    rw [← Nat.pow_succ, ← Nat.pow_succ]
    congr 1
    omega
  have hd : P ∣ a * (a ^ (P - 2) * a - 1) := by
    have h1 : 1 ≤ a ^ (P - 2) * a := by
      have : 0 < a := by
        rcases Nat.eq_zero_or_pos a with z | z
        · subst z; simp at ha
        · exact z
      exact Nat.mul_pos (Nat.pow_pos this) this
    have h3 : a * (a ^ (P - 2) * a - 1) = a ^ P - a := by
      rw [Nat.mul_sub, Nat.mul_one, e, Nat.mul_comm a]
    rw [h3]
    exact Nat.dvd_of_mod_eq_zero (Nat.sub_mod_eq_zero_of_mod_eq hf)
  rcases q_pr_mul h hd with h3 | h3
  · exact absurd (Nat.mod_eq_zero_of_dvd h3) ha
  · rw [Nat.mod_mul_mod]
    obtain ⟨c, hc⟩ := h3
    have h1 : 1 ≤ a ^ (P - 2) * a := by
      have : 0 < a := by
        rcases Nat.eq_zero_or_pos a with z | z
        · subst z; simp at ha
        · exact z
      exact Nat.mul_pos (Nat.pow_pos this) this
    rw [show a ^ (P - 2) * a = 1 + P * c by omega, Nat.add_mul_mod_self_left]
    exact Nat.mod_eq_of_lt (by omega)
theorem q_least {p : Nat → Prop} (h : ∃ n, p n) : ∃ n, p n ∧ ∀ k, k < n → ¬ p k := by
  obtain ⟨n, hn⟩ := h
  induction n using Nat.strongRecOn with
  | ind n ih =>
    by_cases h1 : ∃ k, k < n ∧ p k
    · obtain ⟨k, hk, hp⟩ := h1
      exact ih k hk hp
    · exact ⟨n, hn, fun k hk hp => h1 ⟨k, hk, hp⟩⟩
/-- no terms from d on -/
def q_d (P : Nat) (f : qP) (d : Nat) : Prop := ∀ n, d ≤ n → (P : Int) ∣ f n
theorem q_d.mono {P : Nat} {f : qP} {d e : Nat} (h : q_d P f d) (hd : d ≤ e) : q_d P f e := fun n hn => h n (Nat.le_trans hd hn)
theorem q_dv_e {P : Nat} {a b : Int} (h : (P : Int) ∣ a - b) : (P : Int) ∣ a ↔ (P : Int) ∣ b := by
  constructor
  · intro h1
    have := Int.dvd_sub h1 h
    rwa [show a - (a - b) = b by omega] at this
  · intro h1
    have := Int.dvd_add h h1
    rwa [show a - b + b = a by omega] at this
theorem q_d.e {P : Nat} {f g : qP} {d : Nat} (h : q_d P f d) (he : q_e P f g) : q_d P g d := fun n hn => (q_dv_e (he n)).mp (h n hn)
theorem q_d0 {P : Nat} {f : qP} : q_d P f 0 ↔ q_e P f q_0 := by
  constructor
  · intro h n
    show (P : Int) ∣ f n - 0
    rw [Int.sub_zero]
    exact h n (by omega)
  · intro h n _
    have : (P : Int) ∣ f n - 0 := h n
    rwa [Int.sub_zero] at this
theorem q_d.cm {P : Nat} {f g : qP} {a b : Nat} (hf : q_d P f a) (hg : q_d P g b) : ∀ n, a + b ≤ n + 1 → (P : Int) ∣ q_cm f g n := by
  intro n
  induction n generalizing f a with
  | zero =>
    intro h
    show (P : Int) ∣ f 0 * g 0
    rcases (show a = 0 ∨ b = 0 by omega) with h1 | h1
    · exact Int.dvd_mul_of_dvd_left (hf 0 (by omega))
    · exact Int.dvd_mul_of_dvd_right (hg 0 (by omega))
  | succ n ih =>
    intro h
    by_cases h1 : a = 0
    · subst h1
      have := ((q_d0.mp hf).l g) (n + 1)
      rw [q_0_l] at this
      exact (q_dv_e this).mpr (Int.dvd_zero _)
    · rw [q_cm_s]
      exact Int.dvd_add (Int.dvd_mul_of_dvd_right (hg _ (by omega))) (ih (f := q_sh f) (a := a - 1) (fun k hk => hf (k + 1) (by omega)) (by omega))
theorem q_d.cmd {P : Nat} {f g : qP} {a b c : Nat} (hf : q_d P f a) (hg : q_d P g b) (hc : a + b ≤ c + 1) : q_d P (q_cm f g) c := fun n hn => hf.cm hg n (by omega)
theorem q_d.ad {P : Nat} {f g : qP} {a : Nat} (hf : q_d P f a) (hg : q_d P g a) : q_d P (q_ad f g) a := fun n hn => Int.dvd_add (hf n hn) (hg n hn)
theorem q_d.sc {P : Nat} {f : qP} {a : Nat} (c : Int) (hf : q_d P f a) : q_d P (q_sc c f) a := fun n hn => Int.dvd_mul_of_dvd_right (hf n hn)
theorem q_tops {P : Nat} {f g : qP} {a b : Nat} (hf : q_d P f (a + 1)) (hg : q_d P g (b + 1)) : (P : Int) ∣ q_cm f g (a + b) - f a * g b := by
  induction a generalizing f with
  | zero =>
    rw [Nat.zero_add]
    cases b with
    | zero => show (P : Int) ∣ f 0 * g 0 - f 0 * g 0; rw [Int.sub_self]; exact Int.dvd_zero _
    | succ b =>
      rw [q_cm_s]
      have h1 : q_e P (q_sh f) q_0 := q_d0.mp (fun n _ => hf (n + 1) (by omega))
      have h2 := h1.l g b
      rw [q_0_l] at h2
      have h3 : (P : Int) ∣ q_cm (q_sh f) g b := (q_dv_e h2).mpr (Int.dvd_zero _)
      rwa [show ∀ x y : Int, x + y - x = y by omega]
  | succ a ih =>
    have h1 := ih (f := q_sh f) (fun n hn => hf (n + 1) (by omega))
    rw [show a + 1 + b = (a + b) + 1 by omega, q_cm_s]
    have h2 : (P : Int) ∣ f 0 * g (a + b + 1) := Int.dvd_mul_of_dvd_right (hg _ (by omega))
    have := Int.dvd_add h2 h1
    rwa [show ∀ x y z : Int, x + (y - z) = x + y - z by omega] at this
theorem q_lowz {P : Nat} {g : qP} {j : Nat} (hg : ∀ k, k < j → (P : Int) ∣ g k) : ∀ (f : qP) (n : Nat), n < j → (P : Int) ∣ q_cm f g n
  | f, 0, h => Int.dvd_mul_of_dvd_right (hg 0 h)
  | f, n + 1, h => by
    rw [q_cm_s]
    exact Int.dvd_add (Int.dvd_mul_of_dvd_right (hg _ h)) (q_lowz hg (q_sh f) n (by omega))
theorem q_lows {P : Nat} {f g : qP} {i j : Nat} (hf : ∀ k, k < i → (P : Int) ∣ f k) (hg : ∀ k, k < j → (P : Int) ∣ g k) : (P : Int) ∣ q_cm f g (i + j) - f i * g j := by
  induction i generalizing f with
  | zero =>
    rw [Nat.zero_add]
    cases j with
    | zero => show (P : Int) ∣ f 0 * g 0 - f 0 * g 0; rw [Int.sub_self]; exact Int.dvd_zero _
    | succ j =>
      rw [q_cm_s]
      have h3 := q_lowz hg (q_sh f) j (by omega)
      rwa [show ∀ x y : Int, x + y - x = y by omega]
  | succ i ih =>
    have h1 := ih (f := q_sh f) (fun n hn => hf (n + 1) (by omega))
    rw [show i + 1 + j = (i + j) + 1 by omega, q_cm_s]
    have h2 : (P : Int) ∣ f 0 * g (i + j + 1) := Int.dvd_mul_of_dvd_left (hf 0 (by omega))
    have := Int.dvd_add h2 h1
    rwa [show ∀ x y z : Int, x + (y - z) = x + y - z by omega] at this
/-- not alike 0 -/
def q_nz (P : Nat) (f : qP) : Prop := ∃ n, ¬ (P : Int) ∣ f n
theorem q_nz.e {P : Nat} {f g : qP} (h : q_nz P f) (he : q_e P f g) : q_nz P g := by
  obtain ⟨n, hn⟩ := h
  exact ⟨n, fun h => hn ((q_dv_e (he n)).mpr h)⟩
theorem q_nnz {P : Nat} {f : qP} (h : ¬ q_nz P f) : q_e P f q_0 := fun n => by
  show (P : Int) ∣ f n - 0
  rw [Int.sub_zero]
  exact Classical.byContradiction fun h1 => h ⟨n, h1⟩
theorem q_low {P : Nat} {f : qP} (h : q_nz P f) : ∃ n, (¬ (P : Int) ∣ f n) ∧ ∀ k, k < n → (P : Int) ∣ f k := by
  obtain ⟨n, h1, h2⟩ := q_least h
  exact ⟨n, h1, fun k hk => Classical.byContradiction (h2 k hk)⟩
theorem q_dom {P : Nat} (hp : q_pr P) {f g : qP} (hf : q_nz P f) (hg : q_nz P g) : q_nz P (q_cm f g) := by
  obtain ⟨i, h1, h2⟩ := q_low hf
  obtain ⟨j, h3, h4⟩ := q_low hg
  refine ⟨i + j, fun h => ?_⟩
  rcases q_pr_mulI hp ((q_dv_e (q_lows h2 h4)).mp h) with h | h
  · exact h1 h
  · exact h3 h
def q_sb (f g : qP) : qP := q_ad f (q_sc (-1) g)
theorem q_sb_at (f g : qP) (n : Nat) : q_sb f g n = f n - g n := by
  show f n + (-1) * g n = f n - g n
  omega
theorem q_sb_e {P : Nat} {f g : qP} : q_e P (q_sb f g) q_0 ↔ q_e P f g := by
  constructor
  · intro h n
    have := h n
    rwa [q_sb_at, show f n - g n - q_0 n = f n - g n from Int.sub_zero _] at this
  · intro h n
    have := h n
    rw [q_sb_at]
    rwa [show f n - g n - q_0 n = f n - g n from Int.sub_zero _]
theorem q_cancel {P : Nat} (hp : q_pr P) {f g h : qP} (hf : q_nz P f) (he : q_e P (q_cm f g) (q_cm f h)) : q_e P g h := by
  refine q_sb_e.mp ?_
  refine q_nnz (fun hn => ?_)
  obtain ⟨n, hh⟩ := q_dom hp hf hn
  apply hh
  have := he n
  unfold q_sb
  rw [q_add_r, q_sc_r]
  show (P : Int) ∣ q_cm f g n + (-1) * q_cm f h n
  rwa [show q_cm f g n + (-1) * q_cm f h n = q_cm f g n - q_cm f h n by omega]
/-- a polynomial: some bound on its degree -/
def q_top (P : Nat) (f : qP) (d : Nat) : Prop := q_d P f (d + 1) ∧ ¬ (P : Int) ∣ f d
theorem q_top.nz {P : Nat} {f : qP} {d : Nat} (h : q_top P f d) : q_nz P f := ⟨d, h.2⟩
theorem q_top.e {P : Nat} {f g : qP} {d : Nat} (h : q_top P f d) (he : q_e P f g) : q_top P g d := ⟨h.1.e he, fun h1 => h.2 ((q_dv_e (he d)).mpr h1)⟩
theorem q_top_ex {P : Nat} {f : qP} : ∀ {d : Nat}, q_d P f d → q_nz P f → ∃ e, e < d ∧ q_top P f e
  | 0, h, ⟨n, hn⟩ => absurd (h n (by omega)) hn
  | d + 1, h, hn => by
    by_cases h1 : (P : Int) ∣ f d
    · obtain ⟨e, h2, h3⟩ := q_top_ex (d := d) (fun n hn => by
        by_cases h4 : n = d
        · rw [h4]; exact h1
        · exact h n (by omega)) hn
      exact ⟨e, by omega, h3⟩
    · exact ⟨d, by omega, h, h1⟩
theorem q_top_u {P : Nat} {f : qP} {d e : Nat} (h : q_top P f d) (h2 : q_top P f e) : d = e := by
  rcases Nat.lt_trichotomy d e with h3 | h3 | h3
  · exact absurd (h.1 e (by omega)) h2.2
  · exact h3
  · exact absurd (h2.1 d (by omega)) h.2
theorem q_top_d {P : Nat} {f : qP} {d e : Nat} (h : q_top P f d) (h2 : q_d P f e) : d < e := by
  rcases Nat.lt_or_ge d e with h3 | h3
  · exact h3
  · exact absurd (h2 d h3) h.2
theorem q_top.cm {P : Nat} (hp : q_pr P) {f g : qP} {a b : Nat} (hf : q_top P f a) (hg : q_top P g b) : q_top P (q_cm f g) (a + b) := by
  refine ⟨fun n hn => hf.1.cm hg.1 n (by omega), fun h => ?_⟩
  rcases q_pr_mulI hp ((q_dv_e (q_tops hf.1 hg.1)).mp h) with h1 | h1
  · exact hf.2 h1
  · exact hg.2 h1
/-- lowest term 1 -/
def q_l1 (P : Nat) (f : qP) : Prop := ∃ n, (P : Int) ∣ f n - 1 ∧ ∀ k, k < n → (P : Int) ∣ f k
theorem q_1_not {P : Nat} (hp : q_pr P) : ¬ (P : Int) ∣ 1 := fun h => by
  have := Int.le_of_dvd (by decide) h
  have := hp.1
  omega
theorem q_l1.nz {P : Nat} (hp : q_pr P) {f : qP} (h : q_l1 P f) : q_nz P f := by
  obtain ⟨n, h1, _⟩ := h
  exact ⟨n, fun h2 => q_1_not hp ((q_dv_e h1).mp h2)⟩
/-- without common factors -/
def q_co (P : Nat) (a b : qP) : Prop := ∃ u v : qP, (∃ d, q_d P u d) ∧ (∃ d, q_d P v d) ∧ q_e P (q_ad (q_cm u a) (q_cm v b)) q_1
theorem q_fin_ad {P : Nat} {f g : qP} (hf : ∃ d, q_d P f d) (hg : ∃ d, q_d P g d) : ∃ d, q_d P (q_ad f g) d := by
  obtain ⟨a, ha⟩ := hf
  obtain ⟨b, hb⟩ := hg
  exact ⟨a + b, (ha.mono (by omega)).ad (hb.mono (by omega))⟩
theorem q_fin_cm {P : Nat} {f g : qP} (hf : ∃ d, q_d P f d) (hg : ∃ d, q_d P g d) : ∃ d, q_d P (q_cm f g) d := by
  obtain ⟨a, ha⟩ := hf
  obtain ⟨b, hb⟩ := hg
  exact ⟨a + b, ha.cmd hb (by omega)⟩
theorem q_fin_e {P : Nat} {f g : qP} (hf : ∃ d, q_d P f d) (h : q_e P f g) : ∃ d, q_d P g d := by
  obtain ⟨a, ha⟩ := hf
  exact ⟨a, ha.e h⟩
/-- b divides b' -/
theorem q_co_dv {P : Nat} {a b a2 b2 : qP} (hc : q_co P a b) (hab : q_e P (q_cm a b2) (q_cm a2 b)) (h2 : ∃ d, q_d P a2 d) (h3 : ∃ d, q_d P b2 d) : ∃ w, (∃ d, q_d P w d) ∧ q_e P b2 (q_cm b w) := by
  obtain ⟨u, v, hu, hv, h⟩ := hc
  refine ⟨q_ad (q_cm u a2) (q_cm v b2), q_fin_ad (q_fin_cm hu h2) (q_fin_cm hv h3), ?_⟩
  have e1 : q_e P (q_cm (q_ad (q_cm u a) (q_cm v b)) b2) b2 := by
    have := h.l b2
    rwa [q_1_l] at this
  refine e1.sy.tr ?_
  rw [q_add_l, q_assoc u a b2, q_add_r]
  refine q_e.ad ?_ ?_
  · have := hab.r u
    rwa [show q_cm u (q_cm a2 b) = q_cm b (q_cm u a2) by rw [← q_assoc, q_comm]] at this
  · rw [q_assoc, q_comm v (q_cm b b2), q_assoc, q_comm b2 v]
    exact q_e.rf
/-- two shares alike, both without common factors, the lowest term below being 1, are the same -/
theorem q_uniq {P : Nat} (hp : q_pr P) {a b a2 b2 : qP} (hc : q_co P a b) (hc2 : q_co P a2 b2) (hab : q_e P (q_cm a b2) (q_cm a2 b)) (ha : ∃ d, q_d P a d) (hb : ∃ d, q_d P b d) (ha2 : ∃ d, q_d P a2 d) (hb2 : ∃ d, q_d P b2 d) (hl : q_l1 P b) (hl2 : q_l1 P b2) : q_e P a a2 ∧ q_e P b b2 := by
  obtain ⟨w, hw, hbw⟩ := q_co_dv hc hab ha2 hb2
  obtain ⟨w2, hw2, hbw2⟩ := q_co_dv hc2 hab.sy ha hb
  have hbn := hl.nz hp
  have e1 : q_e P (q_cm b (q_cm w w2)) (q_cm b q_1) := by
    rw [q_1_r, ← q_assoc]
    exact (hbw.sy.l w2).tr hbw2.sy
  have e2 := q_cancel hp hbn e1
  have hw1 : q_nz P (q_cm w w2) := q_nz.e ⟨0, q_1_not hp⟩ e2.sy
  have hwn : q_nz P w := Classical.byContradiction fun h => by
    obtain ⟨n, hn⟩ := hw1
    apply hn
    have := (q_nnz h).l w2 n
    rw [q_0_l] at this
    exact (q_dv_e this).mpr (Int.dvd_zero _)
  have hwn2 : q_nz P w2 := Classical.byContradiction fun h => by
    obtain ⟨n, hn⟩ := hw1
    apply hn
    have := (q_nnz h).r w n
    rw [q_0_r] at this
    exact (q_dv_e this).mpr (Int.dvd_zero _)
  obtain ⟨d, hd⟩ := hw
  obtain ⟨d2, hd2⟩ := hw2
  obtain ⟨t, _, ht⟩ := q_top_ex hd hwn
  obtain ⟨t2, _, ht2⟩ := q_top_ex hd2 hwn2
  have h1 := (ht.cm hp ht2).e e2
  have h2 : q_top P q_1 0 := ⟨fun n hn => by
    show (P : Int) ∣ (if n = 0 then 1 else 0)
    rw [if_neg (by omega)]
    exact Int.dvd_zero _, q_1_not hp⟩
  have h3 := q_top_u h1 h2
  obtain rfl : t = 0 := by omega
  -- w is a number
  have hwc : q_e P (q_cm b w) (q_sc (w 0) b) := by
    have : q_e P w (q_sc (w 0) q_1) := fun n => by
      show (P : Int) ∣ w n - w 0 * (if n = 0 then 1 else 0)
      by_cases hn : n = 0
      · rw [if_pos hn, hn, Int.mul_one, Int.sub_self]; exact Int.dvd_zero _
      · rw [if_neg hn, Int.mul_zero, Int.sub_zero]; exact ht.1 n (by omega)
    have := this.r b
    rwa [q_sc_r, q_1_r] at this
  have hb3 := hbw.tr hwc
  obtain ⟨n, g1, g2⟩ := hl
  obtain ⟨n2, k1, k2⟩ := hl2
  have hnn : n = n2 := by
    rcases Nat.lt_trichotomy n n2 with h | h | h
    · exfalso
      have z1 := k2 n h
      have z2 : (P : Int) ∣ w 0 * b n := (q_dv_e (hb3 n)).mp z1
      rcases q_pr_mulI hp z2 with z | z
      · exact ht.2 z
      · exact q_1_not hp ((q_dv_e g1).mp z)
    · exact h
    · exfalso
      have z1 := g2 n2 h
      have z2 : (P : Int) ∣ b2 n2 := (q_dv_e (hb3 n2)).mpr (Int.dvd_mul_of_dvd_right z1)
      exact q_1_not hp ((q_dv_e k1).mp z2)
  subst hnn
  have hw0 : (P : Int) ∣ w 0 - 1 := by
    have z1 : (P : Int) ∣ b2 n - w 0 * b n := hb3 n
    have z2 : (P : Int) ∣ w 0 * (b n - 1) := Int.dvd_mul_of_dvd_right g1
    rw [Int.mul_sub, Int.mul_one] at z2
    have z3 := Int.dvd_sub k1 (Int.dvd_add z1 z2)
    have z4 := Int.dvd_neg.mpr z3
    rwa [show -(b2 n - 1 - (b2 n - w 0 * b n + (w 0 * b n - w 0))) = 1 - w 0 by omega, ← Int.dvd_neg, Int.neg_sub] at z4
  have hbb : q_e P b b2 := q_e.sy (hb3.tr (fun k => by
    show (P : Int) ∣ w 0 * b k - b k
    rw [show w 0 * b k - b k = (w 0 - 1) * b k by rw [Int.sub_mul, Int.one_mul]]
    exact Int.dvd_mul_of_dvd_left hw0))
  refine ⟨?_, hbb⟩
  refine q_cancel hp hbn ?_
  rw [q_comm b a, q_comm b a2]
  exact (hbb.r a).tr hab
