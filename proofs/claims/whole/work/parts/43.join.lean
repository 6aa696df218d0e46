/-- powers as the model makes them -/
def jw (P x : Nat) : Nat → Nat
  | 0 => 1
  | k + 1 => jw P x k * x % P
theorem jw_b {P x : Nat} (h : 2 ≤ P) : ∀ k, jw P x k < P
  | 0 => by show 1 < P; omega
  | k + 1 => Nat.mod_lt _ (by omega)
theorem jw_e {P x : Nat} : ∀ k, (P : Int) ∣ (jw P x k : Int) - (x : Int) ^ k
  | 0 => by show (P : Int) ∣ 1 - (x : Int) ^ 0; rw [Int.pow_zero]; exact Int.dvd_zero _
  | k + 1 => by
    have h1 := q_md (jw P x k * x) P
    have h2 := Int.dvd_mul_of_dvd_left (a := (P : Int)) (c := (x : Int)) (jw_e (P := P) (x := x) k)
    have := Int.dvd_add h1 h2
    show (P : Int) ∣ ((jw P x k * x % P : Nat) : Int) - (x : Int) ^ (k + 1)
    rw [Int.pow_succ]
    rw [Int.natCast_mul, Int.sub_mul] at this
    rwa [show ∀ A B C : Int, A - B + (B - C) = A - C by omega] at this
/-- the table of a share through points -/
def jT (P l : Nat) (px py : Nat → Nat) (i b : Nat) : Nat := if b ≤ l then jw P (px i) b else nn_m (-((jw P (px i) (b - (l + 1)) : Int) * py i)) P
theorem jT_b {P l : Nat} {px py : Nat → Nat} (h : 2 ≤ P) (i b : Nat) : jT P l px py i b < P := by
  unfold jT
  by_cases e : b ≤ l
  · rw [if_pos e]; exact jw_b h _
  · rw [if_neg e]; exact nn_m_lt (by omega)
theorem dsm_app (f : Nat → Int) (a : Nat) : ∀ b, dsm f (a + b) = dsm f a + dsm (fun j => f (a + j)) b
  | 0 => (Int.add_zero _).symm
  | b + 1 => by
    have := dsm_app f a b
    show dsm f (a + b) + f (a + b) = dsm f a + (dsm (fun j => f (a + j)) b + f (a + b))
    omega
theorem dsm_lm (y : Int) (f : Nat → Int) : ∀ n, dsm (fun j => y * f j) n = y * dsm f n
  | 0 => (Int.mul_zero _).symm
  | n + 1 => by
    show dsm (fun j => y * f j) n + y * f n = y * (dsm f n + f n)
    rw [dsm_lm y f n, Int.mul_add]
theorem ev_dsm (x : Int) (f : qP) : ∀ n, q_ev x f n = dsm (fun j => f j * x ^ j) n
  | 0 => rfl
  | n + 1 => by rw [ev_last, ev_dsm x f n]; rfl
def jP (x : Nat → Nat) (l : Nat) : Nat → Nat := cut x (l + 1)
def jQ (x : Nat → Nat) (l m : Nat) : Nat → Nat := cut (fun k => x (l + 1 + k)) (m + 1)
theorem ev_cut (X : Int) (c : Nat → Nat) (n d : Nat) : q_ev X (q_n (cut c n)) (n + d) = dsm (fun j => (c j : Int) * X ^ j) n := by
  rw [ev_dsm, dsm_st (fun j hj => by show ((cut c n j : Nat) : Int) * X ^ j = 0; rw [show cut c n j = 0 from if_neg (by omega)]; exact Int.zero_mul _) d]
  exact dsm_c _ (fun j hj => by show ((cut c n j : Nat) : Int) * X ^ j = _; rw [show cut c n j = c j from if_pos hj])
theorem je_s {P l m n : Nat} (hp : q_pr P) (hn : n ≤ 20) (hlm : l + m + 1 = n) {px py : Nat → Nat} (hb : ∀ i, i < n → px i < P ∧ py i < P) (hd : ∀ i j, i < n → j < n → px i = px j → i = j) {x : Nat → Nat} (hx : ∀ k, x k < P) (hf : ∃ f, f < n + 1 ∧ x f = 1) (hker : ∀ i, i < n → (P : Int) ∣ dot (jT P l px py) x (n + 1) i) : q_pl P 90 (jP x l) ∧ q_pl P 90 (jQ x l m) ∧ q_nz P (q_n (jQ x l m)) ∧ q_d P (q_n (jP x l)) (l + 1) ∧ q_d P (q_n (jQ x l m)) (m + 1) ∧ ∀ i, i < n → (P : Int) ∣ q_ev (px i) (q_n (jP x l)) 60 - py i * q_ev (px i) (q_n (jQ x l m)) 60 := by
  have hP := hp.1
  have dP : q_d P (q_n (jP x l)) (l + 1) := fun k hk => by
    show (P : Int) ∣ ((cut x (l + 1) k : Nat) : Int)
    rw [show cut x (l + 1) k = 0 from if_neg (by omega)]; exact Int.dvd_zero _
  have dQ : q_d P (q_n (jQ x l m)) (m + 1) := fun k hk => by
    show (P : Int) ∣ ((cut (fun k => x (l + 1 + k)) (m + 1) k : Nat) : Int)
    rw [show cut (fun k => x (l + 1 + k)) (m + 1) k = 0 from if_neg (by omega)]; exact Int.dvd_zero _
  have hv : ∀ i, i < n → (P : Int) ∣ q_ev (px i) (q_n (jP x l)) 60 - py i * q_ev (px i) (q_n (jQ x l m)) 60 := fun i hi => by
    have h1 := ev_cut (px i) x (l + 1) (60 - (l + 1))
    have h2 := ev_cut (px i) (fun k => x (l + 1 + k)) (m + 1) (60 - (m + 1))
    rw [show l + 1 + (60 - (l + 1)) = 60 by omega] at h1
    rw [show m + 1 + (60 - (m + 1)) = 60 by omega] at h2
    have h3 := hker i hi
    unfold dot at h3
    rw [show n + 1 = (l + 1) + (m + 1) by omega, dsm_app] at h3
    have h4 : (P : Int) ∣ dsm (fun j => (jT P l px py i j : Int) * x j) (l + 1) - dsm (fun j => (x j : Int) * (px i : Int) ^ j) (l + 1) := dsm_e _ (fun j hj => by
      have h5 := Int.dvd_mul_of_dvd_left (a := (P : Int)) (c := (x j : Int)) (jw_e (P := P) (x := px i) j)
      rw [show jT P l px py i j = jw P (px i) j from if_pos (by omega), Int.mul_comm (x j : Int)]
      rwa [Int.sub_mul] at h5)
    have h6 : (P : Int) ∣ dsm (fun j => (jT P l px py i (l + 1 + j) : Int) * x (l + 1 + j)) (m + 1) - dsm (fun j => -(py i : Int) * ((x (l + 1 + j) : Int) * (px i : Int) ^ j)) (m + 1) := dsm_e _ (fun j hj => by
      have h5 := jw_e (P := P) (x := px i) j
      have h7 := q_mz (-((jw P (px i) j : Int) * py i)) (show 0 < P by omega)
      rw [show jT P l px py i (l + 1 + j) = nn_m (-((jw P (px i) j : Int) * py i)) P by unfold jT; rw [if_neg (by omega), show l + 1 + j - (l + 1) = j by omega]]
      generalize ((nn_m (-((jw P (px i) j : Int) * py i)) P : Nat) : Int) = N at h7 ⊢
      generalize ((jw P (px i) j : Nat) : Int) = J at h5 h7
      generalize ((px i : Nat) : Int) ^ j = X at h5 ⊢
      generalize ((x (l + 1 + j) : Nat) : Int) = xx
      obtain ⟨k1, hk1⟩ := h5
      obtain ⟨k2, hk2⟩ := h7
      have : N * xx - -(py i : Int) * (xx * X) = (P : Int) * (k2 * xx - k1 * (py i) * xx) := by grind
      rw [this]
      exact Int.dvd_mul_right _ _)
    rw [dsm_lm] at h6
    have e1 : q_ev (px i) (q_n (jP x l)) 60 = dsm (fun j => (x j : Int) * (px i : Int) ^ j) (l + 1) := h1
    have e2 : q_ev (px i) (q_n (jQ x l m)) 60 = dsm (fun j => (x (l + 1 + j) : Int) * (px i : Int) ^ j) (m + 1) := h2
    rw [e1, e2]
    generalize dsm (fun j => (jT P l px py i j : Int) * x j) (l + 1) = A1 at h3 h4
    generalize dsm (fun j => (jT P l px py i (l + 1 + j) : Int) * x (l + 1 + j)) (m + 1) = A2 at h3 h6
    generalize dsm (fun j => (x j : Int) * (px i : Int) ^ j) (l + 1) = B1 at h4 ⊢
    generalize dsm (fun j => (x (l + 1 + j) : Int) * (px i : Int) ^ j) (m + 1) = B2 at h6 ⊢
    have := Int.dvd_sub (Int.dvd_sub h3 h4) h6
    rwa [show A1 + A2 - (A1 - B1) - (A2 - -(py i : Int) * B2) = B1 - (py i : Int) * B2 by rw [Int.neg_mul]; omega] at this
  refine ⟨cut_pl (by omega) hx (by omega), cut_pl (by omega) (fun k => hx _) (by omega), ?_, dP, dQ, hv⟩
  by_cases hq : q_nz P (q_n (jQ x l m))
  · exact hq
  · exfalso
    have hq0 : ∀ k, (P : Int) ∣ q_n (jQ x l m) k := fun k => Classical.byContradiction fun h => hq ⟨k, h⟩
    have hz : q_e P (q_n (jQ x l m)) q_0 := fun k => by show (P : Int) ∣ _ - 0; rw [Int.sub_zero]; exact hq0 k
    have hp0 := q_roots hp (n := 60) (xs := fun i => (px i : Int)) (l + 1) _ dP (by omega) (fun i hi => by
      have h1 := hv i (by omega)
      have h2 := ev_0 (x := (px i : Int)) 60 hz
      exact (q_dv_e h1).mpr (Int.dvd_mul_of_dvd_right h2)) (fun i j hi hj h => hd i j (by omega) (by omega) (by
      have h1 := (hb i (by omega)).1
      have h2 := (hb j (by omega)).1
      have h : (P : Int) ∣ (px i : Int) - px j := h
      obtain ⟨c, hc⟩ := h
      have : c = 0 := by
        rcases Int.lt_trichotomy c 0 with h | h | h
        · have : (P : Int) * c ≤ (P : Int) * (-1) := Int.mul_le_mul_of_nonneg_left (by omega) (by omega)
          omega
        · exact h
        · have : (P : Int) * 1 ≤ (P : Int) * c := Int.mul_le_mul_of_nonneg_left (by omega) (by omega)
          omega
      subst this
      omega))
    obtain ⟨f, hf1, hf2⟩ := hf
    by_cases e : f ≤ l
    · have h1 := hp0 f
      have h2 : (P : Int) ∣ ((cut x (l + 1) f : Nat) : Int) - 0 := h1
      rw [show cut x (l + 1) f = x f from if_pos (by omega), hf2, Int.sub_zero] at h2
      exact q_1_not hp h2
    · have h1 : (P : Int) ∣ ((cut (fun k => x (l + 1 + k)) (m + 1) (f - (l + 1)) : Nat) : Int) := hq0 (f - (l + 1))
      rw [show cut (fun k => x (l + 1 + k)) (m + 1) (f - (l + 1)) = x (l + 1 + (f - (l + 1))) from if_pos (by omega), show l + 1 + (f - (l + 1)) = f by omega, hf2] at h1
      exact q_1_not hp h1
/-- entries of the table that are known -/
def tG (S : vs_S) (w : Nat) (Q : Nat → Nat → Prop) (H : Nat → Nat → Nat) : Prop := ∀ a b, b < w → Q a b → S.2.1 129 (44 * a + b) = nI (H a b)
theorem tG.put {S : vs_S} {i j w : Nat} {Q : Nat → Nat → Prop} {H : Nat → Nat → Nat} {v : Int32} (h : tG S w Q H) (hj : j < w) (hw : w ≤ 44) (hv : v = nI (H i j)) : tG (vs_ia S 129 (upd (S.2.1 129) (44 * i + j) v)) w (fun a b => Q a b ∨ (a = i ∧ b = j)) H := fun a b hb hab => by
  rw [vs_ia_at]
  unfold upd
  by_cases e : 44 * a + b = 44 * i + j
  · obtain ⟨rfl, rfl⟩ : a = i ∧ b = j := by omega
    rw [if_pos e, hv]
  · rw [if_neg e]
    rcases hab with h1 | ⟨rfl, rfl⟩
    · exact h a b hb h1
    · exact absurd rfl e
theorem tG.mono {S : vs_S} {w : Nat} {Q Q' : Nat → Nat → Prop} {H : Nat → Nat → Nat} (h : tG S w Q H) (hq : ∀ a b, b < w → Q' a b → Q a b) : tG S w Q' H := fun a b hb hab => h a b hb (hq a b hb hab)
theorem nn_negmul {x y : Nat} (hx : x < 2147483648) (hy : y < 2147483648) : (-(nI x).toInt64 * (nI y).toInt64).toInt = -((x : Int) * y) := by
  have h := nn_mulI (x := x) (y := y) (by omega) (by omega)
  have h3 : -(nI x).toInt64 * (nI y).toInt64 = -((nI x).toInt64 * (nI y).toInt64) := Int64.neg_mul _ _
  rw [h3, Int64.toInt_neg, h]
  have h1 : (x : Int) * y < 2147483648 * 2147483648 := by
    have a1 : (x : Int) * y ≤ (x : Int) * 2147483648 := Int.mul_le_mul_of_nonneg_left (by omega) (by omega)
    omega
  have h2 : 0 ≤ (x : Int) * y := Int.mul_nonneg (by omega) (by omega)
  exact Int.bmod_eq_of_le (by omega) (by omega)
theorem l_jo1 {G : vv_G} {S : vs_S} {l m n : Nat} (hn : n ≤ 20) (hlm : l + m + 1 = n) {px py : Nat → Nat} {P : Nat} (gP1 : 2 ≤ P) (gP2 : P ≤ 30011) (hb : ∀ i, i < n → px i < P ∧ py i < P) {i N : Nat} (hi : i < n) (hN1 : l < N) (hN2 : m < N) (hN3 : N ≤ l + 1 ∨ N ≤ m + 1) {S0 : vs_S} (mP0 : S0.1 118 2 = nI P) (mH0 : S0.1 118 28 = nI n) (mX0 : aR S0 144 n px) (mY0 : aR S0 145 n py) {Pst : Option Value → vs_S → Prop} (K : ∀ S2 : vs_S, vs_fx S0 S2 [129] [] [] → tG S2 (n + 1) (fun a b => a < (i + 1) ∨ (a = (i + 1) ∧ ((b ≤ l ∧ b < 0) ∨ (l < b ∧ b < l + 1 + 0)))) (jT P l px py) → vs_V G cX10_join (vs_MP yX10_join 6 (some .int) { frames := 4, locals := 97 } G Pst) 141 [(3, .int (nI i)), (0, .ref (G.2.2.2 + 118)), (1, .int (nI l)), (2, .int (nI m))] [] S2) : ∀ (d k : Nat) (S : vs_S), k + d = N → vs_fx S0 S [129] [] [] → tG S (n + 1) (fun a b => a < i ∨ (a = i ∧ ((b ≤ l ∧ b < k) ∨ (l < b ∧ b < l + 1 + k)))) (jT P l px py) → vs_V G cX10_join (vs_MP yX10_join 6 (some .int) { frames := 4, locals := 97 } G Pst) 51 [(5, .int (nI k)), (4, .int (nI (jw P (px i) k))), (3, .int (nI i)), (0, .ref (G.2.2.2 + 118)), (1, .int (nI l)), (2, .int (nI m))] [] S := by
  intro d
  induction d with
  | zero =>
    intro k S hk F B
    obtain rfl : N = k := by omega
    refine vs_iload dX10_join_51 rfl 0 rfl ?_
    refine vs_iload_n 1 dX10_join_53 rfl rfl 4 rfl ?_
    refine vs_icmp_le 63 dX10_join_54 rfl rfl (fun c_54 => ?_) (fun c_54 => ?_)
    · have q_54 : ((N : Nat) : Int) ≤ ((l : Nat) : Int) := (qi_le (nI_Z _) (nI_Z _) (by omega) (by omega) (by omega) (by omega)).mp c_54
      omega
    · have q_54 : ¬ ((N : Nat) : Int) ≤ ((l : Nat) : Int) := fun hh => c_54 ((qi_le (nI_Z _) (nI_Z _) (by omega) (by omega) (by omega) (by omega)).mpr hh)
      refine vs_iload dX10_join_57 rfl 0 rfl ?_
      refine vs_iload_n 2 dX10_join_59 rfl rfl 5 rfl ?_
      refine vs_icmp_gt 141 dX10_join_60 rfl rfl (fun c_60 => ?_) (fun c_60 => ?_)
      · have q_60 : ((N : Nat) : Int) > ((m : Nat) : Int) := (qi_gt (nI_Z _) (nI_Z _) (by omega) (by omega) (by omega) (by omega)).mp c_60
        refine vs_pick [2, 3, 4, 5] rfl ?_
        exact K S F (tG.mono B (by intro a b hb2 hab; (try dsimp only at hab); (try dsimp only); omega))
      · have q_60 : ¬ ((N : Nat) : Int) > ((m : Nat) : Int) := fun hh => c_60 ((qi_gt (nI_Z _) (nI_Z _) (by omega) (by omega) (by omega) (by omega)).mpr hh)
        omega
  | succ d ih =>
    intro k S hk F B
    have mP : S.1 118 2 = nI P := (F.2.1 _ _ (by simp)).trans mP0
    have mH : S.1 118 28 = nI n := (F.2.1 _ _ (by simp)).trans mH0
    have mX := aR.fx mX0 F (by simp)
    have mY := aR.fx mY0 F (by simp)
    obtain ⟨b1, b2⟩ := hb i hi
    have b3 := jw_b (x := px i) gP1 k
    have e1 : k ≤ l → True := fun _ => trivial
    refine vs_iload dX10_join_51 rfl 0 rfl ?_
    refine vs_iload_n 1 dX10_join_53 rfl rfl 4 rfl ?_
    refine vs_icmp_le 63 dX10_join_54 rfl rfl (fun c_54 => ?_) (fun c_54 => ?_)
    · have q_54 : ((k : Nat) : Int) ≤ ((l : Nat) : Int) := (qi_le (nI_Z _) (nI_Z _) (by omega) (by omega) (by omega) (by omega)).mp c_54
      refine vs_iload dX10_join_63 rfl 0 rfl ?_
      refine vs_iload_n 1 dX10_join_65 rfl rfl 4 rfl ?_
      refine vs_icmp_gt 83 dX10_join_66 rfl rfl (fun c_66 => ?_) (fun c_66 => ?_)
      · have q_66 : ((k : Nat) : Int) > ((l : Nat) : Int) := (qi_gt (nI_Z _) (nI_Z _) (by omega) (by omega) (by omega) (by omega)).mp c_66
        refine vs_iload dX10_join_83 rfl 0 rfl ?_
        refine vs_iload_n 2 dX10_join_85 rfl rfl 5 rfl ?_
        refine vs_icmp_gt 121 dX10_join_86 rfl rfl (fun c_86 => ?_) (fun c_86 => ?_)
        · have q_86 : ((k : Nat) : Int) > ((m : Nat) : Int) := (qi_gt (nI_Z _) (nI_Z _) (by omega) (by omega) (by omega) (by omega)).mp c_86
          refine vs_aload_n 0 dX10_join_121 rfl rfl 3 rfl ?_
          refine vs_iload dX10_join_122 rfl 1 rfl ?_
          refine vs_aload_n 0 dX10_join_124 rfl rfl 3 rfl ?_
          refine vs_get (v := .ref (G.2.2.2 + 144)) lf_X10_86 rfl rfl dX10_join_125 rfl ?_
          refine vs_iload_n 3 dX10_join_128 rfl rfl 2 rfl ?_
          refine vs_iald (k := i) rfl rfl (by omega) rfl dX10_join_129 rfl ?_
          refine vs_topi (fun z1 e_z1 => ?_)
          have f_z1 : z1 = nI (px i) := (by rw [e_z1]; repeat (first | exact mX i (by omega) | rw [vs_ia_ne (by omega)]))
          subst f_z1
          clear e_z1
          refine vs_callV (st := []) (c_product mP (by omega) (by omega) (by omega) (by omega)) lk_X10_99 lm_X10_product rfl rfl rfl rfl (Nat.le_of_ble_eq_true rfl) rfl ⟨rfl, rfl⟩ dX10_join_130 rfl ?_
          show vs_V _ _ _ _ _ (.int (nI (jw P (px i) (k + 1))) :: _) _
          refine vs_istore [(4, .int (nI (jw P (px i) (k + 1)))), (5, .int (nI k)), (3, .int (nI i)), (0, .ref (G.2.2.2 + 118)), (1, .int (nI l)), (2, .int (nI m))] dX10_join_133 rfl rfl rfl ?_
          refine vs_iinc (v := nI (k + 1)) [(5, .int (nI (k + 1))), (4, .int (nI (jw P (px i) (k + 1)))), (3, .int (nI i)), (0, .ref (G.2.2.2 + 118)), (1, .int (nI l)), (2, .int (nI m))] dX10_join_135 rfl 1 rfl (by first | exact nI_1 _ | (simp only [fa_lit, nI_add, pk_mul, nI_1]; rfl)) rfl rfl ?_
          refine vs_goto 51 dX10_join_138 rfl ?_
          refine vs_pick [0, 1, 2, 3, 4, 5] rfl ?_
          refine ih (k + 1) _ (by omega) ?_ ?_
          · first | exact F | exact vs_fx.ia F (by simp) | exact vs_fx.ia (vs_fx.ia F (by simp)) (by simp)
          · first
            | exact tG.mono (tG.put (tG.put B (j := k) (by omega) (by omega) e1) (j := l + 1 + k) (by omega) (by omega) e2) (by intro a b hb2 hab; (try dsimp only at hab); (try dsimp only); omega)
            | exact tG.mono (tG.put B (j := k) (by omega) (by omega) e1) (by intro a b hb2 hab; (try dsimp only at hab); (try dsimp only); omega)
            | exact tG.mono (tG.put B (j := l + 1 + k) (by omega) (by omega) e2) (by intro a b hb2 hab; (try dsimp only at hab); (try dsimp only); omega)
            | (exfalso; omega)
        · have q_86 : ¬ ((k : Nat) : Int) > ((m : Nat) : Int) := fun hh => c_86 ((qi_gt (nI_Z _) (nI_Z _) (by omega) (by omega) (by omega) (by omega)).mpr hh)
          have e2 : nI (nn_m (-((jw P (px i) k : Int) * py i)) P) = nI (jT P l px py i (l + 1 + k)) := by unfold jT; rw [if_neg (by omega), show l + 1 + k - (l + 1) = k by omega]
          refine vs_aload_n 0 dX10_join_89 rfl rfl 3 rfl ?_
          refine vs_get (v := .ref (G.2.2.2 + 129)) lf_X10_41 rfl rfl dX10_join_90 rfl ?_
          refine vs_bipush (v := 44) dX10_join_93 rfl rfl ?_
          refine vs_iload_n 3 dX10_join_95 rfl rfl 2 rfl ?_
          refine vs_imul dX10_join_96 rfl ?_
          refine vs_iload_n 1 dX10_join_97 rfl rfl 4 rfl ?_
          refine vs_iadd dX10_join_98 rfl ?_
          refine vs_iconst (v := 1) dX10_join_99 rfl rfl ?_
          refine vs_iadd dX10_join_100 rfl ?_
          refine vs_iload dX10_join_101 rfl 0 rfl ?_
          refine vs_iadd dX10_join_103 rfl ?_
          refine vs_aload_n 0 dX10_join_104 rfl rfl 3 rfl ?_
          refine vs_iload dX10_join_105 rfl 1 rfl ?_
          refine vs_i2l dX10_join_107 rfl ?_
          refine vs_lneg dX10_join_108 rfl ?_
          refine vs_aload_n 0 dX10_join_109 rfl rfl 3 rfl ?_
          refine vs_get (v := .ref (G.2.2.2 + 145)) lf_X10_89 rfl rfl dX10_join_110 rfl ?_
          refine vs_iload_n 3 dX10_join_113 rfl rfl 2 rfl ?_
          refine vs_iald (k := i) rfl rfl (by omega) rfl dX10_join_114 rfl ?_
          refine vs_topi (fun z2 e_z2 => ?_)
          have f_z2 : z2 = nI (py i) := (by rw [e_z2]; repeat (first | exact mY i (by omega) | rw [vs_ia_ne (by omega)]))
          subst f_z2
          clear e_z2
          refine vs_i2l dX10_join_115 rfl ?_
          refine vs_lmul dX10_join_116 rfl ?_
          refine vs_callV (st := [.int (((((44 * nI i) + nI l) + 1) + nI k)), .ref (G.2.2.2 + 129)]) (c_restZ (z := -((jw P (px i) k : Int) * py i)) (nn_negmul (by omega) (by omega)) mP gP1 gP2) lk_X10_135 lm_X10_rest rfl rfl rfl rfl (Nat.le_of_ble_eq_true rfl) rfl ⟨rfl, rfl⟩ dX10_join_117 rfl ?_
          show vs_V _ _ _ _ _ (.int (nI (nn_m (-((jw P (px i) k : Int) * py i)) P)) :: _) _
          refine vs_iast (k := (44 * i + (l + 1 + k))) rfl (by rw [show 44 * i + (l + 1 + k) = 44 * i + l + 1 + k by omega]; simp only [fa_lit, nI_add, pk_mul]) (by omega) rfl dX10_join_120 rfl ?_
          refine vs_aload_n 0 dX10_join_121 rfl rfl 3 rfl ?_
          refine vs_iload dX10_join_122 rfl 1 rfl ?_
          refine vs_aload_n 0 dX10_join_124 rfl rfl 3 rfl ?_
          refine vs_get (v := .ref (G.2.2.2 + 144)) lf_X10_86 rfl rfl dX10_join_125 rfl ?_
          refine vs_iload_n 3 dX10_join_128 rfl rfl 2 rfl ?_
          refine vs_iald (k := i) rfl rfl (by omega) rfl dX10_join_129 rfl ?_
          refine vs_topi (fun z3 e_z3 => ?_)
          have f_z3 : z3 = nI (px i) := (by rw [e_z3]; repeat (first | exact mX i (by omega) | rw [vs_ia_ne (by omega)]))
          subst f_z3
          clear e_z3
          refine vs_callV (st := []) (c_product mP (by omega) (by omega) (by omega) (by omega)) lk_X10_99 lm_X10_product rfl rfl rfl rfl (Nat.le_of_ble_eq_true rfl) rfl ⟨rfl, rfl⟩ dX10_join_130 rfl ?_
          show vs_V _ _ _ _ _ (.int (nI (jw P (px i) (k + 1))) :: _) _
          refine vs_istore [(4, .int (nI (jw P (px i) (k + 1)))), (5, .int (nI k)), (3, .int (nI i)), (0, .ref (G.2.2.2 + 118)), (1, .int (nI l)), (2, .int (nI m))] dX10_join_133 rfl rfl rfl ?_
          refine vs_iinc (v := nI (k + 1)) [(5, .int (nI (k + 1))), (4, .int (nI (jw P (px i) (k + 1)))), (3, .int (nI i)), (0, .ref (G.2.2.2 + 118)), (1, .int (nI l)), (2, .int (nI m))] dX10_join_135 rfl 1 rfl (by first | exact nI_1 _ | (simp only [fa_lit, nI_add, pk_mul, nI_1]; rfl)) rfl rfl ?_
          refine vs_goto 51 dX10_join_138 rfl ?_
          refine vs_pick [0, 1, 2, 3, 4, 5] rfl ?_
          refine ih (k + 1) _ (by omega) ?_ ?_
          · first | exact F | exact vs_fx.ia F (by simp) | exact vs_fx.ia (vs_fx.ia F (by simp)) (by simp)
          · first
            | exact tG.mono (tG.put (tG.put B (j := k) (by omega) (by omega) e1) (j := l + 1 + k) (by omega) (by omega) e2) (by intro a b hb2 hab; (try dsimp only at hab); (try dsimp only); omega)
            | exact tG.mono (tG.put B (j := k) (by omega) (by omega) e1) (by intro a b hb2 hab; (try dsimp only at hab); (try dsimp only); omega)
            | exact tG.mono (tG.put B (j := l + 1 + k) (by omega) (by omega) e2) (by intro a b hb2 hab; (try dsimp only at hab); (try dsimp only); omega)
            | (exfalso; omega)
      · have q_66 : ¬ ((k : Nat) : Int) > ((l : Nat) : Int) := fun hh => c_66 ((qi_gt (nI_Z _) (nI_Z _) (by omega) (by omega) (by omega) (by omega)).mpr hh)
        have e1 : nI (jw P (px i) k) = nI (jT P l px py i k) := by unfold jT; rw [if_pos (by omega)]
        refine vs_aload_n 0 dX10_join_69 rfl rfl 3 rfl ?_
        refine vs_get (v := .ref (G.2.2.2 + 129)) lf_X10_41 rfl rfl dX10_join_70 rfl ?_
        refine vs_bipush (v := 44) dX10_join_73 rfl rfl ?_
        refine vs_iload_n 3 dX10_join_75 rfl rfl 2 rfl ?_
        refine vs_imul dX10_join_76 rfl ?_
        refine vs_iload dX10_join_77 rfl 0 rfl ?_
        refine vs_iadd dX10_join_79 rfl ?_
        refine vs_iload dX10_join_80 rfl 1 rfl ?_
        refine vs_iast (k := (44 * i + k)) rfl (by simp only [fa_lit, nI_add, pk_mul]) (by omega) rfl dX10_join_82 rfl ?_
        refine vs_iload dX10_join_83 rfl 0 rfl ?_
        refine vs_iload_n 2 dX10_join_85 rfl rfl 5 rfl ?_
        refine vs_icmp_gt 121 dX10_join_86 rfl rfl (fun c_86 => ?_) (fun c_86 => ?_)
        · have q_86 : ((k : Nat) : Int) > ((m : Nat) : Int) := (qi_gt (nI_Z _) (nI_Z _) (by omega) (by omega) (by omega) (by omega)).mp c_86
          refine vs_aload_n 0 dX10_join_121 rfl rfl 3 rfl ?_
          refine vs_iload dX10_join_122 rfl 1 rfl ?_
          refine vs_aload_n 0 dX10_join_124 rfl rfl 3 rfl ?_
          refine vs_get (v := .ref (G.2.2.2 + 144)) lf_X10_86 rfl rfl dX10_join_125 rfl ?_
          refine vs_iload_n 3 dX10_join_128 rfl rfl 2 rfl ?_
          refine vs_iald (k := i) rfl rfl (by omega) rfl dX10_join_129 rfl ?_
          refine vs_topi (fun z4 e_z4 => ?_)
          have f_z4 : z4 = nI (px i) := (by rw [e_z4]; repeat (first | exact mX i (by omega) | rw [vs_ia_ne (by omega)]))
          subst f_z4
          clear e_z4
          refine vs_callV (st := []) (c_product mP (by omega) (by omega) (by omega) (by omega)) lk_X10_99 lm_X10_product rfl rfl rfl rfl (Nat.le_of_ble_eq_true rfl) rfl ⟨rfl, rfl⟩ dX10_join_130 rfl ?_
          show vs_V _ _ _ _ _ (.int (nI (jw P (px i) (k + 1))) :: _) _
          refine vs_istore [(4, .int (nI (jw P (px i) (k + 1)))), (5, .int (nI k)), (3, .int (nI i)), (0, .ref (G.2.2.2 + 118)), (1, .int (nI l)), (2, .int (nI m))] dX10_join_133 rfl rfl rfl ?_
          refine vs_iinc (v := nI (k + 1)) [(5, .int (nI (k + 1))), (4, .int (nI (jw P (px i) (k + 1)))), (3, .int (nI i)), (0, .ref (G.2.2.2 + 118)), (1, .int (nI l)), (2, .int (nI m))] dX10_join_135 rfl 1 rfl (by first | exact nI_1 _ | (simp only [fa_lit, nI_add, pk_mul, nI_1]; rfl)) rfl rfl ?_
          refine vs_goto 51 dX10_join_138 rfl ?_
          refine vs_pick [0, 1, 2, 3, 4, 5] rfl ?_
          refine ih (k + 1) _ (by omega) ?_ ?_
          · first | exact F | exact vs_fx.ia F (by simp) | exact vs_fx.ia (vs_fx.ia F (by simp)) (by simp)
          · first
            | exact tG.mono (tG.put (tG.put B (j := k) (by omega) (by omega) e1) (j := l + 1 + k) (by omega) (by omega) e2) (by intro a b hb2 hab; (try dsimp only at hab); (try dsimp only); omega)
            | exact tG.mono (tG.put B (j := k) (by omega) (by omega) e1) (by intro a b hb2 hab; (try dsimp only at hab); (try dsimp only); omega)
            | exact tG.mono (tG.put B (j := l + 1 + k) (by omega) (by omega) e2) (by intro a b hb2 hab; (try dsimp only at hab); (try dsimp only); omega)
            | (exfalso; omega)
        · have q_86 : ¬ ((k : Nat) : Int) > ((m : Nat) : Int) := fun hh => c_86 ((qi_gt (nI_Z _) (nI_Z _) (by omega) (by omega) (by omega) (by omega)).mpr hh)
          have e2 : nI (nn_m (-((jw P (px i) k : Int) * py i)) P) = nI (jT P l px py i (l + 1 + k)) := by unfold jT; rw [if_neg (by omega), show l + 1 + k - (l + 1) = k by omega]
          refine vs_aload_n 0 dX10_join_89 rfl rfl 3 rfl ?_
          refine vs_get (v := .ref (G.2.2.2 + 129)) lf_X10_41 rfl rfl dX10_join_90 rfl ?_
          refine vs_bipush (v := 44) dX10_join_93 rfl rfl ?_
          refine vs_iload_n 3 dX10_join_95 rfl rfl 2 rfl ?_
          refine vs_imul dX10_join_96 rfl ?_
          refine vs_iload_n 1 dX10_join_97 rfl rfl 4 rfl ?_
          refine vs_iadd dX10_join_98 rfl ?_
          refine vs_iconst (v := 1) dX10_join_99 rfl rfl ?_
          refine vs_iadd dX10_join_100 rfl ?_
          refine vs_iload dX10_join_101 rfl 0 rfl ?_
          refine vs_iadd dX10_join_103 rfl ?_
          refine vs_aload_n 0 dX10_join_104 rfl rfl 3 rfl ?_
          refine vs_iload dX10_join_105 rfl 1 rfl ?_
          refine vs_i2l dX10_join_107 rfl ?_
          refine vs_lneg dX10_join_108 rfl ?_
          refine vs_aload_n 0 dX10_join_109 rfl rfl 3 rfl ?_
          refine vs_get (v := .ref (G.2.2.2 + 145)) lf_X10_89 rfl rfl dX10_join_110 rfl ?_
          refine vs_iload_n 3 dX10_join_113 rfl rfl 2 rfl ?_
          refine vs_iald (k := i) rfl rfl (by omega) rfl dX10_join_114 rfl ?_
          refine vs_topi (fun z5 e_z5 => ?_)
          have f_z5 : z5 = nI (py i) := (by rw [e_z5]; repeat (first | exact mY i (by omega) | rw [vs_ia_ne (by omega)]))
          subst f_z5
          clear e_z5
          refine vs_i2l dX10_join_115 rfl ?_
          refine vs_lmul dX10_join_116 rfl ?_
          refine vs_callV (st := [.int (((((44 * nI i) + nI l) + 1) + nI k)), .ref (G.2.2.2 + 129)]) (c_restZ (z := -((jw P (px i) k : Int) * py i)) (nn_negmul (by omega) (by omega)) mP gP1 gP2) lk_X10_135 lm_X10_rest rfl rfl rfl rfl (Nat.le_of_ble_eq_true rfl) rfl ⟨rfl, rfl⟩ dX10_join_117 rfl ?_
          show vs_V _ _ _ _ _ (.int (nI (nn_m (-((jw P (px i) k : Int) * py i)) P)) :: _) _
          refine vs_iast (k := (44 * i + (l + 1 + k))) rfl (by rw [show 44 * i + (l + 1 + k) = 44 * i + l + 1 + k by omega]; simp only [fa_lit, nI_add, pk_mul]) (by omega) rfl dX10_join_120 rfl ?_
          refine vs_aload_n 0 dX10_join_121 rfl rfl 3 rfl ?_
          refine vs_iload dX10_join_122 rfl 1 rfl ?_
          refine vs_aload_n 0 dX10_join_124 rfl rfl 3 rfl ?_
          refine vs_get (v := .ref (G.2.2.2 + 144)) lf_X10_86 rfl rfl dX10_join_125 rfl ?_
          refine vs_iload_n 3 dX10_join_128 rfl rfl 2 rfl ?_
          refine vs_iald (k := i) rfl rfl (by omega) rfl dX10_join_129 rfl ?_
          refine vs_topi (fun z6 e_z6 => ?_)
          have f_z6 : z6 = nI (px i) := (by rw [e_z6]; repeat (first | exact mX i (by omega) | rw [vs_ia_ne (by omega)]))
          subst f_z6
          clear e_z6
          refine vs_callV (st := []) (c_product mP (by omega) (by omega) (by omega) (by omega)) lk_X10_99 lm_X10_product rfl rfl rfl rfl (Nat.le_of_ble_eq_true rfl) rfl ⟨rfl, rfl⟩ dX10_join_130 rfl ?_
          show vs_V _ _ _ _ _ (.int (nI (jw P (px i) (k + 1))) :: _) _
          refine vs_istore [(4, .int (nI (jw P (px i) (k + 1)))), (5, .int (nI k)), (3, .int (nI i)), (0, .ref (G.2.2.2 + 118)), (1, .int (nI l)), (2, .int (nI m))] dX10_join_133 rfl rfl rfl ?_
          refine vs_iinc (v := nI (k + 1)) [(5, .int (nI (k + 1))), (4, .int (nI (jw P (px i) (k + 1)))), (3, .int (nI i)), (0, .ref (G.2.2.2 + 118)), (1, .int (nI l)), (2, .int (nI m))] dX10_join_135 rfl 1 rfl (by first | exact nI_1 _ | (simp only [fa_lit, nI_add, pk_mul, nI_1]; rfl)) rfl rfl ?_
          refine vs_goto 51 dX10_join_138 rfl ?_
          refine vs_pick [0, 1, 2, 3, 4, 5] rfl ?_
          refine ih (k + 1) _ (by omega) ?_ ?_
          · first | exact F | exact vs_fx.ia F (by simp) | exact vs_fx.ia (vs_fx.ia F (by simp)) (by simp)
          · first
            | exact tG.mono (tG.put (tG.put B (j := k) (by omega) (by omega) e1) (j := l + 1 + k) (by omega) (by omega) e2) (by intro a b hb2 hab; (try dsimp only at hab); (try dsimp only); omega)
            | exact tG.mono (tG.put B (j := k) (by omega) (by omega) e1) (by intro a b hb2 hab; (try dsimp only at hab); (try dsimp only); omega)
            | exact tG.mono (tG.put B (j := l + 1 + k) (by omega) (by omega) e2) (by intro a b hb2 hab; (try dsimp only at hab); (try dsimp only); omega)
            | (exfalso; omega)
    · have q_54 : ¬ ((k : Nat) : Int) ≤ ((l : Nat) : Int) := fun hh => c_54 ((qi_le (nI_Z _) (nI_Z _) (by omega) (by omega) (by omega) (by omega)).mpr hh)
      refine vs_iload dX10_join_57 rfl 0 rfl ?_
      refine vs_iload_n 2 dX10_join_59 rfl rfl 5 rfl ?_
      refine vs_icmp_gt 141 dX10_join_60 rfl rfl (fun c_60 => ?_) (fun c_60 => ?_)
      · have q_60 : ((k : Nat) : Int) > ((m : Nat) : Int) := (qi_gt (nI_Z _) (nI_Z _) (by omega) (by omega) (by omega) (by omega)).mp c_60
        omega
      · have q_60 : ¬ ((k : Nat) : Int) > ((m : Nat) : Int) := fun hh => c_60 ((qi_gt (nI_Z _) (nI_Z _) (by omega) (by omega) (by omega) (by omega)).mpr hh)
        refine vs_iload dX10_join_63 rfl 0 rfl ?_
        refine vs_iload_n 1 dX10_join_65 rfl rfl 4 rfl ?_
        refine vs_icmp_gt 83 dX10_join_66 rfl rfl (fun c_66 => ?_) (fun c_66 => ?_)
        · have q_66 : ((k : Nat) : Int) > ((l : Nat) : Int) := (qi_gt (nI_Z _) (nI_Z _) (by omega) (by omega) (by omega) (by omega)).mp c_66
          refine vs_iload dX10_join_83 rfl 0 rfl ?_
          refine vs_iload_n 2 dX10_join_85 rfl rfl 5 rfl ?_
          refine vs_icmp_gt 121 dX10_join_86 rfl rfl (fun c_86 => ?_) (fun c_86 => ?_)
          · have q_86 : ((k : Nat) : Int) > ((m : Nat) : Int) := (qi_gt (nI_Z _) (nI_Z _) (by omega) (by omega) (by omega) (by omega)).mp c_86
            refine vs_aload_n 0 dX10_join_121 rfl rfl 3 rfl ?_
            refine vs_iload dX10_join_122 rfl 1 rfl ?_
            refine vs_aload_n 0 dX10_join_124 rfl rfl 3 rfl ?_
            refine vs_get (v := .ref (G.2.2.2 + 144)) lf_X10_86 rfl rfl dX10_join_125 rfl ?_
            refine vs_iload_n 3 dX10_join_128 rfl rfl 2 rfl ?_
            refine vs_iald (k := i) rfl rfl (by omega) rfl dX10_join_129 rfl ?_
            refine vs_topi (fun z7 e_z7 => ?_)
            have f_z7 : z7 = nI (px i) := (by rw [e_z7]; repeat (first | exact mX i (by omega) | rw [vs_ia_ne (by omega)]))
            subst f_z7
            clear e_z7
            refine vs_callV (st := []) (c_product mP (by omega) (by omega) (by omega) (by omega)) lk_X10_99 lm_X10_product rfl rfl rfl rfl (Nat.le_of_ble_eq_true rfl) rfl ⟨rfl, rfl⟩ dX10_join_130 rfl ?_
            show vs_V _ _ _ _ _ (.int (nI (jw P (px i) (k + 1))) :: _) _
            refine vs_istore [(4, .int (nI (jw P (px i) (k + 1)))), (5, .int (nI k)), (3, .int (nI i)), (0, .ref (G.2.2.2 + 118)), (1, .int (nI l)), (2, .int (nI m))] dX10_join_133 rfl rfl rfl ?_
            refine vs_iinc (v := nI (k + 1)) [(5, .int (nI (k + 1))), (4, .int (nI (jw P (px i) (k + 1)))), (3, .int (nI i)), (0, .ref (G.2.2.2 + 118)), (1, .int (nI l)), (2, .int (nI m))] dX10_join_135 rfl 1 rfl (by first | exact nI_1 _ | (simp only [fa_lit, nI_add, pk_mul, nI_1]; rfl)) rfl rfl ?_
            refine vs_goto 51 dX10_join_138 rfl ?_
            refine vs_pick [0, 1, 2, 3, 4, 5] rfl ?_
            refine ih (k + 1) _ (by omega) ?_ ?_
            · first | exact F | exact vs_fx.ia F (by simp) | exact vs_fx.ia (vs_fx.ia F (by simp)) (by simp)
            · first
              | exact tG.mono (tG.put (tG.put B (j := k) (by omega) (by omega) e1) (j := l + 1 + k) (by omega) (by omega) e2) (by intro a b hb2 hab; (try dsimp only at hab); (try dsimp only); omega)
              | exact tG.mono (tG.put B (j := k) (by omega) (by omega) e1) (by intro a b hb2 hab; (try dsimp only at hab); (try dsimp only); omega)
              | exact tG.mono (tG.put B (j := l + 1 + k) (by omega) (by omega) e2) (by intro a b hb2 hab; (try dsimp only at hab); (try dsimp only); omega)
              | (exfalso; omega)
          · have q_86 : ¬ ((k : Nat) : Int) > ((m : Nat) : Int) := fun hh => c_86 ((qi_gt (nI_Z _) (nI_Z _) (by omega) (by omega) (by omega) (by omega)).mpr hh)
            have e2 : nI (nn_m (-((jw P (px i) k : Int) * py i)) P) = nI (jT P l px py i (l + 1 + k)) := by unfold jT; rw [if_neg (by omega), show l + 1 + k - (l + 1) = k by omega]
            refine vs_aload_n 0 dX10_join_89 rfl rfl 3 rfl ?_
            refine vs_get (v := .ref (G.2.2.2 + 129)) lf_X10_41 rfl rfl dX10_join_90 rfl ?_
            refine vs_bipush (v := 44) dX10_join_93 rfl rfl ?_
            refine vs_iload_n 3 dX10_join_95 rfl rfl 2 rfl ?_
            refine vs_imul dX10_join_96 rfl ?_
            refine vs_iload_n 1 dX10_join_97 rfl rfl 4 rfl ?_
            refine vs_iadd dX10_join_98 rfl ?_
            refine vs_iconst (v := 1) dX10_join_99 rfl rfl ?_
            refine vs_iadd dX10_join_100 rfl ?_
            refine vs_iload dX10_join_101 rfl 0 rfl ?_
            refine vs_iadd dX10_join_103 rfl ?_
            refine vs_aload_n 0 dX10_join_104 rfl rfl 3 rfl ?_
            refine vs_iload dX10_join_105 rfl 1 rfl ?_
            refine vs_i2l dX10_join_107 rfl ?_
            refine vs_lneg dX10_join_108 rfl ?_
            refine vs_aload_n 0 dX10_join_109 rfl rfl 3 rfl ?_
            refine vs_get (v := .ref (G.2.2.2 + 145)) lf_X10_89 rfl rfl dX10_join_110 rfl ?_
            refine vs_iload_n 3 dX10_join_113 rfl rfl 2 rfl ?_
            refine vs_iald (k := i) rfl rfl (by omega) rfl dX10_join_114 rfl ?_
            refine vs_topi (fun z8 e_z8 => ?_)
            have f_z8 : z8 = nI (py i) := (by rw [e_z8]; repeat (first | exact mY i (by omega) | rw [vs_ia_ne (by omega)]))
            subst f_z8
            clear e_z8
            refine vs_i2l dX10_join_115 rfl ?_
            refine vs_lmul dX10_join_116 rfl ?_
            refine vs_callV (st := [.int (((((44 * nI i) + nI l) + 1) + nI k)), .ref (G.2.2.2 + 129)]) (c_restZ (z := -((jw P (px i) k : Int) * py i)) (nn_negmul (by omega) (by omega)) mP gP1 gP2) lk_X10_135 lm_X10_rest rfl rfl rfl rfl (Nat.le_of_ble_eq_true rfl) rfl ⟨rfl, rfl⟩ dX10_join_117 rfl ?_
            show vs_V _ _ _ _ _ (.int (nI (nn_m (-((jw P (px i) k : Int) * py i)) P)) :: _) _
            refine vs_iast (k := (44 * i + (l + 1 + k))) rfl (by rw [show 44 * i + (l + 1 + k) = 44 * i + l + 1 + k by omega]; simp only [fa_lit, nI_add, pk_mul]) (by omega) rfl dX10_join_120 rfl ?_
            refine vs_aload_n 0 dX10_join_121 rfl rfl 3 rfl ?_
            refine vs_iload dX10_join_122 rfl 1 rfl ?_
            refine vs_aload_n 0 dX10_join_124 rfl rfl 3 rfl ?_
            refine vs_get (v := .ref (G.2.2.2 + 144)) lf_X10_86 rfl rfl dX10_join_125 rfl ?_
            refine vs_iload_n 3 dX10_join_128 rfl rfl 2 rfl ?_
            refine vs_iald (k := i) rfl rfl (by omega) rfl dX10_join_129 rfl ?_
            refine vs_topi (fun z9 e_z9 => ?_)
            have f_z9 : z9 = nI (px i) := (by rw [e_z9]; repeat (first | exact mX i (by omega) | rw [vs_ia_ne (by omega)]))
            subst f_z9
            clear e_z9
            refine vs_callV (st := []) (c_product mP (by omega) (by omega) (by omega) (by omega)) lk_X10_99 lm_X10_product rfl rfl rfl rfl (Nat.le_of_ble_eq_true rfl) rfl ⟨rfl, rfl⟩ dX10_join_130 rfl ?_
            show vs_V _ _ _ _ _ (.int (nI (jw P (px i) (k + 1))) :: _) _
            refine vs_istore [(4, .int (nI (jw P (px i) (k + 1)))), (5, .int (nI k)), (3, .int (nI i)), (0, .ref (G.2.2.2 + 118)), (1, .int (nI l)), (2, .int (nI m))] dX10_join_133 rfl rfl rfl ?_
            refine vs_iinc (v := nI (k + 1)) [(5, .int (nI (k + 1))), (4, .int (nI (jw P (px i) (k + 1)))), (3, .int (nI i)), (0, .ref (G.2.2.2 + 118)), (1, .int (nI l)), (2, .int (nI m))] dX10_join_135 rfl 1 rfl (by first | exact nI_1 _ | (simp only [fa_lit, nI_add, pk_mul, nI_1]; rfl)) rfl rfl ?_
            refine vs_goto 51 dX10_join_138 rfl ?_
            refine vs_pick [0, 1, 2, 3, 4, 5] rfl ?_
            refine ih (k + 1) _ (by omega) ?_ ?_
            · first | exact F | exact vs_fx.ia F (by simp) | exact vs_fx.ia (vs_fx.ia F (by simp)) (by simp)
            · first
              | exact tG.mono (tG.put (tG.put B (j := k) (by omega) (by omega) e1) (j := l + 1 + k) (by omega) (by omega) e2) (by intro a b hb2 hab; (try dsimp only at hab); (try dsimp only); omega)
              | exact tG.mono (tG.put B (j := k) (by omega) (by omega) e1) (by intro a b hb2 hab; (try dsimp only at hab); (try dsimp only); omega)
              | exact tG.mono (tG.put B (j := l + 1 + k) (by omega) (by omega) e2) (by intro a b hb2 hab; (try dsimp only at hab); (try dsimp only); omega)
              | (exfalso; omega)
        · have q_66 : ¬ ((k : Nat) : Int) > ((l : Nat) : Int) := fun hh => c_66 ((qi_gt (nI_Z _) (nI_Z _) (by omega) (by omega) (by omega) (by omega)).mpr hh)
          have e1 : nI (jw P (px i) k) = nI (jT P l px py i k) := by unfold jT; rw [if_pos (by omega)]
          refine vs_aload_n 0 dX10_join_69 rfl rfl 3 rfl ?_
          refine vs_get (v := .ref (G.2.2.2 + 129)) lf_X10_41 rfl rfl dX10_join_70 rfl ?_
          refine vs_bipush (v := 44) dX10_join_73 rfl rfl ?_
          refine vs_iload_n 3 dX10_join_75 rfl rfl 2 rfl ?_
          refine vs_imul dX10_join_76 rfl ?_
          refine vs_iload dX10_join_77 rfl 0 rfl ?_
          refine vs_iadd dX10_join_79 rfl ?_
          refine vs_iload dX10_join_80 rfl 1 rfl ?_
          refine vs_iast (k := (44 * i + k)) rfl (by simp only [fa_lit, nI_add, pk_mul]) (by omega) rfl dX10_join_82 rfl ?_
          refine vs_iload dX10_join_83 rfl 0 rfl ?_
          refine vs_iload_n 2 dX10_join_85 rfl rfl 5 rfl ?_
          refine vs_icmp_gt 121 dX10_join_86 rfl rfl (fun c_86 => ?_) (fun c_86 => ?_)
          · have q_86 : ((k : Nat) : Int) > ((m : Nat) : Int) := (qi_gt (nI_Z _) (nI_Z _) (by omega) (by omega) (by omega) (by omega)).mp c_86
            refine vs_aload_n 0 dX10_join_121 rfl rfl 3 rfl ?_
            refine vs_iload dX10_join_122 rfl 1 rfl ?_
            refine vs_aload_n 0 dX10_join_124 rfl rfl 3 rfl ?_
            refine vs_get (v := .ref (G.2.2.2 + 144)) lf_X10_86 rfl rfl dX10_join_125 rfl ?_
            refine vs_iload_n 3 dX10_join_128 rfl rfl 2 rfl ?_
            refine vs_iald (k := i) rfl rfl (by omega) rfl dX10_join_129 rfl ?_
            refine vs_topi (fun z10 e_z10 => ?_)
            have f_z10 : z10 = nI (px i) := (by rw [e_z10]; repeat (first | exact mX i (by omega) | rw [vs_ia_ne (by omega)]))
            subst f_z10
            clear e_z10
            refine vs_callV (st := []) (c_product mP (by omega) (by omega) (by omega) (by omega)) lk_X10_99 lm_X10_product rfl rfl rfl rfl (Nat.le_of_ble_eq_true rfl) rfl ⟨rfl, rfl⟩ dX10_join_130 rfl ?_
            show vs_V _ _ _ _ _ (.int (nI (jw P (px i) (k + 1))) :: _) _
            refine vs_istore [(4, .int (nI (jw P (px i) (k + 1)))), (5, .int (nI k)), (3, .int (nI i)), (0, .ref (G.2.2.2 + 118)), (1, .int (nI l)), (2, .int (nI m))] dX10_join_133 rfl rfl rfl ?_
            refine vs_iinc (v := nI (k + 1)) [(5, .int (nI (k + 1))), (4, .int (nI (jw P (px i) (k + 1)))), (3, .int (nI i)), (0, .ref (G.2.2.2 + 118)), (1, .int (nI l)), (2, .int (nI m))] dX10_join_135 rfl 1 rfl (by first | exact nI_1 _ | (simp only [fa_lit, nI_add, pk_mul, nI_1]; rfl)) rfl rfl ?_
            refine vs_goto 51 dX10_join_138 rfl ?_
            refine vs_pick [0, 1, 2, 3, 4, 5] rfl ?_
            refine ih (k + 1) _ (by omega) ?_ ?_
            · first | exact F | exact vs_fx.ia F (by simp) | exact vs_fx.ia (vs_fx.ia F (by simp)) (by simp)
            · first
              | exact tG.mono (tG.put (tG.put B (j := k) (by omega) (by omega) e1) (j := l + 1 + k) (by omega) (by omega) e2) (by intro a b hb2 hab; (try dsimp only at hab); (try dsimp only); omega)
              | exact tG.mono (tG.put B (j := k) (by omega) (by omega) e1) (by intro a b hb2 hab; (try dsimp only at hab); (try dsimp only); omega)
              | exact tG.mono (tG.put B (j := l + 1 + k) (by omega) (by omega) e2) (by intro a b hb2 hab; (try dsimp only at hab); (try dsimp only); omega)
              | (exfalso; omega)
          · have q_86 : ¬ ((k : Nat) : Int) > ((m : Nat) : Int) := fun hh => c_86 ((qi_gt (nI_Z _) (nI_Z _) (by omega) (by omega) (by omega) (by omega)).mpr hh)
            have e2 : nI (nn_m (-((jw P (px i) k : Int) * py i)) P) = nI (jT P l px py i (l + 1 + k)) := by unfold jT; rw [if_neg (by omega), show l + 1 + k - (l + 1) = k by omega]
            refine vs_aload_n 0 dX10_join_89 rfl rfl 3 rfl ?_
            refine vs_get (v := .ref (G.2.2.2 + 129)) lf_X10_41 rfl rfl dX10_join_90 rfl ?_
            refine vs_bipush (v := 44) dX10_join_93 rfl rfl ?_
            refine vs_iload_n 3 dX10_join_95 rfl rfl 2 rfl ?_
            refine vs_imul dX10_join_96 rfl ?_
            refine vs_iload_n 1 dX10_join_97 rfl rfl 4 rfl ?_
            refine vs_iadd dX10_join_98 rfl ?_
            refine vs_iconst (v := 1) dX10_join_99 rfl rfl ?_
            refine vs_iadd dX10_join_100 rfl ?_
            refine vs_iload dX10_join_101 rfl 0 rfl ?_
            refine vs_iadd dX10_join_103 rfl ?_
            refine vs_aload_n 0 dX10_join_104 rfl rfl 3 rfl ?_
            refine vs_iload dX10_join_105 rfl 1 rfl ?_
            refine vs_i2l dX10_join_107 rfl ?_
            refine vs_lneg dX10_join_108 rfl ?_
            refine vs_aload_n 0 dX10_join_109 rfl rfl 3 rfl ?_
            refine vs_get (v := .ref (G.2.2.2 + 145)) lf_X10_89 rfl rfl dX10_join_110 rfl ?_
            refine vs_iload_n 3 dX10_join_113 rfl rfl 2 rfl ?_
            refine vs_iald (k := i) rfl rfl (by omega) rfl dX10_join_114 rfl ?_
            refine vs_topi (fun z11 e_z11 => ?_)
            have f_z11 : z11 = nI (py i) := (by rw [e_z11]; repeat (first | exact mY i (by omega) | rw [vs_ia_ne (by omega)]))
            subst f_z11
            clear e_z11
            refine vs_i2l dX10_join_115 rfl ?_
            refine vs_lmul dX10_join_116 rfl ?_
            refine vs_callV (st := [.int (((((44 * nI i) + nI l) + 1) + nI k)), .ref (G.2.2.2 + 129)]) (c_restZ (z := -((jw P (px i) k : Int) * py i)) (nn_negmul (by omega) (by omega)) mP gP1 gP2) lk_X10_135 lm_X10_rest rfl rfl rfl rfl (Nat.le_of_ble_eq_true rfl) rfl ⟨rfl, rfl⟩ dX10_join_117 rfl ?_
            show vs_V _ _ _ _ _ (.int (nI (nn_m (-((jw P (px i) k : Int) * py i)) P)) :: _) _
            refine vs_iast (k := (44 * i + (l + 1 + k))) rfl (by rw [show 44 * i + (l + 1 + k) = 44 * i + l + 1 + k by omega]; simp only [fa_lit, nI_add, pk_mul]) (by omega) rfl dX10_join_120 rfl ?_
            refine vs_aload_n 0 dX10_join_121 rfl rfl 3 rfl ?_
            refine vs_iload dX10_join_122 rfl 1 rfl ?_
            refine vs_aload_n 0 dX10_join_124 rfl rfl 3 rfl ?_
            refine vs_get (v := .ref (G.2.2.2 + 144)) lf_X10_86 rfl rfl dX10_join_125 rfl ?_
            refine vs_iload_n 3 dX10_join_128 rfl rfl 2 rfl ?_
            refine vs_iald (k := i) rfl rfl (by omega) rfl dX10_join_129 rfl ?_
            refine vs_topi (fun z12 e_z12 => ?_)
            have f_z12 : z12 = nI (px i) := (by rw [e_z12]; repeat (first | exact mX i (by omega) | rw [vs_ia_ne (by omega)]))
            subst f_z12
            clear e_z12
            refine vs_callV (st := []) (c_product mP (by omega) (by omega) (by omega) (by omega)) lk_X10_99 lm_X10_product rfl rfl rfl rfl (Nat.le_of_ble_eq_true rfl) rfl ⟨rfl, rfl⟩ dX10_join_130 rfl ?_
            show vs_V _ _ _ _ _ (.int (nI (jw P (px i) (k + 1))) :: _) _
            refine vs_istore [(4, .int (nI (jw P (px i) (k + 1)))), (5, .int (nI k)), (3, .int (nI i)), (0, .ref (G.2.2.2 + 118)), (1, .int (nI l)), (2, .int (nI m))] dX10_join_133 rfl rfl rfl ?_
            refine vs_iinc (v := nI (k + 1)) [(5, .int (nI (k + 1))), (4, .int (nI (jw P (px i) (k + 1)))), (3, .int (nI i)), (0, .ref (G.2.2.2 + 118)), (1, .int (nI l)), (2, .int (nI m))] dX10_join_135 rfl 1 rfl (by first | exact nI_1 _ | (simp only [fa_lit, nI_add, pk_mul, nI_1]; rfl)) rfl rfl ?_
            refine vs_goto 51 dX10_join_138 rfl ?_
            refine vs_pick [0, 1, 2, 3, 4, 5] rfl ?_
            refine ih (k + 1) _ (by omega) ?_ ?_
            · first | exact F | exact vs_fx.ia F (by simp) | exact vs_fx.ia (vs_fx.ia F (by simp)) (by simp)
            · first
              | exact tG.mono (tG.put (tG.put B (j := k) (by omega) (by omega) e1) (j := l + 1 + k) (by omega) (by omega) e2) (by intro a b hb2 hab; (try dsimp only at hab); (try dsimp only); omega)
              | exact tG.mono (tG.put B (j := k) (by omega) (by omega) e1) (by intro a b hb2 hab; (try dsimp only at hab); (try dsimp only); omega)
              | exact tG.mono (tG.put B (j := l + 1 + k) (by omega) (by omega) e2) (by intro a b hb2 hab; (try dsimp only at hab); (try dsimp only); omega)
              | (exfalso; omega)

theorem l_jo2 {G : vv_G} {S : vs_S} {l m n : Nat} (hn : n ≤ 20) (hlm : l + m + 1 = n) {px py : Nat → Nat} {P : Nat} (gP1 : 2 ≤ P) (gP2 : P ≤ 30011) (hb : ∀ i, i < n → px i < P ∧ py i < P) {S0 : vs_S} (mP0 : S0.1 118 2 = nI P) (mH0 : S0.1 118 28 = nI n) (mX0 : aR S0 144 n px) (mY0 : aR S0 145 n py) {Pst : Option Value → vs_S → Prop} (K : ∀ S2 : vs_S, vs_fx S0 S2 [129] [] [] → tR S2 n (n + 1) (jT P l px py) → vs_V G cX10_join (vs_MP yX10_join 6 (some .int) { frames := 4, locals := 97 } G Pst) 147 [(0, .ref (G.2.2.2 + 118)), (1, .int (nI l)), (2, .int (nI m))] [] S2) : ∀ (d i : Nat) (S : vs_S), i + d = n → vs_fx S0 S [129] [] [] → tG S (n + 1) (fun a b => a < i ∨ (a = i ∧ ((b ≤ l ∧ b < 0) ∨ (l < b ∧ b < l + 1 + 0)))) (jT P l px py) → vs_V G cX10_join (vs_MP yX10_join 6 (some .int) { frames := 4, locals := 97 } G Pst) 32 [(3, .int (nI i)), (0, .ref (G.2.2.2 + 118)), (1, .int (nI l)), (2, .int (nI m))] [] S := by
  obtain ⟨N, hN1, hN2, hN3⟩ : ∃ N : Nat, l < N ∧ m < N ∧ (N ≤ l + 1 ∨ N ≤ m + 1) := by by_cases h : l ≤ m; exact ⟨m + 1, by omega, by omega, by omega⟩; exact ⟨l + 1, by omega, by omega, by omega⟩
  intro d
  induction d with
  | zero =>
    intro i S hi F B
    obtain rfl : n = i := by omega
    have mP : S.1 118 2 = nI P := (F.2.1 _ _ (by simp)).trans mP0
    have mH : S.1 118 28 = nI n := (F.2.1 _ _ (by simp)).trans mH0
    have mX := aR.fx mX0 F (by simp)
    have mY := aR.fx mY0 F (by simp)
    refine vs_iload_n 3 dX10_join_32 rfl rfl 0 rfl ?_
    refine vs_aload_n 0 dX10_join_33 rfl rfl 1 rfl ?_
    refine vs_get (v := .int (nI n)) lf_X10_118 rfl (congrArg (fun z => some (Value.int z)) mH) dX10_join_34 rfl ?_
    refine vs_icmp_ge 147 dX10_join_37 rfl rfl (fun c_37 => ?_) (fun c_37 => ?_)
    · have q_37 : ((n : Nat) : Int) ≥ ((n : Nat) : Int) := (qi_ge (nI_Z _) (nI_Z _) (by omega) (by omega) (by omega) (by omega)).mp c_37
      refine vs_pick [1, 2, 3] rfl ?_
      exact K S F (fun a b ha hb2 => B a b hb2 (Or.inl ha))
    · have q_37 : ¬ ((n : Nat) : Int) ≥ ((n : Nat) : Int) := fun hh => c_37 ((qi_ge (nI_Z _) (nI_Z _) (by omega) (by omega) (by omega) (by omega)).mpr hh)
      omega
  | succ d ih =>
    intro i S hi F B
    have mP : S.1 118 2 = nI P := (F.2.1 _ _ (by simp)).trans mP0
    have mH : S.1 118 28 = nI n := (F.2.1 _ _ (by simp)).trans mH0
    have mX := aR.fx mX0 F (by simp)
    have mY := aR.fx mY0 F (by simp)
    refine vs_iload_n 3 dX10_join_32 rfl rfl 0 rfl ?_
    refine vs_aload_n 0 dX10_join_33 rfl rfl 1 rfl ?_
    refine vs_get (v := .int (nI n)) lf_X10_118 rfl (congrArg (fun z => some (Value.int z)) mH) dX10_join_34 rfl ?_
    refine vs_icmp_ge 147 dX10_join_37 rfl rfl (fun c_37 => ?_) (fun c_37 => ?_)
    · have q_37 : ((i : Nat) : Int) ≥ ((n : Nat) : Int) := (qi_ge (nI_Z _) (nI_Z _) (by omega) (by omega) (by omega) (by omega)).mp c_37
      omega
    · have q_37 : ¬ ((i : Nat) : Int) ≥ ((n : Nat) : Int) := fun hh => c_37 ((qi_ge (nI_Z _) (nI_Z _) (by omega) (by omega) (by omega) (by omega)).mpr hh)
      refine vs_iconst (v := 1) dX10_join_40 rfl rfl ?_
      refine vs_aload_n 0 dX10_join_41 rfl rfl 1 rfl ?_
      refine vs_get (v := .int (nI P)) lf_X10_92 rfl (congrArg (fun z => some (Value.int z)) mP) dX10_join_42 rfl ?_
      refine vs_irem dX10_join_45 rfl (fun z => by have := (nI_n0 (show P < 2147483648 by omega)).mp z; omega) ?_
      refine vs_topi (fun z1 e_z1 => ?_)
      have f_z1 : z1 = nI 1 := (by rw [e_z1]; exact (pk_rem (a := 1) (by omega) (by omega) (by omega)).trans (by rw [Nat.mod_eq_of_lt (by omega)]))
      subst f_z1
      clear e_z1
      refine vs_istore [(4, .int (nI 1)), (3, .int (nI i)), (0, .ref (G.2.2.2 + 118)), (1, .int (nI l)), (2, .int (nI m))] dX10_join_46 rfl rfl rfl ?_
      refine vs_iconst (v := 0) dX10_join_48 rfl rfl ?_
      refine vs_istore [(5, .int (0)), (4, .int (nI 1)), (3, .int (nI i)), (0, .ref (G.2.2.2 + 118)), (1, .int (nI l)), (2, .int (nI m))] dX10_join_49 rfl rfl rfl ?_
      refine vs_pick (L2 := [(5, .int (nI 0)), (4, .int (nI (jw P (px i) 0))), (3, .int (nI i)), (0, .ref (G.2.2.2 + 118)), (1, .int (nI l)), (2, .int (nI m))]) [0, 1, 2, 3, 4, 5] rfl ?_
      refine l_jo1 (S := S) (n := n) hn hlm gP1 gP2 hb (i := i) (N := N) (by omega) hN1 hN2 hN3 (S0 := S0) mP0 mH0 mX0 mY0 (fun S2 F2 B2 => ?_) N 0 S (by omega) F B
      refine vs_iinc (v := nI (i + 1)) [(3, .int (nI (i + 1))), (0, .ref (G.2.2.2 + 118)), (1, .int (nI l)), (2, .int (nI m))] dX10_join_141 rfl 0 rfl (by first | exact nI_1 _ | (simp only [fa_lit, nI_add, pk_mul, nI_1]; rfl)) rfl rfl ?_
      refine vs_goto 32 dX10_join_144 rfl ?_
      refine vs_pick [0, 1, 2, 3] rfl ?_
      exact ih (i + 1) S2 (by omega) F2 B2

theorem l_jo3 {G : vv_G} {S : vs_S} {l m : Nat} {x : Nat → Nat} (hl : l + m ≤ 40) {S0 : vs_S} (hx0 : aR S0 131 (l + m + 2) x) {Pst : Option Value → vs_S → Prop} (K : ∀ S2 : vs_S, vs_fx S0 S2 [127] [] [] → aR S2 127 90 (cut x (l + 1)) → vs_V G cX10_join (vs_MP yX10_join 6 (some .int) { frames := 4, locals := 97 } G Pst) 184 [(0, .ref (G.2.2.2 + 118)), (1, .int (nI l)), (2, .int (nI m))] [] S2) : ∀ (d i : Nat) (S : vs_S), i + d = l + 1 → vs_fx S0 S [127] [] [] → aR S 127 90 (cut x i) → vs_V G cX10_join (vs_MP yX10_join 6 (some .int) { frames := 4, locals := 97 } G Pst) 161 [(3, .int (nI i)), (0, .ref (G.2.2.2 + 118)), (1, .int (nI l)), (2, .int (nI m))] [] S := by
  intro d
  induction d with
  | zero =>
    intro i S hi F A1
    obtain rfl : l + 1 = i := by omega
    have hx : aR S 131 (l + m + 2) x := aR.fx hx0 F (by simp <;> omega)
    refine vs_iload_n 3 dX10_join_161 rfl rfl 0 rfl ?_
    refine vs_iload_n 1 dX10_join_162 rfl rfl 2 rfl ?_
    refine vs_icmp_gt 184 dX10_join_163 rfl rfl (fun c_163 => ?_) (fun c_163 => ?_)
    · have q_163 : (((l + 1) : Nat) : Int) > ((l : Nat) : Int) := (qi_gt (nI_Z _) (nI_Z _) (by omega) (by omega) (by omega) (by omega)).mp c_163
      refine vs_pick (L2 := [(0, .ref (G.2.2.2 + 118)), (1, .int (nI l)), (2, .int (nI m))]) [1, 2, 3] rfl ?_
      exact K S F A1
    · have q_163 : ¬ (((l + 1) : Nat) : Int) > ((l : Nat) : Int) := fun hh => c_163 ((qi_gt (nI_Z _) (nI_Z _) (by omega) (by omega) (by omega) (by omega)).mpr hh)
      omega
  | succ d ih =>
    intro i S hi F A1
    have hx : aR S 131 (l + m + 2) x := aR.fx hx0 F (by simp <;> omega)
    refine vs_iload_n 3 dX10_join_161 rfl rfl 0 rfl ?_
    refine vs_iload_n 1 dX10_join_162 rfl rfl 2 rfl ?_
    refine vs_icmp_gt 184 dX10_join_163 rfl rfl (fun c_163 => ?_) (fun c_163 => ?_)
    · have q_163 : ((i : Nat) : Int) > ((l : Nat) : Int) := (qi_gt (nI_Z _) (nI_Z _) (by omega) (by omega) (by omega) (by omega)).mp c_163
      omega
    · have q_163 : ¬ ((i : Nat) : Int) > ((l : Nat) : Int) := fun hh => c_163 ((qi_gt (nI_Z _) (nI_Z _) (by omega) (by omega) (by omega) (by omega)).mpr hh)
      refine vs_aload_n 0 dX10_join_166 rfl rfl 1 rfl ?_
      refine vs_get (v := .ref (G.2.2.2 + 127)) lf_X10_35 rfl rfl dX10_join_167 rfl ?_
      refine vs_iload_n 3 dX10_join_170 rfl rfl 0 rfl ?_
      refine vs_aload_n 0 dX10_join_171 rfl rfl 1 rfl ?_
      refine vs_get (v := .ref (G.2.2.2 + 131)) lf_X10_47 rfl rfl dX10_join_172 rfl ?_
      refine vs_iload_n 3 dX10_join_175 rfl rfl 0 rfl ?_
      refine vs_iald (k := i) rfl rfl (by omega) rfl dX10_join_176 rfl ?_
      refine vs_topi (fun z1 e_z1 => ?_)
      have f_z1 : z1 = nI (x i) := (by rw [e_z1]; exact hx i (by omega))
      subst f_z1
      clear e_z1
      refine vs_iast (k := i) rfl (by first | rfl | (simp only [fa_lit, nI_add, pk_mul, nI_1]; done) | omega) (by omega) rfl dX10_join_177 rfl ?_
      refine vs_gen (fun T1 e_T1 => ?_)
      have hx : aR T1 131 (l + m + 2) x := by rw [e_T1]; repeat (first | exact hx | refine aR.ne ?_ (by omega))
      have F : vs_fx S0 T1 [127] [] [] := by rw [e_T1]; repeat (first | exact F | refine vs_fx.ia ?_ (by simp <;> omega) | refine vs_fx.sc ?_ (by simp <;> omega) | refine vs_fx.la ?_ (by simp <;> omega))
      have A1 : aR T1 127 90 (cut x (i + 1)) := (by rw [e_T1, ← cut_s]; exact aR.put A1)
      clear e_T1
      refine vs_iinc (v := nI (i + 1)) [(3, .int (nI (i + 1))), (0, .ref (G.2.2.2 + 118)), (1, .int (nI l)), (2, .int (nI m))] dX10_join_178 rfl 0 rfl (by first | exact nI_1 _ | (simp only [fa_lit, nI_add, pk_mul, nI_1]; rfl)) rfl rfl ?_
      refine vs_goto 161 dX10_join_181 rfl ?_
      refine vs_pick [0, 1, 2, 3] rfl ?_
      exact ih (i + 1) _ (by omega) F A1

theorem l_jo4 {G : vv_G} {S : vs_S} {l m : Nat} {x : Nat → Nat} (hl : l + m ≤ 40) {S0 : vs_S} (hx0 : aR S0 131 (l + m + 2) x) {Pst : Option Value → vs_S → Prop} (K : ∀ S2 : vs_S, vs_fx S0 S2 [128] [] [] → aR S2 128 90 (cut ((fun k => x (l + 1 + k))) (m + 1)) → vs_V G cX10_join (vs_MP yX10_join 6 (some .int) { frames := 4, locals := 97 } G Pst) 213 [(0, .ref (G.2.2.2 + 118))] [] S2) : ∀ (d i : Nat) (S : vs_S), i + d = m + 1 → vs_fx S0 S [128] [] [] → aR S 128 90 (cut ((fun k => x (l + 1 + k))) i) → vs_V G cX10_join (vs_MP yX10_join 6 (some .int) { frames := 4, locals := 97 } G Pst) 186 [(3, .int (nI i)), (0, .ref (G.2.2.2 + 118)), (1, .int (nI l)), (2, .int (nI m))] [] S := by
  intro d
  induction d with
  | zero =>
    intro i S hi F A1
    obtain rfl : m + 1 = i := by omega
    have hx : aR S 131 (l + m + 2) x := aR.fx hx0 F (by simp <;> omega)
    refine vs_iload_n 3 dX10_join_186 rfl rfl 0 rfl ?_
    refine vs_iload_n 2 dX10_join_187 rfl rfl 3 rfl ?_
    refine vs_icmp_gt 213 dX10_join_188 rfl rfl (fun c_188 => ?_) (fun c_188 => ?_)
    · have q_188 : (((m + 1) : Nat) : Int) > ((m : Nat) : Int) := (qi_gt (nI_Z _) (nI_Z _) (by omega) (by omega) (by omega) (by omega)).mp c_188
      refine vs_pick (L2 := [(0, .ref (G.2.2.2 + 118))]) [1] rfl ?_
      exact K S F A1
    · have q_188 : ¬ (((m + 1) : Nat) : Int) > ((m : Nat) : Int) := fun hh => c_188 ((qi_gt (nI_Z _) (nI_Z _) (by omega) (by omega) (by omega) (by omega)).mpr hh)
      omega
  | succ d ih =>
    intro i S hi F A1
    have hx : aR S 131 (l + m + 2) x := aR.fx hx0 F (by simp <;> omega)
    refine vs_iload_n 3 dX10_join_186 rfl rfl 0 rfl ?_
    refine vs_iload_n 2 dX10_join_187 rfl rfl 3 rfl ?_
    refine vs_icmp_gt 213 dX10_join_188 rfl rfl (fun c_188 => ?_) (fun c_188 => ?_)
    · have q_188 : ((i : Nat) : Int) > ((m : Nat) : Int) := (qi_gt (nI_Z _) (nI_Z _) (by omega) (by omega) (by omega) (by omega)).mp c_188
      omega
    · have q_188 : ¬ ((i : Nat) : Int) > ((m : Nat) : Int) := fun hh => c_188 ((qi_gt (nI_Z _) (nI_Z _) (by omega) (by omega) (by omega) (by omega)).mpr hh)
      refine vs_aload_n 0 dX10_join_191 rfl rfl 1 rfl ?_
      refine vs_get (v := .ref (G.2.2.2 + 128)) lf_X10_38 rfl rfl dX10_join_192 rfl ?_
      refine vs_iload_n 3 dX10_join_195 rfl rfl 0 rfl ?_
      refine vs_aload_n 0 dX10_join_196 rfl rfl 1 rfl ?_
      refine vs_get (v := .ref (G.2.2.2 + 131)) lf_X10_47 rfl rfl dX10_join_197 rfl ?_
      refine vs_iload_n 1 dX10_join_200 rfl rfl 2 rfl ?_
      refine vs_iconst (v := 1) dX10_join_201 rfl rfl ?_
      refine vs_iadd dX10_join_202 rfl ?_
      refine vs_iload_n 3 dX10_join_203 rfl rfl 0 rfl ?_
      refine vs_iadd dX10_join_204 rfl ?_
      refine vs_iald (k := (l + 1 + i)) rfl (by simp only [fa_lit, nI_add, pk_mul]) (by omega) rfl dX10_join_205 rfl ?_
      refine vs_topi (fun z1 e_z1 => ?_)
      have f_z1 : z1 = nI (x (l + 1 + i)) := (by rw [e_z1]; exact hx (l + 1 + i) (by omega))
      subst f_z1
      clear e_z1
      refine vs_iast (k := i) rfl (by first | rfl | (simp only [fa_lit, nI_add, pk_mul, nI_1]; done) | omega) (by omega) rfl dX10_join_206 rfl ?_
      refine vs_gen (fun T1 e_T1 => ?_)
      have hx : aR T1 131 (l + m + 2) x := by rw [e_T1]; repeat (first | exact hx | refine aR.ne ?_ (by omega))
      have F : vs_fx S0 T1 [128] [] [] := by rw [e_T1]; repeat (first | exact F | refine vs_fx.ia ?_ (by simp <;> omega) | refine vs_fx.sc ?_ (by simp <;> omega) | refine vs_fx.la ?_ (by simp <;> omega))
      have A1 : aR T1 128 90 (cut ((fun k => x (l + 1 + k))) (i + 1)) := (by rw [e_T1, ← cut_s]; exact aR.put A1)
      clear e_T1
      refine vs_iinc (v := nI (i + 1)) [(3, .int (nI (i + 1))), (0, .ref (G.2.2.2 + 118)), (1, .int (nI l)), (2, .int (nI m))] dX10_join_207 rfl 0 rfl (by first | exact nI_1 _ | (simp only [fa_lit, nI_add, pk_mul, nI_1]; rfl)) rfl rfl ?_
      refine vs_goto 186 dX10_join_210 rfl ?_
      refine vs_pick [0, 1, 2, 3] rfl ?_
      exact ih (i + 1) _ (by omega) F A1

theorem l_jo5 {G : vv_G} {S : vs_S} {n : Nat} (hn : n ≤ 20) {px py : Nat → Nat} {P : Nat} (gP1 : 2 ≤ P) (gP2 : P ≤ 30011) (hb : ∀ i, i < n → px i < P ∧ py i < P) (mP : S.1 118 2 = nI P) (mH : S.1 118 28 = nI n) (mX : aR S 144 n px) (mY : aR S 145 n py) {A B : Nat → Nat} (hA : aR S 132 46 A) (hB : aR S 133 46 B) (hA1 : ∀ k, A k < P) (hB1 : ∀ k, B k < P) (hA2 : ∀ k, 42 ≤ k → A k = 0) (hB2 : ∀ k, 42 ≤ k → B k = 0) {Pst : Option Value → vs_S → Prop} (K : vs_V G cX10_join (vs_MP yX10_join 6 (some .int) { frames := 4, locals := 97 } G Pst) 308 [(3, .int (0)), (0, .ref (G.2.2.2 + 118))] [] S) : ∀ (d i : Nat), i + d = n → vs_V G cX10_join (vs_MP yX10_join 6 (some .int) { frames := 4, locals := 97 } G Pst) 230 [(4, .int (nI i)), (3, .int (0)), (0, .ref (G.2.2.2 + 118))] [] S := by
  intro d
  induction d with
  | zero =>
    intro i hi
    obtain rfl : n = i := by omega
    refine vs_iload dX10_join_230 rfl 0 rfl ?_
    refine vs_aload_n 0 dX10_join_232 rfl rfl 2 rfl ?_
    refine vs_get (v := .int (nI n)) lf_X10_118 rfl (congrArg (fun z => some (Value.int z)) mH) dX10_join_233 rfl ?_
    refine vs_icmp_ge 308 dX10_join_236 rfl rfl (fun c_236 => ?_) (fun c_236 => ?_)
    · have q_236 : ((n : Nat) : Int) ≥ ((n : Nat) : Int) := (qi_ge (nI_Z _) (nI_Z _) (by omega) (by omega) (by omega) (by omega)).mp c_236
      refine vs_pick [1, 2] rfl ?_
      exact K
    · have q_236 : ¬ ((n : Nat) : Int) ≥ ((n : Nat) : Int) := fun hh => c_236 ((qi_ge (nI_Z _) (nI_Z _) (by omega) (by omega) (by omega) (by omega)).mpr hh)
      omega
  | succ d ih =>
    intro i hi
    obtain ⟨b1, b2⟩ := hb i (by omega)
    have b3 : hv_ B (px i) P 42 0 < P := hv_b (by omega) 42 0 (by omega)
    have b4 : hv_ A (px i) P 42 0 < P := hv_b (by omega) 42 0 (by omega)
    have b5 : hv_ B (px i) P 42 0 * py i % P < P := Nat.mod_lt _ (by omega)
    refine vs_iload dX10_join_230 rfl 0 rfl ?_
    refine vs_aload_n 0 dX10_join_232 rfl rfl 2 rfl ?_
    refine vs_get (v := .int (nI n)) lf_X10_118 rfl (congrArg (fun z => some (Value.int z)) mH) dX10_join_233 rfl ?_
    refine vs_icmp_ge 308 dX10_join_236 rfl rfl (fun c_236 => ?_) (fun c_236 => ?_)
    · have q_236 : ((i : Nat) : Int) ≥ ((n : Nat) : Int) := (qi_ge (nI_Z _) (nI_Z _) (by omega) (by omega) (by omega) (by omega)).mp c_236
      omega
    · have q_236 : ¬ ((i : Nat) : Int) ≥ ((n : Nat) : Int) := fun hh => c_236 ((qi_ge (nI_Z _) (nI_Z _) (by omega) (by omega) (by omega) (by omega)).mpr hh)
      refine vs_aload_n 0 dX10_join_239 rfl rfl 2 rfl ?_
      refine vs_aload_n 0 dX10_join_240 rfl rfl 2 rfl ?_
      refine vs_get (v := .ref (G.2.2.2 + 133)) lf_X10_53 rfl rfl dX10_join_241 rfl ?_
      refine vs_aload_n 0 dX10_join_244 rfl rfl 2 rfl ?_
      refine vs_get (v := .ref (G.2.2.2 + 144)) lf_X10_86 rfl rfl dX10_join_245 rfl ?_
      refine vs_iload dX10_join_248 rfl 0 rfl ?_
      refine vs_iald (k := i) rfl rfl (by omega) rfl dX10_join_250 rfl ?_
      refine vs_topi (fun z1 e_z1 => ?_)
      have f_z1 : z1 = nI (px i) := (by rw [e_z1]; repeat (first | exact mX i (by omega) | rw [vs_ia_ne (by omega)]))
      subst f_z1
      clear e_z1
      refine vs_callV (st := []) (c_valueOf (o := 133) rfl hB mP gP1 gP2 hB1 b1 hB2) lk_X10_206 lm_X10_valueOf rfl rfl rfl rfl (Nat.le_of_ble_eq_true rfl) rfl ⟨rfl, rfl⟩ dX10_join_251 rfl ?_
      show vs_V _ _ _ _ _ (.int (nI (hv_ B (px i) P 42 0)) :: _) _
      refine vs_istore [(5, .int (nI (hv_ B (px i) P 42 0))), (4, .int (nI i)), (3, .int (0)), (0, .ref (G.2.2.2 + 118))] dX10_join_254 rfl rfl rfl ?_
      refine vs_iload_n 3 dX10_join_256 rfl rfl 2 rfl ?_
      refine vs_if_eq 300 dX10_join_257 rfl rfl (fun c_257 => ?_) (fun c_257 => ?_)
      · have q_257 : ((0 : Nat) : Int) = ((0 : Nat) : Int) := (qi_eq (by first | exact nI_Z _ | (simp only [fa_lit, nI_add, pk_mul, nI_1]; exact nI_Z _)) (by first | exact nI_Z _ | (simp only [fa_lit, nI_add, pk_mul, nI_1]; exact nI_Z _)) (by omega) (by omega) (by omega) (by omega)).mp c_257
        refine vs_iconst (v := 0) dX10_join_300 rfl rfl ?_
        refine vs_istore_n 3 [(3, .int (0)), (5, .int (nI (hv_ B (px i) P 42 0))), (4, .int (nI i)), (0, .ref (G.2.2.2 + 118))] dX10_join_301 rfl rfl rfl rfl ?_
        refine vs_iinc (v := nI (i + 1)) [(4, .int (nI (i + 1))), (3, .int (0)), (5, .int (nI (hv_ B (px i) P 42 0))), (0, .ref (G.2.2.2 + 118))] dX10_join_302 rfl 2 rfl (by first | exact nI_1 _ | (simp only [fa_lit, nI_add, pk_mul, nI_1]; rfl)) rfl rfl ?_
        refine vs_goto 230 dX10_join_305 rfl ?_
        refine vs_pick [0, 1, 3] rfl ?_
        exact ih (i + 1) (by omega)
      · have q_257 : ¬ ((0 : Nat) : Int) = ((0 : Nat) : Int) := fun hh => c_257 ((qi_eq (by first | exact nI_Z _ | (simp only [fa_lit, nI_add, pk_mul, nI_1]; exact nI_Z _)) (by first | exact nI_Z _ | (simp only [fa_lit, nI_add, pk_mul, nI_1]; exact nI_Z _)) (by omega) (by omega) (by omega) (by omega)).mpr hh)
        omega

theorem l_jo6 {G : vv_G} {S : vs_S} {n : Nat} (hn : n ≤ 20) {px py : Nat → Nat} {P : Nat} (gP1 : 2 ≤ P) (gP2 : P ≤ 30011) (hb : ∀ i, i < n → px i < P ∧ py i < P) (mP : S.1 118 2 = nI P) (mH : S.1 118 28 = nI n) (mX : aR S 144 n px) (mY : aR S 145 n py) {A B : Nat → Nat} (hA : aR S 132 46 A) (hB : aR S 133 46 B) (hA1 : ∀ k, A k < P) (hB1 : ∀ k, B k < P) (hA2 : ∀ k, 42 ≤ k → A k = 0) (hB2 : ∀ k, 42 ≤ k → B k = 0) {Pst : Option Value → vs_S → Prop} : ∀ (d i : Nat), i + d = n → vs_V G cX10_join (vs_MP yX10_join 6 (some .int) { frames := 4, locals := 97 } G Pst) 308 [(3, .int ((if aon A B px py P d i = true then 1 else 0))), (0, .ref (G.2.2.2 + 118))] [] S → vs_V G cX10_join (vs_MP yX10_join 6 (some .int) { frames := 4, locals := 97 } G Pst) 230 [(4, .int (nI i)), (3, .int (1)), (0, .ref (G.2.2.2 + 118))] [] S := by
  intro d
  induction d with
  | zero =>
    intro i hi K
    obtain rfl : n = i := by omega
    refine vs_iload dX10_join_230 rfl 0 rfl ?_
    refine vs_aload_n 0 dX10_join_232 rfl rfl 2 rfl ?_
    refine vs_get (v := .int (nI n)) lf_X10_118 rfl (congrArg (fun z => some (Value.int z)) mH) dX10_join_233 rfl ?_
    refine vs_icmp_ge 308 dX10_join_236 rfl rfl (fun c_236 => ?_) (fun c_236 => ?_)
    · have q_236 : ((n : Nat) : Int) ≥ ((n : Nat) : Int) := (qi_ge (nI_Z _) (nI_Z _) (by omega) (by omega) (by omega) (by omega)).mp c_236
      refine vs_pick [1, 2] rfl ?_
      exact K
    · have q_236 : ¬ ((n : Nat) : Int) ≥ ((n : Nat) : Int) := fun hh => c_236 ((qi_ge (nI_Z _) (nI_Z _) (by omega) (by omega) (by omega) (by omega)).mpr hh)
      omega
  | succ d ih =>
    intro i hi K
    obtain ⟨b1, b2⟩ := hb i (by omega)
    have b3 : hv_ B (px i) P 42 0 < P := hv_b (by omega) 42 0 (by omega)
    have b4 : hv_ A (px i) P 42 0 < P := hv_b (by omega) 42 0 (by omega)
    have b5 : hv_ B (px i) P 42 0 * py i % P < P := Nat.mod_lt _ (by omega)
    refine vs_iload dX10_join_230 rfl 0 rfl ?_
    refine vs_aload_n 0 dX10_join_232 rfl rfl 2 rfl ?_
    refine vs_get (v := .int (nI n)) lf_X10_118 rfl (congrArg (fun z => some (Value.int z)) mH) dX10_join_233 rfl ?_
    refine vs_icmp_ge 308 dX10_join_236 rfl rfl (fun c_236 => ?_) (fun c_236 => ?_)
    · have q_236 : ((i : Nat) : Int) ≥ ((n : Nat) : Int) := (qi_ge (nI_Z _) (nI_Z _) (by omega) (by omega) (by omega) (by omega)).mp c_236
      omega
    · have q_236 : ¬ ((i : Nat) : Int) ≥ ((n : Nat) : Int) := fun hh => c_236 ((qi_ge (nI_Z _) (nI_Z _) (by omega) (by omega) (by omega) (by omega)).mpr hh)
      refine vs_aload_n 0 dX10_join_239 rfl rfl 2 rfl ?_
      refine vs_aload_n 0 dX10_join_240 rfl rfl 2 rfl ?_
      refine vs_get (v := .ref (G.2.2.2 + 133)) lf_X10_53 rfl rfl dX10_join_241 rfl ?_
      refine vs_aload_n 0 dX10_join_244 rfl rfl 2 rfl ?_
      refine vs_get (v := .ref (G.2.2.2 + 144)) lf_X10_86 rfl rfl dX10_join_245 rfl ?_
      refine vs_iload dX10_join_248 rfl 0 rfl ?_
      refine vs_iald (k := i) rfl rfl (by omega) rfl dX10_join_250 rfl ?_
      refine vs_topi (fun z1 e_z1 => ?_)
      have f_z1 : z1 = nI (px i) := (by rw [e_z1]; repeat (first | exact mX i (by omega) | rw [vs_ia_ne (by omega)]))
      subst f_z1
      clear e_z1
      refine vs_callV (st := []) (c_valueOf (o := 133) rfl hB mP gP1 gP2 hB1 b1 hB2) lk_X10_206 lm_X10_valueOf rfl rfl rfl rfl (Nat.le_of_ble_eq_true rfl) rfl ⟨rfl, rfl⟩ dX10_join_251 rfl ?_
      show vs_V _ _ _ _ _ (.int (nI (hv_ B (px i) P 42 0)) :: _) _
      refine vs_istore [(5, .int (nI (hv_ B (px i) P 42 0))), (4, .int (nI i)), (3, .int (1)), (0, .ref (G.2.2.2 + 118))] dX10_join_254 rfl rfl rfl ?_
      refine vs_iload_n 3 dX10_join_256 rfl rfl 2 rfl ?_
      refine vs_if_eq 300 dX10_join_257 rfl rfl (fun c_257 => ?_) (fun c_257 => ?_)
      · have q_257 : ((1 : Nat) : Int) = ((0 : Nat) : Int) := (qi_eq (by first | exact nI_Z _ | (simp only [fa_lit, nI_add, pk_mul, nI_1]; exact nI_Z _)) (by first | exact nI_Z _ | (simp only [fa_lit, nI_add, pk_mul, nI_1]; exact nI_Z _)) (by omega) (by omega) (by omega) (by omega)).mp c_257
        omega
      · have q_257 : ¬ ((1 : Nat) : Int) = ((0 : Nat) : Int) := fun hh => c_257 ((qi_eq (by first | exact nI_Z _ | (simp only [fa_lit, nI_add, pk_mul, nI_1]; exact nI_Z _)) (by first | exact nI_Z _ | (simp only [fa_lit, nI_add, pk_mul, nI_1]; exact nI_Z _)) (by omega) (by omega) (by omega) (by omega)).mpr hh)
        refine vs_iload dX10_join_260 rfl 0 rfl ?_
        refine vs_if_eq 300 dX10_join_262 rfl rfl (fun c_262 => ?_) (fun c_262 => ?_)
        · have q_262 : (((hv_ B (px i) P 42 0) : Nat) : Int) = ((0 : Nat) : Int) := (qi_eq (nI_Z _) (by first | exact nI_Z _ | (simp only [fa_lit, nI_add, pk_mul, nI_1]; exact nI_Z _)) (by omega) (by omega) (by omega) (by omega)).mp c_262
          have hf : aon A B px py P (d + 1) i = false := if_pos (by omega)
          refine vs_iconst (v := 0) dX10_join_300 rfl rfl ?_
          refine vs_istore_n 3 [(3, .int (0)), (5, .int (nI (hv_ B (px i) P 42 0))), (4, .int (nI i)), (0, .ref (G.2.2.2 + 118))] dX10_join_301 rfl rfl rfl rfl ?_
          refine vs_iinc (v := nI (i + 1)) [(4, .int (nI (i + 1))), (3, .int (0)), (5, .int (nI (hv_ B (px i) P 42 0))), (0, .ref (G.2.2.2 + 118))] dX10_join_302 rfl 2 rfl (by first | exact nI_1 _ | (simp only [fa_lit, nI_add, pk_mul, nI_1]; rfl)) rfl rfl ?_
          refine vs_goto 230 dX10_join_305 rfl ?_
          refine vs_pick [0, 1, 3] rfl ?_
          rw [hf] at K
          first | exact ih (i + 1) (by omega) K | exact l_jo5 hn gP1 gP2 hb mP mH mX mY hA hB hA1 hB1 hA2 hB2 K d (i + 1) (by omega)
        · have q_262 : ¬ (((hv_ B (px i) P 42 0) : Nat) : Int) = ((0 : Nat) : Int) := fun hh => c_262 ((qi_eq (nI_Z _) (by first | exact nI_Z _ | (simp only [fa_lit, nI_add, pk_mul, nI_1]; exact nI_Z _)) (by omega) (by omega) (by omega) (by omega)).mpr hh)
          refine vs_aload_n 0 dX10_join_265 rfl rfl 3 rfl ?_
          refine vs_aload_n 0 dX10_join_266 rfl rfl 3 rfl ?_
          refine vs_get (v := .ref (G.2.2.2 + 132)) lf_X10_50 rfl rfl dX10_join_267 rfl ?_
          refine vs_aload_n 0 dX10_join_270 rfl rfl 3 rfl ?_
          refine vs_get (v := .ref (G.2.2.2 + 144)) lf_X10_86 rfl rfl dX10_join_271 rfl ?_
          refine vs_iload dX10_join_274 rfl 1 rfl ?_
          refine vs_iald (k := i) rfl rfl (by omega) rfl dX10_join_276 rfl ?_
          refine vs_topi (fun z2 e_z2 => ?_)
          have f_z2 : z2 = nI (px i) := (by rw [e_z2]; repeat (first | exact mX i (by omega) | rw [vs_ia_ne (by omega)]))
          subst f_z2
          clear e_z2
          refine vs_callV (st := []) (c_valueOf (o := 132) rfl hA mP gP1 gP2 hA1 b1 hA2) lk_X10_206 lm_X10_valueOf rfl rfl rfl rfl (Nat.le_of_ble_eq_true rfl) rfl ⟨rfl, rfl⟩ dX10_join_277 rfl ?_
          show vs_V _ _ _ _ _ (.int (nI (hv_ A (px i) P 42 0)) :: _) _
          refine vs_aload_n 0 dX10_join_280 rfl rfl 3 rfl ?_
          refine vs_iload dX10_join_281 rfl 0 rfl ?_
          refine vs_aload_n 0 dX10_join_283 rfl rfl 3 rfl ?_
          refine vs_get (v := .ref (G.2.2.2 + 145)) lf_X10_89 rfl rfl dX10_join_284 rfl ?_
          refine vs_iload dX10_join_287 rfl 1 rfl ?_
          refine vs_iald (k := i) rfl rfl (by omega) rfl dX10_join_289 rfl ?_
          refine vs_topi (fun z3 e_z3 => ?_)
          have f_z3 : z3 = nI (py i) := (by rw [e_z3]; repeat (first | exact mY i (by omega) | rw [vs_ia_ne (by omega)]))
          subst f_z3
          clear e_z3
          refine vs_callV (st := [.int (nI (hv_ A (px i) P 42 0))]) (c_product mP (by omega) (by omega) (by omega) (by omega)) lk_X10_99 lm_X10_product rfl rfl rfl rfl (Nat.le_of_ble_eq_true rfl) rfl ⟨rfl, rfl⟩ dX10_join_290 rfl ?_
          show vs_V _ _ _ _ _ (.int (nI (hv_ B (px i) P 42 0 * py i % P)) :: _) _
          refine vs_icmp_ne 300 dX10_join_293 rfl rfl (fun c_293 => ?_) (fun c_293 => ?_)
          · have q_293 : ¬ (((hv_ A (px i) P 42 0) : Nat) : Int) = (((hv_ B (px i) P 42 0 * py i % P) : Nat) : Int) := fun hh => c_293 ((qi_eq (nI_Z _) (nI_Z _) (by omega) (by omega) (by omega) (by omega)).mpr hh)
            have hf : aon A B px py P (d + 1) i = false := (if_neg (by omega)).trans (if_neg (by rw [Nat.mul_comm (py i)]; omega))
            refine vs_iconst (v := 0) dX10_join_300 rfl rfl ?_
            refine vs_istore_n 3 [(3, .int (0)), (5, .int (nI (hv_ B (px i) P 42 0))), (4, .int (nI i)), (0, .ref (G.2.2.2 + 118))] dX10_join_301 rfl rfl rfl rfl ?_
            refine vs_iinc (v := nI (i + 1)) [(4, .int (nI (i + 1))), (3, .int (0)), (5, .int (nI (hv_ B (px i) P 42 0))), (0, .ref (G.2.2.2 + 118))] dX10_join_302 rfl 2 rfl (by first | exact nI_1 _ | (simp only [fa_lit, nI_add, pk_mul, nI_1]; rfl)) rfl rfl ?_
            refine vs_goto 230 dX10_join_305 rfl ?_
            refine vs_pick [0, 1, 3] rfl ?_
            rw [hf] at K
            first | exact ih (i + 1) (by omega) K | exact l_jo5 hn gP1 gP2 hb mP mH mX mY hA hB hA1 hB1 hA2 hB2 K d (i + 1) (by omega)
          · have q_293 : (((hv_ A (px i) P 42 0) : Nat) : Int) = (((hv_ B (px i) P 42 0 * py i % P) : Nat) : Int) := (qi_eq (nI_Z _) (nI_Z _) (by omega) (by omega) (by omega) (by omega)).mp c_293
            have hf : aon A B px py P (d + 1) i = aon A B px py P d (i + 1) := (if_neg (by omega)).trans (if_pos (by rw [Nat.mul_comm (py i)]; omega))
            refine vs_iconst (v := 1) dX10_join_296 rfl rfl ?_
            refine vs_goto 301 dX10_join_297 rfl ?_
            refine vs_istore_n 3 [(3, .int (1)), (5, .int (nI (hv_ B (px i) P 42 0))), (4, .int (nI i)), (0, .ref (G.2.2.2 + 118))] dX10_join_301 rfl rfl rfl rfl ?_
            refine vs_iinc (v := nI (i + 1)) [(4, .int (nI (i + 1))), (3, .int (1)), (5, .int (nI (hv_ B (px i) P 42 0))), (0, .ref (G.2.2.2 + 118))] dX10_join_302 rfl 2 rfl (by first | exact nI_1 _ | (simp only [fa_lit, nI_add, pk_mul, nI_1]; rfl)) rfl rfl ?_
            refine vs_goto 230 dX10_join_305 rfl ?_
            refine vs_pick [0, 1, 3] rfl ?_
            rw [hf] at K
            first | exact ih (i + 1) (by omega) K | exact l_jo5 hn gP1 gP2 hb mP mH mX mY hA hB hA1 hB1 hA2 hB2 K d (i + 1) (by omega)

theorem M_join {G : vv_G} {S : vs_S} {a : aS} (hM : MSt S a) (hG : aG a) {l : Int} (hl1 : -2147483648 ≤ l) (hl2 : l < 2147483648) {m : Int} (hm1 : -2147483648 ≤ m) (hm2 : m < 2147483648) : vs_CP G yX10_join cX10_join 6 (some .int) { frames := 4, locals := 97 } [.ref (G.2.2.2 + 118), .int (nZ l), .int (nZ m)] S (fun r S2 => r = some (.int (nZ (sp_join a l m).1)) ∧ MSt S2 (sp_join a l m).2 ∧ frM S S2) := by
  refine vs_ofP [(0, .ref (G.2.2.2 + 118)), (1, .int (nZ l)), (2, .int (nZ m))] (by decide) rfl rfl ?_
  obtain ⟨⟨mP, mN, mH, mK0⟩, mK, mSh, mSe, ⟨mA, mB⟩, mX, mY⟩ := id hM
  obtain ⟨gP, gP2, gN, gH, gSe, gSh, gXY, gB31, gInj, gA, gB, gAz, gBz⟩ := hG
  have gP1 := gP.1
  refine vs_iload_n 1 dX10_join_0 rfl rfl 1 rfl ?_
  refine vs_if_lt 8 dX10_join_1 rfl rfl (fun c_1 => ?_) (fun c_1 => ?_)
  · have q_1 : (l : Int) < ((0 : Nat) : Int) := (qi_lt rfl (by first | exact nI_Z _ | (simp only [fa_lit, nI_add, pk_mul, nI_1]; exact nI_Z _)) (by omega) (by omega) (by omega) (by omega)).mp c_1
    refine vs_bipush (v := -102) dX10_join_8 rfl rfl ?_
    exact vs_iretP dX10_join_10 (mpost (v := -102) (a' := a) (by unfold sp_join; (try simp only [Int.toNat_natCast]); repeat (first | rw [if_pos (by omega)] | rw [if_pos trivial] | rw [if_neg (by omega)])) rfl hM frM.rf)
  · have q_1 : ¬ (l : Int) < ((0 : Nat) : Int) := fun hh => c_1 ((qi_lt rfl (by first | exact nI_Z _ | (simp only [fa_lit, nI_add, pk_mul, nI_1]; exact nI_Z _)) (by omega) (by omega) (by omega) (by omega)).mpr hh)
    refine vs_iload_n 2 dX10_join_4 rfl rfl 2 rfl ?_
    refine vs_if_ge 11 dX10_join_5 rfl rfl (fun c_5 => ?_) (fun c_5 => ?_)
    · have q_5 : (m : Int) ≥ ((0 : Nat) : Int) := (qi_ge rfl (by first | exact nI_Z _ | (simp only [fa_lit, nI_add, pk_mul, nI_1]; exact nI_Z _)) (by omega) (by omega) (by omega) (by omega)).mp c_5
      refine vs_iload_n 1 dX10_join_11 rfl rfl 1 rfl ?_
      refine vs_i2l dX10_join_12 rfl ?_
      refine vs_iload_n 2 dX10_join_13 rfl rfl 2 rfl ?_
      refine vs_i2l dX10_join_14 rfl ?_
      refine vs_ladd dX10_join_15 rfl ?_
      refine vs_lconst (v := 1) dX10_join_16 rfl rfl ?_
      refine vs_ladd dX10_join_17 rfl ?_
      refine vs_aload_n 0 dX10_join_18 rfl rfl 0 rfl ?_
      refine vs_get (v := .int (nI (aH a))) lf_X10_118 rfl (congrArg (fun z => some (Value.int z)) mH) dX10_join_19 rfl ?_
      refine vs_i2l dX10_join_22 rfl ?_
      refine vs_lcmp dX10_join_23 rfl ?_
      refine vs_topi (fun z1 e_z1 => ?_)
      have f_z1 : z1 = nZ (zcmp (l + m + 1) (aH a)) := (by rw [e_z1, lg_z, nn_l3 (by omega) (by omega) (by omega) (by omega), nn_i2l, nI_i (by omega)])
      subst f_z1
      clear e_z1
      refine vs_if_eq 30 dX10_join_24 rfl rfl (fun c_24 => ?_) (fun c_24 => ?_)
      · have q_24 : ((zcmp (l + m + 1) (aH a)) : Int) = ((0 : Nat) : Int) := (qi_eq rfl (by first | exact nI_Z _ | (simp only [fa_lit, nI_add, pk_mul, nI_1]; exact nI_Z _)) (by have := zcmp_b (l + m + 1) (aH a); omega) (by have := zcmp_b (l + m + 1) (aH a); omega) (by decide) (by decide)).mp c_24
        have hlm := zcmp_0.mp q_24
        skip
        · obtain ⟨l, rfl⟩ : ∃ z0 : Nat, l = z0 := ⟨l.toNat, by omega⟩
          obtain ⟨m, rfl⟩ : ∃ z0 : Nat, m = z0 := ⟨m.toNat, by omega⟩
          rw [nZ_n l, nZ_n m]
          have heq : l + m + 1 = aH a := by omega
          refine vs_iconst (v := 0) dX10_join_30 rfl rfl ?_
          refine vs_istore_n 3 [(3, .int (0)), (0, .ref (G.2.2.2 + 118)), (1, .int (nI l)), (2, .int (nI m))] dX10_join_31 rfl rfl rfl rfl ?_
          refine vs_pick (L2 := [(3, .int (nI 0)), (0, .ref (G.2.2.2 + 118)), (1, .int (nI l)), (2, .int (nI m))]) [0, 1, 2, 3] rfl ?_
          refine l_jo2 (S := S) (n := aH a) gH heq gP1 gP2 gXY (S0 := S) mP mH mX mY (fun S2 F B => ?_) (aH a) 0 S (by omega) vs_fx.rf (fun x1 x2 x3 x4 => absurd x4 (by dsimp only; omega))
          have mP2 : S2.1 118 2 = nI (aP a) := (F.2.1 _ _ (by simp)).trans mP
          have mH2 : S2.1 118 28 = nI (aH a) := (F.2.1 _ _ (by simp)).trans mH
          refine vs_aload_n 0 dX10_join_147 rfl rfl 0 rfl ?_
          refine vs_aload_n 0 dX10_join_148 rfl rfl 0 rfl ?_
          refine vs_get (v := .int (nI (aH a))) lf_X10_118 rfl (congrArg (fun z => some (Value.int z)) mH2) dX10_join_149 rfl ?_
          refine vs_callVP (st := []) (c_solve (n := aH a) (by omega) gP gP1 gP2 mP2 B (fun i j _ _ => jT_b gP1 i j)) lk_X10_179 lm_X10_solve rfl rfl rfl rfl (Nat.le_of_ble_eq_true rfl) rfl ⟨rfl, rfl⟩ dX10_join_152 rfl (fun rr S1 hh => ?_)
          obtain ⟨rfl, F2, x, hx, bx, hf1, hker⟩ := hh
          show vs_V _ _ _ _ _ [] _
          refine vs_aload_n 0 dX10_join_155 rfl rfl 0 rfl ?_
          refine vs_callVP (st := []) c_clearWork lk_X10_145 lm_X10_clearWork rfl rfl rfl rfl (Nat.le_of_ble_eq_true rfl) rfl ⟨rfl, rfl⟩ dX10_join_156 rfl (fun rr S2 hh => ?_)
          obtain ⟨rfl, F3, A1, A2⟩ := hh
          show vs_V _ _ _ _ _ [] _
          refine vs_iconst (v := 0) dX10_join_159 rfl rfl ?_
          refine vs_istore_n 3 [(3, .int (0)), (0, .ref (G.2.2.2 + 118)), (1, .int (nI l)), (2, .int (nI m))] dX10_join_160 rfl rfl rfl rfl ?_
          refine vs_pick (L2 := [(3, .int (nI 0)), (0, .ref (G.2.2.2 + 118)), (1, .int (nI l)), (2, .int (nI m))]) [0, 1, 2, 3] rfl ?_
          rw [← heq] at hx
          have hx3 := aR.fx hx F3 (by simp)
          refine l_jo3 (S := S) (l := l) (m := m) (x := x) (by omega) (S0 := S2) hx3 (fun S4 F4 B1 => ?_) (l + 1) 0 S2 (by omega) vs_fx.rf (A1.c (fun j _ => (if_neg (by omega)).symm))
          refine vs_iconst (v := 0) dX10_join_184 rfl rfl ?_
          refine vs_istore_n 3 [(3, .int (0)), (0, .ref (G.2.2.2 + 118)), (1, .int (nI l)), (2, .int (nI m))] dX10_join_185 rfl rfl rfl rfl ?_
          refine vs_pick (L2 := [(3, .int (nI 0)), (0, .ref (G.2.2.2 + 118)), (1, .int (nI l)), (2, .int (nI m))]) [0, 1, 2, 3] rfl ?_
          refine l_jo4 (S := S) (l := l) (m := m) (x := x) (by omega) (S0 := S4) (aR.fx hx3 F4 (by simp)) (fun S5 F5 C1 => ?_) (m + 1) 0 S4 (by omega) vs_fx.rf (aR.c (aR.fx A2 F4 (by simp)) (fun j _ => (if_neg (by omega)).symm))
          have G5 : vs_fx S S5 [127, 128, 129, 130, 131] [] [] := vs_fx.tr (vs_fx.tr (vs_fx.tr (vs_fx.tr (vs_fx.tr vs_fx.rf F (by simp) (by simp) (by simp)) F2 (by simp) (by simp) (by simp)) F3 (by simp) (by simp) (by simp)) F4 (by simp) (by simp) (by simp)) F5 (by simp) (by simp) (by simp)
          have hker2 := hker
          obtain ⟨q1, q2, q3, q4, q5, q6⟩ := je_s gP gH heq gXY gInj bx hf1 hker
          obtain ⟨r1, r2, r3, r4⟩ := lgt_s gP q1 q2 q3
          have hu := jsh_u gP gH heq gXY gInj q3 q4 q5 q6 (fun k => Nat.mod_lt _ (by omega)) (fun k => Nat.mod_lt _ (by omega)) r4
          obtain ⟨i1, i2, i3, i4, i5, i6, i7⟩ := ipk_s gP (aH a) gH gXY gInj
          have hz := fsh_z (P := aP a) (l := l) i1.2 i2.2
          have mP5 : S5.1 118 2 = nI (aP a) := (G5.2.1 _ _ (by simp)).trans mP
          have hp5 : aR S5 127 90 (jP x l) := aR.fx B1 F5 (by simp)
          have hq5 : aR S5 128 90 (jQ x l m) := C1
          refine vs_aload_n 0 dX10_join_213 rfl rfl 0 rfl ?_
          refine vs_callVP (st := []) (c_lighten gP gP1 gP2 q1 q2 mP5 hp5 hq5) lk_X10_183 lm_X10_lighten rfl rfl rfl rfl (Nat.le_of_ble_eq_true rfl) rfl ⟨rfl, rfl⟩ dX10_join_214 rfl (fun rr S1 hh => ?_)
          obtain ⟨rfl, F6, D1, D2⟩ := hh
          show vs_V _ _ _ _ _ [] _
          refine vs_aload_n 0 dX10_join_217 rfl rfl 0 rfl ?_
          refine vs_callVP (st := []) (c_keepResult (aR.fx (aR.fx mA G5 (by simp)) F6 (by simp)) (aR.fx (aR.fx mB G5 (by simp)) F6 (by simp))) lk_X10_200 lm_X10_keepResult rfl rfl rfl rfl (Nat.le_of_ble_eq_true rfl) rfl ⟨rfl, rfl⟩ dX10_join_218 rfl (fun rr S2 hh => ?_)
          obtain ⟨rfl, F6k, K1, K2⟩ := hh
          show vs_V _ _ _ _ _ [] _
          refine vs_aload_n 0 dX10_join_221 rfl rfl 0 rfl ?_
          refine vs_callVP (st := []) (c_tell gP gP1 gP2 r1 r2 r3 ((F6k.2.1 _ _ (by simp)).trans ((F6.2.1 _ _ (by simp)).trans mP5)) (aR.fx D1 F6k (by simp)) (aR.fx D2 F6k (by simp))) lk_X10_186 lm_X10_tell rfl rfl rfl rfl (Nat.le_of_ble_eq_true rfl) rfl ⟨rfl, rfl⟩ dX10_join_222 rfl (fun rr S3 hh => ?_)
          obtain ⟨rfl, F6t, E1, E2⟩ := hh
          show vs_V _ _ _ _ _ [] _
          refine vs_iconst (v := 1) dX10_join_225 rfl rfl ?_
          refine vs_istore_n 3 [(3, .int (1)), (0, .ref (G.2.2.2 + 118))] dX10_join_226 rfl rfl rfl rfl ?_
          refine vs_iconst (v := 0) dX10_join_227 rfl rfl ?_
          refine vs_istore [(4, .int (0)), (3, .int (1)), (0, .ref (G.2.2.2 + 118))] dX10_join_228 rfl rfl rfl ?_
          refine vs_pick (L2 := [(4, .int (nI 0)), (3, .int (1)), (0, .ref (G.2.2.2 + 118))]) [0, 1, 2] rfl ?_
          have F7 : vs_fx S S3 [127, 128, 129, 130, 131, 132, 133, 134, 135, 137, 138] [] [] := vs_fx.tr (vs_fx.tr (vs_fx.tr (vs_fx.tr vs_fx.rf G5 (by simp) (by simp) (by simp)) F6 (by simp) (by simp) (by simp)) F6k (by simp) (by simp) (by simp)) F6t (by simp) (by simp) (by simp)
          have E1 : aR S3 132 46 (jsh a l).1 := by unfold jsh; rw [← hu.1]; exact E1
          have E2 : aR S3 133 46 (jsh a l).2 := by unfold jsh; rw [← hu.2]; exact E2
          have K1 := aR.fx K1 F6t (by simp)
          have K2 := aR.fx K2 F6t (by simp)
          have hA1 : ∀ k, (jsh a l).1 k < aP a := by unfold jsh; rw [← hu.1]; exact fun k => Nat.mod_lt _ (by omega)
          have hB1 : ∀ k, (jsh a l).2 k < aP a := by unfold jsh; rw [← hu.2]; exact fun k => Nat.mod_lt _ (by omega)
          refine l_jo6 (S := S3) (n := aH a) gH gP1 gP2 gXY ((F7.2.1 _ _ (by simp)).trans mP) ((F7.2.1 _ _ (by simp)).trans mH) (aR.fx mX F7 (by simp)) (aR.fx mY F7 (by simp)) E1 E2 hA1 hB1 hz.1 hz.2 (aH a) 0 (by omega) ?_
          by_cases hao : aon (jsh a l).1 (jsh a l).2 (aX a) (aY a) (aP a) (aH a) 0 = true
          · rw [if_pos hao]
            refine vs_iload_n 3 dX10_join_308 rfl rfl 0 rfl ?_
            refine vs_if_ne 316 dX10_join_309 rfl rfl (fun c_309 => ?_) (fun c_309 => ?_)
            · have q_309 : ¬ ((1 : Nat) : Int) = ((0 : Nat) : Int) := fun hh => c_309 ((qi_eq (by first | exact nI_Z _ | (simp only [fa_lit, nI_add, pk_mul, nI_1]; exact nI_Z _)) (by first | exact nI_Z _ | (simp only [fa_lit, nI_add, pk_mul, nI_1]; exact nI_Z _)) (by omega) (by omega) (by omega) (by omega)).mpr hh)
              refine vs_iload_n 3 dX10_join_316 rfl rfl 0 rfl ?_
              refine vs_if_eq 324 dX10_join_317 rfl rfl (fun c_317 => ?_) (fun c_317 => ?_)
              · have q_317 : ((1 : Nat) : Int) = ((0 : Nat) : Int) := (qi_eq (by first | exact nI_Z _ | (simp only [fa_lit, nI_add, pk_mul, nI_1]; exact nI_Z _)) (by first | exact nI_Z _ | (simp only [fa_lit, nI_add, pk_mul, nI_1]; exact nI_Z _)) (by omega) (by omega) (by omega) (by omega)).mp c_317
                omega
              · have q_317 : ¬ ((1 : Nat) : Int) = ((0 : Nat) : Int) := fun hh => c_317 ((qi_eq (by first | exact nI_Z _ | (simp only [fa_lit, nI_add, pk_mul, nI_1]; exact nI_Z _)) (by first | exact nI_Z _ | (simp only [fa_lit, nI_add, pk_mul, nI_1]; exact nI_Z _)) (by omega) (by omega) (by omega) (by omega)).mpr hh)
                refine vs_iconst (v := 1) dX10_join_320 rfl rfl ?_
                refine vs_goto 325 dX10_join_321 rfl ?_
                exact vs_iretP dX10_join_325 (mpost (v := 1) (a' := s_re a (jsh a l).1 (jsh a l).2) (by unfold sp_join; rw [if_neg (by omega), if_neg (by omega), show ((l : Nat) : Int).toNat = l by omega, if_pos hao]) rfl (MSt.re hM F7 E1 E2 (by simp [mcr]) (by simp) (by simp)) (F7.M (by simp) (by simp) (by simp)))
            · have q_309 : ((1 : Nat) : Int) = ((0 : Nat) : Int) := (qi_eq (by first | exact nI_Z _ | (simp only [fa_lit, nI_add, pk_mul, nI_1]; exact nI_Z _)) (by first | exact nI_Z _ | (simp only [fa_lit, nI_add, pk_mul, nI_1]; exact nI_Z _)) (by omega) (by omega) (by omega) (by omega)).mp c_309
              omega
          · rw [if_neg hao]
            refine vs_iload_n 3 dX10_join_308 rfl rfl 0 rfl ?_
            refine vs_if_ne 316 dX10_join_309 rfl rfl (fun c_309 => ?_) (fun c_309 => ?_)
            · have q_309 : ¬ ((0 : Nat) : Int) = ((0 : Nat) : Int) := fun hh => c_309 ((qi_eq (by first | exact nI_Z _ | (simp only [fa_lit, nI_add, pk_mul, nI_1]; exact nI_Z _)) (by first | exact nI_Z _ | (simp only [fa_lit, nI_add, pk_mul, nI_1]; exact nI_Z _)) (by omega) (by omega) (by omega) (by omega)).mpr hh)
              omega
            · have q_309 : ((0 : Nat) : Int) = ((0 : Nat) : Int) := (qi_eq (by first | exact nI_Z _ | (simp only [fa_lit, nI_add, pk_mul, nI_1]; exact nI_Z _)) (by first | exact nI_Z _ | (simp only [fa_lit, nI_add, pk_mul, nI_1]; exact nI_Z _)) (by omega) (by omega) (by omega) (by omega)).mp c_309
              refine vs_aload_n 0 dX10_join_312 rfl rfl 1 rfl ?_
              refine vs_callVP (st := []) (c_resultBack K1 K2) lk_X10_203 lm_X10_resultBack rfl rfl rfl rfl (Nat.le_of_ble_eq_true rfl) rfl ⟨rfl, rfl⟩ dX10_join_313 rfl (fun rr S1 hh => ?_)
              obtain ⟨rfl, F8, R1, R2⟩ := hh
              show vs_V _ _ _ _ _ [] _
              refine vs_iload_n 3 dX10_join_316 rfl rfl 0 rfl ?_
              refine vs_if_eq 324 dX10_join_317 rfl rfl (fun c_317 => ?_) (fun c_317 => ?_)
              · have q_317 : ((0 : Nat) : Int) = ((0 : Nat) : Int) := (qi_eq (by first | exact nI_Z _ | (simp only [fa_lit, nI_add, pk_mul, nI_1]; exact nI_Z _)) (by first | exact nI_Z _ | (simp only [fa_lit, nI_add, pk_mul, nI_1]; exact nI_Z _)) (by omega) (by omega) (by omega) (by omega)).mp c_317
                refine vs_iconst (v := 0) dX10_join_324 rfl rfl ?_
                exact vs_iretP dX10_join_325 (by have F9 := vs_fx.tr F7 F8 (by simp) (by simp) (by simp); exact mpost (v := 0) (a' := a) (by unfold sp_join; rw [if_neg (by omega), if_neg (by omega), show ((l : Nat) : Int).toNat = l by omega, if_neg hao]) rfl (MSt.re hM F9 R1 R2 (by simp [mcr]) (by simp) (by simp)) (F9.M (by simp) (by simp) (by simp)))
              · have q_317 : ¬ ((0 : Nat) : Int) = ((0 : Nat) : Int) := fun hh => c_317 ((qi_eq (by first | exact nI_Z _ | (simp only [fa_lit, nI_add, pk_mul, nI_1]; exact nI_Z _)) (by first | exact nI_Z _ | (simp only [fa_lit, nI_add, pk_mul, nI_1]; exact nI_Z _)) (by omega) (by omega) (by omega) (by omega)).mpr hh)
                omega
      · have q_24 : ¬ ((zcmp (l + m + 1) (aH a)) : Int) = ((0 : Nat) : Int) := fun hh => c_24 ((qi_eq rfl (by first | exact nI_Z _ | (simp only [fa_lit, nI_add, pk_mul, nI_1]; exact nI_Z _)) (by have := zcmp_b (l + m + 1) (aH a); omega) (by have := zcmp_b (l + m + 1) (aH a); omega) (by decide) (by decide)).mpr hh)
        have hlm : ¬ l + m + 1 = (aH a : Int) := fun e => q_24 (zcmp_0.mpr e)
        refine vs_bipush (v := -103) dX10_join_27 rfl rfl ?_
        exact vs_iretP dX10_join_29 (mpost (v := -103) (a' := a) (by unfold sp_join; (try simp only [Int.toNat_natCast]); repeat (first | rw [if_pos (by omega)] | rw [if_pos trivial] | rw [if_neg (by omega)])) rfl hM frM.rf)
    · have q_5 : ¬ (m : Int) ≥ ((0 : Nat) : Int) := fun hh => c_5 ((qi_ge rfl (by first | exact nI_Z _ | (simp only [fa_lit, nI_add, pk_mul, nI_1]; exact nI_Z _)) (by omega) (by omega) (by omega) (by omega)).mpr hh)
      refine vs_bipush (v := -102) dX10_join_8 rfl rfl ?_
      exact vs_iretP dX10_join_10 (mpost (v := -102) (a' := a) (by unfold sp_join; (try simp only [Int.toNat_natCast]); repeat (first | rw [if_pos (by omega)] | rw [if_pos trivial] | rw [if_neg (by omega)])) rfl hM frM.rf)

