theorem c_isLane {G : vv_G} {S : vs_S} {z : Int} (hz1 : -2147483648 ≤ z) (hz2 : z < 2147483648) : vs_C G yX9_isLane cX9_isLane 1 (some .boolean) { frames := 0, locals := 0 } [.int (nZ z)] S (some (.int (if 0 ≤ z ∧ z < 4 then 1 else 0))) S := by
  refine vs_of [(0, .int (nZ z))] (by decide) rfl rfl ?_
  refine vs_iload_n 0 dX9_isLane_0 rfl rfl 0 rfl ?_
  refine vs_if_lt 13 dX9_isLane_1 rfl rfl (fun c_1 => ?_) (fun c_1 => ?_)
  · have q_1 : (z : Int) < ((0 : Nat) : Int) := (qi_lt rfl (by first | exact nI_Z _ | (simp only [fa_lit, nI_add, pk_mul, nI_1]; exact nI_Z _)) (by omega) (by omega) (by omega) (by omega)).mp c_1
    refine vs_iconst (v := 0) dX9_isLane_13 rfl rfl ?_
    exact vs_zret dX9_isLane_14 (by first | exact Or.inl rfl | exact Or.inr rfl) (by first | rw [if_pos (by omega)] | rw [if_neg (by omega)]) rfl
  · have q_1 : ¬ (z : Int) < ((0 : Nat) : Int) := fun hh => c_1 ((qi_lt rfl (by first | exact nI_Z _ | (simp only [fa_lit, nI_add, pk_mul, nI_1]; exact nI_Z _)) (by omega) (by omega) (by omega) (by omega)).mpr hh)
    refine vs_iload_n 0 dX9_isLane_4 rfl rfl 0 rfl ?_
    refine vs_iconst (v := 4) dX9_isLane_5 rfl rfl ?_
    refine vs_icmp_ge 13 dX9_isLane_6 rfl rfl (fun c_6 => ?_) (fun c_6 => ?_)
    · have q_6 : (z : Int) ≥ ((4 : Nat) : Int) := (qi_ge rfl (by first | exact nI_Z _ | (simp only [fa_lit, nI_add, pk_mul, nI_1]; exact nI_Z _)) (by omega) (by omega) (by omega) (by omega)).mp c_6
      refine vs_iconst (v := 0) dX9_isLane_13 rfl rfl ?_
      exact vs_zret dX9_isLane_14 (by first | exact Or.inl rfl | exact Or.inr rfl) (by first | rw [if_pos (by omega)] | rw [if_neg (by omega)]) rfl
    · have q_6 : ¬ (z : Int) ≥ ((4 : Nat) : Int) := fun hh => c_6 ((qi_ge rfl (by first | exact nI_Z _ | (simp only [fa_lit, nI_add, pk_mul, nI_1]; exact nI_Z _)) (by omega) (by omega) (by omega) (by omega)).mpr hh)
      refine vs_iconst (v := 1) dX9_isLane_9 rfl rfl ?_
      refine vs_goto 14 dX9_isLane_10 rfl ?_
      exact vs_zret dX9_isLane_14 (by first | exact Or.inl rfl | exact Or.inr rfl) (by first | rw [if_pos (by omega)] | rw [if_neg (by omega)]) rfl

theorem c_isLength {G : vv_G} {S : vs_S} {z : Int} (hz1 : -2147483648 ≤ z) (hz2 : z < 2147483648) : vs_C G yX9_isLength cX9_isLength 1 (some .boolean) { frames := 0, locals := 0 } [.int (nZ z)] S (some (.int (if 0 ≤ z ∧ z ≤ 40 then 1 else 0))) S := by
  refine vs_of [(0, .int (nZ z))] (by decide) rfl rfl ?_
  refine vs_iload_n 0 dX9_isLength_0 rfl rfl 0 rfl ?_
  refine vs_if_lt 14 dX9_isLength_1 rfl rfl (fun c_1 => ?_) (fun c_1 => ?_)
  · have q_1 : (z : Int) < ((0 : Nat) : Int) := (qi_lt rfl (by first | exact nI_Z _ | (simp only [fa_lit, nI_add, pk_mul, nI_1]; exact nI_Z _)) (by omega) (by omega) (by omega) (by omega)).mp c_1
    refine vs_iconst (v := 0) dX9_isLength_14 rfl rfl ?_
    exact vs_zret dX9_isLength_15 (by first | exact Or.inl rfl | exact Or.inr rfl) (by first | rw [if_pos (by omega)] | rw [if_neg (by omega)]) rfl
  · have q_1 : ¬ (z : Int) < ((0 : Nat) : Int) := fun hh => c_1 ((qi_lt rfl (by first | exact nI_Z _ | (simp only [fa_lit, nI_add, pk_mul, nI_1]; exact nI_Z _)) (by omega) (by omega) (by omega) (by omega)).mpr hh)
    refine vs_iload_n 0 dX9_isLength_4 rfl rfl 0 rfl ?_
    refine vs_bipush (v := 40) dX9_isLength_5 rfl rfl ?_
    refine vs_icmp_gt 14 dX9_isLength_7 rfl rfl (fun c_7 => ?_) (fun c_7 => ?_)
    · have q_7 : (z : Int) > ((40 : Nat) : Int) := (qi_gt rfl (by first | exact nI_Z _ | (simp only [fa_lit, nI_add, pk_mul, nI_1]; exact nI_Z _)) (by omega) (by omega) (by omega) (by omega)).mp c_7
      refine vs_iconst (v := 0) dX9_isLength_14 rfl rfl ?_
      exact vs_zret dX9_isLength_15 (by first | exact Or.inl rfl | exact Or.inr rfl) (by first | rw [if_pos (by omega)] | rw [if_neg (by omega)]) rfl
    · have q_7 : ¬ (z : Int) > ((40 : Nat) : Int) := fun hh => c_7 ((qi_gt rfl (by first | exact nI_Z _ | (simp only [fa_lit, nI_add, pk_mul, nI_1]; exact nI_Z _)) (by omega) (by omega) (by omega) (by omega)).mpr hh)
      refine vs_iconst (v := 1) dX9_isLength_10 rfl rfl ?_
      refine vs_goto 15 dX9_isLength_11 rfl ?_
      exact vs_zret dX9_isLength_15 (by first | exact Or.inl rfl | exact Or.inr rfl) (by first | rw [if_pos (by omega)] | rw [if_neg (by omega)]) rfl

theorem c_isPairOf {G : vv_G} {S : vs_S} {asked : Nat} (hse : vs_Se asked) {la : Nat} (hla : S.1 asked 1 = nI la) (hla2 : la ≤ 40) {l : Int} (hl1 : -2147483648 ≤ l) (hl2 : l < 2147483648) {m : Int} (hm1 : -2147483648 ≤ m) (hm2 : m < 2147483648) : vs_C G yX9_isPairOf cX9_isPairOf 3 (some .boolean) { frames := 0, locals := 0 } [.ref (G.2.2.2 + asked), .int (nZ l), .int (nZ m)] S (some (.int (if 0 ≤ l ∧ 0 ≤ m ∧ l + m ≤ la then 1 else 0))) S := by
  refine vs_of [(0, .ref (G.2.2.2 + asked)), (1, .int (nZ l)), (2, .int (nZ m))] (by decide) rfl rfl ?_
  refine vs_iload_n 1 dX9_isPairOf_0 rfl rfl 1 rfl ?_
  refine vs_if_lt 22 dX9_isPairOf_1 rfl rfl (fun c_1 => ?_) (fun c_1 => ?_)
  · have q_1 : (l : Int) < ((0 : Nat) : Int) := (qi_lt rfl (by first | exact nI_Z _ | (simp only [fa_lit, nI_add, pk_mul, nI_1]; exact nI_Z _)) (by omega) (by omega) (by omega) (by omega)).mp c_1
    refine vs_iconst (v := 0) dX9_isPairOf_22 rfl rfl ?_
    exact vs_zret dX9_isPairOf_23 (by first | exact Or.inl rfl | exact Or.inr rfl) (by first | rw [if_pos (by omega)] | rw [if_neg (by omega)]) rfl
  · have q_1 : ¬ (l : Int) < ((0 : Nat) : Int) := fun hh => c_1 ((qi_lt rfl (by first | exact nI_Z _ | (simp only [fa_lit, nI_add, pk_mul, nI_1]; exact nI_Z _)) (by omega) (by omega) (by omega) (by omega)).mpr hh)
    refine vs_iload_n 2 dX9_isPairOf_4 rfl rfl 2 rfl ?_
    refine vs_if_lt 22 dX9_isPairOf_5 rfl rfl (fun c_5 => ?_) (fun c_5 => ?_)
    · have q_5 : (m : Int) < ((0 : Nat) : Int) := (qi_lt rfl (by first | exact nI_Z _ | (simp only [fa_lit, nI_add, pk_mul, nI_1]; exact nI_Z _)) (by omega) (by omega) (by omega) (by omega)).mp c_5
      refine vs_iconst (v := 0) dX9_isPairOf_22 rfl rfl ?_
      exact vs_zret dX9_isPairOf_23 (by first | exact Or.inl rfl | exact Or.inr rfl) (by first | rw [if_pos (by omega)] | rw [if_neg (by omega)]) rfl
    · have q_5 : ¬ (m : Int) < ((0 : Nat) : Int) := fun hh => c_5 ((qi_lt rfl (by first | exact nI_Z _ | (simp only [fa_lit, nI_add, pk_mul, nI_1]; exact nI_Z _)) (by omega) (by omega) (by omega) (by omega)).mpr hh)
      refine vs_iload_n 1 dX9_isPairOf_8 rfl rfl 1 rfl ?_
      refine vs_aload_n 0 dX9_isPairOf_9 rfl rfl 0 rfl ?_
      refine vs_get (v := .int (nI la)) lf_X9_173 hse.1 (congrArg (fun z => some (Value.int z)) hla) dX9_isPairOf_10 rfl ?_
      refine vs_iload_n 2 dX9_isPairOf_13 rfl rfl 2 rfl ?_
      refine vs_isub dX9_isPairOf_14 rfl ?_
      refine vs_topi (fun z1 e_z1 => ?_)
      have f_z1 : z1 = nZ ((la : Int) - m) := (by rw [e_z1]; simp only [nI_Z, nZ_sub])
      subst f_z1
      clear e_z1
      refine vs_icmp_gt 22 dX9_isPairOf_15 rfl rfl (fun c_15 => ?_) (fun c_15 => ?_)
      · have q_15 : (l : Int) > (((la : Int) - m) : Int) := (qi_gt rfl rfl (by omega) (by omega) (by omega) (by omega)).mp c_15
        refine vs_iconst (v := 0) dX9_isPairOf_22 rfl rfl ?_
        exact vs_zret dX9_isPairOf_23 (by first | exact Or.inl rfl | exact Or.inr rfl) (by first | rw [if_pos (by omega)] | rw [if_neg (by omega)]) rfl
      · have q_15 : ¬ (l : Int) > (((la : Int) - m) : Int) := fun hh => c_15 ((qi_gt rfl rfl (by omega) (by omega) (by omega) (by omega)).mpr hh)
        refine vs_iconst (v := 1) dX9_isPairOf_18 rfl rfl ?_
        refine vs_goto 23 dX9_isPairOf_19 rfl ?_
        exact vs_zret dX9_isPairOf_23 (by first | exact Or.inl rfl | exact Or.inr rfl) (by first | rw [if_pos (by omega)] | rw [if_neg (by omega)]) rfl

/-- no d from here on divides p, as far as its square is no more than p -/
def prk (p : Nat) : Nat → Nat → Bool
  | 0, _ => true
  | n + 1, d => if p < d * d then true else if p % d = 0 then false else prk p n (d + 1)
theorem prk_pr {p : Nat} : ∀ n d, p < (d + n) * (d + n) → prk p n d = true → ∀ e, d ≤ e → e * e ≤ p → p % e ≠ 0
  | 0, d, h, _, e, h1, h2 => by
    have := Nat.mul_le_mul h1 h1
    simp only [Nat.add_zero] at h
    omega
  | n + 1, d, h, hp, e, h1, h2 => by
    unfold prk at hp
    by_cases h3 : p < d * d
    · have := Nat.mul_le_mul h1 h1
      omega
    · rw [if_neg h3] at hp
      by_cases h4 : p % d = 0
      · rw [if_pos h4] at hp; cases hp
      · rw [if_neg h4] at hp
        by_cases h5 : e = d
        · rw [h5]; exact h4
        · exact prk_pr n (d + 1) (by rw [show d + 1 + n = d + (n + 1) by omega]; exact h) hp e (by omega) h2
theorem prk_q {p : Nat} (h : 2 ≤ p) (h2 : p ≤ 30011) (hp : prk p 200 2 = true) : q_pr p := ⟨h, fun d h3 h4 => prk_pr 200 2 (by omega) hp d h3 h4⟩
theorem l_allowed {G : vv_G} {S : vs_S} {p : Nat} (hp2 : p ≤ 30011) {r : Option Value} {Sf : vs_S} (hS : S = Sf) : ∀ n d : Nat, d + n = 202 → 2 ≤ d → r = some (.int (if prk p n d = true then 1 else 0)) → vs_V G cX9_isAllowedPrime (vs_M yX9_isAllowedPrime 2 (some .boolean) { frames := 0, locals := 0 } G r Sf) 16 [(1, .int (nI d)), (0, .int (nI p))] [] S := by
  intro n
  induction n with
  | zero =>
    intro d hd hd2 hr
    obtain rfl : d = 202 := by omega
    refine vs_iload_n 1 dX9_isAllowedPrime_16 rfl rfl 0 rfl ?_
    refine vs_iload_n 1 dX9_isAllowedPrime_17 rfl rfl 0 rfl ?_
    refine vs_imul dX9_isAllowedPrime_18 rfl ?_
    refine vs_topi (fun z1 e_z1 => ?_)
    have f_z1 : z1 = nI 40804 := e_z1
    subst f_z1
    clear e_z1
    refine vs_iload_n 0 dX9_isAllowedPrime_19 rfl rfl 1 rfl ?_
    refine vs_icmp_gt 37 dX9_isAllowedPrime_20 rfl rfl (fun c_20 => ?_) (fun c_20 => ?_)
    · have q_20 : ((40804 : Nat) : Int) > ((p : Nat) : Int) := (qi_gt (nI_Z _) (nI_Z _) (by omega) (by omega) (by omega) (by omega)).mp c_20
      refine vs_iconst (v := 1) dX9_isAllowedPrime_37 rfl rfl ?_
      exact vs_zret dX9_isAllowedPrime_38 (by first | exact Or.inl rfl | exact Or.inr rfl) hr hS
    · have q_20 : ¬ ((40804 : Nat) : Int) > ((p : Nat) : Int) := fun hh => c_20 ((qi_gt (nI_Z _) (nI_Z _) (by omega) (by omega) (by omega) (by omega)).mpr hh)
      omega
  | succ n ih =>
    intro d hd hd2 hr
    obtain ⟨e, he⟩ : ∃ e, e = d * d := ⟨_, rfl⟩
    have hed : e ≤ 202 * 202 := by rw [he]; exact Nat.mul_le_mul (by omega) (by omega)
    refine vs_iload_n 1 dX9_isAllowedPrime_16 rfl rfl 0 rfl ?_
    refine vs_iload_n 1 dX9_isAllowedPrime_17 rfl rfl 0 rfl ?_
    refine vs_imul dX9_isAllowedPrime_18 rfl ?_
    refine vs_topi (fun z1 e_z1 => ?_)
    have f_z1 : z1 = nI e := (by rw [e_z1, he]; exact pk_mul _ _)
    subst f_z1
    clear e_z1
    refine vs_iload_n 0 dX9_isAllowedPrime_19 rfl rfl 1 rfl ?_
    refine vs_icmp_gt 37 dX9_isAllowedPrime_20 rfl rfl (fun c_20 => ?_) (fun c_20 => ?_)
    · have q_20 : ((e : Nat) : Int) > ((p : Nat) : Int) := (qi_gt (nI_Z _) (nI_Z _) (by omega) (by omega) (by omega) (by omega)).mp c_20
      rw [show prk p (n + 1) d = true from if_pos (by omega)] at hr
      refine vs_iconst (v := 1) dX9_isAllowedPrime_37 rfl rfl ?_
      exact vs_zret dX9_isAllowedPrime_38 (by first | exact Or.inl rfl | exact Or.inr rfl) hr hS
    · have q_20 : ¬ ((e : Nat) : Int) > ((p : Nat) : Int) := fun hh => c_20 ((qi_gt (nI_Z _) (nI_Z _) (by omega) (by omega) (by omega) (by omega)).mpr hh)
      rw [show prk p (n + 1) d = (if p % d = 0 then false else prk p n (d + 1)) from if_neg (by omega)] at hr
      refine vs_iload_n 0 dX9_isAllowedPrime_23 rfl rfl 1 rfl ?_
      refine vs_iload_n 1 dX9_isAllowedPrime_24 rfl rfl 0 rfl ?_
      refine vs_irem dX9_isAllowedPrime_25 rfl (fun z => by have := (nI_n0 (show d < 2147483648 by omega)).mp z; omega) ?_
      refine vs_topi (fun z2 e_z2 => ?_)
      have f_z2 : z2 = nI (p % d) := (by rw [e_z2]; exact pk_rem (by omega) (by omega) (by omega))
      subst f_z2
      clear e_z2
      refine vs_if_ne 31 dX9_isAllowedPrime_26 rfl rfl (fun c_26 => ?_) (fun c_26 => ?_)
      · have q_26 : ¬ (((p % d) : Nat) : Int) = ((0 : Nat) : Int) := fun hh => c_26 ((qi_eq (nI_Z _) (by first | exact nI_Z _ | (simp only [fa_lit, nI_add, pk_mul, nI_1]; exact nI_Z _)) (by omega) (by have := Nat.mod_lt p (show d > 0 by omega); omega) (by omega) (by omega)).mpr hh)
        rw [if_neg (show ¬ p % d = 0 by omega)] at hr
        refine vs_iinc (v := nI (d + 1)) [(1, .int (nI (d + 1))), (0, .int (nI p))] dX9_isAllowedPrime_31 rfl 0 rfl (by first | exact nI_1 _ | (simp only [fa_lit, nI_add, pk_mul, nI_1]; rfl)) rfl rfl ?_
        refine vs_goto 16 dX9_isAllowedPrime_34 rfl ?_
        refine vs_pick [0, 1] rfl ?_
        exact ih (d + 1) (by omega) (by omega) hr
      · have q_26 : (((p % d) : Nat) : Int) = ((0 : Nat) : Int) := (qi_eq (nI_Z _) (by first | exact nI_Z _ | (simp only [fa_lit, nI_add, pk_mul, nI_1]; exact nI_Z _)) (by omega) (by have := Nat.mod_lt p (show d > 0 by omega); omega) (by omega) (by omega)).mp c_26
        rw [if_pos (show p % d = 0 by omega)] at hr
        refine vs_iconst (v := 0) dX9_isAllowedPrime_29 rfl rfl ?_
        exact vs_zret dX9_isAllowedPrime_30 (by first | exact Or.inl rfl | exact Or.inr rfl) hr hS

theorem c_allowed {G : vv_G} {S : vs_S} {z : Int} (hz1 : -2147483648 ≤ z) (hz2 : z < 2147483648) : vs_C G yX9_isAllowedPrime cX9_isAllowedPrime 2 (some .boolean) { frames := 0, locals := 0 } [.int (nZ z)] S (some (.int (if 2 ≤ z ∧ z ≤ 30011 ∧ prk z.toNat 200 2 = true then 1 else 0))) S := by
  refine vs_of [(0, .int (nZ z))] (by decide) rfl rfl ?_
  refine vs_iload_n 0 dX9_isAllowedPrime_0 rfl rfl 0 rfl ?_
  refine vs_iconst (v := 2) dX9_isAllowedPrime_1 rfl rfl ?_
  refine vs_icmp_lt 12 dX9_isAllowedPrime_2 rfl rfl (fun c_2 => ?_) (fun c_2 => ?_)
  · have q_2 : (z : Int) < ((2 : Nat) : Int) := (qi_lt rfl (by first | exact nI_Z _ | (simp only [fa_lit, nI_add, pk_mul, nI_1]; exact nI_Z _)) (by omega) (by omega) (by omega) (by omega)).mp c_2
    refine vs_iconst (v := 0) dX9_isAllowedPrime_12 rfl rfl ?_
    exact vs_zret dX9_isAllowedPrime_13 (by first | exact Or.inl rfl | exact Or.inr rfl) (by rw [if_neg (by omega)]) rfl
  · have q_2 : ¬ (z : Int) < ((2 : Nat) : Int) := fun hh => c_2 ((qi_lt rfl (by first | exact nI_Z _ | (simp only [fa_lit, nI_add, pk_mul, nI_1]; exact nI_Z _)) (by omega) (by omega) (by omega) (by omega)).mpr hh)
    refine vs_iload_n 0 dX9_isAllowedPrime_5 rfl rfl 0 rfl ?_
    refine vs_sipush (v := 30011) dX9_isAllowedPrime_6 rfl rfl ?_
    refine vs_icmp_le 14 dX9_isAllowedPrime_9 rfl rfl (fun c_9 => ?_) (fun c_9 => ?_)
    · have q_9 : (z : Int) ≤ ((30011 : Nat) : Int) := (qi_le rfl (by first | exact nI_Z _ | (simp only [fa_lit, nI_add, pk_mul, nI_1]; exact nI_Z _)) (by omega) (by omega) (by omega) (by omega)).mp c_9
      obtain ⟨p, rfl⟩ : ∃ p : Nat, z = p := ⟨z.toNat, by omega⟩
      rw [nZ_n]
      refine vs_iconst (v := 2) dX9_isAllowedPrime_14 rfl rfl ?_
      refine vs_istore_n 1 [(1, .int (2)), (0, .int (nI p))] dX9_isAllowedPrime_15 rfl rfl rfl rfl ?_
      refine vs_pick (L2 := [(1, .int (nI 2)), (0, .int (nI p))]) [0, 1] rfl ?_
      exact l_allowed (by omega) rfl 200 2 rfl (by omega) (by have e : (2 ≤ (p : Int) ∧ (p : Int) ≤ 30011 ∧ prk (p : Int).toNat 200 2 = true) ↔ prk p 200 2 = true := ⟨fun h => h.2.2, fun h => ⟨by omega, by omega, h⟩⟩; simp only [e])
    · have q_9 : ¬ (z : Int) ≤ ((30011 : Nat) : Int) := fun hh => c_9 ((qi_le rfl (by first | exact nI_Z _ | (simp only [fa_lit, nI_add, pk_mul, nI_1]; exact nI_Z _)) (by omega) (by omega) (by omega) (by omega)).mpr hh)
      refine vs_iconst (v := 0) dX9_isAllowedPrime_12 rfl rfl ?_
      exact vs_zret dX9_isAllowedPrime_13 (by first | exact Or.inl rfl | exact Or.inr rfl) (by rw [if_neg (by omega)]) rfl

theorem c_caused {G : vv_G} {S : vs_S} {c : Nat} (h1 : 1 ≤ c) (h5 : c ≤ 5) : vs_C G yX9_caused cX9_caused 2 (some .int) { frames := 0, locals := 0 } [.ref (G.2.2.2 + 0), .int (nI c)] S (some (.int (nZ (-10 - (c : Int))))) (vs_ia (vs_sc S 0 12 (nI c)) 79 (upd (S.2.1 79) c (S.2.1 79 c + 1))) := by
  refine vs_of [(0, .ref (G.2.2.2 + 0)), (1, .int (nI c))] (by decide) rfl rfl ?_
  refine vs_iload_n 1 dX9_caused_0 rfl rfl 1 rfl ?_
  refine vs_iconst (v := 1) dX9_caused_1 rfl rfl ?_
  refine vs_icmp_lt 25 dX9_caused_2 rfl rfl (fun c_2 => ?_) (fun c_2 => ?_)
  · have q_2 : ((c : Nat) : Int) < ((1 : Nat) : Int) := (qi_lt (nI_Z _) (by first | exact nI_Z _ | (simp only [fa_lit, nI_add, pk_mul, nI_1]; exact nI_Z _)) (by omega) (by omega) (by omega) (by omega)).mp c_2
    omega
  · have q_2 : ¬ ((c : Nat) : Int) < ((1 : Nat) : Int) := fun hh => c_2 ((qi_lt (nI_Z _) (by first | exact nI_Z _ | (simp only [fa_lit, nI_add, pk_mul, nI_1]; exact nI_Z _)) (by omega) (by omega) (by omega) (by omega)).mpr hh)
    refine vs_iload_n 1 dX9_caused_5 rfl rfl 1 rfl ?_
    refine vs_iconst (v := 5) dX9_caused_6 rfl rfl ?_
    refine vs_icmp_gt 25 dX9_caused_7 rfl rfl (fun c_7 => ?_) (fun c_7 => ?_)
    · have q_7 : ((c : Nat) : Int) > ((5 : Nat) : Int) := (qi_gt (nI_Z _) (by first | exact nI_Z _ | (simp only [fa_lit, nI_add, pk_mul, nI_1]; exact nI_Z _)) (by omega) (by omega) (by omega) (by omega)).mp c_7
      omega
    · have q_7 : ¬ ((c : Nat) : Int) > ((5 : Nat) : Int) := fun hh => c_7 ((qi_gt (nI_Z _) (by first | exact nI_Z _ | (simp only [fa_lit, nI_add, pk_mul, nI_1]; exact nI_Z _)) (by omega) (by omega) (by omega) (by omega)).mpr hh)
      refine vs_aload_n 0 dX9_caused_10 rfl rfl 0 rfl ?_
      refine vs_iload_n 1 dX9_caused_11 rfl rfl 1 rfl ?_
      refine vs_put lf_X9_81 rfl rfl rfl rfl dX9_caused_12 rfl ?_
      refine vs_aload_n 0 dX9_caused_15 rfl rfl 0 rfl ?_
      refine vs_get (v := .ref (G.2.2.2 + 79)) lf_X9_77 rfl rfl dX9_caused_16 rfl ?_
      refine vs_iload_n 1 dX9_caused_19 rfl rfl 1 rfl ?_
      refine vs_dup2 dX9_caused_20 rfl rfl rfl ?_
      refine vs_iald (k := c) rfl rfl (by omega) rfl dX9_caused_21 rfl ?_
      refine vs_iconst (v := 1) dX9_caused_22 rfl rfl ?_
      refine vs_iadd dX9_caused_23 rfl ?_
      refine vs_iast (k := c) rfl rfl (by omega) rfl dX9_caused_24 rfl ?_
      refine vs_bipush (v := -10) dX9_caused_25 rfl rfl ?_
      refine vs_iload_n 1 dX9_caused_27 rfl rfl 1 rfl ?_
      refine vs_isub dX9_caused_28 rfl ?_
      refine vs_topi (fun z1 e_z1 => ?_)
      have f_z1 : z1 = nZ (-10 - (c : Int)) := (by rw [e_z1, nI_Z, show (-10 : Int32) = nZ (-10) from rfl, nZ_sub])
      subst f_z1
      clear e_z1
      exact vs_iret dX9_caused_29 rfl rfl

theorem c_sheetNo {G : vv_G} {S : vs_S} {k : Nat} (hk : k < 4) (hr : S.2.2.2 2 k = some (80 + 2 * k)) : vs_C G yX9_sheetNumbered cX9_sheetNumbered 2 (some (.object "SharesOfSeries$Sheet")) { frames := 0, locals := 0 } [.ref (G.2.2.2 + 0), .int (nI k)] S (some (.ref (G.2.2.2 + (80 + 2 * k)))) S := by
  refine vs_of [(0, .ref (G.2.2.2 + 0)), (1, .int (nI k))] (by decide) rfl rfl ?_
  refine vs_iload_n 1 dX9_sheetNumbered_0 rfl rfl 1 rfl ?_
  refine vs_if_lt 18 dX9_sheetNumbered_1 rfl rfl (fun c_1 => ?_) (fun c_1 => ?_)
  · have q_1 : ((k : Nat) : Int) < ((0 : Nat) : Int) := (qi_lt (nI_Z _) (by first | exact nI_Z _ | (simp only [fa_lit, nI_add, pk_mul, nI_1]; exact nI_Z _)) (by omega) (by omega) (by omega) (by omega)).mp c_1
    omega
  · have q_1 : ¬ ((k : Nat) : Int) < ((0 : Nat) : Int) := fun hh => c_1 ((qi_lt (nI_Z _) (by first | exact nI_Z _ | (simp only [fa_lit, nI_add, pk_mul, nI_1]; exact nI_Z _)) (by omega) (by omega) (by omega) (by omega)).mpr hh)
    refine vs_iload_n 1 dX9_sheetNumbered_4 rfl rfl 1 rfl ?_
    refine vs_iconst (v := 4) dX9_sheetNumbered_5 rfl rfl ?_
    refine vs_icmp_ge 18 dX9_sheetNumbered_6 rfl rfl (fun c_6 => ?_) (fun c_6 => ?_)
    · have q_6 : ((k : Nat) : Int) ≥ ((4 : Nat) : Int) := (qi_ge (nI_Z _) (by first | exact nI_Z _ | (simp only [fa_lit, nI_add, pk_mul, nI_1]; exact nI_Z _)) (by omega) (by omega) (by omega) (by omega)).mp c_6
      omega
    · have q_6 : ¬ ((k : Nat) : Int) ≥ ((4 : Nat) : Int) := fun hh => c_6 ((qi_ge (nI_Z _) (by first | exact nI_Z _ | (simp only [fa_lit, nI_add, pk_mul, nI_1]; exact nI_Z _)) (by omega) (by omega) (by omega) (by omega)).mpr hh)
      refine vs_aload_n 0 dX9_sheetNumbered_9 rfl rfl 0 rfl ?_
      refine vs_get (v := .ref (G.2.2.2 + 2)) lf_X9_18 rfl rfl dX9_sheetNumbered_10 rfl ?_
      refine vs_iload_n 1 dX9_sheetNumbered_13 rfl rfl 1 rfl ?_
      refine vs_aald (t := 0) (k := k) (a := 80 + 2 * k) rfl rfl rfl (by first | rfl | (simp only [fa_lit, nI_add, pk_mul, nI_1]; done) | omega) (by omega) rfl hr dX9_sheetNumbered_14 rfl ?_
      refine vs_goto 19 dX9_sheetNumbered_15 rfl ?_
      exact vs_aret dX9_sheetNumbered_19 (Or.inr ⟨_, rfl⟩) rfl rfl

theorem c_sheetNull {G : vv_G} {S : vs_S} {z : Int} (hz1 : -2147483648 ≤ z) (hz2 : z < 2147483648) (hz : ¬ (0 ≤ z ∧ z < 4)) : vs_C G yX9_sheetNumbered cX9_sheetNumbered 2 (some (.object "SharesOfSeries$Sheet")) { frames := 0, locals := 0 } [.ref (G.2.2.2 + 0), .int (nZ z)] S (some .null) S := by
  refine vs_of [(0, .ref (G.2.2.2 + 0)), (1, .int (nZ z))] (by decide) rfl rfl ?_
  refine vs_iload_n 1 dX9_sheetNumbered_0 rfl rfl 1 rfl ?_
  refine vs_if_lt 18 dX9_sheetNumbered_1 rfl rfl (fun c_1 => ?_) (fun c_1 => ?_)
  · have q_1 : (z : Int) < ((0 : Nat) : Int) := (qi_lt rfl (by first | exact nI_Z _ | (simp only [fa_lit, nI_add, pk_mul, nI_1]; exact nI_Z _)) (by omega) (by omega) (by omega) (by omega)).mp c_1
    refine vs_null dX9_sheetNumbered_18 rfl ?_
    exact vs_aret dX9_sheetNumbered_19 (Or.inl rfl) rfl rfl
  · have q_1 : ¬ (z : Int) < ((0 : Nat) : Int) := fun hh => c_1 ((qi_lt rfl (by first | exact nI_Z _ | (simp only [fa_lit, nI_add, pk_mul, nI_1]; exact nI_Z _)) (by omega) (by omega) (by omega) (by omega)).mpr hh)
    refine vs_iload_n 1 dX9_sheetNumbered_4 rfl rfl 1 rfl ?_
    refine vs_iconst (v := 4) dX9_sheetNumbered_5 rfl rfl ?_
    refine vs_icmp_ge 18 dX9_sheetNumbered_6 rfl rfl (fun c_6 => ?_) (fun c_6 => ?_)
    · have q_6 : (z : Int) ≥ ((4 : Nat) : Int) := (qi_ge rfl (by first | exact nI_Z _ | (simp only [fa_lit, nI_add, pk_mul, nI_1]; exact nI_Z _)) (by omega) (by omega) (by omega) (by omega)).mp c_6
      refine vs_null dX9_sheetNumbered_18 rfl ?_
      exact vs_aret dX9_sheetNumbered_19 (Or.inl rfl) rfl rfl
    · have q_6 : ¬ (z : Int) ≥ ((4 : Nat) : Int) := fun hh => c_6 ((qi_ge rfl (by first | exact nI_Z _ | (simp only [fa_lit, nI_add, pk_mul, nI_1]; exact nI_Z _)) (by omega) (by omega) (by omega) (by omega)).mpr hh)
      omega

theorem c_seriesNo {G : vv_G} {S : vs_S} {N : Nat} (hN : S.1 0 3 = nI N) (hN2 : N ≤ 10) {f : Nat} (hf : f < N) (hr : S.2.2.2 3 f = some (88 + 3 * f)) : vs_C G yX9_seriesNumbered cX9_seriesNumbered 2 (some (.object "SharesOfSeries$Series")) { frames := 0, locals := 0 } [.ref (G.2.2.2 + 0), .int (nI f)] S (some (.ref (G.2.2.2 + (88 + 3 * f)))) S := by
  refine vs_of [(0, .ref (G.2.2.2 + 0)), (1, .int (nI f))] (by decide) rfl rfl ?_
  refine vs_iload_n 1 dX9_seriesNumbered_0 rfl rfl 1 rfl ?_
  refine vs_if_lt 27 dX9_seriesNumbered_1 rfl rfl (fun c_1 => ?_) (fun c_1 => ?_)
  · have q_1 : ((f : Nat) : Int) < ((0 : Nat) : Int) := (qi_lt (nI_Z _) (by first | exact nI_Z _ | (simp only [fa_lit, nI_add, pk_mul, nI_1]; exact nI_Z _)) (by omega) (by omega) (by omega) (by omega)).mp c_1
    omega
  · have q_1 : ¬ ((f : Nat) : Int) < ((0 : Nat) : Int) := fun hh => c_1 ((qi_lt (nI_Z _) (by first | exact nI_Z _ | (simp only [fa_lit, nI_add, pk_mul, nI_1]; exact nI_Z _)) (by omega) (by omega) (by omega) (by omega)).mpr hh)
    refine vs_iload_n 1 dX9_seriesNumbered_4 rfl rfl 1 rfl ?_
    refine vs_aload_n 0 dX9_seriesNumbered_5 rfl rfl 0 rfl ?_
    refine vs_get (v := .int (nI N)) lf_X9_28 rfl (congrArg (fun z => some (Value.int z)) hN) dX9_seriesNumbered_6 rfl ?_
    refine vs_icmp_ge 27 dX9_seriesNumbered_9 rfl rfl (fun c_9 => ?_) (fun c_9 => ?_)
    · have q_9 : ((f : Nat) : Int) ≥ ((N : Nat) : Int) := (qi_ge (nI_Z _) (nI_Z _) (by omega) (by omega) (by omega) (by omega)).mp c_9
      omega
    · have q_9 : ¬ ((f : Nat) : Int) ≥ ((N : Nat) : Int) := fun hh => c_9 ((qi_ge (nI_Z _) (nI_Z _) (by omega) (by omega) (by omega) (by omega)).mpr hh)
      refine vs_iload_n 1 dX9_seriesNumbered_12 rfl rfl 1 rfl ?_
      refine vs_bipush (v := 10) dX9_seriesNumbered_13 rfl rfl ?_
      refine vs_icmp_ge 27 dX9_seriesNumbered_15 rfl rfl (fun c_15 => ?_) (fun c_15 => ?_)
      · have q_15 : ((f : Nat) : Int) ≥ ((10 : Nat) : Int) := (qi_ge (nI_Z _) (by first | exact nI_Z _ | (simp only [fa_lit, nI_add, pk_mul, nI_1]; exact nI_Z _)) (by omega) (by omega) (by omega) (by omega)).mp c_15
        omega
      · have q_15 : ¬ ((f : Nat) : Int) ≥ ((10 : Nat) : Int) := fun hh => c_15 ((qi_ge (nI_Z _) (by first | exact nI_Z _ | (simp only [fa_lit, nI_add, pk_mul, nI_1]; exact nI_Z _)) (by omega) (by omega) (by omega) (by omega)).mpr hh)
        refine vs_aload_n 0 dX9_seriesNumbered_18 rfl rfl 0 rfl ?_
        refine vs_get (v := .ref (G.2.2.2 + 3)) lf_X9_24 rfl rfl dX9_seriesNumbered_19 rfl ?_
        refine vs_iload_n 1 dX9_seriesNumbered_22 rfl rfl 1 rfl ?_
        refine vs_aald (t := 1) (k := f) (a := 88 + 3 * f) rfl rfl rfl (by first | rfl | (simp only [fa_lit, nI_add, pk_mul, nI_1]; done) | omega) (by omega) rfl hr dX9_seriesNumbered_23 rfl ?_
        refine vs_goto 28 dX9_seriesNumbered_24 rfl ?_
        exact vs_aret dX9_seriesNumbered_28 (Or.inr ⟨_, rfl⟩) rfl rfl

theorem c_seriesNull {G : vv_G} {S : vs_S} {N : Nat} (hN : S.1 0 3 = nI N) (hN2 : N ≤ 10) {z : Int} (hz1 : -2147483648 ≤ z) (hz2 : z < 2147483648) (hz : ¬ (0 ≤ z ∧ z < N)) : vs_C G yX9_seriesNumbered cX9_seriesNumbered 2 (some (.object "SharesOfSeries$Series")) { frames := 0, locals := 0 } [.ref (G.2.2.2 + 0), .int (nZ z)] S (some .null) S := by
  refine vs_of [(0, .ref (G.2.2.2 + 0)), (1, .int (nZ z))] (by decide) rfl rfl ?_
  refine vs_iload_n 1 dX9_seriesNumbered_0 rfl rfl 1 rfl ?_
  refine vs_if_lt 27 dX9_seriesNumbered_1 rfl rfl (fun c_1 => ?_) (fun c_1 => ?_)
  · have q_1 : (z : Int) < ((0 : Nat) : Int) := (qi_lt rfl (by first | exact nI_Z _ | (simp only [fa_lit, nI_add, pk_mul, nI_1]; exact nI_Z _)) (by omega) (by omega) (by omega) (by omega)).mp c_1
    refine vs_null dX9_seriesNumbered_27 rfl ?_
    exact vs_aret dX9_seriesNumbered_28 (Or.inl rfl) rfl rfl
  · have q_1 : ¬ (z : Int) < ((0 : Nat) : Int) := fun hh => c_1 ((qi_lt rfl (by first | exact nI_Z _ | (simp only [fa_lit, nI_add, pk_mul, nI_1]; exact nI_Z _)) (by omega) (by omega) (by omega) (by omega)).mpr hh)
    refine vs_iload_n 1 dX9_seriesNumbered_4 rfl rfl 1 rfl ?_
    refine vs_aload_n 0 dX9_seriesNumbered_5 rfl rfl 0 rfl ?_
    refine vs_get (v := .int (nI N)) lf_X9_28 rfl (congrArg (fun z => some (Value.int z)) hN) dX9_seriesNumbered_6 rfl ?_
    refine vs_icmp_ge 27 dX9_seriesNumbered_9 rfl rfl (fun c_9 => ?_) (fun c_9 => ?_)
    · have q_9 : (z : Int) ≥ ((N : Nat) : Int) := (qi_ge rfl (nI_Z _) (by omega) (by omega) (by omega) (by omega)).mp c_9
      refine vs_null dX9_seriesNumbered_27 rfl ?_
      exact vs_aret dX9_seriesNumbered_28 (Or.inl rfl) rfl rfl
    · have q_9 : ¬ (z : Int) ≥ ((N : Nat) : Int) := fun hh => c_9 ((qi_ge rfl (nI_Z _) (by omega) (by omega) (by omega) (by omega)).mpr hh)
      omega

theorem c_freshNull {G : vv_G} {S : vs_S} (hN : S.1 0 3 = nI 10) {v : Int32} : vs_C G yX9_freshSeries cX9_freshSeries 3 (some (.object "SharesOfSeries$Series")) { frames := 0, locals := 0 } [.ref (G.2.2.2 + 0), .int (v)] S (some .null) S := by
  refine vs_of [(0, .ref (G.2.2.2 + 0)), (1, .int (v))] (by decide) rfl rfl ?_
  refine vs_aload_n 0 dX9_freshSeries_0 rfl rfl 0 rfl ?_
  refine vs_get (v := .int (nI 10)) lf_X9_28 rfl (congrArg (fun z => some (Value.int z)) hN) dX9_freshSeries_1 rfl ?_
  refine vs_bipush (v := 10) dX9_freshSeries_4 rfl rfl ?_
  refine vs_icmp_lt 11 dX9_freshSeries_6 rfl rfl (fun c_6 => ?_) (fun c_6 => ?_)
  · have q_6 : ((10 : Nat) : Int) < ((10 : Nat) : Int) := (qi_lt (nI_Z _) (by first | exact nI_Z _ | (simp only [fa_lit, nI_add, pk_mul, nI_1]; exact nI_Z _)) (by omega) (by omega) (by omega) (by omega)).mp c_6
    omega
  · have q_6 : ¬ ((10 : Nat) : Int) < ((10 : Nat) : Int) := fun hh => c_6 ((qi_lt (nI_Z _) (by first | exact nI_Z _ | (simp only [fa_lit, nI_add, pk_mul, nI_1]; exact nI_Z _)) (by omega) (by omega) (by omega) (by omega)).mpr hh)
    refine vs_null dX9_freshSeries_9 rfl ?_
    exact vs_aret dX9_freshSeries_10 (Or.inl rfl) rfl rfl

theorem vs_P77 : vs_P 77 := ⟨rfl, rfl⟩
theorem vs_St_k {s : Nat} (h : s < 4) : vs_St (80 + 2 * s) := by
  rcases (show s = 0 ∨ s = 1 ∨ s = 2 ∨ s = 3 by omega) with rfl | rfl | rfl | rfl <;> exact ⟨rfl, rfl⟩
theorem vs_sc_2 {S : vs_S} {o k : Nat} {v : Int32} : (vs_sc S o k v).2 = S.2 := rfl
theorem pR_sc {S : vs_S} {o p k : Nat} {v : Int32} {g : Nat → Nat} (h : pR S p g) : pR (vs_sc S o k v) p g := h
theorem c_fresh {G : vv_G} {S : vs_S} {N : Nat} (hN : S.1 0 3 = nI N) (hN2 : N < 10) (hr : S.2.2.2 3 N = some (88 + 3 * N)) {g : Nat → Nat} (hg : pR S (88 + 3 * N + 1) g) {v : Int32} : vs_C G yX9_freshSeries cX9_freshSeries 3 (some (.object "SharesOfSeries$Series")) { frames := 2, locals := 44 } [.ref (G.2.2.2 + 0), .int (v)] S (some (.ref (G.2.2.2 + (88 + 3 * N)))) (vs_ia (vs_sc S (88 + 3 * N) 1 v) (88 + 3 * N + 1 + 1) (nA (pcon 0))) := by
  refine vs_of [(0, .ref (G.2.2.2 + 0)), (1, .int (v))] (by decide) rfl rfl ?_
  refine vs_aload_n 0 dX9_freshSeries_0 rfl rfl 0 rfl ?_
  refine vs_get (v := .int (nI N)) lf_X9_28 rfl (congrArg (fun z => some (Value.int z)) hN) dX9_freshSeries_1 rfl ?_
  refine vs_bipush (v := 10) dX9_freshSeries_4 rfl rfl ?_
  refine vs_icmp_lt 11 dX9_freshSeries_6 rfl rfl (fun c_6 => ?_) (fun c_6 => ?_)
  · have q_6 : ((N : Nat) : Int) < ((10 : Nat) : Int) := (qi_lt (nI_Z _) (by first | exact nI_Z _ | (simp only [fa_lit, nI_add, pk_mul, nI_1]; exact nI_Z _)) (by omega) (by omega) (by omega) (by omega)).mp c_6
    refine vs_aload_n 0 dX9_freshSeries_11 rfl rfl 0 rfl ?_
    refine vs_get (v := .ref (G.2.2.2 + 3)) lf_X9_24 rfl rfl dX9_freshSeries_12 rfl ?_
    refine vs_aload_n 0 dX9_freshSeries_15 rfl rfl 0 rfl ?_
    refine vs_get (v := .int (nI N)) lf_X9_28 rfl (congrArg (fun z => some (Value.int z)) hN) dX9_freshSeries_16 rfl ?_
    refine vs_aald (t := 1) (k := N) (a := 88 + 3 * N) rfl rfl rfl (by first | rfl | (simp only [fa_lit, nI_add, pk_mul, nI_1]; done) | omega) (by omega) rfl hr dX9_freshSeries_19 rfl ?_
    refine vs_astore_n 2 [(2, .ref (G.2.2.2 + (88 + 3 * N))), (0, .ref (G.2.2.2 + 0)), (1, .int (v))] dX9_freshSeries_20 rfl rfl rfl rfl ?_
    refine vs_aload_n 2 dX9_freshSeries_21 rfl rfl 0 rfl ?_
    refine vs_iload_n 1 dX9_freshSeries_22 rfl rfl 2 rfl ?_
    refine vs_put lf_X9_173 (vs_Se_k hN2).1 rfl rfl rfl dX9_freshSeries_23 rfl ?_
    refine vs_aload_n 2 dX9_freshSeries_26 rfl rfl 0 rfl ?_
    refine vs_get (v := .ref (G.2.2.2 + (88 + 3 * N + 1))) lf_X9_149 (vs_Se_k hN2).1 rfl dX9_freshSeries_27 rfl ?_
    refine vs_iconst (v := 0) dX9_freshSeries_30 rfl rfl ?_
    refine vs_callV (st := []) (c_becomeNumber (vs_Se_k hN2).2 (pR_sc hg) (x := 0)) lk_X9_192 lm_X3_becomeNumber rfl (vs_Se_k hN2).2.1 rfl rfl (Nat.le_of_ble_eq_true rfl) rfl ⟨rfl, rfl⟩ dX9_freshSeries_31 rfl ?_
    refine vs_aload_n 2 dX9_freshSeries_34 rfl rfl 0 rfl ?_
    exact vs_aret dX9_freshSeries_35 (Or.inr ⟨_, rfl⟩) rfl rfl
  · have q_6 : ¬ ((N : Nat) : Int) < ((10 : Nat) : Int) := fun hh => c_6 ((qi_lt (nI_Z _) (by first | exact nI_Z _ | (simp only [fa_lit, nI_add, pk_mul, nI_1]; exact nI_Z _)) (by omega) (by omega) (by omega) (by omega)).mpr hh)
    omega

theorem c_keepFresh {G : vv_G} {S : vs_S} {N : Nat} (hN : S.1 0 3 = nI N) (hN2 : N ≤ 10) : vs_C G yX9_keepFresh cX9_keepFresh 1 (some .int) { frames := 0, locals := 0 } [.ref (G.2.2.2 + 0)] S (some (.int (nI N))) (vs_sc S 0 3 (nI (N + 1))) := by
  refine vs_of [(0, .ref (G.2.2.2 + 0))] (by decide) rfl rfl ?_
  refine vs_aload_n 0 dX9_keepFresh_0 rfl rfl 0 rfl ?_
  refine vs_dup dX9_keepFresh_1 rfl rfl ?_
  refine vs_get (v := .int (nI N)) lf_X9_28 rfl (congrArg (fun z => some (Value.int z)) hN) dX9_keepFresh_2 rfl ?_
  refine vs_iconst (v := 1) dX9_keepFresh_5 rfl rfl ?_
  refine vs_iadd dX9_keepFresh_6 rfl ?_
  refine vs_topi (fun z1 e_z1 => ?_)
  have f_z1 : z1 = nI (N + 1) := (by rw [e_z1]; exact nI_1 _)
  subst f_z1
  clear e_z1
  refine vs_put lf_X9_28 rfl rfl rfl rfl dX9_keepFresh_7 rfl ?_
  refine vs_aload_n 0 dX9_keepFresh_10 rfl rfl 0 rfl ?_
  refine vs_get (v := .int (nI (N + 1))) lf_X9_28 rfl (congrArg (fun z => some (Value.int z)) vs_sc_at) dX9_keepFresh_11 rfl ?_
  refine vs_iconst (v := 1) dX9_keepFresh_14 rfl rfl ?_
  refine vs_isub dX9_keepFresh_15 rfl ?_
  refine vs_topi (fun z2 e_z2 => ?_)
  have f_z2 : z2 = nI N := (by rw [e_z2]; exact nI_pred _)
  subst f_z2
  clear e_z2
  exact vs_iret dX9_keepFresh_16 rfl rfl

/-- how many of the first n are 0 -/
def prs (lo : Nat → Nat) : Nat → Nat
  | 0 => 0
  | n + 1 => if lo n = 0 then prs lo n + 1 else prs lo n
theorem prs_le (lo : Nat → Nat) : ∀ n, prs lo n ≤ n
  | 0 => Nat.le_refl _
  | n + 1 => by
    have := prs_le lo n
    unfold prs
    by_cases h : lo n = 0
    · rw [if_pos h]; omega
    · rw [if_neg h]; omega
theorem l_present {G : vv_G} {S : vs_S} {lo : Nat → Nat} (hr0 : ∀ s, s < 4 → S.2.2.2 2 s = some (80 + 2 * s)) (hlo : ∀ s, s < 4 → S.1 (80 + 2 * s) 1 = nI (lo s)) (hlo2 : ∀ s, s < 4 → lo s ≤ 1) {r : Option Value} {Sf : vs_S} (hr : r = some (.int (nI (prs lo 4)))) (hS : S = Sf) : ∀ d s : Nat, s + d = 4 → vs_V G cX9_presentSheets (vs_M yX9_presentSheets 3 (some .int) { frames := 0, locals := 0 } G r Sf) 4 [(2, .int (nI s)), (1, .int (nI (prs lo s))), (0, .ref (G.2.2.2 + 0))] [] S := by
  intro d
  induction d with
  | zero =>
    intro s hs
    obtain rfl : s = 4 := by omega
    refine vs_iload_n 2 dX9_presentSheets_4 rfl rfl 0 rfl ?_
    refine vs_iconst (v := 4) dX9_presentSheets_5 rfl rfl ?_
    refine vs_icmp_ge 30 dX9_presentSheets_6 rfl rfl (fun c_6 => ?_) (fun c_6 => ?_)
    · have q_6 : ((4 : Nat) : Int) ≥ ((4 : Nat) : Int) := (qi_ge (nI_Z _) (by first | exact nI_Z _ | (simp only [fa_lit, nI_add, pk_mul, nI_1]; exact nI_Z _)) (by omega) (by omega) (by omega) (by omega)).mp c_6
      refine vs_iload_n 1 dX9_presentSheets_30 rfl rfl 1 rfl ?_
      exact vs_iret dX9_presentSheets_31 hr hS
    · have q_6 : ¬ ((4 : Nat) : Int) ≥ ((4 : Nat) : Int) := fun hh => c_6 ((qi_ge (nI_Z _) (by first | exact nI_Z _ | (simp only [fa_lit, nI_add, pk_mul, nI_1]; exact nI_Z _)) (by omega) (by omega) (by omega) (by omega)).mpr hh)
      omega
  | succ d ih =>
    intro s hs
    have hs4 : s < 4 := by omega
    have hl := hlo s hs4
    have hl2 := hlo2 s hs4
    have hpl := prs_le lo s
    refine vs_iload_n 2 dX9_presentSheets_4 rfl rfl 0 rfl ?_
    refine vs_iconst (v := 4) dX9_presentSheets_5 rfl rfl ?_
    refine vs_icmp_ge 30 dX9_presentSheets_6 rfl rfl (fun c_6 => ?_) (fun c_6 => ?_)
    · have q_6 : ((s : Nat) : Int) ≥ ((4 : Nat) : Int) := (qi_ge (nI_Z _) (by first | exact nI_Z _ | (simp only [fa_lit, nI_add, pk_mul, nI_1]; exact nI_Z _)) (by omega) (by omega) (by omega) (by omega)).mp c_6
      omega
    · have q_6 : ¬ ((s : Nat) : Int) ≥ ((4 : Nat) : Int) := fun hh => c_6 ((qi_ge (nI_Z _) (by first | exact nI_Z _ | (simp only [fa_lit, nI_add, pk_mul, nI_1]; exact nI_Z _)) (by omega) (by omega) (by omega) (by omega)).mpr hh)
      refine vs_aload_n 0 dX9_presentSheets_9 rfl rfl 2 rfl ?_
      refine vs_get (v := .ref (G.2.2.2 + 2)) lf_X9_18 rfl rfl dX9_presentSheets_10 rfl ?_
      refine vs_iload_n 2 dX9_presentSheets_13 rfl rfl 0 rfl ?_
      refine vs_aald (t := 0) (k := s) (a := 80 + 2 * s) rfl rfl rfl (by first | rfl | (simp only [fa_lit, nI_add, pk_mul, nI_1]; done) | omega) (by omega) rfl (hr0 s hs4) dX9_presentSheets_14 rfl ?_
      refine vs_get (v := .int (nI (lo s))) lf_X9_114 (vs_St_k hs4).1 (congrArg (fun z => some (Value.int z)) hl) dX9_presentSheets_15 rfl ?_
      refine vs_if_ne 24 dX9_presentSheets_18 rfl rfl (fun c_18 => ?_) (fun c_18 => ?_)
      · have q_18 : ¬ (((lo s) : Nat) : Int) = ((0 : Nat) : Int) := fun hh => c_18 ((qi_eq (nI_Z _) (by first | exact nI_Z _ | (simp only [fa_lit, nI_add, pk_mul, nI_1]; exact nI_Z _)) (by omega) (by omega) (by omega) (by omega)).mpr hh)
        have e1 : prs lo (s + 1) = prs lo s := if_neg (by omega)
        refine vs_iinc (v := nI (s + 1)) [(2, .int (nI (s + 1))), (1, .int (nI (prs lo s))), (0, .ref (G.2.2.2 + 0))] dX9_presentSheets_24 rfl 0 rfl (by first | exact nI_1 _ | (simp only [fa_lit, nI_add, pk_mul, nI_1]; rfl)) rfl rfl ?_
        refine vs_goto 4 dX9_presentSheets_27 rfl ?_
        refine vs_pick [0, 1, 2] rfl ?_
        have := ih (s + 1) (by omega)
        rw [e1] at this
        exact this
      · have q_18 : (((lo s) : Nat) : Int) = ((0 : Nat) : Int) := (qi_eq (nI_Z _) (by first | exact nI_Z _ | (simp only [fa_lit, nI_add, pk_mul, nI_1]; exact nI_Z _)) (by omega) (by omega) (by omega) (by omega)).mp c_18
        have e1 : prs lo (s + 1) = prs lo s + 1 := if_pos (by omega)
        refine vs_iinc (v := nI ((prs lo s) + 1)) [(1, .int (nI ((prs lo s) + 1))), (2, .int (nI s)), (0, .ref (G.2.2.2 + 0))] dX9_presentSheets_21 rfl 1 rfl (by first | exact nI_1 _ | (simp only [fa_lit, nI_add, pk_mul, nI_1]; rfl)) rfl rfl ?_
        refine vs_iinc (v := nI (s + 1)) [(2, .int (nI (s + 1))), (1, .int (nI ((prs lo s) + 1))), (0, .ref (G.2.2.2 + 0))] dX9_presentSheets_24 rfl 1 rfl (by first | exact nI_1 _ | (simp only [fa_lit, nI_add, pk_mul, nI_1]; rfl)) rfl rfl ?_
        refine vs_goto 4 dX9_presentSheets_27 rfl ?_
        refine vs_pick [0, 1, 2] rfl ?_
        have := ih (s + 1) (by omega)
        rw [e1] at this
        exact this

theorem c_present {G : vv_G} {S : vs_S} {lo : Nat → Nat} (hr0 : ∀ s, s < 4 → S.2.2.2 2 s = some (80 + 2 * s)) (hlo : ∀ s, s < 4 → S.1 (80 + 2 * s) 1 = nI (lo s)) (hlo2 : ∀ s, s < 4 → lo s ≤ 1) : vs_C G yX9_presentSheets cX9_presentSheets 3 (some .int) { frames := 0, locals := 0 } [.ref (G.2.2.2 + 0)] S (some (.int (nI (prs lo 4)))) S := by
  refine vs_of [(0, .ref (G.2.2.2 + 0))] (by decide) rfl rfl ?_
  refine vs_iconst (v := 0) dX9_presentSheets_0 rfl rfl ?_
  refine vs_istore_n 1 [(1, .int (0)), (0, .ref (G.2.2.2 + 0))] dX9_presentSheets_1 rfl rfl rfl rfl ?_
  refine vs_iconst (v := 0) dX9_presentSheets_2 rfl rfl ?_
  refine vs_istore_n 2 [(2, .int (0)), (1, .int (0)), (0, .ref (G.2.2.2 + 0))] dX9_presentSheets_3 rfl rfl rfl rfl ?_
  refine vs_pick (L2 := [(2, .int (nI 0)), (1, .int (nI 0)), (0, .ref (G.2.2.2 + 0))]) [0, 1, 2] rfl ?_
  exact l_present hr0 hlo hlo2 rfl rfl 4 0 rfl

/-- the residues of n cells from i on -/
def rdk (w : Nat → Int64) (P i n : Nat) : Nat → Nat := fun k => if k < n then nn_m (w (i + k)).toInt P else 0
theorem rdk_s {w : Nat → Int64} {P i n : Nat} : nu (rdk w P i n) n (nn_m (w (i + n)).toInt P) = rdk w P i (n + 1) := by
  funext k
  unfold nu rdk
  by_cases h : k = n
  · rw [if_pos h, if_pos (by omega), h]
  · rw [if_neg h]
    by_cases h2 : k < n
    · rw [if_pos h2, if_pos (by omega)]
    · rw [if_neg h2, if_neg (by omega)]
theorem rdk_0 {w : Nat → Int64} {P i : Nat} : rdk w P i 0 = pcon 0 := by
  funext k
  unfold rdk pcon
  by_cases h : k = 0 <;> simp [h]
theorem rdk_z {w : Nat → Int64} {P i n : Nat} (h : n ≤ 42) : ∀ k, 42 ≤ k → rdk w P i n k = 0 := fun k hk => if_neg (by omega)
theorem rdk_b {w : Nat → Int64} {P i n : Nat} (h : 0 < P) : ∀ k, rdk w P i n k < P := fun k => by
  unfold rdk
  by_cases h2 : k < n
  · rw [if_pos h2]; exact nn_m_lt h
  · rw [if_neg h2]; exact h
theorem l_read {G : vv_G} {S : vs_S} {o : Nat} (ht : vs_St o) {t : Nat} (hp : vs_P t) {P : Nat} (hP : S.1 1 0 = nI P) (hP1 : 2 ≤ P) (hP2 : P ≤ 30011) {i n : Nat} (hin : i + n ≤ 60) (hn : n ≤ 42) {r : Option Value} {Sf : vs_S} (hr : r = none) (hS : vs_ia S (t + 1) (nA (rdk (S.2.2.1 (o + 1)) P i n)) = Sf) : ∀ d j : Nat, j + d = n → vs_V G cX9_readTerms (vs_M yX9_readTerms 6 none { frames := 2, locals := 44 } G r Sf) 9 [(5, .int (nI j)), (0, .ref (G.2.2.2 + 0)), (1, .ref (G.2.2.2 + o)), (2, .int (nI i)), (3, .int (nI n)), (4, .ref (G.2.2.2 + t))] [] (vs_ia S (t + 1) (nA (rdk (S.2.2.1 (o + 1)) P i j))) := by
  intro d
  induction d with
  | zero =>
    intro j hj
    obtain rfl : j = n := by omega
    refine vs_iload dX9_readTerms_9 rfl 0 rfl ?_
    refine vs_iload_n 3 dX9_readTerms_11 rfl rfl 4 rfl ?_
    refine vs_icmp_ge 43 dX9_readTerms_12 rfl rfl (fun c_12 => ?_) (fun c_12 => ?_)
    · have q_12 : ((j : Nat) : Int) ≥ ((j : Nat) : Int) := (qi_ge (nI_Z _) (nI_Z _) (by omega) (by omega) (by omega) (by omega)).mp c_12
      exact vs_vret dX9_readTerms_43 hr hS
    · have q_12 : ¬ ((j : Nat) : Int) ≥ ((j : Nat) : Int) := fun hh => c_12 ((qi_ge (nI_Z _) (nI_Z _) (by omega) (by omega) (by omega) (by omega)).mpr hh)
      omega
  | succ d ih =>
    intro j hj
    have hpo : pR (vs_ia S (t + 1) (nA (rdk (S.2.2.1 (o + 1)) P i j))) t (rdk (S.2.2.1 (o + 1)) P i j) := ⟨vs_ia_at, rdk_z (by omega)⟩
    refine vs_iload dX9_readTerms_9 rfl 0 rfl ?_
    refine vs_iload_n 3 dX9_readTerms_11 rfl rfl 4 rfl ?_
    refine vs_icmp_ge 43 dX9_readTerms_12 rfl rfl (fun c_12 => ?_) (fun c_12 => ?_)
    · have q_12 : ((j : Nat) : Int) ≥ ((n : Nat) : Int) := (qi_ge (nI_Z _) (nI_Z _) (by omega) (by omega) (by omega) (by omega)).mp c_12
      omega
    · have q_12 : ¬ ((j : Nat) : Int) ≥ ((n : Nat) : Int) := fun hh => c_12 ((qi_ge (nI_Z _) (nI_Z _) (by omega) (by omega) (by omega) (by omega)).mpr hh)
      refine vs_aload dX9_readTerms_15 rfl 5 rfl ?_
      refine vs_iload dX9_readTerms_17 rfl 0 rfl ?_
      refine vs_aload_n 0 dX9_readTerms_19 rfl rfl 1 rfl ?_
      refine vs_get (v := .ref (G.2.2.2 + 1)) lf_X9_12 rfl rfl dX9_readTerms_20 rfl ?_
      refine vs_aload_n 1 dX9_readTerms_23 rfl rfl 2 rfl ?_
      refine vs_iload_n 2 dX9_readTerms_24 rfl rfl 3 rfl ?_
      refine vs_iload dX9_readTerms_25 rfl 0 rfl ?_
      refine vs_iadd dX9_readTerms_27 rfl ?_
      refine vs_topi (fun z1 e_z1 => ?_)
      have f_z1 : z1 = nI (i + j) := (by rw [e_z1]; exact nI_add _ _)
      subst f_z1
      clear e_z1
      refine vs_callV (st := [.ref (G.2.2.2 + 1), .int (nI j), .ref (G.2.2.2 + t)]) (c_read ht (k := i + j) (by omega)) lk_X9_299 lm_X8_read rfl ht.1 rfl rfl (Nat.le_of_ble_eq_true rfl) rfl ⟨rfl, rfl⟩ dX9_readTerms_28 rfl ?_
      show vs_V _ _ _ _ _ (.long ((S.2.2.1 (o + 1) (i + j))) :: _) _
      refine vs_callV (st := [.int (nI j), .ref (G.2.2.2 + t)]) (c_of hP hP1 (by omega)) lk_X9_182 lm_X5_of rfl rfl rfl rfl (Nat.le_of_ble_eq_true rfl) rfl ⟨rfl, rfl⟩ dX9_readTerms_31 rfl ?_
      show vs_V _ _ _ _ _ (.int (nI (nn_m (S.2.2.1 (o + 1) (i + j)).toInt P)) :: _) _
      refine vs_callV (st := []) (c_setN hp hpo (k := j) (by omega)) lk_X9_189 lm_X3_set rfl hp.1 rfl rfl (Nat.le_of_ble_eq_true rfl) rfl ⟨rfl, rfl⟩ dX9_readTerms_34 rfl ?_
      refine vs_eq (S2 := vs_ia S (t + 1) (nA (rdk (S.2.2.1 (o + 1)) P i (j + 1)))) (by rw [vs_ia_ia, rdk_s]) ?_
      refine vs_iinc (v := nI (j + 1)) [(5, .int (nI (j + 1))), (0, .ref (G.2.2.2 + 0)), (1, .ref (G.2.2.2 + o)), (2, .int (nI i)), (3, .int (nI n)), (4, .ref (G.2.2.2 + t))] dX9_readTerms_37 rfl 0 rfl (by first | exact nI_1 _ | (simp only [fa_lit, nI_add, pk_mul, nI_1]; rfl)) rfl rfl ?_
      refine vs_goto 9 dX9_readTerms_40 rfl ?_
      refine vs_pick [0, 1, 2, 3, 4, 5] rfl ?_
      exact ih (j + 1) (by omega)

theorem c_readTerms {G : vv_G} {S : vs_S} {o : Nat} (ht : vs_St o) {t : Nat} (hp : vs_P t) {P : Nat} (hP : S.1 1 0 = nI P) (hP1 : 2 ≤ P) (hP2 : P ≤ 30011) {i n : Nat} (hin : i + n ≤ 60) (hn : n ≤ 42) {g : Nat → Nat} (hg : pR S t g) : vs_C G yX9_readTerms cX9_readTerms 6 none { frames := 2, locals := 44 } [.ref (G.2.2.2 + 0), .ref (G.2.2.2 + o), .int (nI i), .int (nI n), .ref (G.2.2.2 + t)] S none (vs_ia S (t + 1) (nA (rdk (S.2.2.1 (o + 1)) P i n))) := by
  refine vs_of [(0, .ref (G.2.2.2 + 0)), (1, .ref (G.2.2.2 + o)), (2, .int (nI i)), (3, .int (nI n)), (4, .ref (G.2.2.2 + t))] (by decide) rfl rfl ?_
  refine vs_aload dX9_readTerms_0 rfl 4 rfl ?_
  refine vs_iconst (v := 0) dX9_readTerms_2 rfl rfl ?_
  refine vs_callV (st := []) (c_becomeNumber hp hg (x := 0)) lk_X9_192 lm_X3_becomeNumber rfl hp.1 rfl rfl (Nat.le_of_ble_eq_true rfl) rfl ⟨rfl, rfl⟩ dX9_readTerms_3 rfl ?_
  refine vs_iconst (v := 0) dX9_readTerms_6 rfl rfl ?_
  refine vs_istore [(5, .int (0)), (0, .ref (G.2.2.2 + 0)), (1, .ref (G.2.2.2 + o)), (2, .int (nI i)), (3, .int (nI n)), (4, .ref (G.2.2.2 + t))] dX9_readTerms_7 rfl rfl rfl ?_
  refine vs_pick (L2 := [(5, .int (nI 0)), (0, .ref (G.2.2.2 + 0)), (1, .ref (G.2.2.2 + o)), (2, .int (nI i)), (3, .int (nI n)), (4, .ref (G.2.2.2 + t))]) [0, 1, 2, 3, 4, 5] rfl ?_
  refine vs_eq (S2 := vs_ia S (t + 1) (nA (rdk (S.2.2.1 (o + 1)) P i 0))) (by rw [rdk_0]) ?_
  exact l_read ht hp hP hP1 hP2 hin hn rfl rfl n 0 (by omega)

def cut (c : Nat → Nat) (n : Nat) : Nat → Nat := fun k => if k < n then c k else 0
theorem cut_s {c : Nat → Nat} {n : Nat} : nu (cut c n) n (c n) = cut c (n + 1) := by
  funext k
  unfold nu cut
  by_cases h : k = n
  · rw [if_pos h, if_pos (by omega), h]
  · rw [if_neg h]
    by_cases h2 : k < n
    · rw [if_pos h2, if_pos (by omega)]
    · rw [if_neg h2, if_neg (by omega)]
theorem cut_0 {c : Nat → Nat} : cut c 0 = pcon 0 := by
  funext k
  unfold cut pcon
  by_cases h : k = 0 <;> simp [h]
theorem cut_z {c : Nat → Nat} {n : Nat} (h : n ≤ 42) : ∀ k, 42 ≤ k → cut c n k = 0 := fun k hk => if_neg (by omega)
theorem cut_b {c : Nat → Nat} {P n : Nat} (h0 : 0 < P) (h : ∀ k, c k < P) : ∀ k, cut c n k < P := fun k => by
  unfold cut
  by_cases h2 : k < n
  · rw [if_pos h2]; exact h k
  · rw [if_neg h2]; exact h0
/-- the share of a series for a pair of degrees, as the class finds it -/
def ent (P : Nat) (c : Nat → Nat) (l m : Nat) : (Nat → Nat) × (Nat → Nat) := fsh P l (nu (pcon 0) (l + m + 1) 1) (cut c (l + m + 1))
theorem l_start {G : vv_G} {S : vs_S} {o : Nat} (hs : vs_Sh o) (ho : o = 7 ∨ o = 12) {asked : Nat} (hse : vs_Se asked) (hns : 77 ≤ asked) {c : Nat → Nat} {P : Nat} (hP1 : 2 ≤ P) (hP2 : P ≤ 30011) (hb : ∀ k, c k < P) {l m : Nat} (hlm : l + m ≤ 40) (hc : pR S (asked + 1) c) {Pst : Option Value → vs_S → Prop} (K : vs_V G cX9_findEntry (vs_MP yX9_findEntry 6 none { frames := 5, locals := 132 } G Pst) 76 [(0, .ref (G.2.2.2 + 0)), (1, .ref (G.2.2.2 + asked)), (2, .int (nI l)), (3, .int (nI m)), (4, .ref (G.2.2.2 + o))] [] (vs_ia S 21 (nA (cut c (l + m + 1))))) : ∀ d k : Nat, k + d = l + m + 1 → vs_V G cX9_findEntry (vs_MP yX9_findEntry 6 none { frames := 5, locals := 132 } G Pst) 41 [(5, .int (nI k)), (0, .ref (G.2.2.2 + 0)), (1, .ref (G.2.2.2 + asked)), (2, .int (nI l)), (3, .int (nI m)), (4, .ref (G.2.2.2 + o))] [] (vs_ia S 21 (nA (cut c k))) := by
  intro d
  induction d with
  | zero =>
    intro k hk
    obtain rfl : k = l + m + 1 := by omega
    refine vs_iload dX9_findEntry_41 rfl 0 rfl ?_
    refine vs_iload_n 2 dX9_findEntry_43 rfl rfl 3 rfl ?_
    refine vs_iload_n 3 dX9_findEntry_44 rfl rfl 4 rfl ?_
    refine vs_iadd dX9_findEntry_45 rfl ?_
    refine vs_icmp_gt 76 dX9_findEntry_46 rfl rfl (fun c_46 => ?_) (fun c_46 => ?_)
    · have q_46 : (((l + m + 1) : Nat) : Int) > (((l + m) : Nat) : Int) := (qi_gt (nI_Z _) (by first | exact nI_Z _ | (simp only [fa_lit, nI_add, pk_mul, nI_1]; exact nI_Z _)) (by omega) (by omega) (by omega) (by omega)).mp c_46
      refine vs_pick [1, 2, 3, 4, 5] rfl ?_
      exact K
    · have q_46 : ¬ (((l + m + 1) : Nat) : Int) > (((l + m) : Nat) : Int) := fun hh => c_46 ((qi_gt (nI_Z _) (by first | exact nI_Z _ | (simp only [fa_lit, nI_add, pk_mul, nI_1]; exact nI_Z _)) (by omega) (by omega) (by omega) (by omega)).mpr hh)
      omega
  | succ d ih =>
    intro k hk
    have h20 : pR (vs_ia S 21 (nA (cut c k))) 20 (cut c k) := ⟨vs_ia_at, cut_z (by omega)⟩
    have hc2 : pR (vs_ia S 21 (nA (cut c k))) (asked + 1) c := ⟨(vs_ia_ne (by omega)).trans hc.1, hc.2⟩
    refine vs_iload dX9_findEntry_41 rfl 0 rfl ?_
    refine vs_iload_n 2 dX9_findEntry_43 rfl rfl 3 rfl ?_
    refine vs_iload_n 3 dX9_findEntry_44 rfl rfl 4 rfl ?_
    refine vs_iadd dX9_findEntry_45 rfl ?_
    refine vs_icmp_gt 76 dX9_findEntry_46 rfl rfl (fun c_46 => ?_) (fun c_46 => ?_)
    · have q_46 : ((k : Nat) : Int) > (((l + m) : Nat) : Int) := (qi_gt (nI_Z _) (by first | exact nI_Z _ | (simp only [fa_lit, nI_add, pk_mul, nI_1]; exact nI_Z _)) (by omega) (by omega) (by omega) (by omega)).mp c_46
      omega
    · have q_46 : ¬ ((k : Nat) : Int) > (((l + m) : Nat) : Int) := fun hh => c_46 ((qi_gt (nI_Z _) (by first | exact nI_Z _ | (simp only [fa_lit, nI_add, pk_mul, nI_1]; exact nI_Z _)) (by omega) (by omega) (by omega) (by omega)).mpr hh)
      refine vs_aload_n 0 dX9_findEntry_49 rfl rfl 1 rfl ?_
      refine vs_get (v := .ref (G.2.2.2 + 17)) lf_X9_52 rfl rfl dX9_findEntry_50 rfl ?_
      refine vs_get (v := .ref (G.2.2.2 + 20)) lf_X9_248 rfl rfl dX9_findEntry_53 rfl ?_
      refine vs_iload dX9_findEntry_56 rfl 0 rfl ?_
      refine vs_aload_n 1 dX9_findEntry_58 rfl rfl 2 rfl ?_
      refine vs_get (v := .ref (G.2.2.2 + (asked + 1))) lf_X9_149 hse.1 rfl dX9_findEntry_59 rfl ?_
      refine vs_iload dX9_findEntry_62 rfl 0 rfl ?_
      refine vs_callV (st := [.int (nI k), .ref (G.2.2.2 + 20)]) (c_atN hse.2 hc2 (k := k) (by omega)) lk_X9_186 lm_X3_at rfl hse.2.1 rfl rfl (Nat.le_of_ble_eq_true rfl) rfl ⟨rfl, rfl⟩ dX9_findEntry_64 rfl ?_
      show vs_V _ _ _ _ _ (.int (nI (c k)) :: _) _
      refine vs_callV (st := []) (c_setN vs_P20 h20 (k := k) (by omega)) lk_X9_189 lm_X3_set rfl rfl rfl rfl (Nat.le_of_ble_eq_true rfl) rfl ⟨rfl, rfl⟩ dX9_findEntry_67 rfl ?_
      refine vs_eq (S2 := vs_ia S 21 (nA (cut c (k + 1)))) (by rw [vs_ia_ia, cut_s]) ?_
      refine vs_iinc (v := nI (k + 1)) [(5, .int (nI (k + 1))), (0, .ref (G.2.2.2 + 0)), (1, .ref (G.2.2.2 + asked)), (2, .int (nI l)), (3, .int (nI m)), (4, .ref (G.2.2.2 + o))] dX9_findEntry_70 rfl 0 rfl (by first | exact nI_1 _ | (simp only [fa_lit, nI_add, pk_mul, nI_1]; rfl)) rfl rfl ?_
      refine vs_goto 41 dX9_findEntry_73 rfl ?_
      refine vs_pick [0, 1, 2, 3, 4, 5] rfl ?_
      exact ih (k + 1) (by omega)

theorem c_findEntry {G : vv_G} {S : vs_S} {o : Nat} (hs : vs_Sh o) (ho : o = 7 ∨ o = 12) {asked : Nat} (hse : vs_Se asked) (hns : 77 ≤ asked) {c : Nat → Nat} {P : Nat} (hP1 : 2 ≤ P) (hP2 : P ≤ 30011) (hb : ∀ k, c k < P) {l m : Nat} (hlm : l + m ≤ 40) (hP : S.1 1 0 = nI P) (hc : pR S (asked + 1) c) {ga gb : Nat → Nat} (ha : pR S (o + 1) ga) (hb2 : pR S (o + 3) gb) (hj18 : jk S 18) (hj20 : jk S 20) (hj22 : jk S 22) (hj24 : jk S 24) (hj26 : jk S 26) : vs_CP G yX9_findEntry cX9_findEntry 6 none { frames := 5, locals := 132 } [.ref (G.2.2.2 + 0), .ref (G.2.2.2 + asked), .int (nI l), .int (nI m), .ref (G.2.2.2 + o)] S (fun r S2 => r = none ∧ vs_fr S S2 [19, 21, 23, 25, 27, o + 1 + 1, o + 3 + 1] ∧ pR S2 (o + 1) (ent P c l m).1 ∧ pR S2 (o + 3) (ent P c l m).2 ∧ jk S2 18 ∧ jk S2 20 ∧ jk S2 22 ∧ jk S2 24 ∧ jk S2 26) := by
  refine vs_ofP [(0, .ref (G.2.2.2 + 0)), (1, .ref (G.2.2.2 + asked)), (2, .int (nI l)), (3, .int (nI m)), (4, .ref (G.2.2.2 + o))] (by decide) rfl rfl ?_
  obtain ⟨j18, hj18⟩ := hj18
  obtain ⟨j20, hj20⟩ := hj20
  obtain ⟨j22, hj22⟩ := hj22
  obtain ⟨j24, hj24⟩ := hj24
  have F : vs_fr S S [19, 21, 23, 25, 27, o + 1 + 1, o + 3 + 1] := vs_fr.rf
  have hmz : ∀ k, 42 ≤ k → nu (pcon 0) (l + m + 1) 1 k = 0 := fun k hk => by rw [nu_n (by omega)]; exact pcon_z 0 k hk
  have hmb : ∀ k, nu (pcon 0) (l + m + 1) 1 k < P := fun k => by unfold nu; by_cases h : k = l + m + 1 <;> simp [h] <;> first | omega | (have := pcon_b (x := 0) (P := P) (by omega) k; exact this)
  refine vs_aload_n 0 dX9_findEntry_0 rfl rfl 0 rfl ?_
  refine vs_get (v := .ref (G.2.2.2 + 17)) lf_X9_52 rfl rfl dX9_findEntry_1 rfl ?_
  refine vs_get (v := .ref (G.2.2.2 + 18)) lf_X9_246 rfl rfl dX9_findEntry_4 rfl ?_
  refine vs_iconst (v := 0) dX9_findEntry_7 rfl rfl ?_
  refine vs_callV (st := []) (c_becomeNumber vs_P18 hj18 (x := 0)) lk_X9_192 lm_X3_becomeNumber rfl rfl rfl rfl (Nat.le_of_ble_eq_true rfl) rfl ⟨rfl, rfl⟩ dX9_findEntry_8 rfl ?_
  refine vs_gen (fun T1 e_T1 => ?_)
  have hP : T1.1 1 0 = nI P := by rw [e_T1]; repeat (first | exact hP | rw [vs_ia_ne (by omega)] | rw [vs_sc_ne (by omega)] | rw [vs_sc_nf (by omega)])
  have hc : pR T1 (asked + 1) c := ⟨by rw [e_T1]; repeat (first | exact hc.1 | rw [vs_ia_ne (by omega)]), hc.2⟩
  have ha : pR T1 (o + 1) ga := ⟨by rw [e_T1]; repeat (first | exact ha.1 | rw [vs_ia_ne (by omega)]), ha.2⟩
  have hb2 : pR T1 (o + 3) gb := ⟨by rw [e_T1]; repeat (first | exact hb2.1 | rw [vs_ia_ne (by omega)]), hb2.2⟩
  have hj22 : pR T1 22 j22 := ⟨by rw [e_T1]; repeat (first | exact hj22.1 | rw [vs_ia_ne (by omega)]), hj22.2⟩
  have hj24 : pR T1 24 j24 := ⟨by rw [e_T1]; repeat (first | exact hj24.1 | rw [vs_ia_ne (by omega)]), hj24.2⟩
  have hj26 : jk T1 26 := by obtain ⟨g, hg⟩ := hj26; exact ⟨g, by rw [e_T1]; repeat (first | exact hg.1 | rw [vs_ia_ne (by omega)]), hg.2⟩
  have hj20 : pR T1 20 j20 := ⟨by rw [e_T1]; repeat (first | exact hj20.1 | rw [vs_ia_ne (by omega)]), hj20.2⟩
  have F : vs_fr S T1 [19, 21, 23, 25, 27, o + 1 + 1, o + 3 + 1] := by rw [e_T1]; repeat (first | exact F | refine vs_fr.ia ?_ (by simp <;> omega))
  have hmo : pR T1 18 (pcon 0) := ⟨by rw [e_T1]; repeat (first | exact vs_ia_at | rw [vs_ia_ne (by omega)]), (pcon_z 0)⟩
  clear e_T1
  refine vs_aload_n 0 dX9_findEntry_11 rfl rfl 0 rfl ?_
  refine vs_get (v := .ref (G.2.2.2 + 17)) lf_X9_52 rfl rfl dX9_findEntry_12 rfl ?_
  refine vs_get (v := .ref (G.2.2.2 + 18)) lf_X9_246 rfl rfl dX9_findEntry_15 rfl ?_
  refine vs_iload_n 2 dX9_findEntry_18 rfl rfl 2 rfl ?_
  refine vs_iload_n 3 dX9_findEntry_19 rfl rfl 3 rfl ?_
  refine vs_iadd dX9_findEntry_20 rfl ?_
  refine vs_iconst (v := 1) dX9_findEntry_21 rfl rfl ?_
  refine vs_iadd dX9_findEntry_22 rfl ?_
  refine vs_topi (fun z1 e_z1 => ?_)
  have f_z1 : z1 = nI (l + m + 1) := (by rw [e_z1]; simp only [fa_lit, nI_add])
  subst f_z1
  clear e_z1
  refine vs_iconst (v := 1) dX9_findEntry_23 rfl rfl ?_
  refine vs_callV (st := []) (c_setN vs_P18 hmo (k := l + m + 1) (x := 1) (by omega)) lk_X9_189 lm_X3_set rfl rfl rfl rfl (Nat.le_of_ble_eq_true rfl) rfl ⟨rfl, rfl⟩ dX9_findEntry_24 rfl ?_
  refine vs_gen (fun T2 e_T2 => ?_)
  have hP : T2.1 1 0 = nI P := by rw [e_T2]; repeat (first | exact hP | rw [vs_ia_ne (by omega)] | rw [vs_sc_ne (by omega)] | rw [vs_sc_nf (by omega)])
  have hc : pR T2 (asked + 1) c := ⟨by rw [e_T2]; repeat (first | exact hc.1 | rw [vs_ia_ne (by omega)]), hc.2⟩
  have ha : pR T2 (o + 1) ga := ⟨by rw [e_T2]; repeat (first | exact ha.1 | rw [vs_ia_ne (by omega)]), ha.2⟩
  have hb2 : pR T2 (o + 3) gb := ⟨by rw [e_T2]; repeat (first | exact hb2.1 | rw [vs_ia_ne (by omega)]), hb2.2⟩
  have hj22 : pR T2 22 j22 := ⟨by rw [e_T2]; repeat (first | exact hj22.1 | rw [vs_ia_ne (by omega)]), hj22.2⟩
  have hj24 : pR T2 24 j24 := ⟨by rw [e_T2]; repeat (first | exact hj24.1 | rw [vs_ia_ne (by omega)]), hj24.2⟩
  have hj26 : jk T2 26 := by obtain ⟨g, hg⟩ := hj26; exact ⟨g, by rw [e_T2]; repeat (first | exact hg.1 | rw [vs_ia_ne (by omega)]), hg.2⟩
  have hj20 : pR T2 20 j20 := ⟨by rw [e_T2]; repeat (first | exact hj20.1 | rw [vs_ia_ne (by omega)]), hj20.2⟩
  have F : vs_fr S T2 [19, 21, 23, 25, 27, o + 1 + 1, o + 3 + 1] := by rw [e_T2]; repeat (first | exact F | refine vs_fr.ia ?_ (by simp <;> omega))
  have hmo : pR T2 18 (nu (pcon 0) (l + m + 1) 1) := ⟨by rw [e_T2]; repeat (first | exact vs_ia_at | rw [vs_ia_ne (by omega)]), hmz⟩
  clear e_T2
  refine vs_aload_n 0 dX9_findEntry_27 rfl rfl 0 rfl ?_
  refine vs_get (v := .ref (G.2.2.2 + 17)) lf_X9_52 rfl rfl dX9_findEntry_28 rfl ?_
  refine vs_get (v := .ref (G.2.2.2 + 20)) lf_X9_248 rfl rfl dX9_findEntry_31 rfl ?_
  refine vs_iconst (v := 0) dX9_findEntry_34 rfl rfl ?_
  refine vs_callV (st := []) (c_becomeNumber vs_P20 hj20 (x := 0)) lk_X9_192 lm_X3_becomeNumber rfl rfl rfl rfl (Nat.le_of_ble_eq_true rfl) rfl ⟨rfl, rfl⟩ dX9_findEntry_35 rfl ?_
  rw [show (pcon 0) = cut c 0 from cut_0.symm]
  refine vs_iconst (v := 0) dX9_findEntry_38 rfl rfl ?_
  refine vs_istore [(5, .int (0)), (0, .ref (G.2.2.2 + 0)), (1, .ref (G.2.2.2 + asked)), (2, .int (nI l)), (3, .int (nI m)), (4, .ref (G.2.2.2 + o))] dX9_findEntry_39 rfl rfl rfl ?_
  refine vs_pick (L2 := [(5, .int (nI 0)), (0, .ref (G.2.2.2 + 0)), (1, .ref (G.2.2.2 + asked)), (2, .int (nI l)), (3, .int (nI m)), (4, .ref (G.2.2.2 + o))]) [0, 1, 2, 3, 4, 5] rfl ?_
  refine l_start hs ho hse hns hP1 hP2 hb hlm hc ?_ (l + m + 1) 0 (by omega)
  refine vs_gen (fun T3 e_T3 => ?_)
  have hP : T3.1 1 0 = nI P := by rw [e_T3]; repeat (first | exact hP | rw [vs_ia_ne (by omega)] | rw [vs_sc_ne (by omega)] | rw [vs_sc_nf (by omega)])
  have hc : pR T3 (asked + 1) c := ⟨by rw [e_T3]; repeat (first | exact hc.1 | rw [vs_ia_ne (by omega)]), hc.2⟩
  have ha : pR T3 (o + 1) ga := ⟨by rw [e_T3]; repeat (first | exact ha.1 | rw [vs_ia_ne (by omega)]), ha.2⟩
  have hb2 : pR T3 (o + 3) gb := ⟨by rw [e_T3]; repeat (first | exact hb2.1 | rw [vs_ia_ne (by omega)]), hb2.2⟩
  have hj22 : pR T3 22 j22 := ⟨by rw [e_T3]; repeat (first | exact hj22.1 | rw [vs_ia_ne (by omega)]), hj22.2⟩
  have hj24 : pR T3 24 j24 := ⟨by rw [e_T3]; repeat (first | exact hj24.1 | rw [vs_ia_ne (by omega)]), hj24.2⟩
  have hj26 : jk T3 26 := by obtain ⟨g, hg⟩ := hj26; exact ⟨g, by rw [e_T3]; repeat (first | exact hg.1 | rw [vs_ia_ne (by omega)]), hg.2⟩
  have F : vs_fr S T3 [19, 21, 23, 25, 27, o + 1 + 1, o + 3 + 1] := by rw [e_T3]; repeat (first | exact F | refine vs_fr.ia ?_ (by simp <;> omega))
  have hmo : pR T3 18 (nu (pcon 0) (l + m + 1) 1) := ⟨by rw [e_T3]; repeat (first | exact hmo.1 | rw [vs_ia_ne (by omega)]), hmo.2⟩
  have hst : pR T3 20 (cut c (l + m + 1)) := ⟨by rw [e_T3]; repeat (first | exact vs_ia_at | rw [vs_ia_ne (by omega)]), (cut_z (by omega))⟩
  clear e_T3
  refine vs_aload_n 0 dX9_findEntry_76 rfl rfl 0 rfl ?_
  refine vs_get (v := .ref (G.2.2.2 + 17)) lf_X9_52 rfl rfl dX9_findEntry_77 rfl ?_
  refine vs_iload_n 2 dX9_findEntry_80 rfl rfl 2 rfl ?_
  refine vs_aload dX9_findEntry_81 rfl 4 rfl ?_
  refine vs_aload_n 0 dX9_findEntry_83 rfl rfl 0 rfl ?_
  refine vs_get (v := .ref (G.2.2.2 + 1)) lf_X9_12 rfl rfl dX9_findEntry_84 rfl ?_
  refine vs_callVP (st := []) (c_findShare hs ho hmo hst ha hb2 hj22 hj24 hj26 hP hP1 hP2 hmb (cut_b (by omega) hb) (show l ≤ 41 by omega)) lk_X9_255 lm_X1_findShare rfl rfl rfl rfl (Nat.le_of_ble_eq_true rfl) rfl ⟨rfl, rfl⟩ dX9_findEntry_87 rfl (fun rr S1 hh => ?_)
  obtain ⟨rfl, F2, k1, k2, p1, p2, p3, p4, p5⟩ := hh
  show vs_V _ _ _ _ _ [] _
  exact vs_vretP dX9_findEntry_90 ⟨rfl, vs_fr.tr F F2 (fun x hx => hx), k1, k2, p1, p2, p3, p4, p5⟩

/-- how many numbers agree, from k on -/
def agr (u c : Nat → Nat) : Nat → Nat → Nat
  | 0, k => k
  | d + 1, k => if u k = c k then agr u c d (k + 1) else k
theorem agr_le {u c : Nat → Nat} : ∀ d k, k ≤ agr u c d k ∧ agr u c d k ≤ k + d
  | 0, k => ⟨Nat.le_refl _, Nat.le_refl _⟩
  | d + 1, k => by
    have := agr_le (u := u) (c := c) d (k + 1)
    unfold agr
    by_cases h : u k = c k
    · rw [if_pos h]; omega
    · rw [if_neg h]; omega
theorem l_agree {G : vv_G} {S : vs_S} {asked : Nat} (hse : vs_Se asked) {c : Nat → Nat} (hc : pR S (asked + 1) c) {P : Nat} (hP1 : 2 ≤ P) (hP2 : P ≤ 30011) (hb : ∀ k, c k < P) {la : Nat} (hla : S.1 asked 1 = nI la) (hla2 : la ≤ 40) {o : Nat} {u : Nat → Nat} (hu : pR S 77 u) (hub : ∀ k, u k < P) {r : Option Value} {Sf : vs_S} (hS : S = Sf) : ∀ d k : Nat, k + d = la + 1 → r = some (.int (nI (agr u c d k))) → vs_V G cX9_agreement (vs_M yX9_agreement 4 (some .int) { frames := 3, locals := 77 } G r Sf) 18 [(3, .int (nI k)), (0, .ref (G.2.2.2 + 0)), (1, .ref (G.2.2.2 + asked)), (2, .ref (G.2.2.2 + o))] [] S := by
  intro d
  induction d with
  | zero =>
    intro k hk hr
    obtain rfl : k = la + 1 := by omega
    refine vs_iload_n 3 dX9_agreement_18 rfl rfl 0 rfl ?_
    refine vs_aload_n 1 dX9_agreement_19 rfl rfl 2 rfl ?_
    refine vs_get (v := .int (nI la)) lf_X9_173 hse.1 (congrArg (fun z => some (Value.int z)) hla) dX9_agreement_20 rfl ?_
    refine vs_icmp_gt 51 dX9_agreement_23 rfl rfl (fun c_23 => ?_) (fun c_23 => ?_)
    · have q_23 : (((la + 1) : Nat) : Int) > ((la : Nat) : Int) := (qi_gt (nI_Z _) (nI_Z _) (by omega) (by omega) (by omega) (by omega)).mp c_23
      refine vs_iload_n 3 dX9_agreement_51 rfl rfl 0 rfl ?_
      exact vs_iret dX9_agreement_52 hr hS
    · have q_23 : ¬ (((la + 1) : Nat) : Int) > ((la : Nat) : Int) := fun hh => c_23 ((qi_gt (nI_Z _) (nI_Z _) (by omega) (by omega) (by omega) (by omega)).mpr hh)
      omega
  | succ d ih =>
    intro k hk hr
    have b1 := hb k
    have b2 := hub k
    refine vs_iload_n 3 dX9_agreement_18 rfl rfl 0 rfl ?_
    refine vs_aload_n 1 dX9_agreement_19 rfl rfl 2 rfl ?_
    refine vs_get (v := .int (nI la)) lf_X9_173 hse.1 (congrArg (fun z => some (Value.int z)) hla) dX9_agreement_20 rfl ?_
    refine vs_icmp_gt 51 dX9_agreement_23 rfl rfl (fun c_23 => ?_) (fun c_23 => ?_)
    · have q_23 : ((k : Nat) : Int) > ((la : Nat) : Int) := (qi_gt (nI_Z _) (nI_Z _) (by omega) (by omega) (by omega) (by omega)).mp c_23
      omega
    · have q_23 : ¬ ((k : Nat) : Int) > ((la : Nat) : Int) := fun hh => c_23 ((qi_gt (nI_Z _) (nI_Z _) (by omega) (by omega) (by omega) (by omega)).mpr hh)
      refine vs_aload_n 0 dX9_agreement_26 rfl rfl 1 rfl ?_
      refine vs_get (v := .ref (G.2.2.2 + 77)) lf_X9_73 rfl rfl dX9_agreement_27 rfl ?_
      refine vs_iload_n 3 dX9_agreement_30 rfl rfl 0 rfl ?_
      refine vs_callV (st := []) (c_atN vs_P77 hu (k := k) (by omega)) lk_X9_186 lm_X3_at rfl rfl rfl rfl (Nat.le_of_ble_eq_true rfl) rfl ⟨rfl, rfl⟩ dX9_agreement_31 rfl ?_
      show vs_V _ _ _ _ _ (.int (nI (u k)) :: _) _
      refine vs_aload_n 1 dX9_agreement_34 rfl rfl 2 rfl ?_
      refine vs_get (v := .ref (G.2.2.2 + (asked + 1))) lf_X9_149 hse.1 rfl dX9_agreement_35 rfl ?_
      refine vs_iload_n 3 dX9_agreement_38 rfl rfl 0 rfl ?_
      refine vs_callV (st := [.int (nI (u k))]) (c_atN hse.2 hc (k := k) (by omega)) lk_X9_186 lm_X3_at rfl hse.2.1 rfl rfl (Nat.le_of_ble_eq_true rfl) rfl ⟨rfl, rfl⟩ dX9_agreement_39 rfl ?_
      show vs_V _ _ _ _ _ (.int (nI (c k)) :: _) _
      refine vs_icmp_ne 51 dX9_agreement_42 rfl rfl (fun c_42 => ?_) (fun c_42 => ?_)
      · have q_42 : ¬ (((u k) : Nat) : Int) = (((c k) : Nat) : Int) := fun hh => c_42 ((qi_eq (nI_Z _) (nI_Z _) (by omega) (by omega) (by omega) (by omega)).mpr hh)
        rw [show agr u c (d + 1) k = k from if_neg (by omega)] at hr
        refine vs_iload_n 3 dX9_agreement_51 rfl rfl 0 rfl ?_
        exact vs_iret dX9_agreement_52 hr hS
      · have q_42 : (((u k) : Nat) : Int) = (((c k) : Nat) : Int) := (qi_eq (nI_Z _) (nI_Z _) (by omega) (by omega) (by omega) (by omega)).mp c_42
        rw [show agr u c (d + 1) k = agr u c d (k + 1) from if_pos (by omega)] at hr
        refine vs_iinc (v := nI (k + 1)) [(3, .int (nI (k + 1))), (0, .ref (G.2.2.2 + 0)), (1, .ref (G.2.2.2 + asked)), (2, .ref (G.2.2.2 + o))] dX9_agreement_45 rfl 0 rfl (by first | exact nI_1 _ | (simp only [fa_lit, nI_add, pk_mul, nI_1]; rfl)) rfl rfl ?_
        refine vs_goto 18 dX9_agreement_48 rfl ?_
        refine vs_pick [0, 1, 2, 3] rfl ?_
        exact ih (k + 1) (by omega) hr

theorem c_agreement {G : vv_G} {S : vs_S} {asked : Nat} (hse : vs_Se asked) {c : Nat → Nat} (hc : pR S (asked + 1) c) {P : Nat} (hP1 : 2 ≤ P) (hP2 : P ≤ 30011) (hb : ∀ k, c k < P) {la : Nat} (hla : S.1 asked 1 = nI la) (hla2 : la ≤ 40) {o : Nat} (hs : vs_Sh o) (ho : o < 70) {p q : Nat → Nat} (hp : pR S (o + 1) p) (hq : pR S (o + 3) q) (hpb : ∀ k, p k < P) (hqb : ∀ k, q k < P) (hP : S.1 1 0 = nI P) (hns : 77 < asked) {g0 : Nat → Nat} (hg0 : pR S 77 g0) : vs_C G yX9_agreement cX9_agreement 4 (some .int) { frames := 3, locals := 77 } [.ref (G.2.2.2 + 0), .ref (G.2.2.2 + asked), .ref (G.2.2.2 + o)] S (some (.int (nI (agr (ufk p q (ipw (q 0) P) P (la + 1)) c (la + 1) 0)))) (vs_ia S 78 (nA (ufk p q (ipw (q 0) P) P (la + 1)))) := by
  refine vs_of [(0, .ref (G.2.2.2 + 0)), (1, .ref (G.2.2.2 + asked)), (2, .ref (G.2.2.2 + o))] (by decide) rfl rfl ?_
  refine vs_aload_n 2 dX9_agreement_0 rfl rfl 2 rfl ?_
  refine vs_aload_n 0 dX9_agreement_1 rfl rfl 0 rfl ?_
  refine vs_get (v := .ref (G.2.2.2 + 77)) lf_X9_73 rfl rfl dX9_agreement_2 rfl ?_
  refine vs_aload_n 1 dX9_agreement_5 rfl rfl 1 rfl ?_
  refine vs_get (v := .int (nI la)) lf_X9_173 hse.1 (congrArg (fun z => some (Value.int z)) hla) dX9_agreement_6 rfl ?_
  refine vs_aload_n 0 dX9_agreement_9 rfl rfl 0 rfl ?_
  refine vs_get (v := .ref (G.2.2.2 + 1)) lf_X9_12 rfl rfl dX9_agreement_10 rfl ?_
  refine vs_callV (st := []) (c_unfoldInto hs hp hq vs_P77 (by omega) (by omega) hP hP1 hP2 hpb hqb (l := la) (by omega) hg0) lk_X9_295 lm_X7_unfoldInto rfl hs.1 rfl rfl (Nat.le_of_ble_eq_true rfl) rfl ⟨rfl, rfl⟩ dX9_agreement_13 rfl ?_
  refine vs_iconst (v := 0) dX9_agreement_16 rfl rfl ?_
  refine vs_istore_n 3 [(3, .int (0)), (0, .ref (G.2.2.2 + 0)), (1, .ref (G.2.2.2 + asked)), (2, .ref (G.2.2.2 + o))] dX9_agreement_17 rfl rfl rfl rfl ?_
  refine vs_pick (L2 := [(3, .int (nI 0)), (0, .ref (G.2.2.2 + 0)), (1, .ref (G.2.2.2 + asked)), (2, .ref (G.2.2.2 + o))]) [0, 1, 2, 3] rfl ?_
  exact l_agree (S := vs_ia S 78 (nA (ufk p q (ipw (q 0) P) P (la + 1)))) hse ⟨(vs_ia_ne (by omega)).trans hc.1, hc.2⟩ hP1 hP2 hb hla hla2 ⟨vs_ia_at, fun k hk => ufk_z _ k (by omega)⟩ (ufk_b (by omega) _) rfl (la + 1) 0 (by omega) rfl

theorem c_stepDown {G : vv_G} {S : vs_S} {P : Nat} (hP : S.1 1 0 = nI P) (hP1 : 2 ≤ P) (hP2 : P ≤ 30011) {g : Nat → Nat} (hg : pR S 77 g) (hb : ∀ k, g k < P) (h13 : jk S 13) (h15 : jk S 15) {n : Nat} (hn : n ≤ 41) : vs_CP G yX9_stepDown cX9_stepDown 3 none { frames := 3, locals := 77 } [.ref (G.2.2.2 + 0), .ref (G.2.2.2 + 77), .int (nI n)] S (fun r S2 => r = none ∧ vs_fr S S2 [14, 16, 78] ∧ pR S2 77 (fun k => ufk (pcon (g 0)) g (ipw (g 0) P) P (n + 1) (k + 1)) ∧ jk S2 13 ∧ jk S2 15) := by
  refine vs_ofP [(0, .ref (G.2.2.2 + 0)), (1, .ref (G.2.2.2 + 77)), (2, .int (nI n))] (by decide) rfl rfl ?_
  obtain ⟨g13, h13⟩ := h13
  obtain ⟨g15, h15⟩ := h15
  have b0 := hb 0
  have F : vs_fr S S [14, 16, 78] := vs_fr.rf
  refine vs_aload_n 0 dX9_stepDown_0 rfl rfl 0 rfl ?_
  refine vs_get (v := .ref (G.2.2.2 + 12)) lf_X9_46 rfl rfl dX9_stepDown_1 rfl ?_
  refine vs_get (v := .ref (G.2.2.2 + 13)) lf_X9_160 rfl rfl dX9_stepDown_4 rfl ?_
  refine vs_aload_n 1 dX9_stepDown_7 rfl rfl 1 rfl ?_
  refine vs_iconst (v := 0) dX9_stepDown_8 rfl rfl ?_
  refine vs_callV (st := [.ref (G.2.2.2 + 13)]) (c_atN vs_P77 hg (k := 0) (by omega)) lk_X9_186 lm_X3_at rfl rfl rfl rfl (Nat.le_of_ble_eq_true rfl) rfl ⟨rfl, rfl⟩ dX9_stepDown_9 rfl ?_
  show vs_V _ _ _ _ _ (.int (nI (g 0)) :: _) _
  refine vs_callV (st := []) (c_becomeNumber (o := 13) ⟨rfl, rfl⟩ h13 (x := g 0)) lk_X9_192 lm_X3_becomeNumber rfl rfl rfl rfl (Nat.le_of_ble_eq_true rfl) rfl ⟨rfl, rfl⟩ dX9_stepDown_12 rfl ?_
  refine vs_gen (fun T1 e_T1 => ?_)
  have hP : T1.1 1 0 = nI P := by rw [e_T1]; repeat (first | exact hP | rw [vs_ia_ne (by omega)] | rw [vs_sc_ne (by omega)] | rw [vs_sc_nf (by omega)])
  have hg : pR T1 77 g := ⟨by rw [e_T1]; repeat (first | exact hg.1 | rw [vs_ia_ne (by omega)]), hg.2⟩
  have h15 : pR T1 15 g15 := ⟨by rw [e_T1]; repeat (first | exact h15.1 | rw [vs_ia_ne (by omega)]), h15.2⟩
  have F : vs_fr S T1 [14, 16, 78] := by rw [e_T1]; repeat (first | exact F | refine vs_fr.ia ?_ (by simp <;> omega))
  have h13 : pR T1 13 (pcon (g 0)) := ⟨by rw [e_T1]; repeat (first | exact vs_ia_at | rw [vs_ia_ne (by omega)]), (pcon_z _)⟩
  clear e_T1
  refine vs_aload_n 0 dX9_stepDown_15 rfl rfl 0 rfl ?_
  refine vs_get (v := .ref (G.2.2.2 + 12)) lf_X9_46 rfl rfl dX9_stepDown_16 rfl ?_
  refine vs_get (v := .ref (G.2.2.2 + 15)) lf_X9_163 rfl rfl dX9_stepDown_19 rfl ?_
  refine vs_aload_n 1 dX9_stepDown_22 rfl rfl 1 rfl ?_
  refine vs_callV (st := []) (c_become (o := 15) ⟨rfl, rfl⟩ h15 vs_P77 hg) lk_X9_196 lm_X3_become rfl rfl rfl rfl (Nat.le_of_ble_eq_true rfl) rfl ⟨rfl, rfl⟩ dX9_stepDown_23 rfl ?_
  refine vs_gen (fun T2 e_T2 => ?_)
  have hP : T2.1 1 0 = nI P := by rw [e_T2]; repeat (first | exact hP | rw [vs_ia_ne (by omega)] | rw [vs_sc_ne (by omega)] | rw [vs_sc_nf (by omega)])
  have hg : pR T2 77 g := ⟨by rw [e_T2]; repeat (first | exact hg.1 | rw [vs_ia_ne (by omega)]), hg.2⟩
  have F : vs_fr S T2 [14, 16, 78] := by rw [e_T2]; repeat (first | exact F | refine vs_fr.ia ?_ (by simp <;> omega))
  have h13 : pR T2 13 (pcon (g 0)) := ⟨by rw [e_T2]; repeat (first | exact h13.1 | rw [vs_ia_ne (by omega)]), h13.2⟩
  have h15 : pR T2 15 g := ⟨by rw [e_T2]; repeat (first | exact vs_ia_at | rw [vs_ia_ne (by omega)]), hg.2⟩
  clear e_T2
  refine vs_aload_n 0 dX9_stepDown_26 rfl rfl 0 rfl ?_
  refine vs_get (v := .ref (G.2.2.2 + 12)) lf_X9_46 rfl rfl dX9_stepDown_27 rfl ?_
  refine vs_aload_n 1 dX9_stepDown_30 rfl rfl 1 rfl ?_
  refine vs_iload_n 2 dX9_stepDown_31 rfl rfl 2 rfl ?_
  refine vs_aload_n 0 dX9_stepDown_32 rfl rfl 0 rfl ?_
  refine vs_get (v := .ref (G.2.2.2 + 1)) lf_X9_12 rfl rfl dX9_stepDown_33 rfl ?_
  refine vs_callV (st := []) (c_unfoldInto (o := 12) ⟨rfl, ⟨rfl, rfl⟩, ⟨rfl, rfl⟩⟩ h13 h15 vs_P77 (by omega) (by omega) hP hP1 hP2 (pcon_b b0) hb (l := n) (by omega) hg) lk_X9_295 lm_X7_unfoldInto rfl rfl rfl rfl (Nat.le_of_ble_eq_true rfl) rfl ⟨rfl, rfl⟩ dX9_stepDown_36 rfl ?_
  refine vs_gen (fun T3 e_T3 => ?_)
  have hP : T3.1 1 0 = nI P := by rw [e_T3]; repeat (first | exact hP | rw [vs_ia_ne (by omega)] | rw [vs_sc_ne (by omega)] | rw [vs_sc_nf (by omega)])
  have h15 : pR T3 15 g := ⟨by rw [e_T3]; repeat (first | exact h15.1 | rw [vs_ia_ne (by omega)]), h15.2⟩
  have F : vs_fr S T3 [14, 16, 78] := by rw [e_T3]; repeat (first | exact F | refine vs_fr.ia ?_ (by simp <;> omega))
  have h13 : pR T3 13 (pcon (g 0)) := ⟨by rw [e_T3]; repeat (first | exact h13.1 | rw [vs_ia_ne (by omega)]), h13.2⟩
  have hg : pR T3 77 (ufk (pcon (g 0)) g (ipw (g 0) P) P (n + 1)) := ⟨by rw [e_T3]; repeat (first | exact vs_ia_at | rw [vs_ia_ne (by omega)]), (fun k hk => ufk_z _ k (by omega))⟩
  clear e_T3
  refine vs_aload_n 1 dX9_stepDown_39 rfl rfl 1 rfl ?_
  refine vs_callV (st := []) (c_dropLowest vs_P77 hg) lk_X9_226 lm_X3_dropLowest rfl rfl rfl rfl (Nat.le_of_ble_eq_true rfl) rfl ⟨rfl, rfl⟩ dX9_stepDown_40 rfl ?_
  refine vs_gen (fun T4 e_T4 => ?_)
  have hP : T4.1 1 0 = nI P := by rw [e_T4]; repeat (first | exact hP | rw [vs_ia_ne (by omega)] | rw [vs_sc_ne (by omega)] | rw [vs_sc_nf (by omega)])
  have h15 : pR T4 15 g := ⟨by rw [e_T4]; repeat (first | exact h15.1 | rw [vs_ia_ne (by omega)]), h15.2⟩
  have F : vs_fr S T4 [14, 16, 78] := by rw [e_T4]; repeat (first | exact F | refine vs_fr.ia ?_ (by simp <;> omega))
  have h13 : pR T4 13 (pcon (g 0)) := ⟨by rw [e_T4]; repeat (first | exact h13.1 | rw [vs_ia_ne (by omega)]), h13.2⟩
  have hg : pR T4 77 (fun k => ufk (pcon (g 0)) g (ipw (g 0) P) P (n + 1) (k + 1)) := ⟨by rw [e_T4]; repeat (first | exact vs_ia_at | rw [vs_ia_ne (by omega)]), (fun k hk => ufk_z _ (k + 1) (by omega))⟩
  clear e_T4
  exact vs_vretP dX9_stepDown_43 ⟨rfl, F, hg, ⟨_, h13⟩, ⟨_, h15⟩⟩

