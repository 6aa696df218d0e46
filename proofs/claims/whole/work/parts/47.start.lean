/-- the start: what is made, as a state -/
def z_sc : Nat → Nat → Int32 := fun o k => if o = 1 then 30011 else if o = 118 then (if k = 2 then 30011 else 0) else if k = 1 then (if o < 88 then 1 else 0) else 0
def z_ia : Nat → Nat → Int32 := fun o => if o = 11 then upd (nfill (fun _ => 0) 0 42) 0 1 else if o = 16 then upd (nfill (fun _ => 0) 0 42) 0 1 else if o = 133 then upd (fun _ => 0) 0 1 else if o = 120 then upd (upd (upd (upd (fun _ => 0) 0 (-1)) 1 (-1)) 2 (-1)) 3 (-1) else fun _ => 0
def z_rf : Nat → Nat → Option Nat := fun o i => if o = 2 then (if i < 4 then some (80 + 2 * i) else none) else if o = 3 then (if i < 10 then some (88 + 3 * i) else none) else some (30 + i)
def S_0 : vs_S := (z_sc, z_ia, fun _ _ => 0, z_rf)
def z_q (G : vv_G) : Nat → Nat → Option Nat := fun o => if o = 2 then kS G 4 else if o = 3 then kF G 10 else fun j => some (G.2.2.2 + (28 + 1) + 1 + j)
theorem z_qe {G : vv_G} {o : Nat} : z_q G o = vs_rf G.2.2.2 (z_rf o) := by
  funext i
  unfold z_q vs_rf z_rf
  by_cases h2 : o = 2
  · rw [if_pos h2, if_pos h2]
    by_cases hi : i < 4
    · rw [if_pos hi]
      match i, hi with
      | 0, _ => rfl
      | 1, _ => rfl
      | 2, _ => rfl
      | 3, _ => rfl
    · rw [if_neg hi]
      simp only [kS, va_up]
      rw [if_neg (by omega), if_neg (by omega), if_neg (by omega), if_neg (by omega)]; rfl
  · rw [if_neg h2, if_neg h2]
    by_cases h3 : o = 3
    · rw [if_pos h3, if_pos h3]
      by_cases hi : i < 10
      · rw [if_pos hi]
        match i, hi with
        | 0, _ => rfl
        | 1, _ => rfl
        | 2, _ => rfl
        | 3, _ => rfl
        | 4, _ => rfl
        | 5, _ => rfl
        | 6, _ => rfl
        | 7, _ => rfl
        | 8, _ => rfl
        | 9, _ => rfl
      · rw [if_neg hi]
        simp only [kF, va_up]
        rw [if_neg (by omega), if_neg (by omega), if_neg (by omega), if_neg (by omega), if_neg (by omega), if_neg (by omega), if_neg (by omega), if_neg (by omega), if_neg (by omega), if_neg (by omega)]; rfl
    · rw [if_neg h3, if_neg h3]
      show some (G.2.2.2 + (28 + 1) + 1 + i) = some (G.2.2.2 + (30 + i))
      congr 1
      omega
def vs_dx (c : Nat → ClassId) (B : Nat) (S : vs_S) (q : Nat → Nat → Option Nat) (k : Nat) : vs_D → va_E
  | .inl (0, N) => .inl (c 0, N, .inl (S.2.1 k))
  | .inl (1, N) => .inl (c 1, N, .inr (.inl (S.2.2.1 k)))
  | .inl (t, N) => .inl (c t, N, .inr (.inr (.inr (.inr (q k)))))
  | .inr (ci, fds) => .inr (ci, vs_fs B (S.1 k) 0 fds)
theorem vs_dx_e {c : Nat → ClassId} {B : Nat} {S : vs_S} {q : Nat → Nat → Option Nat} {k : Nat} (h : q k = vs_rf B (S.2.2.2 k)) : ∀ d : vs_D, vs_dx c B S q k d = vs_den c B S k d
  | .inl (0, _) => rfl
  | .inl (1, _) => rfl
  | .inl (t + 2, N) => by
    show Sum.inl (c (t + 2), N, Sum.inr (Sum.inr (Sum.inr (Sum.inr (q k))))) = Sum.inl (c (t + 2), N, Sum.inr (Sum.inr (Sum.inr (Sum.inr (vs_rf B (S.2.2.2 k))))))
    rw [h]
  | .inr _ => rfl
def vs_dl (c : Nat → ClassId) (B : Nat) (S : vs_S) (q : Nat → Nat → Option Nat) : Nat → List vs_D → List va_E
  | _, [] => []
  | k, d :: r => vs_dx c B S q k d :: vs_dl c B S q (k + 1) r
theorem vs_dl_at {c : Nat → ClassId} {B : Nat} {S : vs_S} {q : Nat → Nat → Option Nat} : ∀ (T : List vs_D) (k o : Nat), (vs_dl c B S q k T)[o]? = (T[o]?).map (vs_dx c B S q (k + o))
  | [], _, _ => rfl
  | _ :: _, _, 0 => rfl
  | _ :: r, k, o + 1 => by
    show (vs_dl c B S q (k + 1) r)[o]? = (r[o]?).map _
    rw [vs_dl_at r (k + 1) o, show k + 1 + o = k + (o + 1) by omega]
theorem vs_dl_app {c : Nat → ClassId} {B : Nat} {S : vs_S} {q : Nat → Nat → Option Nat} : ∀ (T T' : List vs_D) (k n : Nat), T.length = n → vs_dl c B S q k (T ++ T') = vs_dl c B S q k T ++ vs_dl c B S q (k + n) T'
  | [], _, _, _, h => by subst h; rfl
  | _ :: r, T', k, n, h => by
    subst h
    show _ :: vs_dl c B S q (k + 1) (r ++ T') = _ :: (vs_dl c B S q (k + 1) r ++ _)
    rw [vs_dl_app r T' (k + 1) r.length rfl, show k + 1 + r.length = k + (r.length + 1) by omega]; rfl
theorem z_ia_0 {o : Nat} (h : ¬ o = 11 ∧ ¬ o = 16 ∧ ¬ o = 133 ∧ ¬ o = 120) : z_ia o = fun _ => 0 := by
  unfold z_ia
  rw [if_neg h.1, if_neg h.2.1, if_neg h.2.2.1, if_neg h.2.2.2]
theorem vs_dl_rep {c : Nat → ClassId} {B : Nat} {S : vs_S} {q : Nat → Nat → Option Nat} {K : Nat} : ∀ (n k : Nat), (∀ j, j < n → S.2.1 (k + j) = fun _ => 0) → vs_dl c B S q k (List.replicate n (.inl (0, K))) = List.replicate n (.inl (c 0, K, .inl (fun _ => 0)))
  | 0, _, _ => rfl
  | n + 1, k, h => by
    show Sum.inl (c 0, K, Sum.inl (S.2.1 k)) :: vs_dl c B S q (k + 1) (List.replicate n (.inl (0, K))) = Sum.inl (c 0, K, Sum.inl (fun _ => 0)) :: List.replicate n _
    rw [vs_dl_rep n (k + 1) (fun j hj => by rw [show k + 1 + j = k + (j + 1) by omega]; exact h (j + 1) (by omega)), show S.2.1 k = fun _ => 0 from h 0 (by omega)]
def z_dPts : List vs_D := [.inr (2, [some 5, some 6, none]), .inl (0, 20), .inl (0, 20)]
theorem z_ePts {G : vv_G} : mPts G 4 = vs_dl G.2.2.1 G.2.2.2 S_0 (z_q G) 4 z_dPts := rfl
def z_dSh1 : List vs_D := [.inr (7, [some 8, some 10]), .inr (3, [some 9]), .inl (0, 42), .inr (3, [some 11]), .inl (0, 42)]
theorem z_eSh1 {G : vv_G} : mShr G 7 = vs_dl G.2.2.1 G.2.2.2 S_0 (z_q G) 7 z_dSh1 := rfl
def z_dSh2 : List vs_D := [.inr (7, [some 13, some 15]), .inr (3, [some 14]), .inl (0, 42), .inr (3, [some 16]), .inl (0, 42)]
theorem z_eSh2 {G : vv_G} : mShr G 12 = vs_dl G.2.2.1 G.2.2.2 S_0 (z_q G) 12 z_dSh2 := rfl
def z_dEuc : List vs_D := [.inr (1, [some 18, some 20, some 22, some 24, some 26]), .inr (3, [some 19]), .inl (0, 42), .inr (3, [some 21]), .inl (0, 42), .inr (3, [some 23]), .inl (0, 42), .inr (3, [some 25]), .inl (0, 42), .inr (3, [some 27]), .inl (0, 42)]
theorem z_eEuc {G : vv_G} : mEuc G 17 = vs_dl G.2.2.1 G.2.2.2 S_0 (z_q G) 17 z_dEuc := rfl
def z_dDet : List vs_D := [.inr (0, [some 29]), .inl (4, 40)] ++ List.replicate 40 (.inl (0, 40))
theorem z_eDet {G : vv_G} : mDet G 28 = vs_dl G.2.2.1 G.2.2.2 S_0 (z_q G) 28 z_dDet := by
  unfold z_dDet
  rw [vs_dl_app _ _ 28 2 rfl, vs_dl_rep 40 (28 + 2) (fun j hj => z_ia_0 (by omega))]
  rfl
def z_dRec : List vs_D := [.inr (4, [some 71, some 73, some 75]), .inr (3, [some 72]), .inl (0, 42), .inr (3, [some 74]), .inl (0, 42), .inr (3, [some 76]), .inl (0, 42)]
theorem z_eRec {G : vv_G} : mRec G 70 = vs_dl G.2.2.1 G.2.2.2 S_0 (z_q G) 70 z_dRec := rfl
def z_dPol : List vs_D := [.inr (3, [some 78]), .inl (0, 42)]
theorem z_ePol {G : vv_G} : mPol G 77 = vs_dl G.2.2.1 G.2.2.2 S_0 (z_q G) 77 z_dPol := rfl
def z_dCau : List vs_D := [.inl (0, 6)]
theorem z_eCau {G : vv_G} : [.inl (G.2.2.1 0, 6, .inl (fun _ => 0))] = vs_dl G.2.2.1 G.2.2.2 S_0 (z_q G) 79 z_dCau := rfl
def z_sS : Nat → List vs_D
  | 0 => z_dPts ++ z_dSh1 ++ z_dSh2 ++ z_dEuc ++ z_dDet ++ z_dRec ++ z_dPol ++ z_dCau
  | i + 1 => z_sS i ++ [.inr (8, [some (80 + 2 * i + 1), none, none, none]), .inl (1, 60)]
def z_sF : Nat → List vs_D
  | 0 => z_sS 4
  | i + 1 => z_sF i ++ [.inr (6, [some (88 + 3 * i + 1), none]), .inr (3, [some (88 + 3 * i + 2)]), .inl (0, 42)]
theorem z_sS_0 : (z_sS 0).length = 76 := rfl
theorem z_sS_len : ∀ i, (z_sS i).length = 76 + 2 * i
  | 0 => z_sS_0
  | i + 1 => by
    show (z_sS i ++ _).length = _
    rw [List.length_append, z_sS_len i]; show _ + 2 = _; omega
theorem z_sF_len : ∀ i, (z_sF i).length = 84 + 3 * i
  | 0 => z_sS_len 4
  | i + 1 => by
    show (z_sF i ++ _).length = _
    rw [List.length_append, z_sF_len i]; show _ + 3 = _; omega
theorem z_r0 {G : vv_G} : rS G 0 = vs_dl G.2.2.1 G.2.2.2 S_0 (z_q G) 4 (z_sS 0) := by
  show mPts G 4 ++ mShr G 7 ++ mShr G 12 ++ mEuc G 17 ++ mDet G 28 ++ mRec G 70 ++ mPol G 77 ++ [.inl (G.2.2.1 0, 6, .inl (fun _ => 0))] = vs_dl G.2.2.1 G.2.2.2 S_0 (z_q G) 4 (z_dPts ++ z_dSh1 ++ z_dSh2 ++ z_dEuc ++ z_dDet ++ z_dRec ++ z_dPol ++ z_dCau)
  rw [vs_dl_app _ z_dCau 4 75 rfl, vs_dl_app _ z_dPol 4 73 rfl, vs_dl_app _ z_dRec 4 66 rfl, vs_dl_app _ z_dDet 4 24 rfl, vs_dl_app _ z_dEuc 4 13 rfl, vs_dl_app _ z_dSh2 4 8 rfl, vs_dl_app _ z_dSh1 4 3 rfl, z_ePts, z_eSh1, z_eSh2, z_eEuc, z_eDet, z_eRec, z_ePol, z_eCau]
theorem z_sh {G : vv_G} : ∀ i, i < 4 → mSht G (80 + 2 * i) = vs_dl G.2.2.1 G.2.2.2 S_0 (z_q G) (4 + (76 + 2 * i)) [.inr (8, [some (80 + 2 * i + 1), none, none, none]), .inl (1, 60)]
  | 0, _ => rfl
  | 1, _ => rfl
  | 2, _ => rfl
  | 3, _ => rfl
  | i + 4, h => absurd h (by omega)
theorem z_se {G : vv_G} : ∀ i, i < 10 → mSer G (88 + 3 * i) = vs_dl G.2.2.1 G.2.2.2 S_0 (z_q G) (4 + (84 + 3 * i)) [.inr (6, [some (88 + 3 * i + 1), none]), .inr (3, [some (88 + 3 * i + 2)]), .inl (0, 42)]
  | 0, _ => rfl
  | 1, _ => rfl
  | 2, _ => rfl
  | 3, _ => rfl
  | 4, _ => rfl
  | 5, _ => rfl
  | 6, _ => rfl
  | 7, _ => rfl
  | 8, _ => rfl
  | 9, _ => rfl
  | i + 10, h => absurd h (by omega)
theorem z_rS {G : vv_G} : ∀ i, i ≤ 4 → rS G i = vs_dl G.2.2.1 G.2.2.2 S_0 (z_q G) 4 (z_sS i)
  | 0, _ => z_r0
  | i + 1, h => by
    show rS G i ++ mSht G (80 + 2 * i) = vs_dl G.2.2.1 G.2.2.2 S_0 (z_q G) 4 (z_sS i ++ _)
    rw [vs_dl_app _ _ 4 _ (z_sS_len i), z_rS i (by omega), z_sh i (by omega)]
theorem z_rF {G : vv_G} : ∀ i, i ≤ 10 → rF G i = vs_dl G.2.2.1 G.2.2.2 S_0 (z_q G) 4 (z_sF i)
  | 0, _ => z_rS 4 (Nat.le_refl 4)
  | i + 1, h => by
    show rF G i ++ mSer G (88 + 3 * i) = vs_dl G.2.2.1 G.2.2.2 S_0 (z_q G) 4 (z_sF i ++ _)
    rw [vs_dl_app _ _ 4 _ (z_sF_len i), z_rF i (by omega), z_se i (by omega)]
def z_T1 : List vs_D := [.inr (9, [some 1, some 2, some 3, none, some 4, some 7, some 12, some 17, some 28, some 70, some 77, some 79, none]), .inr (5, [none]), .inl (2, 4), .inl (3, 10)]
def z_T3 : List vs_D := [.inr (10, [none, some 119, none, some 120, some 121, some 122, some 123, none, some 124, some 125, some 126, some 127, some 128, some 129, some 130, some 131, some 132, some 133, some 134, some 135, some 136, some 137, some 138, some 139, some 140, some 141, some 142, some 143, none, some 144, some 145]), .inl (0, 6), .inl (0, 4), .inl (0, 4), .inl (1, 240), .inl (1, 60), .inl (0, 10), .inl (0, 410), .inl (0, 41), .inl (0, 90), .inl (0, 90), .inl (0, 1936), .inl (0, 44), .inl (0, 44), .inl (0, 46), .inl (0, 46), .inl (0, 90), .inl (0, 90), .inl (0, 41), .inl (0, 46), .inl (0, 46), .inl (0, 41), .inl (0, 41), .inl (0, 45), .inl (0, 45), .inl (0, 45), .inl (0, 20), .inl (0, 20)]
theorem z_l1 {G : vv_G} {R : List va_E} : .inr (9, [.ref (G.2.2.2 + 1), .ref (G.2.2.2 + 2), .ref (G.2.2.2 + 3), .int 0, .ref (G.2.2.2 + 4), .ref (G.2.2.2 + 7), .ref (G.2.2.2 + 12), .ref (G.2.2.2 + 17), .ref (G.2.2.2 + 28), .ref (G.2.2.2 + 70), .ref (G.2.2.2 + 77), .ref (G.2.2.2 + 79), .int 0]) :: .inr (5, [.int 30011]) :: .inl (G.2.2.1 2, 4, .inr (.inr (.inr (.inr (kS G 4))))) :: .inl (G.2.2.1 3, 10, .inr (.inr (.inr (.inr (kF G 10))))) :: R = vs_dl G.2.2.1 G.2.2.2 S_0 (z_q G) 0 z_T1 ++ R := rfl
theorem z_l3 {G : vv_G} : mMod G 118 = vs_dl G.2.2.1 G.2.2.2 S_0 (z_q G) 118 z_T3 := rfl
theorem z_T0 : vs_T = z_T1 ++ (z_sF 10 ++ z_T3) := by decide +kernel
theorem z_mC {G : vv_G} : mCls G = vs_dl G.2.2.1 G.2.2.2 S_0 (z_q G) 0 z_T1 ++ vs_dl G.2.2.1 G.2.2.2 S_0 (z_q G) 4 (z_sF 10) := by
  rw [← z_rF 10 (Nat.le_refl 10)]
  unfold mCls
  generalize rF G 10 = R
  exact z_l1
theorem z_list {G : vv_G} : mCls G ++ mMod G 118 = vs_dl G.2.2.1 G.2.2.2 S_0 (z_q G) 0 vs_T := by
  rw [z_T0, vs_dl_app z_T1 _ 0 4 rfl, Nat.zero_add, vs_dl_app (z_sF 10) _ 4 114 (z_sF_len 10), ← List.append_assoc, z_mC, z_l3]
theorem z_lay {G : vv_G} : vl G (mCls G ++ mMod G 118) = vs_lay G S_0 := by
  funext a
  unfold vl vs_lay
  by_cases h : a < G.2.2.2
  · rw [if_pos h, if_pos h]
  · rw [if_neg h, if_neg h, z_list, vs_dl_at, Nat.zero_add]
    congr 1
    funext d
    exact vs_dx_e z_qe d
theorem z_len {G : vv_G} : (mCls G ++ mMod G 118).length = 146 := by
  rw [List.length_append, show (mCls G).length = 118 from vn_l4 (rF_len 10)]; rfl
/-- what the document says of a new object -/
def a_0 : aS := (30011, 0, 0, fun _ => 0, fun _ => 1, fun _ => 0, fun _ => 0, fun _ => 0, fun _ => 0, pcon 0, pcon 1, fun _ _ => 0, fun _ _ => 0, fun _ => 0)
theorem z_G : aG a_0 := ⟨prk_q (by decide) (by decide) (by decide +kernel), show 30011 ≤ 30011 by omega, show 0 ≤ 10 by omega, show 0 ≤ 20 by omega, fun f hf => absurd (show f < 0 from hf) (by omega), fun s _ => ⟨show 1 ≤ 1 by omega, show 0 ≤ 3 by omega, show 0 ≤ 60 by omega⟩, fun f hf => absurd (show f < 0 from hf) (by omega), fun k => ⟨show 0 < 2147483648 by omega, show 0 < 2147483648 by omega⟩, fun f _ hf => absurd (show f < 0 from hf) (by omega), pcon_b (show 0 < 30011 by omega), pcon_b (show 1 < 30011 by omega), fun k hk => if_neg (by omega), fun k hk => if_neg (by omega)⟩
theorem z_p0 (k : Nat) : (0 : Int32) = nI (pcon 0 k) := by
  unfold pcon
  split <;> rfl
theorem z_p1 (k : Nat) : upd (nfill (fun _ => 0) 0 42) 0 1 k = nI (pcon 1 k) := by
  unfold upd pcon
  by_cases h : k = 0
  · rw [if_pos h, if_pos h]; rfl
  · rw [if_neg h, if_neg h]
    unfold nfill
    split <;> rfl
theorem z_p2 (k : Nat) : upd (fun _ => 0) 0 1 k = nI (pcon 1 k) := by
  unfold upd pcon
  by_cases h : k = 0
  · rw [if_pos h, if_pos h]; rfl
  · rw [if_neg h, if_neg h]; rfl
theorem z_pr {o : Nat} (h : S_0.2.1 (o + 1) = fun _ => 0) : pR S_0 o (pcon 0) := ⟨h.trans (funext z_p0), fun k hk => if_neg (by omega)⟩
theorem z_pq {o : Nat} (h : S_0.2.1 (o + 1) = upd (nfill (fun _ => 0) 0 42) 0 1) : pR S_0 o (pcon 1) := ⟨h.trans (funext z_p1), fun k hk => if_neg (by omega)⟩
theorem z_C : CSt S_0 a_0 := by
  refine ⟨⟨rfl, rfl, rfl⟩, ⟨rfl, rfl⟩, ⟨z_pr rfl, z_pq rfl⟩, fun f hf => absurd (show f < 0 from hf) (by omega), fun f hf => ?_, fun s hs => ?_, ⟨rfl, fun c _ _ => rfl⟩, ⟨fun s hs => ?_, fun f hf => ?_, fun i => 30 + i, fun _ _ => 0, fun i hi => ⟨rfl, show 30 ≤ 30 + i by omega, show 30 + i < 70 by omega⟩, fun i j _ _ h => ?_, fun i hi => absurd hi (by omega)⟩, fun o ho => ?_⟩
  · match f, hf with
    | 0, _ => exact ⟨_, z_pr rfl⟩
    | 1, _ => exact ⟨_, z_pr rfl⟩
    | 2, _ => exact ⟨_, z_pr rfl⟩
    | 3, _ => exact ⟨_, z_pr rfl⟩
    | 4, _ => exact ⟨_, z_pr rfl⟩
    | 5, _ => exact ⟨_, z_pr rfl⟩
    | 6, _ => exact ⟨_, z_pr rfl⟩
    | 7, _ => exact ⟨_, z_pr rfl⟩
    | 8, _ => exact ⟨_, z_pr rfl⟩
    | 9, _ => exact ⟨_, z_pr rfl⟩
  · match s, hs with
    | 0, _ => exact ⟨rfl, rfl, rfl, fun _ _ => rfl⟩
    | 1, _ => exact ⟨rfl, rfl, rfl, fun _ _ => rfl⟩
    | 2, _ => exact ⟨rfl, rfl, rfl, fun _ _ => rfl⟩
    | 3, _ => exact ⟨rfl, rfl, rfl, fun _ _ => rfl⟩
  · show (if s < 4 then some (80 + 2 * s) else none) = _
    rw [if_pos hs]
  · show (if f < 10 then some (88 + 3 * f) else none) = _
    rw [if_pos hf]
  · have h : 30 + i = 30 + j := h
    omega
  · simp only [List.mem_cons, List.not_mem_nil, or_false] at ho
    rcases ho with rfl | rfl | rfl | rfl | rfl | rfl | rfl | rfl | rfl | rfl | rfl
    · exact ⟨_, z_pr rfl⟩
    · exact ⟨_, z_pq rfl⟩
    · exact ⟨_, z_pr rfl⟩
    · exact ⟨_, z_pr rfl⟩
    · exact ⟨_, z_pr rfl⟩
    · exact ⟨_, z_pr rfl⟩
    · exact ⟨_, z_pr rfl⟩
    · exact ⟨_, z_pr rfl⟩
    · exact ⟨_, z_pr rfl⟩
    · exact ⟨_, z_pr rfl⟩
    · exact ⟨_, z_pr rfl⟩
theorem z_M : MSt S_0 a_0 := by
  refine ⟨⟨rfl, rfl, rfl, rfl⟩, fun c _ _ => rfl, fun s hs => ?_, fun f hf => absurd (show f < 0 from hf) (by omega), ⟨fun k _ => z_p0 k, fun k _ => z_p2 k⟩, ⟨fun f hf => absurd (show f < 0 from hf) (by omega), fun f hf => absurd (show f < 0 from hf) (by omega)⟩⟩
  match s, hs with
  | 0, _ => exact ⟨rfl, rfl, fun _ _ => rfl⟩
  | 1, _ => exact ⟨rfl, rfl, fun _ _ => rfl⟩
  | 2, _ => exact ⟨rfl, rfl, fun _ _ => rfl⟩
  | 3, _ => exact ⟨rfl, rfl, fun _ _ => rfl⟩
