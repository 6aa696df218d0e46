/-- the start: what is made, as a state -/
def z_sc : Nat → Nat → Int32 := fun o k => if o = 1 then 30011 else if o = 118 then (if k = 2 then 30011 else 0) else if k = 1 then (if o < 88 then 1 else 0) else 0
def z_ia : Nat → Nat → Int32 := fun o => if o = 11 then upd (nfill (fun _ => 0) 0 42) 0 1 else if o = 16 then upd (nfill (fun _ => 0) 0 42) 0 1 else if o = 133 then upd (fun _ => 0) 0 1 else if o = 120 then upd (upd (upd (upd (fun _ => 0) 0 (-1)) 1 (-1)) 2 (-1)) 3 (-1) else fun _ => 0
def z_rf : Nat → Nat → Option Nat := fun o i => if o = 2 then (if i < 4 then some (80 + 2 * i) else none) else if o = 3 then (if i < 10 then some (88 + 3 * i) else none) else some (30 + i)
def S_0 : vs_S := (z_sc, z_ia, fun _ _ => 0, z_rf)
def z_q (G : vv_G) : Nat → Nat → Option Nat := fun o => if o = 2 then kS G 4 else if o = 3 then kF G 10 else fun j => some (G.2.2.2 + (28 + 1) + 1 + j)
theorem z_qe {G : vv_G} {o : Nat} : z_q G o = vs_rf G.2.2.2 (z_rf o) := by
  funext i
  unfold z_q vs_rf z_rf
  by_cases h2 : o = 2
  · rw [if_pos h2, if_pos h2]
    by_cases hi : i < 4
    · rw [if_pos hi]
      match i, hi with
      | 0, _ => rfl
      | 1, _ => rfl
      | 2, _ => rfl
      | 3, _ => rfl
    · rw [if_neg hi]
      simp only [kS, va_up]
      rw [if_neg (by omega), if_neg (by omega), if_neg (by omega), if_neg (by omega)]; rfl
  · rw [if_neg h2, if_neg h2]
    by_cases h3 : o = 3
    · rw [if_pos h3, if_pos h3]
      by_cases hi : i < 10
      · rw [if_pos hi]
        match i, hi with
        | 0, _ => rfl
        | 1, _ => rfl
        | 2, _ => rfl
        | 3, _ => rfl
        | 4, _ => rfl
        | 5, _ => rfl
        | 6, _ => rfl
        | 7, _ => rfl
        | 8, _ => rfl
        | 9, _ => rfl
      · rw [if_neg hi]
        simp only [kF, va_up]
        rw [if_neg (by omega), if_neg (by omega), if_neg (by omega), if_neg (by omega), if_neg (by omega), if_neg (by omega), if_neg (by omega), if_neg (by omega), if_neg (by omega), if_neg (by omega)]; rfl
    · rw [if_neg h3, if_neg h3]
      show some _ = some _
      congr 1
      omega
def vs_dx (c : Nat → ClassId) (B : Nat) (S : vs_S) (q : Nat → Nat → Option Nat) (k : Nat) : vs_D → va_E
  | .inl (0, N) => .inl (c 0, N, .inl (S.2.1 k))
  | .inl (1, N) => .inl (c 1, N, .inr (.inl (S.2.2.1 k)))
  | .inl (t, N) => .inl (c t, N, .inr (.inr (.inr (.inr (q k)))))
  | .inr (ci, fds) => .inr (ci, vs_fs B (S.1 k) 0 fds)
theorem vs_dx_e {c : Nat → ClassId} {B : Nat} {S : vs_S} {q : Nat → Nat → Option Nat} {k : Nat} (h : q k = vs_rf B (S.2.2.2 k)) (d : vs_D) : vs_dx c B S q k d = vs_den c B S k d := by
  unfold vs_dx vs_den
  split <;> first | rfl | rw [h]
def vs_dl (c : Nat → ClassId) (B : Nat) (S : vs_S) (q : Nat → Nat → Option Nat) : Nat → List vs_D → List va_E
  | _, [] => []
  | k, d :: r => vs_dx c B S q k d :: vs_dl c B S q (k + 1) r
theorem vs_dl_at {c : Nat → ClassId} {B : Nat} {S : vs_S} {q : Nat → Nat → Option Nat} : ∀ (T : List vs_D) (k o : Nat), (vs_dl c B S q k T)[o]? = (T[o]?).map (vs_dx c B S q (k + o))
  | [], _, _ => rfl
  | _ :: _, _, 0 => rfl
  | _ :: r, k, o + 1 => by
    show (vs_dl c B S q (k + 1) r)[o]? = (r[o]?).map _
    rw [vs_dl_at r (k + 1) o, show k + 1 + o = k + (o + 1) by omega]
def z_T1 : List vs_D := vs_T.take 4
def z_T2 : List vs_D := (vs_T.drop 4).take 114
def z_T3 : List vs_D := vs_T.drop 118
theorem vs_dl_app {c : Nat → ClassId} {B : Nat} {S : vs_S} {q : Nat → Nat → Option Nat} : ∀ (T T' : List vs_D) (k n : Nat), T.length = n → vs_dl c B S q k (T ++ T') = vs_dl c B S q k T ++ vs_dl c B S q (k + n) T'
  | [], _, _, _, h => by subst h; rfl
  | _ :: r, T', k, n, h => by
    subst h
    show _ :: vs_dl c B S q (k + 1) (r ++ T') = _ :: (vs_dl c B S q (k + 1) r ++ _)
    rw [vs_dl_app r T' (k + 1) r.length rfl, show k + 1 + r.length = k + (r.length + 1) by omega]; rfl
set_option maxRecDepth 100000 in
theorem z_l1 {G : vv_G} : mCls G = vs_dl G.2.2.1 G.2.2.2 S_0 (z_q G) 0 z_T1 ++ rF G 10 := rfl
set_option maxRecDepth 100000 in
theorem z_l2 {G : vv_G} : rF G 10 = vs_dl G.2.2.1 G.2.2.2 S_0 (z_q G) 4 z_T2 := rfl
set_option maxRecDepth 100000 in
theorem z_l3 {G : vv_G} : mMod G 118 = vs_dl G.2.2.1 G.2.2.2 S_0 (z_q G) 118 z_T3 := rfl
theorem z_T0 : vs_T = z_T1 ++ (z_T2 ++ z_T3) := rfl
theorem z_list {G : vv_G} : mCls G ++ mMod G 118 = vs_dl G.2.2.1 G.2.2.2 S_0 (z_q G) 0 vs_T := by
  rw [z_T0, vs_dl_app z_T1 _ 0 4 rfl, vs_dl_app z_T2 _ (0 + 4) 114 rfl, z_l1, z_l2, z_l3, List.append_assoc]
theorem z_lay {G : vv_G} : vl G (mCls G ++ mMod G 118) = vs_lay G S_0 := by
  funext a
  unfold vl vs_lay
  by_cases h : a < G.2.2.2
  · rw [if_pos h, if_pos h]
  · rw [if_neg h, if_neg h, z_list, vs_dl_at, Nat.zero_add]
    congr 1
    funext d
    exact vs_dx_e z_qe d
theorem z_len {G : vv_G} : (mCls G ++ mMod G 118).length = 146 := by
  rw [List.length_append, show (mCls G).length = 118 from vn_l4 (rF_len 10)]; rfl
/-- what the document says of a new object -/
def a_0 : aS := (30011, 0, 0, fun _ => 0, fun _ => 1, fun _ => 0, fun _ => 0, fun _ => 0, fun _ => 0, pcon 0, pcon 1, fun _ _ => 0, fun _ _ => 0, fun _ => 0)
theorem z_G : aG a_0 := ⟨prk_q (by decide) (by decide) (by decide +kernel), show 30011 ≤ 30011 by omega, show 0 ≤ 10 by omega, show 0 ≤ 20 by omega, fun f hf => absurd (show f < 0 from hf) (by omega), fun s _ => ⟨show 1 ≤ 1 by omega, show 0 ≤ 3 by omega, show 0 ≤ 60 by omega⟩, fun f hf => absurd (show f < 0 from hf) (by omega), fun k => ⟨show 0 < 2147483648 by omega, show 0 < 2147483648 by omega⟩, fun f _ hf => absurd (show f < 0 from hf) (by omega), pcon_b (show 0 < 30011 by omega), pcon_b (show 1 < 30011 by omega), fun k hk => if_neg (by omega), fun k hk => if_neg (by omega)⟩
theorem z_p0 (k : Nat) : (0 : Int32) = nI (pcon 0 k) := by
  unfold pcon
  split <;> rfl
theorem z_p1 (k : Nat) : upd (nfill (fun _ => 0) 0 42) 0 1 k = nI (pcon 1 k) := by
  unfold upd pcon
  by_cases h : k = 0
  · rw [if_pos h, if_pos h]; rfl
  · rw [if_neg h, if_neg h]
    unfold nfill
    split <;> rfl
theorem z_p2 (k : Nat) : upd (fun _ => 0) 0 1 k = nI (pcon 1 k) := by
  unfold upd pcon
  by_cases h : k = 0
  · rw [if_pos h, if_pos h]; rfl
  · rw [if_neg h, if_neg h]; rfl
theorem z_pr {o : Nat} (h : S_0.2.1 (o + 1) = fun _ => 0) : pR S_0 o (pcon 0) := ⟨h.trans (funext z_p0), fun k hk => if_neg (by omega)⟩
theorem z_pq {o : Nat} (h : S_0.2.1 (o + 1) = upd (nfill (fun _ => 0) 0 42) 0 1) : pR S_0 o (pcon 1) := ⟨h.trans (funext z_p1), fun k hk => if_neg (by omega)⟩
theorem z_C : CSt S_0 a_0 := by
  refine ⟨⟨rfl, rfl, rfl⟩, ⟨rfl, rfl⟩, ⟨z_pr rfl, z_pq rfl⟩, fun f hf => absurd (show f < 0 from hf) (by omega), fun f hf => ?_, fun s hs => ?_, ⟨rfl, fun c _ _ => rfl⟩, ⟨fun s hs => ?_, fun f hf => ?_, fun i => 30 + i, fun _ _ => 0, fun i hi => ⟨rfl, by omega, by omega⟩, fun i j _ _ h => ?_, fun i hi => absurd hi (by omega)⟩, fun o ho => ?_⟩
  · match f, hf with
    | 0, _ => exact ⟨_, z_pr rfl⟩
    | 1, _ => exact ⟨_, z_pr rfl⟩
    | 2, _ => exact ⟨_, z_pr rfl⟩
    | 3, _ => exact ⟨_, z_pr rfl⟩
    | 4, _ => exact ⟨_, z_pr rfl⟩
    | 5, _ => exact ⟨_, z_pr rfl⟩
    | 6, _ => exact ⟨_, z_pr rfl⟩
    | 7, _ => exact ⟨_, z_pr rfl⟩
    | 8, _ => exact ⟨_, z_pr rfl⟩
    | 9, _ => exact ⟨_, z_pr rfl⟩
  · match s, hs with
    | 0, _ => exact ⟨rfl, rfl, rfl, fun _ _ => rfl⟩
    | 1, _ => exact ⟨rfl, rfl, rfl, fun _ _ => rfl⟩
    | 2, _ => exact ⟨rfl, rfl, rfl, fun _ _ => rfl⟩
    | 3, _ => exact ⟨rfl, rfl, rfl, fun _ _ => rfl⟩
  · show (if s < 4 then some (80 + 2 * s) else none) = _
    rw [if_pos hs]
  · show (if f < 10 then some (88 + 3 * f) else none) = _
    rw [if_pos hf]
  · have h : 30 + i = 30 + j := h
    omega
  · simp only [List.mem_cons, List.not_mem_nil, or_false] at ho
    rcases ho with rfl | rfl | rfl | rfl | rfl | rfl | rfl | rfl | rfl | rfl | rfl
    · exact ⟨_, z_pr rfl⟩
    · exact ⟨_, z_pq rfl⟩
    · exact ⟨_, z_pr rfl⟩
    · exact ⟨_, z_pr rfl⟩
    · exact ⟨_, z_pr rfl⟩
    · exact ⟨_, z_pr rfl⟩
    · exact ⟨_, z_pr rfl⟩
    · exact ⟨_, z_pr rfl⟩
    · exact ⟨_, z_pr rfl⟩
    · exact ⟨_, z_pr rfl⟩
    · exact ⟨_, z_pr rfl⟩
theorem z_M : MSt S_0 a_0 := by
  refine ⟨⟨rfl, rfl, rfl, rfl⟩, fun c _ _ => rfl, fun s hs => ?_, fun f hf => absurd (show f < 0 from hf) (by omega), ⟨fun k _ => z_p0 k, fun k _ => z_p2 k⟩, ⟨fun f hf => absurd (show f < 0 from hf) (by omega), fun f hf => absurd (show f < 0 from hf) (by omega)⟩⟩
  match s, hs with
  | 0, _ => exact ⟨rfl, rfl, fun _ _ => rfl⟩
  | 1, _ => exact ⟨rfl, rfl, fun _ _ => rfl⟩
  | 2, _ => exact ⟨rfl, rfl, fun _ _ => rfl⟩
  | 3, _ => exact ⟨rfl, rfl, fun _ _ => rfl⟩
