/-! making objects and arrays -/
def nwO (K : mH) (ci m : Nat) : Option (Nat × mH) := if K.2.length < oB then some (K.2.length, mad K m (.inr (ci, (List.range m).map (fun j => defaultValue (mTy ci j))))) else none
def nwV (K : mH) (t : ArrayType) (n : Int32) : Option (Nat × mH) := match mArS t with
  | some (s, f) => if ¬ n < 0 ∧ n.toNatClampNeg ≤ 1000000 ∧ K.2.length < oB then some (K.2.length, mad K n.toNatClampNeg (.inl (s, f n.toNatClampNeg))) else none
  | none => none
def nwR (K : mH) (s : Nat) (n : Int32) : Option (Nat × mH) := if ¬ n < 0 ∧ n.toNatClampNeg ≤ 1000000 ∧ K.2.length < oB then some (K.2.length, mad K n.toNatClampNeg (.inl (s, n.toNatClampNeg, .inr (.inr (.inr (.inr (fun _ => none))))))) else none
section NW
variable {O : mO} {d : Nat} {M : mM} {pc : Nat} {ls : List (Option Value)} {st : List Value} {K : mH} {P : Option Value → mH → Prop}
theorem q_new {k ci m : Nat} {p : Nat × mH} (hd : decode M.2.1 pc = .ok (.new k, 3)) (hk : mNew M.1.cls k = some (ci, m)) (h : nwO K ci m = some p) (kk : Go O d M (pc + 3) ls (.ref p.1 :: st) p.2 P) : Go O d M pc ls st K P := by
  refine g_s hd ?_ kk
  unfold nwO at h
  delta mStep
  dsimp only
  rw [hk]
  dsimp only
  split at h
  · rename_i c
    cases h
    rw [if_pos ⟨rfl, c⟩]
  · cases h
theorem q_newa {t : ArrayType} {n : Int32} {p : Nat × mH} (hd : decode M.2.1 pc = .ok (.newarray t, 2)) (h : nwV K t n = some p) (kk : Go O d M (pc + 2) ls (.ref p.1 :: st) p.2 P) : Go O d M pc ls (.int n :: st) K P := by
  refine g_s hd ?_ kk
  unfold nwV at h
  delta mStep
  dsimp only
  split at h
  · rename_i s f e
    try rw [e]
    try dsimp only
    split at h
    · rename_i c
      cases h
      rw [if_pos ⟨rfl, c⟩]
    · cases h
  · cases h
theorem q_anew {k s : Nat} {n : Int32} {p : Nat × mH} (hd : decode M.2.1 pc = .ok (.anewarray k, 3)) (hk : mNewA M.1.cls k = some s) (h : nwR K s n = some p) (kk : Go O d M (pc + 3) ls (.ref p.1 :: st) p.2 P) : Go O d M pc ls (.int n :: st) K P := by
  refine g_s hd ?_ kk
  unfold nwR at h
  delta mStep
  dsimp only
  rw [hk]
  dsimp only
  split at h
  · rename_i c
    cases h
    rw [if_pos ⟨rfl, c⟩]
  · cases h
end NW
section NH
variable {u n : Nat} {T : Nat → mT} {I : Nat → Nat → Int32} {J : Nat → Nat → Int64} {R : Nat → Nat → Option Nat}
/-- a new cell: all nought -/
theorem nwO_hp {ci m : Nat} {ks : List Nat} (hn : n < oB) (hdef : (List.range m).map (fun j => defaultValue (mTy ci j)) = ks.mapIdx (fun q kd => celV q kd zI zJ zR)) : nwO (hp u n T I J R) ci m = some (n, hp (u + m) (n + 1) (va_up T n (100 + ci, ks)) (up1 I n zI) (up1 J n zJ) (up1 R n zR)) := by
  unfold nwO
  rw [hp_len, if_pos hn, hdef, hp_add (cel_o ci ks zI zJ zR)]
theorem nwV_hp {t : ArrayType} {s N : Nat} {f : Nat → vp_A} (hs : mArS t = some (s, f)) (hN : N ≤ 1000000) (hn : n < oB) (hc : cel (s, [N]) zI zJ zR = .inl (s, f N)) : nwV (hp u n T I J R) t (nI N) = some (n, hp (u + N) (n + 1) (va_up T n (s, [N])) (up1 I n zI) (up1 J n zJ) (up1 R n zR)) := by
  have e : (nI N).toNatClampNeg = N := nI_clamp (by omega)
  unfold nwV
  rw [hs]
  dsimp only
  rw [hp_len, e, if_pos ⟨nI_pos (by omega), hN, hn⟩, hp_add hc]
theorem nwV_i {N : Nat} (hN : N ≤ 1000000) (hn : n < oB) : nwV (hp u n T I J R) .int (nI N) = some (n, hp (u + N) (n + 1) (va_up T n (0, [N])) (up1 I n zI) (up1 J n zJ) (up1 R n zR)) := nwV_hp rfl hN hn rfl
theorem nwV_j {N : Nat} (hN : N ≤ 1000000) (hn : n < oB) : nwV (hp u n T I J R) .long (nI N) = some (n, hp (u + N) (n + 1) (va_up T n (1, [N])) (up1 I n zI) (up1 J n zJ) (up1 R n zR)) := nwV_hp rfl hN hn rfl
theorem nwV_b {N : Nat} (hN : N ≤ 1000000) (hn : n < oB) : nwV (hp u n T I J R) .byte (nI N) = some (n, hp (u + N) (n + 1) (va_up T n (2, [N])) (up1 I n zI) (up1 J n zJ) (up1 R n zR)) := nwV_hp rfl hN hn rfl
theorem nwV_z {N : Nat} (hN : N ≤ 1000000) (hn : n < oB) : nwV (hp u n T I J R) .boolean (nI N) = some (n, hp (u + N) (n + 1) (va_up T n (3, [N])) (up1 I n zI) (up1 J n zJ) (up1 R n zR)) := nwV_hp rfl hN hn rfl
theorem nwR_hp {s N : Nat} (h45 : s = 4 ∨ s = 5) (hN : N ≤ 1000000) (hn : n < oB) : nwR (hp u n T I J R) s (nI N) = some (n, hp (u + N) (n + 1) (va_up T n (s, [N])) (up1 I n zI) (up1 J n zJ) (up1 R n zR)) := by
  have e : (nI N).toNatClampNeg = N := nI_clamp (by omega)
  unfold nwR
  rw [hp_len, e, if_pos ⟨nI_pos (by omega), hN, hn⟩, hp_add (show cel (s, [N]) zI zJ zR = .inl (s, N, .inr (.inr (.inr (.inr (fun _ => none))))) by rcases h45 with rfl | rfl <;> rfl)]
end NH
