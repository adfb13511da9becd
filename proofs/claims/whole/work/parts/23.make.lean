/-! rows of making and copying -/
section ROWS3
variable {O : mO} {d : Nat} {M : mM} {pc : Nat} {ls : List (Option Value)} {st : List Value} {P : Option Value → mH → Prop} {u n : Nat} {T : Nat → mT} {I : Nat → Nat → Int32} {J : Nat → Nat → Int64} {R : Nat → Nat → Option Nat}
abbrev zI : Nat → Int32 := fun _ => 0
abbrev zJ : Nat → Int64 := fun _ => 0
abbrev zR : Nat → Option Nat := fun _ => none
theorem g_new {k ci m : Nat} {ks : List Nat} (hd : decode M.2.1 pc = .ok (.new k, 3)) (hk : mNew M.1.cls k = some (ci, m)) (hn : n < oB) (hdef : (List.range m).map (fun j => defaultValue (mTy ci j)) = ks.mapIdx (fun q kd => celV q kd zI zJ zR))
    (kk : Go O d M (pc + 3) ls (.ref n :: st) (hp (u + m) (n + 1) (va_up T n (100 + ci, ks)) (up1 I n zI) (up1 J n zJ) (up1 R n zR)) P) : Go O d M pc ls st (hp u n T I J R) P := by
  rw [← hp_add (m := m) (cel_o ci ks zI zJ zR)] at kk
  refine g_s hd ?_ kk
  delta mStep
  dsimp only
  rw [hk]
  dsimp only
  rw [hp_len, if_pos ⟨rfl, hn⟩, hdef]
theorem g_newa {t : ArrayType} {s N : Nat} {f : Nat → vp_A} {i : Int32} (hd : decode M.2.1 pc = .ok (.newarray t, 2)) (hs : mArS t = some (s, f)) (hi : i = nI N) (hN : N ≤ 1000000) (hn : n < oB) (hc : cel (s, [N]) zI zJ zR = .inl (s, f N))
    (kk : Go O d M (pc + 2) ls (.ref n :: st) (hp (u + N) (n + 1) (va_up T n (s, [N])) (up1 I n zI) (up1 J n zJ) (up1 R n zR)) P) : Go O d M pc ls (.int i :: st) (hp u n T I J R) P := by
  rw [← hp_add (m := N) hc] at kk
  refine g_s hd ?_ kk
  subst hi
  have e : (nI N).toNatClampNeg = N := nI_clamp (by omega)
  delta mStep
  dsimp only
  rw [hs]
  dsimp only
  rw [hp_len, e, if_pos ⟨rfl, nI_pos (by omega), hN, hn⟩]
theorem g_anew {k s N : Nat} {i : Int32} (hd : decode M.2.1 pc = .ok (.anewarray k, 3)) (hs : mNewA M.1.cls k = some s) (h45 : s = 4 ∨ s = 5) (hi : i = nI N) (hN : N ≤ 1000000) (hn : n < oB)
    (kk : Go O d M (pc + 3) ls (.ref n :: st) (hp (u + N) (n + 1) (va_up T n (s, [N])) (up1 I n zI) (up1 J n zJ) (up1 R n zR)) P) : Go O d M pc ls (.int i :: st) (hp u n T I J R) P := by
  rw [← hp_add (m := N) (e := .inl (s, N, .inr (.inr (.inr (.inr (fun _ => none)))))) (by rcases h45 with rfl | rfl <;> rfl)] at kk
  refine g_s hd ?_ kk
  subst hi
  have e : (nI N).toNatClampNeg = N := nI_clamp (by omega)
  delta mStep
  dsimp only
  rw [hs]
  dsimp only
  rw [hp_len, e, if_pos ⟨rfl, nI_pos (by omega), hN, hn⟩]
def cpI (I : Nat → Nat → Int32) (a b sp dp m : Nat) : Nat → Nat → Int32 := up1 I a (va_cpy (I b) (I a) sp dp m)
theorem g_cpy {k a b n0 n1 sp dp m : Nat} {isp idp im : Int32} (hd : decode M.2.1 pc = .ok (.invokestatic k, 3)) (hl : mLnk M.1.cls k = some (arraycopyName, none)) (hTa : T a = (0, [n1])) (hTb : T b = (0, [n0])) (h1 : isp = nI sp) (h2 : idp = nI dp) (h3 : im = nI m) (h4 : sp + m ≤ n0) (h5 : dp + m ≤ n1) (h6 : n0 < 2 ^ 31) (h7 : n1 < 2 ^ 31) (hs : mSum st ≤ 8) (ha : a < n) (hb : b < n) (hn : n ≤ oB)
    (kk : Go O d M (pc + 3) ls st (hp u n T (cpI I a b sp dp m) J R) P) : Go O d M pc ls (.int im :: .int idp :: .ref a :: .int isp :: .ref b :: st) (hp u n T I J R) P := by
  subst h1 h2 h3
  have e1 : (nI sp).toNatClampNeg = sp := nI_clamp (by omega)
  have e2 : (nI dp).toNatClampNeg = dp := nI_clamp (by omega)
  have e3 : (nI m).toNatClampNeg = m := nI_clamp (by omega)
  refine g_p (pc' := pc + 3) (ls' := ls) (st' := st) (K' := mpt (hp u n T I J R) a (.inl (0, n1, .inl (va_cpy (I b) (I a) sp dp m)))) hd ?_ ?_
  · delta mPrm
    dsimp only
    rw [hp_get ha, hp_get hb, hTa, hTb, show cel (0, [n1]) (I a) (J a) (R a) = .inl (0, n1, .inl (I a)) from rfl, show cel (0, [n0]) (I b) (J b) (R b) = .inl (0, n0, .inl (I b)) from rfl]
    show (if 3 = 3 ∧ mLnk M.1.cls k = some (arraycopyName, none) ∧ a < oB ∧ b < oB ∧ mSum st ≤ 8 ∧ ¬ nI sp < 0 ∧ ¬ nI dp < 0 ∧ ¬ nI m < 0 ∧ (nI sp).toNatClampNeg + (nI m).toNatClampNeg ≤ n0 ∧ (nI dp).toNatClampNeg + (nI m).toNatClampNeg ≤ n1 then _ else none) = _
    rw [e1, e2, e3, if_pos ⟨rfl, hl, Nat.lt_of_lt_of_le ha hn, Nat.lt_of_lt_of_le hb hn, hs, nI_pos (by omega), nI_pos (by omega), nI_pos (by omega), h4, h5⟩]
  · rw [hp_up (I' := cpI I a b sp dp m) (J' := J) (R' := R) (by rw [hTa]; unfold cpI up1; rw [if_pos rfl]; rfl) (fun c hc => ⟨by unfold cpI up1; rw [if_neg hc], rfl, rfl⟩)]
    exact kk
end ROWS3
