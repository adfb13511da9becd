/-! methods as functions, by gen50.py -/
noncomputable def F_X5_add_j37 (O : mO) (d : Nat) (v0 : Nat) (K : mH) : Option (Int32 × mH) :=
  (gtI K v0 5 2).bind fun x6 =>
  some ((x6 - (nI 1)), K)
theorem e_X5_add_j37 {O : mO} {d : Nat} {v0 : Nat} {K : mH} {P : Option Value → mH → Prop} {x : Int32 × mH} (hret : ∀ (r : Int32) (K' : mH), (r, K') = x → P (some (.int r)) K') (h : F_X5_add_j37 O d v0 K = some x) : Go O (d + 1) MX5_add 37 [some (.ref v0), none, none] [] K P := by
  unfold F_X5_add_j37 at h
  refine g_aload_n dX5_add_37 rfl ?_
  obtain ⟨x6, ex6, h⟩ := bs h
  refine q_getI dX5_add_38 fX5_7 ex6 ?_
  refine g_iconst (v := (nI 1)) dX5_add_41 (by decide) ?_
  refine g_isub dX5_add_42 ?_
  exact g_ireturn dX5_add_43 rfl (by first | rfl | decide) (hret _ _ (Option.some.inj h))
noncomputable def F_X5_add (O : mO) (d : Nat) (a0 : Nat) (a1 : Int32) (a2 : Int32) (K : mH) : Option (Int32 × mH) :=
  (gtI K a0 5 2).bind fun x1 =>
  (gtA K a0 5 0).bind fun x2 =>
  (lnA O K x2).bind fun x3 =>
  if x3 ≤ x1 then
    F_X5_add_j37 O d a0 K
  else
    (gtA K a0 5 0).bind fun x7 =>
    (gtI K a0 5 2).bind fun x8 =>
    (wrI K x7 x8 (a1 + ((nI 16) * a2))).bind fun K9 =>
    (gtI K9 a0 5 2).bind fun x10 =>
    (ptI K9 a0 5 2 (x10 + (nI 1))).bind fun K11 =>
    F_X5_add_j37 O d a0 K11
theorem e_X5_add {O : mO} {d : Nat} {a0 : Nat} {a1 : Int32} {a2 : Int32} {K : mH} {r0 : Int32} {K0 : mH} (h : F_X5_add O d a0 a1 a2 K = some (r0, K0)) : ev O (d + 1) MX5_add [.ref a0, .int a1, .int a2] K = some (some (.int r0), K0) := by
  refine Rn_evx ?_
  show Go O (d + 1) MX5_add 0 [some (.ref a0), some (.int a1), some (.int a2)] [] K _
  generalize hP : (fun (r : Option Value) (K' : mH) => (r, K') = (some (.int r0), K0)) = P
  have hret : ∀ (r : Int32) (K' : mH), (r, K') = (r0, K0) → P (some (.int r)) K' := by
    intro r K' e
    cases e
    subst hP
    rfl
  clear hP
  unfold F_X5_add at h
  refine g_aload_n dX5_add_0 rfl ?_
  obtain ⟨x1, ex1, h⟩ := bs h
  refine q_getI dX5_add_1 fX5_7 ex1 ?_
  refine g_aload_n dX5_add_4 rfl ?_
  obtain ⟨x2, ex2, h⟩ := bs h
  refine q_getA dX5_add_5 fX5_22 ex2 ?_
  obtain ⟨x3, ex3, h⟩ := bs h
  refine q_alen dX5_add_8 ex3 ?_
  refine g_ic_ge (t := 37) dX5_add_9 (by decide) (fun c5 => ?_) (fun c5 => ?_)
  · rw [if_pos c5] at h
    refine Go_le ?_ (e_X5_add_j37 hret h)
    exact And.intro rfl (trivial)
  · rw [if_neg c5] at h
    refine g_aload_n dX5_add_12 rfl ?_
    obtain ⟨x7, ex7, h⟩ := bs h
    refine q_getA dX5_add_13 fX5_22 ex7 ?_
    refine g_aload_n dX5_add_16 rfl ?_
    obtain ⟨x8, ex8, h⟩ := bs h
    refine q_getI dX5_add_17 fX5_7 ex8 ?_
    refine g_iload_n dX5_add_20 rfl ?_
    refine g_bipush (v := (nI 16)) dX5_add_21 (by decide) ?_
    refine g_iload_n dX5_add_23 rfl ?_
    refine g_imul dX5_add_24 ?_
    refine g_iadd dX5_add_25 ?_
    obtain ⟨K9, eK9, h⟩ := bs h
    refine q_iast dX5_add_26 eK9 ?_
    refine g_aload_n dX5_add_27 rfl ?_
    refine g_dup dX5_add_28 (by first | rfl | exact vrf_cat _) ?_
    obtain ⟨x10, ex10, h⟩ := bs h
    refine q_getI dX5_add_29 fX5_7 ex10 ?_
    refine g_iconst (v := (nI 1)) dX5_add_32 (by decide) ?_
    refine g_iadd dX5_add_33 ?_
    obtain ⟨K11, eK11, h⟩ := bs h
    refine q_put (c := (RX5, TX5, 4)) dX5_add_34 fX5_7 rfl rfl rfl (fun h => absurd h (by decide)) eK11 ?_
    refine Go_le ?_ (e_X5_add_j37 hret h)
    exact And.intro rfl (trivial)
noncomputable def F_X5_aim (O : mO) (d : Nat) (a0 : Nat) (a1 : Int32) (K : mH) : Option (mH) :=
  if a1 < 0 then
    some K
  else
    (gtI K a0 5 2).bind fun x3 =>
    if x3 ≤ a1 then
      some K
    else
      (gtA K a0 5 0).bind fun x6 =>
      (gtA K a0 5 0).bind fun x7 =>
      (rdI O K x7 a1).bind fun x8 =>
      (gtI K a0 5 2).bind fun x9 =>
      (wrI K x6 a1 ((x8 &&& (nI 15)) + ((nI 16) * x9))).bind fun K10 =>
      some K10
theorem e_X5_aim {O : mO} {d : Nat} {a0 : Nat} {a1 : Int32} {K : mH} {x : mH} (h : F_X5_aim O d a0 a1 K = some x) : ev O (d + 1) MX5_aim [.ref a0, .int a1] K = some (none, x) := by
  refine Rn_evx ?_
  show Go O (d + 1) MX5_aim 0 [some (.ref a0), some (.int a1)] [] K _
  generalize hP : (fun (r : Option Value) (K' : mH) => (r, K') = (none, x)) = P
  have hret : ∀ K' : mH, K' = x → P none K' := by
    intro K' e
    subst hP e
    rfl
  clear hP
  unfold F_X5_aim at h
  refine g_iload_n dX5_aim_0 rfl ?_
  refine g_if_lt (t := 35) dX5_aim_1 (by decide) (fun c2 => ?_) (fun c2 => ?_)
  · rw [if_pos c2] at h
    exact g_return dX5_aim_35 rfl (hret _ (Option.some.inj h))
  · rw [if_neg c2] at h
    refine g_iload_n dX5_aim_4 rfl ?_
    refine g_aload_n dX5_aim_5 rfl ?_
    obtain ⟨x3, ex3, h⟩ := bs h
    refine q_getI dX5_aim_6 fX5_7 ex3 ?_
    refine g_ic_ge (t := 35) dX5_aim_9 (by decide) (fun c5 => ?_) (fun c5 => ?_)
    · rw [if_pos c5] at h
      exact g_return dX5_aim_35 rfl (hret _ (Option.some.inj h))
    · rw [if_neg c5] at h
      refine g_aload_n dX5_aim_12 rfl ?_
      obtain ⟨x6, ex6, h⟩ := bs h
      refine q_getA dX5_aim_13 fX5_22 ex6 ?_
      refine g_iload_n dX5_aim_16 rfl ?_
      refine g_aload_n dX5_aim_17 rfl ?_
      obtain ⟨x7, ex7, h⟩ := bs h
      refine q_getA dX5_aim_18 fX5_22 ex7 ?_
      refine g_iload_n dX5_aim_21 rfl ?_
      obtain ⟨x8, ex8, h⟩ := bs h
      refine q_iald dX5_aim_22 ex8 ?_
      refine g_bipush (v := (nI 15)) dX5_aim_23 (by decide) ?_
      refine g_iand dX5_aim_25 ?_
      refine g_bipush (v := (nI 16)) dX5_aim_26 (by decide) ?_
      refine g_aload_n dX5_aim_28 rfl ?_
      obtain ⟨x9, ex9, h⟩ := bs h
      refine q_getI dX5_aim_29 fX5_7 ex9 ?_
      refine g_imul dX5_aim_32 ?_
      refine g_iadd dX5_aim_33 ?_
      obtain ⟨K10, eK10, h⟩ := bs h
      refine q_iast dX5_aim_34 eK10 ?_
      exact g_return dX5_aim_35 rfl (hret _ (Option.some.inj h))
noncomputable def F_X5_set (O : mO) (d : Nat) (a0 : Nat) (a1 : Int32) (a2 : Int32) (K : mH) : Option (mH) :=
  (gtI K a0 5 3).bind fun x1 =>
  if (((x1 - (nI 1)) * (nI 6)) + a1) < 0 then
    some K
  else
    (gtA K a0 5 1).bind fun x4 =>
    (lnA O K x4).bind fun x5 =>
    if x5 ≤ (((x1 - (nI 1)) * (nI 6)) + a1) then
      some K
    else
      (gtA K a0 5 1).bind fun x8 =>
      (wrI K x8 (((x1 - (nI 1)) * (nI 6)) + a1) a2).bind fun K9 =>
      some K9
theorem e_X5_set {O : mO} {d : Nat} {a0 : Nat} {a1 : Int32} {a2 : Int32} {K : mH} {x : mH} (h : F_X5_set O d a0 a1 a2 K = some x) : ev O (d + 1) MX5_set [.ref a0, .int a1, .int a2] K = some (none, x) := by
  refine Rn_evx ?_
  show Go O (d + 1) MX5_set 0 [some (.ref a0), some (.int a1), some (.int a2), none] [] K _
  generalize hP : (fun (r : Option Value) (K' : mH) => (r, K') = (none, x)) = P
  have hret : ∀ K' : mH, K' = x → P none K' := by
    intro K' e
    subst hP e
    rfl
  clear hP
  unfold F_X5_set at h
  refine g_aload_n dX5_set_0 rfl ?_
  obtain ⟨x1, ex1, h⟩ := bs h
  refine q_getI dX5_set_1 fX5_13 ex1 ?_
  refine g_iconst (v := (nI 1)) dX5_set_4 (by decide) ?_
  refine g_isub dX5_set_5 ?_
  refine g_bipush (v := (nI 6)) dX5_set_6 (by decide) ?_
  refine g_imul dX5_set_8 ?_
  refine g_iload_n dX5_set_9 rfl ?_
  refine g_iadd dX5_set_10 ?_
  refine g_istore_n (ls' := [some (.ref a0), some (.int a1), some (.int a2), some (.int (((x1 - (nI 1)) * (nI 6)) + a1))]) dX5_set_11 (by decide) rfl ?_
  refine g_iload_n dX5_set_12 rfl ?_
  refine g_if_lt (t := 32) dX5_set_13 (by decide) (fun c3 => ?_) (fun c3 => ?_)
  · rw [if_pos c3] at h
    exact g_return dX5_set_32 rfl (hret _ (Option.some.inj h))
  · rw [if_neg c3] at h
    refine g_iload_n dX5_set_16 rfl ?_
    refine g_aload_n dX5_set_17 rfl ?_
    obtain ⟨x4, ex4, h⟩ := bs h
    refine q_getA dX5_set_18 fX5_26 ex4 ?_
    obtain ⟨x5, ex5, h⟩ := bs h
    refine q_alen dX5_set_21 ex5 ?_
    refine g_ic_ge (t := 32) dX5_set_22 (by decide) (fun c7 => ?_) (fun c7 => ?_)
    · rw [if_pos c7] at h
      exact g_return dX5_set_32 rfl (hret _ (Option.some.inj h))
    · rw [if_neg c7] at h
      refine g_aload_n dX5_set_25 rfl ?_
      obtain ⟨x8, ex8, h⟩ := bs h
      refine q_getA dX5_set_26 fX5_26 ex8 ?_
      refine g_iload_n dX5_set_29 rfl ?_
      refine g_iload_n dX5_set_30 rfl ?_
      obtain ⟨K9, eK9, h⟩ := bs h
      refine q_iast dX5_set_31 eK9 ?_
      exact g_return dX5_set_32 rfl (hret _ (Option.some.inj h))
noncomputable def F_X5_clear (O : mO) (d : Nat) (a0 : Nat) (K : mH) : Option (mH) :=
  (ptI K a0 5 2 (nI 0)).bind fun K1 =>
  (ptI K1 a0 5 3 (nI 0)).bind fun K2 =>
  some K2
theorem e_X5_clear {O : mO} {d : Nat} {a0 : Nat} {K : mH} {x : mH} (h : F_X5_clear O d a0 K = some x) : ev O (d + 1) MX5_clear [.ref a0] K = some (none, x) := by
  refine Rn_evx ?_
  show Go O (d + 1) MX5_clear 0 [some (.ref a0)] [] K _
  generalize hP : (fun (r : Option Value) (K' : mH) => (r, K') = (none, x)) = P
  have hret : ∀ K' : mH, K' = x → P none K' := by
    intro K' e
    subst hP e
    rfl
  clear hP
  unfold F_X5_clear at h
  refine g_aload_n dX5_clear_0 rfl ?_
  refine g_iconst (v := (nI 0)) dX5_clear_1 (by decide) ?_
  obtain ⟨K1, eK1, h⟩ := bs h
  refine q_put (c := (RX5, TX5, 4)) dX5_clear_2 fX5_7 rfl rfl rfl (fun h => absurd h (by decide)) eK1 ?_
  refine g_aload_n dX5_clear_5 rfl ?_
  refine g_iconst (v := (nI 0)) dX5_clear_6 (by decide) ?_
  obtain ⟨K2, eK2, h⟩ := bs h
  refine q_put (c := (RX5, TX5, 4)) dX5_clear_7 fX5_13 rfl rfl rfl (fun h => absurd h (by decide)) eK2 ?_
  exact g_return dX5_clear_10 rfl (hret _ (Option.some.inj h))
