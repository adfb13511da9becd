/-! methods as functions, by gen50.py -/
noncomputable def F_X11_change (O : mO) (d : Nat) (a0 : Nat) (a1 : Int32) (a2 : Int32) (K : mH) : Option (Int32 × mH) :=
  (gtA K a0 11 3).bind fun x1 =>
  (rdI O K x1 a1).bind fun x2 =>
  (gtA K a0 11 3).bind fun x3 =>
  (wrI K x3 a1 a2).bind fun K4 =>
  (ptI K4 a0 11 1 (nI 0)).bind fun K5 =>
  some (x2, K5)
theorem e_X11_change {O : mO} {d : Nat} {a0 : Nat} {a1 : Int32} {a2 : Int32} {K : mH} {r0 : Int32} {K0 : mH} (h : F_X11_change O d a0 a1 a2 K = some (r0, K0)) : ev O (d + 1) MX11_change [.ref a0, .int a1, .int a2] K = some (some (.int r0), K0) := by
  refine Rn_evx ?_
  show Go O (d + 1) MX11_change 0 [some (.ref a0), some (.int a1), some (.int a2), none] [] K _
  generalize hP : (fun (r : Option Value) (K' : mH) => (r, K') = (some (.int r0), K0)) = P
  have hret : ∀ (r : Int32) (K' : mH), (r, K') = (r0, K0) → P (some (.int r)) K' := by
    intro r K' e
    cases e
    subst hP
    rfl
  clear hP
  unfold F_X11_change at h
  refine g_aload_n dX11_change_0 rfl ?_
  obtain ⟨x1, ex1, h⟩ := bs h
  refine q_getA dX11_change_1 fX11_13 ex1 ?_
  refine g_iload_n dX11_change_4 rfl ?_
  obtain ⟨x2, ex2, h⟩ := bs h
  refine q_iald dX11_change_5 ex2 ?_
  refine g_istore_n (ls' := [some (.ref a0), some (.int a1), some (.int a2), some (.int x2)]) dX11_change_6 (by decide) rfl ?_
  refine g_aload_n dX11_change_7 rfl ?_
  obtain ⟨x3, ex3, h⟩ := bs h
  refine q_getA dX11_change_8 fX11_13 ex3 ?_
  refine g_iload_n dX11_change_11 rfl ?_
  refine g_iload_n dX11_change_12 rfl ?_
  obtain ⟨K4, eK4, h⟩ := bs h
  refine q_iast dX11_change_13 eK4 ?_
  refine g_aload_n dX11_change_14 rfl ?_
  refine g_iconst (v := (nI 0)) dX11_change_15 (by decide) ?_
  obtain ⟨K5, eK5, h⟩ := bs h
  refine q_put (c := (RX11, TX11, 56)) dX11_change_16 fX11_152 rfl rfl rfl (fun h => absurd h (by decide)) eK5 ?_
  refine g_iload_n dX11_change_19 rfl ?_
  exact g_ireturn dX11_change_20 rfl (by first | rfl | decide) (hret _ _ (Option.some.inj h))
noncomputable def F_X11_settled_j13 (O : mO) (d : Nat) (v0 : Nat) (v1 : Int32) (w0 : Int32) (w1 : Nat) (K : mH) : Option (Int32 × mH) :=
  (ptI K w1 11 8 w0).bind fun K3 =>
  (toI (vc O d 11 MX11_tell v0 [.int v1] K3)).bind fun p4 =>
  some (p4.1, p4.2)
theorem e_X11_settled_j13 {O : mO} {d : Nat} {v0 : Nat} {v1 : Int32} {w0 : Int32} {w1 : Nat} {K : mH} {P : Option Value → mH → Prop} {x : Int32 × mH} (hret : ∀ (r : Int32) (K' : mH), (r, K') = x → P (some (.int r)) K') (h : F_X11_settled_j13 O d v0 v1 w0 w1 K = some x) : Go O (d + 1) MX11_settled 13 [some (.ref v0), some (.int v1)] [.int w0, .ref w1] K P := by
  unfold F_X11_settled_j13 at h
  obtain ⟨K3, eK3, h⟩ := bs h
  refine q_put (c := (RX11, TX11, 56)) dX11_settled_13 fX11_155 rfl rfl rfl (fun h => absurd h (by decide)) eK3 ?_
  refine g_aload_n dX11_settled_16 rfl ?_
  refine g_iload_n dX11_settled_17 rfl ?_
  obtain ⟨p4, ep4, h⟩ := bs h
  refine q_virt (Z := MX11_tell) (c := (RX11, TX11, 56)) (toI_s ep4) dX11_settled_18 mX11_158.1 mX11_158.2 (Nat.le_of_ble_eq_true rfl) rfl rfl (Nat.le_of_ble_eq_true rfl) (Nat.le_of_ble_eq_true rfl) rfl rfl ?_
  show Go O (d + 1) MX11_settled 21 [some (.ref v0), some (.int v1)] [.int p4.1] p4.2 P
  exact g_ireturn dX11_settled_21 rfl (by first | rfl | decide) (hret _ _ (Option.some.inj h))
noncomputable def F_X11_settled (O : mO) (d : Nat) (a0 : Nat) (a1 : Int32) (K : mH) : Option (Int32 × mH) :=
  if 0 ≤ a1 then
    F_X11_settled_j13 O d a0 a1 (nI 0) a0 K
  else
    (gtI K a0 11 8).bind fun x5 =>
    F_X11_settled_j13 O d a0 a1 x5 a0 K
theorem e_X11_settled {O : mO} {d : Nat} {a0 : Nat} {a1 : Int32} {K : mH} {r0 : Int32} {K0 : mH} (h : F_X11_settled O d a0 a1 K = some (r0, K0)) : ev O (d + 1) MX11_settled [.ref a0, .int a1] K = some (some (.int r0), K0) := by
  refine Rn_evx ?_
  show Go O (d + 1) MX11_settled 0 [some (.ref a0), some (.int a1)] [] K _
  generalize hP : (fun (r : Option Value) (K' : mH) => (r, K') = (some (.int r0), K0)) = P
  have hret : ∀ (r : Int32) (K' : mH), (r, K') = (r0, K0) → P (some (.int r)) K' := by
    intro r K' e
    cases e
    subst hP
    rfl
  clear hP
  unfold F_X11_settled at h
  refine g_aload_n dX11_settled_0 rfl ?_
  refine g_iload_n dX11_settled_1 rfl ?_
  refine g_if_ge (t := 12) dX11_settled_2 (by decide) (fun c2 => ?_) (fun c2 => ?_)
  · rw [if_pos c2] at h
    refine g_iconst (v := (nI 0)) dX11_settled_12 (by decide) ?_
    refine Go_le ?_ (e_X11_settled_j13 hret h)
    exact And.intro rfl (And.intro rfl (trivial))
  · rw [if_neg c2] at h
    refine g_aload_n dX11_settled_5 rfl ?_
    obtain ⟨x5, ex5, h⟩ := bs h
    refine q_getI dX11_settled_6 fX11_155 ex5 ?_
    refine g_goto (t := 13) dX11_settled_9 (by decide) ?_
    refine Go_le ?_ (e_X11_settled_j13 hret h)
    exact And.intro rfl (And.intro rfl (trivial))
noncomputable def F_X11_keepAll_l2 (O : mO) (d : Nat) (v0 : Nat) (v1 : Int32) (s2 : Int32) (K : mH) : Option ((Int32 × mH) ⊕ (mH)) :=
  if (nI 31) ≤ s2 then
    some (.inr K)
  else
    (gtA K v0 11 6).bind fun x2 =>
    (gtA K v0 11 3).bind fun x3 =>
    (rdI O K x3 ((nI 6) + s2)).bind fun x4 =>
    (wrI K x2 (((nI 31) * v1) + s2) x4).bind fun K5 =>
    some (.inl ((s2 + nI 1), K5))
theorem e_X11_keepAll_l2 {O : mO} {d : Nat} {v0 : Nat} {v1 : Int32} {P : Option Value → mH → Prop} {x : mH} (hex : ∀ q : mH, x = q → Go O (d + 1) MX11_keepAll 34 [none, none, none] [] q P) : ∀ (f : Nat) (q : Int32 × mH), lupF (fun (q : Int32 × mH) => F_X11_keepAll_l2 O d v0 v1 q.1 q.2) f q = some x → Go O (d + 1) MX11_keepAll 2 [some (.ref v0), some (.int v1), some (.int q.1)] [] q.2 P := by
  intro f
  induction f with
  | zero =>
    intro q h
    cases h
  | succ f ih =>
    intro q h
    obtain ⟨y, h, hy1, hy2⟩ := lupF_s h
    have hin : ∀ q : Int32 × mH, y = .inl q → Go O (d + 1) MX11_keepAll 2 [some (.ref v0), some (.int v1), some (.int q.1)] [] q.2 P := fun q e => ih q (hy1 q e)
    replace hex : ∀ q : mH, y = .inr q → Go O (d + 1) MX11_keepAll 34 [none, none, none] [] q P := fun q e => hex q (hy2 q e).symm
    clear ih hy1 hy2
    obtain ⟨s2, K⟩ := q
    dsimp only at h ⊢
    unfold F_X11_keepAll_l2 at h
    refine g_iload_n dX11_keepAll_2 rfl ?_
    refine g_bipush (v := (nI 31)) dX11_keepAll_3 (by decide) ?_
    refine g_ic_ge (t := 34) dX11_keepAll_5 (by decide) (fun c1 => ?_) (fun c1 => ?_)
    · rw [if_pos c1] at h
      refine Go_le ?_ (hex K (Option.some.inj h).symm)
      exact trivial
    · rw [if_neg c1] at h
      refine g_aload_n dX11_keepAll_8 rfl ?_
      obtain ⟨x2, ex2, h⟩ := bs h
      refine q_getA dX11_keepAll_9 fX11_23 ex2 ?_
      refine g_bipush (v := (nI 31)) dX11_keepAll_12 (by decide) ?_
      refine g_iload_n dX11_keepAll_14 rfl ?_
      refine g_imul dX11_keepAll_15 ?_
      refine g_iload_n dX11_keepAll_16 rfl ?_
      refine g_iadd dX11_keepAll_17 ?_
      refine g_aload_n dX11_keepAll_18 rfl ?_
      obtain ⟨x3, ex3, h⟩ := bs h
      refine q_getA dX11_keepAll_19 fX11_13 ex3 ?_
      refine g_bipush (v := (nI 6)) dX11_keepAll_22 (by decide) ?_
      refine g_iload_n dX11_keepAll_24 rfl ?_
      refine g_iadd dX11_keepAll_25 ?_
      obtain ⟨x4, ex4, h⟩ := bs h
      refine q_iald dX11_keepAll_26 ex4 ?_
      obtain ⟨K5, eK5, h⟩ := bs h
      refine q_iast dX11_keepAll_27 eK5 ?_
      refine q_iinc (w := nI 1) (ls' := [some (.ref v0), some (.int v1), some (.int (s2 + nI 1))]) dX11_keepAll_28 (by decide) rfl (by decide) rfl ?_
      refine g_goto (t := 2) dX11_keepAll_31 (by decide) ?_
      refine Go_le ?_ (hin ((s2 + nI 1), K5) (Option.some.inj h).symm)
      exact And.intro rfl (And.intro rfl (And.intro rfl (trivial)))
noncomputable def F_X11_keepAll (O : mO) (d : Nat) (a0 : Nat) (a1 : Int32) (K : mH) : Option (mH) :=
  (lupF (fun (q : Int32 × mH) => F_X11_keepAll_l2 O d a0 a1 q.1 q.2) FU ((nI 0), K)).bind fun r6 =>
  some r6
theorem e_X11_keepAll {O : mO} {d : Nat} {a0 : Nat} {a1 : Int32} {K : mH} {x : mH} (h : F_X11_keepAll O d a0 a1 K = some x) : ev O (d + 1) MX11_keepAll [.ref a0, .int a1] K = some (none, x) := by
  refine Rn_evx ?_
  show Go O (d + 1) MX11_keepAll 0 [some (.ref a0), some (.int a1), none] [] K _
  generalize hP : (fun (r : Option Value) (K' : mH) => (r, K') = (none, x)) = P
  have hret : ∀ K' : mH, K' = x → P none K' := by
    intro K' e
    subst hP e
    rfl
  clear hP
  unfold F_X11_keepAll at h
  refine g_iconst (v := (nI 0)) dX11_keepAll_0 (by decide) ?_
  refine g_istore_n (ls' := [some (.ref a0), some (.int a1), some (.int (nI 0))]) dX11_keepAll_1 (by decide) rfl ?_
  obtain ⟨r6, er6, h⟩ := bs h
  have hx : Go O (d + 1) MX11_keepAll 34 [none, none, none] [] r6 P := by
    exact g_return dX11_keepAll_34 rfl (hret _ (Option.some.inj h))
  refine Go_le ?_ (e_X11_keepAll_l2 (fun q e => by cases e; exact hx) FU ((nI 0), K) er6)
  exact And.intro rfl (And.intro rfl (And.intro rfl (trivial)))
noncomputable def F_X11_putBack_l2 (O : mO) (d : Nat) (v0 : Nat) (v1 : Int32) (s2 : Int32) (K : mH) : Option ((Int32 × mH) ⊕ (mH)) :=
  if (nI 31) ≤ s2 then
    some (.inr K)
  else
    (gtA K v0 11 3).bind fun x2 =>
    (gtA K v0 11 6).bind fun x3 =>
    (rdI O K x3 (((nI 31) * v1) + s2)).bind fun x4 =>
    (wrI K x2 ((nI 6) + s2) x4).bind fun K5 =>
    some (.inl ((s2 + nI 1), K5))
theorem e_X11_putBack_l2 {O : mO} {d : Nat} {v0 : Nat} {v1 : Int32} {P : Option Value → mH → Prop} {x : mH} (hex : ∀ q : mH, x = q → Go O (d + 1) MX11_putBack 34 [none, none, none] [] q P) : ∀ (f : Nat) (q : Int32 × mH), lupF (fun (q : Int32 × mH) => F_X11_putBack_l2 O d v0 v1 q.1 q.2) f q = some x → Go O (d + 1) MX11_putBack 2 [some (.ref v0), some (.int v1), some (.int q.1)] [] q.2 P := by
  intro f
  induction f with
  | zero =>
    intro q h
    cases h
  | succ f ih =>
    intro q h
    obtain ⟨y, h, hy1, hy2⟩ := lupF_s h
    have hin : ∀ q : Int32 × mH, y = .inl q → Go O (d + 1) MX11_putBack 2 [some (.ref v0), some (.int v1), some (.int q.1)] [] q.2 P := fun q e => ih q (hy1 q e)
    replace hex : ∀ q : mH, y = .inr q → Go O (d + 1) MX11_putBack 34 [none, none, none] [] q P := fun q e => hex q (hy2 q e).symm
    clear ih hy1 hy2
    obtain ⟨s2, K⟩ := q
    dsimp only at h ⊢
    unfold F_X11_putBack_l2 at h
    refine g_iload_n dX11_putBack_2 rfl ?_
    refine g_bipush (v := (nI 31)) dX11_putBack_3 (by decide) ?_
    refine g_ic_ge (t := 34) dX11_putBack_5 (by decide) (fun c1 => ?_) (fun c1 => ?_)
    · rw [if_pos c1] at h
      refine Go_le ?_ (hex K (Option.some.inj h).symm)
      exact trivial
    · rw [if_neg c1] at h
      refine g_aload_n dX11_putBack_8 rfl ?_
      obtain ⟨x2, ex2, h⟩ := bs h
      refine q_getA dX11_putBack_9 fX11_13 ex2 ?_
      refine g_bipush (v := (nI 6)) dX11_putBack_12 (by decide) ?_
      refine g_iload_n dX11_putBack_14 rfl ?_
      refine g_iadd dX11_putBack_15 ?_
      refine g_aload_n dX11_putBack_16 rfl ?_
      obtain ⟨x3, ex3, h⟩ := bs h
      refine q_getA dX11_putBack_17 fX11_23 ex3 ?_
      refine g_bipush (v := (nI 31)) dX11_putBack_20 (by decide) ?_
      refine g_iload_n dX11_putBack_22 rfl ?_
      refine g_imul dX11_putBack_23 ?_
      refine g_iload_n dX11_putBack_24 rfl ?_
      refine g_iadd dX11_putBack_25 ?_
      obtain ⟨x4, ex4, h⟩ := bs h
      refine q_iald dX11_putBack_26 ex4 ?_
      obtain ⟨K5, eK5, h⟩ := bs h
      refine q_iast dX11_putBack_27 eK5 ?_
      refine q_iinc (w := nI 1) (ls' := [some (.ref v0), some (.int v1), some (.int (s2 + nI 1))]) dX11_putBack_28 (by decide) rfl (by decide) rfl ?_
      refine g_goto (t := 2) dX11_putBack_31 (by decide) ?_
      refine Go_le ?_ (hin ((s2 + nI 1), K5) (Option.some.inj h).symm)
      exact And.intro rfl (And.intro rfl (And.intro rfl (trivial)))
noncomputable def F_X11_putBack (O : mO) (d : Nat) (a0 : Nat) (a1 : Int32) (K : mH) : Option (mH) :=
  (lupF (fun (q : Int32 × mH) => F_X11_putBack_l2 O d a0 a1 q.1 q.2) FU ((nI 0), K)).bind fun r6 =>
  some r6
theorem e_X11_putBack {O : mO} {d : Nat} {a0 : Nat} {a1 : Int32} {K : mH} {x : mH} (h : F_X11_putBack O d a0 a1 K = some x) : ev O (d + 1) MX11_putBack [.ref a0, .int a1] K = some (none, x) := by
  refine Rn_evx ?_
  show Go O (d + 1) MX11_putBack 0 [some (.ref a0), some (.int a1), none] [] K _
  generalize hP : (fun (r : Option Value) (K' : mH) => (r, K') = (none, x)) = P
  have hret : ∀ K' : mH, K' = x → P none K' := by
    intro K' e
    subst hP e
    rfl
  clear hP
  unfold F_X11_putBack at h
  refine g_iconst (v := (nI 0)) dX11_putBack_0 (by decide) ?_
  refine g_istore_n (ls' := [some (.ref a0), some (.int a1), some (.int (nI 0))]) dX11_putBack_1 (by decide) rfl ?_
  obtain ⟨r6, er6, h⟩ := bs h
  have hx : Go O (d + 1) MX11_putBack 34 [none, none, none] [] r6 P := by
    exact g_return dX11_putBack_34 rfl (hret _ (Option.some.inj h))
  refine Go_le ?_ (e_X11_putBack_l2 (fun q e => by cases e; exact hx) FU ((nI 0), K) er6)
  exact And.intro rfl (And.intro rfl (And.intro rfl (trivial)))
noncomputable def F_X11_remember_j77 (O : mO) (d : Nat) (v0 : Nat) (v1 : Int32) (K : mH) : Option (mH) :=
  (gtI K v0 11 8).bind fun x4 =>
  (toV (vc O d 11 MX11_keepAll v0 [.int x4] K)).bind fun K5 =>
  (gtA K5 v0 11 7).bind fun x6 =>
  (gtI K5 v0 11 8).bind fun x7 =>
  (wrI K5 x6 x7 v1).bind fun K8 =>
  (gtI K8 v0 11 8).bind fun x9 =>
  (ptI K8 v0 11 8 (x9 + (nI 1))).bind fun K10 =>
  some K10
theorem e_X11_remember_j77 {O : mO} {d : Nat} {v0 : Nat} {v1 : Int32} {K : mH} {P : Option Value → mH → Prop} {x : mH} (hret : ∀ K' : mH, K' = x → P none K') (h : F_X11_remember_j77 O d v0 v1 K = some x) : Go O (d + 1) MX11_remember 77 [some (.ref v0), some (.int v1), none] [] K P := by
  unfold F_X11_remember_j77 at h
  refine g_aload_n dX11_remember_77 rfl ?_
  refine g_aload_n dX11_remember_78 rfl ?_
  obtain ⟨x4, ex4, h⟩ := bs h
  refine q_getI dX11_remember_79 fX11_155 ex4 ?_
  obtain ⟨K5, eK5, h⟩ := bs h
  refine q_virt (Z := MX11_keepAll) (c := (RX11, TX11, 56)) (toV_s eK5) dX11_remember_82 mX11_162.1 mX11_162.2 (Nat.le_of_ble_eq_true rfl) rfl rfl (Nat.le_of_ble_eq_true rfl) (Nat.le_of_ble_eq_true rfl) rfl rfl ?_
  show Go O (d + 1) MX11_remember 85 [some (.ref v0), some (.int v1), none] [] K5 P
  refine g_aload_n dX11_remember_85 rfl ?_
  obtain ⟨x6, ex6, h⟩ := bs h
  refine q_getA dX11_remember_86 fX11_26 ex6 ?_
  refine g_aload_n dX11_remember_89 rfl ?_
  obtain ⟨x7, ex7, h⟩ := bs h
  refine q_getI dX11_remember_90 fX11_155 ex7 ?_
  refine g_iload_n dX11_remember_93 rfl ?_
  obtain ⟨K8, eK8, h⟩ := bs h
  refine q_iast dX11_remember_94 eK8 ?_
  refine g_aload_n dX11_remember_95 rfl ?_
  refine g_dup dX11_remember_96 (by first | rfl | exact vrf_cat _) ?_
  obtain ⟨x9, ex9, h⟩ := bs h
  refine q_getI dX11_remember_97 fX11_155 ex9 ?_
  refine g_iconst (v := (nI 1)) dX11_remember_100 (by decide) ?_
  refine g_iadd dX11_remember_101 ?_
  obtain ⟨K10, eK10, h⟩ := bs h
  refine q_put (c := (RX11, TX11, 56)) dX11_remember_102 fX11_155 rfl rfl rfl (fun h => absurd h (by decide)) eK10 ?_
  exact g_return dX11_remember_105 rfl (hret _ (Option.some.inj h))
noncomputable def F_X11_remember_l11 (O : mO) (d : Nat) (v0 : Nat) (v1 : Int32) (s2 : Int32) (K : mH) : Option ((Int32 × mH) ⊕ (mH)) :=
  if (nI 465) ≤ s2 then
    some (.inr K)
  else
    (gtA K v0 11 6).bind fun x12 =>
    (gtA K v0 11 6).bind fun x13 =>
    (rdI O K x13 (s2 + (nI 31))).bind fun x14 =>
    (wrI K x12 s2 x14).bind fun K15 =>
    some (.inl ((s2 + nI 1), K15))
theorem e_X11_remember_l11 {O : mO} {d : Nat} {v0 : Nat} {v1 : Int32} {P : Option Value → mH → Prop} {x : mH} (hex : ∀ q : mH, x = q → Go O (d + 1) MX11_remember 39 [some (.ref v0), some (.int v1), none] [] q P) : ∀ (f : Nat) (q : Int32 × mH), lupF (fun (q : Int32 × mH) => F_X11_remember_l11 O d v0 v1 q.1 q.2) f q = some x → Go O (d + 1) MX11_remember 11 [some (.ref v0), some (.int v1), some (.int q.1)] [] q.2 P := by
  intro f
  induction f with
  | zero =>
    intro q h
    cases h
  | succ f ih =>
    intro q h
    obtain ⟨y, h, hy1, hy2⟩ := lupF_s h
    have hin : ∀ q : Int32 × mH, y = .inl q → Go O (d + 1) MX11_remember 11 [some (.ref v0), some (.int v1), some (.int q.1)] [] q.2 P := fun q e => ih q (hy1 q e)
    replace hex : ∀ q : mH, y = .inr q → Go O (d + 1) MX11_remember 39 [some (.ref v0), some (.int v1), none] [] q P := fun q e => hex q (hy2 q e).symm
    clear ih hy1 hy2
    obtain ⟨s2, K⟩ := q
    dsimp only at h ⊢
    unfold F_X11_remember_l11 at h
    refine g_iload_n dX11_remember_11 rfl ?_
    refine g_sipush (v := (nI 465)) dX11_remember_12 (by decide) ?_
    refine g_ic_ge (t := 39) dX11_remember_15 (by decide) (fun c11 => ?_) (fun c11 => ?_)
    · rw [if_pos c11] at h
      refine Go_le ?_ (hex K (Option.some.inj h).symm)
      exact And.intro rfl (And.intro rfl (trivial))
    · rw [if_neg c11] at h
      refine g_aload_n dX11_remember_18 rfl ?_
      obtain ⟨x12, ex12, h⟩ := bs h
      refine q_getA dX11_remember_19 fX11_23 ex12 ?_
      refine g_iload_n dX11_remember_22 rfl ?_
      refine g_aload_n dX11_remember_23 rfl ?_
      obtain ⟨x13, ex13, h⟩ := bs h
      refine q_getA dX11_remember_24 fX11_23 ex13 ?_
      refine g_iload_n dX11_remember_27 rfl ?_
      refine g_bipush (v := (nI 31)) dX11_remember_28 (by decide) ?_
      refine g_iadd dX11_remember_30 ?_
      obtain ⟨x14, ex14, h⟩ := bs h
      refine q_iald dX11_remember_31 ex14 ?_
      obtain ⟨K15, eK15, h⟩ := bs h
      refine q_iast dX11_remember_32 eK15 ?_
      refine q_iinc (w := nI 1) (ls' := [some (.ref v0), some (.int v1), some (.int (s2 + nI 1))]) dX11_remember_33 (by decide) rfl (by decide) rfl ?_
      refine g_goto (t := 11) dX11_remember_36 (by decide) ?_
      refine Go_le ?_ (hin ((s2 + nI 1), K15) (Option.some.inj h).symm)
      exact And.intro rfl (And.intro rfl (And.intro rfl (trivial)))
noncomputable def F_X11_remember_l41 (O : mO) (d : Nat) (v0 : Nat) (v1 : Int32) (s2 : Int32) (K : mH) : Option ((Int32 × mH) ⊕ (mH)) :=
  if (nI 15) ≤ s2 then
    some (.inr K)
  else
    (gtA K v0 11 7).bind fun x18 =>
    (gtA K v0 11 7).bind fun x19 =>
    (rdI O K x19 (s2 + (nI 1))).bind fun x20 =>
    (wrI K x18 s2 x20).bind fun K21 =>
    some (.inl ((s2 + nI 1), K21))
theorem e_X11_remember_l41 {O : mO} {d : Nat} {v0 : Nat} {v1 : Int32} {P : Option Value → mH → Prop} {x : mH} (hex : ∀ q : mH, x = q → Go O (d + 1) MX11_remember 67 [some (.ref v0), some (.int v1), none] [] q P) : ∀ (f : Nat) (q : Int32 × mH), lupF (fun (q : Int32 × mH) => F_X11_remember_l41 O d v0 v1 q.1 q.2) f q = some x → Go O (d + 1) MX11_remember 41 [some (.ref v0), some (.int v1), some (.int q.1)] [] q.2 P := by
  intro f
  induction f with
  | zero =>
    intro q h
    cases h
  | succ f ih =>
    intro q h
    obtain ⟨y, h, hy1, hy2⟩ := lupF_s h
    have hin : ∀ q : Int32 × mH, y = .inl q → Go O (d + 1) MX11_remember 41 [some (.ref v0), some (.int v1), some (.int q.1)] [] q.2 P := fun q e => ih q (hy1 q e)
    replace hex : ∀ q : mH, y = .inr q → Go O (d + 1) MX11_remember 67 [some (.ref v0), some (.int v1), none] [] q P := fun q e => hex q (hy2 q e).symm
    clear ih hy1 hy2
    obtain ⟨s2, K⟩ := q
    dsimp only at h ⊢
    unfold F_X11_remember_l41 at h
    refine g_iload_n dX11_remember_41 rfl ?_
    refine g_bipush (v := (nI 15)) dX11_remember_42 (by decide) ?_
    refine g_ic_ge (t := 67) dX11_remember_44 (by decide) (fun c17 => ?_) (fun c17 => ?_)
    · rw [if_pos c17] at h
      refine Go_le ?_ (hex K (Option.some.inj h).symm)
      exact And.intro rfl (And.intro rfl (trivial))
    · rw [if_neg c17] at h
      refine g_aload_n dX11_remember_47 rfl ?_
      obtain ⟨x18, ex18, h⟩ := bs h
      refine q_getA dX11_remember_48 fX11_26 ex18 ?_
      refine g_iload_n dX11_remember_51 rfl ?_
      refine g_aload_n dX11_remember_52 rfl ?_
      obtain ⟨x19, ex19, h⟩ := bs h
      refine q_getA dX11_remember_53 fX11_26 ex19 ?_
      refine g_iload_n dX11_remember_56 rfl ?_
      refine g_iconst (v := (nI 1)) dX11_remember_57 (by decide) ?_
      refine g_iadd dX11_remember_58 ?_
      obtain ⟨x20, ex20, h⟩ := bs h
      refine q_iald dX11_remember_59 ex20 ?_
      obtain ⟨K21, eK21, h⟩ := bs h
      refine q_iast dX11_remember_60 eK21 ?_
      refine q_iinc (w := nI 1) (ls' := [some (.ref v0), some (.int v1), some (.int (s2 + nI 1))]) dX11_remember_61 (by decide) rfl (by decide) rfl ?_
      refine g_goto (t := 41) dX11_remember_64 (by decide) ?_
      refine Go_le ?_ (hin ((s2 + nI 1), K21) (Option.some.inj h).symm)
      exact And.intro rfl (And.intro rfl (And.intro rfl (trivial)))
noncomputable def F_X11_remember (O : mO) (d : Nat) (a0 : Nat) (a1 : Int32) (K : mH) : Option (mH) :=
  (gtI K a0 11 8).bind fun x1 =>
  if x1 = (nI 16) then
    (lupF (fun (q : Int32 × mH) => F_X11_remember_l11 O d a0 a1 q.1 q.2) FU ((nI 0), K)).bind fun r16 =>
    (lupF (fun (q : Int32 × mH) => F_X11_remember_l41 O d a0 a1 q.1 q.2) FU ((nI 0), r16)).bind fun r22 =>
    (gtI r22 a0 11 8).bind fun x23 =>
    (ptI r22 a0 11 8 (x23 - (nI 1))).bind fun K24 =>
    F_X11_remember_j77 O d a0 a1 K24
  else
    F_X11_remember_j77 O d a0 a1 K
theorem e_X11_remember {O : mO} {d : Nat} {a0 : Nat} {a1 : Int32} {K : mH} {x : mH} (h : F_X11_remember O d a0 a1 K = some x) : ev O (d + 1) MX11_remember [.ref a0, .int a1] K = some (none, x) := by
  refine Rn_evx ?_
  show Go O (d + 1) MX11_remember 0 [some (.ref a0), some (.int a1), none] [] K _
  generalize hP : (fun (r : Option Value) (K' : mH) => (r, K') = (none, x)) = P
  have hret : ∀ K' : mH, K' = x → P none K' := by
    intro K' e
    subst hP e
    rfl
  clear hP
  unfold F_X11_remember at h
  refine g_aload_n dX11_remember_0 rfl ?_
  obtain ⟨x1, ex1, h⟩ := bs h
  refine q_getI dX11_remember_1 fX11_155 ex1 ?_
  refine g_bipush (v := (nI 16)) dX11_remember_4 (by decide) ?_
  refine g_ic_ne (t := 77) dX11_remember_6 (by decide) (fun c3 => ?_) (fun c3 => ?_)
  · rw [if_neg c3] at h
    refine Go_le ?_ (e_X11_remember_j77 hret h)
    exact And.intro rfl (And.intro rfl (trivial))
  · rw [if_pos c3] at h
    refine g_iconst (v := (nI 0)) dX11_remember_9 (by decide) ?_
    refine g_istore_n (ls' := [some (.ref a0), some (.int a1), some (.int (nI 0))]) dX11_remember_10 (by decide) rfl ?_
    obtain ⟨r16, er16, h⟩ := bs h
    have hx : Go O (d + 1) MX11_remember 39 [some (.ref a0), some (.int a1), none] [] r16 P := by
      refine g_iconst (v := (nI 0)) dX11_remember_39 (by decide) ?_
      refine g_istore_n (ls' := [some (.ref a0), some (.int a1), some (.int (nI 0))]) dX11_remember_40 (by decide) rfl ?_
      obtain ⟨r22, er22, h⟩ := bs h
      have hx : Go O (d + 1) MX11_remember 67 [some (.ref a0), some (.int a1), none] [] r22 P := by
        refine g_aload_n dX11_remember_67 rfl ?_
        refine g_dup dX11_remember_68 (by first | rfl | exact vrf_cat _) ?_
        obtain ⟨x23, ex23, h⟩ := bs h
        refine q_getI dX11_remember_69 fX11_155 ex23 ?_
        refine g_iconst (v := (nI 1)) dX11_remember_72 (by decide) ?_
        refine g_isub dX11_remember_73 ?_
        obtain ⟨K24, eK24, h⟩ := bs h
        refine q_put (c := (RX11, TX11, 56)) dX11_remember_74 fX11_155 rfl rfl rfl (fun h => absurd h (by decide)) eK24 ?_
        refine Go_le ?_ (e_X11_remember_j77 hret h)
        exact And.intro rfl (And.intro rfl (trivial))
      refine Go_le ?_ (e_X11_remember_l41 (fun q e => by cases e; exact hx) FU ((nI 0), r16) er22)
      exact And.intro rfl (And.intro rfl (And.intro rfl (trivial)))
    refine Go_le ?_ (e_X11_remember_l11 (fun q e => by cases e; exact hx) FU ((nI 0), K) er16)
    exact And.intro rfl (And.intro rfl (And.intro rfl (trivial)))
noncomputable def F_X11_undo (O : mO) (d : Nat) (a0 : Nat) (K : mH) : Option (Int32 × mH) :=
  (ptI K a0 11 0 (nI 0)).bind fun K1 =>
  (gtI K1 a0 11 8).bind fun x2 =>
  if x2 = 0 then
    (toI (vc O d 11 MX11_tell a0 [.int (-3)] K1)).bind fun p12 =>
    some (p12.1, p12.2)
  else
    (gtI K1 a0 11 8).bind fun x4 =>
    (ptI K1 a0 11 8 (x4 - (nI 1))).bind fun K5 =>
    (gtI K5 a0 11 8).bind fun x6 =>
    (toV (vc O d 11 MX11_putBack a0 [.int x6] K5)).bind fun K7 =>
    (gtA K7 a0 11 7).bind fun x8 =>
    (gtI K7 a0 11 8).bind fun x9 =>
    (rdI O K7 x8 x9).bind fun x10 =>
    (toI (vc O d 11 MX11_tell a0 [.int x10] K7)).bind fun p11 =>
    some (p11.1, p11.2)
theorem e_X11_undo {O : mO} {d : Nat} {a0 : Nat} {K : mH} {r0 : Int32} {K0 : mH} (h : F_X11_undo O d a0 K = some (r0, K0)) : ev O (d + 1) MX11_undo [.ref a0] K = some (some (.int r0), K0) := by
  refine Rn_evx ?_
  show Go O (d + 1) MX11_undo 0 [some (.ref a0)] [] K _
  generalize hP : (fun (r : Option Value) (K' : mH) => (r, K') = (some (.int r0), K0)) = P
  have hret : ∀ (r : Int32) (K' : mH), (r, K') = (r0, K0) → P (some (.int r)) K' := by
    intro r K' e
    cases e
    subst hP
    rfl
  clear hP
  unfold F_X11_undo at h
  refine g_aload_n dX11_undo_0 rfl ?_
  refine g_iconst (v := (nI 0)) dX11_undo_1 (by decide) ?_
  obtain ⟨K1, eK1, h⟩ := bs h
  refine q_put (c := (RX11, TX11, 56)) dX11_undo_2 fX11_149 rfl rfl rfl (fun h => absurd h (by decide)) eK1 ?_
  refine g_aload_n dX11_undo_5 rfl ?_
  obtain ⟨x2, ex2, h⟩ := bs h
  refine q_getI dX11_undo_6 fX11_155 ex2 ?_
  refine g_if_ne (t := 19) dX11_undo_9 (by decide) (fun c3 => ?_) (fun c3 => ?_)
  · rw [if_neg c3] at h
    refine g_aload_n dX11_undo_19 rfl ?_
    refine g_dup dX11_undo_20 (by first | rfl | exact vrf_cat _) ?_
    obtain ⟨x4, ex4, h⟩ := bs h
    refine q_getI dX11_undo_21 fX11_155 ex4 ?_
    refine g_iconst (v := (nI 1)) dX11_undo_24 (by decide) ?_
    refine g_isub dX11_undo_25 ?_
    obtain ⟨K5, eK5, h⟩ := bs h
    refine q_put (c := (RX11, TX11, 56)) dX11_undo_26 fX11_155 rfl rfl rfl (fun h => absurd h (by decide)) eK5 ?_
    refine g_aload_n dX11_undo_29 rfl ?_
    refine g_aload_n dX11_undo_30 rfl ?_
    obtain ⟨x6, ex6, h⟩ := bs h
    refine q_getI dX11_undo_31 fX11_155 ex6 ?_
    obtain ⟨K7, eK7, h⟩ := bs h
    refine q_virt (Z := MX11_putBack) (c := (RX11, TX11, 56)) (toV_s eK7) dX11_undo_34 mX11_166.1 mX11_166.2 (Nat.le_of_ble_eq_true rfl) rfl rfl (Nat.le_of_ble_eq_true rfl) (Nat.le_of_ble_eq_true rfl) rfl rfl ?_
    show Go O (d + 1) MX11_undo 37 [some (.ref a0)] [] K7 P
    refine g_aload_n dX11_undo_37 rfl ?_
    refine g_aload_n dX11_undo_38 rfl ?_
    obtain ⟨x8, ex8, h⟩ := bs h
    refine q_getA dX11_undo_39 fX11_26 ex8 ?_
    refine g_aload_n dX11_undo_42 rfl ?_
    obtain ⟨x9, ex9, h⟩ := bs h
    refine q_getI dX11_undo_43 fX11_155 ex9 ?_
    obtain ⟨x10, ex10, h⟩ := bs h
    refine q_iald dX11_undo_46 ex10 ?_
    obtain ⟨p11, ep11, h⟩ := bs h
    refine q_virt (Z := MX11_tell) (c := (RX11, TX11, 56)) (toI_s ep11) dX11_undo_47 mX11_158.1 mX11_158.2 (Nat.le_of_ble_eq_true rfl) rfl rfl (Nat.le_of_ble_eq_true rfl) (Nat.le_of_ble_eq_true rfl) rfl rfl ?_
    show Go O (d + 1) MX11_undo 50 [some (.ref a0)] [.int p11.1] p11.2 P
    exact g_ireturn dX11_undo_50 rfl (by first | rfl | decide) (hret _ _ (Option.some.inj h))
  · rw [if_pos c3] at h
    refine g_aload_n dX11_undo_12 rfl ?_
    refine g_bipush (v := (-3)) dX11_undo_13 (by decide) ?_
    obtain ⟨p12, ep12, h⟩ := bs h
    refine q_virt (Z := MX11_tell) (c := (RX11, TX11, 56)) (toI_s ep12) dX11_undo_15 mX11_158.1 mX11_158.2 (Nat.le_of_ble_eq_true rfl) rfl rfl (Nat.le_of_ble_eq_true rfl) (Nat.le_of_ble_eq_true rfl) rfl rfl ?_
    show Go O (d + 1) MX11_undo 18 [some (.ref a0)] [.int p12.1] p12.2 P
    exact g_ireturn dX11_undo_18 rfl (by first | rfl | decide) (hret _ _ (Option.some.inj h))
noncomputable def F_X11_image_l23 (O : mO) (d : Nat) (v0 : Nat) (v1 : Int32) (s2 : Int32) (K : mH) : Option ((Int32 × mH) ⊕ (mH)) :=
  if (nI 5510) ≤ s2 then
    some (.inr K)
  else
    (gtA K v0 11 4).bind fun x5 =>
    (gtA K v0 11 3).bind fun x6 =>
    (rdI O K x6 s2).bind fun x7 =>
    (wrI K x5 (((nI 5510) * v1) + s2) x7).bind fun K8 =>
    some (.inl ((s2 + nI 1), K8))
theorem e_X11_image_l23 {O : mO} {d : Nat} {v0 : Nat} {v1 : Int32} {P : Option Value → mH → Prop} {x : mH} (hex : ∀ q : mH, x = q → Go O (d + 1) MX11_image 54 [some (.ref v0), some (.int v1), none] [] q P) : ∀ (f : Nat) (q : Int32 × mH), lupF (fun (q : Int32 × mH) => F_X11_image_l23 O d v0 v1 q.1 q.2) f q = some x → Go O (d + 1) MX11_image 23 [some (.ref v0), some (.int v1), some (.int q.1)] [] q.2 P := by
  intro f
  induction f with
  | zero =>
    intro q h
    cases h
  | succ f ih =>
    intro q h
    obtain ⟨y, h, hy1, hy2⟩ := lupF_s h
    have hin : ∀ q : Int32 × mH, y = .inl q → Go O (d + 1) MX11_image 23 [some (.ref v0), some (.int v1), some (.int q.1)] [] q.2 P := fun q e => ih q (hy1 q e)
    replace hex : ∀ q : mH, y = .inr q → Go O (d + 1) MX11_image 54 [some (.ref v0), some (.int v1), none] [] q P := fun q e => hex q (hy2 q e).symm
    clear ih hy1 hy2
    obtain ⟨s2, K⟩ := q
    dsimp only at h ⊢
    unfold F_X11_image_l23 at h
    refine g_iload_n dX11_image_23 rfl ?_
    refine g_sipush (v := (nI 5510)) dX11_image_24 (by decide) ?_
    refine g_ic_ge (t := 54) dX11_image_27 (by decide) (fun c4 => ?_) (fun c4 => ?_)
    · rw [if_pos c4] at h
      refine Go_le ?_ (hex K (Option.some.inj h).symm)
      exact And.intro rfl (And.intro rfl (trivial))
    · rw [if_neg c4] at h
      refine g_aload_n dX11_image_30 rfl ?_
      obtain ⟨x5, ex5, h⟩ := bs h
      refine q_getA dX11_image_31 fX11_16 ex5 ?_
      refine g_sipush (v := (nI 5510)) dX11_image_34 (by decide) ?_
      refine g_iload_n dX11_image_37 rfl ?_
      refine g_imul dX11_image_38 ?_
      refine g_iload_n dX11_image_39 rfl ?_
      refine g_iadd dX11_image_40 ?_
      refine g_aload_n dX11_image_41 rfl ?_
      obtain ⟨x6, ex6, h⟩ := bs h
      refine q_getA dX11_image_42 fX11_13 ex6 ?_
      refine g_iload_n dX11_image_45 rfl ?_
      obtain ⟨x7, ex7, h⟩ := bs h
      refine q_iald dX11_image_46 ex7 ?_
      obtain ⟨K8, eK8, h⟩ := bs h
      refine q_iast dX11_image_47 eK8 ?_
      refine q_iinc (w := nI 1) (ls' := [some (.ref v0), some (.int v1), some (.int (s2 + nI 1))]) dX11_image_48 (by decide) rfl (by decide) rfl ?_
      refine g_goto (t := 23) dX11_image_51 (by decide) ?_
      refine Go_le ?_ (hin ((s2 + nI 1), K8) (Option.some.inj h).symm)
      exact And.intro rfl (And.intro rfl (And.intro rfl (trivial)))
noncomputable def F_X11_image (O : mO) (d : Nat) (a0 : Nat) (a1 : Int32) (K : mH) : Option (Int32 × mH) :=
  (ptI K a0 11 0 (nI 0)).bind fun K1 =>
  (toI (ev O d MX11_in [.long a1.toInt64, .long 0, .long 1] K1)).bind fun p2 =>
  if p2.1 = 0 then
    (toI (vc O d 11 MX11_tell a0 [.int (-1)] p2.2)).bind fun p13 =>
    some (p13.1, p13.2)
  else
    (lupF (fun (q : Int32 × mH) => F_X11_image_l23 O d a0 a1 q.1 q.2) FU ((nI 0), p2.2)).bind fun r9 =>
    (gtA r9 a0 11 5).bind fun x10 =>
    (wrB r9 x10 a1 (nI 1)).bind fun K11 =>
    (toI (vc O d 11 MX11_tell a0 [.int (nI 0)] K11)).bind fun p12 =>
    some (p12.1, p12.2)
theorem e_X11_image {O : mO} {d : Nat} {a0 : Nat} {a1 : Int32} {K : mH} {r0 : Int32} {K0 : mH} (h : F_X11_image O d a0 a1 K = some (r0, K0)) : ev O (d + 1) MX11_image [.ref a0, .int a1] K = some (some (.int r0), K0) := by
  refine Rn_evx ?_
  show Go O (d + 1) MX11_image 0 [some (.ref a0), some (.int a1), none] [] K _
  generalize hP : (fun (r : Option Value) (K' : mH) => (r, K') = (some (.int r0), K0)) = P
  have hret : ∀ (r : Int32) (K' : mH), (r, K') = (r0, K0) → P (some (.int r)) K' := by
    intro r K' e
    cases e
    subst hP
    rfl
  clear hP
  unfold F_X11_image at h
  refine g_aload_n dX11_image_0 rfl ?_
  refine g_iconst (v := (nI 0)) dX11_image_1 (by decide) ?_
  obtain ⟨K1, eK1, h⟩ := bs h
  refine q_put (c := (RX11, TX11, 56)) dX11_image_2 fX11_149 rfl rfl rfl (fun h => absurd h (by decide)) eK1 ?_
  refine g_iload_n dX11_image_5 rfl ?_
  refine g_i2l dX11_image_6 ?_
  refine g_lconst (v := 0) dX11_image_7 (by decide) ?_
  refine g_lconst (v := 1) dX11_image_8 (by decide) ?_
  obtain ⟨p2, ep2, h⟩ := bs h
  refine q_stat (Z := MX11_in) (toI_s ep2) dX11_image_9 mX11_169.1 mX11_169.2 (Nat.le_of_ble_eq_true rfl) rfl rfl (Nat.le_of_ble_eq_true rfl) (Nat.le_of_ble_eq_true rfl) ?_
  show Go O (d + 1) MX11_image 12 [some (.ref a0), some (.int a1), none] [.int p2.1] p2.2 P
  refine g_if_ne (t := 21) dX11_image_12 (by decide) (fun c3 => ?_) (fun c3 => ?_)
  · rw [if_neg c3] at h
    refine g_iconst (v := (nI 0)) dX11_image_21 (by decide) ?_
    refine g_istore_n (ls' := [some (.ref a0), some (.int a1), some (.int (nI 0))]) dX11_image_22 (by decide) rfl ?_
    obtain ⟨r9, er9, h⟩ := bs h
    have hx : Go O (d + 1) MX11_image 54 [some (.ref a0), some (.int a1), none] [] r9 P := by
      refine g_aload_n dX11_image_54 rfl ?_
      obtain ⟨x10, ex10, h⟩ := bs h
      refine q_getA dX11_image_55 fX11_19 ex10 ?_
      refine g_iload_n dX11_image_58 rfl ?_
      refine g_iconst (v := (nI 1)) dX11_image_59 (by decide) ?_
      obtain ⟨K11, eK11, h⟩ := bs h
      refine q_bast dX11_image_60 eK11 ?_
      refine g_aload_n dX11_image_61 rfl ?_
      refine g_iconst (v := (nI 0)) dX11_image_62 (by decide) ?_
      obtain ⟨p12, ep12, h⟩ := bs h
      refine q_virt (Z := MX11_tell) (c := (RX11, TX11, 56)) (toI_s ep12) dX11_image_63 mX11_158.1 mX11_158.2 (Nat.le_of_ble_eq_true rfl) rfl rfl (Nat.le_of_ble_eq_true rfl) (Nat.le_of_ble_eq_true rfl) rfl rfl ?_
      show Go O (d + 1) MX11_image 66 [some (.ref a0), some (.int a1), none] [.int p12.1] p12.2 P
      exact g_ireturn dX11_image_66 rfl (by first | rfl | decide) (hret _ _ (Option.some.inj h))
    refine Go_le ?_ (e_X11_image_l23 (fun q e => by cases e; exact hx) FU ((nI 0), p2.2) er9)
    exact And.intro rfl (And.intro rfl (And.intro rfl (trivial)))
  · rw [if_pos c3] at h
    refine g_aload_n dX11_image_15 rfl ?_
    refine g_iconst (v := (-1)) dX11_image_16 (by decide) ?_
    obtain ⟨p13, ep13, h⟩ := bs h
    refine q_virt (Z := MX11_tell) (c := (RX11, TX11, 56)) (toI_s ep13) dX11_image_17 mX11_158.1 mX11_158.2 (Nat.le_of_ble_eq_true rfl) rfl rfl (Nat.le_of_ble_eq_true rfl) (Nat.le_of_ble_eq_true rfl) rfl rfl ?_
    show Go O (d + 1) MX11_image 20 [some (.ref a0), some (.int a1), none] [.int p13.1] p13.2 P
    exact g_ireturn dX11_image_20 rfl (by first | rfl | decide) (hret _ _ (Option.some.inj h))
noncomputable def F_X11_back_l39 (O : mO) (d : Nat) (v0 : Nat) (v1 : Int32) (s2 : Int32) (K : mH) : Option ((Int32 × mH) ⊕ (mH)) :=
  if (nI 5510) ≤ s2 then
    some (.inr K)
  else
    (gtA K v0 11 3).bind fun x8 =>
    (gtA K v0 11 4).bind fun x9 =>
    (rdI O K x9 (((nI 5510) * v1) + s2)).bind fun x10 =>
    (wrI K x8 s2 x10).bind fun K11 =>
    some (.inl ((s2 + nI 1), K11))
theorem e_X11_back_l39 {O : mO} {d : Nat} {v0 : Nat} {v1 : Int32} {P : Option Value → mH → Prop} {x : mH} (hex : ∀ q : mH, x = q → Go O (d + 1) MX11_back 70 [some (.ref v0), none, none] [] q P) : ∀ (f : Nat) (q : Int32 × mH), lupF (fun (q : Int32 × mH) => F_X11_back_l39 O d v0 v1 q.1 q.2) f q = some x → Go O (d + 1) MX11_back 39 [some (.ref v0), some (.int v1), some (.int q.1)] [] q.2 P := by
  intro f
  induction f with
  | zero =>
    intro q h
    cases h
  | succ f ih =>
    intro q h
    obtain ⟨y, h, hy1, hy2⟩ := lupF_s h
    have hin : ∀ q : Int32 × mH, y = .inl q → Go O (d + 1) MX11_back 39 [some (.ref v0), some (.int v1), some (.int q.1)] [] q.2 P := fun q e => ih q (hy1 q e)
    replace hex : ∀ q : mH, y = .inr q → Go O (d + 1) MX11_back 70 [some (.ref v0), none, none] [] q P := fun q e => hex q (hy2 q e).symm
    clear ih hy1 hy2
    obtain ⟨s2, K⟩ := q
    dsimp only at h ⊢
    unfold F_X11_back_l39 at h
    refine g_iload_n dX11_back_39 rfl ?_
    refine g_sipush (v := (nI 5510)) dX11_back_40 (by decide) ?_
    refine g_ic_ge (t := 70) dX11_back_43 (by decide) (fun c7 => ?_) (fun c7 => ?_)
    · rw [if_pos c7] at h
      refine Go_le ?_ (hex K (Option.some.inj h).symm)
      exact And.intro rfl (trivial)
    · rw [if_neg c7] at h
      refine g_aload_n dX11_back_46 rfl ?_
      obtain ⟨x8, ex8, h⟩ := bs h
      refine q_getA dX11_back_47 fX11_13 ex8 ?_
      refine g_iload_n dX11_back_50 rfl ?_
      refine g_aload_n dX11_back_51 rfl ?_
      obtain ⟨x9, ex9, h⟩ := bs h
      refine q_getA dX11_back_52 fX11_16 ex9 ?_
      refine g_sipush (v := (nI 5510)) dX11_back_55 (by decide) ?_
      refine g_iload_n dX11_back_58 rfl ?_
      refine g_imul dX11_back_59 ?_
      refine g_iload_n dX11_back_60 rfl ?_
      refine g_iadd dX11_back_61 ?_
      obtain ⟨x10, ex10, h⟩ := bs h
      refine q_iald dX11_back_62 ex10 ?_
      obtain ⟨K11, eK11, h⟩ := bs h
      refine q_iast dX11_back_63 eK11 ?_
      refine q_iinc (w := nI 1) (ls' := [some (.ref v0), some (.int v1), some (.int (s2 + nI 1))]) dX11_back_64 (by decide) rfl (by decide) rfl ?_
      refine g_goto (t := 39) dX11_back_67 (by decide) ?_
      refine Go_le ?_ (hin ((s2 + nI 1), K11) (Option.some.inj h).symm)
      exact And.intro rfl (And.intro rfl (And.intro rfl (trivial)))
noncomputable def F_X11_back (O : mO) (d : Nat) (a0 : Nat) (a1 : Int32) (K : mH) : Option (Int32 × mH) :=
  (ptI K a0 11 0 (nI 0)).bind fun K1 =>
  (toI (ev O d MX11_in [.long a1.toInt64, .long 0, .long 1] K1)).bind fun p2 =>
  if p2.1 = 0 then
    (toI (vc O d 11 MX11_tell a0 [.int (-1)] p2.2)).bind fun p15 =>
    some (p15.1, p15.2)
  else
    (gtA p2.2 a0 11 5).bind fun x4 =>
    (rdB O p2.2 x4 a1).bind fun x5 =>
    if x5 = 0 then
      (toI (vc O d 11 MX11_tell a0 [.int (-2)] p2.2)).bind fun p14 =>
      some (p14.1, p14.2)
    else
      (lupF (fun (q : Int32 × mH) => F_X11_back_l39 O d a0 a1 q.1 q.2) FU ((nI 0), p2.2)).bind fun r12 =>
      (toI (vc O d 11 MX11_settled a0 [.int (nI 0)] r12)).bind fun p13 =>
      some (p13.1, p13.2)
theorem e_X11_back {O : mO} {d : Nat} {a0 : Nat} {a1 : Int32} {K : mH} {r0 : Int32} {K0 : mH} (h : F_X11_back O d a0 a1 K = some (r0, K0)) : ev O (d + 1) MX11_back [.ref a0, .int a1] K = some (some (.int r0), K0) := by
  refine Rn_evx ?_
  show Go O (d + 1) MX11_back 0 [some (.ref a0), some (.int a1), none] [] K _
  generalize hP : (fun (r : Option Value) (K' : mH) => (r, K') = (some (.int r0), K0)) = P
  have hret : ∀ (r : Int32) (K' : mH), (r, K') = (r0, K0) → P (some (.int r)) K' := by
    intro r K' e
    cases e
    subst hP
    rfl
  clear hP
  unfold F_X11_back at h
  refine g_aload_n dX11_back_0 rfl ?_
  refine g_iconst (v := (nI 0)) dX11_back_1 (by decide) ?_
  obtain ⟨K1, eK1, h⟩ := bs h
  refine q_put (c := (RX11, TX11, 56)) dX11_back_2 fX11_149 rfl rfl rfl (fun h => absurd h (by decide)) eK1 ?_
  refine g_iload_n dX11_back_5 rfl ?_
  refine g_i2l dX11_back_6 ?_
  refine g_lconst (v := 0) dX11_back_7 (by decide) ?_
  refine g_lconst (v := 1) dX11_back_8 (by decide) ?_
  obtain ⟨p2, ep2, h⟩ := bs h
  refine q_stat (Z := MX11_in) (toI_s ep2) dX11_back_9 mX11_169.1 mX11_169.2 (Nat.le_of_ble_eq_true rfl) rfl rfl (Nat.le_of_ble_eq_true rfl) (Nat.le_of_ble_eq_true rfl) ?_
  show Go O (d + 1) MX11_back 12 [some (.ref a0), some (.int a1), none] [.int p2.1] p2.2 P
  refine g_if_ne (t := 21) dX11_back_12 (by decide) (fun c3 => ?_) (fun c3 => ?_)
  · rw [if_neg c3] at h
    refine g_aload_n dX11_back_21 rfl ?_
    obtain ⟨x4, ex4, h⟩ := bs h
    refine q_getA dX11_back_22 fX11_19 ex4 ?_
    refine g_iload_n dX11_back_25 rfl ?_
    obtain ⟨x5, ex5, h⟩ := bs h
    refine q_bald dX11_back_26 ex5 ?_
    refine g_if_ne (t := 37) dX11_back_27 (by decide) (fun c6 => ?_) (fun c6 => ?_)
    · rw [if_neg c6] at h
      refine g_iconst (v := (nI 0)) dX11_back_37 (by decide) ?_
      refine g_istore_n (ls' := [some (.ref a0), some (.int a1), some (.int (nI 0))]) dX11_back_38 (by decide) rfl ?_
      obtain ⟨r12, er12, h⟩ := bs h
      have hx : Go O (d + 1) MX11_back 70 [some (.ref a0), none, none] [] r12 P := by
        refine g_aload_n dX11_back_70 rfl ?_
        refine g_iconst (v := (nI 0)) dX11_back_71 (by decide) ?_
        obtain ⟨p13, ep13, h⟩ := bs h
        refine q_virt (Z := MX11_settled) (c := (RX11, TX11, 56)) (toI_s ep13) dX11_back_72 mX11_173.1 mX11_173.2 (Nat.le_of_ble_eq_true rfl) rfl rfl (Nat.le_of_ble_eq_true rfl) (Nat.le_of_ble_eq_true rfl) rfl rfl ?_
        show Go O (d + 1) MX11_back 75 [some (.ref a0), none, none] [.int p13.1] p13.2 P
        exact g_ireturn dX11_back_75 rfl (by first | rfl | decide) (hret _ _ (Option.some.inj h))
      refine Go_le ?_ (e_X11_back_l39 (fun q e => by cases e; exact hx) FU ((nI 0), p2.2) er12)
      exact And.intro rfl (And.intro rfl (And.intro rfl (trivial)))
    · rw [if_pos c6] at h
      refine g_aload_n dX11_back_30 rfl ?_
      refine g_bipush (v := (-2)) dX11_back_31 (by decide) ?_
      obtain ⟨p14, ep14, h⟩ := bs h
      refine q_virt (Z := MX11_tell) (c := (RX11, TX11, 56)) (toI_s ep14) dX11_back_33 mX11_158.1 mX11_158.2 (Nat.le_of_ble_eq_true rfl) rfl rfl (Nat.le_of_ble_eq_true rfl) (Nat.le_of_ble_eq_true rfl) rfl rfl ?_
      show Go O (d + 1) MX11_back 36 [some (.ref a0), some (.int a1), none] [.int p14.1] p14.2 P
      exact g_ireturn dX11_back_36 rfl (by first | rfl | decide) (hret _ _ (Option.some.inj h))
  · rw [if_pos c3] at h
    refine g_aload_n dX11_back_15 rfl ?_
    refine g_iconst (v := (-1)) dX11_back_16 (by decide) ?_
    obtain ⟨p15, ep15, h⟩ := bs h
    refine q_virt (Z := MX11_tell) (c := (RX11, TX11, 56)) (toI_s ep15) dX11_back_17 mX11_158.1 mX11_158.2 (Nat.le_of_ble_eq_true rfl) rfl rfl (Nat.le_of_ble_eq_true rfl) (Nat.le_of_ble_eq_true rfl) rfl rfl ?_
    show Go O (d + 1) MX11_back 20 [some (.ref a0), some (.int a1), none] [.int p15.1] p15.2 P
    exact g_ireturn dX11_back_20 rfl (by first | rfl | decide) (hret _ _ (Option.some.inj h))
noncomputable def F_X11_insideNow_l4 (O : mO) (d : Nat) (v0 : Nat) (s1 : Int32) (s2 : Int32) (K : mH) : Option ((Int32 × Int32 × mH) ⊕ (Int32 × mH)) :=
  (gtA K v0 11 3).bind fun x1 =>
  (rdI O K x1 (nI 2)).bind fun x2 =>
  if x2 ≤ s2 then
    some (.inr (s1, K))
  else
    (toI (vc O d 11 MX11_isIn v0 [.int s2] K)).bind fun p4 =>
    some (.inl ((s1 + (if p4.1 = 0 then (nI 0) else (nI 1))), (s2 + nI 1), p4.2))
theorem e_X11_insideNow_l4 {O : mO} {d : Nat} {v0 : Nat} {P : Option Value → mH → Prop} {x : Int32 × mH} (hex : ∀ q : Int32 × mH, x = q → Go O (d + 1) MX11_insideNow 36 [none, some (.int q.1), none] [] q.2 P) : ∀ (f : Nat) (q : Int32 × Int32 × mH), lupF (fun (q : Int32 × Int32 × mH) => F_X11_insideNow_l4 O d v0 q.1 q.2.1 q.2.2) f q = some x → Go O (d + 1) MX11_insideNow 4 [some (.ref v0), some (.int q.1), some (.int q.2.1)] [] q.2.2 P := by
  intro f
  induction f with
  | zero =>
    intro q h
    cases h
  | succ f ih =>
    intro q h
    obtain ⟨y, h, hy1, hy2⟩ := lupF_s h
    have hin : ∀ q : Int32 × Int32 × mH, y = .inl q → Go O (d + 1) MX11_insideNow 4 [some (.ref v0), some (.int q.1), some (.int q.2.1)] [] q.2.2 P := fun q e => ih q (hy1 q e)
    replace hex : ∀ q : Int32 × mH, y = .inr q → Go O (d + 1) MX11_insideNow 36 [none, some (.int q.1), none] [] q.2 P := fun q e => hex q (hy2 q e).symm
    clear ih hy1 hy2
    obtain ⟨s1, s2, K⟩ := q
    dsimp only at h ⊢
    unfold F_X11_insideNow_l4 at h
    refine g_iload_n dX11_insideNow_4 rfl ?_
    refine g_aload_n dX11_insideNow_5 rfl ?_
    obtain ⟨x1, ex1, h⟩ := bs h
    refine q_getA dX11_insideNow_6 fX11_13 ex1 ?_
    refine g_iconst (v := (nI 2)) dX11_insideNow_9 (by decide) ?_
    obtain ⟨x2, ex2, h⟩ := bs h
    refine q_iald dX11_insideNow_10 ex2 ?_
    refine g_ic_ge (t := 36) dX11_insideNow_11 (by decide) (fun c3 => ?_) (fun c3 => ?_)
    · rw [if_pos c3] at h
      refine Go_le ?_ (hex (s1, K) (Option.some.inj h).symm)
      exact And.intro rfl (trivial)
    · rw [if_neg c3] at h
      refine g_iload_n dX11_insideNow_14 rfl ?_
      refine g_aload_n dX11_insideNow_15 rfl ?_
      refine g_iload_n dX11_insideNow_16 rfl ?_
      obtain ⟨p4, ep4, h⟩ := bs h
      refine q_virt (Z := MX11_isIn) (c := (RX11, TX11, 56)) (toI_s ep4) dX11_insideNow_17 mX11_182.1 mX11_182.2 (Nat.le_of_ble_eq_true rfl) rfl rfl (Nat.le_of_ble_eq_true rfl) (Nat.le_of_ble_eq_true rfl) rfl rfl ?_
      show Go O (d + 1) MX11_insideNow 20 [some (.ref v0), some (.int s1), some (.int s2)] [.int p4.1, .int s1] p4.2 P
      have hj : Go O (d + 1) MX11_insideNow 28 [some (.ref v0), none, some (.int s2)] [.int (if p4.1 = 0 then (nI 0) else (nI 1)), .int s1] p4.2 P := by
        refine g_iadd dX11_insideNow_28 ?_
        refine g_istore_n (ls' := [some (.ref v0), some (.int (s1 + (if p4.1 = 0 then (nI 0) else (nI 1)))), some (.int s2)]) dX11_insideNow_29 (by decide) rfl ?_
        refine q_iinc (w := nI 1) (ls' := [some (.ref v0), some (.int (s1 + (if p4.1 = 0 then (nI 0) else (nI 1)))), some (.int (s2 + nI 1))]) dX11_insideNow_30 (by decide) rfl (by decide) rfl ?_
        refine g_goto (t := 4) dX11_insideNow_33 (by decide) ?_
        refine Go_le ?_ (hin ((s1 + (if p4.1 = 0 then (nI 0) else (nI 1))), (s2 + nI 1), p4.2) (Option.some.inj h).symm)
        exact And.intro rfl (And.intro rfl (And.intro rfl (trivial)))
      refine g_if_eq (t := 27) dX11_insideNow_20 (by decide) (fun c5 => ?_) (fun c5 => ?_)
      · skip
        refine g_iconst (v := (nI 0)) dX11_insideNow_27 (by decide) ?_
        have hk : Go O (d + 1) MX11_insideNow 28 [some (.ref v0), none, some (.int s2)] [.int (nI 0), .int s1] p4.2 P := by simpa only [if_pos c5] using hj
        refine Go_le ?_ hk
        exact And.intro rfl (And.intro rfl (trivial))
      · skip
        refine g_iconst (v := (nI 1)) dX11_insideNow_23 (by decide) ?_
        refine g_goto (t := 28) dX11_insideNow_24 (by decide) ?_
        have hk : Go O (d + 1) MX11_insideNow 28 [some (.ref v0), none, some (.int s2)] [.int (nI 1), .int s1] p4.2 P := by simpa only [if_neg c5] using hj
        refine Go_le ?_ hk
        exact And.intro rfl (And.intro rfl (trivial))
noncomputable def F_X11_insideNow (O : mO) (d : Nat) (a0 : Nat) (K : mH) : Option (Int32 × mH) :=
  (lupF (fun (q : Int32 × Int32 × mH) => F_X11_insideNow_l4 O d a0 q.1 q.2.1 q.2.2) FU ((nI 0), (nI 0), K)).bind fun r6 =>
  some (r6.1, r6.2)
theorem e_X11_insideNow {O : mO} {d : Nat} {a0 : Nat} {K : mH} {r0 : Int32} {K0 : mH} (h : F_X11_insideNow O d a0 K = some (r0, K0)) : ev O (d + 1) MX11_insideNow [.ref a0] K = some (some (.int r0), K0) := by
  refine Rn_evx ?_
  show Go O (d + 1) MX11_insideNow 0 [some (.ref a0), none, none] [] K _
  generalize hP : (fun (r : Option Value) (K' : mH) => (r, K') = (some (.int r0), K0)) = P
  have hret : ∀ (r : Int32) (K' : mH), (r, K') = (r0, K0) → P (some (.int r)) K' := by
    intro r K' e
    cases e
    subst hP
    rfl
  clear hP
  unfold F_X11_insideNow at h
  refine g_iconst (v := (nI 0)) dX11_insideNow_0 (by decide) ?_
  refine g_istore_n (ls' := [some (.ref a0), some (.int (nI 0)), none]) dX11_insideNow_1 (by decide) rfl ?_
  refine g_iconst (v := (nI 0)) dX11_insideNow_2 (by decide) ?_
  refine g_istore_n (ls' := [some (.ref a0), some (.int (nI 0)), some (.int (nI 0))]) dX11_insideNow_3 (by decide) rfl ?_
  obtain ⟨r6, er6, h⟩ := bs h
  have hx : Go O (d + 1) MX11_insideNow 36 [none, some (.int r6.1), none] [] r6.2 P := by
    refine g_iload_n dX11_insideNow_36 rfl ?_
    exact g_ireturn dX11_insideNow_37 rfl (by first | rfl | decide) (hret _ _ (Option.some.inj h))
  refine Go_le ?_ (e_X11_insideNow_l4 (fun q e => by cases e; exact hx) FU ((nI 0), (nI 0), K) er6)
  exact And.intro rfl (And.intro rfl (And.intro rfl (trivial)))
noncomputable def F_X11_vault_l54 (O : mO) (d : Nat) (v0 : Nat) (v2 : Int32) (s3 : Int32) (K : mH) : Option ((Int32 × mH) ⊕ (mH)) :=
  if (nI 8) ≤ s3 then
    some (.inr K)
  else
    (gtA K v0 11 3).bind fun x10 =>
    (wrI K x10 (((nI 50) + ((nI 5) * s3)) + v2) (nI 0)).bind fun K11 =>
    some (.inl ((s3 + nI 1), K11))
theorem e_X11_vault_l54 {O : mO} {d : Nat} {v0 : Nat} {v2 : Int32} {P : Option Value → mH → Prop} {x : mH} (hex : ∀ q : mH, x = q → Go O (d + 1) MX11_vault 80 [some (.ref v0), none, some (.int v2), none] [] q P) : ∀ (f : Nat) (q : Int32 × mH), lupF (fun (q : Int32 × mH) => F_X11_vault_l54 O d v0 v2 q.1 q.2) f q = some x → Go O (d + 1) MX11_vault 54 [some (.ref v0), none, some (.int v2), some (.int q.1)] [] q.2 P := by
  intro f
  induction f with
  | zero =>
    intro q h
    cases h
  | succ f ih =>
    intro q h
    obtain ⟨y, h, hy1, hy2⟩ := lupF_s h
    have hin : ∀ q : Int32 × mH, y = .inl q → Go O (d + 1) MX11_vault 54 [some (.ref v0), none, some (.int v2), some (.int q.1)] [] q.2 P := fun q e => ih q (hy1 q e)
    replace hex : ∀ q : mH, y = .inr q → Go O (d + 1) MX11_vault 80 [some (.ref v0), none, some (.int v2), none] [] q P := fun q e => hex q (hy2 q e).symm
    clear ih hy1 hy2
    obtain ⟨s3, K⟩ := q
    dsimp only at h ⊢
    unfold F_X11_vault_l54 at h
    refine g_iload_n dX11_vault_54 rfl ?_
    refine g_bipush (v := (nI 8)) dX11_vault_55 (by decide) ?_
    refine g_ic_ge (t := 80) dX11_vault_57 (by decide) (fun c9 => ?_) (fun c9 => ?_)
    · rw [if_pos c9] at h
      refine Go_le ?_ (hex K (Option.some.inj h).symm)
      exact And.intro rfl (And.intro rfl (trivial))
    · rw [if_neg c9] at h
      refine g_aload_n dX11_vault_60 rfl ?_
      obtain ⟨x10, ex10, h⟩ := bs h
      refine q_getA dX11_vault_61 fX11_13 ex10 ?_
      refine g_bipush (v := (nI 50)) dX11_vault_64 (by decide) ?_
      refine g_iconst (v := (nI 5)) dX11_vault_66 (by decide) ?_
      refine g_iload_n dX11_vault_67 rfl ?_
      refine g_imul dX11_vault_68 ?_
      refine g_iadd dX11_vault_69 ?_
      refine g_iload_n dX11_vault_70 rfl ?_
      refine g_iadd dX11_vault_71 ?_
      refine g_iconst (v := (nI 0)) dX11_vault_72 (by decide) ?_
      obtain ⟨K11, eK11, h⟩ := bs h
      refine q_iast dX11_vault_73 eK11 ?_
      refine q_iinc (w := nI 1) (ls' := [some (.ref v0), none, some (.int v2), some (.int (s3 + nI 1))]) dX11_vault_74 (by decide) rfl (by decide) rfl ?_
      refine g_goto (t := 54) dX11_vault_77 (by decide) ?_
      refine Go_le ?_ (hin ((s3 + nI 1), K11) (Option.some.inj h).symm)
      exact And.intro rfl (And.intro rfl (And.intro rfl (trivial)))
noncomputable def F_X11_vault (O : mO) (d : Nat) (a0 : Nat) (a1 : Int32) (K : mH) : Option (Int32 × mH) :=
  (ptI K a0 11 0 (nI 0)).bind fun K1 =>
  (toI (ev O d MX11_in [.long a1.toInt64, .long 1, .long (3)] K1)).bind fun p2 =>
  if p2.1 = 0 then
    (toI (vc O d 11 MX11_tell a0 [.int (-1)] p2.2)).bind fun p18 =>
    some (p18.1, p18.2)
  else
    (gtA p2.2 a0 11 3).bind fun x4 =>
    (rdI O p2.2 x4 (nI 0)).bind fun x5 =>
    if x5 = (nI 5) then
      (toI (vc O d 11 MX11_tell a0 [.int (-5)] p2.2)).bind fun p17 =>
      some (p17.1, p17.2)
    else
      (gtA p2.2 a0 11 3).bind fun x7 =>
      (wrI p2.2 x7 ((nI 37) + x5) a1).bind fun K8 =>
      (lupF (fun (q : Int32 × mH) => F_X11_vault_l54 O d a0 x5 q.1 q.2) FU ((nI 0), K8)).bind fun r12 =>
      (gtA r12 a0 11 3).bind fun x13 =>
      (rdI O r12 x13 (nI 0)).bind fun x14 =>
      (wrI r12 x13 (nI 0) (x14 + (nI 1))).bind fun K15 =>
      (toI (vc O d 11 MX11_settled a0 [.int x5] K15)).bind fun p16 =>
      some (p16.1, p16.2)
theorem e_X11_vault {O : mO} {d : Nat} {a0 : Nat} {a1 : Int32} {K : mH} {r0 : Int32} {K0 : mH} (h : F_X11_vault O d a0 a1 K = some (r0, K0)) : ev O (d + 1) MX11_vault [.ref a0, .int a1] K = some (some (.int r0), K0) := by
  refine Rn_evx ?_
  show Go O (d + 1) MX11_vault 0 [some (.ref a0), some (.int a1), none, none] [] K _
  generalize hP : (fun (r : Option Value) (K' : mH) => (r, K') = (some (.int r0), K0)) = P
  have hret : ∀ (r : Int32) (K' : mH), (r, K') = (r0, K0) → P (some (.int r)) K' := by
    intro r K' e
    cases e
    subst hP
    rfl
  clear hP
  unfold F_X11_vault at h
  refine g_aload_n dX11_vault_0 rfl ?_
  refine g_iconst (v := (nI 0)) dX11_vault_1 (by decide) ?_
  obtain ⟨K1, eK1, h⟩ := bs h
  refine q_put (c := (RX11, TX11, 56)) dX11_vault_2 fX11_149 rfl rfl rfl (fun h => absurd h (by decide)) eK1 ?_
  refine g_iload_n dX11_vault_5 rfl ?_
  refine g_i2l dX11_vault_6 ?_
  refine g_lconst (v := 1) dX11_vault_7 (by decide) ?_
  refine g_ldc2 (v := 3) dX11_vault_8 lX11_186 ?_
  obtain ⟨p2, ep2, h⟩ := bs h
  refine q_stat (Z := MX11_in) (toI_s ep2) dX11_vault_11 mX11_169.1 mX11_169.2 (Nat.le_of_ble_eq_true rfl) rfl rfl (Nat.le_of_ble_eq_true rfl) (Nat.le_of_ble_eq_true rfl) ?_
  show Go O (d + 1) MX11_vault 14 [some (.ref a0), some (.int a1), none, none] [.int p2.1] p2.2 P
  refine g_if_ne (t := 23) dX11_vault_14 (by decide) (fun c3 => ?_) (fun c3 => ?_)
  · rw [if_neg c3] at h
    refine g_aload_n dX11_vault_23 rfl ?_
    obtain ⟨x4, ex4, h⟩ := bs h
    refine q_getA dX11_vault_24 fX11_13 ex4 ?_
    refine g_iconst (v := (nI 0)) dX11_vault_27 (by decide) ?_
    obtain ⟨x5, ex5, h⟩ := bs h
    refine q_iald dX11_vault_28 ex5 ?_
    refine g_istore_n (ls' := [some (.ref a0), some (.int a1), some (.int x5), none]) dX11_vault_29 (by decide) rfl ?_
    refine g_iload_n dX11_vault_30 rfl ?_
    refine g_iconst (v := (nI 5)) dX11_vault_31 (by decide) ?_
    refine g_ic_ne (t := 42) dX11_vault_32 (by decide) (fun c6 => ?_) (fun c6 => ?_)
    · rw [if_neg c6] at h
      refine g_aload_n dX11_vault_42 rfl ?_
      obtain ⟨x7, ex7, h⟩ := bs h
      refine q_getA dX11_vault_43 fX11_13 ex7 ?_
      refine g_bipush (v := (nI 37)) dX11_vault_46 (by decide) ?_
      refine g_iload_n dX11_vault_48 rfl ?_
      refine g_iadd dX11_vault_49 ?_
      refine g_iload_n dX11_vault_50 rfl ?_
      obtain ⟨K8, eK8, h⟩ := bs h
      refine q_iast dX11_vault_51 eK8 ?_
      refine g_iconst (v := (nI 0)) dX11_vault_52 (by decide) ?_
      refine g_istore_n (ls' := [some (.ref a0), some (.int a1), some (.int x5), some (.int (nI 0))]) dX11_vault_53 (by decide) rfl ?_
      obtain ⟨r12, er12, h⟩ := bs h
      have hx : Go O (d + 1) MX11_vault 80 [some (.ref a0), none, some (.int x5), none] [] r12 P := by
        refine g_aload_n dX11_vault_80 rfl ?_
        obtain ⟨x13, ex13, h⟩ := bs h
        refine q_getA dX11_vault_81 fX11_13 ex13 ?_
        refine g_iconst (v := (nI 0)) dX11_vault_84 (by decide) ?_
        refine g_dup2 dX11_vault_85 rfl rfl ?_
        obtain ⟨x14, ex14, h⟩ := bs h
        refine q_iald dX11_vault_86 ex14 ?_
        refine g_iconst (v := (nI 1)) dX11_vault_87 (by decide) ?_
        refine g_iadd dX11_vault_88 ?_
        obtain ⟨K15, eK15, h⟩ := bs h
        refine q_iast dX11_vault_89 eK15 ?_
        refine g_aload_n dX11_vault_90 rfl ?_
        refine g_iload_n dX11_vault_91 rfl ?_
        obtain ⟨p16, ep16, h⟩ := bs h
        refine q_virt (Z := MX11_settled) (c := (RX11, TX11, 56)) (toI_s ep16) dX11_vault_92 mX11_173.1 mX11_173.2 (Nat.le_of_ble_eq_true rfl) rfl rfl (Nat.le_of_ble_eq_true rfl) (Nat.le_of_ble_eq_true rfl) rfl rfl ?_
        show Go O (d + 1) MX11_vault 95 [some (.ref a0), none, some (.int x5), none] [.int p16.1] p16.2 P
        exact g_ireturn dX11_vault_95 rfl (by first | rfl | decide) (hret _ _ (Option.some.inj h))
      refine Go_le ?_ (e_X11_vault_l54 (fun q e => by cases e; exact hx) FU ((nI 0), K8) er12)
      exact And.intro rfl (And.intro rfl (And.intro rfl (trivial)))
    · rw [if_pos c6] at h
      refine g_aload_n dX11_vault_35 rfl ?_
      refine g_bipush (v := (-5)) dX11_vault_36 (by decide) ?_
      obtain ⟨p17, ep17, h⟩ := bs h
      refine q_virt (Z := MX11_tell) (c := (RX11, TX11, 56)) (toI_s ep17) dX11_vault_38 mX11_158.1 mX11_158.2 (Nat.le_of_ble_eq_true rfl) rfl rfl (Nat.le_of_ble_eq_true rfl) (Nat.le_of_ble_eq_true rfl) rfl rfl ?_
      show Go O (d + 1) MX11_vault 41 [some (.ref a0), some (.int a1), some (.int x5), none] [.int p17.1] p17.2 P
      exact g_ireturn dX11_vault_41 rfl (by first | rfl | decide) (hret _ _ (Option.some.inj h))
  · rw [if_pos c3] at h
    refine g_aload_n dX11_vault_17 rfl ?_
    refine g_iconst (v := (-1)) dX11_vault_18 (by decide) ?_
    obtain ⟨p18, ep18, h⟩ := bs h
    refine q_virt (Z := MX11_tell) (c := (RX11, TX11, 56)) (toI_s ep18) dX11_vault_19 mX11_158.1 mX11_158.2 (Nat.le_of_ble_eq_true rfl) rfl rfl (Nat.le_of_ble_eq_true rfl) (Nat.le_of_ble_eq_true rfl) rfl rfl ?_
    show Go O (d + 1) MX11_vault 22 [some (.ref a0), some (.int a1), none, none] [.int p18.1] p18.2 P
    exact g_ireturn dX11_vault_22 rfl (by first | rfl | decide) (hret _ _ (Option.some.inj h))
noncomputable def F_X11_at (O : mO) (d : Nat) (a0 : Nat) (a1 : Int32) (a2 : Int32) (K : mH) : Option (Int32 × mH) :=
  (ptI K a0 11 0 (nI 0)).bind fun K1 =>
  (toI (vc O d 11 MX11_isVault a0 [.int a1] K1)).bind fun p2 =>
  if p2.1 = 0 then
    some ((-1), p2.2)
  else
    if a2 = nI 0 then
      (gtA p2.2 a0 11 3).bind fun x5 =>
      (rdI O p2.2 x5 ((nI 37) + a1)).bind fun x6 =>
      some (x6, p2.2)
    else if a2 = nI 1 then
      (toI (vc O d 11 MX11_freeIn a0 [.int a1] p2.2)).bind fun p8 =>
      some (p8.1, p8.2)
    else if a2 = nI 2 then
      (toI (vc O d 11 MX11_lyingIn a0 [.int a1] p2.2)).bind fun p10 =>
      some (p10.1, p10.2)
    else 
      some ((-1), p2.2)
theorem e_X11_at {O : mO} {d : Nat} {a0 : Nat} {a1 : Int32} {a2 : Int32} {K : mH} {r0 : Int32} {K0 : mH} (h : F_X11_at O d a0 a1 a2 K = some (r0, K0)) : ev O (d + 1) MX11_at [.ref a0, .int a1, .int a2] K = some (some (.int r0), K0) := by
  refine Rn_evx ?_
  show Go O (d + 1) MX11_at 0 [some (.ref a0), some (.int a1), some (.int a2)] [] K _
  generalize hP : (fun (r : Option Value) (K' : mH) => (r, K') = (some (.int r0), K0)) = P
  have hret : ∀ (r : Int32) (K' : mH), (r, K') = (r0, K0) → P (some (.int r)) K' := by
    intro r K' e
    cases e
    subst hP
    rfl
  clear hP
  unfold F_X11_at at h
  refine g_aload_n dX11_at_0 rfl ?_
  refine g_iconst (v := (nI 0)) dX11_at_1 (by decide) ?_
  obtain ⟨K1, eK1, h⟩ := bs h
  refine q_put (c := (RX11, TX11, 56)) dX11_at_2 fX11_149 rfl rfl rfl (fun h => absurd h (by decide)) eK1 ?_
  refine g_aload_n dX11_at_5 rfl ?_
  refine g_iload_n dX11_at_6 rfl ?_
  obtain ⟨p2, ep2, h⟩ := bs h
  refine q_virt (Z := MX11_isVault) (c := (RX11, TX11, 56)) (toI_s ep2) dX11_at_7 mX11_188.1 mX11_188.2 (Nat.le_of_ble_eq_true rfl) rfl rfl (Nat.le_of_ble_eq_true rfl) (Nat.le_of_ble_eq_true rfl) rfl rfl ?_
  show Go O (d + 1) MX11_at 10 [some (.ref a0), some (.int a1), some (.int a2)] [.int p2.1] p2.2 P
  refine g_if_ne (t := 15) dX11_at_10 (by decide) (fun c3 => ?_) (fun c3 => ?_)
  · rw [if_neg c3] at h
    refine g_iload_n dX11_at_15 rfl ?_
    by_cases c4 : a2 = nI 0
    · rw [if_pos c4] at h
      refine g_tsI (t := 44) (off := 28) dX11_at_16 (by rw [c4]; decide) (by rw [c4]; decide) (by decide) ?_
      refine g_aload_n dX11_at_44 rfl ?_
      obtain ⟨x5, ex5, h⟩ := bs h
      refine q_getA dX11_at_45 fX11_13 ex5 ?_
      refine g_bipush (v := (nI 37)) dX11_at_48 (by decide) ?_
      refine g_iload_n dX11_at_50 rfl ?_
      refine g_iadd dX11_at_51 ?_
      obtain ⟨x6, ex6, h⟩ := bs h
      refine q_iald dX11_at_52 ex6 ?_
      exact g_ireturn dX11_at_53 rfl (by first | rfl | decide) (hret _ _ (Option.some.inj h))
    rw [if_neg c4] at h
    by_cases c7 : a2 = nI 1
    · rw [if_pos c7] at h
      refine g_tsI (t := 54) (off := 38) dX11_at_16 (by rw [c7]; decide) (by rw [c7]; decide) (by decide) ?_
      refine g_aload_n dX11_at_54 rfl ?_
      refine g_iload_n dX11_at_55 rfl ?_
      obtain ⟨p8, ep8, h⟩ := bs h
      refine q_virt (Z := MX11_freeIn) (c := (RX11, TX11, 56)) (toI_s ep8) dX11_at_56 mX11_191.1 mX11_191.2 (Nat.le_of_ble_eq_true rfl) rfl rfl (Nat.le_of_ble_eq_true rfl) (Nat.le_of_ble_eq_true rfl) rfl rfl ?_
      show Go O (d + 1) MX11_at 59 [some (.ref a0), some (.int a1), some (.int a2)] [.int p8.1] p8.2 P
      exact g_ireturn dX11_at_59 rfl (by first | rfl | decide) (hret _ _ (Option.some.inj h))
    rw [if_neg c7] at h
    by_cases c9 : a2 = nI 2
    · rw [if_pos c9] at h
      refine g_tsI (t := 60) (off := 44) dX11_at_16 (by rw [c9]; decide) (by rw [c9]; decide) (by decide) ?_
      refine g_aload_n dX11_at_60 rfl ?_
      refine g_iload_n dX11_at_61 rfl ?_
      obtain ⟨p10, ep10, h⟩ := bs h
      refine q_virt (Z := MX11_lyingIn) (c := (RX11, TX11, 56)) (toI_s ep10) dX11_at_62 mX11_176.1 mX11_176.2 (Nat.le_of_ble_eq_true rfl) rfl rfl (Nat.le_of_ble_eq_true rfl) (Nat.le_of_ble_eq_true rfl) rfl rfl ?_
      show Go O (d + 1) MX11_at 65 [some (.ref a0), some (.int a1), some (.int a2)] [.int p10.1] p10.2 P
      exact g_ireturn dX11_at_65 rfl (by first | rfl | decide) (hret _ _ (Option.some.inj h))
    rw [if_neg c9] at h
    refine g_tsO (t := 66) dX11_at_16 ?_ (by decide) ?_
    rotate_left
    · skip
      refine g_iconst (v := (-1)) dX11_at_66 (by decide) ?_
      exact g_ireturn dX11_at_67 rfl (by first | rfl | decide) (hret _ _ (Option.some.inj h))
    have ic4 := ts_ne (by decide) c4
    have ic7 := ts_ne (by decide) c7
    have ic9 := ts_ne (by decide) c9
    omega
  · rw [if_pos c3] at h
    refine g_iconst (v := (-1)) dX11_at_13 (by decide) ?_
    exact g_ireturn dX11_at_14 rfl (by first | rfl | decide) (hret _ _ (Option.some.inj h))
noncomputable def F_X11_family (O : mO) (d : Nat) (a0 : Nat) (a1 : Int32) (K : mH) : Option (Int32 × mH) :=
  (ptI K a0 11 0 (nI 0)).bind fun K1 =>
  (toI (ev O d MX11_in [.long a1.toInt64, .long 0, .long (999)] K1)).bind fun p2 =>
  if p2.1 = 0 then
    (toI (vc O d 11 MX11_tell a0 [.int (-1)] p2.2)).bind fun p14 =>
    some (p14.1, p14.2)
  else
    (gtA p2.2 a0 11 3).bind fun x4 =>
    (rdI O p2.2 x4 (nI 1)).bind fun x5 =>
    if x5 = (nI 4) then
      (toI (vc O d 11 MX11_tell a0 [.int (-5)] p2.2)).bind fun p13 =>
      some (p13.1, p13.2)
    else
      (gtA p2.2 a0 11 3).bind fun x7 =>
      (wrI p2.2 x7 ((nI 33) + x5) a1).bind fun K8 =>
      (gtA K8 a0 11 3).bind fun x9 =>
      (rdI O K8 x9 (nI 1)).bind fun x10 =>
      (wrI K8 x9 (nI 1) (x10 + (nI 1))).bind fun K11 =>
      (toI (vc O d 11 MX11_settled a0 [.int x5] K11)).bind fun p12 =>
      some (p12.1, p12.2)
theorem e_X11_family {O : mO} {d : Nat} {a0 : Nat} {a1 : Int32} {K : mH} {r0 : Int32} {K0 : mH} (h : F_X11_family O d a0 a1 K = some (r0, K0)) : ev O (d + 1) MX11_family [.ref a0, .int a1] K = some (some (.int r0), K0) := by
  refine Rn_evx ?_
  show Go O (d + 1) MX11_family 0 [some (.ref a0), some (.int a1), none] [] K _
  generalize hP : (fun (r : Option Value) (K' : mH) => (r, K') = (some (.int r0), K0)) = P
  have hret : ∀ (r : Int32) (K' : mH), (r, K') = (r0, K0) → P (some (.int r)) K' := by
    intro r K' e
    cases e
    subst hP
    rfl
  clear hP
  unfold F_X11_family at h
  refine g_aload_n dX11_family_0 rfl ?_
  refine g_iconst (v := (nI 0)) dX11_family_1 (by decide) ?_
  obtain ⟨K1, eK1, h⟩ := bs h
  refine q_put (c := (RX11, TX11, 56)) dX11_family_2 fX11_149 rfl rfl rfl (fun h => absurd h (by decide)) eK1 ?_
  refine g_iload_n dX11_family_5 rfl ?_
  refine g_i2l dX11_family_6 ?_
  refine g_lconst (v := 0) dX11_family_7 (by decide) ?_
  refine g_ldc2 (v := 999) dX11_family_8 lX11_194 ?_
  obtain ⟨p2, ep2, h⟩ := bs h
  refine q_stat (Z := MX11_in) (toI_s ep2) dX11_family_11 mX11_169.1 mX11_169.2 (Nat.le_of_ble_eq_true rfl) rfl rfl (Nat.le_of_ble_eq_true rfl) (Nat.le_of_ble_eq_true rfl) ?_
  show Go O (d + 1) MX11_family 14 [some (.ref a0), some (.int a1), none] [.int p2.1] p2.2 P
  refine g_if_ne (t := 23) dX11_family_14 (by decide) (fun c3 => ?_) (fun c3 => ?_)
  · rw [if_neg c3] at h
    refine g_aload_n dX11_family_23 rfl ?_
    obtain ⟨x4, ex4, h⟩ := bs h
    refine q_getA dX11_family_24 fX11_13 ex4 ?_
    refine g_iconst (v := (nI 1)) dX11_family_27 (by decide) ?_
    obtain ⟨x5, ex5, h⟩ := bs h
    refine q_iald dX11_family_28 ex5 ?_
    refine g_istore_n (ls' := [some (.ref a0), some (.int a1), some (.int x5)]) dX11_family_29 (by decide) rfl ?_
    refine g_iload_n dX11_family_30 rfl ?_
    refine g_iconst (v := (nI 4)) dX11_family_31 (by decide) ?_
    refine g_ic_ne (t := 42) dX11_family_32 (by decide) (fun c6 => ?_) (fun c6 => ?_)
    · rw [if_neg c6] at h
      refine g_aload_n dX11_family_42 rfl ?_
      obtain ⟨x7, ex7, h⟩ := bs h
      refine q_getA dX11_family_43 fX11_13 ex7 ?_
      refine g_bipush (v := (nI 33)) dX11_family_46 (by decide) ?_
      refine g_iload_n dX11_family_48 rfl ?_
      refine g_iadd dX11_family_49 ?_
      refine g_iload_n dX11_family_50 rfl ?_
      obtain ⟨K8, eK8, h⟩ := bs h
      refine q_iast dX11_family_51 eK8 ?_
      refine g_aload_n dX11_family_52 rfl ?_
      obtain ⟨x9, ex9, h⟩ := bs h
      refine q_getA dX11_family_53 fX11_13 ex9 ?_
      refine g_iconst (v := (nI 1)) dX11_family_56 (by decide) ?_
      refine g_dup2 dX11_family_57 rfl rfl ?_
      obtain ⟨x10, ex10, h⟩ := bs h
      refine q_iald dX11_family_58 ex10 ?_
      refine g_iconst (v := (nI 1)) dX11_family_59 (by decide) ?_
      refine g_iadd dX11_family_60 ?_
      obtain ⟨K11, eK11, h⟩ := bs h
      refine q_iast dX11_family_61 eK11 ?_
      refine g_aload_n dX11_family_62 rfl ?_
      refine g_iload_n dX11_family_63 rfl ?_
      obtain ⟨p12, ep12, h⟩ := bs h
      refine q_virt (Z := MX11_settled) (c := (RX11, TX11, 56)) (toI_s ep12) dX11_family_64 mX11_173.1 mX11_173.2 (Nat.le_of_ble_eq_true rfl) rfl rfl (Nat.le_of_ble_eq_true rfl) (Nat.le_of_ble_eq_true rfl) rfl rfl ?_
      show Go O (d + 1) MX11_family 67 [some (.ref a0), some (.int a1), some (.int x5)] [.int p12.1] p12.2 P
      exact g_ireturn dX11_family_67 rfl (by first | rfl | decide) (hret _ _ (Option.some.inj h))
    · rw [if_pos c6] at h
      refine g_aload_n dX11_family_35 rfl ?_
      refine g_bipush (v := (-5)) dX11_family_36 (by decide) ?_
      obtain ⟨p13, ep13, h⟩ := bs h
      refine q_virt (Z := MX11_tell) (c := (RX11, TX11, 56)) (toI_s ep13) dX11_family_38 mX11_158.1 mX11_158.2 (Nat.le_of_ble_eq_true rfl) rfl rfl (Nat.le_of_ble_eq_true rfl) (Nat.le_of_ble_eq_true rfl) rfl rfl ?_
      show Go O (d + 1) MX11_family 41 [some (.ref a0), some (.int a1), some (.int x5)] [.int p13.1] p13.2 P
      exact g_ireturn dX11_family_41 rfl (by first | rfl | decide) (hret _ _ (Option.some.inj h))
  · rw [if_pos c3] at h
    refine g_aload_n dX11_family_17 rfl ?_
    refine g_iconst (v := (-1)) dX11_family_18 (by decide) ?_
    obtain ⟨p14, ep14, h⟩ := bs h
    refine q_virt (Z := MX11_tell) (c := (RX11, TX11, 56)) (toI_s ep14) dX11_family_19 mX11_158.1 mX11_158.2 (Nat.le_of_ble_eq_true rfl) rfl rfl (Nat.le_of_ble_eq_true rfl) (Nat.le_of_ble_eq_true rfl) rfl rfl ?_
    show Go O (d + 1) MX11_family 22 [some (.ref a0), some (.int a1), none] [.int p14.1] p14.2 P
    exact g_ireturn dX11_family_22 rfl (by first | rfl | decide) (hret _ _ (Option.some.inj h))
noncomputable def F_X11_billOf_j45 (O : mO) (d : Nat) (v0 : Nat) (v1 : Int32) (v3 : Int32) (w0 : Int32) (w1 : Int32) (K : mH) : Option ((Int32 × Int32 × mH) ⊕ (Int32 × mH)) :=
  some (.inl ((w1 + w0), (v3 + nI 1), K))
theorem e_X11_billOf_j45 {O : mO} {d : Nat} {v0 : Nat} {v1 : Int32} {v3 : Int32} {w0 : Int32} {w1 : Int32} {K : mH} {P : Option Value → mH → Prop} {y : (Int32 × Int32 × mH) ⊕ (Int32 × mH)} (hin : ∀ q : Int32 × Int32 × mH, y = .inl q → Go O (d + 1) MX11_billOf 4 [some (.ref v0), some (.int v1), some (.int q.1), some (.int q.2.1)] [] q.2.2 P) (hex : ∀ q : Int32 × mH, y = .inr q → Go O (d + 1) MX11_billOf 53 [none, none, some (.int q.1), none] [] q.2 P) (h : F_X11_billOf_j45 O d v0 v1 v3 w0 w1 K = some y) : Go O (d + 1) MX11_billOf 45 [some (.ref v0), some (.int v1), none, some (.int v3)] [.int w0, .int w1] K P := by
  unfold F_X11_billOf_j45 at h
  refine g_iadd dX11_billOf_45 ?_
  refine g_istore_n (ls' := [some (.ref v0), some (.int v1), some (.int (w1 + w0)), some (.int v3)]) dX11_billOf_46 (by decide) rfl ?_
  refine q_iinc (w := nI 1) (ls' := [some (.ref v0), some (.int v1), some (.int (w1 + w0)), some (.int (v3 + nI 1))]) dX11_billOf_47 (by decide) rfl (by decide) rfl ?_
  refine g_goto (t := 4) dX11_billOf_50 (by decide) ?_
  refine Go_le ?_ (hin ((w1 + w0), (v3 + nI 1), K) (Option.some.inj h).symm)
  exact And.intro rfl (And.intro rfl (And.intro rfl (And.intro rfl (trivial))))
noncomputable def F_X11_billOf_j44 (O : mO) (d : Nat) (v0 : Nat) (v1 : Int32) (v3 : Int32) (w0 : Int32) (K : mH) : Option ((Int32 × Int32 × mH) ⊕ (Int32 × mH)) :=
  F_X11_billOf_j45 O d v0 v1 v3 (nI 0) w0 K
theorem e_X11_billOf_j44 {O : mO} {d : Nat} {v0 : Nat} {v1 : Int32} {v3 : Int32} {w0 : Int32} {K : mH} {P : Option Value → mH → Prop} {y : (Int32 × Int32 × mH) ⊕ (Int32 × mH)} (hin : ∀ q : Int32 × Int32 × mH, y = .inl q → Go O (d + 1) MX11_billOf 4 [some (.ref v0), some (.int v1), some (.int q.1), some (.int q.2.1)] [] q.2.2 P) (hex : ∀ q : Int32 × mH, y = .inr q → Go O (d + 1) MX11_billOf 53 [none, none, some (.int q.1), none] [] q.2 P) (h : F_X11_billOf_j44 O d v0 v1 v3 w0 K = some y) : Go O (d + 1) MX11_billOf 44 [some (.ref v0), some (.int v1), none, some (.int v3)] [.int w0] K P := by
  unfold F_X11_billOf_j44 at h
  refine g_iconst (v := (nI 0)) dX11_billOf_44 (by decide) ?_
  refine Go_le ?_ (e_X11_billOf_j45 hin hex h)
  exact And.intro rfl (And.intro rfl (And.intro rfl (trivial)))
noncomputable def F_X11_billOf_l4 (O : mO) (d : Nat) (v0 : Nat) (v1 : Int32) (s2 : Int32) (s3 : Int32) (K : mH) : Option ((Int32 × Int32 × mH) ⊕ (Int32 × mH)) :=
  (gtA K v0 11 3).bind fun x1 =>
  (rdI O K x1 (nI 2)).bind fun x2 =>
  if x2 ≤ s3 then
    some (.inr (s2, K))
  else
    (gtA K v0 11 3).bind fun x4 =>
    (rdI O K x4 ((nI 42) + s3)).bind fun x5 =>
    if x5 = v1 then
      (toI (vc O d 11 MX11_isIn v0 [.int s3] K)).bind fun p8 =>
      if p8.1 = 0 then
        F_X11_billOf_j44 O d v0 v1 s3 s2 p8.2
      else
        (toI (vc O d 11 MX11_pricedAt v0 [.int s3] p8.2)).bind fun p11 =>
        F_X11_billOf_j45 O d v0 v1 s3 p11.1 s2 p11.2
    else
      F_X11_billOf_j44 O d v0 v1 s3 s2 K
theorem e_X11_billOf_l4 {O : mO} {d : Nat} {v0 : Nat} {v1 : Int32} {P : Option Value → mH → Prop} {x : Int32 × mH} (hex : ∀ q : Int32 × mH, x = q → Go O (d + 1) MX11_billOf 53 [none, none, some (.int q.1), none] [] q.2 P) : ∀ (f : Nat) (q : Int32 × Int32 × mH), lupF (fun (q : Int32 × Int32 × mH) => F_X11_billOf_l4 O d v0 v1 q.1 q.2.1 q.2.2) f q = some x → Go O (d + 1) MX11_billOf 4 [some (.ref v0), some (.int v1), some (.int q.1), some (.int q.2.1)] [] q.2.2 P := by
  intro f
  induction f with
  | zero =>
    intro q h
    cases h
  | succ f ih =>
    intro q h
    obtain ⟨y, h, hy1, hy2⟩ := lupF_s h
    have hin : ∀ q : Int32 × Int32 × mH, y = .inl q → Go O (d + 1) MX11_billOf 4 [some (.ref v0), some (.int v1), some (.int q.1), some (.int q.2.1)] [] q.2.2 P := fun q e => ih q (hy1 q e)
    replace hex : ∀ q : Int32 × mH, y = .inr q → Go O (d + 1) MX11_billOf 53 [none, none, some (.int q.1), none] [] q.2 P := fun q e => hex q (hy2 q e).symm
    clear ih hy1 hy2
    obtain ⟨s2, s3, K⟩ := q
    dsimp only at h ⊢
    unfold F_X11_billOf_l4 at h
    refine g_iload_n dX11_billOf_4 rfl ?_
    refine g_aload_n dX11_billOf_5 rfl ?_
    obtain ⟨x1, ex1, h⟩ := bs h
    refine q_getA dX11_billOf_6 fX11_13 ex1 ?_
    refine g_iconst (v := (nI 2)) dX11_billOf_9 (by decide) ?_
    obtain ⟨x2, ex2, h⟩ := bs h
    refine q_iald dX11_billOf_10 ex2 ?_
    refine g_ic_ge (t := 53) dX11_billOf_11 (by decide) (fun c3 => ?_) (fun c3 => ?_)
    · rw [if_pos c3] at h
      refine Go_le ?_ (hex (s2, K) (Option.some.inj h).symm)
      exact And.intro rfl (trivial)
    · rw [if_neg c3] at h
      refine g_iload_n dX11_billOf_14 rfl ?_
      refine g_aload_n dX11_billOf_15 rfl ?_
      obtain ⟨x4, ex4, h⟩ := bs h
      refine q_getA dX11_billOf_16 fX11_13 ex4 ?_
      refine g_bipush (v := (nI 42)) dX11_billOf_19 (by decide) ?_
      refine g_iload_n dX11_billOf_21 rfl ?_
      refine g_iadd dX11_billOf_22 ?_
      obtain ⟨x5, ex5, h⟩ := bs h
      refine q_iald dX11_billOf_23 ex5 ?_
      refine g_iload_n dX11_billOf_24 rfl ?_
      refine g_ic_ne (t := 44) dX11_billOf_25 (by decide) (fun c7 => ?_) (fun c7 => ?_)
      · rw [if_neg c7] at h
        refine Go_le ?_ (e_X11_billOf_j44 hin hex h)
        exact And.intro rfl (And.intro rfl (And.intro rfl (trivial)))
      · rw [if_pos c7] at h
        refine g_aload_n dX11_billOf_28 rfl ?_
        refine g_iload_n dX11_billOf_29 rfl ?_
        obtain ⟨p8, ep8, h⟩ := bs h
        refine q_virt (Z := MX11_isIn) (c := (RX11, TX11, 56)) (toI_s ep8) dX11_billOf_30 mX11_182.1 mX11_182.2 (Nat.le_of_ble_eq_true rfl) rfl rfl (Nat.le_of_ble_eq_true rfl) (Nat.le_of_ble_eq_true rfl) rfl rfl ?_
        show Go O (d + 1) MX11_billOf 33 [some (.ref v0), some (.int v1), some (.int s2), some (.int s3)] [.int p8.1, .int s2] p8.2 P
        refine g_if_eq (t := 44) dX11_billOf_33 (by decide) (fun c10 => ?_) (fun c10 => ?_)
        · rw [if_pos c10] at h
          refine Go_le ?_ (e_X11_billOf_j44 hin hex h)
          exact And.intro rfl (And.intro rfl (And.intro rfl (trivial)))
        · rw [if_neg c10] at h
          refine g_aload_n dX11_billOf_36 rfl ?_
          refine g_iload_n dX11_billOf_37 rfl ?_
          obtain ⟨p11, ep11, h⟩ := bs h
          refine q_virt (Z := MX11_pricedAt) (c := (RX11, TX11, 56)) (toI_s ep11) dX11_billOf_38 mX11_196.1 mX11_196.2 (Nat.le_of_ble_eq_true rfl) rfl rfl (Nat.le_of_ble_eq_true rfl) (Nat.le_of_ble_eq_true rfl) rfl rfl ?_
          show Go O (d + 1) MX11_billOf 41 [some (.ref v0), some (.int v1), some (.int s2), some (.int s3)] [.int p11.1, .int s2] p11.2 P
          refine g_goto (t := 45) dX11_billOf_41 (by decide) ?_
          refine Go_le ?_ (e_X11_billOf_j45 hin hex h)
          exact And.intro rfl (And.intro rfl (And.intro rfl (trivial)))
noncomputable def F_X11_billOf (O : mO) (d : Nat) (a0 : Nat) (a1 : Int32) (K : mH) : Option (Int32 × mH) :=
  (lupF (fun (q : Int32 × Int32 × mH) => F_X11_billOf_l4 O d a0 a1 q.1 q.2.1 q.2.2) FU ((nI 0), (nI 0), K)).bind fun r12 =>
  some (r12.1, r12.2)
theorem e_X11_billOf {O : mO} {d : Nat} {a0 : Nat} {a1 : Int32} {K : mH} {r0 : Int32} {K0 : mH} (h : F_X11_billOf O d a0 a1 K = some (r0, K0)) : ev O (d + 1) MX11_billOf [.ref a0, .int a1] K = some (some (.int r0), K0) := by
  refine Rn_evx ?_
  show Go O (d + 1) MX11_billOf 0 [some (.ref a0), some (.int a1), none, none] [] K _
  generalize hP : (fun (r : Option Value) (K' : mH) => (r, K') = (some (.int r0), K0)) = P
  have hret : ∀ (r : Int32) (K' : mH), (r, K') = (r0, K0) → P (some (.int r)) K' := by
    intro r K' e
    cases e
    subst hP
    rfl
  clear hP
  unfold F_X11_billOf at h
  refine g_iconst (v := (nI 0)) dX11_billOf_0 (by decide) ?_
  refine g_istore_n (ls' := [some (.ref a0), some (.int a1), some (.int (nI 0)), none]) dX11_billOf_1 (by decide) rfl ?_
  refine g_iconst (v := (nI 0)) dX11_billOf_2 (by decide) ?_
  refine g_istore_n (ls' := [some (.ref a0), some (.int a1), some (.int (nI 0)), some (.int (nI 0))]) dX11_billOf_3 (by decide) rfl ?_
  obtain ⟨r12, er12, h⟩ := bs h
  have hx : Go O (d + 1) MX11_billOf 53 [none, none, some (.int r12.1), none] [] r12.2 P := by
    refine g_iload_n dX11_billOf_53 rfl ?_
    exact g_ireturn dX11_billOf_54 rfl (by first | rfl | decide) (hret _ _ (Option.some.inj h))
  refine Go_le ?_ (e_X11_billOf_l4 (fun q e => by cases e; exact hx) FU ((nI 0), (nI 0), K) er12)
  exact And.intro rfl (And.intro rfl (And.intro rfl (And.intro rfl (trivial))))
noncomputable def F_X11_has_l20 (O : mO) (d : Nat) (v0 : Nat) (v1 : Int32) (v2 : Int32) (K : mH) (s3 : Int32) (s4 : Int32) : Option ((Int32 × Int32) ⊕ (Int32)) :=
  (gtA K v0 11 3).bind fun x4 =>
  (rdI O K x4 (nI 2)).bind fun x5 =>
  if x5 ≤ s4 then
    some (.inr s3)
  else
    (gtA K v0 11 3).bind fun x7 =>
    (rdI O K x7 ((nI 42) + s4)).bind fun x8 =>
    some (.inl ((s3 ||| (if x8 = v1 then ((nI 1) <<< (s4 &&& 31)) else (nI 0))), (s4 + nI 1)))
theorem e_X11_has_l20 {O : mO} {d : Nat} {v0 : Nat} {v1 : Int32} {v2 : Int32} {K : mH} {P : Option Value → mH → Prop} {x : Int32} (hex : ∀ q : Int32, x = q → Go O (d + 1) MX11_has 62 [some (.ref v0), some (.int v1), some (.int v2), some (.int q), none] [] K P) : ∀ (f : Nat) (q : Int32 × Int32), lupF (fun (q : Int32 × Int32) => F_X11_has_l20 O d v0 v1 v2 K q.1 q.2) f q = some x → Go O (d + 1) MX11_has 20 [some (.ref v0), some (.int v1), some (.int v2), some (.int q.1), some (.int q.2)] [] K P := by
  intro f
  induction f with
  | zero =>
    intro q h
    cases h
  | succ f ih =>
    intro q h
    obtain ⟨y, h, hy1, hy2⟩ := lupF_s h
    have hin : ∀ q : Int32 × Int32, y = .inl q → Go O (d + 1) MX11_has 20 [some (.ref v0), some (.int v1), some (.int v2), some (.int q.1), some (.int q.2)] [] K P := fun q e => ih q (hy1 q e)
    replace hex : ∀ q : Int32, y = .inr q → Go O (d + 1) MX11_has 62 [some (.ref v0), some (.int v1), some (.int v2), some (.int q), none] [] K P := fun q e => hex q (hy2 q e).symm
    clear ih hy1 hy2
    obtain ⟨s3, s4⟩ := q
    dsimp only at h ⊢
    unfold F_X11_has_l20 at h
    refine g_iload dX11_has_20 rfl ?_
    refine g_aload_n dX11_has_22 rfl ?_
    obtain ⟨x4, ex4, h⟩ := bs h
    refine q_getA dX11_has_23 fX11_13 ex4 ?_
    refine g_iconst (v := (nI 2)) dX11_has_26 (by decide) ?_
    obtain ⟨x5, ex5, h⟩ := bs h
    refine q_iald dX11_has_27 ex5 ?_
    refine g_ic_ge (t := 62) dX11_has_28 (by decide) (fun c6 => ?_) (fun c6 => ?_)
    · rw [if_pos c6] at h
      refine Go_le ?_ (hex s3 (Option.some.inj h).symm)
      exact And.intro rfl (And.intro rfl (And.intro rfl (And.intro rfl (trivial))))
    · rw [if_neg c6] at h
      refine g_iload_n dX11_has_31 rfl ?_
      refine g_aload_n dX11_has_32 rfl ?_
      obtain ⟨x7, ex7, h⟩ := bs h
      refine q_getA dX11_has_33 fX11_13 ex7 ?_
      refine g_bipush (v := (nI 42)) dX11_has_36 (by decide) ?_
      refine g_iload dX11_has_38 rfl ?_
      refine g_iadd dX11_has_40 ?_
      obtain ⟨x8, ex8, h⟩ := bs h
      refine q_iald dX11_has_41 ex8 ?_
      refine g_iload_n dX11_has_42 rfl ?_
      have hj : Go O (d + 1) MX11_has 54 [some (.ref v0), some (.int v1), some (.int v2), none, some (.int s4)] [.int (if x8 = v1 then ((nI 1) <<< (s4 &&& 31)) else (nI 0)), .int s3] K P := by
        refine g_ior dX11_has_54 ?_
        refine g_istore_n (ls' := [some (.ref v0), some (.int v1), some (.int v2), some (.int (s3 ||| (if x8 = v1 then ((nI 1) <<< (s4 &&& 31)) else (nI 0)))), some (.int s4)]) dX11_has_55 (by decide) rfl ?_
        refine q_iinc (w := nI 1) (ls' := [some (.ref v0), some (.int v1), some (.int v2), some (.int (s3 ||| (if x8 = v1 then ((nI 1) <<< (s4 &&& 31)) else (nI 0)))), some (.int (s4 + nI 1))]) dX11_has_56 (by decide) rfl (by decide) rfl ?_
        refine g_goto (t := 20) dX11_has_59 (by decide) ?_
        refine Go_le ?_ (hin ((s3 ||| (if x8 = v1 then ((nI 1) <<< (s4 &&& 31)) else (nI 0))), (s4 + nI 1)) (Option.some.inj h).symm)
        exact And.intro rfl (And.intro rfl (And.intro rfl (And.intro rfl (And.intro rfl (trivial)))))
      refine g_ic_ne (t := 53) dX11_has_43 (by decide) (fun c9 => ?_) (fun c9 => ?_)
      · skip
        refine g_iconst (v := (nI 0)) dX11_has_53 (by decide) ?_
        have hk : Go O (d + 1) MX11_has 54 [some (.ref v0), some (.int v1), some (.int v2), none, some (.int s4)] [.int (nI 0), .int s3] K P := by simpa only [if_neg c9] using hj
        refine Go_le ?_ hk
        exact And.intro rfl (And.intro rfl (And.intro rfl (And.intro rfl (trivial))))
      · skip
        refine g_iconst (v := (nI 1)) dX11_has_46 (by decide) ?_
        refine g_iload dX11_has_47 rfl ?_
        refine g_ishl dX11_has_49 ?_
        refine g_goto (t := 54) dX11_has_50 (by decide) ?_
        have hk : Go O (d + 1) MX11_has 54 [some (.ref v0), some (.int v1), some (.int v2), none, some (.int s4)] [.int ((nI 1) <<< (s4 &&& 31)), .int s3] K P := by simpa only [if_pos c9] using hj
        refine Go_le ?_ hk
        exact And.intro rfl (And.intro rfl (And.intro rfl (And.intro rfl (trivial))))
noncomputable def F_X11_has (O : mO) (d : Nat) (a0 : Nat) (a1 : Int32) (a2 : Int32) (K : mH) : Option (Int32 × mH) :=
  (ptI K a0 11 0 (nI 0)).bind fun K1 =>
  (toI (vc O d 11 MX11_isFamily a0 [.int a1] K1)).bind fun p2 =>
  if p2.1 = 0 then
    some ((-1), p2.2)
  else
    (lupF (fun (q : Int32 × Int32) => F_X11_has_l20 O d a0 a1 a2 p2.2 q.1 q.2) FU ((nI 0), (nI 0))).bind fun r10 =>
    if a2 = nI 0 then
      (gtA p2.2 a0 11 3).bind fun x12 =>
      (rdI O p2.2 x12 ((nI 33) + a1)).bind fun x13 =>
      some (x13, p2.2)
    else if a2 = nI 1 then
      (toI (vc O d 11 MX11_earnsOf a0 [.int a1] p2.2)).bind fun p15 =>
      some (p15.1, p15.2)
    else if a2 = nI 2 then
      some (r10, p2.2)
    else if a2 = nI 3 then
      (toI (vc O d 11 MX11_billOf a0 [.int a1] p2.2)).bind fun p18 =>
      some (p18.1, p18.2)
    else 
      some ((-1), p2.2)
theorem e_X11_has {O : mO} {d : Nat} {a0 : Nat} {a1 : Int32} {a2 : Int32} {K : mH} {r0 : Int32} {K0 : mH} (h : F_X11_has O d a0 a1 a2 K = some (r0, K0)) : ev O (d + 1) MX11_has [.ref a0, .int a1, .int a2] K = some (some (.int r0), K0) := by
  refine Rn_evx ?_
  show Go O (d + 1) MX11_has 0 [some (.ref a0), some (.int a1), some (.int a2), none, none] [] K _
  generalize hP : (fun (r : Option Value) (K' : mH) => (r, K') = (some (.int r0), K0)) = P
  have hret : ∀ (r : Int32) (K' : mH), (r, K') = (r0, K0) → P (some (.int r)) K' := by
    intro r K' e
    cases e
    subst hP
    rfl
  clear hP
  unfold F_X11_has at h
  refine g_aload_n dX11_has_0 rfl ?_
  refine g_iconst (v := (nI 0)) dX11_has_1 (by decide) ?_
  obtain ⟨K1, eK1, h⟩ := bs h
  refine q_put (c := (RX11, TX11, 56)) dX11_has_2 fX11_149 rfl rfl rfl (fun h => absurd h (by decide)) eK1 ?_
  refine g_aload_n dX11_has_5 rfl ?_
  refine g_iload_n dX11_has_6 rfl ?_
  obtain ⟨p2, ep2, h⟩ := bs h
  refine q_virt (Z := MX11_isFamily) (c := (RX11, TX11, 56)) (toI_s ep2) dX11_has_7 mX11_199.1 mX11_199.2 (Nat.le_of_ble_eq_true rfl) rfl rfl (Nat.le_of_ble_eq_true rfl) (Nat.le_of_ble_eq_true rfl) rfl rfl ?_
  show Go O (d + 1) MX11_has 10 [some (.ref a0), some (.int a1), some (.int a2), none, none] [.int p2.1] p2.2 P
  refine g_if_ne (t := 15) dX11_has_10 (by decide) (fun c3 => ?_) (fun c3 => ?_)
  · rw [if_neg c3] at h
    refine g_iconst (v := (nI 0)) dX11_has_15 (by decide) ?_
    refine g_istore_n (ls' := [some (.ref a0), some (.int a1), some (.int a2), some (.int (nI 0)), none]) dX11_has_16 (by decide) rfl ?_
    refine g_iconst (v := (nI 0)) dX11_has_17 (by decide) ?_
    refine g_istore (ls' := [some (.ref a0), some (.int a1), some (.int a2), some (.int (nI 0)), some (.int (nI 0))]) dX11_has_18 (by decide) rfl ?_
    obtain ⟨r10, er10, h⟩ := bs h
    have hx : Go O (d + 1) MX11_has 62 [some (.ref a0), some (.int a1), some (.int a2), some (.int r10), none] [] p2.2 P := by
      refine g_iload_n dX11_has_62 rfl ?_
      by_cases c11 : a2 = nI 0
      · rw [if_pos c11] at h
        refine g_tsI (t := 92) (off := 29) dX11_has_63 (by rw [c11]; decide) (by rw [c11]; decide) (by decide) ?_
        refine g_aload_n dX11_has_92 rfl ?_
        obtain ⟨x12, ex12, h⟩ := bs h
        refine q_getA dX11_has_93 fX11_13 ex12 ?_
        refine g_bipush (v := (nI 33)) dX11_has_96 (by decide) ?_
        refine g_iload_n dX11_has_98 rfl ?_
        refine g_iadd dX11_has_99 ?_
        obtain ⟨x13, ex13, h⟩ := bs h
        refine q_iald dX11_has_100 ex13 ?_
        exact g_ireturn dX11_has_101 rfl (by first | rfl | decide) (hret _ _ (Option.some.inj h))
      rw [if_neg c11] at h
      by_cases c14 : a2 = nI 1
      · rw [if_pos c14] at h
        refine g_tsI (t := 102) (off := 39) dX11_has_63 (by rw [c14]; decide) (by rw [c14]; decide) (by decide) ?_
        refine g_aload_n dX11_has_102 rfl ?_
        refine g_iload_n dX11_has_103 rfl ?_
        obtain ⟨p15, ep15, h⟩ := bs h
        refine q_virt (Z := MX11_earnsOf) (c := (RX11, TX11, 56)) (toI_s ep15) dX11_has_104 mX11_202.1 mX11_202.2 (Nat.le_of_ble_eq_true rfl) rfl rfl (Nat.le_of_ble_eq_true rfl) (Nat.le_of_ble_eq_true rfl) rfl rfl ?_
        show Go O (d + 1) MX11_has 107 [some (.ref a0), some (.int a1), some (.int a2), some (.int r10), none] [.int p15.1] p15.2 P
        exact g_ireturn dX11_has_107 rfl (by first | rfl | decide) (hret _ _ (Option.some.inj h))
      rw [if_neg c14] at h
      by_cases c16 : a2 = nI 2
      · rw [if_pos c16] at h
        refine g_tsI (t := 108) (off := 45) dX11_has_63 (by rw [c16]; decide) (by rw [c16]; decide) (by decide) ?_
        refine g_iload_n dX11_has_108 rfl ?_
        exact g_ireturn dX11_has_109 rfl (by first | rfl | decide) (hret _ _ (Option.some.inj h))
      rw [if_neg c16] at h
      by_cases c17 : a2 = nI 3
      · rw [if_pos c17] at h
        refine g_tsI (t := 110) (off := 47) dX11_has_63 (by rw [c17]; decide) (by rw [c17]; decide) (by decide) ?_
        refine g_aload_n dX11_has_110 rfl ?_
        refine g_iload_n dX11_has_111 rfl ?_
        obtain ⟨p18, ep18, h⟩ := bs h
        refine q_virt (Z := MX11_billOf) (c := (RX11, TX11, 56)) (toI_s ep18) dX11_has_112 mX11_205.1 mX11_205.2 (Nat.le_of_ble_eq_true rfl) rfl rfl (Nat.le_of_ble_eq_true rfl) (Nat.le_of_ble_eq_true rfl) rfl rfl ?_
        show Go O (d + 1) MX11_has 115 [some (.ref a0), some (.int a1), some (.int a2), some (.int r10), none] [.int p18.1] p18.2 P
        exact g_ireturn dX11_has_115 rfl (by first | rfl | decide) (hret _ _ (Option.some.inj h))
      rw [if_neg c17] at h
      refine g_tsO (t := 116) dX11_has_63 ?_ (by decide) ?_
      rotate_left
      · skip
        refine g_iconst (v := (-1)) dX11_has_116 (by decide) ?_
        exact g_ireturn dX11_has_117 rfl (by first | rfl | decide) (hret _ _ (Option.some.inj h))
      have ic11 := ts_ne (by decide) c11
      have ic14 := ts_ne (by decide) c14
      have ic16 := ts_ne (by decide) c16
      have ic17 := ts_ne (by decide) c17
      omega
    refine Go_le ?_ (e_X11_has_l20 (fun q e => by cases e; exact hx) FU ((nI 0), (nI 0)) er10)
    exact And.intro rfl (And.intro rfl (And.intro rfl (And.intro rfl (And.intro rfl (trivial)))))
  · rw [if_pos c3] at h
    refine g_iconst (v := (-1)) dX11_has_13 (by decide) ?_
    exact g_ireturn dX11_has_14 rfl (by first | rfl | decide) (hret _ _ (Option.some.inj h))
noncomputable def F_X11_come_l109 (O : mO) (d : Nat) (v0 : Nat) (v4 : Int32) (s5 : Int32) (K : mH) : Option ((Int32 × mH) ⊕ (mH)) :=
  if (nI 5) ≤ s5 then
    some (.inr K)
  else
    (gtA K v0 11 3).bind fun x21 =>
    (wrI K x21 (((nI 50) + ((nI 5) * v4)) + s5) (nI 0)).bind fun K22 =>
    some (.inl ((s5 + nI 1), K22))
theorem e_X11_come_l109 {O : mO} {d : Nat} {v0 : Nat} {v4 : Int32} {P : Option Value → mH → Prop} {x : mH} (hex : ∀ q : mH, x = q → Go O (d + 1) MX11_come 137 [some (.ref v0), none, none, none, some (.int v4), none] [] q P) : ∀ (f : Nat) (q : Int32 × mH), lupF (fun (q : Int32 × mH) => F_X11_come_l109 O d v0 v4 q.1 q.2) f q = some x → Go O (d + 1) MX11_come 109 [some (.ref v0), none, none, none, some (.int v4), some (.int q.1)] [] q.2 P := by
  intro f
  induction f with
  | zero =>
    intro q h
    cases h
  | succ f ih =>
    intro q h
    obtain ⟨y, h, hy1, hy2⟩ := lupF_s h
    have hin : ∀ q : Int32 × mH, y = .inl q → Go O (d + 1) MX11_come 109 [some (.ref v0), none, none, none, some (.int v4), some (.int q.1)] [] q.2 P := fun q e => ih q (hy1 q e)
    replace hex : ∀ q : mH, y = .inr q → Go O (d + 1) MX11_come 137 [some (.ref v0), none, none, none, some (.int v4), none] [] q P := fun q e => hex q (hy2 q e).symm
    clear ih hy1 hy2
    obtain ⟨s5, K⟩ := q
    dsimp only at h ⊢
    unfold F_X11_come_l109 at h
    refine g_iload dX11_come_109 rfl ?_
    refine g_iconst (v := (nI 5)) dX11_come_111 (by decide) ?_
    refine g_ic_ge (t := 137) dX11_come_112 (by decide) (fun c20 => ?_) (fun c20 => ?_)
    · rw [if_pos c20] at h
      refine Go_le ?_ (hex K (Option.some.inj h).symm)
      exact And.intro rfl (And.intro rfl (trivial))
    · rw [if_neg c20] at h
      refine g_aload_n dX11_come_115 rfl ?_
      obtain ⟨x21, ex21, h⟩ := bs h
      refine q_getA dX11_come_116 fX11_13 ex21 ?_
      refine g_bipush (v := (nI 50)) dX11_come_119 (by decide) ?_
      refine g_iconst (v := (nI 5)) dX11_come_121 (by decide) ?_
      refine g_iload dX11_come_122 rfl ?_
      refine g_imul dX11_come_124 ?_
      refine g_iadd dX11_come_125 ?_
      refine g_iload dX11_come_126 rfl ?_
      refine g_iadd dX11_come_128 ?_
      refine g_iconst (v := (nI 0)) dX11_come_129 (by decide) ?_
      obtain ⟨K22, eK22, h⟩ := bs h
      refine q_iast dX11_come_130 eK22 ?_
      refine q_iinc (w := nI 1) (ls' := [some (.ref v0), none, none, none, some (.int v4), some (.int (s5 + nI 1))]) dX11_come_131 (by decide) rfl (by decide) rfl ?_
      refine g_goto (t := 109) dX11_come_134 (by decide) ?_
      refine Go_le ?_ (hin ((s5 + nI 1), K22) (Option.some.inj h).symm)
      exact And.intro rfl (And.intro rfl (And.intro rfl (trivial)))
noncomputable def F_X11_come (O : mO) (d : Nat) (a0 : Nat) (a1 : Int32) (a2 : Int32) (a3 : Int32) (K : mH) : Option (Int32 × mH) :=
  (toI (ev O d MX11_in [.long a3.toInt64, .long 1, .long (99)] K)).bind fun p1 =>
  if p1.1 = 0 then
    some ((-1), p1.2)
  else
    (toI (vc O d 11 MX11_isFamily a0 [.int a1] p1.2)).bind fun p3 =>
    if p3.1 = 0 then
      some ((-2), p3.2)
    else
      (toI (vc O d 11 MX11_isVault a0 [.int a2] p3.2)).bind fun p5 =>
      if p5.1 = 0 then
        some ((-2), p5.2)
      else
        (toI (vc O d 11 MX11_freeIn a0 [.int a2] p5.2)).bind fun p7 =>
        if p7.1 = 0 then
          some ((-3), p7.2)
        else
          (gtA p7.2 a0 11 3).bind fun x9 =>
          (rdI O p7.2 x9 (nI 2)).bind fun x10 =>
          if x10 = (nI 8) then
            some ((-5), p7.2)
          else
            (gtA p7.2 a0 11 3).bind fun x12 =>
            (wrI p7.2 x12 ((nI 42) + x10) a1).bind fun K13 =>
            (gtA K13 a0 11 3).bind fun x14 =>
            (wrI K13 x14 ((nI 9) + x10) a2).bind fun K15 =>
            (gtA K15 a0 11 3).bind fun x16 =>
            (wrI K15 x16 ((nI 17) + x10) a3).bind fun K17 =>
            (gtA K17 a0 11 3).bind fun x18 =>
            (wrI K17 x18 ((nI 25) + x10) (nI 0)).bind fun K19 =>
            (lupF (fun (q : Int32 × mH) => F_X11_come_l109 O d a0 x10 q.1 q.2) FU ((nI 0), K19)).bind fun r23 =>
            (gtA r23 a0 11 3).bind fun x24 =>
            (rdI O r23 x24 (nI 2)).bind fun x25 =>
            (wrI r23 x24 (nI 2) (x25 + (nI 1))).bind fun K26 =>
            some (x10, K26)
theorem e_X11_come {O : mO} {d : Nat} {a0 : Nat} {a1 : Int32} {a2 : Int32} {a3 : Int32} {K : mH} {r0 : Int32} {K0 : mH} (h : F_X11_come O d a0 a1 a2 a3 K = some (r0, K0)) : ev O (d + 1) MX11_come [.ref a0, .int a1, .int a2, .int a3] K = some (some (.int r0), K0) := by
  refine Rn_evx ?_
  show Go O (d + 1) MX11_come 0 [some (.ref a0), some (.int a1), some (.int a2), some (.int a3), none, none] [] K _
  generalize hP : (fun (r : Option Value) (K' : mH) => (r, K') = (some (.int r0), K0)) = P
  have hret : ∀ (r : Int32) (K' : mH), (r, K') = (r0, K0) → P (some (.int r)) K' := by
    intro r K' e
    cases e
    subst hP
    rfl
  clear hP
  unfold F_X11_come at h
  refine g_iload_n dX11_come_0 rfl ?_
  refine g_i2l dX11_come_1 ?_
  refine g_lconst (v := 1) dX11_come_2 (by decide) ?_
  refine g_ldc2 (v := 99) dX11_come_3 lX11_208 ?_
  obtain ⟨p1, ep1, h⟩ := bs h
  refine q_stat (Z := MX11_in) (toI_s ep1) dX11_come_6 mX11_169.1 mX11_169.2 (Nat.le_of_ble_eq_true rfl) rfl rfl (Nat.le_of_ble_eq_true rfl) (Nat.le_of_ble_eq_true rfl) ?_
  show Go O (d + 1) MX11_come 9 [some (.ref a0), some (.int a1), some (.int a2), some (.int a3), none, none] [.int p1.1] p1.2 P
  refine g_if_ne (t := 14) dX11_come_9 (by decide) (fun c2 => ?_) (fun c2 => ?_)
  · rw [if_neg c2] at h
    refine g_aload_n dX11_come_14 rfl ?_
    refine g_iload_n dX11_come_15 rfl ?_
    obtain ⟨p3, ep3, h⟩ := bs h
    refine q_virt (Z := MX11_isFamily) (c := (RX11, TX11, 56)) (toI_s ep3) dX11_come_16 mX11_199.1 mX11_199.2 (Nat.le_of_ble_eq_true rfl) rfl rfl (Nat.le_of_ble_eq_true rfl) (Nat.le_of_ble_eq_true rfl) rfl rfl ?_
    show Go O (d + 1) MX11_come 19 [some (.ref a0), some (.int a1), some (.int a2), some (.int a3), none, none] [.int p3.1] p3.2 P
    refine g_if_eq (t := 30) dX11_come_19 (by decide) (fun c4 => ?_) (fun c4 => ?_)
    · rw [if_pos c4] at h
      refine g_bipush (v := (-2)) dX11_come_30 (by decide) ?_
      exact g_ireturn dX11_come_32 rfl (by first | rfl | decide) (hret _ _ (Option.some.inj h))
    · rw [if_neg c4] at h
      refine g_aload_n dX11_come_22 rfl ?_
      refine g_iload_n dX11_come_23 rfl ?_
      obtain ⟨p5, ep5, h⟩ := bs h
      refine q_virt (Z := MX11_isVault) (c := (RX11, TX11, 56)) (toI_s ep5) dX11_come_24 mX11_188.1 mX11_188.2 (Nat.le_of_ble_eq_true rfl) rfl rfl (Nat.le_of_ble_eq_true rfl) (Nat.le_of_ble_eq_true rfl) rfl rfl ?_
      show Go O (d + 1) MX11_come 27 [some (.ref a0), some (.int a1), some (.int a2), some (.int a3), none, none] [.int p5.1] p5.2 P
      refine g_if_ne (t := 33) dX11_come_27 (by decide) (fun c6 => ?_) (fun c6 => ?_)
      · rw [if_neg c6] at h
        refine g_aload_n dX11_come_33 rfl ?_
        refine g_iload_n dX11_come_34 rfl ?_
        obtain ⟨p7, ep7, h⟩ := bs h
        refine q_virt (Z := MX11_freeIn) (c := (RX11, TX11, 56)) (toI_s ep7) dX11_come_35 mX11_191.1 mX11_191.2 (Nat.le_of_ble_eq_true rfl) rfl rfl (Nat.le_of_ble_eq_true rfl) (Nat.le_of_ble_eq_true rfl) rfl rfl ?_
        show Go O (d + 1) MX11_come 38 [some (.ref a0), some (.int a1), some (.int a2), some (.int a3), none, none] [.int p7.1] p7.2 P
        refine g_if_ne (t := 44) dX11_come_38 (by decide) (fun c8 => ?_) (fun c8 => ?_)
        · rw [if_neg c8] at h
          refine g_aload_n dX11_come_44 rfl ?_
          obtain ⟨x9, ex9, h⟩ := bs h
          refine q_getA dX11_come_45 fX11_13 ex9 ?_
          refine g_iconst (v := (nI 2)) dX11_come_48 (by decide) ?_
          obtain ⟨x10, ex10, h⟩ := bs h
          refine q_iald dX11_come_49 ex10 ?_
          refine g_istore (ls' := [some (.ref a0), some (.int a1), some (.int a2), some (.int a3), some (.int x10), none]) dX11_come_50 (by decide) rfl ?_
          refine g_iload dX11_come_52 rfl ?_
          refine g_bipush (v := (nI 8)) dX11_come_54 (by decide) ?_
          refine g_ic_ne (t := 62) dX11_come_56 (by decide) (fun c11 => ?_) (fun c11 => ?_)
          · rw [if_neg c11] at h
            refine g_aload_n dX11_come_62 rfl ?_
            obtain ⟨x12, ex12, h⟩ := bs h
            refine q_getA dX11_come_63 fX11_13 ex12 ?_
            refine g_bipush (v := (nI 42)) dX11_come_66 (by decide) ?_
            refine g_iload dX11_come_68 rfl ?_
            refine g_iadd dX11_come_70 ?_
            refine g_iload_n dX11_come_71 rfl ?_
            obtain ⟨K13, eK13, h⟩ := bs h
            refine q_iast dX11_come_72 eK13 ?_
            refine g_aload_n dX11_come_73 rfl ?_
            obtain ⟨x14, ex14, h⟩ := bs h
            refine q_getA dX11_come_74 fX11_13 ex14 ?_
            refine g_bipush (v := (nI 9)) dX11_come_77 (by decide) ?_
            refine g_iload dX11_come_79 rfl ?_
            refine g_iadd dX11_come_81 ?_
            refine g_iload_n dX11_come_82 rfl ?_
            obtain ⟨K15, eK15, h⟩ := bs h
            refine q_iast dX11_come_83 eK15 ?_
            refine g_aload_n dX11_come_84 rfl ?_
            obtain ⟨x16, ex16, h⟩ := bs h
            refine q_getA dX11_come_85 fX11_13 ex16 ?_
            refine g_bipush (v := (nI 17)) dX11_come_88 (by decide) ?_
            refine g_iload dX11_come_90 rfl ?_
            refine g_iadd dX11_come_92 ?_
            refine g_iload_n dX11_come_93 rfl ?_
            obtain ⟨K17, eK17, h⟩ := bs h
            refine q_iast dX11_come_94 eK17 ?_
            refine g_aload_n dX11_come_95 rfl ?_
            obtain ⟨x18, ex18, h⟩ := bs h
            refine q_getA dX11_come_96 fX11_13 ex18 ?_
            refine g_bipush (v := (nI 25)) dX11_come_99 (by decide) ?_
            refine g_iload dX11_come_101 rfl ?_
            refine g_iadd dX11_come_103 ?_
            refine g_iconst (v := (nI 0)) dX11_come_104 (by decide) ?_
            obtain ⟨K19, eK19, h⟩ := bs h
            refine q_iast dX11_come_105 eK19 ?_
            refine g_iconst (v := (nI 0)) dX11_come_106 (by decide) ?_
            refine g_istore (ls' := [some (.ref a0), some (.int a1), some (.int a2), some (.int a3), some (.int x10), some (.int (nI 0))]) dX11_come_107 (by decide) rfl ?_
            obtain ⟨r23, er23, h⟩ := bs h
            have hx : Go O (d + 1) MX11_come 137 [some (.ref a0), none, none, none, some (.int x10), none] [] r23 P := by
              refine g_aload_n dX11_come_137 rfl ?_
              obtain ⟨x24, ex24, h⟩ := bs h
              refine q_getA dX11_come_138 fX11_13 ex24 ?_
              refine g_iconst (v := (nI 2)) dX11_come_141 (by decide) ?_
              refine g_dup2 dX11_come_142 rfl rfl ?_
              obtain ⟨x25, ex25, h⟩ := bs h
              refine q_iald dX11_come_143 ex25 ?_
              refine g_iconst (v := (nI 1)) dX11_come_144 (by decide) ?_
              refine g_iadd dX11_come_145 ?_
              obtain ⟨K26, eK26, h⟩ := bs h
              refine q_iast dX11_come_146 eK26 ?_
              refine g_iload dX11_come_147 rfl ?_
              exact g_ireturn dX11_come_149 rfl (by first | rfl | decide) (hret _ _ (Option.some.inj h))
            refine Go_le ?_ (e_X11_come_l109 (fun q e => by cases e; exact hx) FU ((nI 0), K19) er23)
            exact And.intro rfl (And.intro rfl (And.intro rfl (trivial)))
          · rw [if_pos c11] at h
            refine g_bipush (v := (-5)) dX11_come_59 (by decide) ?_
            exact g_ireturn dX11_come_61 rfl (by first | rfl | decide) (hret _ _ (Option.some.inj h))
        · rw [if_pos c8] at h
          refine g_bipush (v := (-3)) dX11_come_41 (by decide) ?_
          exact g_ireturn dX11_come_43 rfl (by first | rfl | decide) (hret _ _ (Option.some.inj h))
      · rw [if_pos c6] at h
        refine g_bipush (v := (-2)) dX11_come_30 (by decide) ?_
        exact g_ireturn dX11_come_32 rfl (by first | rfl | decide) (hret _ _ (Option.some.inj h))
  · rw [if_pos c2] at h
    refine g_iconst (v := (-1)) dX11_come_12 (by decide) ?_
    exact g_ireturn dX11_come_13 rfl (by first | rfl | decide) (hret _ _ (Option.some.inj h))
noncomputable def F_X11_dead (O : mO) (d : Nat) (a0 : Nat) (a1 : Int32) (a2 : Int32) (a3 : Int32) (K : mH) : Option (Int32 × mH) :=
  (ptI K a0 11 0 (nI 0)).bind fun K1 =>
  (toI (vc O d 11 MX11_come a0 [.int a1, .int a2, .int a3] K1)).bind fun p2 =>
  (toI (vc O d 11 MX11_settled a0 [.int p2.1] p2.2)).bind fun p3 =>
  some (p3.1, p3.2)
theorem e_X11_dead {O : mO} {d : Nat} {a0 : Nat} {a1 : Int32} {a2 : Int32} {a3 : Int32} {K : mH} {r0 : Int32} {K0 : mH} (h : F_X11_dead O d a0 a1 a2 a3 K = some (r0, K0)) : ev O (d + 1) MX11_dead [.ref a0, .int a1, .int a2, .int a3] K = some (some (.int r0), K0) := by
  refine Rn_evx ?_
  show Go O (d + 1) MX11_dead 0 [some (.ref a0), some (.int a1), some (.int a2), some (.int a3)] [] K _
  generalize hP : (fun (r : Option Value) (K' : mH) => (r, K') = (some (.int r0), K0)) = P
  have hret : ∀ (r : Int32) (K' : mH), (r, K') = (r0, K0) → P (some (.int r)) K' := by
    intro r K' e
    cases e
    subst hP
    rfl
  clear hP
  unfold F_X11_dead at h
  refine g_aload_n dX11_dead_0 rfl ?_
  refine g_iconst (v := (nI 0)) dX11_dead_1 (by decide) ?_
  obtain ⟨K1, eK1, h⟩ := bs h
  refine q_put (c := (RX11, TX11, 56)) dX11_dead_2 fX11_149 rfl rfl rfl (fun h => absurd h (by decide)) eK1 ?_
  refine g_aload_n dX11_dead_5 rfl ?_
  refine g_aload_n dX11_dead_6 rfl ?_
  refine g_iload_n dX11_dead_7 rfl ?_
  refine g_iload_n dX11_dead_8 rfl ?_
  refine g_iload_n dX11_dead_9 rfl ?_
  obtain ⟨p2, ep2, h⟩ := bs h
  refine q_virt (Z := MX11_come) (c := (RX11, TX11, 56)) (toI_s ep2) dX11_dead_10 mX11_210.1 mX11_210.2 (Nat.le_of_ble_eq_true rfl) rfl rfl (Nat.le_of_ble_eq_true rfl) (Nat.le_of_ble_eq_true rfl) rfl rfl ?_
  show Go O (d + 1) MX11_dead 13 [some (.ref a0), some (.int a1), some (.int a2), some (.int a3)] [.int p2.1, .ref a0] p2.2 P
  obtain ⟨p3, ep3, h⟩ := bs h
  refine q_virt (Z := MX11_settled) (c := (RX11, TX11, 56)) (toI_s ep3) dX11_dead_13 mX11_173.1 mX11_173.2 (Nat.le_of_ble_eq_true rfl) rfl rfl (Nat.le_of_ble_eq_true rfl) (Nat.le_of_ble_eq_true rfl) rfl rfl ?_
  show Go O (d + 1) MX11_dead 16 [some (.ref a0), some (.int a1), some (.int a2), some (.int a3)] [.int p3.1] p3.2 P
  exact g_ireturn dX11_dead_16 rfl (by first | rfl | decide) (hret _ _ (Option.some.inj h))
noncomputable def F_X11_of (O : mO) (d : Nat) (a0 : Nat) (a1 : Int32) (a2 : Int32) (K : mH) : Option (Int32 × mH) :=
  (ptI K a0 11 0 (nI 0)).bind fun K1 =>
  (toI (vc O d 11 MX11_isDead a0 [.int a1] K1)).bind fun p2 =>
  if p2.1 = 0 then
    some ((-100), p2.2)
  else
    if a2 = nI 0 then
      (gtA p2.2 a0 11 3).bind fun x5 =>
      (rdI O p2.2 x5 ((nI 42) + a1)).bind fun x6 =>
      some (x6, p2.2)
    else if a2 = nI 1 then
      (gtA p2.2 a0 11 3).bind fun x8 =>
      (rdI O p2.2 x8 ((nI 9) + a1)).bind fun x9 =>
      some (x9, p2.2)
    else if a2 = nI 2 then
      (gtA p2.2 a0 11 3).bind fun x11 =>
      (rdI O p2.2 x11 ((nI 17) + a1)).bind fun x12 =>
      some (x12, p2.2)
    else if a2 = nI 3 then
      (gtA p2.2 a0 11 3).bind fun x14 =>
      (rdI O p2.2 x14 ((nI 25) + a1)).bind fun x15 =>
      some (x15, p2.2)
    else if a2 = nI 4 then
      (toI (vc O d 11 MX11_pricedAt a0 [.int a1] p2.2)).bind fun p17 =>
      some (p17.1, p17.2)
    else if a2 = nI 5 then
      (toI (vc O d 11 MX11_lastsOf a0 [.int a1] p2.2)).bind fun p19 =>
      some (p19.1, p19.2)
    else 
      some ((-100), p2.2)
theorem e_X11_of {O : mO} {d : Nat} {a0 : Nat} {a1 : Int32} {a2 : Int32} {K : mH} {r0 : Int32} {K0 : mH} (h : F_X11_of O d a0 a1 a2 K = some (r0, K0)) : ev O (d + 1) MX11_of [.ref a0, .int a1, .int a2] K = some (some (.int r0), K0) := by
  refine Rn_evx ?_
  show Go O (d + 1) MX11_of 0 [some (.ref a0), some (.int a1), some (.int a2)] [] K _
  generalize hP : (fun (r : Option Value) (K' : mH) => (r, K') = (some (.int r0), K0)) = P
  have hret : ∀ (r : Int32) (K' : mH), (r, K') = (r0, K0) → P (some (.int r)) K' := by
    intro r K' e
    cases e
    subst hP
    rfl
  clear hP
  unfold F_X11_of at h
  refine g_aload_n dX11_of_0 rfl ?_
  refine g_iconst (v := (nI 0)) dX11_of_1 (by decide) ?_
  obtain ⟨K1, eK1, h⟩ := bs h
  refine q_put (c := (RX11, TX11, 56)) dX11_of_2 fX11_149 rfl rfl rfl (fun h => absurd h (by decide)) eK1 ?_
  refine g_aload_n dX11_of_5 rfl ?_
  refine g_iload_n dX11_of_6 rfl ?_
  obtain ⟨p2, ep2, h⟩ := bs h
  refine q_virt (Z := MX11_isDead) (c := (RX11, TX11, 56)) (toI_s ep2) dX11_of_7 mX11_214.1 mX11_214.2 (Nat.le_of_ble_eq_true rfl) rfl rfl (Nat.le_of_ble_eq_true rfl) (Nat.le_of_ble_eq_true rfl) rfl rfl ?_
  show Go O (d + 1) MX11_of 10 [some (.ref a0), some (.int a1), some (.int a2)] [.int p2.1] p2.2 P
  refine g_if_ne (t := 16) dX11_of_10 (by decide) (fun c3 => ?_) (fun c3 => ?_)
  · rw [if_neg c3] at h
    refine g_iload_n dX11_of_16 rfl ?_
    by_cases c4 : a2 = nI 0
    · rw [if_pos c4] at h
      refine g_tsI (t := 56) (off := 39) dX11_of_17 (by rw [c4]; decide) (by rw [c4]; decide) (by decide) ?_
      refine g_aload_n dX11_of_56 rfl ?_
      obtain ⟨x5, ex5, h⟩ := bs h
      refine q_getA dX11_of_57 fX11_13 ex5 ?_
      refine g_bipush (v := (nI 42)) dX11_of_60 (by decide) ?_
      refine g_iload_n dX11_of_62 rfl ?_
      refine g_iadd dX11_of_63 ?_
      obtain ⟨x6, ex6, h⟩ := bs h
      refine q_iald dX11_of_64 ex6 ?_
      exact g_ireturn dX11_of_65 rfl (by first | rfl | decide) (hret _ _ (Option.some.inj h))
    rw [if_neg c4] at h
    by_cases c7 : a2 = nI 1
    · rw [if_pos c7] at h
      refine g_tsI (t := 66) (off := 49) dX11_of_17 (by rw [c7]; decide) (by rw [c7]; decide) (by decide) ?_
      refine g_aload_n dX11_of_66 rfl ?_
      obtain ⟨x8, ex8, h⟩ := bs h
      refine q_getA dX11_of_67 fX11_13 ex8 ?_
      refine g_bipush (v := (nI 9)) dX11_of_70 (by decide) ?_
      refine g_iload_n dX11_of_72 rfl ?_
      refine g_iadd dX11_of_73 ?_
      obtain ⟨x9, ex9, h⟩ := bs h
      refine q_iald dX11_of_74 ex9 ?_
      exact g_ireturn dX11_of_75 rfl (by first | rfl | decide) (hret _ _ (Option.some.inj h))
    rw [if_neg c7] at h
    by_cases c10 : a2 = nI 2
    · rw [if_pos c10] at h
      refine g_tsI (t := 76) (off := 59) dX11_of_17 (by rw [c10]; decide) (by rw [c10]; decide) (by decide) ?_
      refine g_aload_n dX11_of_76 rfl ?_
      obtain ⟨x11, ex11, h⟩ := bs h
      refine q_getA dX11_of_77 fX11_13 ex11 ?_
      refine g_bipush (v := (nI 17)) dX11_of_80 (by decide) ?_
      refine g_iload_n dX11_of_82 rfl ?_
      refine g_iadd dX11_of_83 ?_
      obtain ⟨x12, ex12, h⟩ := bs h
      refine q_iald dX11_of_84 ex12 ?_
      exact g_ireturn dX11_of_85 rfl (by first | rfl | decide) (hret _ _ (Option.some.inj h))
    rw [if_neg c10] at h
    by_cases c13 : a2 = nI 3
    · rw [if_pos c13] at h
      refine g_tsI (t := 86) (off := 69) dX11_of_17 (by rw [c13]; decide) (by rw [c13]; decide) (by decide) ?_
      refine g_aload_n dX11_of_86 rfl ?_
      obtain ⟨x14, ex14, h⟩ := bs h
      refine q_getA dX11_of_87 fX11_13 ex14 ?_
      refine g_bipush (v := (nI 25)) dX11_of_90 (by decide) ?_
      refine g_iload_n dX11_of_92 rfl ?_
      refine g_iadd dX11_of_93 ?_
      obtain ⟨x15, ex15, h⟩ := bs h
      refine q_iald dX11_of_94 ex15 ?_
      exact g_ireturn dX11_of_95 rfl (by first | rfl | decide) (hret _ _ (Option.some.inj h))
    rw [if_neg c13] at h
    by_cases c16 : a2 = nI 4
    · rw [if_pos c16] at h
      refine g_tsI (t := 96) (off := 79) dX11_of_17 (by rw [c16]; decide) (by rw [c16]; decide) (by decide) ?_
      refine g_aload_n dX11_of_96 rfl ?_
      refine g_iload_n dX11_of_97 rfl ?_
      obtain ⟨p17, ep17, h⟩ := bs h
      refine q_virt (Z := MX11_pricedAt) (c := (RX11, TX11, 56)) (toI_s ep17) dX11_of_98 mX11_196.1 mX11_196.2 (Nat.le_of_ble_eq_true rfl) rfl rfl (Nat.le_of_ble_eq_true rfl) (Nat.le_of_ble_eq_true rfl) rfl rfl ?_
      show Go O (d + 1) MX11_of 101 [some (.ref a0), some (.int a1), some (.int a2)] [.int p17.1] p17.2 P
      exact g_ireturn dX11_of_101 rfl (by first | rfl | decide) (hret _ _ (Option.some.inj h))
    rw [if_neg c16] at h
    by_cases c18 : a2 = nI 5
    · rw [if_pos c18] at h
      refine g_tsI (t := 102) (off := 85) dX11_of_17 (by rw [c18]; decide) (by rw [c18]; decide) (by decide) ?_
      refine g_aload_n dX11_of_102 rfl ?_
      refine g_iload_n dX11_of_103 rfl ?_
      obtain ⟨p19, ep19, h⟩ := bs h
      refine q_virt (Z := MX11_lastsOf) (c := (RX11, TX11, 56)) (toI_s ep19) dX11_of_104 mX11_217.1 mX11_217.2 (Nat.le_of_ble_eq_true rfl) rfl rfl (Nat.le_of_ble_eq_true rfl) (Nat.le_of_ble_eq_true rfl) rfl rfl ?_
      show Go O (d + 1) MX11_of 107 [some (.ref a0), some (.int a1), some (.int a2)] [.int p19.1] p19.2 P
      exact g_ireturn dX11_of_107 rfl (by first | rfl | decide) (hret _ _ (Option.some.inj h))
    rw [if_neg c18] at h
    refine g_tsO (t := 108) dX11_of_17 ?_ (by decide) ?_
    rotate_left
    · skip
      refine g_bipush (v := (-100)) dX11_of_108 (by decide) ?_
      exact g_ireturn dX11_of_110 rfl (by first | rfl | decide) (hret _ _ (Option.some.inj h))
    have ic4 := ts_ne (by decide) c4
    have ic7 := ts_ne (by decide) c7
    have ic10 := ts_ne (by decide) c10
    have ic13 := ts_ne (by decide) c13
    have ic16 := ts_ne (by decide) c16
    have ic18 := ts_ne (by decide) c18
    omega
  · rw [if_pos c3] at h
    refine g_bipush (v := (-100)) dX11_of_13 (by decide) ?_
    exact g_ireturn dX11_of_15 rfl (by first | rfl | decide) (hret _ _ (Option.some.inj h))
noncomputable def F_X11_asks (O : mO) (d : Nat) (a0 : Nat) (a1 : Int32) (a2 : Int32) (a3 : Int32) (K : mH) : Option (Int32 × mH) :=
  (ptI K a0 11 0 (nI 0)).bind fun K1 =>
  (toI (vc O d 11 MX11_isDead a0 [.int a1] K1)).bind fun p2 =>
  if p2.1 = 0 then
    some ((-1), p2.2)
  else
    (toI (vc O d 11 MX11_isVault a0 [.int a2] p2.2)).bind fun p4 =>
    if p4.1 = 0 then
      some ((-1), p4.2)
    else
      (toI (ev O d MX11_in [.long a3.toInt64, .long 0, .long 1] p4.2)).bind fun p6 =>
      if p6.1 = 0 then
        some ((-1), p6.2)
      else
        if a3 = 0 then
          (gtA p6.2 a0 11 3).bind fun x12 =>
          (rdI O p6.2 x12 (((nI 50) + ((nI 5) * a1)) + a2)).bind fun x13 =>
          some (x13, p6.2)
        else
          (toI (vc O d 11 MX11_isBarred a0 [.int a1, .int a2] p6.2)).bind fun p10 =>
          some ((if p10.1 = 0 then (nI 0) else (nI 1)), p10.2)
theorem e_X11_asks {O : mO} {d : Nat} {a0 : Nat} {a1 : Int32} {a2 : Int32} {a3 : Int32} {K : mH} {r0 : Int32} {K0 : mH} (h : F_X11_asks O d a0 a1 a2 a3 K = some (r0, K0)) : ev O (d + 1) MX11_asks [.ref a0, .int a1, .int a2, .int a3] K = some (some (.int r0), K0) := by
  refine Rn_evx ?_
  show Go O (d + 1) MX11_asks 0 [some (.ref a0), some (.int a1), some (.int a2), some (.int a3)] [] K _
  generalize hP : (fun (r : Option Value) (K' : mH) => (r, K') = (some (.int r0), K0)) = P
  have hret : ∀ (r : Int32) (K' : mH), (r, K') = (r0, K0) → P (some (.int r)) K' := by
    intro r K' e
    cases e
    subst hP
    rfl
  clear hP
  unfold F_X11_asks at h
  refine g_aload_n dX11_asks_0 rfl ?_
  refine g_iconst (v := (nI 0)) dX11_asks_1 (by decide) ?_
  obtain ⟨K1, eK1, h⟩ := bs h
  refine q_put (c := (RX11, TX11, 56)) dX11_asks_2 fX11_149 rfl rfl rfl (fun h => absurd h (by decide)) eK1 ?_
  refine g_aload_n dX11_asks_5 rfl ?_
  refine g_iload_n dX11_asks_6 rfl ?_
  obtain ⟨p2, ep2, h⟩ := bs h
  refine q_virt (Z := MX11_isDead) (c := (RX11, TX11, 56)) (toI_s ep2) dX11_asks_7 mX11_214.1 mX11_214.2 (Nat.le_of_ble_eq_true rfl) rfl rfl (Nat.le_of_ble_eq_true rfl) (Nat.le_of_ble_eq_true rfl) rfl rfl ?_
  show Go O (d + 1) MX11_asks 10 [some (.ref a0), some (.int a1), some (.int a2), some (.int a3)] [.int p2.1] p2.2 P
  refine g_if_eq (t := 31) dX11_asks_10 (by decide) (fun c3 => ?_) (fun c3 => ?_)
  · rw [if_pos c3] at h
    refine g_iconst (v := (-1)) dX11_asks_31 (by decide) ?_
    exact g_ireturn dX11_asks_32 rfl (by first | rfl | decide) (hret _ _ (Option.some.inj h))
  · rw [if_neg c3] at h
    refine g_aload_n dX11_asks_13 rfl ?_
    refine g_iload_n dX11_asks_14 rfl ?_
    obtain ⟨p4, ep4, h⟩ := bs h
    refine q_virt (Z := MX11_isVault) (c := (RX11, TX11, 56)) (toI_s ep4) dX11_asks_15 mX11_188.1 mX11_188.2 (Nat.le_of_ble_eq_true rfl) rfl rfl (Nat.le_of_ble_eq_true rfl) (Nat.le_of_ble_eq_true rfl) rfl rfl ?_
    show Go O (d + 1) MX11_asks 18 [some (.ref a0), some (.int a1), some (.int a2), some (.int a3)] [.int p4.1] p4.2 P
    refine g_if_eq (t := 31) dX11_asks_18 (by decide) (fun c5 => ?_) (fun c5 => ?_)
    · rw [if_pos c5] at h
      refine g_iconst (v := (-1)) dX11_asks_31 (by decide) ?_
      exact g_ireturn dX11_asks_32 rfl (by first | rfl | decide) (hret _ _ (Option.some.inj h))
    · rw [if_neg c5] at h
      refine g_iload_n dX11_asks_21 rfl ?_
      refine g_i2l dX11_asks_22 ?_
      refine g_lconst (v := 0) dX11_asks_23 (by decide) ?_
      refine g_lconst (v := 1) dX11_asks_24 (by decide) ?_
      obtain ⟨p6, ep6, h⟩ := bs h
      refine q_stat (Z := MX11_in) (toI_s ep6) dX11_asks_25 mX11_169.1 mX11_169.2 (Nat.le_of_ble_eq_true rfl) rfl rfl (Nat.le_of_ble_eq_true rfl) (Nat.le_of_ble_eq_true rfl) ?_
      show Go O (d + 1) MX11_asks 28 [some (.ref a0), some (.int a1), some (.int a2), some (.int a3)] [.int p6.1] p6.2 P
      refine g_if_ne (t := 33) dX11_asks_28 (by decide) (fun c7 => ?_) (fun c7 => ?_)
      · rw [if_neg c7] at h
        refine g_iload_n dX11_asks_33 rfl ?_
        refine g_if_ne (t := 53) dX11_asks_34 (by decide) (fun c9 => ?_) (fun c9 => ?_)
        · rw [if_neg c9] at h
          refine g_aload_n dX11_asks_53 rfl ?_
          refine g_iload_n dX11_asks_54 rfl ?_
          refine g_iload_n dX11_asks_55 rfl ?_
          obtain ⟨p10, ep10, h⟩ := bs h
          refine q_virt (Z := MX11_isBarred) (c := (RX11, TX11, 56)) (toI_s ep10) dX11_asks_56 mX11_220.1 mX11_220.2 (Nat.le_of_ble_eq_true rfl) rfl rfl (Nat.le_of_ble_eq_true rfl) (Nat.le_of_ble_eq_true rfl) rfl rfl ?_
          show Go O (d + 1) MX11_asks 59 [some (.ref a0), some (.int a1), some (.int a2), some (.int a3)] [.int p10.1] p10.2 P
          have hj : Go O (d + 1) MX11_asks 67 [none, none, none, none] [.int (if p10.1 = 0 then (nI 0) else (nI 1))] p10.2 P := by
            exact g_ireturn dX11_asks_67 rfl (by first | rfl | decide) (hret _ _ (Option.some.inj h))
          refine g_if_eq (t := 66) dX11_asks_59 (by decide) (fun c11 => ?_) (fun c11 => ?_)
          · skip
            refine g_iconst (v := (nI 0)) dX11_asks_66 (by decide) ?_
            have hk : Go O (d + 1) MX11_asks 67 [none, none, none, none] [.int (nI 0)] p10.2 P := by simpa only [if_pos c11] using hj
            refine Go_le ?_ hk
            exact trivial
          · skip
            refine g_iconst (v := (nI 1)) dX11_asks_62 (by decide) ?_
            refine g_goto (t := 67) dX11_asks_63 (by decide) ?_
            have hk : Go O (d + 1) MX11_asks 67 [none, none, none, none] [.int (nI 1)] p10.2 P := by simpa only [if_neg c11] using hj
            refine Go_le ?_ hk
            exact trivial
        · rw [if_pos c9] at h
          refine g_aload_n dX11_asks_37 rfl ?_
          obtain ⟨x12, ex12, h⟩ := bs h
          refine q_getA dX11_asks_38 fX11_13 ex12 ?_
          refine g_bipush (v := (nI 50)) dX11_asks_41 (by decide) ?_
          refine g_iconst (v := (nI 5)) dX11_asks_43 (by decide) ?_
          refine g_iload_n dX11_asks_44 rfl ?_
          refine g_imul dX11_asks_45 ?_
          refine g_iadd dX11_asks_46 ?_
          refine g_iload_n dX11_asks_47 rfl ?_
          refine g_iadd dX11_asks_48 ?_
          obtain ⟨x13, ex13, h⟩ := bs h
          refine q_iald dX11_asks_49 ex13 ?_
          refine g_goto (t := 67) dX11_asks_50 (by decide) ?_
          exact g_ireturn dX11_asks_67 rfl (by first | rfl | decide) (hret _ _ (Option.some.inj h))
      · rw [if_pos c7] at h
        refine g_iconst (v := (-1)) dX11_asks_31 (by decide) ?_
        exact g_ireturn dX11_asks_32 rfl (by first | rfl | decide) (hret _ _ (Option.some.inj h))
noncomputable def F_X11_wish_j55 (O : mO) (d : Nat) (v0 : Nat) (K : mH) : Option (Int32 × mH) :=
  (toI (vc O d 11 MX11_tell v0 [.int (-2)] K)).bind fun p7 =>
  some (p7.1, p7.2)
theorem e_X11_wish_j55 {O : mO} {d : Nat} {v0 : Nat} {K : mH} {P : Option Value → mH → Prop} {x : Int32 × mH} (hret : ∀ (r : Int32) (K' : mH), (r, K') = x → P (some (.int r)) K') (h : F_X11_wish_j55 O d v0 K = some x) : Go O (d + 1) MX11_wish 55 [some (.ref v0), none, none, none] [] K P := by
  unfold F_X11_wish_j55 at h
  refine g_aload_n dX11_wish_55 rfl ?_
  refine g_bipush (v := (-2)) dX11_wish_56 (by decide) ?_
  obtain ⟨p7, ep7, h⟩ := bs h
  refine q_virt (Z := MX11_tell) (c := (RX11, TX11, 56)) (toI_s ep7) dX11_wish_58 mX11_158.1 mX11_158.2 (Nat.le_of_ble_eq_true rfl) rfl rfl (Nat.le_of_ble_eq_true rfl) (Nat.le_of_ble_eq_true rfl) rfl rfl ?_
  show Go O (d + 1) MX11_wish 61 [some (.ref v0), none, none, none] [.int p7.1] p7.2 P
  exact g_ireturn dX11_wish_61 rfl (by first | rfl | decide) (hret _ _ (Option.some.inj h))
noncomputable def F_X11_wish (O : mO) (d : Nat) (a0 : Nat) (a1 : Int32) (a2 : Int32) (a3 : Int32) (K : mH) : Option (Int32 × mH) :=
  (ptI K a0 11 0 (nI 0)).bind fun K1 =>
  (toI (ev O d MX11_in [.long a3.toInt64, .long 0, .long (9)] K1)).bind fun p2 =>
  if p2.1 = 0 then
    (toI (vc O d 11 MX11_tell a0 [.int (-1)] p2.2)).bind fun p12 =>
    some (p12.1, p12.2)
  else
    (toI (vc O d 11 MX11_isDead a0 [.int a1] p2.2)).bind fun p4 =>
    if p4.1 = 0 then
      F_X11_wish_j55 O d a0 p4.2
    else
      (toI (vc O d 11 MX11_isVault a0 [.int a2] p4.2)).bind fun p8 =>
      if p8.1 = 0 then
        F_X11_wish_j55 O d a0 p8.2
      else
        (toI (vc O d 11 MX11_change a0 [.int (((nI 50) + ((nI 5) * a1)) + a2), .int a3] p8.2)).bind fun p11 =>
        some (p11.1, p11.2)
theorem e_X11_wish {O : mO} {d : Nat} {a0 : Nat} {a1 : Int32} {a2 : Int32} {a3 : Int32} {K : mH} {r0 : Int32} {K0 : mH} (h : F_X11_wish O d a0 a1 a2 a3 K = some (r0, K0)) : ev O (d + 1) MX11_wish [.ref a0, .int a1, .int a2, .int a3] K = some (some (.int r0), K0) := by
  refine Rn_evx ?_
  show Go O (d + 1) MX11_wish 0 [some (.ref a0), some (.int a1), some (.int a2), some (.int a3)] [] K _
  generalize hP : (fun (r : Option Value) (K' : mH) => (r, K') = (some (.int r0), K0)) = P
  have hret : ∀ (r : Int32) (K' : mH), (r, K') = (r0, K0) → P (some (.int r)) K' := by
    intro r K' e
    cases e
    subst hP
    rfl
  clear hP
  unfold F_X11_wish at h
  refine g_aload_n dX11_wish_0 rfl ?_
  refine g_iconst (v := (nI 0)) dX11_wish_1 (by decide) ?_
  obtain ⟨K1, eK1, h⟩ := bs h
  refine q_put (c := (RX11, TX11, 56)) dX11_wish_2 fX11_149 rfl rfl rfl (fun h => absurd h (by decide)) eK1 ?_
  refine g_iload_n dX11_wish_5 rfl ?_
  refine g_i2l dX11_wish_6 ?_
  refine g_lconst (v := 0) dX11_wish_7 (by decide) ?_
  refine g_ldc2 (v := 9) dX11_wish_8 lX11_224 ?_
  obtain ⟨p2, ep2, h⟩ := bs h
  refine q_stat (Z := MX11_in) (toI_s ep2) dX11_wish_11 mX11_169.1 mX11_169.2 (Nat.le_of_ble_eq_true rfl) rfl rfl (Nat.le_of_ble_eq_true rfl) (Nat.le_of_ble_eq_true rfl) ?_
  show Go O (d + 1) MX11_wish 14 [some (.ref a0), some (.int a1), some (.int a2), some (.int a3)] [.int p2.1] p2.2 P
  refine g_if_ne (t := 23) dX11_wish_14 (by decide) (fun c3 => ?_) (fun c3 => ?_)
  · rw [if_neg c3] at h
    refine g_aload_n dX11_wish_23 rfl ?_
    refine g_iload_n dX11_wish_24 rfl ?_
    obtain ⟨p4, ep4, h⟩ := bs h
    refine q_virt (Z := MX11_isDead) (c := (RX11, TX11, 56)) (toI_s ep4) dX11_wish_25 mX11_214.1 mX11_214.2 (Nat.le_of_ble_eq_true rfl) rfl rfl (Nat.le_of_ble_eq_true rfl) (Nat.le_of_ble_eq_true rfl) rfl rfl ?_
    show Go O (d + 1) MX11_wish 28 [some (.ref a0), some (.int a1), some (.int a2), some (.int a3)] [.int p4.1] p4.2 P
    refine g_if_eq (t := 55) dX11_wish_28 (by decide) (fun c6 => ?_) (fun c6 => ?_)
    · rw [if_pos c6] at h
      refine Go_le ?_ (e_X11_wish_j55 hret h)
      exact And.intro rfl (trivial)
    · rw [if_neg c6] at h
      refine g_aload_n dX11_wish_31 rfl ?_
      refine g_iload_n dX11_wish_32 rfl ?_
      obtain ⟨p8, ep8, h⟩ := bs h
      refine q_virt (Z := MX11_isVault) (c := (RX11, TX11, 56)) (toI_s ep8) dX11_wish_33 mX11_188.1 mX11_188.2 (Nat.le_of_ble_eq_true rfl) rfl rfl (Nat.le_of_ble_eq_true rfl) (Nat.le_of_ble_eq_true rfl) rfl rfl ?_
      show Go O (d + 1) MX11_wish 36 [some (.ref a0), some (.int a1), some (.int a2), some (.int a3)] [.int p8.1] p8.2 P
      refine g_if_eq (t := 55) dX11_wish_36 (by decide) (fun c10 => ?_) (fun c10 => ?_)
      · rw [if_pos c10] at h
        refine Go_le ?_ (e_X11_wish_j55 hret h)
        exact And.intro rfl (trivial)
      · rw [if_neg c10] at h
        refine g_aload_n dX11_wish_39 rfl ?_
        refine g_bipush (v := (nI 50)) dX11_wish_40 (by decide) ?_
        refine g_iconst (v := (nI 5)) dX11_wish_42 (by decide) ?_
        refine g_iload_n dX11_wish_43 rfl ?_
        refine g_imul dX11_wish_44 ?_
        refine g_iadd dX11_wish_45 ?_
        refine g_iload_n dX11_wish_46 rfl ?_
        refine g_iadd dX11_wish_47 ?_
        refine g_iload_n dX11_wish_48 rfl ?_
        obtain ⟨p11, ep11, h⟩ := bs h
        refine q_virt (Z := MX11_change) (c := (RX11, TX11, 56)) (toI_s ep11) dX11_wish_49 mX11_226.1 mX11_226.2 (Nat.le_of_ble_eq_true rfl) rfl rfl (Nat.le_of_ble_eq_true rfl) (Nat.le_of_ble_eq_true rfl) rfl rfl ?_
        show Go O (d + 1) MX11_wish 52 [some (.ref a0), some (.int a1), some (.int a2), some (.int a3)] [.int p11.1] p11.2 P
        refine g_goto (t := 61) dX11_wish_52 (by decide) ?_
        exact g_ireturn dX11_wish_61 rfl (by first | rfl | decide) (hret _ _ (Option.some.inj h))
  · rw [if_pos c3] at h
    refine g_aload_n dX11_wish_17 rfl ?_
    refine g_iconst (v := (-1)) dX11_wish_18 (by decide) ?_
    obtain ⟨p12, ep12, h⟩ := bs h
    refine q_virt (Z := MX11_tell) (c := (RX11, TX11, 56)) (toI_s ep12) dX11_wish_19 mX11_158.1 mX11_158.2 (Nat.le_of_ble_eq_true rfl) rfl rfl (Nat.le_of_ble_eq_true rfl) (Nat.le_of_ble_eq_true rfl) rfl rfl ?_
    show Go O (d + 1) MX11_wish 22 [some (.ref a0), some (.int a1), some (.int a2), some (.int a3)] [.int p12.1] p12.2 P
    exact g_ireturn dX11_wish_22 rfl (by first | rfl | decide) (hret _ _ (Option.some.inj h))
noncomputable def F_X11_terms_j60 (O : mO) (d : Nat) (v0 : Nat) (v1 : Int32) (v2 : Int32) (w0 : Int32) (K : mH) : Option (Int32 × mH) :=
  if w0 = 0 then
    (toI (vc O d 11 MX11_tell v0 [.int (-1)] K)).bind fun p14 =>
    some (p14.1, p14.2)
  else
    (ptI K v0 11 8 (nI 0)).bind fun K12 =>
    (toI (vc O d 11 MX11_change v0 [.int ((nI 6) + v1), .int v2] K12)).bind fun p13 =>
    some (p13.1, p13.2)
theorem e_X11_terms_j60 {O : mO} {d : Nat} {v0 : Nat} {v1 : Int32} {v2 : Int32} {w0 : Int32} {K : mH} {P : Option Value → mH → Prop} {x : Int32 × mH} (hret : ∀ (r : Int32) (K' : mH), (r, K') = x → P (some (.int r)) K') (h : F_X11_terms_j60 O d v0 v1 v2 w0 K = some x) : Go O (d + 1) MX11_terms 60 [some (.ref v0), some (.int v1), some (.int v2), none] [.int w0] K P := by
  unfold F_X11_terms_j60 at h
  refine g_istore_n (ls' := [some (.ref v0), some (.int v1), some (.int v2), some (.int w0)]) dX11_terms_60 (by decide) rfl ?_
  refine g_iload_n dX11_terms_61 rfl ?_
  refine g_if_ne (t := 71) dX11_terms_62 (by decide) (fun c11 => ?_) (fun c11 => ?_)
  · rw [if_neg c11] at h
    refine g_aload_n dX11_terms_71 rfl ?_
    refine g_iconst (v := (nI 0)) dX11_terms_72 (by decide) ?_
    obtain ⟨K12, eK12, h⟩ := bs h
    refine q_put (c := (RX11, TX11, 56)) dX11_terms_73 fX11_155 rfl rfl rfl (fun h => absurd h (by decide)) eK12 ?_
    refine g_aload_n dX11_terms_76 rfl ?_
    refine g_bipush (v := (nI 6)) dX11_terms_77 (by decide) ?_
    refine g_iload_n dX11_terms_79 rfl ?_
    refine g_iadd dX11_terms_80 ?_
    refine g_iload_n dX11_terms_81 rfl ?_
    obtain ⟨p13, ep13, h⟩ := bs h
    refine q_virt (Z := MX11_change) (c := (RX11, TX11, 56)) (toI_s ep13) dX11_terms_82 mX11_226.1 mX11_226.2 (Nat.le_of_ble_eq_true rfl) rfl rfl (Nat.le_of_ble_eq_true rfl) (Nat.le_of_ble_eq_true rfl) rfl rfl ?_
    show Go O (d + 1) MX11_terms 85 [some (.ref v0), some (.int v1), some (.int v2), some (.int w0)] [.int p13.1] p13.2 P
    exact g_ireturn dX11_terms_85 rfl (by first | rfl | decide) (hret _ _ (Option.some.inj h))
  · rw [if_pos c11] at h
    refine g_aload_n dX11_terms_65 rfl ?_
    refine g_iconst (v := (-1)) dX11_terms_66 (by decide) ?_
    obtain ⟨p14, ep14, h⟩ := bs h
    refine q_virt (Z := MX11_tell) (c := (RX11, TX11, 56)) (toI_s ep14) dX11_terms_67 mX11_158.1 mX11_158.2 (Nat.le_of_ble_eq_true rfl) rfl rfl (Nat.le_of_ble_eq_true rfl) (Nat.le_of_ble_eq_true rfl) rfl rfl ?_
    show Go O (d + 1) MX11_terms 70 [some (.ref v0), some (.int v1), some (.int v2), some (.int w0)] [.int p14.1] p14.2 P
    exact g_ireturn dX11_terms_70 rfl (by first | rfl | decide) (hret _ _ (Option.some.inj h))
noncomputable def F_X11_terms_j59 (O : mO) (d : Nat) (v0 : Nat) (v1 : Int32) (v2 : Int32) (K : mH) : Option (Int32 × mH) :=
  F_X11_terms_j60 O d v0 v1 v2 (nI 0) K
theorem e_X11_terms_j59 {O : mO} {d : Nat} {v0 : Nat} {v1 : Int32} {v2 : Int32} {K : mH} {P : Option Value → mH → Prop} {x : Int32 × mH} (hret : ∀ (r : Int32) (K' : mH), (r, K') = x → P (some (.int r)) K') (h : F_X11_terms_j59 O d v0 v1 v2 K = some x) : Go O (d + 1) MX11_terms 59 [some (.ref v0), some (.int v1), some (.int v2), none] [] K P := by
  unfold F_X11_terms_j59 at h
  refine g_iconst (v := (nI 0)) dX11_terms_59 (by decide) ?_
  refine Go_le ?_ (e_X11_terms_j60 hret h)
  exact And.intro rfl (And.intro rfl (And.intro rfl (trivial)))
noncomputable def F_X11_terms (O : mO) (d : Nat) (a0 : Nat) (a1 : Int32) (a2 : Int32) (K : mH) : Option (Int32 × mH) :=
  (ptI K a0 11 0 (nI 0)).bind fun K1 =>
  if a1 = 0 then
    (toI (ev O d MX11_in [.long a2.toInt64, .long 0, .long (999)] K1)).bind fun p18 =>
    F_X11_terms_j60 O d a0 a1 a2 p18.1 p18.2
  else
    if a1 = (nI 1) then
      (toI (ev O d MX11_in [.long a2.toInt64, .long 0, .long (10)] K1)).bind fun p17 =>
      F_X11_terms_j60 O d a0 a1 a2 p17.1 p17.2
    else
      if a1 = (nI 2) then
        (toI (ev O d MX11_in [.long a2.toInt64, .long 0, .long (9)] K1)).bind fun p15 =>
        F_X11_terms_j60 O d a0 a1 a2 (if p15.1 = 0 then (nI 0) else (nI 1)) p15.2
      else
        F_X11_terms_j59 O d a0 a1 a2 K1
theorem e_X11_terms {O : mO} {d : Nat} {a0 : Nat} {a1 : Int32} {a2 : Int32} {K : mH} {r0 : Int32} {K0 : mH} (h : F_X11_terms O d a0 a1 a2 K = some (r0, K0)) : ev O (d + 1) MX11_terms [.ref a0, .int a1, .int a2] K = some (some (.int r0), K0) := by
  refine Rn_evx ?_
  show Go O (d + 1) MX11_terms 0 [some (.ref a0), some (.int a1), some (.int a2), none] [] K _
  generalize hP : (fun (r : Option Value) (K' : mH) => (r, K') = (some (.int r0), K0)) = P
  have hret : ∀ (r : Int32) (K' : mH), (r, K') = (r0, K0) → P (some (.int r)) K' := by
    intro r K' e
    cases e
    subst hP
    rfl
  clear hP
  unfold F_X11_terms at h
  refine g_aload_n dX11_terms_0 rfl ?_
  refine g_iconst (v := (nI 0)) dX11_terms_1 (by decide) ?_
  obtain ⟨K1, eK1, h⟩ := bs h
  refine q_put (c := (RX11, TX11, 56)) dX11_terms_2 fX11_149 rfl rfl rfl (fun h => absurd h (by decide)) eK1 ?_
  refine g_iload_n dX11_terms_5 rfl ?_
  refine g_if_ne (t := 21) dX11_terms_6 (by decide) (fun c5 => ?_) (fun c5 => ?_)
  · rw [if_neg c5] at h
    refine g_iload_n dX11_terms_21 rfl ?_
    refine g_iconst (v := (nI 1)) dX11_terms_22 (by decide) ?_
    refine g_ic_ne (t := 38) dX11_terms_23 (by decide) (fun c8 => ?_) (fun c8 => ?_)
    · rw [if_neg c8] at h
      refine g_iload_n dX11_terms_38 rfl ?_
      refine g_iconst (v := (nI 2)) dX11_terms_39 (by decide) ?_
      refine g_ic_ne (t := 59) dX11_terms_40 (by decide) (fun c10 => ?_) (fun c10 => ?_)
      · rw [if_neg c10] at h
        refine Go_le ?_ (e_X11_terms_j59 hret h)
        exact And.intro rfl (And.intro rfl (And.intro rfl (trivial)))
      · rw [if_pos c10] at h
        refine g_iload_n dX11_terms_43 rfl ?_
        refine g_i2l dX11_terms_44 ?_
        refine g_lconst (v := 0) dX11_terms_45 (by decide) ?_
        refine g_ldc2 (v := 9) dX11_terms_46 lX11_224 ?_
        obtain ⟨p15, ep15, h⟩ := bs h
        refine q_stat (Z := MX11_in) (toI_s ep15) dX11_terms_49 mX11_169.1 mX11_169.2 (Nat.le_of_ble_eq_true rfl) rfl rfl (Nat.le_of_ble_eq_true rfl) (Nat.le_of_ble_eq_true rfl) ?_
        show Go O (d + 1) MX11_terms 52 [some (.ref a0), some (.int a1), some (.int a2), none] [.int p15.1] p15.2 P
        have hj : Go O (d + 1) MX11_terms 60 [some (.ref a0), some (.int a1), some (.int a2), none] [.int (if p15.1 = 0 then (nI 0) else (nI 1))] p15.2 P := by
          refine Go_le ?_ (e_X11_terms_j60 hret h)
          exact And.intro rfl (And.intro rfl (And.intro rfl (trivial)))
        refine g_if_eq (t := 59) dX11_terms_52 (by decide) (fun c16 => ?_) (fun c16 => ?_)
        · skip
          refine g_iconst (v := (nI 0)) dX11_terms_59 (by decide) ?_
          have hk : Go O (d + 1) MX11_terms 60 [some (.ref a0), some (.int a1), some (.int a2), none] [.int (nI 0)] p15.2 P := by simpa only [if_pos c16] using hj
          refine Go_le ?_ hk
          exact And.intro rfl (And.intro rfl (And.intro rfl (trivial)))
        · skip
          refine g_iconst (v := (nI 1)) dX11_terms_55 (by decide) ?_
          refine g_goto (t := 60) dX11_terms_56 (by decide) ?_
          have hk : Go O (d + 1) MX11_terms 60 [some (.ref a0), some (.int a1), some (.int a2), none] [.int (nI 1)] p15.2 P := by simpa only [if_neg c16] using hj
          refine Go_le ?_ hk
          exact And.intro rfl (And.intro rfl (And.intro rfl (trivial)))
    · rw [if_pos c8] at h
      refine g_iload_n dX11_terms_26 rfl ?_
      refine g_i2l dX11_terms_27 ?_
      refine g_lconst (v := 0) dX11_terms_28 (by decide) ?_
      refine g_ldc2 (v := 10) dX11_terms_29 lX11_230 ?_
      obtain ⟨p17, ep17, h⟩ := bs h
      refine q_stat (Z := MX11_in) (toI_s ep17) dX11_terms_32 mX11_169.1 mX11_169.2 (Nat.le_of_ble_eq_true rfl) rfl rfl (Nat.le_of_ble_eq_true rfl) (Nat.le_of_ble_eq_true rfl) ?_
      show Go O (d + 1) MX11_terms 35 [some (.ref a0), some (.int a1), some (.int a2), none] [.int p17.1] p17.2 P
      refine g_goto (t := 60) dX11_terms_35 (by decide) ?_
      refine Go_le ?_ (e_X11_terms_j60 hret h)
      exact And.intro rfl (And.intro rfl (And.intro rfl (trivial)))
  · rw [if_pos c5] at h
    refine g_iload_n dX11_terms_9 rfl ?_
    refine g_i2l dX11_terms_10 ?_
    refine g_lconst (v := 0) dX11_terms_11 (by decide) ?_
    refine g_ldc2 (v := 999) dX11_terms_12 lX11_194 ?_
    obtain ⟨p18, ep18, h⟩ := bs h
    refine q_stat (Z := MX11_in) (toI_s ep18) dX11_terms_15 mX11_169.1 mX11_169.2 (Nat.le_of_ble_eq_true rfl) rfl rfl (Nat.le_of_ble_eq_true rfl) (Nat.le_of_ble_eq_true rfl) ?_
    show Go O (d + 1) MX11_terms 18 [some (.ref a0), some (.int a1), some (.int a2), none] [.int p18.1] p18.2 P
    refine g_goto (t := 60) dX11_terms_18 (by decide) ?_
    refine Go_le ?_ (e_X11_terms_j60 hret h)
    exact And.intro rfl (And.intro rfl (And.intro rfl (trivial)))
noncomputable def F_X11_row_j82 (O : mO) (d : Nat) (v0 : Nat) (v1 : Int32) (v2 : Int32) (v3 : Int32) (K : mH) : Option ((Int32 × Int32 × mH) ⊕ (Int32 × mH)) :=
  (gtI K v0 11 11).bind fun x9 =>
  (ptI K v0 11 11 (x9 + (nI 1))).bind fun K10 =>
  some (.inl (v2, (v3 + nI 3), K10))
theorem e_X11_row_j82 {O : mO} {d : Nat} {v0 : Nat} {v1 : Int32} {v2 : Int32} {v3 : Int32} {K : mH} {P : Option Value → mH → Prop} {y : (Int32 × Int32 × mH) ⊕ (Int32 × mH)} (hin : ∀ q : Int32 × Int32 × mH, y = .inl q → Go O (d + 1) MX11_row 35 [some (.ref v0), some (.int v1), some (.int q.1), some (.int q.2.1)] [] q.2.2 P) (hex : ∀ q : Int32 × mH, y = .inr q → Go O (d + 1) MX11_row 98 [some (.ref v0), none, some (.int q.1), none] [] q.2 P) (h : F_X11_row_j82 O d v0 v1 v2 v3 K = some y) : Go O (d + 1) MX11_row 82 [some (.ref v0), some (.int v1), some (.int v2), some (.int v3)] [] K P := by
  unfold F_X11_row_j82 at h
  refine g_aload_n dX11_row_82 rfl ?_
  refine g_dup dX11_row_83 (by first | rfl | exact vrf_cat _) ?_
  obtain ⟨x9, ex9, h⟩ := bs h
  refine q_getI dX11_row_84 fX11_235 ex9 ?_
  refine g_iconst (v := (nI 1)) dX11_row_87 (by decide) ?_
  refine g_iadd dX11_row_88 ?_
  obtain ⟨K10, eK10, h⟩ := bs h
  refine q_put (c := (RX11, TX11, 56)) dX11_row_89 fX11_235 rfl rfl rfl (fun h => absurd h (by decide)) eK10 ?_
  refine q_iinc (w := nI 3) (ls' := [some (.ref v0), some (.int v1), some (.int v2), some (.int (v3 + nI 3))]) dX11_row_92 (by decide) rfl (by decide) rfl ?_
  refine g_goto (t := 35) dX11_row_95 (by decide) ?_
  refine Go_le ?_ (hin (v2, (v3 + nI 3), K10) (Option.some.inj h).symm)
  exact And.intro rfl (And.intro rfl (And.intro rfl (And.intro rfl (trivial))))
noncomputable def F_X11_row_l35 (O : mO) (d : Nat) (v0 : Nat) (v1 : Int32) (s2 : Int32) (s3 : Int32) (K : mH) : Option ((Int32 × Int32 × mH) ⊕ (Int32 × mH)) :=
  if v1 ≤ s3 then
    some (.inr (s2, K))
  else
    if v1 ≤ (s3 + (nI 2)) then
      F_X11_row_j82 O d v0 v1 s2 s3 K
    else
      (gtA K v0 11 12).bind fun x11 =>
      (rdI O K x11 s3).bind fun x12 =>
      (gtA K v0 11 12).bind fun x13 =>
      (rdI O K x13 (s3 + (nI 1))).bind fun x14 =>
      (gtA K v0 11 12).bind fun x15 =>
      (rdI O K x15 (s3 + (nI 2))).bind fun x16 =>
      (toI (vc O d 11 MX11_come v0 [.int x12, .int x14, .int x16] K)).bind fun p17 =>
      if p17.1 < 0 then
        F_X11_row_j82 O d v0 v1 s2 s3 p17.2
      else
        some (.inl ((s2 + nI 1), (s3 + nI 3), p17.2))
theorem e_X11_row_l35 {O : mO} {d : Nat} {v0 : Nat} {v1 : Int32} {P : Option Value → mH → Prop} {x : Int32 × mH} (hex : ∀ q : Int32 × mH, x = q → Go O (d + 1) MX11_row 98 [some (.ref v0), none, some (.int q.1), none] [] q.2 P) : ∀ (f : Nat) (q : Int32 × Int32 × mH), lupF (fun (q : Int32 × Int32 × mH) => F_X11_row_l35 O d v0 v1 q.1 q.2.1 q.2.2) f q = some x → Go O (d + 1) MX11_row 35 [some (.ref v0), some (.int v1), some (.int q.1), some (.int q.2.1)] [] q.2.2 P := by
  intro f
  induction f with
  | zero =>
    intro q h
    cases h
  | succ f ih =>
    intro q h
    obtain ⟨y, h, hy1, hy2⟩ := lupF_s h
    have hin : ∀ q : Int32 × Int32 × mH, y = .inl q → Go O (d + 1) MX11_row 35 [some (.ref v0), some (.int v1), some (.int q.1), some (.int q.2.1)] [] q.2.2 P := fun q e => ih q (hy1 q e)
    replace hex : ∀ q : Int32 × mH, y = .inr q → Go O (d + 1) MX11_row 98 [some (.ref v0), none, some (.int q.1), none] [] q.2 P := fun q e => hex q (hy2 q e).symm
    clear ih hy1 hy2
    obtain ⟨s2, s3, K⟩ := q
    dsimp only at h ⊢
    unfold F_X11_row_l35 at h
    refine g_iload_n dX11_row_35 rfl ?_
    refine g_iload_n dX11_row_36 rfl ?_
    refine g_ic_ge (t := 98) dX11_row_37 (by decide) (fun c6 => ?_) (fun c6 => ?_)
    · rw [if_pos c6] at h
      refine Go_le ?_ (hex (s2, K) (Option.some.inj h).symm)
      exact And.intro rfl (And.intro rfl (trivial))
    · rw [if_neg c6] at h
      refine g_iload_n dX11_row_40 rfl ?_
      refine g_iconst (v := (nI 2)) dX11_row_41 (by decide) ?_
      refine g_iadd dX11_row_42 ?_
      refine g_iload_n dX11_row_43 rfl ?_
      refine g_ic_ge (t := 82) dX11_row_44 (by decide) (fun c8 => ?_) (fun c8 => ?_)
      · rw [if_pos c8] at h
        refine Go_le ?_ (e_X11_row_j82 hin hex h)
        exact And.intro rfl (And.intro rfl (And.intro rfl (And.intro rfl (trivial))))
      · rw [if_neg c8] at h
        refine g_aload_n dX11_row_47 rfl ?_
        refine g_aload_n dX11_row_48 rfl ?_
        obtain ⟨x11, ex11, h⟩ := bs h
        refine q_getA dX11_row_49 fX11_35 ex11 ?_
        refine g_iload_n dX11_row_52 rfl ?_
        obtain ⟨x12, ex12, h⟩ := bs h
        refine q_iald dX11_row_53 ex12 ?_
        refine g_aload_n dX11_row_54 rfl ?_
        obtain ⟨x13, ex13, h⟩ := bs h
        refine q_getA dX11_row_55 fX11_35 ex13 ?_
        refine g_iload_n dX11_row_58 rfl ?_
        refine g_iconst (v := (nI 1)) dX11_row_59 (by decide) ?_
        refine g_iadd dX11_row_60 ?_
        obtain ⟨x14, ex14, h⟩ := bs h
        refine q_iald dX11_row_61 ex14 ?_
        refine g_aload_n dX11_row_62 rfl ?_
        obtain ⟨x15, ex15, h⟩ := bs h
        refine q_getA dX11_row_63 fX11_35 ex15 ?_
        refine g_iload_n dX11_row_66 rfl ?_
        refine g_iconst (v := (nI 2)) dX11_row_67 (by decide) ?_
        refine g_iadd dX11_row_68 ?_
        obtain ⟨x16, ex16, h⟩ := bs h
        refine q_iald dX11_row_69 ex16 ?_
        obtain ⟨p17, ep17, h⟩ := bs h
        refine q_virt (Z := MX11_come) (c := (RX11, TX11, 56)) (toI_s ep17) dX11_row_70 mX11_210.1 mX11_210.2 (Nat.le_of_ble_eq_true rfl) rfl rfl (Nat.le_of_ble_eq_true rfl) (Nat.le_of_ble_eq_true rfl) rfl rfl ?_
        show Go O (d + 1) MX11_row 73 [some (.ref v0), some (.int v1), some (.int s2), some (.int s3)] [.int p17.1] p17.2 P
        refine g_if_lt (t := 82) dX11_row_73 (by decide) (fun c19 => ?_) (fun c19 => ?_)
        · rw [if_pos c19] at h
          refine Go_le ?_ (e_X11_row_j82 hin hex h)
          exact And.intro rfl (And.intro rfl (And.intro rfl (And.intro rfl (trivial))))
        · rw [if_neg c19] at h
          refine q_iinc (w := nI 1) (ls' := [some (.ref v0), some (.int v1), some (.int (s2 + nI 1)), some (.int s3)]) dX11_row_76 (by decide) rfl (by decide) rfl ?_
          refine g_goto (t := 92) dX11_row_79 (by decide) ?_
          refine q_iinc (w := nI 3) (ls' := [some (.ref v0), some (.int v1), some (.int (s2 + nI 1)), some (.int (s3 + nI 3))]) dX11_row_92 (by decide) rfl (by decide) rfl ?_
          refine g_goto (t := 35) dX11_row_95 (by decide) ?_
          refine Go_le ?_ (hin ((s2 + nI 1), (s3 + nI 3), p17.2) (Option.some.inj h).symm)
          exact And.intro rfl (And.intro rfl (And.intro rfl (And.intro rfl (trivial))))
noncomputable def F_X11_row (O : mO) (d : Nat) (a0 : Nat) (K : mH) : Option (Int32 × mH) :=
  (ptI K a0 11 0 (nI 0)).bind fun K1 =>
  (gtI K1 a0 11 13).bind fun x2 =>
  (ptI K1 a0 11 13 (nI 0)).bind fun K3 =>
  if x2 = 0 then
    (toI (vc O d 11 MX11_tell a0 [.int (-6)] K3)).bind fun p22 =>
    some (p22.1, p22.2)
  else
    (ptI K3 a0 11 11 (nI 0)).bind fun K5 =>
    (lupF (fun (q : Int32 × Int32 × mH) => F_X11_row_l35 O d a0 x2 q.1 q.2.1 q.2.2) FU ((nI 0), (nI 0), K5)).bind fun r20 =>
    (toI (vc O d 11 MX11_settled a0 [.int r20.1] r20.2)).bind fun p21 =>
    some (p21.1, p21.2)
theorem e_X11_row {O : mO} {d : Nat} {a0 : Nat} {K : mH} {r0 : Int32} {K0 : mH} (h : F_X11_row O d a0 K = some (r0, K0)) : ev O (d + 1) MX11_row [.ref a0] K = some (some (.int r0), K0) := by
  refine Rn_evx ?_
  show Go O (d + 1) MX11_row 0 [some (.ref a0), none, none, none] [] K _
  generalize hP : (fun (r : Option Value) (K' : mH) => (r, K') = (some (.int r0), K0)) = P
  have hret : ∀ (r : Int32) (K' : mH), (r, K') = (r0, K0) → P (some (.int r)) K' := by
    intro r K' e
    cases e
    subst hP
    rfl
  clear hP
  unfold F_X11_row at h
  refine g_aload_n dX11_row_0 rfl ?_
  refine g_iconst (v := (nI 0)) dX11_row_1 (by decide) ?_
  obtain ⟨K1, eK1, h⟩ := bs h
  refine q_put (c := (RX11, TX11, 56)) dX11_row_2 fX11_149 rfl rfl rfl (fun h => absurd h (by decide)) eK1 ?_
  refine g_aload_n dX11_row_5 rfl ?_
  obtain ⟨x2, ex2, h⟩ := bs h
  refine q_getI dX11_row_6 fX11_232 ex2 ?_
  refine g_istore_n (ls' := [some (.ref a0), some (.int x2), none, none]) dX11_row_9 (by decide) rfl ?_
  refine g_aload_n dX11_row_10 rfl ?_
  refine g_iconst (v := (nI 0)) dX11_row_11 (by decide) ?_
  obtain ⟨K3, eK3, h⟩ := bs h
  refine q_put (c := (RX11, TX11, 56)) dX11_row_12 fX11_232 rfl rfl rfl (fun h => absurd h (by decide)) eK3 ?_
  refine g_iload_n dX11_row_15 rfl ?_
  refine g_if_ne (t := 26) dX11_row_16 (by decide) (fun c4 => ?_) (fun c4 => ?_)
  · rw [if_neg c4] at h
    refine g_aload_n dX11_row_26 rfl ?_
    refine g_iconst (v := (nI 0)) dX11_row_27 (by decide) ?_
    obtain ⟨K5, eK5, h⟩ := bs h
    refine q_put (c := (RX11, TX11, 56)) dX11_row_28 fX11_235 rfl rfl rfl (fun h => absurd h (by decide)) eK5 ?_
    refine g_iconst (v := (nI 0)) dX11_row_31 (by decide) ?_
    refine g_istore_n (ls' := [some (.ref a0), some (.int x2), some (.int (nI 0)), none]) dX11_row_32 (by decide) rfl ?_
    refine g_iconst (v := (nI 0)) dX11_row_33 (by decide) ?_
    refine g_istore_n (ls' := [some (.ref a0), some (.int x2), some (.int (nI 0)), some (.int (nI 0))]) dX11_row_34 (by decide) rfl ?_
    obtain ⟨r20, er20, h⟩ := bs h
    have hx : Go O (d + 1) MX11_row 98 [some (.ref a0), none, some (.int r20.1), none] [] r20.2 P := by
      refine g_aload_n dX11_row_98 rfl ?_
      refine g_iload_n dX11_row_99 rfl ?_
      obtain ⟨p21, ep21, h⟩ := bs h
      refine q_virt (Z := MX11_settled) (c := (RX11, TX11, 56)) (toI_s ep21) dX11_row_100 mX11_173.1 mX11_173.2 (Nat.le_of_ble_eq_true rfl) rfl rfl (Nat.le_of_ble_eq_true rfl) (Nat.le_of_ble_eq_true rfl) rfl rfl ?_
      show Go O (d + 1) MX11_row 103 [some (.ref a0), none, some (.int r20.1), none] [.int p21.1] p21.2 P
      exact g_ireturn dX11_row_103 rfl (by first | rfl | decide) (hret _ _ (Option.some.inj h))
    refine Go_le ?_ (e_X11_row_l35 (fun q e => by cases e; exact hx) FU ((nI 0), (nI 0), K5) er20)
    exact And.intro rfl (And.intro rfl (And.intro rfl (And.intro rfl (trivial))))
  · rw [if_pos c4] at h
    refine g_aload_n dX11_row_19 rfl ?_
    refine g_bipush (v := (-6)) dX11_row_20 (by decide) ?_
    obtain ⟨p22, ep22, h⟩ := bs h
    refine q_virt (Z := MX11_tell) (c := (RX11, TX11, 56)) (toI_s ep22) dX11_row_22 mX11_158.1 mX11_158.2 (Nat.le_of_ble_eq_true rfl) rfl rfl (Nat.le_of_ble_eq_true rfl) (Nat.le_of_ble_eq_true rfl) rfl rfl ?_
    show Go O (d + 1) MX11_row 25 [some (.ref a0), some (.int x2), none, none] [.int p22.1] p22.2 P
    exact g_ireturn dX11_row_25 rfl (by first | rfl | decide) (hret _ _ (Option.some.inj h))
noncomputable def F_X11_draughts (O : mO) (d : Nat) (a0 : Nat) (K : mH) : Option (Int32 × mH) :=
  (ptI K a0 11 0 (nI 0)).bind fun K1 =>
  (gtI K1 a0 11 11).bind fun x2 =>
  some (x2, K1)
theorem e_X11_draughts {O : mO} {d : Nat} {a0 : Nat} {K : mH} {r0 : Int32} {K0 : mH} (h : F_X11_draughts O d a0 K = some (r0, K0)) : ev O (d + 1) MX11_draughts [.ref a0] K = some (some (.int r0), K0) := by
  refine Rn_evx ?_
  show Go O (d + 1) MX11_draughts 0 [some (.ref a0)] [] K _
  generalize hP : (fun (r : Option Value) (K' : mH) => (r, K') = (some (.int r0), K0)) = P
  have hret : ∀ (r : Int32) (K' : mH), (r, K') = (r0, K0) → P (some (.int r)) K' := by
    intro r K' e
    cases e
    subst hP
    rfl
  clear hP
  unfold F_X11_draughts at h
  refine g_aload_n dX11_draughts_0 rfl ?_
  refine g_iconst (v := (nI 0)) dX11_draughts_1 (by decide) ?_
  obtain ⟨K1, eK1, h⟩ := bs h
  refine q_put (c := (RX11, TX11, 56)) dX11_draughts_2 fX11_149 rfl rfl rfl (fun h => absurd h (by decide)) eK1 ?_
  refine g_aload_n dX11_draughts_5 rfl ?_
  obtain ⟨x2, ex2, h⟩ := bs h
  refine q_getI dX11_draughts_6 fX11_235 ex2 ?_
  exact g_ireturn dX11_draughts_9 rfl (by first | rfl | decide) (hret _ _ (Option.some.inj h))
noncomputable def F_X11_four_l3 (O : mO) (d : Nat) (v0 : Nat) (v1 : Int32) (s2 : Int32) (K : mH) : Option ((Int32 × mH) ⊕ (mH)) :=
  if s2 < 0 then
    some (.inr K)
  else
    (gtA K v0 11 12).bind fun x2 =>
    (gtI K v0 11 13).bind fun x3 =>
    (wrI K x2 x3 ((v1 >>> (s2 &&& 31)) &&& (nI 255))).bind fun K4 =>
    (gtI K4 v0 11 13).bind fun x5 =>
    (ptI K4 v0 11 13 (x5 + (nI 1))).bind fun K6 =>
    some (.inl ((s2 + (-8)), K6))
theorem e_X11_four_l3 {O : mO} {d : Nat} {v0 : Nat} {v1 : Int32} {P : Option Value → mH → Prop} {x : mH} (hex : ∀ q : mH, x = q → Go O (d + 1) MX11_four 39 [none, none, none] [] q P) : ∀ (f : Nat) (q : Int32 × mH), lupF (fun (q : Int32 × mH) => F_X11_four_l3 O d v0 v1 q.1 q.2) f q = some x → Go O (d + 1) MX11_four 3 [some (.ref v0), some (.int v1), some (.int q.1)] [] q.2 P := by
  intro f
  induction f with
  | zero =>
    intro q h
    cases h
  | succ f ih =>
    intro q h
    obtain ⟨y, h, hy1, hy2⟩ := lupF_s h
    have hin : ∀ q : Int32 × mH, y = .inl q → Go O (d + 1) MX11_four 3 [some (.ref v0), some (.int v1), some (.int q.1)] [] q.2 P := fun q e => ih q (hy1 q e)
    replace hex : ∀ q : mH, y = .inr q → Go O (d + 1) MX11_four 39 [none, none, none] [] q P := fun q e => hex q (hy2 q e).symm
    clear ih hy1 hy2
    obtain ⟨s2, K⟩ := q
    dsimp only at h ⊢
    unfold F_X11_four_l3 at h
    refine g_iload_n dX11_four_3 rfl ?_
    refine g_if_lt (t := 39) dX11_four_4 (by decide) (fun c1 => ?_) (fun c1 => ?_)
    · rw [if_pos c1] at h
      refine Go_le ?_ (hex K (Option.some.inj h).symm)
      exact trivial
    · rw [if_neg c1] at h
      refine g_aload_n dX11_four_7 rfl ?_
      obtain ⟨x2, ex2, h⟩ := bs h
      refine q_getA dX11_four_8 fX11_35 ex2 ?_
      refine g_aload_n dX11_four_11 rfl ?_
      obtain ⟨x3, ex3, h⟩ := bs h
      refine q_getI dX11_four_12 fX11_232 ex3 ?_
      refine g_iload_n dX11_four_15 rfl ?_
      refine g_iload_n dX11_four_16 rfl ?_
      refine g_ishr dX11_four_17 ?_
      refine g_sipush (v := (nI 255)) dX11_four_18 (by decide) ?_
      refine g_iand dX11_four_21 ?_
      obtain ⟨K4, eK4, h⟩ := bs h
      refine q_iast dX11_four_22 eK4 ?_
      refine g_aload_n dX11_four_23 rfl ?_
      refine g_dup dX11_four_24 (by first | rfl | exact vrf_cat _) ?_
      obtain ⟨x5, ex5, h⟩ := bs h
      refine q_getI dX11_four_25 fX11_232 ex5 ?_
      refine g_iconst (v := (nI 1)) dX11_four_28 (by decide) ?_
      refine g_iadd dX11_four_29 ?_
      obtain ⟨K6, eK6, h⟩ := bs h
      refine q_put (c := (RX11, TX11, 56)) dX11_four_30 fX11_232 rfl rfl rfl (fun h => absurd h (by decide)) eK6 ?_
      refine q_iinc (w := (-8)) (ls' := [some (.ref v0), some (.int v1), some (.int (s2 + (-8)))]) dX11_four_33 (by decide) rfl (by decide) rfl ?_
      refine g_goto (t := 3) dX11_four_36 (by decide) ?_
      have hh := hin ((s2 + (-8)), K6) (Option.some.inj h).symm; (try dsimp only at hh); refine Go_le ?_ hh
      exact And.intro rfl (And.intro rfl (And.intro rfl (trivial)))
noncomputable def F_X11_four (O : mO) (d : Nat) (a0 : Nat) (a1 : Int32) (K : mH) : Option (mH) :=
  (lupF (fun (q : Int32 × mH) => F_X11_four_l3 O d a0 a1 q.1 q.2) FU ((nI 24), K)).bind fun r7 =>
  some r7
theorem e_X11_four {O : mO} {d : Nat} {a0 : Nat} {a1 : Int32} {K : mH} {x : mH} (h : F_X11_four O d a0 a1 K = some x) : ev O (d + 1) MX11_four [.ref a0, .int a1] K = some (none, x) := by
  refine Rn_evx ?_
  show Go O (d + 1) MX11_four 0 [some (.ref a0), some (.int a1), none] [] K _
  generalize hP : (fun (r : Option Value) (K' : mH) => (r, K') = (none, x)) = P
  have hret : ∀ K' : mH, K' = x → P none K' := by
    intro K' e
    subst hP e
    rfl
  clear hP
  unfold F_X11_four at h
  refine g_bipush (v := (nI 24)) dX11_four_0 (by decide) ?_
  refine g_istore_n (ls' := [some (.ref a0), some (.int a1), some (.int (nI 24))]) dX11_four_2 (by decide) rfl ?_
  obtain ⟨r7, er7, h⟩ := bs h
  have hx : Go O (d + 1) MX11_four 39 [none, none, none] [] r7 P := by
    exact g_return dX11_four_39 rfl (hret _ (Option.some.inj h))
  refine Go_le ?_ (e_X11_four_l3 (fun q e => by cases e; exact hx) FU ((nI 24), K) er7)
  exact And.intro rfl (And.intro rfl (And.intro rfl (trivial)))
noncomputable def F_X11_feed (O : mO) (d : Nat) (a0 : Nat) (a1 : Int32) (a2 : Int32) (a3 : Int32) (a4 : Int32) (a5 : Int32) (K : mH) : Option (Int32 × mH) :=
  (ptI K a0 11 0 (nI 0)).bind fun K1 =>
  (gtI K1 a0 11 13).bind fun x2 =>
  if (x2 + (nI 20)) ≤ (nI 400) then
    (toV (vc O d 11 MX11_four a0 [.int a1] K1)).bind fun K4 =>
    (toV (vc O d 11 MX11_four a0 [.int a2] K4)).bind fun K5 =>
    (toV (vc O d 11 MX11_four a0 [.int a3] K5)).bind fun K6 =>
    (toV (vc O d 11 MX11_four a0 [.int a4] K6)).bind fun K7 =>
    (toV (vc O d 11 MX11_four a0 [.int a5] K7)).bind fun K8 =>
    (gtI K8 a0 11 13).bind fun x9 =>
    some (x9, K8)
  else
    some ((-1), K1)
theorem e_X11_feed {O : mO} {d : Nat} {a0 : Nat} {a1 : Int32} {a2 : Int32} {a3 : Int32} {a4 : Int32} {a5 : Int32} {K : mH} {r0 : Int32} {K0 : mH} (h : F_X11_feed O d a0 a1 a2 a3 a4 a5 K = some (r0, K0)) : ev O (d + 1) MX11_feed [.ref a0, .int a1, .int a2, .int a3, .int a4, .int a5] K = some (some (.int r0), K0) := by
  refine Rn_evx ?_
  show Go O (d + 1) MX11_feed 0 [some (.ref a0), some (.int a1), some (.int a2), some (.int a3), some (.int a4), some (.int a5)] [] K _
  generalize hP : (fun (r : Option Value) (K' : mH) => (r, K') = (some (.int r0), K0)) = P
  have hret : ∀ (r : Int32) (K' : mH), (r, K') = (r0, K0) → P (some (.int r)) K' := by
    intro r K' e
    cases e
    subst hP
    rfl
  clear hP
  unfold F_X11_feed at h
  refine g_aload_n dX11_feed_0 rfl ?_
  refine g_iconst (v := (nI 0)) dX11_feed_1 (by decide) ?_
  obtain ⟨K1, eK1, h⟩ := bs h
  refine q_put (c := (RX11, TX11, 56)) dX11_feed_2 fX11_149 rfl rfl rfl (fun h => absurd h (by decide)) eK1 ?_
  refine g_aload_n dX11_feed_5 rfl ?_
  obtain ⟨x2, ex2, h⟩ := bs h
  refine q_getI dX11_feed_6 fX11_232 ex2 ?_
  refine g_bipush (v := (nI 20)) dX11_feed_9 (by decide) ?_
  refine g_iadd dX11_feed_11 ?_
  refine g_sipush (v := (nI 400)) dX11_feed_12 (by decide) ?_
  refine g_ic_le (t := 20) dX11_feed_15 (by decide) (fun c3 => ?_) (fun c3 => ?_)
  · rw [if_pos c3] at h
    refine g_aload_n dX11_feed_20 rfl ?_
    refine g_iload_n dX11_feed_21 rfl ?_
    obtain ⟨K4, eK4, h⟩ := bs h
    refine q_virt (Z := MX11_four) (c := (RX11, TX11, 56)) (toV_s eK4) dX11_feed_22 mX11_238.1 mX11_238.2 (Nat.le_of_ble_eq_true rfl) rfl rfl (Nat.le_of_ble_eq_true rfl) (Nat.le_of_ble_eq_true rfl) rfl rfl ?_
    show Go O (d + 1) MX11_feed 25 [some (.ref a0), some (.int a1), some (.int a2), some (.int a3), some (.int a4), some (.int a5)] [] K4 P
    refine g_aload_n dX11_feed_25 rfl ?_
    refine g_iload_n dX11_feed_26 rfl ?_
    obtain ⟨K5, eK5, h⟩ := bs h
    refine q_virt (Z := MX11_four) (c := (RX11, TX11, 56)) (toV_s eK5) dX11_feed_27 mX11_238.1 mX11_238.2 (Nat.le_of_ble_eq_true rfl) rfl rfl (Nat.le_of_ble_eq_true rfl) (Nat.le_of_ble_eq_true rfl) rfl rfl ?_
    show Go O (d + 1) MX11_feed 30 [some (.ref a0), some (.int a1), some (.int a2), some (.int a3), some (.int a4), some (.int a5)] [] K5 P
    refine g_aload_n dX11_feed_30 rfl ?_
    refine g_iload_n dX11_feed_31 rfl ?_
    obtain ⟨K6, eK6, h⟩ := bs h
    refine q_virt (Z := MX11_four) (c := (RX11, TX11, 56)) (toV_s eK6) dX11_feed_32 mX11_238.1 mX11_238.2 (Nat.le_of_ble_eq_true rfl) rfl rfl (Nat.le_of_ble_eq_true rfl) (Nat.le_of_ble_eq_true rfl) rfl rfl ?_
    show Go O (d + 1) MX11_feed 35 [some (.ref a0), some (.int a1), some (.int a2), some (.int a3), some (.int a4), some (.int a5)] [] K6 P
    refine g_aload_n dX11_feed_35 rfl ?_
    refine g_iload dX11_feed_36 rfl ?_
    obtain ⟨K7, eK7, h⟩ := bs h
    refine q_virt (Z := MX11_four) (c := (RX11, TX11, 56)) (toV_s eK7) dX11_feed_38 mX11_238.1 mX11_238.2 (Nat.le_of_ble_eq_true rfl) rfl rfl (Nat.le_of_ble_eq_true rfl) (Nat.le_of_ble_eq_true rfl) rfl rfl ?_
    show Go O (d + 1) MX11_feed 41 [some (.ref a0), some (.int a1), some (.int a2), some (.int a3), some (.int a4), some (.int a5)] [] K7 P
    refine g_aload_n dX11_feed_41 rfl ?_
    refine g_iload dX11_feed_42 rfl ?_
    obtain ⟨K8, eK8, h⟩ := bs h
    refine q_virt (Z := MX11_four) (c := (RX11, TX11, 56)) (toV_s eK8) dX11_feed_44 mX11_238.1 mX11_238.2 (Nat.le_of_ble_eq_true rfl) rfl rfl (Nat.le_of_ble_eq_true rfl) (Nat.le_of_ble_eq_true rfl) rfl rfl ?_
    show Go O (d + 1) MX11_feed 47 [some (.ref a0), some (.int a1), some (.int a2), some (.int a3), some (.int a4), some (.int a5)] [] K8 P
    refine g_aload_n dX11_feed_47 rfl ?_
    obtain ⟨x9, ex9, h⟩ := bs h
    refine q_getI dX11_feed_48 fX11_232 ex9 ?_
    exact g_ireturn dX11_feed_51 rfl (by first | rfl | decide) (hret _ _ (Option.some.inj h))
  · rw [if_neg c3] at h
    refine g_iconst (v := (-1)) dX11_feed_18 (by decide) ?_
    exact g_ireturn dX11_feed_19 rfl (by first | rfl | decide) (hret _ _ (Option.some.inj h))
noncomputable def F_X11_end (O : mO) (d : Nat) (a0 : Nat) (a1 : Int32) (K : mH) : Option (Int32 × mH) :=
  (ptI K a0 11 0 (nI 0)).bind fun K1 =>
  if a1 < 0 then
    some ((-1), K1)
  else
    (gtI K1 a0 11 13).bind fun x3 =>
    if a1 ≤ x3 then
      (ptI K1 a0 11 13 a1).bind fun K5 =>
      some (a1, K5)
    else
      some ((-1), K1)
theorem e_X11_end {O : mO} {d : Nat} {a0 : Nat} {a1 : Int32} {K : mH} {r0 : Int32} {K0 : mH} (h : F_X11_end O d a0 a1 K = some (r0, K0)) : ev O (d + 1) MX11_end [.ref a0, .int a1] K = some (some (.int r0), K0) := by
  refine Rn_evx ?_
  show Go O (d + 1) MX11_end 0 [some (.ref a0), some (.int a1)] [] K _
  generalize hP : (fun (r : Option Value) (K' : mH) => (r, K') = (some (.int r0), K0)) = P
  have hret : ∀ (r : Int32) (K' : mH), (r, K') = (r0, K0) → P (some (.int r)) K' := by
    intro r K' e
    cases e
    subst hP
    rfl
  clear hP
  unfold F_X11_end at h
  refine g_aload_n dX11_end_0 rfl ?_
  refine g_iconst (v := (nI 0)) dX11_end_1 (by decide) ?_
  obtain ⟨K1, eK1, h⟩ := bs h
  refine q_put (c := (RX11, TX11, 56)) dX11_end_2 fX11_149 rfl rfl rfl (fun h => absurd h (by decide)) eK1 ?_
  refine g_iload_n dX11_end_5 rfl ?_
  refine g_if_lt (t := 17) dX11_end_6 (by decide) (fun c2 => ?_) (fun c2 => ?_)
  · rw [if_pos c2] at h
    refine g_iconst (v := (-1)) dX11_end_17 (by decide) ?_
    exact g_ireturn dX11_end_18 rfl (by first | rfl | decide) (hret _ _ (Option.some.inj h))
  · rw [if_neg c2] at h
    refine g_iload_n dX11_end_9 rfl ?_
    refine g_aload_n dX11_end_10 rfl ?_
    obtain ⟨x3, ex3, h⟩ := bs h
    refine q_getI dX11_end_11 fX11_232 ex3 ?_
    refine g_ic_le (t := 19) dX11_end_14 (by decide) (fun c4 => ?_) (fun c4 => ?_)
    · rw [if_pos c4] at h
      refine g_aload_n dX11_end_19 rfl ?_
      refine g_iload_n dX11_end_20 rfl ?_
      obtain ⟨K5, eK5, h⟩ := bs h
      refine q_put (c := (RX11, TX11, 56)) dX11_end_21 fX11_232 rfl rfl rfl (fun h => absurd h (by decide)) eK5 ?_
      refine g_iload_n dX11_end_24 rfl ?_
      exact g_ireturn dX11_end_25 rfl (by first | rfl | decide) (hret _ _ (Option.some.inj h))
    · rw [if_neg c4] at h
      refine g_iconst (v := (-1)) dX11_end_17 (by decide) ?_
      exact g_ireturn dX11_end_18 rfl (by first | rfl | decide) (hret _ _ (Option.some.inj h))
noncomputable def F_X11_fault (O : mO) (d : Nat) (a0 : Nat) (K : mH) : Option (Int32 × mH) :=
  (ptI K a0 11 0 (nI 0)).bind fun K1 =>
  (gtI K1 a0 11 18).bind fun x2 =>
  some (x2, K1)
theorem e_X11_fault {O : mO} {d : Nat} {a0 : Nat} {K : mH} {r0 : Int32} {K0 : mH} (h : F_X11_fault O d a0 K = some (r0, K0)) : ev O (d + 1) MX11_fault [.ref a0] K = some (some (.int r0), K0) := by
  refine Rn_evx ?_
  show Go O (d + 1) MX11_fault 0 [some (.ref a0)] [] K _
  generalize hP : (fun (r : Option Value) (K' : mH) => (r, K') = (some (.int r0), K0)) = P
  have hret : ∀ (r : Int32) (K' : mH), (r, K') = (r0, K0) → P (some (.int r)) K' := by
    intro r K' e
    cases e
    subst hP
    rfl
  clear hP
  unfold F_X11_fault at h
  refine g_aload_n dX11_fault_0 rfl ?_
  refine g_iconst (v := (nI 0)) dX11_fault_1 (by decide) ?_
  obtain ⟨K1, eK1, h⟩ := bs h
  refine q_put (c := (RX11, TX11, 56)) dX11_fault_2 fX11_149 rfl rfl rfl (fun h => absurd h (by decide)) eK1 ?_
  refine g_aload_n dX11_fault_5 rfl ?_
  obtain ⟨x2, ex2, h⟩ := bs h
  refine q_getI dX11_fault_6 fX11_38 ex2 ?_
  exact g_ireturn dX11_fault_9 rfl (by first | rfl | decide) (hret _ _ (Option.some.inj h))
noncomputable def F_X11_isLaw (O : mO) (d : Nat) (a0 : Nat) (a1 : Int32) (K : mH) : Option (Int32 × mH) :=
  if a1 = (-1) then
    some ((nI 1), K)
  else
    (gtA K a0 11 3).bind fun x3 =>
    (rdI O K x3 (nI 4)).bind fun x4 =>
    (toI (ev O d MX11_in [.long a1.toInt64, .long 0, .long (x4.toInt64 - 1)] K)).bind fun p5 =>
    (zz (if p5.1 = 0 then (nI 0) else (nI 1))).bind fun z7 =>
    some (z7, p5.2)
theorem e_X11_isLaw {O : mO} {d : Nat} {a0 : Nat} {a1 : Int32} {K : mH} {r0 : Int32} {K0 : mH} (h : F_X11_isLaw O d a0 a1 K = some (r0, K0)) : ev O (d + 1) MX11_isLaw [.ref a0, .int a1] K = some (some (.int r0), K0) := by
  refine Rn_evx ?_
  show Go O (d + 1) MX11_isLaw 0 [some (.ref a0), some (.int a1)] [] K _
  generalize hP : (fun (r : Option Value) (K' : mH) => (r, K') = (some (.int r0), K0)) = P
  have hret : ∀ (r : Int32) (K' : mH), (r, K') = (r0, K0) → P (some (.int r)) K' := by
    intro r K' e
    cases e
    subst hP
    rfl
  clear hP
  unfold F_X11_isLaw at h
  refine g_iload_n dX11_isLaw_0 rfl ?_
  refine g_iconst (v := (-1)) dX11_isLaw_1 (by decide) ?_
  refine g_ic_eq (t := 23) dX11_isLaw_2 (by decide) (fun c2 => ?_) (fun c2 => ?_)
  · rw [if_pos c2] at h
    refine g_iconst (v := (nI 1)) dX11_isLaw_23 (by decide) ?_
    refine g_goto (t := 28) dX11_isLaw_24 (by decide) ?_
    exact g_ireturn dX11_isLaw_28 rfl (by first | rfl | decide) (hret _ _ (Option.some.inj h))
  · rw [if_neg c2] at h
    refine g_iload_n dX11_isLaw_5 rfl ?_
    refine g_i2l dX11_isLaw_6 ?_
    refine g_lconst (v := 0) dX11_isLaw_7 (by decide) ?_
    refine g_aload_n dX11_isLaw_8 rfl ?_
    obtain ⟨x3, ex3, h⟩ := bs h
    refine q_getA dX11_isLaw_9 fX11_13 ex3 ?_
    refine g_iconst (v := (nI 4)) dX11_isLaw_12 (by decide) ?_
    obtain ⟨x4, ex4, h⟩ := bs h
    refine q_iald dX11_isLaw_13 ex4 ?_
    refine g_i2l dX11_isLaw_14 ?_
    refine g_lconst (v := 1) dX11_isLaw_15 (by decide) ?_
    refine g_lsub dX11_isLaw_16 ?_
    obtain ⟨p5, ep5, h⟩ := bs h
    refine q_stat (Z := MX11_in) (toI_s ep5) dX11_isLaw_17 mX11_169.1 mX11_169.2 (Nat.le_of_ble_eq_true rfl) rfl rfl (Nat.le_of_ble_eq_true rfl) (Nat.le_of_ble_eq_true rfl) ?_
    show Go O (d + 1) MX11_isLaw 20 [some (.ref a0), some (.int a1)] [.int p5.1] p5.2 P
    have hj : Go O (d + 1) MX11_isLaw 28 [none, none] [.int (if p5.1 = 0 then (nI 0) else (nI 1))] p5.2 P := by
      obtain ⟨z7, ez7, h⟩ := bs h
      exact q_zret dX11_isLaw_28 rfl ez7 (hret _ _ (Option.some.inj h))
    refine g_if_eq (t := 27) dX11_isLaw_20 (by decide) (fun c6 => ?_) (fun c6 => ?_)
    · skip
      refine g_iconst (v := (nI 0)) dX11_isLaw_27 (by decide) ?_
      have hk : Go O (d + 1) MX11_isLaw 28 [none, none] [.int (nI 0)] p5.2 P := by simpa only [if_pos c6] using hj
      refine Go_le ?_ hk
      exact trivial
    · skip
      refine g_iconst (v := (nI 1)) dX11_isLaw_23 (by decide) ?_
      refine g_goto (t := 28) dX11_isLaw_24 (by decide) ?_
      have hk : Go O (d + 1) MX11_isLaw 28 [none, none] [.int (nI 1)] p5.2 P := by simpa only [if_neg c6] using hj
      refine Go_le ?_ hk
      exact trivial
noncomputable def F_X11_force (O : mO) (d : Nat) (a0 : Nat) (a1 : Int32) (K : mH) : Option (Int32 × mH) :=
  (ptI K a0 11 0 (nI 0)).bind fun K1 =>
  (toI (vc O d 11 MX11_isLaw a0 [.int a1] K1)).bind fun p2 =>
  if p2.1 = 0 then
    (toI (vc O d 11 MX11_tell a0 [.int (-2)] p2.2)).bind fun p5 =>
    some (p5.1, p5.2)
  else
    (toI (vc O d 11 MX11_change a0 [.int (nI 5), .int a1] p2.2)).bind fun p6 =>
    some (p6.1, p6.2)
theorem e_X11_force {O : mO} {d : Nat} {a0 : Nat} {a1 : Int32} {K : mH} {r0 : Int32} {K0 : mH} (h : F_X11_force O d a0 a1 K = some (r0, K0)) : ev O (d + 1) MX11_force [.ref a0, .int a1] K = some (some (.int r0), K0) := by
  refine Rn_evx ?_
  show Go O (d + 1) MX11_force 0 [some (.ref a0), some (.int a1)] [] K _
  generalize hP : (fun (r : Option Value) (K' : mH) => (r, K') = (some (.int r0), K0)) = P
  have hret : ∀ (r : Int32) (K' : mH), (r, K') = (r0, K0) → P (some (.int r)) K' := by
    intro r K' e
    cases e
    subst hP
    rfl
  clear hP
  unfold F_X11_force at h
  refine g_aload_n dX11_force_0 rfl ?_
  refine g_iconst (v := (nI 0)) dX11_force_1 (by decide) ?_
  obtain ⟨K1, eK1, h⟩ := bs h
  refine q_put (c := (RX11, TX11, 56)) dX11_force_2 fX11_149 rfl rfl rfl (fun h => absurd h (by decide)) eK1 ?_
  refine g_aload_n dX11_force_5 rfl ?_
  refine g_iload_n dX11_force_6 rfl ?_
  obtain ⟨p2, ep2, h⟩ := bs h
  refine q_virt (Z := MX11_isLaw) (c := (RX11, TX11, 56)) (toI_s ep2) dX11_force_7 mX11_392.1 mX11_392.2 (Nat.le_of_ble_eq_true rfl) rfl rfl (Nat.le_of_ble_eq_true rfl) (Nat.le_of_ble_eq_true rfl) rfl rfl ?_
  show Go O (d + 1) MX11_force 10 [some (.ref a0), some (.int a1)] [.int p2.1] p2.2 P
  refine g_if_eq (t := 22) dX11_force_10 (by decide) (fun c4 => ?_) (fun c4 => ?_)
  · rw [if_pos c4] at h
    refine g_aload_n dX11_force_22 rfl ?_
    refine g_bipush (v := (-2)) dX11_force_23 (by decide) ?_
    obtain ⟨p5, ep5, h⟩ := bs h
    refine q_virt (Z := MX11_tell) (c := (RX11, TX11, 56)) (toI_s ep5) dX11_force_25 mX11_158.1 mX11_158.2 (Nat.le_of_ble_eq_true rfl) rfl rfl (Nat.le_of_ble_eq_true rfl) (Nat.le_of_ble_eq_true rfl) rfl rfl ?_
    show Go O (d + 1) MX11_force 28 [some (.ref a0), some (.int a1)] [.int p5.1] p5.2 P
    exact g_ireturn dX11_force_28 rfl (by first | rfl | decide) (hret _ _ (Option.some.inj h))
  · rw [if_neg c4] at h
    refine g_aload_n dX11_force_13 rfl ?_
    refine g_iconst (v := (nI 5)) dX11_force_14 (by decide) ?_
    refine g_iload_n dX11_force_15 rfl ?_
    obtain ⟨p6, ep6, h⟩ := bs h
    refine q_virt (Z := MX11_change) (c := (RX11, TX11, 56)) (toI_s ep6) dX11_force_16 mX11_226.1 mX11_226.2 (Nat.le_of_ble_eq_true rfl) rfl rfl (Nat.le_of_ble_eq_true rfl) (Nat.le_of_ble_eq_true rfl) rfl rfl ?_
    show Go O (d + 1) MX11_force 19 [some (.ref a0), some (.int a1)] [.int p6.1] p6.2 P
    refine g_goto (t := 28) dX11_force_19 (by decide) ?_
    exact g_ireturn dX11_force_28 rfl (by first | rfl | decide) (hret _ _ (Option.some.inj h))
