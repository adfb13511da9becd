/-! methods as functions, by gen50.py -/
noncomputable def F_X11_layBarred_l14 (O : mO) (d : Nat) (v0 : Nat) (v1 : Int32) (s2 : Int32) (K : mH) : Option ((Int32 × mH) ⊕ (mH)) :=
  (gtA K v0 11 3).bind fun x4 =>
  (rdI O K x4 (nI 0)).bind fun x5 =>
  if x5 ≤ s2 then
    some (.inr K)
  else
    (gtA K v0 11 44).bind fun x7 =>
    (toI (vc O d 11 MX11_isBarred v0 [.int v1, .int s2] K)).bind fun p8 =>
    (wrB p8.2 x7 (((nI 5) * v1) + s2) p8.1).bind fun K9 =>
    some (.inl ((s2 + nI 1), K9))
theorem e_X11_layBarred_l14 {O : mO} {d : Nat} {v0 : Nat} {v1 : Int32} {P : Option Value → mH → Prop} {x : mH} (hex : ∀ q : mH, x = q → Go O (d + 1) MX11_layBarred 46 [some (.ref v0), some (.int v1), none] [] q P) : ∀ (f : Nat) (q : Int32 × mH), lupF (fun (q : Int32 × mH) => F_X11_layBarred_l14 O d v0 v1 q.1 q.2) f q = some x → Go O (d + 1) MX11_layBarred 14 [some (.ref v0), some (.int v1), some (.int q.1)] [] q.2 P := by
  intro f
  induction f with
  | zero =>
    intro q h
    cases h
  | succ f ih =>
    intro q h
    obtain ⟨y, h, hy1, hy2⟩ := lupF_s h
    have hin : ∀ q : Int32 × mH, y = .inl q → Go O (d + 1) MX11_layBarred 14 [some (.ref v0), some (.int v1), some (.int q.1)] [] q.2 P := fun q e => ih q (hy1 q e)
    replace hex : ∀ q : mH, y = .inr q → Go O (d + 1) MX11_layBarred 46 [some (.ref v0), some (.int v1), none] [] q P := fun q e => hex q (hy2 q e).symm
    clear ih hy1 hy2
    obtain ⟨s2, K⟩ := q
    dsimp only at h ⊢
    unfold F_X11_layBarred_l14 at h
    refine g_iload_n dX11_layBarred_14 rfl ?_
    refine g_aload_n dX11_layBarred_15 rfl ?_
    obtain ⟨x4, ex4, h⟩ := bs h
    refine q_getA dX11_layBarred_16 fX11_13 ex4 ?_
    refine g_iconst (v := (nI 0)) dX11_layBarred_19 (by decide) ?_
    obtain ⟨x5, ex5, h⟩ := bs h
    refine q_iald dX11_layBarred_20 ex5 ?_
    refine g_ic_ge (t := 46) dX11_layBarred_21 (by decide) (fun c6 => ?_) (fun c6 => ?_)
    · rw [if_pos c6] at h
      refine Go_le ?_ (hex K (Option.some.inj h).symm)
      exact And.intro rfl (And.intro rfl (trivial))
    · rw [if_neg c6] at h
      refine g_aload_n dX11_layBarred_24 rfl ?_
      obtain ⟨x7, ex7, h⟩ := bs h
      refine q_getA dX11_layBarred_25 fX11_117 ex7 ?_
      refine g_iconst (v := (nI 5)) dX11_layBarred_28 (by decide) ?_
      refine g_iload_n dX11_layBarred_29 rfl ?_
      refine g_imul dX11_layBarred_30 ?_
      refine g_iload_n dX11_layBarred_31 rfl ?_
      refine g_iadd dX11_layBarred_32 ?_
      refine g_aload_n dX11_layBarred_33 rfl ?_
      refine g_iload_n dX11_layBarred_34 rfl ?_
      refine g_iload_n dX11_layBarred_35 rfl ?_
      obtain ⟨p8, ep8, h⟩ := bs h
      refine q_virt (Z := MX11_isBarred) (c := (RX11, TX11, 56)) (toI_s ep8) dX11_layBarred_36 mX11_220.1 mX11_220.2 (Nat.le_of_ble_eq_true rfl) rfl rfl (Nat.le_of_ble_eq_true rfl) (Nat.le_of_ble_eq_true rfl) rfl rfl ?_
      show Go O (d + 1) MX11_layBarred 39 [some (.ref v0), some (.int v1), some (.int s2)] [.int p8.1, .int (((nI 5) * v1) + s2), .ref x7] p8.2 P
      obtain ⟨K9, eK9, h⟩ := bs h
      refine q_bast dX11_layBarred_39 eK9 ?_
      refine q_iinc (w := nI 1) (ls' := [some (.ref v0), some (.int v1), some (.int (s2 + nI 1))]) dX11_layBarred_40 (by decide) rfl (by decide) rfl ?_
      refine g_goto (t := 14) dX11_layBarred_43 (by decide) ?_
      refine Go_le ?_ (hin ((s2 + nI 1), K9) (Option.some.inj h).symm)
      exact And.intro rfl (And.intro rfl (And.intro rfl (trivial)))
noncomputable def F_X11_layBarred_l2 (O : mO) (d : Nat) (v0 : Nat) (s1 : Int32) (K : mH) : Option ((Int32 × mH) ⊕ (mH)) :=
  (gtA K v0 11 3).bind fun x1 =>
  (rdI O K x1 (nI 2)).bind fun x2 =>
  if x2 ≤ s1 then
    some (.inr K)
  else
    (lupF (fun (q : Int32 × mH) => F_X11_layBarred_l14 O d v0 s1 q.1 q.2) FU ((nI 0), K)).bind fun r10 =>
    some (.inl ((s1 + nI 1), r10))
theorem e_X11_layBarred_l2 {O : mO} {d : Nat} {v0 : Nat} {P : Option Value → mH → Prop} {x : mH} (hex : ∀ q : mH, x = q → Go O (d + 1) MX11_layBarred 52 [none, none, none] [] q P) : ∀ (f : Nat) (q : Int32 × mH), lupF (fun (q : Int32 × mH) => F_X11_layBarred_l2 O d v0 q.1 q.2) f q = some x → Go O (d + 1) MX11_layBarred 2 [some (.ref v0), some (.int q.1), none] [] q.2 P := by
  intro f
  induction f with
  | zero =>
    intro q h
    cases h
  | succ f ih =>
    intro q h
    obtain ⟨y, h, hy1, hy2⟩ := lupF_s h
    have hin : ∀ q : Int32 × mH, y = .inl q → Go O (d + 1) MX11_layBarred 2 [some (.ref v0), some (.int q.1), none] [] q.2 P := fun q e => ih q (hy1 q e)
    replace hex : ∀ q : mH, y = .inr q → Go O (d + 1) MX11_layBarred 52 [none, none, none] [] q P := fun q e => hex q (hy2 q e).symm
    clear ih hy1 hy2
    obtain ⟨s1, K⟩ := q
    dsimp only at h ⊢
    unfold F_X11_layBarred_l2 at h
    refine g_iload_n dX11_layBarred_2 rfl ?_
    refine g_aload_n dX11_layBarred_3 rfl ?_
    obtain ⟨x1, ex1, h⟩ := bs h
    refine q_getA dX11_layBarred_4 fX11_13 ex1 ?_
    refine g_iconst (v := (nI 2)) dX11_layBarred_7 (by decide) ?_
    obtain ⟨x2, ex2, h⟩ := bs h
    refine q_iald dX11_layBarred_8 ex2 ?_
    refine g_ic_ge (t := 52) dX11_layBarred_9 (by decide) (fun c3 => ?_) (fun c3 => ?_)
    · rw [if_pos c3] at h
      refine Go_le ?_ (hex K (Option.some.inj h).symm)
      exact trivial
    · rw [if_neg c3] at h
      refine g_iconst (v := (nI 0)) dX11_layBarred_12 (by decide) ?_
      refine g_istore_n (ls' := [some (.ref v0), some (.int s1), some (.int (nI 0))]) dX11_layBarred_13 (by decide) rfl ?_
      obtain ⟨r10, er10, h⟩ := bs h
      have hx : Go O (d + 1) MX11_layBarred 46 [some (.ref v0), some (.int s1), none] [] r10 P := by
        refine q_iinc (w := nI 1) (ls' := [some (.ref v0), some (.int (s1 + nI 1)), none]) dX11_layBarred_46 (by decide) rfl (by decide) rfl ?_
        refine g_goto (t := 2) dX11_layBarred_49 (by decide) ?_
        refine Go_le ?_ (hin ((s1 + nI 1), r10) (Option.some.inj h).symm)
        exact And.intro rfl (And.intro rfl (trivial))
      refine Go_le ?_ (e_X11_layBarred_l14 (fun q e => by cases e; exact hx) FU ((nI 0), K) er10)
      exact And.intro rfl (And.intro rfl (And.intro rfl (trivial)))
noncomputable def F_X11_layBarred (O : mO) (d : Nat) (a0 : Nat) (K : mH) : Option (mH) :=
  (lupF (fun (q : Int32 × mH) => F_X11_layBarred_l2 O d a0 q.1 q.2) FU ((nI 0), K)).bind fun r11 =>
  some r11
theorem e_X11_layBarred {O : mO} {d : Nat} {a0 : Nat} {K : mH} {x : mH} (h : F_X11_layBarred O d a0 K = some x) : ev O (d + 1) MX11_layBarred [.ref a0] K = some (none, x) := by
  refine Rn_evx ?_
  show Go O (d + 1) MX11_layBarred 0 [some (.ref a0), none, none] [] K _
  generalize hP : (fun (r : Option Value) (K' : mH) => (r, K') = (none, x)) = P
  have hret : ∀ K' : mH, K' = x → P none K' := by
    intro K' e
    subst hP e
    rfl
  clear hP
  unfold F_X11_layBarred at h
  refine g_iconst (v := (nI 0)) dX11_layBarred_0 (by decide) ?_
  refine g_istore_n (ls' := [some (.ref a0), some (.int (nI 0)), none]) dX11_layBarred_1 (by decide) rfl ?_
  obtain ⟨r11, er11, h⟩ := bs h
  have hx : Go O (d + 1) MX11_layBarred 52 [none, none, none] [] r11 P := by
    exact g_return dX11_layBarred_52 rfl (hret _ (Option.some.inj h))
  refine Go_le ?_ (e_X11_layBarred_l2 (fun q e => by cases e; exact hx) FU ((nI 0), K) er11)
  exact And.intro rfl (And.intro rfl (trivial))
noncomputable def F_X11_bedsLeft (O : mO) (d : Nat) (a0 : Int32) (a1 : Int32) (K : mH) : Option (Int32 × mH) :=
  some (((a0 >>> (((nI 2) * a1) &&& 31)) &&& (nI 3)), K)
theorem e_X11_bedsLeft {O : mO} {d : Nat} {a0 : Int32} {a1 : Int32} {K : mH} {r0 : Int32} {K0 : mH} (h : F_X11_bedsLeft O d a0 a1 K = some (r0, K0)) : ev O (d + 1) MX11_bedsLeft [.int a0, .int a1] K = some (some (.int r0), K0) := by
  refine Rn_evx ?_
  show Go O (d + 1) MX11_bedsLeft 0 [some (.int a0), some (.int a1)] [] K _
  generalize hP : (fun (r : Option Value) (K' : mH) => (r, K') = (some (.int r0), K0)) = P
  have hret : ∀ (r : Int32) (K' : mH), (r, K') = (r0, K0) → P (some (.int r)) K' := by
    intro r K' e
    cases e
    subst hP
    rfl
  clear hP
  unfold F_X11_bedsLeft at h
  refine g_iload_n dX11_bedsLeft_0 rfl ?_
  refine g_iconst (v := (nI 2)) dX11_bedsLeft_1 (by decide) ?_
  refine g_iload_n dX11_bedsLeft_2 rfl ?_
  refine g_imul dX11_bedsLeft_3 ?_
  refine g_ishr dX11_bedsLeft_4 ?_
  refine g_iconst (v := (nI 3)) dX11_bedsLeft_5 (by decide) ?_
  refine g_iand dX11_bedsLeft_6 ?_
  exact g_ireturn dX11_bedsLeft_7 rfl (by first | rfl | decide) (hret _ _ (Option.some.inj h))
noncomputable def F_X11_bestIn (O : mO) (d : Nat) (a0 : Nat) (a1 : Int32) (a2 : Int32) (a3 : Int32) (a4 : Int32) (K : mH) : Option (Int32 × mH) :=
  (gtA K a0 11 44).bind fun x1 =>
  (rdB O K x1 (((nI 5) * a1) + a3)).bind fun x2 =>
  if x2 = 0 then
    (toI (ev O d MX11_bedsLeft [.int a2, .int a3] K)).bind fun p4 =>
    if p4.1 = 0 then
      some ((-1), p4.2)
    else
      (gtA p4.2 a0 11 43).bind fun x6 =>
      (rdI O p4.2 x6 ((((nI 1024) * (a1 + (nI 1))) + a2) - ((nI 1) <<< (((nI 2) * a3) &&& 31)))).bind fun x7 =>
      if x7 = (-1) then
        some ((-1), p4.2)
      else
        if a4 = 0 then
          (gtA p4.2 a0 11 3).bind fun x13 =>
          (rdI O p4.2 x13 (((nI 50) + ((nI 5) * a1)) + a3)).bind fun x14 =>
          some ((x7 + ((nI 1000) + x14)), p4.2)
        else
          some ((x7 + (nI 1)), p4.2)
  else
    some ((-1), K)
theorem e_X11_bestIn {O : mO} {d : Nat} {a0 : Nat} {a1 : Int32} {a2 : Int32} {a3 : Int32} {a4 : Int32} {K : mH} {r0 : Int32} {K0 : mH} (h : F_X11_bestIn O d a0 a1 a2 a3 a4 K = some (r0, K0)) : ev O (d + 1) MX11_bestIn [.ref a0, .int a1, .int a2, .int a3, .int a4] K = some (some (.int r0), K0) := by
  refine Rn_evx ?_
  show Go O (d + 1) MX11_bestIn 0 [some (.ref a0), some (.int a1), some (.int a2), some (.int a3), some (.int a4), none] [] K _
  generalize hP : (fun (r : Option Value) (K' : mH) => (r, K') = (some (.int r0), K0)) = P
  have hret : ∀ (r : Int32) (K' : mH), (r, K') = (r0, K0) → P (some (.int r)) K' := by
    intro r K' e
    cases e
    subst hP
    rfl
  clear hP
  unfold F_X11_bestIn at h
  refine g_aload_n dX11_bestIn_0 rfl ?_
  obtain ⟨x1, ex1, h⟩ := bs h
  refine q_getA dX11_bestIn_1 fX11_117 ex1 ?_
  refine g_iconst (v := (nI 5)) dX11_bestIn_4 (by decide) ?_
  refine g_iload_n dX11_bestIn_5 rfl ?_
  refine g_imul dX11_bestIn_6 ?_
  refine g_iload_n dX11_bestIn_7 rfl ?_
  refine g_iadd dX11_bestIn_8 ?_
  obtain ⟨x2, ex2, h⟩ := bs h
  refine q_bald dX11_bestIn_9 ex2 ?_
  refine g_if_ne (t := 21) dX11_bestIn_10 (by decide) (fun c3 => ?_) (fun c3 => ?_)
  · rw [if_neg c3] at h
    refine g_iconst (v := (-1)) dX11_bestIn_21 (by decide) ?_
    exact g_ireturn dX11_bestIn_22 rfl (by first | rfl | decide) (hret _ _ (Option.some.inj h))
  · rw [if_pos c3] at h
    refine g_iload_n dX11_bestIn_13 rfl ?_
    refine g_iload_n dX11_bestIn_14 rfl ?_
    obtain ⟨p4, ep4, h⟩ := bs h
    refine q_stat (Z := MX11_bedsLeft) (toI_s ep4) dX11_bestIn_15 mX11_485.1 mX11_485.2 (Nat.le_of_ble_eq_true rfl) rfl rfl (Nat.le_of_ble_eq_true rfl) (Nat.le_of_ble_eq_true rfl) ?_
    show Go O (d + 1) MX11_bestIn 18 [some (.ref a0), some (.int a1), some (.int a2), some (.int a3), some (.int a4), none] [.int p4.1] p4.2 P
    refine g_if_ne (t := 23) dX11_bestIn_18 (by decide) (fun c5 => ?_) (fun c5 => ?_)
    · rw [if_neg c5] at h
      refine g_aload_n dX11_bestIn_23 rfl ?_
      obtain ⟨x6, ex6, h⟩ := bs h
      refine q_getA dX11_bestIn_24 fX11_114 ex6 ?_
      refine g_sipush (v := (nI 1024)) dX11_bestIn_27 (by decide) ?_
      refine g_iload_n dX11_bestIn_30 rfl ?_
      refine g_iconst (v := (nI 1)) dX11_bestIn_31 (by decide) ?_
      refine g_iadd dX11_bestIn_32 ?_
      refine g_imul dX11_bestIn_33 ?_
      refine g_iload_n dX11_bestIn_34 rfl ?_
      refine g_iadd dX11_bestIn_35 ?_
      refine g_iconst (v := (nI 1)) dX11_bestIn_36 (by decide) ?_
      refine g_iconst (v := (nI 2)) dX11_bestIn_37 (by decide) ?_
      refine g_iload_n dX11_bestIn_38 rfl ?_
      refine g_imul dX11_bestIn_39 ?_
      refine g_ishl dX11_bestIn_40 ?_
      refine g_isub dX11_bestIn_41 ?_
      obtain ⟨x7, ex7, h⟩ := bs h
      refine q_iald dX11_bestIn_42 ex7 ?_
      refine g_istore (ls' := [some (.ref a0), some (.int a1), some (.int a2), some (.int a3), some (.int a4), some (.int x7)]) dX11_bestIn_43 (by decide) rfl ?_
      refine g_iload dX11_bestIn_45 rfl ?_
      refine g_iconst (v := (-1)) dX11_bestIn_47 (by decide) ?_
      refine g_ic_ne (t := 55) dX11_bestIn_48 (by decide) (fun c10 => ?_) (fun c10 => ?_)
      · rw [if_neg c10] at h
        refine g_iload dX11_bestIn_55 rfl ?_
        refine g_iload dX11_bestIn_57 rfl ?_
        refine g_if_eq (t := 66) dX11_bestIn_59 (by decide) (fun c12 => ?_) (fun c12 => ?_)
        · rw [if_pos c12] at h
          refine g_sipush (v := (nI 1000)) dX11_bestIn_66 (by decide) ?_
          refine g_aload_n dX11_bestIn_69 rfl ?_
          obtain ⟨x13, ex13, h⟩ := bs h
          refine q_getA dX11_bestIn_70 fX11_13 ex13 ?_
          refine g_bipush (v := (nI 50)) dX11_bestIn_73 (by decide) ?_
          refine g_iconst (v := (nI 5)) dX11_bestIn_75 (by decide) ?_
          refine g_iload_n dX11_bestIn_76 rfl ?_
          refine g_imul dX11_bestIn_77 ?_
          refine g_iadd dX11_bestIn_78 ?_
          refine g_iload_n dX11_bestIn_79 rfl ?_
          refine g_iadd dX11_bestIn_80 ?_
          obtain ⟨x14, ex14, h⟩ := bs h
          refine q_iald dX11_bestIn_81 ex14 ?_
          refine g_iadd dX11_bestIn_82 ?_
          refine g_iadd dX11_bestIn_83 ?_
          exact g_ireturn dX11_bestIn_84 rfl (by first | rfl | decide) (hret _ _ (Option.some.inj h))
        · rw [if_neg c12] at h
          refine g_iconst (v := (nI 1)) dX11_bestIn_62 (by decide) ?_
          refine g_goto (t := 83) dX11_bestIn_63 (by decide) ?_
          refine g_iadd dX11_bestIn_83 ?_
          exact g_ireturn dX11_bestIn_84 rfl (by first | rfl | decide) (hret _ _ (Option.some.inj h))
      · rw [if_pos c10] at h
        refine g_iconst (v := (-1)) dX11_bestIn_51 (by decide) ?_
        refine g_goto (t := 84) dX11_bestIn_52 (by decide) ?_
        exact g_ireturn dX11_bestIn_84 rfl (by first | rfl | decide) (hret _ _ (Option.some.inj h))
    · rw [if_pos c5] at h
      refine g_iconst (v := (-1)) dX11_bestIn_21 (by decide) ?_
      exact g_ireturn dX11_bestIn_22 rfl (by first | rfl | decide) (hret _ _ (Option.some.inj h))
noncomputable def F_X11_layBest_l96 (O : mO) (d : Nat) (v0 : Nat) (v1 : Int32) (v2 : Int32) (v3 : Int32) (v4 : Int32) (s5 : Int32) (s6 : Int32) (K : mH) : Option ((Int32 × Int32 × mH) ⊕ (Int32 × mH)) :=
  (gtA K v0 11 3).bind fun x19 =>
  (rdI O K x19 (nI 0)).bind fun x20 =>
  if x20 ≤ s6 then
    some (.inr (s5, K))
  else
    if v4 = 0 then
      some (.inr (s5, K))
    else
      (toI (vc O d 11 MX11_bestIn v0 [.int v2, .int v3, .int s6, .int v1] K)).bind fun p23 =>
      some (.inl ((if p23.1 ≤ s5 then s5 else p23.1), (s6 + nI 1), p23.2))
theorem e_X11_layBest_l96 {O : mO} {d : Nat} {v0 : Nat} {v1 : Int32} {v2 : Int32} {v3 : Int32} {v4 : Int32} {P : Option Value → mH → Prop} {x : Int32 × mH} (hex : ∀ q : Int32 × mH, x = q → Go O (d + 1) MX11_layBest 145 [some (.ref v0), some (.int v1), some (.int v2), some (.int v3), none, some (.int q.1), none, none] [] q.2 P) : ∀ (f : Nat) (q : Int32 × Int32 × mH), lupF (fun (q : Int32 × Int32 × mH) => F_X11_layBest_l96 O d v0 v1 v2 v3 v4 q.1 q.2.1 q.2.2) f q = some x → Go O (d + 1) MX11_layBest 96 [some (.ref v0), some (.int v1), some (.int v2), some (.int v3), some (.int v4), some (.int q.1), some (.int q.2.1), none] [] q.2.2 P := by
  intro f
  induction f with
  | zero =>
    intro q h
    cases h
  | succ f ih =>
    intro q h
    obtain ⟨y, h, hy1, hy2⟩ := lupF_s h
    have hin : ∀ q : Int32 × Int32 × mH, y = .inl q → Go O (d + 1) MX11_layBest 96 [some (.ref v0), some (.int v1), some (.int v2), some (.int v3), some (.int v4), some (.int q.1), some (.int q.2.1), none] [] q.2.2 P := fun q e => ih q (hy1 q e)
    replace hex : ∀ q : Int32 × mH, y = .inr q → Go O (d + 1) MX11_layBest 145 [some (.ref v0), some (.int v1), some (.int v2), some (.int v3), none, some (.int q.1), none, none] [] q.2 P := fun q e => hex q (hy2 q e).symm
    clear ih hy1 hy2
    obtain ⟨s5, s6, K⟩ := q
    dsimp only at h ⊢
    unfold F_X11_layBest_l96 at h
    refine g_iload dX11_layBest_96 rfl ?_
    refine g_aload_n dX11_layBest_98 rfl ?_
    obtain ⟨x19, ex19, h⟩ := bs h
    refine q_getA dX11_layBest_99 fX11_13 ex19 ?_
    refine g_iconst (v := (nI 0)) dX11_layBest_102 (by decide) ?_
    obtain ⟨x20, ex20, h⟩ := bs h
    refine q_iald dX11_layBest_103 ex20 ?_
    refine g_ic_ge (t := 145) dX11_layBest_104 (by decide) (fun c21 => ?_) (fun c21 => ?_)
    · rw [if_pos c21] at h
      refine Go_le ?_ (hex (s5, K) (Option.some.inj h).symm)
      exact And.intro rfl (And.intro rfl (And.intro rfl (And.intro rfl (And.intro rfl (trivial)))))
    · rw [if_neg c21] at h
      refine g_iload dX11_layBest_107 rfl ?_
      refine g_if_eq (t := 145) dX11_layBest_109 (by decide) (fun c22 => ?_) (fun c22 => ?_)
      · rw [if_pos c22] at h
        refine Go_le ?_ (hex (s5, K) (Option.some.inj h).symm)
        exact And.intro rfl (And.intro rfl (And.intro rfl (And.intro rfl (And.intro rfl (trivial)))))
      · rw [if_neg c22] at h
        refine g_aload_n dX11_layBest_112 rfl ?_
        refine g_iload_n dX11_layBest_113 rfl ?_
        refine g_iload_n dX11_layBest_114 rfl ?_
        refine g_iload dX11_layBest_115 rfl ?_
        refine g_iload_n dX11_layBest_117 rfl ?_
        obtain ⟨p23, ep23, h⟩ := bs h
        refine q_virt (Z := MX11_bestIn) (c := (RX11, TX11, 56)) (toI_s ep23) dX11_layBest_118 mX11_491.1 mX11_491.2 (Nat.le_of_ble_eq_true rfl) rfl rfl (Nat.le_of_ble_eq_true rfl) (Nat.le_of_ble_eq_true rfl) rfl rfl ?_
        show Go O (d + 1) MX11_layBest 121 [some (.ref v0), some (.int v1), some (.int v2), some (.int v3), some (.int v4), some (.int s5), some (.int s6), none] [.int p23.1] p23.2 P
        refine g_istore (ls' := [some (.ref v0), some (.int v1), some (.int v2), some (.int v3), some (.int v4), some (.int s5), some (.int s6), some (.int p23.1)]) dX11_layBest_121 (by decide) rfl ?_
        refine g_iload dX11_layBest_123 rfl ?_
        refine g_iload dX11_layBest_125 rfl ?_
        have hj : Go O (d + 1) MX11_layBest 137 [some (.ref v0), some (.int v1), some (.int v2), some (.int v3), some (.int v4), none, some (.int s6), none] [.int (if p23.1 ≤ s5 then s5 else p23.1)] p23.2 P := by
          refine g_istore (ls' := [some (.ref v0), some (.int v1), some (.int v2), some (.int v3), some (.int v4), some (.int (if p23.1 ≤ s5 then s5 else p23.1)), some (.int s6), none]) dX11_layBest_137 (by decide) rfl ?_
          refine q_iinc (w := nI 1) (ls' := [some (.ref v0), some (.int v1), some (.int v2), some (.int v3), some (.int v4), some (.int (if p23.1 ≤ s5 then s5 else p23.1)), some (.int (s6 + nI 1)), none]) dX11_layBest_139 (by decide) rfl (by decide) rfl ?_
          refine g_goto (t := 96) dX11_layBest_142 (by decide) ?_
          refine Go_le ?_ (hin ((if p23.1 ≤ s5 then s5 else p23.1), (s6 + nI 1), p23.2) (Option.some.inj h).symm)
          exact And.intro rfl (And.intro rfl (And.intro rfl (And.intro rfl (And.intro rfl (And.intro rfl (And.intro rfl (trivial)))))))
        refine g_ic_le (t := 135) dX11_layBest_127 (by decide) (fun c24 => ?_) (fun c24 => ?_)
        · skip
          refine g_iload dX11_layBest_135 rfl ?_
          have hk : Go O (d + 1) MX11_layBest 137 [some (.ref v0), some (.int v1), some (.int v2), some (.int v3), some (.int v4), none, some (.int s6), none] [.int s5] p23.2 P := by simpa only [if_pos c24] using hj
          refine Go_le ?_ hk
          exact And.intro rfl (And.intro rfl (And.intro rfl (And.intro rfl (And.intro rfl (And.intro rfl (trivial))))))
        · skip
          refine g_iload dX11_layBest_130 rfl ?_
          refine g_goto (t := 137) dX11_layBest_132 (by decide) ?_
          have hk : Go O (d + 1) MX11_layBest 137 [some (.ref v0), some (.int v1), some (.int v2), some (.int v3), some (.int v4), none, some (.int s6), none] [.int p23.1] p23.2 P := by simpa only [if_neg c24] using hj
          refine Go_le ?_ hk
          exact And.intro rfl (And.intro rfl (And.intro rfl (And.intro rfl (And.intro rfl (And.intro rfl (trivial))))))
noncomputable def F_X11_layBest_j145 (O : mO) (d : Nat) (v0 : Nat) (v1 : Int32) (v2 : Int32) (v3 : Int32) (v5 : Int32) (K : mH) : Option ((Int32 × mH) ⊕ (mH)) :=
  (gtA K v0 11 43).bind fun x26 =>
  (wrI K x26 (((nI 1024) * v2) + v3) v5).bind fun K27 =>
  some (.inl ((v3 + nI 1), K27))
theorem e_X11_layBest_j145 {O : mO} {d : Nat} {v0 : Nat} {v1 : Int32} {v2 : Int32} {v3 : Int32} {v5 : Int32} {K : mH} {P : Option Value → mH → Prop} {y : (Int32 × mH) ⊕ (mH)} (hin : ∀ q : Int32 × mH, y = .inl q → Go O (d + 1) MX11_layBest 17 [some (.ref v0), some (.int v1), some (.int v2), some (.int q.1), none, none, none, none] [] q.2 P) (hex : ∀ q : mH, y = .inr q → Go O (d + 1) MX11_layBest 165 [some (.ref v0), some (.int v1), some (.int v2), none, none, none, none, none] [] q P) (h : F_X11_layBest_j145 O d v0 v1 v2 v3 v5 K = some y) : Go O (d + 1) MX11_layBest 145 [some (.ref v0), some (.int v1), some (.int v2), some (.int v3), none, some (.int v5), none, none] [] K P := by
  unfold F_X11_layBest_j145 at h
  refine g_aload_n dX11_layBest_145 rfl ?_
  obtain ⟨x26, ex26, h⟩ := bs h
  refine q_getA dX11_layBest_146 fX11_114 ex26 ?_
  refine g_sipush (v := (nI 1024)) dX11_layBest_149 (by decide) ?_
  refine g_iload_n dX11_layBest_152 rfl ?_
  refine g_imul dX11_layBest_153 ?_
  refine g_iload_n dX11_layBest_154 rfl ?_
  refine g_iadd dX11_layBest_155 ?_
  refine g_iload dX11_layBest_156 rfl ?_
  obtain ⟨K27, eK27, h⟩ := bs h
  refine q_iast dX11_layBest_158 eK27 ?_
  refine q_iinc (w := nI 1) (ls' := [some (.ref v0), some (.int v1), some (.int v2), some (.int (v3 + nI 1)), none, some (.int v5), none, none]) dX11_layBest_159 (by decide) rfl (by decide) rfl ?_
  refine g_goto (t := 17) dX11_layBest_162 (by decide) ?_
  refine Go_le ?_ (hin ((v3 + nI 1), K27) (Option.some.inj h).symm)
  exact And.intro rfl (And.intro rfl (And.intro rfl (And.intro rfl (trivial))))
noncomputable def F_X11_layBest_j91 (O : mO) (d : Nat) (v0 : Nat) (v1 : Int32) (v2 : Int32) (v3 : Int32) (v4 : Int32) (w0 : Int32) (K : mH) : Option ((Int32 × mH) ⊕ (mH)) :=
  (lupF (fun (q : Int32 × Int32 × mH) => F_X11_layBest_l96 O d v0 v1 v2 v3 v4 q.1 q.2.1 q.2.2) FU (w0, (nI 0), K)).bind fun r25 =>
  F_X11_layBest_j145 O d v0 v1 v2 v3 r25.1 r25.2
theorem e_X11_layBest_j91 {O : mO} {d : Nat} {v0 : Nat} {v1 : Int32} {v2 : Int32} {v3 : Int32} {v4 : Int32} {w0 : Int32} {K : mH} {P : Option Value → mH → Prop} {y : (Int32 × mH) ⊕ (mH)} (hin : ∀ q : Int32 × mH, y = .inl q → Go O (d + 1) MX11_layBest 17 [some (.ref v0), some (.int v1), some (.int v2), some (.int q.1), none, none, none, none] [] q.2 P) (hex : ∀ q : mH, y = .inr q → Go O (d + 1) MX11_layBest 165 [some (.ref v0), some (.int v1), some (.int v2), none, none, none, none, none] [] q P) (h : F_X11_layBest_j91 O d v0 v1 v2 v3 v4 w0 K = some y) : Go O (d + 1) MX11_layBest 91 [some (.ref v0), some (.int v1), some (.int v2), some (.int v3), some (.int v4), none, none, none] [.int w0] K P := by
  unfold F_X11_layBest_j91 at h
  refine g_istore (ls' := [some (.ref v0), some (.int v1), some (.int v2), some (.int v3), some (.int v4), some (.int w0), none, none]) dX11_layBest_91 (by decide) rfl ?_
  refine g_iconst (v := (nI 0)) dX11_layBest_93 (by decide) ?_
  refine g_istore (ls' := [some (.ref v0), some (.int v1), some (.int v2), some (.int v3), some (.int v4), some (.int w0), some (.int (nI 0)), none]) dX11_layBest_94 (by decide) rfl ?_
  obtain ⟨r25, er25, h⟩ := bs h
  have hx : Go O (d + 1) MX11_layBest 145 [some (.ref v0), some (.int v1), some (.int v2), some (.int v3), none, some (.int r25.1), none, none] [] r25.2 P := by
    refine Go_le ?_ (e_X11_layBest_j145 hin hex h)
    exact And.intro rfl (And.intro rfl (And.intro rfl (And.intro rfl (And.intro rfl (trivial)))))
  refine Go_le ?_ (e_X11_layBest_l96 (fun q e => by cases e; exact hx) FU (w0, (nI 0), K) er25)
  exact And.intro rfl (And.intro rfl (And.intro rfl (And.intro rfl (And.intro rfl (And.intro rfl (And.intro rfl (trivial)))))))
noncomputable def F_X11_layBest_j63 (O : mO) (d : Nat) (v0 : Nat) (v1 : Int32) (v2 : Int32) (v3 : Int32) (v4 : Int32) (K : mH) : Option ((Int32 × mH) ⊕ (mH)) :=
  (gtA K v0 11 3).bind fun x13 =>
  (rdI O K x13 (nI 2)).bind fun x14 =>
  if v2 = x14 then
    F_X11_layBest_j91 O d v0 v1 v2 v3 v4 (nI 0) K
  else
    (gtA K v0 11 43).bind fun x17 =>
    (rdI O K x17 (((nI 1024) * (v2 + (nI 1))) + v3)).bind fun x18 =>
    F_X11_layBest_j91 O d v0 v1 v2 v3 v4 x18 K
theorem e_X11_layBest_j63 {O : mO} {d : Nat} {v0 : Nat} {v1 : Int32} {v2 : Int32} {v3 : Int32} {v4 : Int32} {K : mH} {P : Option Value → mH → Prop} {y : (Int32 × mH) ⊕ (mH)} (hin : ∀ q : Int32 × mH, y = .inl q → Go O (d + 1) MX11_layBest 17 [some (.ref v0), some (.int v1), some (.int v2), some (.int q.1), none, none, none, none] [] q.2 P) (hex : ∀ q : mH, y = .inr q → Go O (d + 1) MX11_layBest 165 [some (.ref v0), some (.int v1), some (.int v2), none, none, none, none, none] [] q P) (h : F_X11_layBest_j63 O d v0 v1 v2 v3 v4 K = some y) : Go O (d + 1) MX11_layBest 63 [some (.ref v0), some (.int v1), some (.int v2), some (.int v3), some (.int v4), none, none, none] [] K P := by
  unfold F_X11_layBest_j63 at h
  refine g_iload_n dX11_layBest_63 rfl ?_
  refine g_aload_n dX11_layBest_64 rfl ?_
  obtain ⟨x13, ex13, h⟩ := bs h
  refine q_getA dX11_layBest_65 fX11_13 ex13 ?_
  refine g_iconst (v := (nI 2)) dX11_layBest_68 (by decide) ?_
  obtain ⟨x14, ex14, h⟩ := bs h
  refine q_iald dX11_layBest_69 ex14 ?_
  refine g_ic_ne (t := 77) dX11_layBest_70 (by decide) (fun c16 => ?_) (fun c16 => ?_)
  · rw [if_neg c16] at h
    refine g_aload_n dX11_layBest_77 rfl ?_
    obtain ⟨x17, ex17, h⟩ := bs h
    refine q_getA dX11_layBest_78 fX11_114 ex17 ?_
    refine g_sipush (v := (nI 1024)) dX11_layBest_81 (by decide) ?_
    refine g_iload_n dX11_layBest_84 rfl ?_
    refine g_iconst (v := (nI 1)) dX11_layBest_85 (by decide) ?_
    refine g_iadd dX11_layBest_86 ?_
    refine g_imul dX11_layBest_87 ?_
    refine g_iload_n dX11_layBest_88 rfl ?_
    refine g_iadd dX11_layBest_89 ?_
    obtain ⟨x18, ex18, h⟩ := bs h
    refine q_iald dX11_layBest_90 ex18 ?_
    refine Go_le ?_ (e_X11_layBest_j91 hin hex h)
    exact And.intro rfl (And.intro rfl (And.intro rfl (And.intro rfl (And.intro rfl (trivial)))))
  · rw [if_pos c16] at h
    refine g_iconst (v := (nI 0)) dX11_layBest_73 (by decide) ?_
    refine g_goto (t := 91) dX11_layBest_74 (by decide) ?_
    refine Go_le ?_ (e_X11_layBest_j91 hin hex h)
    exact And.intro rfl (And.intro rfl (And.intro rfl (And.intro rfl (And.intro rfl (trivial)))))
noncomputable def F_X11_layBest_j48 (O : mO) (d : Nat) (v0 : Nat) (v1 : Int32) (v2 : Int32) (v3 : Int32) (w0 : Int32) (K : mH) : Option ((Int32 × mH) ⊕ (mH)) :=
  if w0 = 0 then
    F_X11_layBest_j63 O d v0 v1 v2 v3 w0 K
  else
    if v1 = 0 then
      F_X11_layBest_j63 O d v0 v1 v2 v3 w0 K
    else
      F_X11_layBest_j91 O d v0 v1 v2 v3 w0 (-1) K
theorem e_X11_layBest_j48 {O : mO} {d : Nat} {v0 : Nat} {v1 : Int32} {v2 : Int32} {v3 : Int32} {w0 : Int32} {K : mH} {P : Option Value → mH → Prop} {y : (Int32 × mH) ⊕ (mH)} (hin : ∀ q : Int32 × mH, y = .inl q → Go O (d + 1) MX11_layBest 17 [some (.ref v0), some (.int v1), some (.int v2), some (.int q.1), none, none, none, none] [] q.2 P) (hex : ∀ q : mH, y = .inr q → Go O (d + 1) MX11_layBest 165 [some (.ref v0), some (.int v1), some (.int v2), none, none, none, none, none] [] q P) (h : F_X11_layBest_j48 O d v0 v1 v2 v3 w0 K = some y) : Go O (d + 1) MX11_layBest 48 [some (.ref v0), some (.int v1), some (.int v2), some (.int v3), none, none, none, none] [.int w0] K P := by
  unfold F_X11_layBest_j48 at h
  refine g_istore (ls' := [some (.ref v0), some (.int v1), some (.int v2), some (.int v3), some (.int w0), none, none, none]) dX11_layBest_48 (by decide) rfl ?_
  refine g_iload dX11_layBest_50 rfl ?_
  refine g_if_eq (t := 63) dX11_layBest_52 (by decide) (fun c12 => ?_) (fun c12 => ?_)
  · rw [if_pos c12] at h
    refine Go_le ?_ (e_X11_layBest_j63 hin hex h)
    exact And.intro rfl (And.intro rfl (And.intro rfl (And.intro rfl (And.intro rfl (trivial)))))
  · rw [if_neg c12] at h
    refine g_iload_n dX11_layBest_55 rfl ?_
    refine g_if_eq (t := 63) dX11_layBest_56 (by decide) (fun c29 => ?_) (fun c29 => ?_)
    · rw [if_pos c29] at h
      refine Go_le ?_ (e_X11_layBest_j63 hin hex h)
      exact And.intro rfl (And.intro rfl (And.intro rfl (And.intro rfl (And.intro rfl (trivial)))))
    · rw [if_neg c29] at h
      refine g_iconst (v := (-1)) dX11_layBest_59 (by decide) ?_
      refine g_goto (t := 91) dX11_layBest_60 (by decide) ?_
      refine Go_le ?_ (e_X11_layBest_j91 hin hex h)
      exact And.intro rfl (And.intro rfl (And.intro rfl (And.intro rfl (And.intro rfl (trivial)))))
noncomputable def F_X11_layBest_j47 (O : mO) (d : Nat) (v0 : Nat) (v1 : Int32) (v2 : Int32) (v3 : Int32) (K : mH) : Option ((Int32 × mH) ⊕ (mH)) :=
  F_X11_layBest_j48 O d v0 v1 v2 v3 (nI 0) K
theorem e_X11_layBest_j47 {O : mO} {d : Nat} {v0 : Nat} {v1 : Int32} {v2 : Int32} {v3 : Int32} {K : mH} {P : Option Value → mH → Prop} {y : (Int32 × mH) ⊕ (mH)} (hin : ∀ q : Int32 × mH, y = .inl q → Go O (d + 1) MX11_layBest 17 [some (.ref v0), some (.int v1), some (.int v2), some (.int q.1), none, none, none, none] [] q.2 P) (hex : ∀ q : mH, y = .inr q → Go O (d + 1) MX11_layBest 165 [some (.ref v0), some (.int v1), some (.int v2), none, none, none, none, none] [] q P) (h : F_X11_layBest_j47 O d v0 v1 v2 v3 K = some y) : Go O (d + 1) MX11_layBest 47 [some (.ref v0), some (.int v1), some (.int v2), some (.int v3), none, none, none, none] [] K P := by
  unfold F_X11_layBest_j47 at h
  refine g_iconst (v := (nI 0)) dX11_layBest_47 (by decide) ?_
  refine Go_le ?_ (e_X11_layBest_j48 hin hex h)
  exact And.intro rfl (And.intro rfl (And.intro rfl (And.intro rfl (trivial))))
noncomputable def F_X11_layBest_l17 (O : mO) (d : Nat) (v0 : Nat) (v1 : Int32) (v2 : Int32) (s3 : Int32) (K : mH) : Option ((Int32 × mH) ⊕ (mH)) :=
  if (nI 1024) ≤ s3 then
    some (.inr K)
  else
    (gtA K v0 11 3).bind fun x6 =>
    (rdI O K x6 (nI 2)).bind fun x7 =>
    if x7 ≤ v2 then
      F_X11_layBest_j47 O d v0 v1 v2 s3 K
    else
      (toI (vc O d 11 MX11_isIn v0 [.int v2] K)).bind fun p30 =>
      if (if p30.1 = v1 then (nI 1) else (nI 0)) = 0 then
        F_X11_layBest_j63 O d v0 v1 v2 s3 (if p30.1 = v1 then (nI 1) else (nI 0)) p30.2
      else
        if v1 = 0 then
          F_X11_layBest_j63 O d v0 v1 v2 s3 (if p30.1 = v1 then (nI 1) else (nI 0)) p30.2
        else
          F_X11_layBest_j91 O d v0 v1 v2 s3 (if p30.1 = v1 then (nI 1) else (nI 0)) (-1) p30.2
theorem e_X11_layBest_l17 {O : mO} {d : Nat} {v0 : Nat} {v1 : Int32} {v2 : Int32} {P : Option Value → mH → Prop} {x : mH} (hex : ∀ q : mH, x = q → Go O (d + 1) MX11_layBest 165 [some (.ref v0), some (.int v1), some (.int v2), none, none, none, none, none] [] q P) : ∀ (f : Nat) (q : Int32 × mH), lupF (fun (q : Int32 × mH) => F_X11_layBest_l17 O d v0 v1 v2 q.1 q.2) f q = some x → Go O (d + 1) MX11_layBest 17 [some (.ref v0), some (.int v1), some (.int v2), some (.int q.1), none, none, none, none] [] q.2 P := by
  intro f
  induction f with
  | zero =>
    intro q h
    cases h
  | succ f ih =>
    intro q h
    obtain ⟨y, h, hy1, hy2⟩ := lupF_s h
    have hin : ∀ q : Int32 × mH, y = .inl q → Go O (d + 1) MX11_layBest 17 [some (.ref v0), some (.int v1), some (.int v2), some (.int q.1), none, none, none, none] [] q.2 P := fun q e => ih q (hy1 q e)
    replace hex : ∀ q : mH, y = .inr q → Go O (d + 1) MX11_layBest 165 [some (.ref v0), some (.int v1), some (.int v2), none, none, none, none, none] [] q P := fun q e => hex q (hy2 q e).symm
    clear ih hy1 hy2
    obtain ⟨s3, K⟩ := q
    dsimp only at h ⊢
    unfold F_X11_layBest_l17 at h
    refine g_iload_n dX11_layBest_17 rfl ?_
    refine g_sipush (v := (nI 1024)) dX11_layBest_18 (by decide) ?_
    refine g_ic_ge (t := 165) dX11_layBest_21 (by decide) (fun c5 => ?_) (fun c5 => ?_)
    · rw [if_pos c5] at h
      refine Go_le ?_ (hex K (Option.some.inj h).symm)
      exact And.intro rfl (And.intro rfl (And.intro rfl (trivial)))
    · rw [if_neg c5] at h
      refine g_iload_n dX11_layBest_24 rfl ?_
      refine g_aload_n dX11_layBest_25 rfl ?_
      obtain ⟨x6, ex6, h⟩ := bs h
      refine q_getA dX11_layBest_26 fX11_13 ex6 ?_
      refine g_iconst (v := (nI 2)) dX11_layBest_29 (by decide) ?_
      obtain ⟨x7, ex7, h⟩ := bs h
      refine q_iald dX11_layBest_30 ex7 ?_
      refine g_ic_ge (t := 47) dX11_layBest_31 (by decide) (fun c9 => ?_) (fun c9 => ?_)
      · rw [if_pos c9] at h
        refine Go_le ?_ (e_X11_layBest_j47 hin hex h)
        exact And.intro rfl (And.intro rfl (And.intro rfl (And.intro rfl (trivial))))
      · rw [if_neg c9] at h
        refine g_aload_n dX11_layBest_34 rfl ?_
        refine g_iload_n dX11_layBest_35 rfl ?_
        obtain ⟨p30, ep30, h⟩ := bs h
        refine q_virt (Z := MX11_isIn) (c := (RX11, TX11, 56)) (toI_s ep30) dX11_layBest_36 mX11_182.1 mX11_182.2 (Nat.le_of_ble_eq_true rfl) rfl rfl (Nat.le_of_ble_eq_true rfl) (Nat.le_of_ble_eq_true rfl) rfl rfl ?_
        show Go O (d + 1) MX11_layBest 39 [some (.ref v0), some (.int v1), some (.int v2), some (.int s3), none, none, none, none] [.int p30.1] p30.2 P
        refine g_iload_n dX11_layBest_39 rfl ?_
        have hj : Go O (d + 1) MX11_layBest 48 [some (.ref v0), some (.int v1), some (.int v2), some (.int s3), none, none, none, none] [.int (if p30.1 = v1 then (nI 1) else (nI 0))] p30.2 P := by
          refine g_istore (ls' := [some (.ref v0), some (.int v1), some (.int v2), some (.int s3), some (.int (if p30.1 = v1 then (nI 1) else (nI 0))), none, none, none]) dX11_layBest_48 (by decide) rfl ?_
          refine g_iload dX11_layBest_50 rfl ?_
          refine g_if_eq (t := 63) dX11_layBest_52 (by decide) (fun c34 => ?_) (fun c34 => ?_)
          · rw [if_pos c34] at h
            refine Go_le ?_ (e_X11_layBest_j63 hin hex h)
            exact And.intro rfl (And.intro rfl (And.intro rfl (And.intro rfl (And.intro rfl (trivial)))))
          · rw [if_neg c34] at h
            refine g_iload_n dX11_layBest_55 rfl ?_
            refine g_if_eq (t := 63) dX11_layBest_56 (by decide) (fun c36 => ?_) (fun c36 => ?_)
            · rw [if_pos c36] at h
              refine Go_le ?_ (e_X11_layBest_j63 hin hex h)
              exact And.intro rfl (And.intro rfl (And.intro rfl (And.intro rfl (And.intro rfl (trivial)))))
            · rw [if_neg c36] at h
              refine g_iconst (v := (-1)) dX11_layBest_59 (by decide) ?_
              refine g_goto (t := 91) dX11_layBest_60 (by decide) ?_
              refine Go_le ?_ (e_X11_layBest_j91 hin hex h)
              exact And.intro rfl (And.intro rfl (And.intro rfl (And.intro rfl (And.intro rfl (trivial)))))
        refine g_ic_ne (t := 47) dX11_layBest_40 (by decide) (fun c31 => ?_) (fun c31 => ?_)
        · skip
          refine g_iconst (v := (nI 0)) dX11_layBest_47 (by decide) ?_
          have hk : Go O (d + 1) MX11_layBest 48 [some (.ref v0), some (.int v1), some (.int v2), some (.int s3), none, none, none, none] [.int (nI 0)] p30.2 P := by simpa only [if_neg c31] using hj
          refine Go_le ?_ hk
          exact And.intro rfl (And.intro rfl (And.intro rfl (And.intro rfl (trivial))))
        · skip
          refine g_iconst (v := (nI 1)) dX11_layBest_43 (by decide) ?_
          refine g_goto (t := 48) dX11_layBest_44 (by decide) ?_
          have hk : Go O (d + 1) MX11_layBest 48 [some (.ref v0), some (.int v1), some (.int v2), some (.int s3), none, none, none, none] [.int (nI 1)] p30.2 P := by simpa only [if_pos c31] using hj
          refine Go_le ?_ hk
          exact And.intro rfl (And.intro rfl (And.intro rfl (And.intro rfl (trivial))))
noncomputable def F_X11_layBest_l11 (O : mO) (d : Nat) (v0 : Nat) (v1 : Int32) (s2 : Int32) (K : mH) : Option ((Int32 × mH) ⊕ (mH)) :=
  if s2 < 0 then
    some (.inr K)
  else
    (lupF (fun (q : Int32 × mH) => F_X11_layBest_l17 O d v0 v1 s2 q.1 q.2) FU ((nI 0), K)).bind fun r37 =>
    some (.inl ((s2 + (-1)), r37))
theorem e_X11_layBest_l11 {O : mO} {d : Nat} {v0 : Nat} {v1 : Int32} {P : Option Value → mH → Prop} {x : mH} (hex : ∀ q : mH, x = q → Go O (d + 1) MX11_layBest 171 [none, none, none, none, none, none, none, none] [] q P) : ∀ (f : Nat) (q : Int32 × mH), lupF (fun (q : Int32 × mH) => F_X11_layBest_l11 O d v0 v1 q.1 q.2) f q = some x → Go O (d + 1) MX11_layBest 11 [some (.ref v0), some (.int v1), some (.int q.1), none, none, none, none, none] [] q.2 P := by
  intro f
  induction f with
  | zero =>
    intro q h
    cases h
  | succ f ih =>
    intro q h
    obtain ⟨y, h, hy1, hy2⟩ := lupF_s h
    have hin : ∀ q : Int32 × mH, y = .inl q → Go O (d + 1) MX11_layBest 11 [some (.ref v0), some (.int v1), some (.int q.1), none, none, none, none, none] [] q.2 P := fun q e => ih q (hy1 q e)
    replace hex : ∀ q : mH, y = .inr q → Go O (d + 1) MX11_layBest 171 [none, none, none, none, none, none, none, none] [] q P := fun q e => hex q (hy2 q e).symm
    clear ih hy1 hy2
    obtain ⟨s2, K⟩ := q
    dsimp only at h ⊢
    unfold F_X11_layBest_l11 at h
    refine g_iload_n dX11_layBest_11 rfl ?_
    refine g_if_lt (t := 171) dX11_layBest_12 (by decide) (fun c4 => ?_) (fun c4 => ?_)
    · rw [if_pos c4] at h
      refine Go_le ?_ (hex K (Option.some.inj h).symm)
      exact trivial
    · rw [if_neg c4] at h
      refine g_iconst (v := (nI 0)) dX11_layBest_15 (by decide) ?_
      refine g_istore_n (ls' := [some (.ref v0), some (.int v1), some (.int s2), some (.int (nI 0)), none, none, none, none]) dX11_layBest_16 (by decide) rfl ?_
      obtain ⟨r37, er37, h⟩ := bs h
      have hx : Go O (d + 1) MX11_layBest 165 [some (.ref v0), some (.int v1), some (.int s2), none, none, none, none, none] [] r37 P := by
        refine q_iinc (w := (-1)) (ls' := [some (.ref v0), some (.int v1), some (.int (s2 + (-1))), none, none, none, none, none]) dX11_layBest_165 (by decide) rfl (by decide) rfl ?_
        refine g_goto (t := 11) dX11_layBest_168 (by decide) ?_
        have hh := hin ((s2 + (-1)), r37) (Option.some.inj h).symm; (try dsimp only at hh); refine Go_le ?_ hh
        exact And.intro rfl (And.intro rfl (And.intro rfl (trivial)))
      refine Go_le ?_ (e_X11_layBest_l17 (fun q e => by cases e; exact hx) FU ((nI 0), K) er37)
      exact And.intro rfl (And.intro rfl (And.intro rfl (And.intro rfl (trivial))))
noncomputable def F_X11_layBest (O : mO) (d : Nat) (a0 : Nat) (a1 : Int32) (K : mH) : Option (mH) :=
  (toV (vc O d 11 MX11_layBarred a0 [] K)).bind fun K1 =>
  (gtA K1 a0 11 3).bind fun x2 =>
  (rdI O K1 x2 (nI 2)).bind fun x3 =>
  (lupF (fun (q : Int32 × mH) => F_X11_layBest_l11 O d a0 a1 q.1 q.2) FU (x3, K1)).bind fun r38 =>
  some r38
theorem e_X11_layBest {O : mO} {d : Nat} {a0 : Nat} {a1 : Int32} {K : mH} {x : mH} (h : F_X11_layBest O d a0 a1 K = some x) : ev O (d + 1) MX11_layBest [.ref a0, .int a1] K = some (none, x) := by
  refine Rn_evx ?_
  show Go O (d + 1) MX11_layBest 0 [some (.ref a0), some (.int a1), none, none, none, none, none, none] [] K _
  generalize hP : (fun (r : Option Value) (K' : mH) => (r, K') = (none, x)) = P
  have hret : ∀ K' : mH, K' = x → P none K' := by
    intro K' e
    subst hP e
    rfl
  clear hP
  unfold F_X11_layBest at h
  refine g_aload_n dX11_layBest_0 rfl ?_
  obtain ⟨K1, eK1, h⟩ := bs h
  refine q_virt (Z := MX11_layBarred) (c := (RX11, TX11, 56)) (toV_s eK1) dX11_layBest_1 mX11_488.1 mX11_488.2 (Nat.le_of_ble_eq_true rfl) rfl rfl (Nat.le_of_ble_eq_true rfl) (Nat.le_of_ble_eq_true rfl) rfl rfl ?_
  show Go O (d + 1) MX11_layBest 4 [some (.ref a0), some (.int a1), none, none, none, none, none, none] [] K1 P
  refine g_aload_n dX11_layBest_4 rfl ?_
  obtain ⟨x2, ex2, h⟩ := bs h
  refine q_getA dX11_layBest_5 fX11_13 ex2 ?_
  refine g_iconst (v := (nI 2)) dX11_layBest_8 (by decide) ?_
  obtain ⟨x3, ex3, h⟩ := bs h
  refine q_iald dX11_layBest_9 ex3 ?_
  refine g_istore_n (ls' := [some (.ref a0), some (.int a1), some (.int x3), none, none, none, none, none]) dX11_layBest_10 (by decide) rfl ?_
  obtain ⟨r38, er38, h⟩ := bs h
  have hx : Go O (d + 1) MX11_layBest 171 [none, none, none, none, none, none, none, none] [] r38 P := by
    exact g_return dX11_layBest_171 rfl (hret _ (Option.some.inj h))
  refine Go_le ?_ (e_X11_layBest_l11 (fun q e => by cases e; exact hx) FU (x3, K1) er38)
  exact And.intro rfl (And.intro rfl (And.intro rfl (trivial)))
noncomputable def F_X11_rooms_l34 (O : mO) (d : Nat) (v0 : Nat) (v1 : Int32) (s2 : Int32) (s3 : Int32) (K : mH) : Option ((Int32 × Int32 × mH) ⊕ (Int32 × mH)) :=
  (gtA K v0 11 3).bind fun x7 =>
  (rdI O K x7 (nI 0)).bind fun x8 =>
  if x8 ≤ s3 then
    some (.inr (s2, K))
  else
    (toI (vc O d 11 MX11_freeIn v0 [.int s3] K)).bind fun p10 =>
    some (.inl ((s2 + (p10.1 <<< (((nI 2) * s3) &&& 31))), (s3 + nI 1), p10.2))
theorem e_X11_rooms_l34 {O : mO} {d : Nat} {v0 : Nat} {v1 : Int32} {P : Option Value → mH → Prop} {x : Int32 × mH} (hex : ∀ q : Int32 × mH, x = q → Go O (d + 1) MX11_rooms 62 [some (.ref v0), some (.int v1), some (.int q.1), none, none, none] [] q.2 P) : ∀ (f : Nat) (q : Int32 × Int32 × mH), lupF (fun (q : Int32 × Int32 × mH) => F_X11_rooms_l34 O d v0 v1 q.1 q.2.1 q.2.2) f q = some x → Go O (d + 1) MX11_rooms 34 [some (.ref v0), some (.int v1), some (.int q.1), some (.int q.2.1), none, none] [] q.2.2 P := by
  intro f
  induction f with
  | zero =>
    intro q h
    cases h
  | succ f ih =>
    intro q h
    obtain ⟨y, h, hy1, hy2⟩ := lupF_s h
    have hin : ∀ q : Int32 × Int32 × mH, y = .inl q → Go O (d + 1) MX11_rooms 34 [some (.ref v0), some (.int v1), some (.int q.1), some (.int q.2.1), none, none] [] q.2.2 P := fun q e => ih q (hy1 q e)
    replace hex : ∀ q : Int32 × mH, y = .inr q → Go O (d + 1) MX11_rooms 62 [some (.ref v0), some (.int v1), some (.int q.1), none, none, none] [] q.2 P := fun q e => hex q (hy2 q e).symm
    clear ih hy1 hy2
    obtain ⟨s2, s3, K⟩ := q
    dsimp only at h ⊢
    unfold F_X11_rooms_l34 at h
    refine g_iload_n dX11_rooms_34 rfl ?_
    refine g_aload_n dX11_rooms_35 rfl ?_
    obtain ⟨x7, ex7, h⟩ := bs h
    refine q_getA dX11_rooms_36 fX11_13 ex7 ?_
    refine g_iconst (v := (nI 0)) dX11_rooms_39 (by decide) ?_
    obtain ⟨x8, ex8, h⟩ := bs h
    refine q_iald dX11_rooms_40 ex8 ?_
    refine g_ic_ge (t := 62) dX11_rooms_41 (by decide) (fun c9 => ?_) (fun c9 => ?_)
    · rw [if_pos c9] at h
      refine Go_le ?_ (hex (s2, K) (Option.some.inj h).symm)
      exact And.intro rfl (And.intro rfl (And.intro rfl (trivial)))
    · rw [if_neg c9] at h
      refine g_iload_n dX11_rooms_44 rfl ?_
      refine g_aload_n dX11_rooms_45 rfl ?_
      refine g_iload_n dX11_rooms_46 rfl ?_
      obtain ⟨p10, ep10, h⟩ := bs h
      refine q_virt (Z := MX11_freeIn) (c := (RX11, TX11, 56)) (toI_s ep10) dX11_rooms_47 mX11_191.1 mX11_191.2 (Nat.le_of_ble_eq_true rfl) rfl rfl (Nat.le_of_ble_eq_true rfl) (Nat.le_of_ble_eq_true rfl) rfl rfl ?_
      show Go O (d + 1) MX11_rooms 50 [some (.ref v0), some (.int v1), some (.int s2), some (.int s3), none, none] [.int p10.1, .int s2] p10.2 P
      refine g_iconst (v := (nI 2)) dX11_rooms_50 (by decide) ?_
      refine g_iload_n dX11_rooms_51 rfl ?_
      refine g_imul dX11_rooms_52 ?_
      refine g_ishl dX11_rooms_53 ?_
      refine g_iadd dX11_rooms_54 ?_
      refine g_istore_n (ls' := [some (.ref v0), some (.int v1), some (.int (s2 + (p10.1 <<< (((nI 2) * s3) &&& 31)))), some (.int s3), none, none]) dX11_rooms_55 (by decide) rfl ?_
      refine q_iinc (w := nI 1) (ls' := [some (.ref v0), some (.int v1), some (.int (s2 + (p10.1 <<< (((nI 2) * s3) &&& 31)))), some (.int (s3 + nI 1)), none, none]) dX11_rooms_56 (by decide) rfl (by decide) rfl ?_
      refine g_goto (t := 34) dX11_rooms_59 (by decide) ?_
      refine Go_le ?_ (hin ((s2 + (p10.1 <<< (((nI 2) * s3) &&& 31))), (s3 + nI 1), p10.2) (Option.some.inj h).symm)
      exact And.intro rfl (And.intro rfl (And.intro rfl (And.intro rfl (trivial))))
noncomputable def F_X11_rooms_l122 (O : mO) (d : Nat) (v0 : Nat) (v1 : Int32) (v2 : Int32) (v4 : Int32) (s5 : Int32) (K : mH) : Option ((Int32 × mH) ⊕ (Int32 × mH)) :=
  (gtA K v0 11 3).bind fun x17 =>
  (rdI O K x17 (nI 0)).bind fun x18 =>
  if x18 ≤ s5 then
    some (.inr (s5, K))
  else
    (toI (vc O d 11 MX11_bestIn v0 [.int v4, .int v2, .int s5, .int (nI 0)] K)).bind fun p20 =>
    (gtA p20.2 v0 11 43).bind fun x21 =>
    (rdI O p20.2 x21 (((nI 1024) * v4) + v2)).bind fun x22 =>
    if p20.1 = x22 then
      some (.inr (s5, p20.2))
    else
      some (.inl ((s5 + nI 1), p20.2))
theorem e_X11_rooms_l122 {O : mO} {d : Nat} {v0 : Nat} {v1 : Int32} {v2 : Int32} {v4 : Int32} {P : Option Value → mH → Prop} {x : Int32 × mH} (hex : ∀ q : Int32 × mH, x = q → Go O (d + 1) MX11_rooms 165 [some (.ref v0), some (.int v1), some (.int v2), none, some (.int v4), some (.int q.1)] [] q.2 P) : ∀ (f : Nat) (q : Int32 × mH), lupF (fun (q : Int32 × mH) => F_X11_rooms_l122 O d v0 v1 v2 v4 q.1 q.2) f q = some x → Go O (d + 1) MX11_rooms 122 [some (.ref v0), some (.int v1), some (.int v2), none, some (.int v4), some (.int q.1)] [] q.2 P := by
  intro f
  induction f with
  | zero =>
    intro q h
    cases h
  | succ f ih =>
    intro q h
    obtain ⟨y, h, hy1, hy2⟩ := lupF_s h
    have hin : ∀ q : Int32 × mH, y = .inl q → Go O (d + 1) MX11_rooms 122 [some (.ref v0), some (.int v1), some (.int v2), none, some (.int v4), some (.int q.1)] [] q.2 P := fun q e => ih q (hy1 q e)
    replace hex : ∀ q : Int32 × mH, y = .inr q → Go O (d + 1) MX11_rooms 165 [some (.ref v0), some (.int v1), some (.int v2), none, some (.int v4), some (.int q.1)] [] q.2 P := fun q e => hex q (hy2 q e).symm
    clear ih hy1 hy2
    obtain ⟨s5, K⟩ := q
    dsimp only at h ⊢
    unfold F_X11_rooms_l122 at h
    refine g_iload dX11_rooms_122 rfl ?_
    refine g_aload_n dX11_rooms_124 rfl ?_
    obtain ⟨x17, ex17, h⟩ := bs h
    refine q_getA dX11_rooms_125 fX11_13 ex17 ?_
    refine g_iconst (v := (nI 0)) dX11_rooms_128 (by decide) ?_
    obtain ⟨x18, ex18, h⟩ := bs h
    refine q_iald dX11_rooms_129 ex18 ?_
    refine g_ic_ge (t := 165) dX11_rooms_130 (by decide) (fun c19 => ?_) (fun c19 => ?_)
    · rw [if_pos c19] at h
      refine Go_le ?_ (hex (s5, K) (Option.some.inj h).symm)
      exact And.intro rfl (And.intro rfl (And.intro rfl (And.intro rfl (And.intro rfl (trivial)))))
    · rw [if_neg c19] at h
      refine g_aload_n dX11_rooms_133 rfl ?_
      refine g_iload dX11_rooms_134 rfl ?_
      refine g_iload_n dX11_rooms_136 rfl ?_
      refine g_iload dX11_rooms_137 rfl ?_
      refine g_iconst (v := (nI 0)) dX11_rooms_139 (by decide) ?_
      obtain ⟨p20, ep20, h⟩ := bs h
      refine q_virt (Z := MX11_bestIn) (c := (RX11, TX11, 56)) (toI_s ep20) dX11_rooms_140 mX11_491.1 mX11_491.2 (Nat.le_of_ble_eq_true rfl) rfl rfl (Nat.le_of_ble_eq_true rfl) (Nat.le_of_ble_eq_true rfl) rfl rfl ?_
      show Go O (d + 1) MX11_rooms 143 [some (.ref v0), some (.int v1), some (.int v2), none, some (.int v4), some (.int s5)] [.int p20.1] p20.2 P
      refine g_aload_n dX11_rooms_143 rfl ?_
      obtain ⟨x21, ex21, h⟩ := bs h
      refine q_getA dX11_rooms_144 fX11_114 ex21 ?_
      refine g_sipush (v := (nI 1024)) dX11_rooms_147 (by decide) ?_
      refine g_iload dX11_rooms_150 rfl ?_
      refine g_imul dX11_rooms_152 ?_
      refine g_iload_n dX11_rooms_153 rfl ?_
      refine g_iadd dX11_rooms_154 ?_
      obtain ⟨x22, ex22, h⟩ := bs h
      refine q_iald dX11_rooms_155 ex22 ?_
      refine g_ic_eq (t := 165) dX11_rooms_156 (by decide) (fun c23 => ?_) (fun c23 => ?_)
      · rw [if_pos c23] at h
        refine Go_le ?_ (hex (s5, p20.2) (Option.some.inj h).symm)
        exact And.intro rfl (And.intro rfl (And.intro rfl (And.intro rfl (And.intro rfl (trivial)))))
      · rw [if_neg c23] at h
        refine q_iinc (w := nI 1) (ls' := [some (.ref v0), some (.int v1), some (.int v2), none, some (.int v4), some (.int (s5 + nI 1))]) dX11_rooms_159 (by decide) rfl (by decide) rfl ?_
        refine g_goto (t := 122) dX11_rooms_162 (by decide) ?_
        refine Go_le ?_ (hin ((s5 + nI 1), p20.2) (Option.some.inj h).symm)
        exact And.intro rfl (And.intro rfl (And.intro rfl (And.intro rfl (And.intro rfl (trivial)))))
noncomputable def F_X11_rooms_j165 (O : mO) (d : Nat) (v0 : Nat) (v1 : Int32) (v2 : Int32) (v4 : Int32) (v5 : Int32) (K : mH) : Option ((Int32 × Int32 × Int32 × mH) ⊕ (Int32 × mH)) :=
  (gtA K v0 11 3).bind fun x25 =>
  (rdI O K x25 (nI 0)).bind fun x26 =>
  (gtA K v0 11 3).bind fun x28 =>
  (rdI O K x28 (nI 0)).bind fun x29 =>
  some (.inl ((v2 - (if x29 ≤ v5 then (nI 0) else ((nI 1) <<< (((nI 2) * v5) &&& 31)))), (if x26 ≤ v5 then (nI 100) else v5), (v4 + nI 1), K))
theorem e_X11_rooms_j165 {O : mO} {d : Nat} {v0 : Nat} {v1 : Int32} {v2 : Int32} {v4 : Int32} {v5 : Int32} {K : mH} {P : Option Value → mH → Prop} {y : (Int32 × Int32 × Int32 × mH) ⊕ (Int32 × mH)} (hin : ∀ q : Int32 × Int32 × Int32 × mH, y = .inl q → Go O (d + 1) MX11_rooms 100 [some (.ref v0), some (.int v1), some (.int q.1), some (.int q.2.1), some (.int q.2.2.1), none] [] q.2.2.2 P) (hex : ∀ q : Int32 × mH, y = .inr q → Go O (d + 1) MX11_rooms 214 [none, none, none, some (.int q.1), none, none] [] q.2 P) (h : F_X11_rooms_j165 O d v0 v1 v2 v4 v5 K = some y) : Go O (d + 1) MX11_rooms 165 [some (.ref v0), some (.int v1), some (.int v2), none, some (.int v4), some (.int v5)] [] K P := by
  unfold F_X11_rooms_j165 at h
  refine g_iload dX11_rooms_165 rfl ?_
  refine g_aload_n dX11_rooms_167 rfl ?_
  obtain ⟨x25, ex25, h⟩ := bs h
  refine q_getA dX11_rooms_168 fX11_13 ex25 ?_
  refine g_iconst (v := (nI 0)) dX11_rooms_171 (by decide) ?_
  obtain ⟨x26, ex26, h⟩ := bs h
  refine q_iald dX11_rooms_172 ex26 ?_
  have hj : Go O (d + 1) MX11_rooms 183 [some (.ref v0), some (.int v1), some (.int v2), none, some (.int v4), some (.int v5)] [.int (if x26 ≤ v5 then (nI 100) else v5)] K P := by
    refine g_istore_n (ls' := [some (.ref v0), some (.int v1), some (.int v2), some (.int (if x26 ≤ v5 then (nI 100) else v5)), some (.int v4), some (.int v5)]) dX11_rooms_183 (by decide) rfl ?_
    refine g_iload_n dX11_rooms_184 rfl ?_
    refine g_iload dX11_rooms_185 rfl ?_
    refine g_aload_n dX11_rooms_187 rfl ?_
    obtain ⟨x28, ex28, h⟩ := bs h
    refine q_getA dX11_rooms_188 fX11_13 ex28 ?_
    refine g_iconst (v := (nI 0)) dX11_rooms_191 (by decide) ?_
    obtain ⟨x29, ex29, h⟩ := bs h
    refine q_iald dX11_rooms_192 ex29 ?_
    have hj : Go O (d + 1) MX11_rooms 206 [some (.ref v0), some (.int v1), none, some (.int (if x26 ≤ v5 then (nI 100) else v5)), some (.int v4), none] [.int (if x29 ≤ v5 then (nI 0) else ((nI 1) <<< (((nI 2) * v5) &&& 31))), .int v2] K P := by
      refine g_isub dX11_rooms_206 ?_
      refine g_istore_n (ls' := [some (.ref v0), some (.int v1), some (.int (v2 - (if x29 ≤ v5 then (nI 0) else ((nI 1) <<< (((nI 2) * v5) &&& 31))))), some (.int (if x26 ≤ v5 then (nI 100) else v5)), some (.int v4), none]) dX11_rooms_207 (by decide) rfl ?_
      refine q_iinc (w := nI 1) (ls' := [some (.ref v0), some (.int v1), some (.int (v2 - (if x29 ≤ v5 then (nI 0) else ((nI 1) <<< (((nI 2) * v5) &&& 31))))), some (.int (if x26 ≤ v5 then (nI 100) else v5)), some (.int (v4 + nI 1)), none]) dX11_rooms_208 (by decide) rfl (by decide) rfl ?_
      refine g_goto (t := 100) dX11_rooms_211 (by decide) ?_
      refine Go_le ?_ (hin ((v2 - (if x29 ≤ v5 then (nI 0) else ((nI 1) <<< (((nI 2) * v5) &&& 31)))), (if x26 ≤ v5 then (nI 100) else v5), (v4 + nI 1), K) (Option.some.inj h).symm)
      exact And.intro rfl (And.intro rfl (And.intro rfl (And.intro rfl (And.intro rfl (trivial)))))
    refine g_ic_ge (t := 205) dX11_rooms_193 (by decide) (fun c30 => ?_) (fun c30 => ?_)
    · skip
      refine g_iconst (v := (nI 0)) dX11_rooms_205 (by decide) ?_
      have hk : Go O (d + 1) MX11_rooms 206 [some (.ref v0), some (.int v1), none, some (.int (if x26 ≤ v5 then (nI 100) else v5)), some (.int v4), none] [.int (nI 0), .int v2] K P := by simpa only [if_pos c30] using hj
      refine Go_le ?_ hk
      exact And.intro rfl (And.intro rfl (And.intro rfl (And.intro rfl (trivial))))
    · skip
      refine g_iconst (v := (nI 1)) dX11_rooms_196 (by decide) ?_
      refine g_iconst (v := (nI 2)) dX11_rooms_197 (by decide) ?_
      refine g_iload dX11_rooms_198 rfl ?_
      refine g_imul dX11_rooms_200 ?_
      refine g_ishl dX11_rooms_201 ?_
      refine g_goto (t := 206) dX11_rooms_202 (by decide) ?_
      have hk : Go O (d + 1) MX11_rooms 206 [some (.ref v0), some (.int v1), none, some (.int (if x26 ≤ v5 then (nI 100) else v5)), some (.int v4), none] [.int ((nI 1) <<< (((nI 2) * v5) &&& 31)), .int v2] K P := by simpa only [if_neg c30] using hj
      refine Go_le ?_ hk
      exact And.intro rfl (And.intro rfl (And.intro rfl (And.intro rfl (trivial))))
  refine g_ic_ge (t := 181) dX11_rooms_173 (by decide) (fun c27 => ?_) (fun c27 => ?_)
  · skip
    refine g_bipush (v := (nI 100)) dX11_rooms_181 (by decide) ?_
    have hk : Go O (d + 1) MX11_rooms 183 [some (.ref v0), some (.int v1), some (.int v2), none, some (.int v4), some (.int v5)] [.int (nI 100)] K P := by simpa only [if_pos c27] using hj
    refine Go_le ?_ hk
    exact And.intro rfl (And.intro rfl (And.intro rfl (And.intro rfl (And.intro rfl (trivial)))))
  · skip
    refine g_iload dX11_rooms_176 rfl ?_
    refine g_goto (t := 183) dX11_rooms_178 (by decide) ?_
    have hk : Go O (d + 1) MX11_rooms 183 [some (.ref v0), some (.int v1), some (.int v2), none, some (.int v4), some (.int v5)] [.int v5] K P := by simpa only [if_neg c27] using hj
    refine Go_le ?_ hk
    exact And.intro rfl (And.intro rfl (And.intro rfl (And.intro rfl (And.intro rfl (trivial)))))
noncomputable def F_X11_rooms_l100 (O : mO) (d : Nat) (v0 : Nat) (v1 : Int32) (s2 : Int32) (s3 : Int32) (s4 : Int32) (K : mH) : Option ((Int32 × Int32 × Int32 × mH) ⊕ (Int32 × mH)) :=
  if (v1 - (nI 2)) < s4 then
    some (.inr (s3, K))
  else
    (toI (vc O d 11 MX11_isIn v0 [.int s4] K)).bind fun p14 =>
    if p14.1 = 0 then
      (lupF (fun (q : Int32 × mH) => F_X11_rooms_l122 O d v0 v1 s2 s4 q.1 q.2) FU ((nI 0), p14.2)).bind fun r24 =>
      F_X11_rooms_j165 O d v0 v1 s2 s4 r24.1 r24.2
    else
      some (.inl (s2, (-1), (s4 + nI 1), p14.2))
theorem e_X11_rooms_l100 {O : mO} {d : Nat} {v0 : Nat} {v1 : Int32} {P : Option Value → mH → Prop} {x : Int32 × mH} (hex : ∀ q : Int32 × mH, x = q → Go O (d + 1) MX11_rooms 214 [none, none, none, some (.int q.1), none, none] [] q.2 P) : ∀ (f : Nat) (q : Int32 × Int32 × Int32 × mH), lupF (fun (q : Int32 × Int32 × Int32 × mH) => F_X11_rooms_l100 O d v0 v1 q.1 q.2.1 q.2.2.1 q.2.2.2) f q = some x → Go O (d + 1) MX11_rooms 100 [some (.ref v0), some (.int v1), some (.int q.1), some (.int q.2.1), some (.int q.2.2.1), none] [] q.2.2.2 P := by
  intro f
  induction f with
  | zero =>
    intro q h
    cases h
  | succ f ih =>
    intro q h
    obtain ⟨y, h, hy1, hy2⟩ := lupF_s h
    have hin : ∀ q : Int32 × Int32 × Int32 × mH, y = .inl q → Go O (d + 1) MX11_rooms 100 [some (.ref v0), some (.int v1), some (.int q.1), some (.int q.2.1), some (.int q.2.2.1), none] [] q.2.2.2 P := fun q e => ih q (hy1 q e)
    replace hex : ∀ q : Int32 × mH, y = .inr q → Go O (d + 1) MX11_rooms 214 [none, none, none, some (.int q.1), none, none] [] q.2 P := fun q e => hex q (hy2 q e).symm
    clear ih hy1 hy2
    obtain ⟨s2, s3, s4, K⟩ := q
    dsimp only at h ⊢
    unfold F_X11_rooms_l100 at h
    refine g_iload dX11_rooms_100 rfl ?_
    refine g_iload_n dX11_rooms_102 rfl ?_
    refine g_iconst (v := (nI 2)) dX11_rooms_103 (by decide) ?_
    refine g_isub dX11_rooms_104 ?_
    refine g_ic_gt (t := 214) dX11_rooms_105 (by decide) (fun c13 => ?_) (fun c13 => ?_)
    · rw [if_pos c13] at h
      refine Go_le ?_ (hex (s3, K) (Option.some.inj h).symm)
      exact And.intro rfl (trivial)
    · rw [if_neg c13] at h
      refine g_iconst (v := (-1)) dX11_rooms_108 (by decide) ?_
      refine g_istore_n (ls' := [some (.ref v0), some (.int v1), some (.int s2), some (.int (-1)), some (.int s4), none]) dX11_rooms_109 (by decide) rfl ?_
      refine g_aload_n dX11_rooms_110 rfl ?_
      refine g_iload dX11_rooms_111 rfl ?_
      obtain ⟨p14, ep14, h⟩ := bs h
      refine q_virt (Z := MX11_isIn) (c := (RX11, TX11, 56)) (toI_s ep14) dX11_rooms_113 mX11_182.1 mX11_182.2 (Nat.le_of_ble_eq_true rfl) rfl rfl (Nat.le_of_ble_eq_true rfl) (Nat.le_of_ble_eq_true rfl) rfl rfl ?_
      show Go O (d + 1) MX11_rooms 116 [some (.ref v0), some (.int v1), some (.int s2), some (.int (-1)), some (.int s4), none] [.int p14.1] p14.2 P
      refine g_if_ne (t := 208) dX11_rooms_116 (by decide) (fun c16 => ?_) (fun c16 => ?_)
      · rw [if_neg c16] at h
        refine q_iinc (w := nI 1) (ls' := [some (.ref v0), some (.int v1), some (.int s2), some (.int (-1)), some (.int (s4 + nI 1)), none]) dX11_rooms_208 (by decide) rfl (by decide) rfl ?_
        refine g_goto (t := 100) dX11_rooms_211 (by decide) ?_
        have hh := hin (s2, (-1), (s4 + nI 1), p14.2) (Option.some.inj h).symm; (try dsimp only at hh); refine Go_le ?_ hh
        exact And.intro rfl (And.intro rfl (And.intro rfl (And.intro rfl (And.intro rfl (trivial)))))
      · rw [if_pos c16] at h
        refine g_iconst (v := (nI 0)) dX11_rooms_119 (by decide) ?_
        refine g_istore (ls' := [some (.ref v0), some (.int v1), some (.int s2), some (.int (-1)), some (.int s4), some (.int (nI 0))]) dX11_rooms_120 (by decide) rfl ?_
        obtain ⟨r24, er24, h⟩ := bs h
        have hx : Go O (d + 1) MX11_rooms 165 [some (.ref v0), some (.int v1), some (.int s2), none, some (.int s4), some (.int r24.1)] [] r24.2 P := by
          refine Go_le ?_ (e_X11_rooms_j165 hin hex h)
          exact And.intro rfl (And.intro rfl (And.intro rfl (And.intro rfl (And.intro rfl (trivial)))))
        refine Go_le ?_ (e_X11_rooms_l122 (fun q e => by cases e; exact hx) FU ((nI 0), p14.2) er24)
        exact And.intro rfl (And.intro rfl (And.intro rfl (And.intro rfl (And.intro rfl (trivial)))))
noncomputable def F_X11_rooms (O : mO) (d : Nat) (a0 : Nat) (a1 : Int32) (K : mH) : Option (Int32 × mH) :=
  (ptI K a0 11 0 (nI 0)).bind fun K1 =>
  (gtA K1 a0 11 3).bind fun x2 =>
  (rdI O K1 x2 (nI 2)).bind fun x3 =>
  (toI (ev O d MX11_in [.long a1.toInt64, .long 0, .long (1 + x3.toInt64)] K1)).bind fun p4 =>
  if p4.1 = 0 then
    some ((-1), p4.2)
  else
    (toV (vc O d 11 MX11_layBest a0 [.int (nI 0)] p4.2)).bind fun K6 =>
    (lupF (fun (q : Int32 × Int32 × mH) => F_X11_rooms_l34 O d a0 a1 q.1 q.2.1 q.2.2) FU ((nI 0), (nI 0), K6)).bind fun r11 =>
    if (nI 2) ≤ a1 then
      (lupF (fun (q : Int32 × Int32 × Int32 × mH) => F_X11_rooms_l100 O d a0 a1 q.1 q.2.1 q.2.2.1 q.2.2.2) FU (r11.1, (-1), (nI 0), r11.2)).bind fun r31 =>
      some (r31.1, r31.2)
    else
      if a1 = 0 then
        (gtA r11.2 a0 11 43).bind fun x37 =>
        (rdI O r11.2 x37 r11.1).bind fun x38 =>
        if (nI 1000) = 0 then none else
        some ((x38 / (nI 1000)), r11.2)
      else
        (gtA r11.2 a0 11 43).bind fun x34 =>
        (rdI O r11.2 x34 r11.1).bind fun x35 =>
        if (nI 1000) = 0 then none else
        some ((x35 - x35 / (nI 1000) * (nI 1000)), r11.2)
theorem e_X11_rooms {O : mO} {d : Nat} {a0 : Nat} {a1 : Int32} {K : mH} {r0 : Int32} {K0 : mH} (h : F_X11_rooms O d a0 a1 K = some (r0, K0)) : ev O (d + 1) MX11_rooms [.ref a0, .int a1] K = some (some (.int r0), K0) := by
  refine Rn_evx ?_
  show Go O (d + 1) MX11_rooms 0 [some (.ref a0), some (.int a1), none, none, none, none] [] K _
  generalize hP : (fun (r : Option Value) (K' : mH) => (r, K') = (some (.int r0), K0)) = P
  have hret : ∀ (r : Int32) (K' : mH), (r, K') = (r0, K0) → P (some (.int r)) K' := by
    intro r K' e
    cases e
    subst hP
    rfl
  clear hP
  unfold F_X11_rooms at h
  refine g_aload_n dX11_rooms_0 rfl ?_
  refine g_iconst (v := (nI 0)) dX11_rooms_1 (by decide) ?_
  obtain ⟨K1, eK1, h⟩ := bs h
  refine q_put (c := (RX11, TX11, 56)) dX11_rooms_2 fX11_149 rfl rfl rfl (fun h => absurd h (by decide)) eK1 ?_
  refine g_iload_n dX11_rooms_5 rfl ?_
  refine g_i2l dX11_rooms_6 ?_
  refine g_lconst (v := 0) dX11_rooms_7 (by decide) ?_
  refine g_lconst (v := 1) dX11_rooms_8 (by decide) ?_
  refine g_aload_n dX11_rooms_9 rfl ?_
  obtain ⟨x2, ex2, h⟩ := bs h
  refine q_getA dX11_rooms_10 fX11_13 ex2 ?_
  refine g_iconst (v := (nI 2)) dX11_rooms_13 (by decide) ?_
  obtain ⟨x3, ex3, h⟩ := bs h
  refine q_iald dX11_rooms_14 ex3 ?_
  refine g_i2l dX11_rooms_15 ?_
  refine g_ladd dX11_rooms_16 ?_
  obtain ⟨p4, ep4, h⟩ := bs h
  refine q_stat (Z := MX11_in) (toI_s ep4) dX11_rooms_17 mX11_169.1 mX11_169.2 (Nat.le_of_ble_eq_true rfl) rfl rfl (Nat.le_of_ble_eq_true rfl) (Nat.le_of_ble_eq_true rfl) ?_
  show Go O (d + 1) MX11_rooms 20 [some (.ref a0), some (.int a1), none, none, none, none] [.int p4.1] p4.2 P
  refine g_if_ne (t := 25) dX11_rooms_20 (by decide) (fun c5 => ?_) (fun c5 => ?_)
  · rw [if_neg c5] at h
    refine g_aload_n dX11_rooms_25 rfl ?_
    refine g_iconst (v := (nI 0)) dX11_rooms_26 (by decide) ?_
    obtain ⟨K6, eK6, h⟩ := bs h
    refine q_virt (Z := MX11_layBest) (c := (RX11, TX11, 56)) (toV_s eK6) dX11_rooms_27 mX11_495.1 mX11_495.2 (Nat.le_of_ble_eq_true rfl) rfl rfl (Nat.le_of_ble_eq_true rfl) (Nat.le_of_ble_eq_true rfl) rfl rfl ?_
    show Go O (d + 1) MX11_rooms 30 [some (.ref a0), some (.int a1), none, none, none, none] [] K6 P
    refine g_iconst (v := (nI 0)) dX11_rooms_30 (by decide) ?_
    refine g_istore_n (ls' := [some (.ref a0), some (.int a1), some (.int (nI 0)), none, none, none]) dX11_rooms_31 (by decide) rfl ?_
    refine g_iconst (v := (nI 0)) dX11_rooms_32 (by decide) ?_
    refine g_istore_n (ls' := [some (.ref a0), some (.int a1), some (.int (nI 0)), some (.int (nI 0)), none, none]) dX11_rooms_33 (by decide) rfl ?_
    obtain ⟨r11, er11, h⟩ := bs h
    have hx : Go O (d + 1) MX11_rooms 62 [some (.ref a0), some (.int a1), some (.int r11.1), none, none, none] [] r11.2 P := by
      refine g_iload_n dX11_rooms_62 rfl ?_
      refine g_iconst (v := (nI 2)) dX11_rooms_63 (by decide) ?_
      refine g_ic_ge (t := 95) dX11_rooms_64 (by decide) (fun c12 => ?_) (fun c12 => ?_)
      · rw [if_pos c12] at h
        refine g_iconst (v := (-1)) dX11_rooms_95 (by decide) ?_
        refine g_istore_n (ls' := [some (.ref a0), some (.int a1), some (.int r11.1), some (.int (-1)), none, none]) dX11_rooms_96 (by decide) rfl ?_
        refine g_iconst (v := (nI 0)) dX11_rooms_97 (by decide) ?_
        refine g_istore (ls' := [some (.ref a0), some (.int a1), some (.int r11.1), some (.int (-1)), some (.int (nI 0)), none]) dX11_rooms_98 (by decide) rfl ?_
        obtain ⟨r31, er31, h⟩ := bs h
        have hx : Go O (d + 1) MX11_rooms 214 [none, none, none, some (.int r31.1), none, none] [] r31.2 P := by
          refine g_iload_n dX11_rooms_214 rfl ?_
          exact g_ireturn dX11_rooms_215 rfl (by first | rfl | decide) (hret _ _ (Option.some.inj h))
        refine Go_le ?_ (e_X11_rooms_l100 (fun q e => by cases e; exact hx) FU (r11.1, (-1), (nI 0), r11.2) er31)
        exact And.intro rfl (And.intro rfl (And.intro rfl (And.intro rfl (And.intro rfl (trivial)))))
      · rw [if_neg c12] at h
        refine g_iload_n dX11_rooms_67 rfl ?_
        refine g_if_ne (t := 84) dX11_rooms_68 (by decide) (fun c33 => ?_) (fun c33 => ?_)
        · rw [if_neg c33] at h
          refine g_aload_n dX11_rooms_84 rfl ?_
          obtain ⟨x34, ex34, h⟩ := bs h
          refine q_getA dX11_rooms_85 fX11_114 ex34 ?_
          refine g_iload_n dX11_rooms_88 rfl ?_
          obtain ⟨x35, ex35, h⟩ := bs h
          refine q_iald dX11_rooms_89 ex35 ?_
          refine g_sipush (v := (nI 1000)) dX11_rooms_90 (by decide) ?_
          by_cases c36 : (nI 1000) = 0
          · rw [if_pos c36] at h
            cases h
          rw [if_neg c36] at h
          refine g_irem dX11_rooms_93 c36 ?_
          exact g_ireturn dX11_rooms_94 rfl (by first | rfl | decide) (hret _ _ (Option.some.inj h))
        · rw [if_pos c33] at h
          refine g_aload_n dX11_rooms_71 rfl ?_
          obtain ⟨x37, ex37, h⟩ := bs h
          refine q_getA dX11_rooms_72 fX11_114 ex37 ?_
          refine g_iload_n dX11_rooms_75 rfl ?_
          obtain ⟨x38, ex38, h⟩ := bs h
          refine q_iald dX11_rooms_76 ex38 ?_
          refine g_sipush (v := (nI 1000)) dX11_rooms_77 (by decide) ?_
          by_cases c39 : (nI 1000) = 0
          · rw [if_pos c39] at h
            cases h
          rw [if_neg c39] at h
          refine g_idiv dX11_rooms_80 c39 ?_
          refine g_goto (t := 94) dX11_rooms_81 (by decide) ?_
          exact g_ireturn dX11_rooms_94 rfl (by first | rfl | decide) (hret _ _ (Option.some.inj h))
    refine Go_le ?_ (e_X11_rooms_l34 (fun q e => by cases e; exact hx) FU ((nI 0), (nI 0), K6) er11)
    exact And.intro rfl (And.intro rfl (And.intro rfl (And.intro rfl (trivial))))
  · rw [if_pos c5] at h
    refine g_iconst (v := (-1)) dX11_rooms_23 (by decide) ?_
    exact g_ireturn dX11_rooms_24 rfl (by first | rfl | decide) (hret _ _ (Option.some.inj h))
noncomputable def F_X11_packed_j92 (O : mO) (d : Nat) (v0 : Nat) (v1 : Int32) (v2 : Int32) (v3 : Int32) (v4 : Int32) (v6 : Int32) (w0 : Int32) (w1 : Int32) (K : mH) : Option ((Int32 × Int32 × mH) ⊕ (Int32 × mH)) :=
  some (.inl ((w1 + w0), (v6 + nI 1), K))
theorem e_X11_packed_j92 {O : mO} {d : Nat} {v0 : Nat} {v1 : Int32} {v2 : Int32} {v3 : Int32} {v4 : Int32} {v6 : Int32} {w0 : Int32} {w1 : Int32} {K : mH} {P : Option Value → mH → Prop} {y : (Int32 × Int32 × mH) ⊕ (Int32 × mH)} (hin : ∀ q : Int32 × Int32 × mH, y = .inl q → Go O (d + 1) MX11_packed 50 [some (.ref v0), some (.int v1), some (.int v2), some (.int v3), some (.int v4), some (.int q.1), some (.int q.2.1)] [] q.2.2 P) (hex : ∀ q : Int32 × mH, y = .inr q → Go O (d + 1) MX11_packed 101 [some (.ref v0), some (.int v1), some (.int v2), some (.int v3), some (.int v4), some (.int q.1), none] [] q.2 P) (h : F_X11_packed_j92 O d v0 v1 v2 v3 v4 v6 w0 w1 K = some y) : Go O (d + 1) MX11_packed 92 [some (.ref v0), some (.int v1), some (.int v2), some (.int v3), some (.int v4), none, some (.int v6)] [.int w0, .int w1] K P := by
  unfold F_X11_packed_j92 at h
  refine g_iadd dX11_packed_92 ?_
  refine g_istore (ls' := [some (.ref v0), some (.int v1), some (.int v2), some (.int v3), some (.int v4), some (.int (w1 + w0)), some (.int v6)]) dX11_packed_93 (by decide) rfl ?_
  refine q_iinc (w := nI 1) (ls' := [some (.ref v0), some (.int v1), some (.int v2), some (.int v3), some (.int v4), some (.int (w1 + w0)), some (.int (v6 + nI 1))]) dX11_packed_95 (by decide) rfl (by decide) rfl ?_
  refine g_goto (t := 50) dX11_packed_98 (by decide) ?_
  refine Go_le ?_ (hin ((w1 + w0), (v6 + nI 1), K) (Option.some.inj h).symm)
  exact And.intro rfl (And.intro rfl (And.intro rfl (And.intro rfl (And.intro rfl (And.intro rfl (And.intro rfl (trivial)))))))
noncomputable def F_X11_packed_l50 (O : mO) (d : Nat) (v0 : Nat) (v1 : Int32) (v2 : Int32) (v3 : Int32) (v4 : Int32) (s5 : Int32) (s6 : Int32) (K : mH) : Option ((Int32 × Int32 × mH) ⊕ (Int32 × mH)) :=
  (gtA K v0 11 3).bind fun x8 =>
  (rdI O K x8 (nI 0)).bind fun x9 =>
  if x9 ≤ s6 then
    some (.inr (s5, K))
  else
    (toI (ev O d MX11_is [.int v4, .int s6] K)).bind fun p11 =>
    if p11.1 = 0 then
      F_X11_packed_j92 O d v0 v1 v2 v3 v4 s6 (nI 0) s5 p11.2
    else
      (gtA p11.2 v0 11 3).bind fun x14 =>
      (rdI O p11.2 x14 ((nI 37) + s6)).bind fun x15 =>
      F_X11_packed_j92 O d v0 v1 v2 v3 v4 s6 (x15 <<< (((nI 2) * s6) &&& 31)) s5 p11.2
theorem e_X11_packed_l50 {O : mO} {d : Nat} {v0 : Nat} {v1 : Int32} {v2 : Int32} {v3 : Int32} {v4 : Int32} {P : Option Value → mH → Prop} {x : Int32 × mH} (hex : ∀ q : Int32 × mH, x = q → Go O (d + 1) MX11_packed 101 [some (.ref v0), some (.int v1), some (.int v2), some (.int v3), some (.int v4), some (.int q.1), none] [] q.2 P) : ∀ (f : Nat) (q : Int32 × Int32 × mH), lupF (fun (q : Int32 × Int32 × mH) => F_X11_packed_l50 O d v0 v1 v2 v3 v4 q.1 q.2.1 q.2.2) f q = some x → Go O (d + 1) MX11_packed 50 [some (.ref v0), some (.int v1), some (.int v2), some (.int v3), some (.int v4), some (.int q.1), some (.int q.2.1)] [] q.2.2 P := by
  intro f
  induction f with
  | zero =>
    intro q h
    cases h
  | succ f ih =>
    intro q h
    obtain ⟨y, h, hy1, hy2⟩ := lupF_s h
    have hin : ∀ q : Int32 × Int32 × mH, y = .inl q → Go O (d + 1) MX11_packed 50 [some (.ref v0), some (.int v1), some (.int v2), some (.int v3), some (.int v4), some (.int q.1), some (.int q.2.1)] [] q.2.2 P := fun q e => ih q (hy1 q e)
    replace hex : ∀ q : Int32 × mH, y = .inr q → Go O (d + 1) MX11_packed 101 [some (.ref v0), some (.int v1), some (.int v2), some (.int v3), some (.int v4), some (.int q.1), none] [] q.2 P := fun q e => hex q (hy2 q e).symm
    clear ih hy1 hy2
    obtain ⟨s5, s6, K⟩ := q
    dsimp only at h ⊢
    unfold F_X11_packed_l50 at h
    refine g_iload dX11_packed_50 rfl ?_
    refine g_aload_n dX11_packed_52 rfl ?_
    obtain ⟨x8, ex8, h⟩ := bs h
    refine q_getA dX11_packed_53 fX11_13 ex8 ?_
    refine g_iconst (v := (nI 0)) dX11_packed_56 (by decide) ?_
    obtain ⟨x9, ex9, h⟩ := bs h
    refine q_iald dX11_packed_57 ex9 ?_
    refine g_ic_ge (t := 101) dX11_packed_58 (by decide) (fun c10 => ?_) (fun c10 => ?_)
    · rw [if_pos c10] at h
      refine Go_le ?_ (hex (s5, K) (Option.some.inj h).symm)
      exact And.intro rfl (And.intro rfl (And.intro rfl (And.intro rfl (And.intro rfl (And.intro rfl (trivial))))))
    · rw [if_neg c10] at h
      refine g_iload dX11_packed_61 rfl ?_
      refine g_iload dX11_packed_63 rfl ?_
      refine g_iload dX11_packed_65 rfl ?_
      obtain ⟨p11, ep11, h⟩ := bs h
      refine q_stat (Z := MX11_is) (toI_s ep11) dX11_packed_67 mX11_476.1 mX11_476.2 (Nat.le_of_ble_eq_true rfl) rfl rfl (Nat.le_of_ble_eq_true rfl) (Nat.le_of_ble_eq_true rfl) ?_
      show Go O (d + 1) MX11_packed 70 [some (.ref v0), some (.int v1), some (.int v2), some (.int v3), some (.int v4), some (.int s5), some (.int s6)] [.int p11.1, .int s5] p11.2 P
      refine g_if_eq (t := 91) dX11_packed_70 (by decide) (fun c13 => ?_) (fun c13 => ?_)
      · rw [if_pos c13] at h
        refine g_iconst (v := (nI 0)) dX11_packed_91 (by decide) ?_
        refine Go_le ?_ (e_X11_packed_j92 hin hex h)
        exact And.intro rfl (And.intro rfl (And.intro rfl (And.intro rfl (And.intro rfl (And.intro rfl (trivial))))))
      · rw [if_neg c13] at h
        refine g_aload_n dX11_packed_73 rfl ?_
        obtain ⟨x14, ex14, h⟩ := bs h
        refine q_getA dX11_packed_74 fX11_13 ex14 ?_
        refine g_bipush (v := (nI 37)) dX11_packed_77 (by decide) ?_
        refine g_iload dX11_packed_79 rfl ?_
        refine g_iadd dX11_packed_81 ?_
        obtain ⟨x15, ex15, h⟩ := bs h
        refine q_iald dX11_packed_82 ex15 ?_
        refine g_iconst (v := (nI 2)) dX11_packed_83 (by decide) ?_
        refine g_iload dX11_packed_84 rfl ?_
        refine g_imul dX11_packed_86 ?_
        refine g_ishl dX11_packed_87 ?_
        refine g_goto (t := 92) dX11_packed_88 (by decide) ?_
        refine Go_le ?_ (e_X11_packed_j92 hin hex h)
        exact And.intro rfl (And.intro rfl (And.intro rfl (And.intro rfl (And.intro rfl (And.intro rfl (trivial))))))
noncomputable def F_X11_packed_j126 (O : mO) (d : Nat) (v0 : Nat) (v1 : Int32) (v2 : Int32) (v3 : Int32) (v4 : Int32) (w0 : Int32) (K : mH) : Option ((Int32 × Int32 × Int32 × mH) ⊕ (Int32 × Int32 × mH)) :=
  if w0 = 0 then
    some (.inl (v2, (if w0 = 0 then v3 else v4), (v4 + nI 1), K))
  else
    (toI (ev O d MX11_ones [.int v4] K)).bind fun p24 =>
    some (.inl (p24.1, (if w0 = 0 then v3 else v4), (v4 + nI 1), p24.2))
theorem e_X11_packed_j126 {O : mO} {d : Nat} {v0 : Nat} {v1 : Int32} {v2 : Int32} {v3 : Int32} {v4 : Int32} {w0 : Int32} {K : mH} {P : Option Value → mH → Prop} {y : (Int32 × Int32 × Int32 × mH) ⊕ (Int32 × Int32 × mH)} (hin : ∀ q : Int32 × Int32 × Int32 × mH, y = .inl q → Go O (d + 1) MX11_packed 31 [some (.ref v0), some (.int v1), some (.int q.1), some (.int q.2.1), some (.int q.2.2.1), none, none] [] q.2.2.2 P) (hex : ∀ q : Int32 × Int32 × mH, y = .inr q → Go O (d + 1) MX11_packed 161 [none, some (.int v1), some (.int q.1), some (.int q.2.1), none, none, none] [] q.2.2 P) (h : F_X11_packed_j126 O d v0 v1 v2 v3 v4 w0 K = some y) : Go O (d + 1) MX11_packed 126 [some (.ref v0), some (.int v1), some (.int v2), some (.int v3), some (.int v4), none, none] [.int w0] K P := by
  unfold F_X11_packed_j126 at h
  refine g_istore (ls' := [some (.ref v0), some (.int v1), some (.int v2), some (.int v3), some (.int v4), none, some (.int w0)]) dX11_packed_126 (by decide) rfl ?_
  refine g_iload dX11_packed_128 rfl ?_
  have hj : Go O (d + 1) MX11_packed 139 [some (.ref v0), some (.int v1), some (.int v2), none, some (.int v4), none, some (.int w0)] [.int (if w0 = 0 then v3 else v4)] K P := by
    refine g_istore_n (ls' := [some (.ref v0), some (.int v1), some (.int v2), some (.int (if w0 = 0 then v3 else v4)), some (.int v4), none, some (.int w0)]) dX11_packed_139 (by decide) rfl ?_
    refine g_iload dX11_packed_140 rfl ?_
    refine g_if_eq (t := 153) dX11_packed_142 (by decide) (fun c23 => ?_) (fun c23 => ?_)
    · rw [if_pos c23] at h
      refine g_iload_n dX11_packed_153 rfl ?_
      refine g_istore_n (ls' := [some (.ref v0), some (.int v1), some (.int v2), some (.int (if w0 = 0 then v3 else v4)), some (.int v4), none, some (.int w0)]) dX11_packed_154 (by decide) rfl ?_
      refine q_iinc (w := nI 1) (ls' := [some (.ref v0), some (.int v1), some (.int v2), some (.int (if w0 = 0 then v3 else v4)), some (.int (v4 + nI 1)), none, some (.int w0)]) dX11_packed_155 (by decide) rfl (by decide) rfl ?_
      refine g_goto (t := 31) dX11_packed_158 (by decide) ?_
      refine Go_le ?_ (hin (v2, (if w0 = 0 then v3 else v4), (v4 + nI 1), K) (Option.some.inj h).symm)
      exact And.intro rfl (And.intro rfl (And.intro rfl (And.intro rfl (And.intro rfl (trivial)))))
    · rw [if_neg c23] at h
      refine g_iload dX11_packed_145 rfl ?_
      obtain ⟨p24, ep24, h⟩ := bs h
      refine q_stat (Z := MX11_ones) (toI_s ep24) dX11_packed_147 mX11_179.1 mX11_179.2 (Nat.le_of_ble_eq_true rfl) rfl rfl (Nat.le_of_ble_eq_true rfl) (Nat.le_of_ble_eq_true rfl) ?_
      show Go O (d + 1) MX11_packed 150 [some (.ref v0), some (.int v1), some (.int v2), some (.int (if w0 = 0 then v3 else v4)), some (.int v4), none, some (.int w0)] [.int p24.1] p24.2 P
      refine g_goto (t := 154) dX11_packed_150 (by decide) ?_
      refine g_istore_n (ls' := [some (.ref v0), some (.int v1), some (.int p24.1), some (.int (if w0 = 0 then v3 else v4)), some (.int v4), none, some (.int w0)]) dX11_packed_154 (by decide) rfl ?_
      refine q_iinc (w := nI 1) (ls' := [some (.ref v0), some (.int v1), some (.int p24.1), some (.int (if w0 = 0 then v3 else v4)), some (.int (v4 + nI 1)), none, some (.int w0)]) dX11_packed_155 (by decide) rfl (by decide) rfl ?_
      refine g_goto (t := 31) dX11_packed_158 (by decide) ?_
      refine Go_le ?_ (hin (p24.1, (if w0 = 0 then v3 else v4), (v4 + nI 1), p24.2) (Option.some.inj h).symm)
      exact And.intro rfl (And.intro rfl (And.intro rfl (And.intro rfl (And.intro rfl (trivial)))))
  refine g_if_eq (t := 138) dX11_packed_130 (by decide) (fun c21 => ?_) (fun c21 => ?_)
  · skip
    refine g_iload_n dX11_packed_138 rfl ?_
    have hk : Go O (d + 1) MX11_packed 139 [some (.ref v0), some (.int v1), some (.int v2), none, some (.int v4), none, some (.int w0)] [.int v3] K P := by simpa only [if_pos c21] using hj
    refine Go_le ?_ hk
    exact And.intro rfl (And.intro rfl (And.intro rfl (And.intro rfl (And.intro rfl (trivial)))))
  · skip
    refine g_iload dX11_packed_133 rfl ?_
    refine g_goto (t := 139) dX11_packed_135 (by decide) ?_
    have hk : Go O (d + 1) MX11_packed 139 [some (.ref v0), some (.int v1), some (.int v2), none, some (.int v4), none, some (.int w0)] [.int v4] K P := by simpa only [if_neg c21] using hj
    refine Go_le ?_ hk
    exact And.intro rfl (And.intro rfl (And.intro rfl (And.intro rfl (And.intro rfl (trivial)))))
noncomputable def F_X11_packed_j125 (O : mO) (d : Nat) (v0 : Nat) (v1 : Int32) (v2 : Int32) (v3 : Int32) (v4 : Int32) (K : mH) : Option ((Int32 × Int32 × Int32 × mH) ⊕ (Int32 × Int32 × mH)) :=
  F_X11_packed_j126 O d v0 v1 v2 v3 v4 (nI 0) K
theorem e_X11_packed_j125 {O : mO} {d : Nat} {v0 : Nat} {v1 : Int32} {v2 : Int32} {v3 : Int32} {v4 : Int32} {K : mH} {P : Option Value → mH → Prop} {y : (Int32 × Int32 × Int32 × mH) ⊕ (Int32 × Int32 × mH)} (hin : ∀ q : Int32 × Int32 × Int32 × mH, y = .inl q → Go O (d + 1) MX11_packed 31 [some (.ref v0), some (.int v1), some (.int q.1), some (.int q.2.1), some (.int q.2.2.1), none, none] [] q.2.2.2 P) (hex : ∀ q : Int32 × Int32 × mH, y = .inr q → Go O (d + 1) MX11_packed 161 [none, some (.int v1), some (.int q.1), some (.int q.2.1), none, none, none] [] q.2.2 P) (h : F_X11_packed_j125 O d v0 v1 v2 v3 v4 K = some y) : Go O (d + 1) MX11_packed 125 [some (.ref v0), some (.int v1), some (.int v2), some (.int v3), some (.int v4), none, none] [] K P := by
  unfold F_X11_packed_j125 at h
  refine g_iconst (v := (nI 0)) dX11_packed_125 (by decide) ?_
  refine Go_le ?_ (e_X11_packed_j126 hin hex h)
  exact And.intro rfl (And.intro rfl (And.intro rfl (And.intro rfl (And.intro rfl (trivial)))))
noncomputable def F_X11_packed_l31 (O : mO) (d : Nat) (v0 : Nat) (v1 : Int32) (s2 : Int32) (s3 : Int32) (s4 : Int32) (K : mH) : Option ((Int32 × Int32 × Int32 × mH) ⊕ (Int32 × Int32 × mH)) :=
  (gtA K v0 11 3).bind fun x5 =>
  (rdI O K x5 (nI 0)).bind fun x6 =>
  if ((nI 1) <<< (x6 &&& 31)) ≤ s4 then
    some (.inr (s2, s3, K))
  else
    (lupF (fun (q : Int32 × Int32 × mH) => F_X11_packed_l50 O d v0 v1 s2 s3 s4 q.1 q.2.1 q.2.2) FU ((nI 0), (nI 0), K)).bind fun r16 =>
    (gtA r16.2 v0 11 43).bind fun x17 =>
    (rdI O r16.2 x17 r16.1).bind fun x18 =>
    if x18 = (-1) then
      F_X11_packed_j125 O d v0 v1 s2 s3 s4 r16.2
    else
      (toI (ev O d MX11_ones [.int s4] r16.2)).bind fun p25 =>
      if (if s2 ≤ p25.1 then (nI 0) else (nI 1)) = 0 then
        some (.inl (s2, (if (if s2 ≤ p25.1 then (nI 0) else (nI 1)) = 0 then s3 else s4), (s4 + nI 1), p25.2))
      else
        (toI (ev O d MX11_ones [.int s4] p25.2)).bind fun p30 =>
        some (.inl (p30.1, (if (if s2 ≤ p25.1 then (nI 0) else (nI 1)) = 0 then s3 else s4), (s4 + nI 1), p30.2))
theorem e_X11_packed_l31 {O : mO} {d : Nat} {v0 : Nat} {v1 : Int32} {P : Option Value → mH → Prop} {x : Int32 × Int32 × mH} (hex : ∀ q : Int32 × Int32 × mH, x = q → Go O (d + 1) MX11_packed 161 [none, some (.int v1), some (.int q.1), some (.int q.2.1), none, none, none] [] q.2.2 P) : ∀ (f : Nat) (q : Int32 × Int32 × Int32 × mH), lupF (fun (q : Int32 × Int32 × Int32 × mH) => F_X11_packed_l31 O d v0 v1 q.1 q.2.1 q.2.2.1 q.2.2.2) f q = some x → Go O (d + 1) MX11_packed 31 [some (.ref v0), some (.int v1), some (.int q.1), some (.int q.2.1), some (.int q.2.2.1), none, none] [] q.2.2.2 P := by
  intro f
  induction f with
  | zero =>
    intro q h
    cases h
  | succ f ih =>
    intro q h
    obtain ⟨y, h, hy1, hy2⟩ := lupF_s h
    have hin : ∀ q : Int32 × Int32 × Int32 × mH, y = .inl q → Go O (d + 1) MX11_packed 31 [some (.ref v0), some (.int v1), some (.int q.1), some (.int q.2.1), some (.int q.2.2.1), none, none] [] q.2.2.2 P := fun q e => ih q (hy1 q e)
    replace hex : ∀ q : Int32 × Int32 × mH, y = .inr q → Go O (d + 1) MX11_packed 161 [none, some (.int v1), some (.int q.1), some (.int q.2.1), none, none, none] [] q.2.2 P := fun q e => hex q (hy2 q e).symm
    clear ih hy1 hy2
    obtain ⟨s2, s3, s4, K⟩ := q
    dsimp only at h ⊢
    unfold F_X11_packed_l31 at h
    refine g_iload dX11_packed_31 rfl ?_
    refine g_iconst (v := (nI 1)) dX11_packed_33 (by decide) ?_
    refine g_aload_n dX11_packed_34 rfl ?_
    obtain ⟨x5, ex5, h⟩ := bs h
    refine q_getA dX11_packed_35 fX11_13 ex5 ?_
    refine g_iconst (v := (nI 0)) dX11_packed_38 (by decide) ?_
    obtain ⟨x6, ex6, h⟩ := bs h
    refine q_iald dX11_packed_39 ex6 ?_
    refine g_ishl dX11_packed_40 ?_
    refine g_ic_ge (t := 161) dX11_packed_41 (by decide) (fun c7 => ?_) (fun c7 => ?_)
    · rw [if_pos c7] at h
      refine Go_le ?_ (hex (s2, s3, K) (Option.some.inj h).symm)
      exact And.intro rfl (And.intro rfl (And.intro rfl (trivial)))
    · rw [if_neg c7] at h
      refine g_iconst (v := (nI 0)) dX11_packed_44 (by decide) ?_
      refine g_istore (ls' := [some (.ref v0), some (.int v1), some (.int s2), some (.int s3), some (.int s4), some (.int (nI 0)), none]) dX11_packed_45 (by decide) rfl ?_
      refine g_iconst (v := (nI 0)) dX11_packed_47 (by decide) ?_
      refine g_istore (ls' := [some (.ref v0), some (.int v1), some (.int s2), some (.int s3), some (.int s4), some (.int (nI 0)), some (.int (nI 0))]) dX11_packed_48 (by decide) rfl ?_
      obtain ⟨r16, er16, h⟩ := bs h
      have hx : Go O (d + 1) MX11_packed 101 [some (.ref v0), some (.int v1), some (.int s2), some (.int s3), some (.int s4), some (.int r16.1), none] [] r16.2 P := by
        refine g_aload_n dX11_packed_101 rfl ?_
        obtain ⟨x17, ex17, h⟩ := bs h
        refine q_getA dX11_packed_102 fX11_114 ex17 ?_
        refine g_iload dX11_packed_105 rfl ?_
        obtain ⟨x18, ex18, h⟩ := bs h
        refine q_iald dX11_packed_107 ex18 ?_
        refine g_iconst (v := (-1)) dX11_packed_108 (by decide) ?_
        refine g_ic_eq (t := 125) dX11_packed_109 (by decide) (fun c20 => ?_) (fun c20 => ?_)
        · rw [if_pos c20] at h
          refine Go_le ?_ (e_X11_packed_j125 hin hex h)
          exact And.intro rfl (And.intro rfl (And.intro rfl (And.intro rfl (And.intro rfl (trivial)))))
        · rw [if_neg c20] at h
          refine g_iload dX11_packed_112 rfl ?_
          obtain ⟨p25, ep25, h⟩ := bs h
          refine q_stat (Z := MX11_ones) (toI_s ep25) dX11_packed_114 mX11_179.1 mX11_179.2 (Nat.le_of_ble_eq_true rfl) rfl rfl (Nat.le_of_ble_eq_true rfl) (Nat.le_of_ble_eq_true rfl) ?_
          show Go O (d + 1) MX11_packed 117 [some (.ref v0), some (.int v1), some (.int s2), some (.int s3), some (.int s4), some (.int r16.1), none] [.int p25.1] p25.2 P
          refine g_iload_n dX11_packed_117 rfl ?_
          have hj : Go O (d + 1) MX11_packed 126 [some (.ref v0), some (.int v1), some (.int s2), some (.int s3), some (.int s4), none, none] [.int (if s2 ≤ p25.1 then (nI 0) else (nI 1))] p25.2 P := by
            refine g_istore (ls' := [some (.ref v0), some (.int v1), some (.int s2), some (.int s3), some (.int s4), none, some (.int (if s2 ≤ p25.1 then (nI 0) else (nI 1)))]) dX11_packed_126 (by decide) rfl ?_
            refine g_iload dX11_packed_128 rfl ?_
            have hj : Go O (d + 1) MX11_packed 139 [some (.ref v0), some (.int v1), some (.int s2), none, some (.int s4), none, some (.int (if s2 ≤ p25.1 then (nI 0) else (nI 1)))] [.int (if (if s2 ≤ p25.1 then (nI 0) else (nI 1)) = 0 then s3 else s4)] p25.2 P := by
              refine g_istore_n (ls' := [some (.ref v0), some (.int v1), some (.int s2), some (.int (if (if s2 ≤ p25.1 then (nI 0) else (nI 1)) = 0 then s3 else s4)), some (.int s4), none, some (.int (if s2 ≤ p25.1 then (nI 0) else (nI 1)))]) dX11_packed_139 (by decide) rfl ?_
              refine g_iload dX11_packed_140 rfl ?_
              refine g_if_eq (t := 153) dX11_packed_142 (by decide) (fun c29 => ?_) (fun c29 => ?_)
              · rw [if_pos c29] at h
                refine g_iload_n dX11_packed_153 rfl ?_
                refine g_istore_n (ls' := [some (.ref v0), some (.int v1), some (.int s2), some (.int (if (if s2 ≤ p25.1 then (nI 0) else (nI 1)) = 0 then s3 else s4)), some (.int s4), none, some (.int (if s2 ≤ p25.1 then (nI 0) else (nI 1)))]) dX11_packed_154 (by decide) rfl ?_
                refine q_iinc (w := nI 1) (ls' := [some (.ref v0), some (.int v1), some (.int s2), some (.int (if (if s2 ≤ p25.1 then (nI 0) else (nI 1)) = 0 then s3 else s4)), some (.int (s4 + nI 1)), none, some (.int (if s2 ≤ p25.1 then (nI 0) else (nI 1)))]) dX11_packed_155 (by decide) rfl (by decide) rfl ?_
                refine g_goto (t := 31) dX11_packed_158 (by decide) ?_
                refine Go_le ?_ (hin (s2, (if (if s2 ≤ p25.1 then (nI 0) else (nI 1)) = 0 then s3 else s4), (s4 + nI 1), p25.2) (Option.some.inj h).symm)
                exact And.intro rfl (And.intro rfl (And.intro rfl (And.intro rfl (And.intro rfl (trivial)))))
              · rw [if_neg c29] at h
                refine g_iload dX11_packed_145 rfl ?_
                obtain ⟨p30, ep30, h⟩ := bs h
                refine q_stat (Z := MX11_ones) (toI_s ep30) dX11_packed_147 mX11_179.1 mX11_179.2 (Nat.le_of_ble_eq_true rfl) rfl rfl (Nat.le_of_ble_eq_true rfl) (Nat.le_of_ble_eq_true rfl) ?_
                show Go O (d + 1) MX11_packed 150 [some (.ref v0), some (.int v1), some (.int s2), some (.int (if (if s2 ≤ p25.1 then (nI 0) else (nI 1)) = 0 then s3 else s4)), some (.int s4), none, some (.int (if s2 ≤ p25.1 then (nI 0) else (nI 1)))] [.int p30.1] p30.2 P
                refine g_goto (t := 154) dX11_packed_150 (by decide) ?_
                refine g_istore_n (ls' := [some (.ref v0), some (.int v1), some (.int p30.1), some (.int (if (if s2 ≤ p25.1 then (nI 0) else (nI 1)) = 0 then s3 else s4)), some (.int s4), none, some (.int (if s2 ≤ p25.1 then (nI 0) else (nI 1)))]) dX11_packed_154 (by decide) rfl ?_
                refine q_iinc (w := nI 1) (ls' := [some (.ref v0), some (.int v1), some (.int p30.1), some (.int (if (if s2 ≤ p25.1 then (nI 0) else (nI 1)) = 0 then s3 else s4)), some (.int (s4 + nI 1)), none, some (.int (if s2 ≤ p25.1 then (nI 0) else (nI 1)))]) dX11_packed_155 (by decide) rfl (by decide) rfl ?_
                refine g_goto (t := 31) dX11_packed_158 (by decide) ?_
                refine Go_le ?_ (hin (p30.1, (if (if s2 ≤ p25.1 then (nI 0) else (nI 1)) = 0 then s3 else s4), (s4 + nI 1), p30.2) (Option.some.inj h).symm)
                exact And.intro rfl (And.intro rfl (And.intro rfl (And.intro rfl (And.intro rfl (trivial)))))
            refine g_if_eq (t := 138) dX11_packed_130 (by decide) (fun c27 => ?_) (fun c27 => ?_)
            · skip
              refine g_iload_n dX11_packed_138 rfl ?_
              have hk : Go O (d + 1) MX11_packed 139 [some (.ref v0), some (.int v1), some (.int s2), none, some (.int s4), none, some (.int (if s2 ≤ p25.1 then (nI 0) else (nI 1)))] [.int s3] p25.2 P := by simpa only [if_pos c27] using hj
              refine Go_le ?_ hk
              exact And.intro rfl (And.intro rfl (And.intro rfl (And.intro rfl (And.intro rfl (trivial)))))
            · skip
              refine g_iload dX11_packed_133 rfl ?_
              refine g_goto (t := 139) dX11_packed_135 (by decide) ?_
              have hk : Go O (d + 1) MX11_packed 139 [some (.ref v0), some (.int v1), some (.int s2), none, some (.int s4), none, some (.int (if s2 ≤ p25.1 then (nI 0) else (nI 1)))] [.int s4] p25.2 P := by simpa only [if_neg c27] using hj
              refine Go_le ?_ hk
              exact And.intro rfl (And.intro rfl (And.intro rfl (And.intro rfl (And.intro rfl (trivial)))))
          refine g_ic_ge (t := 125) dX11_packed_118 (by decide) (fun c26 => ?_) (fun c26 => ?_)
          · skip
            refine g_iconst (v := (nI 0)) dX11_packed_125 (by decide) ?_
            have hk : Go O (d + 1) MX11_packed 126 [some (.ref v0), some (.int v1), some (.int s2), some (.int s3), some (.int s4), none, none] [.int (nI 0)] p25.2 P := by simpa only [if_pos c26] using hj
            refine Go_le ?_ hk
            exact And.intro rfl (And.intro rfl (And.intro rfl (And.intro rfl (And.intro rfl (trivial)))))
          · skip
            refine g_iconst (v := (nI 1)) dX11_packed_121 (by decide) ?_
            refine g_goto (t := 126) dX11_packed_122 (by decide) ?_
            have hk : Go O (d + 1) MX11_packed 126 [some (.ref v0), some (.int v1), some (.int s2), some (.int s3), some (.int s4), none, none] [.int (nI 1)] p25.2 P := by simpa only [if_neg c26] using hj
            refine Go_le ?_ hk
            exact And.intro rfl (And.intro rfl (And.intro rfl (And.intro rfl (And.intro rfl (trivial)))))
      refine Go_le ?_ (e_X11_packed_l50 (fun q e => by cases e; exact hx) FU ((nI 0), (nI 0), K) er16)
      exact And.intro rfl (And.intro rfl (And.intro rfl (And.intro rfl (And.intro rfl (And.intro rfl (And.intro rfl (trivial)))))))
noncomputable def F_X11_packed (O : mO) (d : Nat) (a0 : Nat) (a1 : Int32) (K : mH) : Option (Int32 × mH) :=
  (ptI K a0 11 0 (nI 0)).bind fun K1 =>
  (toI (ev O d MX11_in [.long a1.toInt64, .long 0, .long 1] K1)).bind fun p2 =>
  if p2.1 = 0 then
    some ((-1), p2.2)
  else
    (toV (vc O d 11 MX11_layBest a0 [.int (nI 1)] p2.2)).bind fun K4 =>
    (lupF (fun (q : Int32 × Int32 × Int32 × mH) => F_X11_packed_l31 O d a0 a1 q.1 q.2.1 q.2.2.1 q.2.2.2) FU ((100000000), (-1), (nI 0), K4)).bind fun r31 =>
    some ((if r31.2.1 = (-1) then r31.2.1 else (if a1 = (nI 1) then r31.2.1 else r31.1)), r31.2.2)
theorem e_X11_packed {O : mO} {d : Nat} {a0 : Nat} {a1 : Int32} {K : mH} {r0 : Int32} {K0 : mH} (h : F_X11_packed O d a0 a1 K = some (r0, K0)) : ev O (d + 1) MX11_packed [.ref a0, .int a1] K = some (some (.int r0), K0) := by
  refine Rn_evx ?_
  show Go O (d + 1) MX11_packed 0 [some (.ref a0), some (.int a1), none, none, none, none, none] [] K _
  generalize hP : (fun (r : Option Value) (K' : mH) => (r, K') = (some (.int r0), K0)) = P
  have hret : ∀ (r : Int32) (K' : mH), (r, K') = (r0, K0) → P (some (.int r)) K' := by
    intro r K' e
    cases e
    subst hP
    rfl
  clear hP
  unfold F_X11_packed at h
  refine g_aload_n dX11_packed_0 rfl ?_
  refine g_iconst (v := (nI 0)) dX11_packed_1 (by decide) ?_
  obtain ⟨K1, eK1, h⟩ := bs h
  refine q_put (c := (RX11, TX11, 56)) dX11_packed_2 fX11_149 rfl rfl rfl (fun h => absurd h (by decide)) eK1 ?_
  refine g_iload_n dX11_packed_5 rfl ?_
  refine g_i2l dX11_packed_6 ?_
  refine g_lconst (v := 0) dX11_packed_7 (by decide) ?_
  refine g_lconst (v := 1) dX11_packed_8 (by decide) ?_
  obtain ⟨p2, ep2, h⟩ := bs h
  refine q_stat (Z := MX11_in) (toI_s ep2) dX11_packed_9 mX11_169.1 mX11_169.2 (Nat.le_of_ble_eq_true rfl) rfl rfl (Nat.le_of_ble_eq_true rfl) (Nat.le_of_ble_eq_true rfl) ?_
  show Go O (d + 1) MX11_packed 12 [some (.ref a0), some (.int a1), none, none, none, none, none] [.int p2.1] p2.2 P
  refine g_if_ne (t := 17) dX11_packed_12 (by decide) (fun c3 => ?_) (fun c3 => ?_)
  · rw [if_neg c3] at h
    refine g_aload_n dX11_packed_17 rfl ?_
    refine g_iconst (v := (nI 1)) dX11_packed_18 (by decide) ?_
    obtain ⟨K4, eK4, h⟩ := bs h
    refine q_virt (Z := MX11_layBest) (c := (RX11, TX11, 56)) (toV_s eK4) dX11_packed_19 mX11_495.1 mX11_495.2 (Nat.le_of_ble_eq_true rfl) rfl rfl (Nat.le_of_ble_eq_true rfl) (Nat.le_of_ble_eq_true rfl) rfl rfl ?_
    show Go O (d + 1) MX11_packed 22 [some (.ref a0), some (.int a1), none, none, none, none, none] [] K4 P
    refine g_ldcwI (v := 100000000) dX11_packed_22 iX11_470 ?_
    refine g_istore_n (ls' := [some (.ref a0), some (.int a1), some (.int (100000000)), none, none, none, none]) dX11_packed_25 (by decide) rfl ?_
    refine g_iconst (v := (-1)) dX11_packed_26 (by decide) ?_
    refine g_istore_n (ls' := [some (.ref a0), some (.int a1), some (.int (100000000)), some (.int (-1)), none, none, none]) dX11_packed_27 (by decide) rfl ?_
    refine g_iconst (v := (nI 0)) dX11_packed_28 (by decide) ?_
    refine g_istore (ls' := [some (.ref a0), some (.int a1), some (.int (100000000)), some (.int (-1)), some (.int (nI 0)), none, none]) dX11_packed_29 (by decide) rfl ?_
    obtain ⟨r31, er31, h⟩ := bs h
    have hx : Go O (d + 1) MX11_packed 161 [none, some (.int a1), some (.int r31.1), some (.int r31.2.1), none, none, none] [] r31.2.2 P := by
      refine g_iload_n dX11_packed_161 rfl ?_
      refine g_iconst (v := (-1)) dX11_packed_162 (by decide) ?_
      have hj : Go O (d + 1) MX11_packed 176 [none, none, none, none, none, none, none] [.int (if r31.2.1 = (-1) then r31.2.1 else (if a1 = (nI 1) then r31.2.1 else r31.1))] r31.2.2 P := by
        exact g_ireturn dX11_packed_176 rfl (by first | rfl | decide) (hret _ _ (Option.some.inj h))
      refine g_ic_eq (t := 171) dX11_packed_163 (by decide) (fun c32 => ?_) (fun c32 => ?_)
      · skip
        refine g_iload_n dX11_packed_171 rfl ?_
        refine g_goto (t := 176) dX11_packed_172 (by decide) ?_
        have hk : Go O (d + 1) MX11_packed 176 [none, none, none, none, none, none, none] [.int r31.2.1] r31.2.2 P := by simpa only [if_pos c32] using hj
        refine Go_le ?_ hk
        exact trivial
      · skip
        refine g_iload_n dX11_packed_166 rfl ?_
        refine g_iconst (v := (nI 1)) dX11_packed_167 (by decide) ?_
        refine g_ic_ne (t := 175) dX11_packed_168 (by decide) (fun c33 => ?_) (fun c33 => ?_)
        · skip
          refine g_iload_n dX11_packed_175 rfl ?_
          have hk : Go O (d + 1) MX11_packed 176 [none, none, none, none, none, none, none] [.int r31.1] r31.2.2 P := by simpa only [if_neg c32, if_neg c33] using hj
          refine Go_le ?_ hk
          exact trivial
        · skip
          refine g_iload_n dX11_packed_171 rfl ?_
          refine g_goto (t := 176) dX11_packed_172 (by decide) ?_
          have hk : Go O (d + 1) MX11_packed 176 [none, none, none, none, none, none, none] [.int r31.2.1] r31.2.2 P := by simpa only [if_neg c32, if_pos c33] using hj
          refine Go_le ?_ hk
          exact trivial
    refine Go_le ?_ (e_X11_packed_l31 (fun q e => by cases e; exact hx) FU ((100000000), (-1), (nI 0), K4) er31)
    exact And.intro rfl (And.intro rfl (And.intro rfl (And.intro rfl (And.intro rfl (trivial)))))
  · rw [if_pos c3] at h
    refine g_iconst (v := (-1)) dX11_packed_15 (by decide) ?_
    exact g_ireturn dX11_packed_16 rfl (by first | rfl | decide) (hret _ _ (Option.some.inj h))
noncomputable def F_X11_wouldRather (O : mO) (d : Nat) (a0 : Nat) (a1 : Int32) (a2 : Int32) (K : mH) : Option (Int32 × mH) :=
  (gtA K a0 11 3).bind fun x1 =>
  (gtA K a0 11 3).bind fun x2 =>
  (rdI O K x2 ((nI 9) + a1)).bind fun x3 =>
  (rdI O K x1 (((nI 50) + ((nI 5) * a1)) + x3)).bind fun x4 =>
  (gtA K a0 11 3).bind fun x5 =>
  (gtA K a0 11 3).bind fun x6 =>
  (rdI O K x6 ((nI 9) + a2)).bind fun x7 =>
  (rdI O K x5 (((nI 50) + ((nI 5) * a1)) + x7)).bind fun x8 =>
  if x8 ≤ x4 then
    some ((nI 0), K)
  else
    (gtA K a0 11 3).bind fun x11 =>
    (rdI O K x11 ((nI 9) + a2)).bind fun x12 =>
    (toI (vc O d 11 MX11_isBarred a0 [.int a1, .int x12] K)).bind fun p13 =>
    (zz (if p13.1 = 0 then (nI 1) else (nI 0))).bind fun z15 =>
    some (z15, p13.2)
theorem e_X11_wouldRather {O : mO} {d : Nat} {a0 : Nat} {a1 : Int32} {a2 : Int32} {K : mH} {r0 : Int32} {K0 : mH} (h : F_X11_wouldRather O d a0 a1 a2 K = some (r0, K0)) : ev O (d + 1) MX11_wouldRather [.ref a0, .int a1, .int a2] K = some (some (.int r0), K0) := by
  refine Rn_evx ?_
  show Go O (d + 1) MX11_wouldRather 0 [some (.ref a0), some (.int a1), some (.int a2), none] [] K _
  generalize hP : (fun (r : Option Value) (K' : mH) => (r, K') = (some (.int r0), K0)) = P
  have hret : ∀ (r : Int32) (K' : mH), (r, K') = (r0, K0) → P (some (.int r)) K' := by
    intro r K' e
    cases e
    subst hP
    rfl
  clear hP
  unfold F_X11_wouldRather at h
  refine g_aload_n dX11_wouldRather_0 rfl ?_
  obtain ⟨x1, ex1, h⟩ := bs h
  refine q_getA dX11_wouldRather_1 fX11_13 ex1 ?_
  refine g_bipush (v := (nI 50)) dX11_wouldRather_4 (by decide) ?_
  refine g_iconst (v := (nI 5)) dX11_wouldRather_6 (by decide) ?_
  refine g_iload_n dX11_wouldRather_7 rfl ?_
  refine g_imul dX11_wouldRather_8 ?_
  refine g_iadd dX11_wouldRather_9 ?_
  refine g_aload_n dX11_wouldRather_10 rfl ?_
  obtain ⟨x2, ex2, h⟩ := bs h
  refine q_getA dX11_wouldRather_11 fX11_13 ex2 ?_
  refine g_bipush (v := (nI 9)) dX11_wouldRather_14 (by decide) ?_
  refine g_iload_n dX11_wouldRather_16 rfl ?_
  refine g_iadd dX11_wouldRather_17 ?_
  obtain ⟨x3, ex3, h⟩ := bs h
  refine q_iald dX11_wouldRather_18 ex3 ?_
  refine g_iadd dX11_wouldRather_19 ?_
  obtain ⟨x4, ex4, h⟩ := bs h
  refine q_iald dX11_wouldRather_20 ex4 ?_
  refine g_istore_n (ls' := [some (.ref a0), some (.int a1), some (.int a2), some (.int x4)]) dX11_wouldRather_21 (by decide) rfl ?_
  refine g_aload_n dX11_wouldRather_22 rfl ?_
  obtain ⟨x5, ex5, h⟩ := bs h
  refine q_getA dX11_wouldRather_23 fX11_13 ex5 ?_
  refine g_bipush (v := (nI 50)) dX11_wouldRather_26 (by decide) ?_
  refine g_iconst (v := (nI 5)) dX11_wouldRather_28 (by decide) ?_
  refine g_iload_n dX11_wouldRather_29 rfl ?_
  refine g_imul dX11_wouldRather_30 ?_
  refine g_iadd dX11_wouldRather_31 ?_
  refine g_aload_n dX11_wouldRather_32 rfl ?_
  obtain ⟨x6, ex6, h⟩ := bs h
  refine q_getA dX11_wouldRather_33 fX11_13 ex6 ?_
  refine g_bipush (v := (nI 9)) dX11_wouldRather_36 (by decide) ?_
  refine g_iload_n dX11_wouldRather_38 rfl ?_
  refine g_iadd dX11_wouldRather_39 ?_
  obtain ⟨x7, ex7, h⟩ := bs h
  refine q_iald dX11_wouldRather_40 ex7 ?_
  refine g_iadd dX11_wouldRather_41 ?_
  obtain ⟨x8, ex8, h⟩ := bs h
  refine q_iald dX11_wouldRather_42 ex8 ?_
  refine g_iload_n dX11_wouldRather_43 rfl ?_
  refine g_ic_le (t := 68) dX11_wouldRather_44 (by decide) (fun c10 => ?_) (fun c10 => ?_)
  · rw [if_pos c10] at h
    refine g_iconst (v := (nI 0)) dX11_wouldRather_68 (by decide) ?_
    exact g_ireturn dX11_wouldRather_69 rfl (by first | rfl | decide) (hret _ _ (Option.some.inj h))
  · rw [if_neg c10] at h
    refine g_aload_n dX11_wouldRather_47 rfl ?_
    refine g_iload_n dX11_wouldRather_48 rfl ?_
    refine g_aload_n dX11_wouldRather_49 rfl ?_
    obtain ⟨x11, ex11, h⟩ := bs h
    refine q_getA dX11_wouldRather_50 fX11_13 ex11 ?_
    refine g_bipush (v := (nI 9)) dX11_wouldRather_53 (by decide) ?_
    refine g_iload_n dX11_wouldRather_55 rfl ?_
    refine g_iadd dX11_wouldRather_56 ?_
    obtain ⟨x12, ex12, h⟩ := bs h
    refine q_iald dX11_wouldRather_57 ex12 ?_
    obtain ⟨p13, ep13, h⟩ := bs h
    refine q_virt (Z := MX11_isBarred) (c := (RX11, TX11, 56)) (toI_s ep13) dX11_wouldRather_58 mX11_220.1 mX11_220.2 (Nat.le_of_ble_eq_true rfl) rfl rfl (Nat.le_of_ble_eq_true rfl) (Nat.le_of_ble_eq_true rfl) rfl rfl ?_
    show Go O (d + 1) MX11_wouldRather 61 [some (.ref a0), some (.int a1), some (.int a2), some (.int x4)] [.int p13.1] p13.2 P
    have hj : Go O (d + 1) MX11_wouldRather 69 [none, none, none, none] [.int (if p13.1 = 0 then (nI 1) else (nI 0))] p13.2 P := by
      obtain ⟨z15, ez15, h⟩ := bs h
      exact q_zret dX11_wouldRather_69 rfl ez15 (hret _ _ (Option.some.inj h))
    refine g_if_ne (t := 68) dX11_wouldRather_61 (by decide) (fun c14 => ?_) (fun c14 => ?_)
    · skip
      refine g_iconst (v := (nI 0)) dX11_wouldRather_68 (by decide) ?_
      have hk : Go O (d + 1) MX11_wouldRather 69 [none, none, none, none] [.int (nI 0)] p13.2 P := by simpa only [if_neg c14] using hj
      refine Go_le ?_ hk
      exact trivial
    · skip
      refine g_iconst (v := (nI 1)) dX11_wouldRather_64 (by decide) ?_
      refine g_goto (t := 69) dX11_wouldRather_65 (by decide) ?_
      have hk : Go O (d + 1) MX11_wouldRather 69 [none, none, none, none] [.int (nI 1)] p13.2 P := by simpa only [if_pos c14] using hj
      refine Go_le ?_ hk
      exact trivial
noncomputable def F_X11_changes_l29 (O : mO) (d : Nat) (v0 : Nat) (v1 : Int32) (v4 : Int32) (s2 : Int32) (s3 : Int32) (s5 : Int32) (K : mH) : Option ((Int32 × Int32 × Int32 × mH) ⊕ (Int32 × Int32 × mH)) :=
  (gtA K v0 11 3).bind fun x5 =>
  (rdI O K x5 (nI 2)).bind fun x6 =>
  if x6 ≤ s5 then
    some (.inr (s2, s3, K))
  else
    (toI (vc O d 11 MX11_isIn v0 [.int v4] K)).bind fun p8 =>
    if p8.1 = 0 then
      some (.inl (s2, s3, (s5 + nI 1), p8.2))
    else
      (toI (vc O d 11 MX11_isIn v0 [.int s5] p8.2)).bind fun p11 =>
      if p11.1 = 0 then
        some (.inl (s2, s3, (s5 + nI 1), p11.2))
      else
        (gtA p11.2 v0 11 3).bind fun x14 =>
        (rdI O p11.2 x14 ((nI 9) + v4)).bind fun x15 =>
        (gtA p11.2 v0 11 3).bind fun x16 =>
        (rdI O p11.2 x16 ((nI 9) + s5)).bind fun x17 =>
        if x15 = x17 then
          some (.inl (s2, s3, (s5 + nI 1), p11.2))
        else
          (toI (vc O d 11 MX11_wouldRather v0 [.int v4, .int s5] p11.2)).bind fun p20 =>
          if p20.1 = 0 then
            some (.inl (s2, s3, (s5 + nI 1), p20.2))
          else
            (toI (vc O d 11 MX11_wouldRather v0 [.int s5, .int v4] p20.2)).bind fun p23 =>
            some (.inl ((if p23.1 = 0 then s2 else (s2 + nI 1)), (if p23.1 = 0 then s3 else (if s2 = v1 then (((nI 10) * v4) + s5) else s3)), (s5 + nI 1), p23.2))
theorem e_X11_changes_l29 {O : mO} {d : Nat} {v0 : Nat} {v1 : Int32} {v4 : Int32} {P : Option Value → mH → Prop} {x : Int32 × Int32 × mH} (hex : ∀ q : Int32 × Int32 × mH, x = q → Go O (d + 1) MX11_changes 130 [some (.ref v0), some (.int v1), some (.int q.1), some (.int q.2.1), some (.int v4), none] [] q.2.2 P) : ∀ (f : Nat) (q : Int32 × Int32 × Int32 × mH), lupF (fun (q : Int32 × Int32 × Int32 × mH) => F_X11_changes_l29 O d v0 v1 v4 q.1 q.2.1 q.2.2.1 q.2.2.2) f q = some x → Go O (d + 1) MX11_changes 29 [some (.ref v0), some (.int v1), some (.int q.1), some (.int q.2.1), some (.int v4), some (.int q.2.2.1)] [] q.2.2.2 P := by
  intro f
  induction f with
  | zero =>
    intro q h
    cases h
  | succ f ih =>
    intro q h
    obtain ⟨y, h, hy1, hy2⟩ := lupF_s h
    have hin : ∀ q : Int32 × Int32 × Int32 × mH, y = .inl q → Go O (d + 1) MX11_changes 29 [some (.ref v0), some (.int v1), some (.int q.1), some (.int q.2.1), some (.int v4), some (.int q.2.2.1)] [] q.2.2.2 P := fun q e => ih q (hy1 q e)
    replace hex : ∀ q : Int32 × Int32 × mH, y = .inr q → Go O (d + 1) MX11_changes 130 [some (.ref v0), some (.int v1), some (.int q.1), some (.int q.2.1), some (.int v4), none] [] q.2.2 P := fun q e => hex q (hy2 q e).symm
    clear ih hy1 hy2
    obtain ⟨s2, s3, s5, K⟩ := q
    dsimp only at h ⊢
    unfold F_X11_changes_l29 at h
    refine g_iload dX11_changes_29 rfl ?_
    refine g_aload_n dX11_changes_31 rfl ?_
    obtain ⟨x5, ex5, h⟩ := bs h
    refine q_getA dX11_changes_32 fX11_13 ex5 ?_
    refine g_iconst (v := (nI 2)) dX11_changes_35 (by decide) ?_
    obtain ⟨x6, ex6, h⟩ := bs h
    refine q_iald dX11_changes_36 ex6 ?_
    refine g_ic_ge (t := 130) dX11_changes_37 (by decide) (fun c7 => ?_) (fun c7 => ?_)
    · rw [if_pos c7] at h
      refine Go_le ?_ (hex (s2, s3, K) (Option.some.inj h).symm)
      exact And.intro rfl (And.intro rfl (And.intro rfl (And.intro rfl (And.intro rfl (trivial)))))
    · rw [if_neg c7] at h
      refine g_aload_n dX11_changes_40 rfl ?_
      refine g_iload dX11_changes_41 rfl ?_
      obtain ⟨p8, ep8, h⟩ := bs h
      refine q_virt (Z := MX11_isIn) (c := (RX11, TX11, 56)) (toI_s ep8) dX11_changes_43 mX11_182.1 mX11_182.2 (Nat.le_of_ble_eq_true rfl) rfl rfl (Nat.le_of_ble_eq_true rfl) (Nat.le_of_ble_eq_true rfl) rfl rfl ?_
      show Go O (d + 1) MX11_changes 46 [some (.ref v0), some (.int v1), some (.int s2), some (.int s3), some (.int v4), some (.int s5)] [.int p8.1] p8.2 P
      refine g_if_eq (t := 124) dX11_changes_46 (by decide) (fun c10 => ?_) (fun c10 => ?_)
      · rw [if_pos c10] at h
        refine q_iinc (w := nI 1) (ls' := [some (.ref v0), some (.int v1), some (.int s2), some (.int s3), some (.int v4), some (.int (s5 + nI 1))]) dX11_changes_124 (by decide) rfl (by decide) rfl ?_
        refine g_goto (t := 29) dX11_changes_127 (by decide) ?_
        refine Go_le ?_ (hin (s2, s3, (s5 + nI 1), p8.2) (Option.some.inj h).symm)
        exact And.intro rfl (And.intro rfl (And.intro rfl (And.intro rfl (And.intro rfl (And.intro rfl (trivial))))))
      · rw [if_neg c10] at h
        refine g_aload_n dX11_changes_49 rfl ?_
        refine g_iload dX11_changes_50 rfl ?_
        obtain ⟨p11, ep11, h⟩ := bs h
        refine q_virt (Z := MX11_isIn) (c := (RX11, TX11, 56)) (toI_s ep11) dX11_changes_52 mX11_182.1 mX11_182.2 (Nat.le_of_ble_eq_true rfl) rfl rfl (Nat.le_of_ble_eq_true rfl) (Nat.le_of_ble_eq_true rfl) rfl rfl ?_
        show Go O (d + 1) MX11_changes 55 [some (.ref v0), some (.int v1), some (.int s2), some (.int s3), some (.int v4), some (.int s5)] [.int p11.1] p11.2 P
        refine g_if_eq (t := 124) dX11_changes_55 (by decide) (fun c13 => ?_) (fun c13 => ?_)
        · rw [if_pos c13] at h
          refine q_iinc (w := nI 1) (ls' := [some (.ref v0), some (.int v1), some (.int s2), some (.int s3), some (.int v4), some (.int (s5 + nI 1))]) dX11_changes_124 (by decide) rfl (by decide) rfl ?_
          refine g_goto (t := 29) dX11_changes_127 (by decide) ?_
          refine Go_le ?_ (hin (s2, s3, (s5 + nI 1), p11.2) (Option.some.inj h).symm)
          exact And.intro rfl (And.intro rfl (And.intro rfl (And.intro rfl (And.intro rfl (And.intro rfl (trivial))))))
        · rw [if_neg c13] at h
          refine g_aload_n dX11_changes_58 rfl ?_
          obtain ⟨x14, ex14, h⟩ := bs h
          refine q_getA dX11_changes_59 fX11_13 ex14 ?_
          refine g_bipush (v := (nI 9)) dX11_changes_62 (by decide) ?_
          refine g_iload dX11_changes_64 rfl ?_
          refine g_iadd dX11_changes_66 ?_
          obtain ⟨x15, ex15, h⟩ := bs h
          refine q_iald dX11_changes_67 ex15 ?_
          refine g_aload_n dX11_changes_68 rfl ?_
          obtain ⟨x16, ex16, h⟩ := bs h
          refine q_getA dX11_changes_69 fX11_13 ex16 ?_
          refine g_bipush (v := (nI 9)) dX11_changes_72 (by decide) ?_
          refine g_iload dX11_changes_74 rfl ?_
          refine g_iadd dX11_changes_76 ?_
          obtain ⟨x17, ex17, h⟩ := bs h
          refine q_iald dX11_changes_77 ex17 ?_
          refine g_ic_eq (t := 124) dX11_changes_78 (by decide) (fun c19 => ?_) (fun c19 => ?_)
          · rw [if_pos c19] at h
            refine q_iinc (w := nI 1) (ls' := [some (.ref v0), some (.int v1), some (.int s2), some (.int s3), some (.int v4), some (.int (s5 + nI 1))]) dX11_changes_124 (by decide) rfl (by decide) rfl ?_
            refine g_goto (t := 29) dX11_changes_127 (by decide) ?_
            refine Go_le ?_ (hin (s2, s3, (s5 + nI 1), p11.2) (Option.some.inj h).symm)
            exact And.intro rfl (And.intro rfl (And.intro rfl (And.intro rfl (And.intro rfl (And.intro rfl (trivial))))))
          · rw [if_neg c19] at h
            refine g_aload_n dX11_changes_81 rfl ?_
            refine g_iload dX11_changes_82 rfl ?_
            refine g_iload dX11_changes_84 rfl ?_
            obtain ⟨p20, ep20, h⟩ := bs h
            refine q_virt (Z := MX11_wouldRather) (c := (RX11, TX11, 56)) (toI_s ep20) dX11_changes_86 mX11_498.1 mX11_498.2 (Nat.le_of_ble_eq_true rfl) rfl rfl (Nat.le_of_ble_eq_true rfl) (Nat.le_of_ble_eq_true rfl) rfl rfl ?_
            show Go O (d + 1) MX11_changes 89 [some (.ref v0), some (.int v1), some (.int s2), some (.int s3), some (.int v4), some (.int s5)] [.int p20.1] p20.2 P
            refine g_if_eq (t := 124) dX11_changes_89 (by decide) (fun c22 => ?_) (fun c22 => ?_)
            · rw [if_pos c22] at h
              refine q_iinc (w := nI 1) (ls' := [some (.ref v0), some (.int v1), some (.int s2), some (.int s3), some (.int v4), some (.int (s5 + nI 1))]) dX11_changes_124 (by decide) rfl (by decide) rfl ?_
              refine g_goto (t := 29) dX11_changes_127 (by decide) ?_
              refine Go_le ?_ (hin (s2, s3, (s5 + nI 1), p20.2) (Option.some.inj h).symm)
              exact And.intro rfl (And.intro rfl (And.intro rfl (And.intro rfl (And.intro rfl (And.intro rfl (trivial))))))
            · rw [if_neg c22] at h
              refine g_aload_n dX11_changes_92 rfl ?_
              refine g_iload dX11_changes_93 rfl ?_
              refine g_iload dX11_changes_95 rfl ?_
              obtain ⟨p23, ep23, h⟩ := bs h
              refine q_virt (Z := MX11_wouldRather) (c := (RX11, TX11, 56)) (toI_s ep23) dX11_changes_97 mX11_498.1 mX11_498.2 (Nat.le_of_ble_eq_true rfl) rfl rfl (Nat.le_of_ble_eq_true rfl) (Nat.le_of_ble_eq_true rfl) rfl rfl ?_
              show Go O (d + 1) MX11_changes 100 [some (.ref v0), some (.int v1), some (.int s2), some (.int s3), some (.int v4), some (.int s5)] [.int p23.1] p23.2 P
              have hj : Go O (d + 1) MX11_changes 124 [some (.ref v0), some (.int v1), some (.int (if p23.1 = 0 then s2 else (s2 + nI 1))), some (.int (if p23.1 = 0 then s3 else (if s2 = v1 then (((nI 10) * v4) + s5) else s3))), some (.int v4), some (.int s5)] [] p23.2 P := by
                refine q_iinc (w := nI 1) (ls' := [some (.ref v0), some (.int v1), some (.int (if p23.1 = 0 then s2 else (s2 + nI 1))), some (.int (if p23.1 = 0 then s3 else (if s2 = v1 then (((nI 10) * v4) + s5) else s3))), some (.int v4), some (.int (s5 + nI 1))]) dX11_changes_124 (by decide) rfl (by decide) rfl ?_
                refine g_goto (t := 29) dX11_changes_127 (by decide) ?_
                refine Go_le ?_ (hin ((if p23.1 = 0 then s2 else (s2 + nI 1)), (if p23.1 = 0 then s3 else (if s2 = v1 then (((nI 10) * v4) + s5) else s3)), (s5 + nI 1), p23.2) (Option.some.inj h).symm)
                exact And.intro rfl (And.intro rfl (And.intro rfl (And.intro rfl (And.intro rfl (And.intro rfl (trivial))))))
              refine g_if_eq (t := 124) dX11_changes_100 (by decide) (fun c24 => ?_) (fun c24 => ?_)
              · skip
                have hk : Go O (d + 1) MX11_changes 124 [some (.ref v0), some (.int v1), some (.int s2), some (.int s3), some (.int v4), some (.int s5)] [] p23.2 P := by simpa only [if_pos c24] using hj
                refine Go_le ?_ hk
                exact And.intro rfl (And.intro rfl (And.intro rfl (And.intro rfl (And.intro rfl (And.intro rfl (trivial))))))
              · skip
                refine g_iload_n dX11_changes_103 rfl ?_
                refine g_iload_n dX11_changes_104 rfl ?_
                refine g_ic_ne (t := 119) dX11_changes_105 (by decide) (fun c25 => ?_) (fun c25 => ?_)
                · skip
                  refine g_iload_n dX11_changes_119 rfl ?_
                  refine g_istore_n (ls' := [some (.ref v0), some (.int v1), some (.int s2), some (.int s3), some (.int v4), some (.int s5)]) dX11_changes_120 (by decide) rfl ?_
                  refine q_iinc (w := nI 1) (ls' := [some (.ref v0), some (.int v1), some (.int (s2 + nI 1)), some (.int s3), some (.int v4), some (.int s5)]) dX11_changes_121 (by decide) rfl (by decide) rfl ?_
                  have hk : Go O (d + 1) MX11_changes 124 [some (.ref v0), some (.int v1), some (.int (s2 + nI 1)), some (.int s3), some (.int v4), some (.int s5)] [] p23.2 P := by simpa only [if_neg c24, if_neg c25] using hj
                  refine Go_le ?_ hk
                  exact And.intro rfl (And.intro rfl (And.intro rfl (And.intro rfl (And.intro rfl (And.intro rfl (trivial))))))
                · skip
                  refine g_bipush (v := (nI 10)) dX11_changes_108 (by decide) ?_
                  refine g_iload dX11_changes_110 rfl ?_
                  refine g_imul dX11_changes_112 ?_
                  refine g_iload dX11_changes_113 rfl ?_
                  refine g_iadd dX11_changes_115 ?_
                  refine g_goto (t := 120) dX11_changes_116 (by decide) ?_
                  refine g_istore_n (ls' := [some (.ref v0), some (.int v1), some (.int s2), some (.int (((nI 10) * v4) + s5)), some (.int v4), some (.int s5)]) dX11_changes_120 (by decide) rfl ?_
                  refine q_iinc (w := nI 1) (ls' := [some (.ref v0), some (.int v1), some (.int (s2 + nI 1)), some (.int (((nI 10) * v4) + s5)), some (.int v4), some (.int s5)]) dX11_changes_121 (by decide) rfl (by decide) rfl ?_
                  have hk : Go O (d + 1) MX11_changes 124 [some (.ref v0), some (.int v1), some (.int (s2 + nI 1)), some (.int (((nI 10) * v4) + s5)), some (.int v4), some (.int s5)] [] p23.2 P := by simpa only [if_neg c24, if_pos c25] using hj
                  refine Go_le ?_ hk
                  exact And.intro rfl (And.intro rfl (And.intro rfl (And.intro rfl (And.intro rfl (And.intro rfl (trivial))))))
noncomputable def F_X11_changes_l12 (O : mO) (d : Nat) (v0 : Nat) (v1 : Int32) (s2 : Int32) (s3 : Int32) (s4 : Int32) (K : mH) : Option ((Int32 × Int32 × Int32 × mH) ⊕ (Int32 × Int32 × mH)) :=
  (gtA K v0 11 3).bind fun x2 =>
  (rdI O K x2 (nI 2)).bind fun x3 =>
  if x3 ≤ s4 then
    some (.inr (s2, s3, K))
  else
    (lupF (fun (q : Int32 × Int32 × Int32 × mH) => F_X11_changes_l29 O d v0 v1 s4 q.1 q.2.1 q.2.2.1 q.2.2.2) FU (s2, s3, (s4 + (nI 1)), K)).bind fun r26 =>
    some (.inl (r26.1, r26.2.1, (s4 + nI 1), r26.2.2))
theorem e_X11_changes_l12 {O : mO} {d : Nat} {v0 : Nat} {v1 : Int32} {P : Option Value → mH → Prop} {x : Int32 × Int32 × mH} (hex : ∀ q : Int32 × Int32 × mH, x = q → Go O (d + 1) MX11_changes 136 [none, some (.int v1), some (.int q.1), some (.int q.2.1), none, none] [] q.2.2 P) : ∀ (f : Nat) (q : Int32 × Int32 × Int32 × mH), lupF (fun (q : Int32 × Int32 × Int32 × mH) => F_X11_changes_l12 O d v0 v1 q.1 q.2.1 q.2.2.1 q.2.2.2) f q = some x → Go O (d + 1) MX11_changes 12 [some (.ref v0), some (.int v1), some (.int q.1), some (.int q.2.1), some (.int q.2.2.1), none] [] q.2.2.2 P := by
  intro f
  induction f with
  | zero =>
    intro q h
    cases h
  | succ f ih =>
    intro q h
    obtain ⟨y, h, hy1, hy2⟩ := lupF_s h
    have hin : ∀ q : Int32 × Int32 × Int32 × mH, y = .inl q → Go O (d + 1) MX11_changes 12 [some (.ref v0), some (.int v1), some (.int q.1), some (.int q.2.1), some (.int q.2.2.1), none] [] q.2.2.2 P := fun q e => ih q (hy1 q e)
    replace hex : ∀ q : Int32 × Int32 × mH, y = .inr q → Go O (d + 1) MX11_changes 136 [none, some (.int v1), some (.int q.1), some (.int q.2.1), none, none] [] q.2.2 P := fun q e => hex q (hy2 q e).symm
    clear ih hy1 hy2
    obtain ⟨s2, s3, s4, K⟩ := q
    dsimp only at h ⊢
    unfold F_X11_changes_l12 at h
    refine g_iload dX11_changes_12 rfl ?_
    refine g_aload_n dX11_changes_14 rfl ?_
    obtain ⟨x2, ex2, h⟩ := bs h
    refine q_getA dX11_changes_15 fX11_13 ex2 ?_
    refine g_iconst (v := (nI 2)) dX11_changes_18 (by decide) ?_
    obtain ⟨x3, ex3, h⟩ := bs h
    refine q_iald dX11_changes_19 ex3 ?_
    refine g_ic_ge (t := 136) dX11_changes_20 (by decide) (fun c4 => ?_) (fun c4 => ?_)
    · rw [if_pos c4] at h
      refine Go_le ?_ (hex (s2, s3, K) (Option.some.inj h).symm)
      exact And.intro rfl (And.intro rfl (And.intro rfl (trivial)))
    · rw [if_neg c4] at h
      refine g_iload dX11_changes_23 rfl ?_
      refine g_iconst (v := (nI 1)) dX11_changes_25 (by decide) ?_
      refine g_iadd dX11_changes_26 ?_
      refine g_istore (ls' := [some (.ref v0), some (.int v1), some (.int s2), some (.int s3), some (.int s4), some (.int (s4 + (nI 1)))]) dX11_changes_27 (by decide) rfl ?_
      obtain ⟨r26, er26, h⟩ := bs h
      have hx : Go O (d + 1) MX11_changes 130 [some (.ref v0), some (.int v1), some (.int r26.1), some (.int r26.2.1), some (.int s4), none] [] r26.2.2 P := by
        refine q_iinc (w := nI 1) (ls' := [some (.ref v0), some (.int v1), some (.int r26.1), some (.int r26.2.1), some (.int (s4 + nI 1)), none]) dX11_changes_130 (by decide) rfl (by decide) rfl ?_
        refine g_goto (t := 12) dX11_changes_133 (by decide) ?_
        refine Go_le ?_ (hin (r26.1, r26.2.1, (s4 + nI 1), r26.2.2) (Option.some.inj h).symm)
        exact And.intro rfl (And.intro rfl (And.intro rfl (And.intro rfl (And.intro rfl (trivial)))))
      refine Go_le ?_ (e_X11_changes_l29 (fun q e => by cases e; exact hx) FU (s2, s3, (s4 + (nI 1)), K) er26)
      exact And.intro rfl (And.intro rfl (And.intro rfl (And.intro rfl (And.intro rfl (And.intro rfl (trivial))))))
noncomputable def F_X11_changes (O : mO) (d : Nat) (a0 : Nat) (a1 : Int32) (K : mH) : Option (Int32 × mH) :=
  (ptI K a0 11 0 (nI 0)).bind fun K1 =>
  (lupF (fun (q : Int32 × Int32 × Int32 × mH) => F_X11_changes_l12 O d a0 a1 q.1 q.2.1 q.2.2.1 q.2.2.2) FU ((nI 0), (-1), (nI 0), K1)).bind fun r27 =>
  some ((if a1 = (-1) then r27.1 else r27.2.1), r27.2.2)
theorem e_X11_changes {O : mO} {d : Nat} {a0 : Nat} {a1 : Int32} {K : mH} {r0 : Int32} {K0 : mH} (h : F_X11_changes O d a0 a1 K = some (r0, K0)) : ev O (d + 1) MX11_changes [.ref a0, .int a1] K = some (some (.int r0), K0) := by
  refine Rn_evx ?_
  show Go O (d + 1) MX11_changes 0 [some (.ref a0), some (.int a1), none, none, none, none] [] K _
  generalize hP : (fun (r : Option Value) (K' : mH) => (r, K') = (some (.int r0), K0)) = P
  have hret : ∀ (r : Int32) (K' : mH), (r, K') = (r0, K0) → P (some (.int r)) K' := by
    intro r K' e
    cases e
    subst hP
    rfl
  clear hP
  unfold F_X11_changes at h
  refine g_aload_n dX11_changes_0 rfl ?_
  refine g_iconst (v := (nI 0)) dX11_changes_1 (by decide) ?_
  obtain ⟨K1, eK1, h⟩ := bs h
  refine q_put (c := (RX11, TX11, 56)) dX11_changes_2 fX11_149 rfl rfl rfl (fun h => absurd h (by decide)) eK1 ?_
  refine g_iconst (v := (nI 0)) dX11_changes_5 (by decide) ?_
  refine g_istore_n (ls' := [some (.ref a0), some (.int a1), some (.int (nI 0)), none, none, none]) dX11_changes_6 (by decide) rfl ?_
  refine g_iconst (v := (-1)) dX11_changes_7 (by decide) ?_
  refine g_istore_n (ls' := [some (.ref a0), some (.int a1), some (.int (nI 0)), some (.int (-1)), none, none]) dX11_changes_8 (by decide) rfl ?_
  refine g_iconst (v := (nI 0)) dX11_changes_9 (by decide) ?_
  refine g_istore (ls' := [some (.ref a0), some (.int a1), some (.int (nI 0)), some (.int (-1)), some (.int (nI 0)), none]) dX11_changes_10 (by decide) rfl ?_
  obtain ⟨r27, er27, h⟩ := bs h
  have hx : Go O (d + 1) MX11_changes 136 [none, some (.int a1), some (.int r27.1), some (.int r27.2.1), none, none] [] r27.2.2 P := by
    refine g_iload_n dX11_changes_136 rfl ?_
    refine g_iconst (v := (-1)) dX11_changes_137 (by decide) ?_
    have hj : Go O (d + 1) MX11_changes 146 [none, none, none, none, none, none] [.int (if a1 = (-1) then r27.1 else r27.2.1)] r27.2.2 P := by
      exact g_ireturn dX11_changes_146 rfl (by first | rfl | decide) (hret _ _ (Option.some.inj h))
    refine g_ic_ne (t := 145) dX11_changes_138 (by decide) (fun c28 => ?_) (fun c28 => ?_)
    · skip
      refine g_iload_n dX11_changes_145 rfl ?_
      have hk : Go O (d + 1) MX11_changes 146 [none, none, none, none, none, none] [.int r27.2.1] r27.2.2 P := by simpa only [if_neg c28] using hj
      refine Go_le ?_ hk
      exact trivial
    · skip
      refine g_iload_n dX11_changes_141 rfl ?_
      refine g_goto (t := 146) dX11_changes_142 (by decide) ?_
      have hk : Go O (d + 1) MX11_changes 146 [none, none, none, none, none, none] [.int r27.1] r27.2.2 P := by simpa only [if_pos c28] using hj
      refine Go_le ?_ hk
      exact trivial
  refine Go_le ?_ (e_X11_changes_l12 (fun q e => by cases e; exact hx) FU ((nI 0), (-1), (nI 0), K1) er27)
  exact And.intro rfl (And.intro rfl (And.intro rfl (And.intro rfl (And.intro rfl (trivial)))))
noncomputable def F_X11_few_l35 (O : mO) (d : Nat) (v0 : Nat) (v1 : Int32) (v2 : Int32) (s3 : Int32) (K : mH) : Option ((Int32 × mH) ⊕ (mH)) :=
  if (nI 21) ≤ s3 then
    some (.inr K)
  else
    (gtA K v0 11 45).bind fun x7 =>
    (wrJ K x7 s3 (if s3 = 0 then (1000000000000) else 0)).bind fun K9 =>
    some (.inl ((s3 + nI 1), K9))
theorem e_X11_few_l35 {O : mO} {d : Nat} {v0 : Nat} {v1 : Int32} {v2 : Int32} {P : Option Value → mH → Prop} {x : mH} (hex : ∀ q : mH, x = q → Go O (d + 1) MX11_few 64 [some (.ref v0), some (.int v1), some (.int v2), none, none, none, none, none] [] q P) : ∀ (f : Nat) (q : Int32 × mH), lupF (fun (q : Int32 × mH) => F_X11_few_l35 O d v0 v1 v2 q.1 q.2) f q = some x → Go O (d + 1) MX11_few 35 [some (.ref v0), some (.int v1), some (.int v2), some (.int q.1), none, none, none, none] [] q.2 P := by
  intro f
  induction f with
  | zero =>
    intro q h
    cases h
  | succ f ih =>
    intro q h
    obtain ⟨y, h, hy1, hy2⟩ := lupF_s h
    have hin : ∀ q : Int32 × mH, y = .inl q → Go O (d + 1) MX11_few 35 [some (.ref v0), some (.int v1), some (.int v2), some (.int q.1), none, none, none, none] [] q.2 P := fun q e => ih q (hy1 q e)
    replace hex : ∀ q : mH, y = .inr q → Go O (d + 1) MX11_few 64 [some (.ref v0), some (.int v1), some (.int v2), none, none, none, none, none] [] q P := fun q e => hex q (hy2 q e).symm
    clear ih hy1 hy2
    obtain ⟨s3, K⟩ := q
    dsimp only at h ⊢
    unfold F_X11_few_l35 at h
    refine g_iload_n dX11_few_35 rfl ?_
    refine g_bipush (v := (nI 21)) dX11_few_36 (by decide) ?_
    refine g_ic_ge (t := 64) dX11_few_38 (by decide) (fun c6 => ?_) (fun c6 => ?_)
    · rw [if_pos c6] at h
      refine Go_le ?_ (hex K (Option.some.inj h).symm)
      exact And.intro rfl (And.intro rfl (And.intro rfl (trivial)))
    · rw [if_neg c6] at h
      refine g_aload_n dX11_few_41 rfl ?_
      obtain ⟨x7, ex7, h⟩ := bs h
      refine q_getA dX11_few_42 fX11_120 ex7 ?_
      refine g_iload_n dX11_few_45 rfl ?_
      refine g_iload_n dX11_few_46 rfl ?_
      have hj : Go O (d + 1) MX11_few 57 [some (.ref v0), some (.int v1), some (.int v2), some (.int s3), none, none, none, none] [.long (if s3 = 0 then (1000000000000) else 0), .int s3, .ref x7] K P := by
        obtain ⟨K9, eK9, h⟩ := bs h
        refine q_last dX11_few_57 eK9 ?_
        refine q_iinc (w := nI 1) (ls' := [some (.ref v0), some (.int v1), some (.int v2), some (.int (s3 + nI 1)), none, none, none, none]) dX11_few_58 (by decide) rfl (by decide) rfl ?_
        refine g_goto (t := 35) dX11_few_61 (by decide) ?_
        refine Go_le ?_ (hin ((s3 + nI 1), K9) (Option.some.inj h).symm)
        exact And.intro rfl (And.intro rfl (And.intro rfl (And.intro rfl (trivial))))
      refine g_if_ne (t := 56) dX11_few_47 (by decide) (fun c8 => ?_) (fun c8 => ?_)
      · skip
        refine g_lconst (v := 0) dX11_few_56 (by decide) ?_
        have hk : Go O (d + 1) MX11_few 57 [some (.ref v0), some (.int v1), some (.int v2), some (.int s3), none, none, none, none] [.long 0, .int s3, .ref x7] K P := by simpa only [if_neg c8] using hj
        refine Go_le ?_ hk
        exact And.intro rfl (And.intro rfl (And.intro rfl (And.intro rfl (trivial))))
      · skip
        refine g_ldc2 (v := 1000000000000) dX11_few_50 lX11_501 ?_
        refine g_goto (t := 57) dX11_few_53 (by decide) ?_
        have hk : Go O (d + 1) MX11_few 57 [some (.ref v0), some (.int v1), some (.int v2), some (.int s3), none, none, none, none] [.long (1000000000000), .int s3, .ref x7] K P := by simpa only [if_pos c8] using hj
        refine Go_le ?_ hk
        exact And.intro rfl (And.intro rfl (And.intro rfl (And.intro rfl (trivial))))
noncomputable def F_X11_few_l86 (O : mO) (d : Nat) (v0 : Nat) (v1 : Int32) (v2 : Int32) (v3 : Int32) (v4 : Int32) (s5 : Int32) (K : mH) : Option ((Int32 × mH) ⊕ (mH)) :=
  if s5 < 0 then
    some (.inr K)
  else
    (gtA K v0 11 45).bind fun x15 =>
    (rdJ O K x15 s5).bind fun x16 =>
    (gtA K v0 11 45).bind fun x17 =>
    (wrJ K x17 s5 ((x16 * ((nI 10) - v3).toInt64) / (10))).bind fun K18 =>
    (gtA K18 v0 11 45).bind fun x19 =>
    (rdJ O K18 x19 (s5 + (nI 1))).bind fun x20 =>
    (wrJ K18 x19 (s5 + (nI 1)) (x20 + ((x16 * v3.toInt64) / (10)))).bind fun K21 =>
    some (.inl ((s5 + (-1)), K21))
theorem e_X11_few_l86 {O : mO} {d : Nat} {v0 : Nat} {v1 : Int32} {v2 : Int32} {v3 : Int32} {v4 : Int32} {P : Option Value → mH → Prop} {x : mH} (hex : ∀ q : mH, x = q → Go O (d + 1) MX11_few 146 [some (.ref v0), some (.int v1), some (.int v2), some (.int v3), some (.int v4), none, none, none] [] q P) : ∀ (f : Nat) (q : Int32 × mH), lupF (fun (q : Int32 × mH) => F_X11_few_l86 O d v0 v1 v2 v3 v4 q.1 q.2) f q = some x → Go O (d + 1) MX11_few 86 [some (.ref v0), some (.int v1), some (.int v2), some (.int v3), some (.int v4), some (.int q.1), none, none] [] q.2 P := by
  intro f
  induction f with
  | zero =>
    intro q h
    cases h
  | succ f ih =>
    intro q h
    obtain ⟨y, h, hy1, hy2⟩ := lupF_s h
    have hin : ∀ q : Int32 × mH, y = .inl q → Go O (d + 1) MX11_few 86 [some (.ref v0), some (.int v1), some (.int v2), some (.int v3), some (.int v4), some (.int q.1), none, none] [] q.2 P := fun q e => ih q (hy1 q e)
    replace hex : ∀ q : mH, y = .inr q → Go O (d + 1) MX11_few 146 [some (.ref v0), some (.int v1), some (.int v2), some (.int v3), some (.int v4), none, none, none] [] q P := fun q e => hex q (hy2 q e).symm
    clear ih hy1 hy2
    obtain ⟨s5, K⟩ := q
    dsimp only at h ⊢
    unfold F_X11_few_l86 at h
    refine g_iload dX11_few_86 rfl ?_
    refine g_if_lt (t := 146) dX11_few_88 (by decide) (fun c14 => ?_) (fun c14 => ?_)
    · rw [if_pos c14] at h
      refine Go_le ?_ (hex K (Option.some.inj h).symm)
      exact And.intro rfl (And.intro rfl (And.intro rfl (And.intro rfl (And.intro rfl (trivial)))))
    · rw [if_neg c14] at h
      refine g_aload_n dX11_few_91 rfl ?_
      obtain ⟨x15, ex15, h⟩ := bs h
      refine q_getA dX11_few_92 fX11_120 ex15 ?_
      refine g_iload dX11_few_95 rfl ?_
      obtain ⟨x16, ex16, h⟩ := bs h
      refine q_lald dX11_few_97 ex16 ?_
      refine g_lstore (ls' := [some (.ref v0), some (.int v1), some (.int v2), some (.int v3), some (.int v4), some (.int s5), some (.long x16), none]) dX11_few_98 (by decide) rfl ?_
      refine g_aload_n dX11_few_100 rfl ?_
      obtain ⟨x17, ex17, h⟩ := bs h
      refine q_getA dX11_few_101 fX11_120 ex17 ?_
      refine g_iload dX11_few_104 rfl ?_
      refine g_lload dX11_few_106 rfl ?_
      refine g_bipush (v := (nI 10)) dX11_few_108 (by decide) ?_
      refine g_iload_n dX11_few_110 rfl ?_
      refine g_isub dX11_few_111 ?_
      refine g_i2l dX11_few_112 ?_
      refine g_lmul dX11_few_113 ?_
      refine g_ldc2 (v := 10) dX11_few_114 lX11_230 ?_
      refine g_ldiv dX11_few_117 (by decide) ?_
      obtain ⟨K18, eK18, h⟩ := bs h
      refine q_last dX11_few_118 eK18 ?_
      refine g_aload_n dX11_few_119 rfl ?_
      obtain ⟨x19, ex19, h⟩ := bs h
      refine q_getA dX11_few_120 fX11_120 ex19 ?_
      refine g_iload dX11_few_123 rfl ?_
      refine g_iconst (v := (nI 1)) dX11_few_125 (by decide) ?_
      refine g_iadd dX11_few_126 ?_
      refine g_dup2 dX11_few_127 rfl rfl ?_
      obtain ⟨x20, ex20, h⟩ := bs h
      refine q_lald dX11_few_128 ex20 ?_
      refine g_lload dX11_few_129 rfl ?_
      refine g_iload_n dX11_few_131 rfl ?_
      refine g_i2l dX11_few_132 ?_
      refine g_lmul dX11_few_133 ?_
      refine g_ldc2 (v := 10) dX11_few_134 lX11_230 ?_
      refine g_ldiv dX11_few_137 (by decide) ?_
      refine g_ladd dX11_few_138 ?_
      obtain ⟨K21, eK21, h⟩ := bs h
      refine q_last dX11_few_139 eK21 ?_
      refine q_iinc (w := (-1)) (ls' := [some (.ref v0), some (.int v1), some (.int v2), some (.int v3), some (.int v4), some (.int (s5 + (-1))), some (.long x16), none]) dX11_few_140 (by decide) rfl (by decide) rfl ?_
      refine g_goto (t := 86) dX11_few_143 (by decide) ?_
      have hh := hin ((s5 + (-1)), K21) (Option.some.inj h).symm; (try dsimp only at hh); refine Go_le ?_ hh
      exact And.intro rfl (And.intro rfl (And.intro rfl (And.intro rfl (And.intro rfl (And.intro rfl (trivial))))))
noncomputable def F_X11_few_l75 (O : mO) (d : Nat) (v0 : Nat) (v1 : Int32) (v2 : Int32) (v3 : Int32) (s4 : Int32) (K : mH) : Option ((Int32 × mH) ⊕ (mH)) :=
  if v2 ≤ s4 then
    some (.inr K)
  else
    (lupF (fun (q : Int32 × mH) => F_X11_few_l86 O d v0 v1 v2 v3 s4 q.1 q.2) FU ((v1 - (nI 1)), K)).bind fun r24 =>
    some (.inl ((s4 + nI 1), r24))
theorem e_X11_few_l75 {O : mO} {d : Nat} {v0 : Nat} {v1 : Int32} {v2 : Int32} {v3 : Int32} {P : Option Value → mH → Prop} {x : mH} (hex : ∀ q : mH, x = q → Go O (d + 1) MX11_few 152 [some (.ref v0), some (.int v1), none, none, none, none, none, none] [] q P) : ∀ (f : Nat) (q : Int32 × mH), lupF (fun (q : Int32 × mH) => F_X11_few_l75 O d v0 v1 v2 v3 q.1 q.2) f q = some x → Go O (d + 1) MX11_few 75 [some (.ref v0), some (.int v1), some (.int v2), some (.int v3), some (.int q.1), none, none, none] [] q.2 P := by
  intro f
  induction f with
  | zero =>
    intro q h
    cases h
  | succ f ih =>
    intro q h
    obtain ⟨y, h, hy1, hy2⟩ := lupF_s h
    have hin : ∀ q : Int32 × mH, y = .inl q → Go O (d + 1) MX11_few 75 [some (.ref v0), some (.int v1), some (.int v2), some (.int v3), some (.int q.1), none, none, none] [] q.2 P := fun q e => ih q (hy1 q e)
    replace hex : ∀ q : mH, y = .inr q → Go O (d + 1) MX11_few 152 [some (.ref v0), some (.int v1), none, none, none, none, none, none] [] q P := fun q e => hex q (hy2 q e).symm
    clear ih hy1 hy2
    obtain ⟨s4, K⟩ := q
    dsimp only at h ⊢
    unfold F_X11_few_l75 at h
    refine g_iload dX11_few_75 rfl ?_
    refine g_iload_n dX11_few_77 rfl ?_
    refine g_ic_ge (t := 152) dX11_few_78 (by decide) (fun c13 => ?_) (fun c13 => ?_)
    · rw [if_pos c13] at h
      refine Go_le ?_ (hex K (Option.some.inj h).symm)
      exact And.intro rfl (And.intro rfl (trivial))
    · rw [if_neg c13] at h
      refine g_iload_n dX11_few_81 rfl ?_
      refine g_iconst (v := (nI 1)) dX11_few_82 (by decide) ?_
      refine g_isub dX11_few_83 ?_
      refine g_istore (ls' := [some (.ref v0), some (.int v1), some (.int v2), some (.int v3), some (.int s4), some (.int (v1 - (nI 1))), none, none]) dX11_few_84 (by decide) rfl ?_
      obtain ⟨r24, er24, h⟩ := bs h
      have hx : Go O (d + 1) MX11_few 146 [some (.ref v0), some (.int v1), some (.int v2), some (.int v3), some (.int s4), none, none, none] [] r24 P := by
        refine q_iinc (w := nI 1) (ls' := [some (.ref v0), some (.int v1), some (.int v2), some (.int v3), some (.int (s4 + nI 1)), none, none, none]) dX11_few_146 (by decide) rfl (by decide) rfl ?_
        refine g_goto (t := 75) dX11_few_149 (by decide) ?_
        refine Go_le ?_ (hin ((s4 + nI 1), r24) (Option.some.inj h).symm)
        exact And.intro rfl (And.intro rfl (And.intro rfl (And.intro rfl (And.intro rfl (trivial)))))
      refine Go_le ?_ (e_X11_few_l86 (fun q e => by cases e; exact hx) FU ((v1 - (nI 1)), K) er24)
      exact And.intro rfl (And.intro rfl (And.intro rfl (And.intro rfl (And.intro rfl (And.intro rfl (trivial))))))
noncomputable def F_X11_few_l158 (O : mO) (d : Nat) (v0 : Nat) (v1 : Int32) (K : mH) (s4 : Int64) (s6 : Int32) : Option ((Int64 × Int32) ⊕ (Int64)) :=
  if v1 ≤ s6 then
    some (.inr s4)
  else
    (gtA K v0 11 45).bind fun x27 =>
    (rdJ O K x27 s6).bind fun x28 =>
    some (.inl ((s4 + x28), (s6 + nI 1)))
theorem e_X11_few_l158 {O : mO} {d : Nat} {v0 : Nat} {v1 : Int32} {K : mH} {P : Option Value → mH → Prop} {x : Int64} (hex : ∀ q : Int64, x = q → Go O (d + 1) MX11_few 182 [none, none, none, none, some (.long q), none, none, none] [] K P) : ∀ (f : Nat) (q : Int64 × Int32), lupF (fun (q : Int64 × Int32) => F_X11_few_l158 O d v0 v1 K q.1 q.2) f q = some x → Go O (d + 1) MX11_few 158 [some (.ref v0), some (.int v1), none, none, some (.long q.1), none, some (.int q.2), none] [] K P := by
  intro f
  induction f with
  | zero =>
    intro q h
    cases h
  | succ f ih =>
    intro q h
    obtain ⟨y, h, hy1, hy2⟩ := lupF_s h
    have hin : ∀ q : Int64 × Int32, y = .inl q → Go O (d + 1) MX11_few 158 [some (.ref v0), some (.int v1), none, none, some (.long q.1), none, some (.int q.2), none] [] K P := fun q e => ih q (hy1 q e)
    replace hex : ∀ q : Int64, y = .inr q → Go O (d + 1) MX11_few 182 [none, none, none, none, some (.long q), none, none, none] [] K P := fun q e => hex q (hy2 q e).symm
    clear ih hy1 hy2
    obtain ⟨s4, s6⟩ := q
    dsimp only at h ⊢
    unfold F_X11_few_l158 at h
    refine g_iload dX11_few_158 rfl ?_
    refine g_iload_n dX11_few_160 rfl ?_
    refine g_ic_ge (t := 182) dX11_few_161 (by decide) (fun c26 => ?_) (fun c26 => ?_)
    · rw [if_pos c26] at h
      refine Go_le ?_ (hex s4 (Option.some.inj h).symm)
      exact And.intro rfl (trivial)
    · rw [if_neg c26] at h
      refine g_lload dX11_few_164 rfl ?_
      refine g_aload_n dX11_few_166 rfl ?_
      obtain ⟨x27, ex27, h⟩ := bs h
      refine q_getA dX11_few_167 fX11_120 ex27 ?_
      refine g_iload dX11_few_170 rfl ?_
      obtain ⟨x28, ex28, h⟩ := bs h
      refine q_lald dX11_few_172 ex28 ?_
      refine g_ladd dX11_few_173 ?_
      refine g_lstore (ls' := [some (.ref v0), some (.int v1), none, none, some (.long (s4 + x28)), none, some (.int s6), none]) dX11_few_174 (by decide) rfl ?_
      refine q_iinc (w := nI 1) (ls' := [some (.ref v0), some (.int v1), none, none, some (.long (s4 + x28)), none, some (.int (s6 + nI 1)), none]) dX11_few_176 (by decide) rfl (by decide) rfl ?_
      refine g_goto (t := 158) dX11_few_179 (by decide) ?_
      refine Go_le ?_ (hin ((s4 + x28), (s6 + nI 1)) (Option.some.inj h).symm)
      exact And.intro rfl (And.intro rfl (And.intro rfl (And.intro rfl (trivial))))
noncomputable def F_X11_few (O : mO) (d : Nat) (a0 : Nat) (a1 : Int32) (a2 : Int32) (K : mH) : Option (Int64 × mH) :=
  (ptI K a0 11 0 (nI 0)).bind fun K1 =>
  (toI (ev O d MX11_in [.long a1.toInt64, .long 1, .long (20)] K1)).bind fun p2 =>
  if p2.1 = 0 then
    some ((-1), p2.2)
  else
    (toI (ev O d MX11_in [.long a2.toInt64, .long 0, .long (99)] p2.2)).bind fun p4 =>
    if p4.1 = 0 then
      some ((-1), p4.2)
    else
      (lupF (fun (q : Int32 × mH) => F_X11_few_l35 O d a0 a1 a2 q.1 q.2) FU ((nI 0), p4.2)).bind fun r10 =>
      (gtA r10 a0 11 3).bind fun x11 =>
      (rdI O r10 x11 (nI 7)).bind fun x12 =>
      (lupF (fun (q : Int32 × mH) => F_X11_few_l75 O d a0 a1 a2 x12 q.1 q.2) FU ((nI 0), r10)).bind fun r25 =>
      (lupF (fun (q : Int64 × Int32) => F_X11_few_l158 O d a0 a1 r25 q.1 q.2) FU (0, (nI 0))).bind fun r29 =>
      some (r29, r25)
theorem e_X11_few {O : mO} {d : Nat} {a0 : Nat} {a1 : Int32} {a2 : Int32} {K : mH} {r0 : Int64} {K0 : mH} (h : F_X11_few O d a0 a1 a2 K = some (r0, K0)) : ev O (d + 1) MX11_few [.ref a0, .int a1, .int a2] K = some (some (.long r0), K0) := by
  refine Rn_evx ?_
  show Go O (d + 1) MX11_few 0 [some (.ref a0), some (.int a1), some (.int a2), none, none, none, none, none] [] K _
  generalize hP : (fun (r : Option Value) (K' : mH) => (r, K') = (some (.long r0), K0)) = P
  have hret : ∀ (r : Int64) (K' : mH), (r, K') = (r0, K0) → P (some (.long r)) K' := by
    intro r K' e
    cases e
    subst hP
    rfl
  clear hP
  unfold F_X11_few at h
  refine g_aload_n dX11_few_0 rfl ?_
  refine g_iconst (v := (nI 0)) dX11_few_1 (by decide) ?_
  obtain ⟨K1, eK1, h⟩ := bs h
  refine q_put (c := (RX11, TX11, 56)) dX11_few_2 fX11_149 rfl rfl rfl (fun h => absurd h (by decide)) eK1 ?_
  refine g_iload_n dX11_few_5 rfl ?_
  refine g_i2l dX11_few_6 ?_
  refine g_lconst (v := 1) dX11_few_7 (by decide) ?_
  refine g_ldc2 (v := 20) dX11_few_8 lX11_294 ?_
  obtain ⟨p2, ep2, h⟩ := bs h
  refine q_stat (Z := MX11_in) (toI_s ep2) dX11_few_11 mX11_169.1 mX11_169.2 (Nat.le_of_ble_eq_true rfl) rfl rfl (Nat.le_of_ble_eq_true rfl) (Nat.le_of_ble_eq_true rfl) ?_
  show Go O (d + 1) MX11_few 14 [some (.ref a0), some (.int a1), some (.int a2), none, none, none, none, none] [.int p2.1] p2.2 P
  refine g_if_eq (t := 29) dX11_few_14 (by decide) (fun c3 => ?_) (fun c3 => ?_)
  · rw [if_pos c3] at h
    refine g_ldc2 (v := -1) dX11_few_29 lX11_271 ?_
    exact g_lreturn dX11_few_32 rfl (hret _ _ (Option.some.inj h))
  · rw [if_neg c3] at h
    refine g_iload_n dX11_few_17 rfl ?_
    refine g_i2l dX11_few_18 ?_
    refine g_lconst (v := 0) dX11_few_19 (by decide) ?_
    refine g_ldc2 (v := 99) dX11_few_20 lX11_208 ?_
    obtain ⟨p4, ep4, h⟩ := bs h
    refine q_stat (Z := MX11_in) (toI_s ep4) dX11_few_23 mX11_169.1 mX11_169.2 (Nat.le_of_ble_eq_true rfl) rfl rfl (Nat.le_of_ble_eq_true rfl) (Nat.le_of_ble_eq_true rfl) ?_
    show Go O (d + 1) MX11_few 26 [some (.ref a0), some (.int a1), some (.int a2), none, none, none, none, none] [.int p4.1] p4.2 P
    refine g_if_ne (t := 33) dX11_few_26 (by decide) (fun c5 => ?_) (fun c5 => ?_)
    · rw [if_neg c5] at h
      refine g_iconst (v := (nI 0)) dX11_few_33 (by decide) ?_
      refine g_istore_n (ls' := [some (.ref a0), some (.int a1), some (.int a2), some (.int (nI 0)), none, none, none, none]) dX11_few_34 (by decide) rfl ?_
      obtain ⟨r10, er10, h⟩ := bs h
      have hx : Go O (d + 1) MX11_few 64 [some (.ref a0), some (.int a1), some (.int a2), none, none, none, none, none] [] r10 P := by
        refine g_aload_n dX11_few_64 rfl ?_
        obtain ⟨x11, ex11, h⟩ := bs h
        refine q_getA dX11_few_65 fX11_13 ex11 ?_
        refine g_bipush (v := (nI 7)) dX11_few_68 (by decide) ?_
        obtain ⟨x12, ex12, h⟩ := bs h
        refine q_iald dX11_few_70 ex12 ?_
        refine g_istore_n (ls' := [some (.ref a0), some (.int a1), some (.int a2), some (.int x12), none, none, none, none]) dX11_few_71 (by decide) rfl ?_
        refine g_iconst (v := (nI 0)) dX11_few_72 (by decide) ?_
        refine g_istore (ls' := [some (.ref a0), some (.int a1), some (.int a2), some (.int x12), some (.int (nI 0)), none, none, none]) dX11_few_73 (by decide) rfl ?_
        obtain ⟨r25, er25, h⟩ := bs h
        have hx : Go O (d + 1) MX11_few 152 [some (.ref a0), some (.int a1), none, none, none, none, none, none] [] r25 P := by
          refine g_lconst (v := 0) dX11_few_152 (by decide) ?_
          refine g_lstore (ls' := [some (.ref a0), some (.int a1), none, none, some (.long 0), none, none, none]) dX11_few_153 (by decide) rfl ?_
          refine g_iconst (v := (nI 0)) dX11_few_155 (by decide) ?_
          refine g_istore (ls' := [some (.ref a0), some (.int a1), none, none, some (.long 0), none, some (.int (nI 0)), none]) dX11_few_156 (by decide) rfl ?_
          obtain ⟨r29, er29, h⟩ := bs h
          have hx : Go O (d + 1) MX11_few 182 [none, none, none, none, some (.long r29), none, none, none] [] r25 P := by
            refine g_lload dX11_few_182 rfl ?_
            exact g_lreturn dX11_few_184 rfl (hret _ _ (Option.some.inj h))
          refine Go_le ?_ (e_X11_few_l158 (fun q e => by cases e; exact hx) FU (0, (nI 0)) er29)
          exact And.intro rfl (And.intro rfl (And.intro rfl (And.intro rfl (trivial))))
        refine Go_le ?_ (e_X11_few_l75 (fun q e => by cases e; exact hx) FU ((nI 0), r10) er25)
        exact And.intro rfl (And.intro rfl (And.intro rfl (And.intro rfl (And.intro rfl (trivial)))))
      refine Go_le ?_ (e_X11_few_l35 (fun q e => by cases e; exact hx) FU ((nI 0), p4.2) er10)
      exact And.intro rfl (And.intro rfl (And.intro rfl (And.intro rfl (trivial))))
    · rw [if_pos c5] at h
      refine g_ldc2 (v := -1) dX11_few_29 lX11_271 ?_
      exact g_lreturn dX11_few_32 rfl (hret _ _ (Option.some.inj h))
noncomputable def F_X11_compare_j65 (O : mO) (d : Nat) (v0 : Nat) (v2 : Int32) (v4 : Int32) (w0 : Int32) (w1 : Int32) (K : mH) : Option ((Int32 × Int32 × mH) ⊕ (Int32 × mH)) :=
  some (.inl ((w1 + w0), (v4 + nI 1), K))
theorem e_X11_compare_j65 {O : mO} {d : Nat} {v0 : Nat} {v2 : Int32} {v4 : Int32} {w0 : Int32} {w1 : Int32} {K : mH} {P : Option Value → mH → Prop} {y : (Int32 × Int32 × mH) ⊕ (Int32 × mH)} (hin : ∀ q : Int32 × Int32 × mH, y = .inl q → Go O (d + 1) MX11_compare 34 [some (.ref v0), none, some (.int v2), some (.int q.1), some (.int q.2.1)] [] q.2.2 P) (hex : ∀ q : Int32 × mH, y = .inr q → Go O (d + 1) MX11_compare 73 [some (.ref v0), none, some (.int v2), some (.int q.1), none] [] q.2 P) (h : F_X11_compare_j65 O d v0 v2 v4 w0 w1 K = some y) : Go O (d + 1) MX11_compare 65 [some (.ref v0), none, some (.int v2), none, some (.int v4)] [.int w0, .int w1] K P := by
  unfold F_X11_compare_j65 at h
  refine g_iadd dX11_compare_65 ?_
  refine g_istore_n (ls' := [some (.ref v0), none, some (.int v2), some (.int (w1 + w0)), some (.int v4)]) dX11_compare_66 (by decide) rfl ?_
  refine q_iinc (w := nI 1) (ls' := [some (.ref v0), none, some (.int v2), some (.int (w1 + w0)), some (.int (v4 + nI 1))]) dX11_compare_67 (by decide) rfl (by decide) rfl ?_
  refine g_goto (t := 34) dX11_compare_70 (by decide) ?_
  refine Go_le ?_ (hin ((w1 + w0), (v4 + nI 1), K) (Option.some.inj h).symm)
  exact And.intro rfl (And.intro rfl (And.intro rfl (And.intro rfl (trivial))))
noncomputable def F_X11_compare_l34 (O : mO) (d : Nat) (v0 : Nat) (v2 : Int32) (s3 : Int32) (s4 : Int32) (K : mH) : Option ((Int32 × Int32 × mH) ⊕ (Int32 × mH)) :=
  (gtA K v0 11 3).bind fun x8 =>
  (rdI O K x8 (nI 2)).bind fun x9 =>
  if x9 ≤ s4 then
    some (.inr (s3, K))
  else
    (toI (vc O d 11 MX11_isIn v0 [.int s4] K)).bind fun p11 =>
    if p11.1 = 0 then
      F_X11_compare_j65 O d v0 v2 s4 (nI 0) s3 p11.2
    else
      (toI (vc O d 11 MX11_pricedAt v0 [.int s4] p11.2)).bind fun p14 =>
      F_X11_compare_j65 O d v0 v2 s4 p14.1 s3 p14.2
theorem e_X11_compare_l34 {O : mO} {d : Nat} {v0 : Nat} {v2 : Int32} {P : Option Value → mH → Prop} {x : Int32 × mH} (hex : ∀ q : Int32 × mH, x = q → Go O (d + 1) MX11_compare 73 [some (.ref v0), none, some (.int v2), some (.int q.1), none] [] q.2 P) : ∀ (f : Nat) (q : Int32 × Int32 × mH), lupF (fun (q : Int32 × Int32 × mH) => F_X11_compare_l34 O d v0 v2 q.1 q.2.1 q.2.2) f q = some x → Go O (d + 1) MX11_compare 34 [some (.ref v0), none, some (.int v2), some (.int q.1), some (.int q.2.1)] [] q.2.2 P := by
  intro f
  induction f with
  | zero =>
    intro q h
    cases h
  | succ f ih =>
    intro q h
    obtain ⟨y, h, hy1, hy2⟩ := lupF_s h
    have hin : ∀ q : Int32 × Int32 × mH, y = .inl q → Go O (d + 1) MX11_compare 34 [some (.ref v0), none, some (.int v2), some (.int q.1), some (.int q.2.1)] [] q.2.2 P := fun q e => ih q (hy1 q e)
    replace hex : ∀ q : Int32 × mH, y = .inr q → Go O (d + 1) MX11_compare 73 [some (.ref v0), none, some (.int v2), some (.int q.1), none] [] q.2 P := fun q e => hex q (hy2 q e).symm
    clear ih hy1 hy2
    obtain ⟨s3, s4, K⟩ := q
    dsimp only at h ⊢
    unfold F_X11_compare_l34 at h
    refine g_iload dX11_compare_34 rfl ?_
    refine g_aload_n dX11_compare_36 rfl ?_
    obtain ⟨x8, ex8, h⟩ := bs h
    refine q_getA dX11_compare_37 fX11_13 ex8 ?_
    refine g_iconst (v := (nI 2)) dX11_compare_40 (by decide) ?_
    obtain ⟨x9, ex9, h⟩ := bs h
    refine q_iald dX11_compare_41 ex9 ?_
    refine g_ic_ge (t := 73) dX11_compare_42 (by decide) (fun c10 => ?_) (fun c10 => ?_)
    · rw [if_pos c10] at h
      refine Go_le ?_ (hex (s3, K) (Option.some.inj h).symm)
      exact And.intro rfl (And.intro rfl (And.intro rfl (trivial)))
    · rw [if_neg c10] at h
      refine g_iload_n dX11_compare_45 rfl ?_
      refine g_aload_n dX11_compare_46 rfl ?_
      refine g_iload dX11_compare_47 rfl ?_
      obtain ⟨p11, ep11, h⟩ := bs h
      refine q_virt (Z := MX11_isIn) (c := (RX11, TX11, 56)) (toI_s ep11) dX11_compare_49 mX11_182.1 mX11_182.2 (Nat.le_of_ble_eq_true rfl) rfl rfl (Nat.le_of_ble_eq_true rfl) (Nat.le_of_ble_eq_true rfl) rfl rfl ?_
      show Go O (d + 1) MX11_compare 52 [some (.ref v0), none, some (.int v2), some (.int s3), some (.int s4)] [.int p11.1, .int s3] p11.2 P
      refine g_if_eq (t := 64) dX11_compare_52 (by decide) (fun c13 => ?_) (fun c13 => ?_)
      · rw [if_pos c13] at h
        refine g_iconst (v := (nI 0)) dX11_compare_64 (by decide) ?_
        refine Go_le ?_ (e_X11_compare_j65 hin hex h)
        exact And.intro rfl (And.intro rfl (And.intro rfl (trivial)))
      · rw [if_neg c13] at h
        refine g_aload_n dX11_compare_55 rfl ?_
        refine g_iload dX11_compare_56 rfl ?_
        obtain ⟨p14, ep14, h⟩ := bs h
        refine q_virt (Z := MX11_pricedAt) (c := (RX11, TX11, 56)) (toI_s ep14) dX11_compare_58 mX11_196.1 mX11_196.2 (Nat.le_of_ble_eq_true rfl) rfl rfl (Nat.le_of_ble_eq_true rfl) (Nat.le_of_ble_eq_true rfl) rfl rfl ?_
        show Go O (d + 1) MX11_compare 61 [some (.ref v0), none, some (.int v2), some (.int s3), some (.int s4)] [.int p14.1, .int s3] p14.2 P
        refine g_goto (t := 65) dX11_compare_61 (by decide) ?_
        refine Go_le ?_ (e_X11_compare_j65 hin hex h)
        exact And.intro rfl (And.intro rfl (And.intro rfl (trivial)))
noncomputable def F_X11_compare (O : mO) (d : Nat) (a0 : Nat) (a1 : Int32) (K : mH) : Option (Int32 × mH) :=
  (ptI K a0 11 0 (nI 0)).bind fun K1 =>
  (toI (vc O d 11 MX11_isLaw a0 [.int a1] K1)).bind fun p2 =>
  if p2.1 = 0 then
    some ((-1), p2.2)
  else
    (gtA p2.2 a0 11 3).bind fun x4 =>
    (rdI O p2.2 x4 (nI 5)).bind fun x5 =>
    (gtA p2.2 a0 11 3).bind fun x6 =>
    (wrI p2.2 x6 (nI 5) a1).bind fun K7 =>
    (lupF (fun (q : Int32 × Int32 × mH) => F_X11_compare_l34 O d a0 x5 q.1 q.2.1 q.2.2) FU ((nI 0), (nI 0), K7)).bind fun r15 =>
    (gtA r15.2 a0 11 3).bind fun x16 =>
    (wrI r15.2 x16 (nI 5) x5).bind fun K17 =>
    some (r15.1, K17)
theorem e_X11_compare {O : mO} {d : Nat} {a0 : Nat} {a1 : Int32} {K : mH} {r0 : Int32} {K0 : mH} (h : F_X11_compare O d a0 a1 K = some (r0, K0)) : ev O (d + 1) MX11_compare [.ref a0, .int a1] K = some (some (.int r0), K0) := by
  refine Rn_evx ?_
  show Go O (d + 1) MX11_compare 0 [some (.ref a0), some (.int a1), none, none, none] [] K _
  generalize hP : (fun (r : Option Value) (K' : mH) => (r, K') = (some (.int r0), K0)) = P
  have hret : ∀ (r : Int32) (K' : mH), (r, K') = (r0, K0) → P (some (.int r)) K' := by
    intro r K' e
    cases e
    subst hP
    rfl
  clear hP
  unfold F_X11_compare at h
  refine g_aload_n dX11_compare_0 rfl ?_
  refine g_iconst (v := (nI 0)) dX11_compare_1 (by decide) ?_
  obtain ⟨K1, eK1, h⟩ := bs h
  refine q_put (c := (RX11, TX11, 56)) dX11_compare_2 fX11_149 rfl rfl rfl (fun h => absurd h (by decide)) eK1 ?_
  refine g_aload_n dX11_compare_5 rfl ?_
  refine g_iload_n dX11_compare_6 rfl ?_
  obtain ⟨p2, ep2, h⟩ := bs h
  refine q_virt (Z := MX11_isLaw) (c := (RX11, TX11, 56)) (toI_s ep2) dX11_compare_7 mX11_392.1 mX11_392.2 (Nat.le_of_ble_eq_true rfl) rfl rfl (Nat.le_of_ble_eq_true rfl) (Nat.le_of_ble_eq_true rfl) rfl rfl ?_
  show Go O (d + 1) MX11_compare 10 [some (.ref a0), some (.int a1), none, none, none] [.int p2.1] p2.2 P
  refine g_if_ne (t := 15) dX11_compare_10 (by decide) (fun c3 => ?_) (fun c3 => ?_)
  · rw [if_neg c3] at h
    refine g_aload_n dX11_compare_15 rfl ?_
    obtain ⟨x4, ex4, h⟩ := bs h
    refine q_getA dX11_compare_16 fX11_13 ex4 ?_
    refine g_iconst (v := (nI 5)) dX11_compare_19 (by decide) ?_
    obtain ⟨x5, ex5, h⟩ := bs h
    refine q_iald dX11_compare_20 ex5 ?_
    refine g_istore_n (ls' := [some (.ref a0), some (.int a1), some (.int x5), none, none]) dX11_compare_21 (by decide) rfl ?_
    refine g_aload_n dX11_compare_22 rfl ?_
    obtain ⟨x6, ex6, h⟩ := bs h
    refine q_getA dX11_compare_23 fX11_13 ex6 ?_
    refine g_iconst (v := (nI 5)) dX11_compare_26 (by decide) ?_
    refine g_iload_n dX11_compare_27 rfl ?_
    obtain ⟨K7, eK7, h⟩ := bs h
    refine q_iast dX11_compare_28 eK7 ?_
    refine g_iconst (v := (nI 0)) dX11_compare_29 (by decide) ?_
    refine g_istore_n (ls' := [some (.ref a0), some (.int a1), some (.int x5), some (.int (nI 0)), none]) dX11_compare_30 (by decide) rfl ?_
    refine g_iconst (v := (nI 0)) dX11_compare_31 (by decide) ?_
    refine g_istore (ls' := [some (.ref a0), some (.int a1), some (.int x5), some (.int (nI 0)), some (.int (nI 0))]) dX11_compare_32 (by decide) rfl ?_
    obtain ⟨r15, er15, h⟩ := bs h
    have hx : Go O (d + 1) MX11_compare 73 [some (.ref a0), none, some (.int x5), some (.int r15.1), none] [] r15.2 P := by
      refine g_aload_n dX11_compare_73 rfl ?_
      obtain ⟨x16, ex16, h⟩ := bs h
      refine q_getA dX11_compare_74 fX11_13 ex16 ?_
      refine g_iconst (v := (nI 5)) dX11_compare_77 (by decide) ?_
      refine g_iload_n dX11_compare_78 rfl ?_
      obtain ⟨K17, eK17, h⟩ := bs h
      refine q_iast dX11_compare_79 eK17 ?_
      refine g_iload_n dX11_compare_80 rfl ?_
      exact g_ireturn dX11_compare_81 rfl (by first | rfl | decide) (hret _ _ (Option.some.inj h))
    refine Go_le ?_ (e_X11_compare_l34 (fun q e => by cases e; exact hx) FU ((nI 0), (nI 0), K7) er15)
    exact And.intro rfl (And.intro rfl (And.intro rfl (And.intro rfl (trivial))))
  · rw [if_pos c3] at h
    refine g_iconst (v := (-1)) dX11_compare_13 (by decide) ?_
    exact g_ireturn dX11_compare_14 rfl (by first | rfl | decide) (hret _ _ (Option.some.inj h))
noncomputable def F_X11_sumOf (O : mO) (d : Nat) (a0 : Nat) (a1 : Int32) (K : mH) : Option (Int32 × mH) :=
  (gtI K a0 11 51).bind fun x1 =>
  if x1 = 0 then
    (gtA K a0 11 47).bind fun x3 =>
    (rdI O K x3 a1).bind fun x4 =>
    (gtA K a0 11 47).bind fun x5 =>
    (rdI O K x5 (a1 + (nI 1))).bind fun x6 =>
    if x4 = x6 then
      some ((-1), K)
    else
      (ptI K a0 11 20 (nI 1)).bind fun K8 =>
      (gtA K8 a0 11 47).bind fun x9 =>
      (rdI O K8 x9 a1).bind fun x10 =>
      (gtA K8 a0 11 47).bind fun x11 =>
      (rdI O K8 x11 (a1 + (nI 1))).bind fun x12 =>
      (toV (vc O d 11 MX11_reckonAll a0 [.int x10, .int x12] K8)).bind fun K13 =>
      (ptI K13 a0 11 20 (nI 0)).bind fun K14 =>
      (gtI K14 a0 11 38).bind fun x15 =>
      (zz x15).bind fun z17 =>
      (ptI K14 a0 11 51 x15).bind fun K16 =>
      (gtJ K16 a0 11 39).bind fun x18 =>
      some (x18.toInt32, K16)
  else
    some ((-1), K)
theorem e_X11_sumOf {O : mO} {d : Nat} {a0 : Nat} {a1 : Int32} {K : mH} {r0 : Int32} {K0 : mH} (h : F_X11_sumOf O d a0 a1 K = some (r0, K0)) : ev O (d + 1) MX11_sumOf [.ref a0, .int a1] K = some (some (.int r0), K0) := by
  refine Rn_evx ?_
  show Go O (d + 1) MX11_sumOf 0 [some (.ref a0), some (.int a1)] [] K _
  generalize hP : (fun (r : Option Value) (K' : mH) => (r, K') = (some (.int r0), K0)) = P
  have hret : ∀ (r : Int32) (K' : mH), (r, K') = (r0, K0) → P (some (.int r)) K' := by
    intro r K' e
    cases e
    subst hP
    rfl
  clear hP
  unfold F_X11_sumOf at h
  refine g_aload_n dX11_sumOf_0 rfl ?_
  obtain ⟨x1, ex1, h⟩ := bs h
  refine q_getI dX11_sumOf_1 fX11_510 ex1 ?_
  refine g_if_ne (t := 24) dX11_sumOf_4 (by decide) (fun c2 => ?_) (fun c2 => ?_)
  · rw [if_neg c2] at h
    refine g_iconst (v := (-1)) dX11_sumOf_24 (by decide) ?_
    exact g_ireturn dX11_sumOf_25 rfl (by first | rfl | decide) (hret _ _ (Option.some.inj h))
  · rw [if_pos c2] at h
    refine g_aload_n dX11_sumOf_7 rfl ?_
    obtain ⟨x3, ex3, h⟩ := bs h
    refine q_getA dX11_sumOf_8 fX11_134 ex3 ?_
    refine g_iload_n dX11_sumOf_11 rfl ?_
    obtain ⟨x4, ex4, h⟩ := bs h
    refine q_iald dX11_sumOf_12 ex4 ?_
    refine g_aload_n dX11_sumOf_13 rfl ?_
    obtain ⟨x5, ex5, h⟩ := bs h
    refine q_getA dX11_sumOf_14 fX11_134 ex5 ?_
    refine g_iload_n dX11_sumOf_17 rfl ?_
    refine g_iconst (v := (nI 1)) dX11_sumOf_18 (by decide) ?_
    refine g_iadd dX11_sumOf_19 ?_
    obtain ⟨x6, ex6, h⟩ := bs h
    refine q_iald dX11_sumOf_20 ex6 ?_
    refine g_ic_ne (t := 26) dX11_sumOf_21 (by decide) (fun c7 => ?_) (fun c7 => ?_)
    · rw [if_neg c7] at h
      refine g_aload_n dX11_sumOf_26 rfl ?_
      refine g_iconst (v := (nI 1)) dX11_sumOf_27 (by decide) ?_
      obtain ⟨K8, eK8, h⟩ := bs h
      refine q_put (c := (RX11, TX11, 56)) dX11_sumOf_28 fX11_321 rfl rfl rfl (fun h => absurd h (by decide)) eK8 ?_
      refine g_aload_n dX11_sumOf_31 rfl ?_
      refine g_aload_n dX11_sumOf_32 rfl ?_
      obtain ⟨x9, ex9, h⟩ := bs h
      refine q_getA dX11_sumOf_33 fX11_134 ex9 ?_
      refine g_iload_n dX11_sumOf_36 rfl ?_
      obtain ⟨x10, ex10, h⟩ := bs h
      refine q_iald dX11_sumOf_37 ex10 ?_
      refine g_aload_n dX11_sumOf_38 rfl ?_
      obtain ⟨x11, ex11, h⟩ := bs h
      refine q_getA dX11_sumOf_39 fX11_134 ex11 ?_
      refine g_iload_n dX11_sumOf_42 rfl ?_
      refine g_iconst (v := (nI 1)) dX11_sumOf_43 (by decide) ?_
      refine g_iadd dX11_sumOf_44 ?_
      obtain ⟨x12, ex12, h⟩ := bs h
      refine q_iald dX11_sumOf_45 ex12 ?_
      obtain ⟨K13, eK13, h⟩ := bs h
      refine q_virt (Z := MX11_reckonAll) (c := (RX11, TX11, 56)) (toV_s eK13) dX11_sumOf_46 mX11_412.1 mX11_412.2 (Nat.le_of_ble_eq_true rfl) rfl rfl (Nat.le_of_ble_eq_true rfl) (Nat.le_of_ble_eq_true rfl) rfl rfl ?_
      show Go O (d + 1) MX11_sumOf 49 [some (.ref a0), some (.int a1)] [] K13 P
      refine g_aload_n dX11_sumOf_49 rfl ?_
      refine g_iconst (v := (nI 0)) dX11_sumOf_50 (by decide) ?_
      obtain ⟨K14, eK14, h⟩ := bs h
      refine q_put (c := (RX11, TX11, 56)) dX11_sumOf_51 fX11_321 rfl rfl rfl (fun h => absurd h (by decide)) eK14 ?_
      refine g_aload_n dX11_sumOf_54 rfl ?_
      refine g_aload_n dX11_sumOf_55 rfl ?_
      obtain ⟨x15, ex15, h⟩ := bs h
      refine q_getI dX11_sumOf_56 fX11_395 ex15 ?_
      obtain ⟨z17, ez17, h⟩ := bs h
      obtain ⟨K16, eK16, h⟩ := bs h
      refine q_put (c := (RX11, TX11, 56)) dX11_sumOf_59 fX11_510 rfl (zz_nar ez17).2.1 (zz_nar ez17).2.2 (fun h => absurd h (by decide)) eK16 ?_
      refine g_aload_n dX11_sumOf_62 rfl ?_
      obtain ⟨x18, ex18, h⟩ := bs h
      refine q_getJ dX11_sumOf_63 fX11_409 ex18 ?_
      refine g_l2i dX11_sumOf_66 ?_
      exact g_ireturn dX11_sumOf_67 rfl (by first | rfl | decide) (hret _ _ (Option.some.inj h))
    · rw [if_pos c7] at h
      refine g_iconst (v := (-1)) dX11_sumOf_24 (by decide) ?_
      exact g_ireturn dX11_sumOf_25 rfl (by first | rfl | decide) (hret _ _ (Option.some.inj h))
noncomputable def F_X11_act (O : mO) (d : Nat) (a0 : Nat) (a1 : Int32) (a2 : Int32) (a3 : Int32) (K : mH) : Option (Int32 × mH) :=
  if a1 = nI 0 then
    (toI (vc O d 11 MX11_renewNow a0 [.int a2] K)).bind fun p2 =>
    some (p2.1, p2.2)
  else if a1 = nI 1 then
    (toI (vc O d 11 MX11_lodgeNow a0 [.int a2, .int a3] K)).bind fun p4 =>
    some (p4.1, p4.2)
  else if a1 = nI 2 then
    (toI (vc O d 11 MX11_knockNow a0 [.int a2] K)).bind fun p6 =>
    some (p6.1, p6.2)
  else 
    (toI (vc O d 11 MX11_passNow a0 [] K)).bind fun p7 =>
    some (p7.1, p7.2)
theorem e_X11_act {O : mO} {d : Nat} {a0 : Nat} {a1 : Int32} {a2 : Int32} {a3 : Int32} {K : mH} {r0 : Int32} {K0 : mH} (h : F_X11_act O d a0 a1 a2 a3 K = some (r0, K0)) : ev O (d + 1) MX11_act [.ref a0, .int a1, .int a2, .int a3] K = some (some (.int r0), K0) := by
  refine Rn_evx ?_
  show Go O (d + 1) MX11_act 0 [some (.ref a0), some (.int a1), some (.int a2), some (.int a3)] [] K _
  generalize hP : (fun (r : Option Value) (K' : mH) => (r, K') = (some (.int r0), K0)) = P
  have hret : ∀ (r : Int32) (K' : mH), (r, K') = (r0, K0) → P (some (.int r)) K' := by
    intro r K' e
    cases e
    subst hP
    rfl
  clear hP
  unfold F_X11_act at h
  refine g_iload_n dX11_act_0 rfl ?_
  by_cases c1 : a1 = nI 0
  · rw [if_pos c1] at h
    refine g_tsI (t := 28) (off := 27) dX11_act_1 (by rw [c1]; decide) (by rw [c1]; decide) (by decide) ?_
    refine g_aload_n dX11_act_28 rfl ?_
    refine g_iload_n dX11_act_29 rfl ?_
    obtain ⟨p2, ep2, h⟩ := bs h
    refine q_virt (Z := MX11_renewNow) (c := (RX11, TX11, 56)) (toI_s ep2) dX11_act_30 mX11_443.1 mX11_443.2 (Nat.le_of_ble_eq_true rfl) rfl rfl (Nat.le_of_ble_eq_true rfl) (Nat.le_of_ble_eq_true rfl) rfl rfl ?_
    show Go O (d + 1) MX11_act 33 [some (.ref a0), some (.int a1), some (.int a2), some (.int a3)] [.int p2.1] p2.2 P
    exact g_ireturn dX11_act_33 rfl (by first | rfl | decide) (hret _ _ (Option.some.inj h))
  rw [if_neg c1] at h
  by_cases c3 : a1 = nI 1
  · rw [if_pos c3] at h
    refine g_tsI (t := 34) (off := 33) dX11_act_1 (by rw [c3]; decide) (by rw [c3]; decide) (by decide) ?_
    refine g_aload_n dX11_act_34 rfl ?_
    refine g_iload_n dX11_act_35 rfl ?_
    refine g_iload_n dX11_act_36 rfl ?_
    obtain ⟨p4, ep4, h⟩ := bs h
    refine q_virt (Z := MX11_lodgeNow) (c := (RX11, TX11, 56)) (toI_s ep4) dX11_act_37 mX11_452.1 mX11_452.2 (Nat.le_of_ble_eq_true rfl) rfl rfl (Nat.le_of_ble_eq_true rfl) (Nat.le_of_ble_eq_true rfl) rfl rfl ?_
    show Go O (d + 1) MX11_act 40 [some (.ref a0), some (.int a1), some (.int a2), some (.int a3)] [.int p4.1] p4.2 P
    exact g_ireturn dX11_act_40 rfl (by first | rfl | decide) (hret _ _ (Option.some.inj h))
  rw [if_neg c3] at h
  by_cases c5 : a1 = nI 2
  · rw [if_pos c5] at h
    refine g_tsI (t := 41) (off := 40) dX11_act_1 (by rw [c5]; decide) (by rw [c5]; decide) (by decide) ?_
    refine g_aload_n dX11_act_41 rfl ?_
    refine g_iload_n dX11_act_42 rfl ?_
    obtain ⟨p6, ep6, h⟩ := bs h
    refine q_virt (Z := MX11_knockNow) (c := (RX11, TX11, 56)) (toI_s ep6) dX11_act_43 mX11_461.1 mX11_461.2 (Nat.le_of_ble_eq_true rfl) rfl rfl (Nat.le_of_ble_eq_true rfl) (Nat.le_of_ble_eq_true rfl) rfl rfl ?_
    show Go O (d + 1) MX11_act 46 [some (.ref a0), some (.int a1), some (.int a2), some (.int a3)] [.int p6.1] p6.2 P
    exact g_ireturn dX11_act_46 rfl (by first | rfl | decide) (hret _ _ (Option.some.inj h))
  rw [if_neg c5] at h
  refine g_tsO (t := 47) dX11_act_1 ?_ (by decide) ?_
  rotate_left
  · skip
    refine g_aload_n dX11_act_47 rfl ?_
    obtain ⟨p7, ep7, h⟩ := bs h
    refine q_virt (Z := MX11_passNow) (c := (RX11, TX11, 56)) (toI_s ep7) dX11_act_48 mX11_467.1 mX11_467.2 (Nat.le_of_ble_eq_true rfl) rfl rfl (Nat.le_of_ble_eq_true rfl) (Nat.le_of_ble_eq_true rfl) rfl rfl ?_
    show Go O (d + 1) MX11_act 51 [some (.ref a0), some (.int a1), some (.int a2), some (.int a3)] [.int p7.1] p7.2 P
    exact g_ireturn dX11_act_51 rfl (by first | rfl | decide) (hret _ _ (Option.some.inj h))
  have ic1 := ts_ne (by decide) c1
  have ic3 := ts_ne (by decide) c3
  have ic5 := ts_ne (by decide) c5
  omega
noncomputable def F_X11_run_j160 (O : mO) (d : Nat) (v0 : Nat) (w0 : Int32) (w1 : Nat) (K : mH) : Option (Int32 × mH) :=
  (ptI K w1 11 49 w0).bind fun K33 =>
  (gtI K33 v0 11 48).bind fun x34 =>
  (ptI K33 v0 11 48 (x34 + (nI 1))).bind fun K35 =>
  some ((nI 0), K35)
theorem e_X11_run_j160 {O : mO} {d : Nat} {v0 : Nat} {w0 : Int32} {w1 : Nat} {K : mH} {P : Option Value → mH → Prop} {x : Int32 × mH} (hret : ∀ (r : Int32) (K' : mH), (r, K') = x → P (some (.int r)) K') (h : F_X11_run_j160 O d v0 w0 w1 K = some x) : Go O (d + 1) MX11_run 160 [some (.ref v0), none, none, none, none] [.int w0, .ref w1] K P := by
  unfold F_X11_run_j160 at h
  obtain ⟨K33, eK33, h⟩ := bs h
  refine q_put (c := (RX11, TX11, 56)) dX11_run_160 fX11_516 rfl rfl rfl (fun h => absurd h (by decide)) eK33 ?_
  refine g_aload_n dX11_run_163 rfl ?_
  refine g_dup dX11_run_164 (by first | rfl | exact vrf_cat _) ?_
  obtain ⟨x34, ex34, h⟩ := bs h
  refine q_getI dX11_run_165 fX11_513 ex34 ?_
  refine g_iconst (v := (nI 1)) dX11_run_168 (by decide) ?_
  refine g_iadd dX11_run_169 ?_
  obtain ⟨K35, eK35, h⟩ := bs h
  refine q_put (c := (RX11, TX11, 56)) dX11_run_170 fX11_513 rfl rfl rfl (fun h => absurd h (by decide)) eK35 ?_
  refine g_iconst (v := (nI 0)) dX11_run_173 (by decide) ?_
  exact g_ireturn dX11_run_174 rfl (by first | rfl | decide) (hret _ _ (Option.some.inj h))
noncomputable def F_X11_run_j93 (O : mO) (d : Nat) (v0 : Nat) (v1 : Int32) (K : mH) : Option (Int32 × mH) :=
  (toI (vc O d 11 MX11_sumOf v0 [.int (v1 + (nI 1))] K)).bind fun p20 =>
  (toI (vc O d 11 MX11_sumOf v0 [.int (v1 + (nI 3))] p20.2)).bind fun p21 =>
  (gtI p21.2 v0 11 51).bind fun x22 =>
  if x22 = 0 then
    (gtA p21.2 v0 11 47).bind fun x24 =>
    (rdI O p21.2 x24 v1).bind fun x25 =>
    (toI (vc O d 11 MX11_act v0 [.int x25, .int p20.1, .int p21.1] p21.2)).bind fun p26 =>
    if 0 ≤ p26.1 then
      (gtA p26.2 v0 11 47).bind fun x28 =>
      (rdI O p26.2 x28 v1).bind fun x29 =>
      if x29 = 0 then
        F_X11_run_j160 O d v0 p26.1 v0 p26.2
      else
        (gtI p26.2 v0 11 49).bind fun x32 =>
        F_X11_run_j160 O d v0 x32 v0 p26.2
    else
      some ((-3), p26.2)
  else
    some ((-3), p21.2)
theorem e_X11_run_j93 {O : mO} {d : Nat} {v0 : Nat} {v1 : Int32} {K : mH} {P : Option Value → mH → Prop} {x : Int32 × mH} (hret : ∀ (r : Int32) (K' : mH), (r, K') = x → P (some (.int r)) K') (h : F_X11_run_j93 O d v0 v1 K = some x) : Go O (d + 1) MX11_run 93 [some (.ref v0), some (.int v1), none, none, none] [] K P := by
  unfold F_X11_run_j93 at h
  refine g_aload_n dX11_run_93 rfl ?_
  refine g_iload_n dX11_run_94 rfl ?_
  refine g_iconst (v := (nI 1)) dX11_run_95 (by decide) ?_
  refine g_iadd dX11_run_96 ?_
  obtain ⟨p20, ep20, h⟩ := bs h
  refine q_virt (Z := MX11_sumOf) (c := (RX11, TX11, 56)) (toI_s ep20) dX11_run_97 mX11_522.1 mX11_522.2 (Nat.le_of_ble_eq_true rfl) rfl rfl (Nat.le_of_ble_eq_true rfl) (Nat.le_of_ble_eq_true rfl) rfl rfl ?_
  show Go O (d + 1) MX11_run 100 [some (.ref v0), some (.int v1), none, none, none] [.int p20.1] p20.2 P
  refine g_istore_n (ls' := [some (.ref v0), some (.int v1), some (.int p20.1), none, none]) dX11_run_100 (by decide) rfl ?_
  refine g_aload_n dX11_run_101 rfl ?_
  refine g_iload_n dX11_run_102 rfl ?_
  refine g_iconst (v := (nI 3)) dX11_run_103 (by decide) ?_
  refine g_iadd dX11_run_104 ?_
  obtain ⟨p21, ep21, h⟩ := bs h
  refine q_virt (Z := MX11_sumOf) (c := (RX11, TX11, 56)) (toI_s ep21) dX11_run_105 mX11_522.1 mX11_522.2 (Nat.le_of_ble_eq_true rfl) rfl rfl (Nat.le_of_ble_eq_true rfl) (Nat.le_of_ble_eq_true rfl) rfl rfl ?_
  show Go O (d + 1) MX11_run 108 [some (.ref v0), some (.int v1), some (.int p20.1), none, none] [.int p21.1] p21.2 P
  refine g_istore_n (ls' := [some (.ref v0), some (.int v1), some (.int p20.1), some (.int p21.1), none]) dX11_run_108 (by decide) rfl ?_
  refine g_aload_n dX11_run_109 rfl ?_
  obtain ⟨x22, ex22, h⟩ := bs h
  refine q_getI dX11_run_110 fX11_510 ex22 ?_
  refine g_if_eq (t := 119) dX11_run_113 (by decide) (fun c23 => ?_) (fun c23 => ?_)
  · rw [if_pos c23] at h
    refine g_aload_n dX11_run_119 rfl ?_
    refine g_aload_n dX11_run_120 rfl ?_
    obtain ⟨x24, ex24, h⟩ := bs h
    refine q_getA dX11_run_121 fX11_134 ex24 ?_
    refine g_iload_n dX11_run_124 rfl ?_
    obtain ⟨x25, ex25, h⟩ := bs h
    refine q_iald dX11_run_125 ex25 ?_
    refine g_iload_n dX11_run_126 rfl ?_
    refine g_iload_n dX11_run_127 rfl ?_
    obtain ⟨p26, ep26, h⟩ := bs h
    refine q_virt (Z := MX11_act) (c := (RX11, TX11, 56)) (toI_s ep26) dX11_run_128 mX11_525.1 mX11_525.2 (Nat.le_of_ble_eq_true rfl) rfl rfl (Nat.le_of_ble_eq_true rfl) (Nat.le_of_ble_eq_true rfl) rfl rfl ?_
    show Go O (d + 1) MX11_run 131 [some (.ref v0), some (.int v1), some (.int p20.1), some (.int p21.1), none] [.int p26.1] p26.2 P
    refine g_istore (ls' := [some (.ref v0), some (.int v1), some (.int p20.1), some (.int p21.1), some (.int p26.1)]) dX11_run_131 (by decide) rfl ?_
    refine g_iload dX11_run_133 rfl ?_
    refine g_if_ge (t := 141) dX11_run_135 (by decide) (fun c27 => ?_) (fun c27 => ?_)
    · rw [if_pos c27] at h
      refine g_aload_n dX11_run_141 rfl ?_
      refine g_aload_n dX11_run_142 rfl ?_
      obtain ⟨x28, ex28, h⟩ := bs h
      refine q_getA dX11_run_143 fX11_134 ex28 ?_
      refine g_iload_n dX11_run_146 rfl ?_
      obtain ⟨x29, ex29, h⟩ := bs h
      refine q_iald dX11_run_147 ex29 ?_
      refine g_if_ne (t := 156) dX11_run_148 (by decide) (fun c31 => ?_) (fun c31 => ?_)
      · rw [if_neg c31] at h
        refine g_aload_n dX11_run_156 rfl ?_
        obtain ⟨x32, ex32, h⟩ := bs h
        refine q_getI dX11_run_157 fX11_516 ex32 ?_
        refine Go_le ?_ (e_X11_run_j160 hret h)
        exact And.intro rfl (trivial)
      · rw [if_pos c31] at h
        refine g_iload dX11_run_151 rfl ?_
        refine g_goto (t := 160) dX11_run_153 (by decide) ?_
        refine Go_le ?_ (e_X11_run_j160 hret h)
        exact And.intro rfl (trivial)
    · rw [if_neg c27] at h
      refine g_bipush (v := (-3)) dX11_run_138 (by decide) ?_
      exact g_ireturn dX11_run_140 rfl (by first | rfl | decide) (hret _ _ (Option.some.inj h))
  · rw [if_neg c23] at h
    refine g_bipush (v := (-3)) dX11_run_116 (by decide) ?_
    exact g_ireturn dX11_run_118 rfl (by first | rfl | decide) (hret _ _ (Option.some.inj h))
noncomputable def F_X11_run (O : mO) (d : Nat) (a0 : Nat) (a1 : Int32) (K : mH) : Option (Int32 × mH) :=
  (gtA K a0 11 36).bind fun x1 =>
  (gtA K a0 11 3).bind fun x2 =>
  (rdI O K x2 (nI 6)).bind fun x3 =>
  (wrJ K x1 (nI 1) x3.toInt64).bind fun K4 =>
  (gtA K4 a0 11 36).bind fun x5 =>
  (gtI K4 a0 11 48).bind fun x6 =>
  (wrJ K4 x5 (nI 2) x6.toInt64).bind fun K7 =>
  (gtA K7 a0 11 36).bind fun x8 =>
  (gtI K7 a0 11 49).bind fun x9 =>
  (wrJ K7 x8 (nI 3) x9.toInt64).bind fun K10 =>
  (gtA K10 a0 11 36).bind fun x11 =>
  (toI (vc O d 11 MX11_insideNow a0 [] K10)).bind fun p12 =>
  (wrJ p12.2 x11 (nI 4) p12.1.toInt64).bind fun K13 =>
  (ptI K13 a0 11 51 (nI 0)).bind fun K14 =>
  (gtA K14 a0 11 47).bind fun x15 =>
  (rdI O K14 x15 (a1 + (nI 5))).bind fun x16 =>
  (gtA K14 a0 11 47).bind fun x17 =>
  (rdI O K14 x17 (a1 + (nI 6))).bind fun x18 =>
  if x18 ≤ x16 then
    F_X11_run_j93 O d a0 a1 K14
  else
    (toI (vc O d 11 MX11_sumOf a0 [.int (a1 + (nI 5))] K14)).bind fun p36 =>
    (gtI p36.2 a0 11 51).bind fun x37 =>
    if x37 = 0 then
      if p36.1 = 0 then
        some ((nI 0), p36.2)
      else
        F_X11_run_j93 O d a0 a1 p36.2
    else
      some ((nI 0), p36.2)
theorem e_X11_run {O : mO} {d : Nat} {a0 : Nat} {a1 : Int32} {K : mH} {r0 : Int32} {K0 : mH} (h : F_X11_run O d a0 a1 K = some (r0, K0)) : ev O (d + 1) MX11_run [.ref a0, .int a1] K = some (some (.int r0), K0) := by
  refine Rn_evx ?_
  show Go O (d + 1) MX11_run 0 [some (.ref a0), some (.int a1), none, none, none] [] K _
  generalize hP : (fun (r : Option Value) (K' : mH) => (r, K') = (some (.int r0), K0)) = P
  have hret : ∀ (r : Int32) (K' : mH), (r, K') = (r0, K0) → P (some (.int r)) K' := by
    intro r K' e
    cases e
    subst hP
    rfl
  clear hP
  unfold F_X11_run at h
  refine g_aload_n dX11_run_0 rfl ?_
  obtain ⟨x1, ex1, h⟩ := bs h
  refine q_getA dX11_run_1 fX11_102 ex1 ?_
  refine g_iconst (v := (nI 1)) dX11_run_4 (by decide) ?_
  refine g_aload_n dX11_run_5 rfl ?_
  obtain ⟨x2, ex2, h⟩ := bs h
  refine q_getA dX11_run_6 fX11_13 ex2 ?_
  refine g_bipush (v := (nI 6)) dX11_run_9 (by decide) ?_
  obtain ⟨x3, ex3, h⟩ := bs h
  refine q_iald dX11_run_11 ex3 ?_
  refine g_i2l dX11_run_12 ?_
  obtain ⟨K4, eK4, h⟩ := bs h
  refine q_last dX11_run_13 eK4 ?_
  refine g_aload_n dX11_run_14 rfl ?_
  obtain ⟨x5, ex5, h⟩ := bs h
  refine q_getA dX11_run_15 fX11_102 ex5 ?_
  refine g_iconst (v := (nI 2)) dX11_run_18 (by decide) ?_
  refine g_aload_n dX11_run_19 rfl ?_
  obtain ⟨x6, ex6, h⟩ := bs h
  refine q_getI dX11_run_20 fX11_513 ex6 ?_
  refine g_i2l dX11_run_23 ?_
  obtain ⟨K7, eK7, h⟩ := bs h
  refine q_last dX11_run_24 eK7 ?_
  refine g_aload_n dX11_run_25 rfl ?_
  obtain ⟨x8, ex8, h⟩ := bs h
  refine q_getA dX11_run_26 fX11_102 ex8 ?_
  refine g_iconst (v := (nI 3)) dX11_run_29 (by decide) ?_
  refine g_aload_n dX11_run_30 rfl ?_
  obtain ⟨x9, ex9, h⟩ := bs h
  refine q_getI dX11_run_31 fX11_516 ex9 ?_
  refine g_i2l dX11_run_34 ?_
  obtain ⟨K10, eK10, h⟩ := bs h
  refine q_last dX11_run_35 eK10 ?_
  refine g_aload_n dX11_run_36 rfl ?_
  obtain ⟨x11, ex11, h⟩ := bs h
  refine q_getA dX11_run_37 fX11_102 ex11 ?_
  refine g_iconst (v := (nI 4)) dX11_run_40 (by decide) ?_
  refine g_aload_n dX11_run_41 rfl ?_
  obtain ⟨p12, ep12, h⟩ := bs h
  refine q_virt (Z := MX11_insideNow) (c := (RX11, TX11, 56)) (toI_s ep12) dX11_run_42 mX11_519.1 mX11_519.2 (Nat.le_of_ble_eq_true rfl) rfl rfl (Nat.le_of_ble_eq_true rfl) (Nat.le_of_ble_eq_true rfl) rfl rfl ?_
  show Go O (d + 1) MX11_run 45 [some (.ref a0), some (.int a1), none, none, none] [.int p12.1, .int (nI 4), .ref x11] p12.2 P
  refine g_i2l dX11_run_45 ?_
  obtain ⟨K13, eK13, h⟩ := bs h
  refine q_last dX11_run_46 eK13 ?_
  refine g_aload_n dX11_run_47 rfl ?_
  refine g_iconst (v := (nI 0)) dX11_run_48 (by decide) ?_
  obtain ⟨K14, eK14, h⟩ := bs h
  refine q_put (c := (RX11, TX11, 56)) dX11_run_49 fX11_510 rfl rfl rfl (fun h => absurd h (by decide)) eK14 ?_
  refine g_aload_n dX11_run_52 rfl ?_
  obtain ⟨x15, ex15, h⟩ := bs h
  refine q_getA dX11_run_53 fX11_134 ex15 ?_
  refine g_iload_n dX11_run_56 rfl ?_
  refine g_iconst (v := (nI 5)) dX11_run_57 (by decide) ?_
  refine g_iadd dX11_run_58 ?_
  obtain ⟨x16, ex16, h⟩ := bs h
  refine q_iald dX11_run_59 ex16 ?_
  refine g_aload_n dX11_run_60 rfl ?_
  obtain ⟨x17, ex17, h⟩ := bs h
  refine q_getA dX11_run_61 fX11_134 ex17 ?_
  refine g_iload_n dX11_run_64 rfl ?_
  refine g_bipush (v := (nI 6)) dX11_run_65 (by decide) ?_
  refine g_iadd dX11_run_67 ?_
  obtain ⟨x18, ex18, h⟩ := bs h
  refine q_iald dX11_run_68 ex18 ?_
  refine g_ic_ge (t := 93) dX11_run_69 (by decide) (fun c19 => ?_) (fun c19 => ?_)
  · rw [if_pos c19] at h
    refine Go_le ?_ (e_X11_run_j93 hret h)
    exact And.intro rfl (And.intro rfl (trivial))
  · rw [if_neg c19] at h
    refine g_aload_n dX11_run_72 rfl ?_
    refine g_iload_n dX11_run_73 rfl ?_
    refine g_iconst (v := (nI 5)) dX11_run_74 (by decide) ?_
    refine g_iadd dX11_run_75 ?_
    obtain ⟨p36, ep36, h⟩ := bs h
    refine q_virt (Z := MX11_sumOf) (c := (RX11, TX11, 56)) (toI_s ep36) dX11_run_76 mX11_522.1 mX11_522.2 (Nat.le_of_ble_eq_true rfl) rfl rfl (Nat.le_of_ble_eq_true rfl) (Nat.le_of_ble_eq_true rfl) rfl rfl ?_
    show Go O (d + 1) MX11_run 79 [some (.ref a0), some (.int a1), none, none, none] [.int p36.1] p36.2 P
    refine g_istore_n (ls' := [some (.ref a0), some (.int a1), some (.int p36.1), none, none]) dX11_run_79 (by decide) rfl ?_
    refine g_aload_n dX11_run_80 rfl ?_
    obtain ⟨x37, ex37, h⟩ := bs h
    refine q_getI dX11_run_81 fX11_510 ex37 ?_
    refine g_if_ne (t := 91) dX11_run_84 (by decide) (fun c38 => ?_) (fun c38 => ?_)
    · rw [if_neg c38] at h
      refine g_iconst (v := (nI 0)) dX11_run_91 (by decide) ?_
      exact g_ireturn dX11_run_92 rfl (by first | rfl | decide) (hret _ _ (Option.some.inj h))
    · rw [if_pos c38] at h
      refine g_iload_n dX11_run_87 rfl ?_
      refine g_if_ne (t := 93) dX11_run_88 (by decide) (fun c39 => ?_) (fun c39 => ?_)
      · rw [if_neg c39] at h
        refine Go_le ?_ (e_X11_run_j93 hret h)
        exact And.intro rfl (And.intro rfl (trivial))
      · rw [if_pos c39] at h
        refine g_iconst (v := (nI 0)) dX11_run_91 (by decide) ?_
        exact g_ireturn dX11_run_92 rfl (by first | rfl | decide) (hret _ _ (Option.some.inj h))
noncomputable def F_X11_orders_l19 (O : mO) (d : Nat) (v0 : Nat)  (K : mH) : Option ((mH) ⊕ (mH)) :=
  (gtI K v0 11 19).bind fun x5 =>
  if x5 = 0 then
    (toI (vc O d 11 MX11_isSign v0 [.int (nI 59)] K)).bind fun p7 =>
    if p7.1 = 0 then
      some (.inr p7.2)
    else
      (toV (vc O d 11 MX11_next v0 [] p7.2)).bind fun K9 =>
      (toV (vc O d 11 MX11_readOrder v0 [] K9)).bind fun K10 =>
      some (.inl K10)
  else
    some (.inr K)
theorem e_X11_orders_l19 {O : mO} {d : Nat} {v0 : Nat} {P : Option Value → mH → Prop} {x : mH} (hex : ∀ q : mH, x = q → Go O (d + 1) MX11_orders 46 [some (.ref v0), none, none, none] [] q P) : ∀ (f : Nat) (q : mH), lupF (fun (q : mH) => F_X11_orders_l19 O d v0 q) f q = some x → Go O (d + 1) MX11_orders 19 [some (.ref v0), none, none, none] [] q P := by
  intro f
  induction f with
  | zero =>
    intro q h
    cases h
  | succ f ih =>
    intro K h
    obtain ⟨y, h, hy1, hy2⟩ := lupF_s h
    have hin : ∀ q : mH, y = .inl q → Go O (d + 1) MX11_orders 19 [some (.ref v0), none, none, none] [] q P := fun q e => ih q (hy1 q e)
    replace hex : ∀ q : mH, y = .inr q → Go O (d + 1) MX11_orders 46 [some (.ref v0), none, none, none] [] q P := fun q e => hex q (hy2 q e).symm
    clear ih hy1 hy2
    try dsimp only at h
    unfold F_X11_orders_l19 at h
    refine g_aload_n dX11_orders_19 rfl ?_
    obtain ⟨x5, ex5, h⟩ := bs h
    refine q_getI dX11_orders_20 fX11_244 ex5 ?_
    refine g_if_ne (t := 46) dX11_orders_23 (by decide) (fun c6 => ?_) (fun c6 => ?_)
    · rw [if_neg c6] at h
      refine Go_le ?_ (hex K (Option.some.inj h).symm)
      exact And.intro rfl (trivial)
    · rw [if_pos c6] at h
      refine g_aload_n dX11_orders_26 rfl ?_
      refine g_bipush (v := (nI 59)) dX11_orders_27 (by decide) ?_
      obtain ⟨p7, ep7, h⟩ := bs h
      refine q_virt (Z := MX11_isSign) (c := (RX11, TX11, 56)) (toI_s ep7) dX11_orders_29 mX11_315.1 mX11_315.2 (Nat.le_of_ble_eq_true rfl) rfl rfl (Nat.le_of_ble_eq_true rfl) (Nat.le_of_ble_eq_true rfl) rfl rfl ?_
      show Go O (d + 1) MX11_orders 32 [some (.ref v0), none, none, none] [.int p7.1] p7.2 P
      refine g_if_eq (t := 46) dX11_orders_32 (by decide) (fun c8 => ?_) (fun c8 => ?_)
      · rw [if_pos c8] at h
        refine Go_le ?_ (hex p7.2 (Option.some.inj h).symm)
        exact And.intro rfl (trivial)
      · rw [if_neg c8] at h
        refine g_aload_n dX11_orders_35 rfl ?_
        obtain ⟨K9, eK9, h⟩ := bs h
        refine q_virt (Z := MX11_next) (c := (RX11, TX11, 56)) (toV_s eK9) dX11_orders_36 mX11_248.1 mX11_248.2 (Nat.le_of_ble_eq_true rfl) rfl rfl (Nat.le_of_ble_eq_true rfl) (Nat.le_of_ble_eq_true rfl) rfl rfl ?_
        show Go O (d + 1) MX11_orders 39 [some (.ref v0), none, none, none] [] K9 P
        refine g_aload_n dX11_orders_39 rfl ?_
        obtain ⟨K10, eK10, h⟩ := bs h
        refine q_virt (Z := MX11_readOrder) (c := (RX11, TX11, 56)) (toV_s eK10) dX11_orders_40 mX11_528.1 mX11_528.2 (Nat.le_of_ble_eq_true rfl) rfl rfl (Nat.le_of_ble_eq_true rfl) (Nat.le_of_ble_eq_true rfl) rfl rfl ?_
        show Go O (d + 1) MX11_orders 43 [some (.ref v0), none, none, none] [] K10 P
        refine g_goto (t := 19) dX11_orders_43 (by decide) ?_
        refine Go_le ?_ (hin K10 (Option.some.inj h).symm)
        exact And.intro rfl (trivial)
noncomputable def F_X11_orders_l77 (O : mO) (d : Nat) (v0 : Nat) (v1 : Int32) (s2 : Int32) (K : mH) : Option ((Int32 × mH) ⊕ (mH)) :=
  if (nI 496) ≤ s2 then
    some (.inr K)
  else
    (gtA K v0 11 9).bind fun x18 =>
    (gtA K v0 11 6).bind fun x19 =>
    (rdI O K x19 s2).bind fun x20 =>
    (wrI K x18 s2 x20).bind fun K21 =>
    some (.inl ((s2 + nI 1), K21))
theorem e_X11_orders_l77 {O : mO} {d : Nat} {v0 : Nat} {v1 : Int32} {P : Option Value → mH → Prop} {x : mH} (hex : ∀ q : mH, x = q → Go O (d + 1) MX11_orders 102 [some (.ref v0), some (.int v1), none, none] [] q P) : ∀ (f : Nat) (q : Int32 × mH), lupF (fun (q : Int32 × mH) => F_X11_orders_l77 O d v0 v1 q.1 q.2) f q = some x → Go O (d + 1) MX11_orders 77 [some (.ref v0), some (.int v1), some (.int q.1), none] [] q.2 P := by
  intro f
  induction f with
  | zero =>
    intro q h
    cases h
  | succ f ih =>
    intro q h
    obtain ⟨y, h, hy1, hy2⟩ := lupF_s h
    have hin : ∀ q : Int32 × mH, y = .inl q → Go O (d + 1) MX11_orders 77 [some (.ref v0), some (.int v1), some (.int q.1), none] [] q.2 P := fun q e => ih q (hy1 q e)
    replace hex : ∀ q : mH, y = .inr q → Go O (d + 1) MX11_orders 102 [some (.ref v0), some (.int v1), none, none] [] q P := fun q e => hex q (hy2 q e).symm
    clear ih hy1 hy2
    obtain ⟨s2, K⟩ := q
    dsimp only at h ⊢
    unfold F_X11_orders_l77 at h
    refine g_iload_n dX11_orders_77 rfl ?_
    refine g_sipush (v := (nI 496)) dX11_orders_78 (by decide) ?_
    refine g_ic_ge (t := 102) dX11_orders_81 (by decide) (fun c17 => ?_) (fun c17 => ?_)
    · rw [if_pos c17] at h
      refine Go_le ?_ (hex K (Option.some.inj h).symm)
      exact And.intro rfl (And.intro rfl (trivial))
    · rw [if_neg c17] at h
      refine g_aload_n dX11_orders_84 rfl ?_
      obtain ⟨x18, ex18, h⟩ := bs h
      refine q_getA dX11_orders_85 fX11_29 ex18 ?_
      refine g_iload_n dX11_orders_88 rfl ?_
      refine g_aload_n dX11_orders_89 rfl ?_
      obtain ⟨x19, ex19, h⟩ := bs h
      refine q_getA dX11_orders_90 fX11_23 ex19 ?_
      refine g_iload_n dX11_orders_93 rfl ?_
      obtain ⟨x20, ex20, h⟩ := bs h
      refine q_iald dX11_orders_94 ex20 ?_
      obtain ⟨K21, eK21, h⟩ := bs h
      refine q_iast dX11_orders_95 eK21 ?_
      refine q_iinc (w := nI 1) (ls' := [some (.ref v0), some (.int v1), some (.int (s2 + nI 1)), none]) dX11_orders_96 (by decide) rfl (by decide) rfl ?_
      refine g_goto (t := 77) dX11_orders_99 (by decide) ?_
      refine Go_le ?_ (hin ((s2 + nI 1), K21) (Option.some.inj h).symm)
      exact And.intro rfl (And.intro rfl (And.intro rfl (trivial)))
noncomputable def F_X11_orders_l104 (O : mO) (d : Nat) (v0 : Nat) (v1 : Int32) (s2 : Int32) (K : mH) : Option ((Int32 × mH) ⊕ (mH)) :=
  if (nI 16) ≤ s2 then
    some (.inr K)
  else
    (gtA K v0 11 10).bind fun x24 =>
    (gtA K v0 11 7).bind fun x25 =>
    (rdI O K x25 s2).bind fun x26 =>
    (wrI K x24 s2 x26).bind fun K27 =>
    some (.inl ((s2 + nI 1), K27))
theorem e_X11_orders_l104 {O : mO} {d : Nat} {v0 : Nat} {v1 : Int32} {P : Option Value → mH → Prop} {x : mH} (hex : ∀ q : mH, x = q → Go O (d + 1) MX11_orders 128 [some (.ref v0), some (.int v1), none, none] [] q P) : ∀ (f : Nat) (q : Int32 × mH), lupF (fun (q : Int32 × mH) => F_X11_orders_l104 O d v0 v1 q.1 q.2) f q = some x → Go O (d + 1) MX11_orders 104 [some (.ref v0), some (.int v1), some (.int q.1), none] [] q.2 P := by
  intro f
  induction f with
  | zero =>
    intro q h
    cases h
  | succ f ih =>
    intro q h
    obtain ⟨y, h, hy1, hy2⟩ := lupF_s h
    have hin : ∀ q : Int32 × mH, y = .inl q → Go O (d + 1) MX11_orders 104 [some (.ref v0), some (.int v1), some (.int q.1), none] [] q.2 P := fun q e => ih q (hy1 q e)
    replace hex : ∀ q : mH, y = .inr q → Go O (d + 1) MX11_orders 128 [some (.ref v0), some (.int v1), none, none] [] q P := fun q e => hex q (hy2 q e).symm
    clear ih hy1 hy2
    obtain ⟨s2, K⟩ := q
    dsimp only at h ⊢
    unfold F_X11_orders_l104 at h
    refine g_iload_n dX11_orders_104 rfl ?_
    refine g_bipush (v := (nI 16)) dX11_orders_105 (by decide) ?_
    refine g_ic_ge (t := 128) dX11_orders_107 (by decide) (fun c23 => ?_) (fun c23 => ?_)
    · rw [if_pos c23] at h
      refine Go_le ?_ (hex K (Option.some.inj h).symm)
      exact And.intro rfl (And.intro rfl (trivial))
    · rw [if_neg c23] at h
      refine g_aload_n dX11_orders_110 rfl ?_
      obtain ⟨x24, ex24, h⟩ := bs h
      refine q_getA dX11_orders_111 fX11_32 ex24 ?_
      refine g_iload_n dX11_orders_114 rfl ?_
      refine g_aload_n dX11_orders_115 rfl ?_
      obtain ⟨x25, ex25, h⟩ := bs h
      refine q_getA dX11_orders_116 fX11_26 ex25 ?_
      refine g_iload_n dX11_orders_119 rfl ?_
      obtain ⟨x26, ex26, h⟩ := bs h
      refine q_iald dX11_orders_120 ex26 ?_
      obtain ⟨K27, eK27, h⟩ := bs h
      refine q_iast dX11_orders_121 eK27 ?_
      refine q_iinc (w := nI 1) (ls' := [some (.ref v0), some (.int v1), some (.int (s2 + nI 1)), none]) dX11_orders_122 (by decide) rfl (by decide) rfl ?_
      refine g_goto (t := 104) dX11_orders_125 (by decide) ?_
      refine Go_le ?_ (hin ((s2 + nI 1), K27) (Option.some.inj h).symm)
      exact And.intro rfl (And.intro rfl (And.intro rfl (trivial)))
noncomputable def F_X11_orders_l150 (O : mO) (d : Nat) (v0 : Nat) (v1 : Int32) (v2 : Int32) (s3 : Int32) (K : mH) : Option ((Int32 × mH) ⊕ ((mH) ⊕ (Int32 × mH))) :=
  (gtA K v0 11 47).bind fun x33 =>
  (rdI O K x33 (((nI 8) * v2) + (nI 7))).bind fun x34 =>
  if x34 ≤ s3 then
    some (.inr (.inl K))
  else
    (toI (vc O d 11 MX11_run v0 [.int ((nI 8) * v2)] K)).bind fun p36 =>
    if 0 ≤ p36.1 then
      some (.inl ((s3 + nI 1), p36.2))
    else
      (toV (vc O d 11 MX11_giveBack v0 [.int v1] p36.2)).bind fun K38 =>
      (ptI K38 v0 11 50 v2).bind fun K39 =>
      (toI (vc O d 11 MX11_tell v0 [.int (-3)] K39)).bind fun p40 =>
      some (.inr (.inr (p40.1, p40.2)))
theorem e_X11_orders_l150 {O : mO} {d : Nat} {v0 : Nat} {v1 : Int32} {v2 : Int32} {P : Option Value → mH → Prop} {x : (mH) ⊕ (Int32 × mH)} (hex : ∀ q : mH, x = .inl q → Go O (d + 1) MX11_orders 200 [some (.ref v0), some (.int v1), some (.int v2), none] [] q P) (hrt : ∀ (r : Int32) (K' : mH), x = .inr (r, K') → P (some (.int r)) K') : ∀ (f : Nat) (q : Int32 × mH), lupF (fun (q : Int32 × mH) => F_X11_orders_l150 O d v0 v1 v2 q.1 q.2) f q = some x → Go O (d + 1) MX11_orders 150 [some (.ref v0), some (.int v1), some (.int v2), some (.int q.1)] [] q.2 P := by
  intro f
  induction f with
  | zero =>
    intro q h
    cases h
  | succ f ih =>
    intro q h
    obtain ⟨y, h, hy1, hy2⟩ := lupF_s h
    have hin : ∀ q : Int32 × mH, y = .inl q → Go O (d + 1) MX11_orders 150 [some (.ref v0), some (.int v1), some (.int v2), some (.int q.1)] [] q.2 P := fun q e => ih q (hy1 q e)
    replace hex : ∀ q : mH, y = .inr (.inl q) → Go O (d + 1) MX11_orders 200 [some (.ref v0), some (.int v1), some (.int v2), none] [] q P := fun q e => hex q (hy2 _ e).symm
    replace hrt : ∀ (r : Int32) (K' : mH), y = .inr (.inr (r, K')) → P (some (.int r)) K' := fun r K' e => hrt r K' (hy2 _ e).symm
    clear ih hy1 hy2
    obtain ⟨s3, K⟩ := q
    dsimp only at h ⊢
    unfold F_X11_orders_l150 at h
    refine g_iload_n dX11_orders_150 rfl ?_
    refine g_aload_n dX11_orders_151 rfl ?_
    obtain ⟨x33, ex33, h⟩ := bs h
    refine q_getA dX11_orders_152 fX11_134 ex33 ?_
    refine g_bipush (v := (nI 8)) dX11_orders_155 (by decide) ?_
    refine g_iload_n dX11_orders_157 rfl ?_
    refine g_imul dX11_orders_158 ?_
    refine g_bipush (v := (nI 7)) dX11_orders_159 (by decide) ?_
    refine g_iadd dX11_orders_161 ?_
    obtain ⟨x34, ex34, h⟩ := bs h
    refine q_iald dX11_orders_162 ex34 ?_
    refine g_ic_ge (t := 200) dX11_orders_163 (by decide) (fun c35 => ?_) (fun c35 => ?_)
    · rw [if_pos c35] at h
      refine Go_le ?_ (hex K (Option.some.inj h).symm)
      exact And.intro rfl (And.intro rfl (And.intro rfl (trivial)))
    · rw [if_neg c35] at h
      refine g_aload_n dX11_orders_166 rfl ?_
      refine g_bipush (v := (nI 8)) dX11_orders_167 (by decide) ?_
      refine g_iload_n dX11_orders_169 rfl ?_
      refine g_imul dX11_orders_170 ?_
      obtain ⟨p36, ep36, h⟩ := bs h
      refine q_virt (Z := MX11_run) (c := (RX11, TX11, 56)) (toI_s ep36) dX11_orders_171 mX11_531.1 mX11_531.2 (Nat.le_of_ble_eq_true rfl) rfl rfl (Nat.le_of_ble_eq_true rfl) (Nat.le_of_ble_eq_true rfl) rfl rfl ?_
      show Go O (d + 1) MX11_orders 174 [some (.ref v0), some (.int v1), some (.int v2), some (.int s3)] [.int p36.1] p36.2 P
      refine g_if_ge (t := 194) dX11_orders_174 (by decide) (fun c37 => ?_) (fun c37 => ?_)
      · rw [if_pos c37] at h
        refine q_iinc (w := nI 1) (ls' := [some (.ref v0), some (.int v1), some (.int v2), some (.int (s3 + nI 1))]) dX11_orders_194 (by decide) rfl (by decide) rfl ?_
        refine g_goto (t := 150) dX11_orders_197 (by decide) ?_
        refine Go_le ?_ (hin ((s3 + nI 1), p36.2) (Option.some.inj h).symm)
        exact And.intro rfl (And.intro rfl (And.intro rfl (And.intro rfl (trivial))))
      · rw [if_neg c37] at h
        refine g_aload_n dX11_orders_177 rfl ?_
        refine g_iload_n dX11_orders_178 rfl ?_
        obtain ⟨K38, eK38, h⟩ := bs h
        refine q_virt (Z := MX11_giveBack) (c := (RX11, TX11, 56)) (toV_s eK38) dX11_orders_179 mX11_534.1 mX11_534.2 (Nat.le_of_ble_eq_true rfl) rfl rfl (Nat.le_of_ble_eq_true rfl) (Nat.le_of_ble_eq_true rfl) rfl rfl ?_
        show Go O (d + 1) MX11_orders 182 [some (.ref v0), some (.int v1), some (.int v2), some (.int s3)] [] K38 P
        refine g_aload_n dX11_orders_182 rfl ?_
        refine g_iload_n dX11_orders_183 rfl ?_
        obtain ⟨K39, eK39, h⟩ := bs h
        refine q_put (c := (RX11, TX11, 56)) dX11_orders_184 fX11_137 rfl rfl rfl (fun h => absurd h (by decide)) eK39 ?_
        refine g_aload_n dX11_orders_187 rfl ?_
        refine g_bipush (v := (-3)) dX11_orders_188 (by decide) ?_
        obtain ⟨p40, ep40, h⟩ := bs h
        refine q_virt (Z := MX11_tell) (c := (RX11, TX11, 56)) (toI_s ep40) dX11_orders_190 mX11_158.1 mX11_158.2 (Nat.le_of_ble_eq_true rfl) rfl rfl (Nat.le_of_ble_eq_true rfl) (Nat.le_of_ble_eq_true rfl) rfl rfl ?_
        show Go O (d + 1) MX11_orders 193 [some (.ref v0), some (.int v1), some (.int v2), some (.int s3)] [.int p40.1] p40.2 P
        exact g_ireturn dX11_orders_193 rfl (by first | rfl | decide) (hrt _ _ (Option.some.inj h).symm)
noncomputable def F_X11_orders_l140 (O : mO) (d : Nat) (v0 : Nat) (v1 : Int32) (s2 : Int32) (K : mH) : Option ((Int32 × mH) ⊕ ((mH) ⊕ (Int32 × mH))) :=
  (gtI K v0 11 21).bind fun x31 =>
  if x31 ≤ s2 then
    some (.inr (.inl K))
  else
    (lupF (fun (q : Int32 × mH) => F_X11_orders_l150 O d v0 v1 s2 q.1 q.2) FU ((nI 0), K)).bind fun r41 => match r41 with
      | .inl r42 =>
      
        some (.inl ((s2 + nI 1), r42))
      | .inr r42 => some (.inr (.inr r42))
theorem e_X11_orders_l140 {O : mO} {d : Nat} {v0 : Nat} {v1 : Int32} {P : Option Value → mH → Prop} {x : (mH) ⊕ (Int32 × mH)} (hex : ∀ q : mH, x = .inl q → Go O (d + 1) MX11_orders 206 [some (.ref v0), none, none, none] [] q P) (hrt : ∀ (r : Int32) (K' : mH), x = .inr (r, K') → P (some (.int r)) K') : ∀ (f : Nat) (q : Int32 × mH), lupF (fun (q : Int32 × mH) => F_X11_orders_l140 O d v0 v1 q.1 q.2) f q = some x → Go O (d + 1) MX11_orders 140 [some (.ref v0), some (.int v1), some (.int q.1), none] [] q.2 P := by
  intro f
  induction f with
  | zero =>
    intro q h
    cases h
  | succ f ih =>
    intro q h
    obtain ⟨y, h, hy1, hy2⟩ := lupF_s h
    have hin : ∀ q : Int32 × mH, y = .inl q → Go O (d + 1) MX11_orders 140 [some (.ref v0), some (.int v1), some (.int q.1), none] [] q.2 P := fun q e => ih q (hy1 q e)
    replace hex : ∀ q : mH, y = .inr (.inl q) → Go O (d + 1) MX11_orders 206 [some (.ref v0), none, none, none] [] q P := fun q e => hex q (hy2 _ e).symm
    replace hrt : ∀ (r : Int32) (K' : mH), y = .inr (.inr (r, K')) → P (some (.int r)) K' := fun r K' e => hrt r K' (hy2 _ e).symm
    clear ih hy1 hy2
    obtain ⟨s2, K⟩ := q
    dsimp only at h ⊢
    unfold F_X11_orders_l140 at h
    refine g_iload_n dX11_orders_140 rfl ?_
    refine g_aload_n dX11_orders_141 rfl ?_
    obtain ⟨x31, ex31, h⟩ := bs h
    refine q_getI dX11_orders_142 fX11_375 ex31 ?_
    refine g_ic_ge (t := 206) dX11_orders_145 (by decide) (fun c32 => ?_) (fun c32 => ?_)
    · rw [if_pos c32] at h
      refine Go_le ?_ (hex K (Option.some.inj h).symm)
      exact And.intro rfl (trivial)
    · rw [if_neg c32] at h
      refine g_iconst (v := (nI 0)) dX11_orders_148 (by decide) ?_
      refine g_istore_n (ls' := [some (.ref v0), some (.int v1), some (.int s2), some (.int (nI 0))]) dX11_orders_149 (by decide) rfl ?_
      obtain ⟨r41, er41, h⟩ := bs h
      rcases r41 with r42 | r42
      · dsimp only at h
        have hx : Go O (d + 1) MX11_orders 200 [some (.ref v0), some (.int v1), some (.int s2), none] [] r42 P := by
          refine q_iinc (w := nI 1) (ls' := [some (.ref v0), some (.int v1), some (.int (s2 + nI 1)), none]) dX11_orders_200 (by decide) rfl (by decide) rfl ?_
          refine g_goto (t := 140) dX11_orders_203 (by decide) ?_
          refine Go_le ?_ (hin ((s2 + nI 1), r42) (Option.some.inj h).symm)
          exact And.intro rfl (And.intro rfl (And.intro rfl (trivial)))
        refine Go_le ?_ (e_X11_orders_l150 (fun q e => by cases e; exact hx) (fun r K' e => by cases e) FU ((nI 0), K) er41)
        exact And.intro rfl (And.intro rfl (And.intro rfl (And.intro rfl (trivial))))
      · dsimp only at h
        refine Go_le ?_ (e_X11_orders_l150 (fun q e => by cases e) (fun r K' e => by cases e; exact hrt _ _ (Option.some.inj h).symm) FU ((nI 0), K) er41)
        exact And.intro rfl (And.intro rfl (And.intro rfl (And.intro rfl (trivial))))
noncomputable def F_X11_orders_j46 (O : mO) (d : Nat) (v0 : Nat) (K : mH) : Option (Int32 × mH) :=
  (toV (vc O d 11 MX11_endText v0 [] K)).bind fun K12 =>
  (gtI K12 v0 11 19).bind fun x13 =>
  if x13 = 0 then
    (toV (vc O d 11 MX11_keepAll v0 [.int (nI 17)] K12)).bind fun K15 =>
    (gtI K15 v0 11 8).bind fun x16 =>
    (lupF (fun (q : Int32 × mH) => F_X11_orders_l77 O d v0 x16 q.1 q.2) FU ((nI 0), K15)).bind fun r22 =>
    (lupF (fun (q : Int32 × mH) => F_X11_orders_l104 O d v0 x16 q.1 q.2) FU ((nI 0), r22)).bind fun r28 =>
    (ptI r28 v0 11 48 (nI 0)).bind fun K29 =>
    (ptI K29 v0 11 49 (-1)).bind fun K30 =>
    (lupF (fun (q : Int32 × mH) => F_X11_orders_l140 O d v0 x16 q.1 q.2) FU ((nI 0), K30)).bind fun r43 => match r43 with
      | .inl r44 =>
      
        (gtI r44 v0 11 48).bind fun x45 =>
        (toI (vc O d 11 MX11_tell v0 [.int x45] r44)).bind fun p46 =>
        some (p46.1, p46.2)
      | .inr r44 => some r44
  else
    (toI (vc O d 11 MX11_tell v0 [.int (-6)] K12)).bind fun p47 =>
    some (p47.1, p47.2)
theorem e_X11_orders_j46 {O : mO} {d : Nat} {v0 : Nat} {K : mH} {P : Option Value → mH → Prop} {x : Int32 × mH} (hret : ∀ (r : Int32) (K' : mH), (r, K') = x → P (some (.int r)) K') (h : F_X11_orders_j46 O d v0 K = some x) : Go O (d + 1) MX11_orders 46 [some (.ref v0), none, none, none] [] K P := by
  unfold F_X11_orders_j46 at h
  refine g_aload_n dX11_orders_46 rfl ?_
  obtain ⟨K12, eK12, h⟩ := bs h
  refine q_virt (Z := MX11_endText) (c := (RX11, TX11, 56)) (toV_s eK12) dX11_orders_47 mX11_389.1 mX11_389.2 (Nat.le_of_ble_eq_true rfl) rfl rfl (Nat.le_of_ble_eq_true rfl) (Nat.le_of_ble_eq_true rfl) rfl rfl ?_
  show Go O (d + 1) MX11_orders 50 [some (.ref v0), none, none, none] [] K12 P
  refine g_aload_n dX11_orders_50 rfl ?_
  obtain ⟨x13, ex13, h⟩ := bs h
  refine q_getI dX11_orders_51 fX11_244 ex13 ?_
  refine g_if_eq (t := 64) dX11_orders_54 (by decide) (fun c14 => ?_) (fun c14 => ?_)
  · rw [if_pos c14] at h
    refine g_aload_n dX11_orders_64 rfl ?_
    refine g_bipush (v := (nI 17)) dX11_orders_65 (by decide) ?_
    obtain ⟨K15, eK15, h⟩ := bs h
    refine q_virt (Z := MX11_keepAll) (c := (RX11, TX11, 56)) (toV_s eK15) dX11_orders_67 mX11_162.1 mX11_162.2 (Nat.le_of_ble_eq_true rfl) rfl rfl (Nat.le_of_ble_eq_true rfl) (Nat.le_of_ble_eq_true rfl) rfl rfl ?_
    show Go O (d + 1) MX11_orders 70 [some (.ref v0), none, none, none] [] K15 P
    refine g_aload_n dX11_orders_70 rfl ?_
    obtain ⟨x16, ex16, h⟩ := bs h
    refine q_getI dX11_orders_71 fX11_155 ex16 ?_
    refine g_istore_n (ls' := [some (.ref v0), some (.int x16), none, none]) dX11_orders_74 (by decide) rfl ?_
    refine g_iconst (v := (nI 0)) dX11_orders_75 (by decide) ?_
    refine g_istore_n (ls' := [some (.ref v0), some (.int x16), some (.int (nI 0)), none]) dX11_orders_76 (by decide) rfl ?_
    obtain ⟨r22, er22, h⟩ := bs h
    have hx : Go O (d + 1) MX11_orders 102 [some (.ref v0), some (.int x16), none, none] [] r22 P := by
      refine g_iconst (v := (nI 0)) dX11_orders_102 (by decide) ?_
      refine g_istore_n (ls' := [some (.ref v0), some (.int x16), some (.int (nI 0)), none]) dX11_orders_103 (by decide) rfl ?_
      obtain ⟨r28, er28, h⟩ := bs h
      have hx : Go O (d + 1) MX11_orders 128 [some (.ref v0), some (.int x16), none, none] [] r28 P := by
        refine g_aload_n dX11_orders_128 rfl ?_
        refine g_iconst (v := (nI 0)) dX11_orders_129 (by decide) ?_
        obtain ⟨K29, eK29, h⟩ := bs h
        refine q_put (c := (RX11, TX11, 56)) dX11_orders_130 fX11_513 rfl rfl rfl (fun h => absurd h (by decide)) eK29 ?_
        refine g_aload_n dX11_orders_133 rfl ?_
        refine g_iconst (v := (-1)) dX11_orders_134 (by decide) ?_
        obtain ⟨K30, eK30, h⟩ := bs h
        refine q_put (c := (RX11, TX11, 56)) dX11_orders_135 fX11_516 rfl rfl rfl (fun h => absurd h (by decide)) eK30 ?_
        refine g_iconst (v := (nI 0)) dX11_orders_138 (by decide) ?_
        refine g_istore_n (ls' := [some (.ref v0), some (.int x16), some (.int (nI 0)), none]) dX11_orders_139 (by decide) rfl ?_
        obtain ⟨r43, er43, h⟩ := bs h
        rcases r43 with r44 | r44
        · dsimp only at h
          have hx : Go O (d + 1) MX11_orders 206 [some (.ref v0), none, none, none] [] r44 P := by
            refine g_aload_n dX11_orders_206 rfl ?_
            refine g_aload_n dX11_orders_207 rfl ?_
            obtain ⟨x45, ex45, h⟩ := bs h
            refine q_getI dX11_orders_208 fX11_513 ex45 ?_
            obtain ⟨p46, ep46, h⟩ := bs h
            refine q_virt (Z := MX11_tell) (c := (RX11, TX11, 56)) (toI_s ep46) dX11_orders_211 mX11_158.1 mX11_158.2 (Nat.le_of_ble_eq_true rfl) rfl rfl (Nat.le_of_ble_eq_true rfl) (Nat.le_of_ble_eq_true rfl) rfl rfl ?_
            show Go O (d + 1) MX11_orders 214 [some (.ref v0), none, none, none] [.int p46.1] p46.2 P
            exact g_ireturn dX11_orders_214 rfl (by first | rfl | decide) (hret _ _ (Option.some.inj h))
          refine Go_le ?_ (e_X11_orders_l140 (fun q e => by cases e; exact hx) (fun r K' e => by cases e) FU ((nI 0), K30) er43)
          exact And.intro rfl (And.intro rfl (And.intro rfl (trivial)))
        · dsimp only at h
          refine Go_le ?_ (e_X11_orders_l140 (fun q e => by cases e) (fun r K' e => by cases e; exact hret _ _ (Option.some.inj h)) FU ((nI 0), K30) er43)
          exact And.intro rfl (And.intro rfl (And.intro rfl (trivial)))
      refine Go_le ?_ (e_X11_orders_l104 (fun q e => by cases e; exact hx) FU ((nI 0), r22) er28)
      exact And.intro rfl (And.intro rfl (And.intro rfl (trivial)))
    refine Go_le ?_ (e_X11_orders_l77 (fun q e => by cases e; exact hx) FU ((nI 0), K15) er22)
    exact And.intro rfl (And.intro rfl (And.intro rfl (trivial)))
  · rw [if_neg c14] at h
    refine g_aload_n dX11_orders_57 rfl ?_
    refine g_bipush (v := (-6)) dX11_orders_58 (by decide) ?_
    obtain ⟨p47, ep47, h⟩ := bs h
    refine q_virt (Z := MX11_tell) (c := (RX11, TX11, 56)) (toI_s ep47) dX11_orders_60 mX11_158.1 mX11_158.2 (Nat.le_of_ble_eq_true rfl) rfl rfl (Nat.le_of_ble_eq_true rfl) (Nat.le_of_ble_eq_true rfl) rfl rfl ?_
    show Go O (d + 1) MX11_orders 63 [some (.ref v0), none, none, none] [.int p47.1] p47.2 P
    exact g_ireturn dX11_orders_63 rfl (by first | rfl | decide) (hret _ _ (Option.some.inj h))
noncomputable def F_X11_orders (O : mO) (d : Nat) (a0 : Nat) (K : mH) : Option (Int32 × mH) :=
  (ptI K a0 11 0 (nI 0)).bind fun K1 =>
  (ptI K1 a0 11 50 (-1)).bind fun K2 =>
  (toV (vc O d 11 MX11_beginText a0 [.int (nI 1)] K2)).bind fun K3 =>
  (toV (vc O d 11 MX11_readOrder a0 [] K3)).bind fun K4 =>
  (lupF (fun (q : mH) => F_X11_orders_l19 O d a0 q) FU K4).bind fun r11 =>
  F_X11_orders_j46 O d a0 r11
theorem e_X11_orders {O : mO} {d : Nat} {a0 : Nat} {K : mH} {r0 : Int32} {K0 : mH} (h : F_X11_orders O d a0 K = some (r0, K0)) : ev O (d + 1) MX11_orders [.ref a0] K = some (some (.int r0), K0) := by
  refine Rn_evx ?_
  show Go O (d + 1) MX11_orders 0 [some (.ref a0), none, none, none] [] K _
  generalize hP : (fun (r : Option Value) (K' : mH) => (r, K') = (some (.int r0), K0)) = P
  have hret : ∀ (r : Int32) (K' : mH), (r, K') = (r0, K0) → P (some (.int r)) K' := by
    intro r K' e
    cases e
    subst hP
    rfl
  clear hP
  unfold F_X11_orders at h
  refine g_aload_n dX11_orders_0 rfl ?_
  refine g_iconst (v := (nI 0)) dX11_orders_1 (by decide) ?_
  obtain ⟨K1, eK1, h⟩ := bs h
  refine q_put (c := (RX11, TX11, 56)) dX11_orders_2 fX11_149 rfl rfl rfl (fun h => absurd h (by decide)) eK1 ?_
  refine g_aload_n dX11_orders_5 rfl ?_
  refine g_iconst (v := (-1)) dX11_orders_6 (by decide) ?_
  obtain ⟨K2, eK2, h⟩ := bs h
  refine q_put (c := (RX11, TX11, 56)) dX11_orders_7 fX11_137 rfl rfl rfl (fun h => absurd h (by decide)) eK2 ?_
  refine g_aload_n dX11_orders_10 rfl ?_
  refine g_iconst (v := (nI 1)) dX11_orders_11 (by decide) ?_
  obtain ⟨K3, eK3, h⟩ := bs h
  refine q_virt (Z := MX11_beginText) (c := (RX11, TX11, 56)) (toV_s eK3) dX11_orders_12 mX11_383.1 mX11_383.2 (Nat.le_of_ble_eq_true rfl) rfl rfl (Nat.le_of_ble_eq_true rfl) (Nat.le_of_ble_eq_true rfl) rfl rfl ?_
  show Go O (d + 1) MX11_orders 15 [some (.ref a0), none, none, none] [] K3 P
  refine g_aload_n dX11_orders_15 rfl ?_
  obtain ⟨K4, eK4, h⟩ := bs h
  refine q_virt (Z := MX11_readOrder) (c := (RX11, TX11, 56)) (toV_s eK4) dX11_orders_16 mX11_528.1 mX11_528.2 (Nat.le_of_ble_eq_true rfl) rfl rfl (Nat.le_of_ble_eq_true rfl) (Nat.le_of_ble_eq_true rfl) rfl rfl ?_
  show Go O (d + 1) MX11_orders 19 [some (.ref a0), none, none, none] [] K4 P
  obtain ⟨r11, er11, h⟩ := bs h
  have hx : Go O (d + 1) MX11_orders 46 [some (.ref a0), none, none, none] [] r11 P := by
    refine Go_le ?_ (e_X11_orders_j46 hret h)
    exact And.intro rfl (trivial)
  refine Go_le ?_ (e_X11_orders_l19 (fun q e => by cases e; exact hx) FU K4 er11)
  exact And.intro rfl (trivial)
noncomputable def F_X11_giveBack_l8 (O : mO) (d : Nat) (v0 : Nat) (v1 : Int32) (s2 : Int32) (K : mH) : Option ((Int32 × mH) ⊕ (mH)) :=
  if (nI 496) ≤ s2 then
    some (.inr K)
  else
    (gtA K v0 11 6).bind fun x3 =>
    (gtA K v0 11 9).bind fun x4 =>
    (rdI O K x4 s2).bind fun x5 =>
    (wrI K x3 s2 x5).bind fun K6 =>
    some (.inl ((s2 + nI 1), K6))
theorem e_X11_giveBack_l8 {O : mO} {d : Nat} {v0 : Nat} {v1 : Int32} {P : Option Value → mH → Prop} {x : mH} (hex : ∀ q : mH, x = q → Go O (d + 1) MX11_giveBack 33 [some (.ref v0), some (.int v1), none] [] q P) : ∀ (f : Nat) (q : Int32 × mH), lupF (fun (q : Int32 × mH) => F_X11_giveBack_l8 O d v0 v1 q.1 q.2) f q = some x → Go O (d + 1) MX11_giveBack 8 [some (.ref v0), some (.int v1), some (.int q.1)] [] q.2 P := by
  intro f
  induction f with
  | zero =>
    intro q h
    cases h
  | succ f ih =>
    intro q h
    obtain ⟨y, h, hy1, hy2⟩ := lupF_s h
    have hin : ∀ q : Int32 × mH, y = .inl q → Go O (d + 1) MX11_giveBack 8 [some (.ref v0), some (.int v1), some (.int q.1)] [] q.2 P := fun q e => ih q (hy1 q e)
    replace hex : ∀ q : mH, y = .inr q → Go O (d + 1) MX11_giveBack 33 [some (.ref v0), some (.int v1), none] [] q P := fun q e => hex q (hy2 q e).symm
    clear ih hy1 hy2
    obtain ⟨s2, K⟩ := q
    dsimp only at h ⊢
    unfold F_X11_giveBack_l8 at h
    refine g_iload_n dX11_giveBack_8 rfl ?_
    refine g_sipush (v := (nI 496)) dX11_giveBack_9 (by decide) ?_
    refine g_ic_ge (t := 33) dX11_giveBack_12 (by decide) (fun c2 => ?_) (fun c2 => ?_)
    · rw [if_pos c2] at h
      refine Go_le ?_ (hex K (Option.some.inj h).symm)
      exact And.intro rfl (And.intro rfl (trivial))
    · rw [if_neg c2] at h
      refine g_aload_n dX11_giveBack_15 rfl ?_
      obtain ⟨x3, ex3, h⟩ := bs h
      refine q_getA dX11_giveBack_16 fX11_23 ex3 ?_
      refine g_iload_n dX11_giveBack_19 rfl ?_
      refine g_aload_n dX11_giveBack_20 rfl ?_
      obtain ⟨x4, ex4, h⟩ := bs h
      refine q_getA dX11_giveBack_21 fX11_29 ex4 ?_
      refine g_iload_n dX11_giveBack_24 rfl ?_
      obtain ⟨x5, ex5, h⟩ := bs h
      refine q_iald dX11_giveBack_25 ex5 ?_
      obtain ⟨K6, eK6, h⟩ := bs h
      refine q_iast dX11_giveBack_26 eK6 ?_
      refine q_iinc (w := nI 1) (ls' := [some (.ref v0), some (.int v1), some (.int (s2 + nI 1))]) dX11_giveBack_27 (by decide) rfl (by decide) rfl ?_
      refine g_goto (t := 8) dX11_giveBack_30 (by decide) ?_
      refine Go_le ?_ (hin ((s2 + nI 1), K6) (Option.some.inj h).symm)
      exact And.intro rfl (And.intro rfl (And.intro rfl (trivial)))
noncomputable def F_X11_giveBack_l35 (O : mO) (d : Nat) (v0 : Nat) (v1 : Int32) (s2 : Int32) (K : mH) : Option ((Int32 × mH) ⊕ (mH)) :=
  if (nI 16) ≤ s2 then
    some (.inr K)
  else
    (gtA K v0 11 7).bind fun x9 =>
    (gtA K v0 11 10).bind fun x10 =>
    (rdI O K x10 s2).bind fun x11 =>
    (wrI K x9 s2 x11).bind fun K12 =>
    some (.inl ((s2 + nI 1), K12))
theorem e_X11_giveBack_l35 {O : mO} {d : Nat} {v0 : Nat} {v1 : Int32} {P : Option Value → mH → Prop} {x : mH} (hex : ∀ q : mH, x = q → Go O (d + 1) MX11_giveBack 59 [some (.ref v0), some (.int v1), none] [] q P) : ∀ (f : Nat) (q : Int32 × mH), lupF (fun (q : Int32 × mH) => F_X11_giveBack_l35 O d v0 v1 q.1 q.2) f q = some x → Go O (d + 1) MX11_giveBack 35 [some (.ref v0), some (.int v1), some (.int q.1)] [] q.2 P := by
  intro f
  induction f with
  | zero =>
    intro q h
    cases h
  | succ f ih =>
    intro q h
    obtain ⟨y, h, hy1, hy2⟩ := lupF_s h
    have hin : ∀ q : Int32 × mH, y = .inl q → Go O (d + 1) MX11_giveBack 35 [some (.ref v0), some (.int v1), some (.int q.1)] [] q.2 P := fun q e => ih q (hy1 q e)
    replace hex : ∀ q : mH, y = .inr q → Go O (d + 1) MX11_giveBack 59 [some (.ref v0), some (.int v1), none] [] q P := fun q e => hex q (hy2 q e).symm
    clear ih hy1 hy2
    obtain ⟨s2, K⟩ := q
    dsimp only at h ⊢
    unfold F_X11_giveBack_l35 at h
    refine g_iload_n dX11_giveBack_35 rfl ?_
    refine g_bipush (v := (nI 16)) dX11_giveBack_36 (by decide) ?_
    refine g_ic_ge (t := 59) dX11_giveBack_38 (by decide) (fun c8 => ?_) (fun c8 => ?_)
    · rw [if_pos c8] at h
      refine Go_le ?_ (hex K (Option.some.inj h).symm)
      exact And.intro rfl (And.intro rfl (trivial))
    · rw [if_neg c8] at h
      refine g_aload_n dX11_giveBack_41 rfl ?_
      obtain ⟨x9, ex9, h⟩ := bs h
      refine q_getA dX11_giveBack_42 fX11_26 ex9 ?_
      refine g_iload_n dX11_giveBack_45 rfl ?_
      refine g_aload_n dX11_giveBack_46 rfl ?_
      obtain ⟨x10, ex10, h⟩ := bs h
      refine q_getA dX11_giveBack_47 fX11_32 ex10 ?_
      refine g_iload_n dX11_giveBack_50 rfl ?_
      obtain ⟨x11, ex11, h⟩ := bs h
      refine q_iald dX11_giveBack_51 ex11 ?_
      obtain ⟨K12, eK12, h⟩ := bs h
      refine q_iast dX11_giveBack_52 eK12 ?_
      refine q_iinc (w := nI 1) (ls' := [some (.ref v0), some (.int v1), some (.int (s2 + nI 1))]) dX11_giveBack_53 (by decide) rfl (by decide) rfl ?_
      refine g_goto (t := 35) dX11_giveBack_56 (by decide) ?_
      refine Go_le ?_ (hin ((s2 + nI 1), K12) (Option.some.inj h).symm)
      exact And.intro rfl (And.intro rfl (And.intro rfl (trivial)))
noncomputable def F_X11_giveBack (O : mO) (d : Nat) (a0 : Nat) (a1 : Int32) (K : mH) : Option (mH) :=
  (toV (vc O d 11 MX11_putBack a0 [.int (nI 17)] K)).bind fun K1 =>
  (lupF (fun (q : Int32 × mH) => F_X11_giveBack_l8 O d a0 a1 q.1 q.2) FU ((nI 0), K1)).bind fun r7 =>
  (lupF (fun (q : Int32 × mH) => F_X11_giveBack_l35 O d a0 a1 q.1 q.2) FU ((nI 0), r7)).bind fun r13 =>
  (ptI r13 a0 11 8 a1).bind fun K14 =>
  some K14
theorem e_X11_giveBack {O : mO} {d : Nat} {a0 : Nat} {a1 : Int32} {K : mH} {x : mH} (h : F_X11_giveBack O d a0 a1 K = some x) : ev O (d + 1) MX11_giveBack [.ref a0, .int a1] K = some (none, x) := by
  refine Rn_evx ?_
  show Go O (d + 1) MX11_giveBack 0 [some (.ref a0), some (.int a1), none] [] K _
  generalize hP : (fun (r : Option Value) (K' : mH) => (r, K') = (none, x)) = P
  have hret : ∀ K' : mH, K' = x → P none K' := by
    intro K' e
    subst hP e
    rfl
  clear hP
  unfold F_X11_giveBack at h
  refine g_aload_n dX11_giveBack_0 rfl ?_
  refine g_bipush (v := (nI 17)) dX11_giveBack_1 (by decide) ?_
  obtain ⟨K1, eK1, h⟩ := bs h
  refine q_virt (Z := MX11_putBack) (c := (RX11, TX11, 56)) (toV_s eK1) dX11_giveBack_3 mX11_166.1 mX11_166.2 (Nat.le_of_ble_eq_true rfl) rfl rfl (Nat.le_of_ble_eq_true rfl) (Nat.le_of_ble_eq_true rfl) rfl rfl ?_
  show Go O (d + 1) MX11_giveBack 6 [some (.ref a0), some (.int a1), none] [] K1 P
  refine g_iconst (v := (nI 0)) dX11_giveBack_6 (by decide) ?_
  refine g_istore_n (ls' := [some (.ref a0), some (.int a1), some (.int (nI 0))]) dX11_giveBack_7 (by decide) rfl ?_
  obtain ⟨r7, er7, h⟩ := bs h
  have hx : Go O (d + 1) MX11_giveBack 33 [some (.ref a0), some (.int a1), none] [] r7 P := by
    refine g_iconst (v := (nI 0)) dX11_giveBack_33 (by decide) ?_
    refine g_istore_n (ls' := [some (.ref a0), some (.int a1), some (.int (nI 0))]) dX11_giveBack_34 (by decide) rfl ?_
    obtain ⟨r13, er13, h⟩ := bs h
    have hx : Go O (d + 1) MX11_giveBack 59 [some (.ref a0), some (.int a1), none] [] r13 P := by
      refine g_aload_n dX11_giveBack_59 rfl ?_
      refine g_iload_n dX11_giveBack_60 rfl ?_
      obtain ⟨K14, eK14, h⟩ := bs h
      refine q_put (c := (RX11, TX11, 56)) dX11_giveBack_61 fX11_155 rfl rfl rfl (fun h => absurd h (by decide)) eK14 ?_
      exact g_return dX11_giveBack_64 rfl (hret _ (Option.some.inj h))
    refine Go_le ?_ (e_X11_giveBack_l35 (fun q e => by cases e; exact hx) FU ((nI 0), r7) er13)
    exact And.intro rfl (And.intro rfl (And.intro rfl (trivial)))
  refine Go_le ?_ (e_X11_giveBack_l8 (fun q e => by cases e; exact hx) FU ((nI 0), K1) er7)
  exact And.intro rfl (And.intro rfl (And.intro rfl (trivial)))
noncomputable def F_X11_stopped (O : mO) (d : Nat) (a0 : Nat) (K : mH) : Option (Int32 × mH) :=
  (ptI K a0 11 0 (nI 0)).bind fun K1 =>
  (gtI K1 a0 11 50).bind fun x2 =>
  some (x2, K1)
theorem e_X11_stopped {O : mO} {d : Nat} {a0 : Nat} {K : mH} {r0 : Int32} {K0 : mH} (h : F_X11_stopped O d a0 K = some (r0, K0)) : ev O (d + 1) MX11_stopped [.ref a0] K = some (some (.int r0), K0) := by
  refine Rn_evx ?_
  show Go O (d + 1) MX11_stopped 0 [some (.ref a0)] [] K _
  generalize hP : (fun (r : Option Value) (K' : mH) => (r, K') = (some (.int r0), K0)) = P
  have hret : ∀ (r : Int32) (K' : mH), (r, K') = (r0, K0) → P (some (.int r)) K' := by
    intro r K' e
    cases e
    subst hP
    rfl
  clear hP
  unfold F_X11_stopped at h
  refine g_aload_n dX11_stopped_0 rfl ?_
  refine g_iconst (v := (nI 0)) dX11_stopped_1 (by decide) ?_
  obtain ⟨K1, eK1, h⟩ := bs h
  refine q_put (c := (RX11, TX11, 56)) dX11_stopped_2 fX11_149 rfl rfl rfl (fun h => absurd h (by decide)) eK1 ?_
  refine g_aload_n dX11_stopped_5 rfl ?_
  obtain ⟨x2, ex2, h⟩ := bs h
  refine q_getI dX11_stopped_6 fX11_137 ex2 ?_
  exact g_ireturn dX11_stopped_9 rfl (by first | rfl | decide) (hret _ _ (Option.some.inj h))
noncomputable def F_X11_draw (O : mO) (d : Nat) (a0 : Nat) (a1 : Int32) (K : mH) : Option (Int32 × mH) :=
  (gtJ K a0 11 52).bind fun x1 =>
  (ptJ K a0 11 52 (((x1 * (1103)) + (12345)) - ((x1 * (1103)) + (12345)) / (1000003) * (1000003))).bind fun K2 =>
  (gtJ K2 a0 11 52).bind fun x3 =>
  if a1.toInt64 = 0 then none else
  some ((x3 - x3 / a1.toInt64 * a1.toInt64).toInt32, K2)
theorem e_X11_draw {O : mO} {d : Nat} {a0 : Nat} {a1 : Int32} {K : mH} {r0 : Int32} {K0 : mH} (h : F_X11_draw O d a0 a1 K = some (r0, K0)) : ev O (d + 1) MX11_draw [.ref a0, .int a1] K = some (some (.int r0), K0) := by
  refine Rn_evx ?_
  show Go O (d + 1) MX11_draw 0 [some (.ref a0), some (.int a1)] [] K _
  generalize hP : (fun (r : Option Value) (K' : mH) => (r, K') = (some (.int r0), K0)) = P
  have hret : ∀ (r : Int32) (K' : mH), (r, K') = (r0, K0) → P (some (.int r)) K' := by
    intro r K' e
    cases e
    subst hP
    rfl
  clear hP
  unfold F_X11_draw at h
  refine g_aload_n dX11_draw_0 rfl ?_
  refine g_aload_n dX11_draw_1 rfl ?_
  obtain ⟨x1, ex1, h⟩ := bs h
  refine q_getJ dX11_draw_2 fX11_537 ex1 ?_
  refine g_ldc2 (v := 1103) dX11_draw_5 lX11_540 ?_
  refine g_lmul dX11_draw_8 ?_
  refine g_ldc2 (v := 12345) dX11_draw_9 lX11_542 ?_
  refine g_ladd dX11_draw_12 ?_
  refine g_ldc2 (v := 1000003) dX11_draw_13 lX11_544 ?_
  refine g_lrem dX11_draw_16 (by decide) ?_
  obtain ⟨K2, eK2, h⟩ := bs h
  refine q_put (c := (RX11, TX11, 56)) dX11_draw_17 fX11_537 rfl rfl rfl (fun h => absurd h (by decide)) eK2 ?_
  refine g_aload_n dX11_draw_20 rfl ?_
  obtain ⟨x3, ex3, h⟩ := bs h
  refine q_getJ dX11_draw_21 fX11_537 ex3 ?_
  refine g_iload_n dX11_draw_24 rfl ?_
  refine g_i2l dX11_draw_25 ?_
  by_cases c4 : a1.toInt64 = 0
  · rw [if_pos c4] at h
    cases h
  rw [if_neg c4] at h
  refine g_lrem dX11_draw_26 c4 ?_
  refine g_l2i dX11_draw_27 ?_
  exact g_ireturn dX11_draw_28 rfl (by first | rfl | decide) (hret _ _ (Option.some.inj h))
noncomputable def F_X11_centuries_j29 (O : mO) (d : Nat) (v0 : Nat) (K : mH) : Option (Int32 × mH) :=
  (toI (vc O d 11 MX11_tell v0 [.int (-1)] K)).bind fun p4 =>
  some (p4.1, p4.2)
theorem e_X11_centuries_j29 {O : mO} {d : Nat} {v0 : Nat} {K : mH} {P : Option Value → mH → Prop} {x : Int32 × mH} (hret : ∀ (r : Int32) (K' : mH), (r, K') = x → P (some (.int r)) K') (h : F_X11_centuries_j29 O d v0 K = some x) : Go O (d + 1) MX11_centuries 29 [some (.ref v0), none, none, none, none, none, none, none] [] K P := by
  unfold F_X11_centuries_j29 at h
  refine g_aload_n dX11_centuries_29 rfl ?_
  refine g_iconst (v := (-1)) dX11_centuries_30 (by decide) ?_
  obtain ⟨p4, ep4, h⟩ := bs h
  refine q_virt (Z := MX11_tell) (c := (RX11, TX11, 56)) (toI_s ep4) dX11_centuries_31 mX11_158.1 mX11_158.2 (Nat.le_of_ble_eq_true rfl) rfl rfl (Nat.le_of_ble_eq_true rfl) (Nat.le_of_ble_eq_true rfl) rfl rfl ?_
  show Go O (d + 1) MX11_centuries 34 [some (.ref v0), none, none, none, none, none, none, none] [.int p4.1] p4.2 P
  exact g_ireturn dX11_centuries_34 rfl (by first | rfl | decide) (hret _ _ (Option.some.inj h))
noncomputable def F_X11_centuries_j185 (O : mO) (d : Nat) (v0 : Nat) (v2 : Int32) (v3 : Int32) (v4 : Int32) (K : mH) : Option ((Int32 × Int32 × mH) ⊕ (Int32 × mH)) :=
  (toI (vc O d 11 MX11_passIt v0 [] K)).bind fun p29 =>
  some (.inl ((v3 + p29.1), (v4 + nI 1), p29.2))
theorem e_X11_centuries_j185 {O : mO} {d : Nat} {v0 : Nat} {v2 : Int32} {v3 : Int32} {v4 : Int32} {K : mH} {P : Option Value → mH → Prop} {y : (Int32 × Int32 × mH) ⊕ (Int32 × mH)} (hin : ∀ q : Int32 × Int32 × mH, y = .inl q → Go O (d + 1) MX11_centuries 68 [some (.ref v0), none, some (.int v2), some (.int q.1), some (.int q.2.1), none, none, none] [] q.2.2 P) (hex : ∀ q : Int32 × mH, y = .inr q → Go O (d + 1) MX11_centuries 198 [some (.ref v0), none, none, some (.int q.1), none, none, none, none] [] q.2 P) (h : F_X11_centuries_j185 O d v0 v2 v3 v4 K = some y) : Go O (d + 1) MX11_centuries 185 [some (.ref v0), none, some (.int v2), some (.int v3), some (.int v4), none, none, none] [] K P := by
  unfold F_X11_centuries_j185 at h
  refine g_iload_n dX11_centuries_185 rfl ?_
  refine g_aload_n dX11_centuries_186 rfl ?_
  obtain ⟨p29, ep29, h⟩ := bs h
  refine q_virt (Z := MX11_passIt) (c := (RX11, TX11, 56)) (toI_s ep29) dX11_centuries_187 mX11_464.1 mX11_464.2 (Nat.le_of_ble_eq_true rfl) rfl rfl (Nat.le_of_ble_eq_true rfl) (Nat.le_of_ble_eq_true rfl) rfl rfl ?_
  show Go O (d + 1) MX11_centuries 190 [some (.ref v0), none, some (.int v2), some (.int v3), some (.int v4), none, none, none] [.int p29.1, .int v3] p29.2 P
  refine g_iadd dX11_centuries_190 ?_
  refine g_istore_n (ls' := [some (.ref v0), none, some (.int v2), some (.int (v3 + p29.1)), some (.int v4), none, none, none]) dX11_centuries_191 (by decide) rfl ?_
  refine q_iinc (w := nI 1) (ls' := [some (.ref v0), none, some (.int v2), some (.int (v3 + p29.1)), some (.int (v4 + nI 1)), none, none, none]) dX11_centuries_192 (by decide) rfl (by decide) rfl ?_
  refine g_goto (t := 68) dX11_centuries_195 (by decide) ?_
  refine Go_le ?_ (hin ((v3 + p29.1), (v4 + nI 1), p29.2) (Option.some.inj h).symm)
  exact And.intro rfl (And.intro rfl (And.intro rfl (And.intro rfl (trivial))))
noncomputable def F_X11_centuries_j164 (O : mO) (d : Nat) (v0 : Nat) (v2 : Int32) (v3 : Int32) (v4 : Int32) (v5 : Int32) (v7 : Int32) (K : mH) : Option ((Int32 × Int32 × mH) ⊕ (Int32 × mH)) :=
  if v7 = (nI 2) then
    (toI (vc O d 11 MX11_canKnock v0 [.int v5] K)).bind fun p30 =>
    if p30.1 = 0 then
      F_X11_centuries_j185 O d v0 v2 v3 v4 p30.2
    else
      (toV (vc O d 11 MX11_knockIt v0 [.int v5] p30.2)).bind fun K33 =>
      F_X11_centuries_j185 O d v0 v2 v3 v4 K33
  else
    F_X11_centuries_j185 O d v0 v2 v3 v4 K
theorem e_X11_centuries_j164 {O : mO} {d : Nat} {v0 : Nat} {v2 : Int32} {v3 : Int32} {v4 : Int32} {v5 : Int32} {v7 : Int32} {K : mH} {P : Option Value → mH → Prop} {y : (Int32 × Int32 × mH) ⊕ (Int32 × mH)} (hin : ∀ q : Int32 × Int32 × mH, y = .inl q → Go O (d + 1) MX11_centuries 68 [some (.ref v0), none, some (.int v2), some (.int q.1), some (.int q.2.1), none, none, none] [] q.2.2 P) (hex : ∀ q : Int32 × mH, y = .inr q → Go O (d + 1) MX11_centuries 198 [some (.ref v0), none, none, some (.int q.1), none, none, none, none] [] q.2 P) (h : F_X11_centuries_j164 O d v0 v2 v3 v4 v5 v7 K = some y) : Go O (d + 1) MX11_centuries 164 [some (.ref v0), none, some (.int v2), some (.int v3), some (.int v4), some (.int v5), none, some (.int v7)] [] K P := by
  unfold F_X11_centuries_j164 at h
  refine g_iload dX11_centuries_164 rfl ?_
  refine g_iconst (v := (nI 2)) dX11_centuries_166 (by decide) ?_
  refine g_ic_ne (t := 185) dX11_centuries_167 (by decide) (fun c28 => ?_) (fun c28 => ?_)
  · rw [if_neg c28] at h
    refine Go_le ?_ (e_X11_centuries_j185 hin hex h)
    exact And.intro rfl (And.intro rfl (And.intro rfl (And.intro rfl (trivial))))
  · rw [if_pos c28] at h
    refine g_aload_n dX11_centuries_170 rfl ?_
    refine g_iload dX11_centuries_171 rfl ?_
    obtain ⟨p30, ep30, h⟩ := bs h
    refine q_virt (Z := MX11_canKnock) (c := (RX11, TX11, 56)) (toI_s ep30) dX11_centuries_173 mX11_455.1 mX11_455.2 (Nat.le_of_ble_eq_true rfl) rfl rfl (Nat.le_of_ble_eq_true rfl) (Nat.le_of_ble_eq_true rfl) rfl rfl ?_
    show Go O (d + 1) MX11_centuries 176 [some (.ref v0), none, some (.int v2), some (.int v3), some (.int v4), some (.int v5), none, some (.int v7)] [.int p30.1] p30.2 P
    refine g_if_eq (t := 185) dX11_centuries_176 (by decide) (fun c32 => ?_) (fun c32 => ?_)
    · rw [if_pos c32] at h
      refine Go_le ?_ (e_X11_centuries_j185 hin hex h)
      exact And.intro rfl (And.intro rfl (And.intro rfl (And.intro rfl (trivial))))
    · rw [if_neg c32] at h
      refine g_aload_n dX11_centuries_179 rfl ?_
      refine g_iload dX11_centuries_180 rfl ?_
      obtain ⟨K33, eK33, h⟩ := bs h
      refine q_virt (Z := MX11_knockIt) (c := (RX11, TX11, 56)) (toV_s eK33) dX11_centuries_182 mX11_458.1 mX11_458.2 (Nat.le_of_ble_eq_true rfl) rfl rfl (Nat.le_of_ble_eq_true rfl) (Nat.le_of_ble_eq_true rfl) rfl rfl ?_
      show Go O (d + 1) MX11_centuries 185 [some (.ref v0), none, some (.int v2), some (.int v3), some (.int v4), some (.int v5), none, some (.int v7)] [] K33 P
      refine Go_le ?_ (e_X11_centuries_j185 hin hex h)
      exact And.intro rfl (And.intro rfl (And.intro rfl (And.intro rfl (trivial))))
noncomputable def F_X11_centuries_j139 (O : mO) (d : Nat) (v0 : Nat) (v2 : Int32) (v3 : Int32) (v4 : Int32) (v5 : Int32) (v6 : Int32) (v7 : Int32) (K : mH) : Option ((Int32 × Int32 × mH) ⊕ (Int32 × mH)) :=
  if v7 = (nI 1) then
    (toI (vc O d 11 MX11_canLodge v0 [.int v5, .int v6] K)).bind fun p34 =>
    if p34.1 = 0 then
      F_X11_centuries_j164 O d v0 v2 v3 v4 v5 v7 p34.2
    else
      (toV (vc O d 11 MX11_lodgeIt v0 [.int v5, .int v6] p34.2)).bind fun K37 =>
      F_X11_centuries_j164 O d v0 v2 v3 v4 v5 v7 K37
  else
    F_X11_centuries_j164 O d v0 v2 v3 v4 v5 v7 K
theorem e_X11_centuries_j139 {O : mO} {d : Nat} {v0 : Nat} {v2 : Int32} {v3 : Int32} {v4 : Int32} {v5 : Int32} {v6 : Int32} {v7 : Int32} {K : mH} {P : Option Value → mH → Prop} {y : (Int32 × Int32 × mH) ⊕ (Int32 × mH)} (hin : ∀ q : Int32 × Int32 × mH, y = .inl q → Go O (d + 1) MX11_centuries 68 [some (.ref v0), none, some (.int v2), some (.int q.1), some (.int q.2.1), none, none, none] [] q.2.2 P) (hex : ∀ q : Int32 × mH, y = .inr q → Go O (d + 1) MX11_centuries 198 [some (.ref v0), none, none, some (.int q.1), none, none, none, none] [] q.2 P) (h : F_X11_centuries_j139 O d v0 v2 v3 v4 v5 v6 v7 K = some y) : Go O (d + 1) MX11_centuries 139 [some (.ref v0), none, some (.int v2), some (.int v3), some (.int v4), some (.int v5), some (.int v6), some (.int v7)] [] K P := by
  unfold F_X11_centuries_j139 at h
  refine g_iload dX11_centuries_139 rfl ?_
  refine g_iconst (v := (nI 1)) dX11_centuries_141 (by decide) ?_
  refine g_ic_ne (t := 164) dX11_centuries_142 (by decide) (fun c26 => ?_) (fun c26 => ?_)
  · rw [if_neg c26] at h
    refine Go_le ?_ (e_X11_centuries_j164 hin hex h)
    exact And.intro rfl (And.intro rfl (And.intro rfl (And.intro rfl (And.intro rfl (And.intro rfl (trivial))))))
  · rw [if_pos c26] at h
    refine g_aload_n dX11_centuries_145 rfl ?_
    refine g_iload dX11_centuries_146 rfl ?_
    refine g_iload dX11_centuries_148 rfl ?_
    obtain ⟨p34, ep34, h⟩ := bs h
    refine q_virt (Z := MX11_canLodge) (c := (RX11, TX11, 56)) (toI_s ep34) dX11_centuries_150 mX11_446.1 mX11_446.2 (Nat.le_of_ble_eq_true rfl) rfl rfl (Nat.le_of_ble_eq_true rfl) (Nat.le_of_ble_eq_true rfl) rfl rfl ?_
    show Go O (d + 1) MX11_centuries 153 [some (.ref v0), none, some (.int v2), some (.int v3), some (.int v4), some (.int v5), some (.int v6), some (.int v7)] [.int p34.1] p34.2 P
    refine g_if_eq (t := 164) dX11_centuries_153 (by decide) (fun c36 => ?_) (fun c36 => ?_)
    · rw [if_pos c36] at h
      refine Go_le ?_ (e_X11_centuries_j164 hin hex h)
      exact And.intro rfl (And.intro rfl (And.intro rfl (And.intro rfl (And.intro rfl (And.intro rfl (trivial))))))
    · rw [if_neg c36] at h
      refine g_aload_n dX11_centuries_156 rfl ?_
      refine g_iload dX11_centuries_157 rfl ?_
      refine g_iload dX11_centuries_159 rfl ?_
      obtain ⟨K37, eK37, h⟩ := bs h
      refine q_virt (Z := MX11_lodgeIt) (c := (RX11, TX11, 56)) (toV_s eK37) dX11_centuries_161 mX11_449.1 mX11_449.2 (Nat.le_of_ble_eq_true rfl) rfl rfl (Nat.le_of_ble_eq_true rfl) (Nat.le_of_ble_eq_true rfl) rfl rfl ?_
      show Go O (d + 1) MX11_centuries 164 [some (.ref v0), none, some (.int v2), some (.int v3), some (.int v4), some (.int v5), some (.int v6), some (.int v7)] [] K37 P
      refine Go_le ?_ (e_X11_centuries_j164 hin hex h)
      exact And.intro rfl (And.intro rfl (And.intro rfl (And.intro rfl (And.intro rfl (And.intro rfl (trivial))))))
noncomputable def F_X11_centuries_l68 (O : mO) (d : Nat) (v0 : Nat) (v2 : Int32) (s3 : Int32) (s4 : Int32) (K : mH) : Option ((Int32 × Int32 × mH) ⊕ (Int32 × mH)) :=
  if v2 ≤ s4 then
    some (.inr (s3, K))
  else
    (gtA K v0 11 3).bind fun x13 =>
    (rdI O K x13 (nI 6)).bind fun x14 =>
    if (nI 999) ≤ x14 then
      some (.inr (s3, K))
    else
      (gtA K v0 11 3).bind fun x16 =>
      (rdI O K x16 (nI 2)).bind fun x17 =>
      (toI (vc O d 11 MX11_draw v0 [.int x17] K)).bind fun p18 =>
      (gtA p18.2 v0 11 3).bind fun x19 =>
      (rdI O p18.2 x19 (nI 0)).bind fun x20 =>
      (toI (vc O d 11 MX11_draw v0 [.int x20] p18.2)).bind fun p21 =>
      (toI (vc O d 11 MX11_draw v0 [.int (nI 3)] p21.2)).bind fun p22 =>
      if p22.1 = 0 then
        (toI (vc O d 11 MX11_canRenew v0 [.int p18.1] p22.2)).bind fun p38 =>
        if p38.1 = 0 then
          F_X11_centuries_j139 O d v0 v2 s3 s4 p18.1 p21.1 p22.1 p38.2
        else
          (toI (vc O d 11 MX11_renewIt v0 [.int p18.1] p38.2)).bind fun p41 =>
          F_X11_centuries_j139 O d v0 v2 s3 s4 p18.1 p21.1 p22.1 p41.2
      else
        F_X11_centuries_j139 O d v0 v2 s3 s4 p18.1 p21.1 p22.1 p22.2
theorem e_X11_centuries_l68 {O : mO} {d : Nat} {v0 : Nat} {v2 : Int32} {P : Option Value → mH → Prop} {x : Int32 × mH} (hex : ∀ q : Int32 × mH, x = q → Go O (d + 1) MX11_centuries 198 [some (.ref v0), none, none, some (.int q.1), none, none, none, none] [] q.2 P) : ∀ (f : Nat) (q : Int32 × Int32 × mH), lupF (fun (q : Int32 × Int32 × mH) => F_X11_centuries_l68 O d v0 v2 q.1 q.2.1 q.2.2) f q = some x → Go O (d + 1) MX11_centuries 68 [some (.ref v0), none, some (.int v2), some (.int q.1), some (.int q.2.1), none, none, none] [] q.2.2 P := by
  intro f
  induction f with
  | zero =>
    intro q h
    cases h
  | succ f ih =>
    intro q h
    obtain ⟨y, h, hy1, hy2⟩ := lupF_s h
    have hin : ∀ q : Int32 × Int32 × mH, y = .inl q → Go O (d + 1) MX11_centuries 68 [some (.ref v0), none, some (.int v2), some (.int q.1), some (.int q.2.1), none, none, none] [] q.2.2 P := fun q e => ih q (hy1 q e)
    replace hex : ∀ q : Int32 × mH, y = .inr q → Go O (d + 1) MX11_centuries 198 [some (.ref v0), none, none, some (.int q.1), none, none, none, none] [] q.2 P := fun q e => hex q (hy2 q e).symm
    clear ih hy1 hy2
    obtain ⟨s3, s4, K⟩ := q
    dsimp only at h ⊢
    unfold F_X11_centuries_l68 at h
    refine g_iload dX11_centuries_68 rfl ?_
    refine g_iload_n dX11_centuries_70 rfl ?_
    refine g_ic_ge (t := 198) dX11_centuries_71 (by decide) (fun c12 => ?_) (fun c12 => ?_)
    · rw [if_pos c12] at h
      refine Go_le ?_ (hex (s3, K) (Option.some.inj h).symm)
      exact And.intro rfl (And.intro rfl (trivial))
    · rw [if_neg c12] at h
      refine g_aload_n dX11_centuries_74 rfl ?_
      obtain ⟨x13, ex13, h⟩ := bs h
      refine q_getA dX11_centuries_75 fX11_13 ex13 ?_
      refine g_bipush (v := (nI 6)) dX11_centuries_78 (by decide) ?_
      obtain ⟨x14, ex14, h⟩ := bs h
      refine q_iald dX11_centuries_80 ex14 ?_
      refine g_sipush (v := (nI 999)) dX11_centuries_81 (by decide) ?_
      refine g_ic_ge (t := 198) dX11_centuries_84 (by decide) (fun c15 => ?_) (fun c15 => ?_)
      · rw [if_pos c15] at h
        refine Go_le ?_ (hex (s3, K) (Option.some.inj h).symm)
        exact And.intro rfl (And.intro rfl (trivial))
      · rw [if_neg c15] at h
        refine g_aload_n dX11_centuries_87 rfl ?_
        refine g_aload_n dX11_centuries_88 rfl ?_
        obtain ⟨x16, ex16, h⟩ := bs h
        refine q_getA dX11_centuries_89 fX11_13 ex16 ?_
        refine g_iconst (v := (nI 2)) dX11_centuries_92 (by decide) ?_
        obtain ⟨x17, ex17, h⟩ := bs h
        refine q_iald dX11_centuries_93 ex17 ?_
        obtain ⟨p18, ep18, h⟩ := bs h
        refine q_virt (Z := MX11_draw) (c := (RX11, TX11, 56)) (toI_s ep18) dX11_centuries_94 mX11_548.1 mX11_548.2 (Nat.le_of_ble_eq_true rfl) rfl rfl (Nat.le_of_ble_eq_true rfl) (Nat.le_of_ble_eq_true rfl) rfl rfl ?_
        show Go O (d + 1) MX11_centuries 97 [some (.ref v0), none, some (.int v2), some (.int s3), some (.int s4), none, none, none] [.int p18.1] p18.2 P
        refine g_istore (ls' := [some (.ref v0), none, some (.int v2), some (.int s3), some (.int s4), some (.int p18.1), none, none]) dX11_centuries_97 (by decide) rfl ?_
        refine g_aload_n dX11_centuries_99 rfl ?_
        refine g_aload_n dX11_centuries_100 rfl ?_
        obtain ⟨x19, ex19, h⟩ := bs h
        refine q_getA dX11_centuries_101 fX11_13 ex19 ?_
        refine g_iconst (v := (nI 0)) dX11_centuries_104 (by decide) ?_
        obtain ⟨x20, ex20, h⟩ := bs h
        refine q_iald dX11_centuries_105 ex20 ?_
        obtain ⟨p21, ep21, h⟩ := bs h
        refine q_virt (Z := MX11_draw) (c := (RX11, TX11, 56)) (toI_s ep21) dX11_centuries_106 mX11_548.1 mX11_548.2 (Nat.le_of_ble_eq_true rfl) rfl rfl (Nat.le_of_ble_eq_true rfl) (Nat.le_of_ble_eq_true rfl) rfl rfl ?_
        show Go O (d + 1) MX11_centuries 109 [some (.ref v0), none, some (.int v2), some (.int s3), some (.int s4), some (.int p18.1), none, none] [.int p21.1] p21.2 P
        refine g_istore (ls' := [some (.ref v0), none, some (.int v2), some (.int s3), some (.int s4), some (.int p18.1), some (.int p21.1), none]) dX11_centuries_109 (by decide) rfl ?_
        refine g_aload_n dX11_centuries_111 rfl ?_
        refine g_iconst (v := (nI 3)) dX11_centuries_112 (by decide) ?_
        obtain ⟨p22, ep22, h⟩ := bs h
        refine q_virt (Z := MX11_draw) (c := (RX11, TX11, 56)) (toI_s ep22) dX11_centuries_113 mX11_548.1 mX11_548.2 (Nat.le_of_ble_eq_true rfl) rfl rfl (Nat.le_of_ble_eq_true rfl) (Nat.le_of_ble_eq_true rfl) rfl rfl ?_
        show Go O (d + 1) MX11_centuries 116 [some (.ref v0), none, some (.int v2), some (.int s3), some (.int s4), some (.int p18.1), some (.int p21.1), none] [.int p22.1] p22.2 P
        refine g_istore (ls' := [some (.ref v0), none, some (.int v2), some (.int s3), some (.int s4), some (.int p18.1), some (.int p21.1), some (.int p22.1)]) dX11_centuries_116 (by decide) rfl ?_
        refine g_iload dX11_centuries_118 rfl ?_
        refine g_if_ne (t := 139) dX11_centuries_120 (by decide) (fun c24 => ?_) (fun c24 => ?_)
        · rw [if_neg c24] at h
          refine Go_le ?_ (e_X11_centuries_j139 hin hex h)
          exact And.intro rfl (And.intro rfl (And.intro rfl (And.intro rfl (And.intro rfl (And.intro rfl (And.intro rfl (trivial)))))))
        · rw [if_pos c24] at h
          refine g_aload_n dX11_centuries_123 rfl ?_
          refine g_iload dX11_centuries_124 rfl ?_
          obtain ⟨p38, ep38, h⟩ := bs h
          refine q_virt (Z := MX11_canRenew) (c := (RX11, TX11, 56)) (toI_s ep38) dX11_centuries_126 mX11_434.1 mX11_434.2 (Nat.le_of_ble_eq_true rfl) rfl rfl (Nat.le_of_ble_eq_true rfl) (Nat.le_of_ble_eq_true rfl) rfl rfl ?_
          show Go O (d + 1) MX11_centuries 129 [some (.ref v0), none, some (.int v2), some (.int s3), some (.int s4), some (.int p18.1), some (.int p21.1), some (.int p22.1)] [.int p38.1] p38.2 P
          refine g_if_eq (t := 139) dX11_centuries_129 (by decide) (fun c40 => ?_) (fun c40 => ?_)
          · rw [if_pos c40] at h
            refine Go_le ?_ (e_X11_centuries_j139 hin hex h)
            exact And.intro rfl (And.intro rfl (And.intro rfl (And.intro rfl (And.intro rfl (And.intro rfl (And.intro rfl (trivial)))))))
          · rw [if_neg c40] at h
            refine g_aload_n dX11_centuries_132 rfl ?_
            refine g_iload dX11_centuries_133 rfl ?_
            obtain ⟨p41, ep41, h⟩ := bs h
            refine q_virt (Z := MX11_renewIt) (c := (RX11, TX11, 56)) (toI_s ep41) dX11_centuries_135 mX11_440.1 mX11_440.2 (Nat.le_of_ble_eq_true rfl) rfl rfl (Nat.le_of_ble_eq_true rfl) (Nat.le_of_ble_eq_true rfl) rfl rfl ?_
            show Go O (d + 1) MX11_centuries 138 [some (.ref v0), none, some (.int v2), some (.int s3), some (.int s4), some (.int p18.1), some (.int p21.1), some (.int p22.1)] [.int p41.1] p41.2 P
            refine g_pop dX11_centuries_138 (by first | rfl | exact vrf_cat _) ?_
            refine Go_le ?_ (e_X11_centuries_j139 hin hex h)
            exact And.intro rfl (And.intro rfl (And.intro rfl (And.intro rfl (And.intro rfl (And.intro rfl (And.intro rfl (trivial)))))))
noncomputable def F_X11_centuries_l201 (O : mO) (d : Nat) (v0 : Nat) (v3 : Int32) (s4 : Int32) (K : mH) : Option ((Int32 × mH) ⊕ (mH)) :=
  if (nI 31) ≤ s4 then
    some (.inr K)
  else
    (gtA K v0 11 53).bind fun x44 =>
    (gtA K v0 11 3).bind fun x45 =>
    (rdI O K x45 ((nI 6) + s4)).bind fun x46 =>
    (wrI K x44 s4 x46).bind fun K47 =>
    some (.inl ((s4 + nI 1), K47))
theorem e_X11_centuries_l201 {O : mO} {d : Nat} {v0 : Nat} {v3 : Int32} {P : Option Value → mH → Prop} {x : mH} (hex : ∀ q : mH, x = q → Go O (d + 1) MX11_centuries 231 [some (.ref v0), none, none, some (.int v3), none, none, none, none] [] q P) : ∀ (f : Nat) (q : Int32 × mH), lupF (fun (q : Int32 × mH) => F_X11_centuries_l201 O d v0 v3 q.1 q.2) f q = some x → Go O (d + 1) MX11_centuries 201 [some (.ref v0), none, none, some (.int v3), some (.int q.1), none, none, none] [] q.2 P := by
  intro f
  induction f with
  | zero =>
    intro q h
    cases h
  | succ f ih =>
    intro q h
    obtain ⟨y, h, hy1, hy2⟩ := lupF_s h
    have hin : ∀ q : Int32 × mH, y = .inl q → Go O (d + 1) MX11_centuries 201 [some (.ref v0), none, none, some (.int v3), some (.int q.1), none, none, none] [] q.2 P := fun q e => ih q (hy1 q e)
    replace hex : ∀ q : mH, y = .inr q → Go O (d + 1) MX11_centuries 231 [some (.ref v0), none, none, some (.int v3), none, none, none, none] [] q P := fun q e => hex q (hy2 q e).symm
    clear ih hy1 hy2
    obtain ⟨s4, K⟩ := q
    dsimp only at h ⊢
    unfold F_X11_centuries_l201 at h
    refine g_iload dX11_centuries_201 rfl ?_
    refine g_bipush (v := (nI 31)) dX11_centuries_203 (by decide) ?_
    refine g_ic_ge (t := 231) dX11_centuries_205 (by decide) (fun c43 => ?_) (fun c43 => ?_)
    · rw [if_pos c43] at h
      refine Go_le ?_ (hex K (Option.some.inj h).symm)
      exact And.intro rfl (And.intro rfl (trivial))
    · rw [if_neg c43] at h
      refine g_aload_n dX11_centuries_208 rfl ?_
      obtain ⟨x44, ex44, h⟩ := bs h
      refine q_getA dX11_centuries_209 fX11_140 ex44 ?_
      refine g_iload dX11_centuries_212 rfl ?_
      refine g_aload_n dX11_centuries_214 rfl ?_
      obtain ⟨x45, ex45, h⟩ := bs h
      refine q_getA dX11_centuries_215 fX11_13 ex45 ?_
      refine g_bipush (v := (nI 6)) dX11_centuries_218 (by decide) ?_
      refine g_iload dX11_centuries_220 rfl ?_
      refine g_iadd dX11_centuries_222 ?_
      obtain ⟨x46, ex46, h⟩ := bs h
      refine q_iald dX11_centuries_223 ex46 ?_
      obtain ⟨K47, eK47, h⟩ := bs h
      refine q_iast dX11_centuries_224 eK47 ?_
      refine q_iinc (w := nI 1) (ls' := [some (.ref v0), none, none, some (.int v3), some (.int (s4 + nI 1)), none, none, none]) dX11_centuries_225 (by decide) rfl (by decide) rfl ?_
      refine g_goto (t := 201) dX11_centuries_228 (by decide) ?_
      refine Go_le ?_ (hin ((s4 + nI 1), K47) (Option.some.inj h).symm)
      exact And.intro rfl (And.intro rfl (And.intro rfl (trivial)))
noncomputable def F_X11_centuries_j198 (O : mO) (d : Nat) (v0 : Nat) (v3 : Int32) (K : mH) : Option (Int32 × mH) :=
  (lupF (fun (q : Int32 × mH) => F_X11_centuries_l201 O d v0 v3 q.1 q.2) FU ((nI 0), K)).bind fun r48 =>
  (gtA r48 v0 11 3).bind fun x49 =>
  (rdI O r48 x49 (nI 2)).bind fun x50 =>
  (ptI r48 v0 11 54 x50).bind fun K51 =>
  (gtA K51 v0 11 3).bind fun x52 =>
  (rdI O K51 x52 (nI 1)).bind fun x53 =>
  (ptI K51 v0 11 55 x53).bind fun K54 =>
  (toV (vc O d 11 MX11_putBack v0 [.int (nI 16)] K54)).bind fun K55 =>
  (toI (vc O d 11 MX11_tell v0 [.int v3] K55)).bind fun p56 =>
  some (p56.1, p56.2)
theorem e_X11_centuries_j198 {O : mO} {d : Nat} {v0 : Nat} {v3 : Int32} {K : mH} {P : Option Value → mH → Prop} {x : Int32 × mH} (hret : ∀ (r : Int32) (K' : mH), (r, K') = x → P (some (.int r)) K') (h : F_X11_centuries_j198 O d v0 v3 K = some x) : Go O (d + 1) MX11_centuries 198 [some (.ref v0), none, none, some (.int v3), none, none, none, none] [] K P := by
  unfold F_X11_centuries_j198 at h
  refine g_iconst (v := (nI 0)) dX11_centuries_198 (by decide) ?_
  refine g_istore (ls' := [some (.ref v0), none, none, some (.int v3), some (.int (nI 0)), none, none, none]) dX11_centuries_199 (by decide) rfl ?_
  obtain ⟨r48, er48, h⟩ := bs h
  have hx : Go O (d + 1) MX11_centuries 231 [some (.ref v0), none, none, some (.int v3), none, none, none, none] [] r48 P := by
    refine g_aload_n dX11_centuries_231 rfl ?_
    refine g_aload_n dX11_centuries_232 rfl ?_
    obtain ⟨x49, ex49, h⟩ := bs h
    refine q_getA dX11_centuries_233 fX11_13 ex49 ?_
    refine g_iconst (v := (nI 2)) dX11_centuries_236 (by decide) ?_
    obtain ⟨x50, ex50, h⟩ := bs h
    refine q_iald dX11_centuries_237 ex50 ?_
    obtain ⟨K51, eK51, h⟩ := bs h
    refine q_put (c := (RX11, TX11, 56)) dX11_centuries_238 fX11_143 rfl rfl rfl (fun h => absurd h (by decide)) eK51 ?_
    refine g_aload_n dX11_centuries_241 rfl ?_
    refine g_aload_n dX11_centuries_242 rfl ?_
    obtain ⟨x52, ex52, h⟩ := bs h
    refine q_getA dX11_centuries_243 fX11_13 ex52 ?_
    refine g_iconst (v := (nI 1)) dX11_centuries_246 (by decide) ?_
    obtain ⟨x53, ex53, h⟩ := bs h
    refine q_iald dX11_centuries_247 ex53 ?_
    obtain ⟨K54, eK54, h⟩ := bs h
    refine q_put (c := (RX11, TX11, 56)) dX11_centuries_248 fX11_146 rfl rfl rfl (fun h => absurd h (by decide)) eK54 ?_
    refine g_aload_n dX11_centuries_251 rfl ?_
    refine g_bipush (v := (nI 16)) dX11_centuries_252 (by decide) ?_
    obtain ⟨K55, eK55, h⟩ := bs h
    refine q_virt (Z := MX11_putBack) (c := (RX11, TX11, 56)) (toV_s eK55) dX11_centuries_254 mX11_166.1 mX11_166.2 (Nat.le_of_ble_eq_true rfl) rfl rfl (Nat.le_of_ble_eq_true rfl) (Nat.le_of_ble_eq_true rfl) rfl rfl ?_
    show Go O (d + 1) MX11_centuries 257 [some (.ref v0), none, none, some (.int v3), none, none, none, none] [] K55 P
    refine g_aload_n dX11_centuries_257 rfl ?_
    refine g_iload_n dX11_centuries_258 rfl ?_
    obtain ⟨p56, ep56, h⟩ := bs h
    refine q_virt (Z := MX11_tell) (c := (RX11, TX11, 56)) (toI_s ep56) dX11_centuries_259 mX11_158.1 mX11_158.2 (Nat.le_of_ble_eq_true rfl) rfl rfl (Nat.le_of_ble_eq_true rfl) (Nat.le_of_ble_eq_true rfl) rfl rfl ?_
    show Go O (d + 1) MX11_centuries 262 [some (.ref v0), none, none, some (.int v3), none, none, none, none] [.int p56.1] p56.2 P
    exact g_ireturn dX11_centuries_262 rfl (by first | rfl | decide) (hret _ _ (Option.some.inj h))
  refine Go_le ?_ (e_X11_centuries_l201 (fun q e => by cases e; exact hx) FU ((nI 0), K) er48)
  exact And.intro rfl (And.intro rfl (And.intro rfl (trivial)))
noncomputable def F_X11_centuries (O : mO) (d : Nat) (a0 : Nat) (a1 : Int32) (a2 : Int32) (K : mH) : Option (Int32 × mH) :=
  (ptI K a0 11 0 (nI 0)).bind fun K1 =>
  (toI (ev O d MX11_in [.long a1.toInt64, .long 0, .long (1000000)] K1)).bind fun p2 =>
  if p2.1 = 0 then
    F_X11_centuries_j29 O d a0 p2.2
  else
    (toI (ev O d MX11_in [.long a2.toInt64, .long 1, .long (60)] p2.2)).bind fun p5 =>
    if p5.1 = 0 then
      F_X11_centuries_j29 O d a0 p5.2
    else
      (gtA p5.2 a0 11 3).bind fun x7 =>
      (rdI O p5.2 x7 (nI 2)).bind fun x8 =>
      if x8 = 0 then
        (toI (vc O d 11 MX11_tell a0 [.int (-3)] p5.2)).bind fun p57 =>
        some (p57.1, p57.2)
      else
        (toV (vc O d 11 MX11_keepAll a0 [.int (nI 16)] p5.2)).bind fun K10 =>
        (ptJ K10 a0 11 52 a1.toInt64).bind fun K11 =>
        (lupF (fun (q : Int32 × Int32 × mH) => F_X11_centuries_l68 O d a0 a2 q.1 q.2.1 q.2.2) FU ((nI 0), (nI 0), K11)).bind fun r42 =>
        F_X11_centuries_j198 O d a0 r42.1 r42.2
theorem e_X11_centuries {O : mO} {d : Nat} {a0 : Nat} {a1 : Int32} {a2 : Int32} {K : mH} {r0 : Int32} {K0 : mH} (h : F_X11_centuries O d a0 a1 a2 K = some (r0, K0)) : ev O (d + 1) MX11_centuries [.ref a0, .int a1, .int a2] K = some (some (.int r0), K0) := by
  refine Rn_evx ?_
  show Go O (d + 1) MX11_centuries 0 [some (.ref a0), some (.int a1), some (.int a2), none, none, none, none, none] [] K _
  generalize hP : (fun (r : Option Value) (K' : mH) => (r, K') = (some (.int r0), K0)) = P
  have hret : ∀ (r : Int32) (K' : mH), (r, K') = (r0, K0) → P (some (.int r)) K' := by
    intro r K' e
    cases e
    subst hP
    rfl
  clear hP
  unfold F_X11_centuries at h
  refine g_aload_n dX11_centuries_0 rfl ?_
  refine g_iconst (v := (nI 0)) dX11_centuries_1 (by decide) ?_
  obtain ⟨K1, eK1, h⟩ := bs h
  refine q_put (c := (RX11, TX11, 56)) dX11_centuries_2 fX11_149 rfl rfl rfl (fun h => absurd h (by decide)) eK1 ?_
  refine g_iload_n dX11_centuries_5 rfl ?_
  refine g_i2l dX11_centuries_6 ?_
  refine g_lconst (v := 0) dX11_centuries_7 (by decide) ?_
  refine g_ldc2 (v := 1000000) dX11_centuries_8 lX11_273 ?_
  obtain ⟨p2, ep2, h⟩ := bs h
  refine q_stat (Z := MX11_in) (toI_s ep2) dX11_centuries_11 mX11_169.1 mX11_169.2 (Nat.le_of_ble_eq_true rfl) rfl rfl (Nat.le_of_ble_eq_true rfl) (Nat.le_of_ble_eq_true rfl) ?_
  show Go O (d + 1) MX11_centuries 14 [some (.ref a0), some (.int a1), some (.int a2), none, none, none, none, none] [.int p2.1] p2.2 P
  refine g_if_eq (t := 29) dX11_centuries_14 (by decide) (fun c3 => ?_) (fun c3 => ?_)
  · rw [if_pos c3] at h
    refine Go_le ?_ (e_X11_centuries_j29 hret h)
    exact And.intro rfl (trivial)
  · rw [if_neg c3] at h
    refine g_iload_n dX11_centuries_17 rfl ?_
    refine g_i2l dX11_centuries_18 ?_
    refine g_lconst (v := 1) dX11_centuries_19 (by decide) ?_
    refine g_ldc2 (v := 60) dX11_centuries_20 lX11_546 ?_
    obtain ⟨p5, ep5, h⟩ := bs h
    refine q_stat (Z := MX11_in) (toI_s ep5) dX11_centuries_23 mX11_169.1 mX11_169.2 (Nat.le_of_ble_eq_true rfl) rfl rfl (Nat.le_of_ble_eq_true rfl) (Nat.le_of_ble_eq_true rfl) ?_
    show Go O (d + 1) MX11_centuries 26 [some (.ref a0), some (.int a1), some (.int a2), none, none, none, none, none] [.int p5.1] p5.2 P
    refine g_if_ne (t := 35) dX11_centuries_26 (by decide) (fun c6 => ?_) (fun c6 => ?_)
    · rw [if_neg c6] at h
      refine g_aload_n dX11_centuries_35 rfl ?_
      obtain ⟨x7, ex7, h⟩ := bs h
      refine q_getA dX11_centuries_36 fX11_13 ex7 ?_
      refine g_iconst (v := (nI 2)) dX11_centuries_39 (by decide) ?_
      obtain ⟨x8, ex8, h⟩ := bs h
      refine q_iald dX11_centuries_40 ex8 ?_
      refine g_if_ne (t := 51) dX11_centuries_41 (by decide) (fun c9 => ?_) (fun c9 => ?_)
      · rw [if_neg c9] at h
        refine g_aload_n dX11_centuries_51 rfl ?_
        refine g_bipush (v := (nI 16)) dX11_centuries_52 (by decide) ?_
        obtain ⟨K10, eK10, h⟩ := bs h
        refine q_virt (Z := MX11_keepAll) (c := (RX11, TX11, 56)) (toV_s eK10) dX11_centuries_54 mX11_162.1 mX11_162.2 (Nat.le_of_ble_eq_true rfl) rfl rfl (Nat.le_of_ble_eq_true rfl) (Nat.le_of_ble_eq_true rfl) rfl rfl ?_
        show Go O (d + 1) MX11_centuries 57 [some (.ref a0), some (.int a1), some (.int a2), none, none, none, none, none] [] K10 P
        refine g_aload_n dX11_centuries_57 rfl ?_
        refine g_iload_n dX11_centuries_58 rfl ?_
        refine g_i2l dX11_centuries_59 ?_
        obtain ⟨K11, eK11, h⟩ := bs h
        refine q_put (c := (RX11, TX11, 56)) dX11_centuries_60 fX11_537 rfl rfl rfl (fun h => absurd h (by decide)) eK11 ?_
        refine g_iconst (v := (nI 0)) dX11_centuries_63 (by decide) ?_
        refine g_istore_n (ls' := [some (.ref a0), some (.int a1), some (.int a2), some (.int (nI 0)), none, none, none, none]) dX11_centuries_64 (by decide) rfl ?_
        refine g_iconst (v := (nI 0)) dX11_centuries_65 (by decide) ?_
        refine g_istore (ls' := [some (.ref a0), some (.int a1), some (.int a2), some (.int (nI 0)), some (.int (nI 0)), none, none, none]) dX11_centuries_66 (by decide) rfl ?_
        obtain ⟨r42, er42, h⟩ := bs h
        have hx : Go O (d + 1) MX11_centuries 198 [some (.ref a0), none, none, some (.int r42.1), none, none, none, none] [] r42.2 P := by
          refine Go_le ?_ (e_X11_centuries_j198 hret h)
          exact And.intro rfl (And.intro rfl (trivial))
        refine Go_le ?_ (e_X11_centuries_l68 (fun q e => by cases e; exact hx) FU ((nI 0), (nI 0), K11) er42)
        exact And.intro rfl (And.intro rfl (And.intro rfl (And.intro rfl (trivial))))
      · rw [if_pos c9] at h
        refine g_aload_n dX11_centuries_44 rfl ?_
        refine g_bipush (v := (-3)) dX11_centuries_45 (by decide) ?_
        obtain ⟨p57, ep57, h⟩ := bs h
        refine q_virt (Z := MX11_tell) (c := (RX11, TX11, 56)) (toI_s ep57) dX11_centuries_47 mX11_158.1 mX11_158.2 (Nat.le_of_ble_eq_true rfl) rfl rfl (Nat.le_of_ble_eq_true rfl) (Nat.le_of_ble_eq_true rfl) rfl rfl ?_
        show Go O (d + 1) MX11_centuries 50 [some (.ref a0), some (.int a1), some (.int a2), none, none, none, none, none] [.int p57.1] p57.2 P
        exact g_ireturn dX11_centuries_50 rfl (by first | rfl | decide) (hret _ _ (Option.some.inj h))
    · rw [if_pos c6] at h
      refine Go_le ?_ (e_X11_centuries_j29 hret h)
      exact And.intro rfl (trivial)
noncomputable def F_X11_drawn_j36 (O : mO) (d : Nat) (v0 : Nat) (v1 : Int32) (v2 : Int32) (w0 : Int32) (w1 : Int64) (w2 : Int64) (K : mH) : Option (Int32 × mH) :=
  (toI (ev O d MX11_in [.long w2, .long w1, .long (w0.toInt64 - 1)] K)).bind fun p7 =>
  if p7.1 = 0 then
    some ((-100), p7.2)
  else
    (gtA p7.2 v0 11 53).bind fun x11 =>
    (rdI O p7.2 x11 (((if v2 = 0 then (nI 9) else (if v2 = (nI 1) then (nI 17) else (nI 33))) - (nI 6)) + v1)).bind fun x12 =>
    some (x12, p7.2)
theorem e_X11_drawn_j36 {O : mO} {d : Nat} {v0 : Nat} {v1 : Int32} {v2 : Int32} {w0 : Int32} {w1 : Int64} {w2 : Int64} {K : mH} {P : Option Value → mH → Prop} {x : Int32 × mH} (hret : ∀ (r : Int32) (K' : mH), (r, K') = x → P (some (.int r)) K') (h : F_X11_drawn_j36 O d v0 v1 v2 w0 w1 w2 K = some x) : Go O (d + 1) MX11_drawn 36 [some (.ref v0), some (.int v1), some (.int v2), none] [.int w0, .long w1, .long w2] K P := by
  unfold F_X11_drawn_j36 at h
  refine g_i2l dX11_drawn_36 ?_
  refine g_lconst (v := 1) dX11_drawn_37 (by decide) ?_
  refine g_lsub dX11_drawn_38 ?_
  obtain ⟨p7, ep7, h⟩ := bs h
  refine q_stat (Z := MX11_in) (toI_s ep7) dX11_drawn_39 mX11_169.1 mX11_169.2 (Nat.le_of_ble_eq_true rfl) rfl rfl (Nat.le_of_ble_eq_true rfl) (Nat.le_of_ble_eq_true rfl) ?_
  show Go O (d + 1) MX11_drawn 42 [some (.ref v0), some (.int v1), some (.int v2), none] [.int p7.1] p7.2 P
  refine g_if_ne (t := 48) dX11_drawn_42 (by decide) (fun c8 => ?_) (fun c8 => ?_)
  · rw [if_neg c8] at h
    refine g_iload_n dX11_drawn_48 rfl ?_
    have hj : Go O (d + 1) MX11_drawn 69 [some (.ref v0), some (.int v1), none, none] [.int (if v2 = 0 then (nI 9) else (if v2 = (nI 1) then (nI 17) else (nI 33)))] p7.2 P := by
      refine g_istore_n (ls' := [some (.ref v0), some (.int v1), none, some (.int (if v2 = 0 then (nI 9) else (if v2 = (nI 1) then (nI 17) else (nI 33))))]) dX11_drawn_69 (by decide) rfl ?_
      refine g_aload_n dX11_drawn_70 rfl ?_
      obtain ⟨x11, ex11, h⟩ := bs h
      refine q_getA dX11_drawn_71 fX11_140 ex11 ?_
      refine g_iload_n dX11_drawn_74 rfl ?_
      refine g_bipush (v := (nI 6)) dX11_drawn_75 (by decide) ?_
      refine g_isub dX11_drawn_77 ?_
      refine g_iload_n dX11_drawn_78 rfl ?_
      refine g_iadd dX11_drawn_79 ?_
      obtain ⟨x12, ex12, h⟩ := bs h
      refine q_iald dX11_drawn_80 ex12 ?_
      exact g_ireturn dX11_drawn_81 rfl (by first | rfl | decide) (hret _ _ (Option.some.inj h))
    refine g_if_ne (t := 57) dX11_drawn_49 (by decide) (fun c9 => ?_) (fun c9 => ?_)
    · skip
      refine g_iload_n dX11_drawn_57 rfl ?_
      refine g_iconst (v := (nI 1)) dX11_drawn_58 (by decide) ?_
      refine g_ic_ne (t := 67) dX11_drawn_59 (by decide) (fun c10 => ?_) (fun c10 => ?_)
      · skip
        refine g_bipush (v := (nI 33)) dX11_drawn_67 (by decide) ?_
        have hk : Go O (d + 1) MX11_drawn 69 [some (.ref v0), some (.int v1), none, none] [.int (nI 33)] p7.2 P := by simpa only [if_neg c9, if_neg c10] using hj
        refine Go_le ?_ hk
        exact And.intro rfl (And.intro rfl (trivial))
      · skip
        refine g_bipush (v := (nI 17)) dX11_drawn_62 (by decide) ?_
        refine g_goto (t := 69) dX11_drawn_64 (by decide) ?_
        have hk : Go O (d + 1) MX11_drawn 69 [some (.ref v0), some (.int v1), none, none] [.int (nI 17)] p7.2 P := by simpa only [if_neg c9, if_pos c10] using hj
        refine Go_le ?_ hk
        exact And.intro rfl (And.intro rfl (trivial))
    · skip
      refine g_bipush (v := (nI 9)) dX11_drawn_52 (by decide) ?_
      refine g_goto (t := 69) dX11_drawn_54 (by decide) ?_
      have hk : Go O (d + 1) MX11_drawn 69 [some (.ref v0), some (.int v1), none, none] [.int (nI 9)] p7.2 P := by simpa only [if_pos c9] using hj
      refine Go_le ?_ hk
      exact And.intro rfl (And.intro rfl (trivial))
  · rw [if_pos c8] at h
    refine g_bipush (v := (-100)) dX11_drawn_45 (by decide) ?_
    exact g_ireturn dX11_drawn_47 rfl (by first | rfl | decide) (hret _ _ (Option.some.inj h))
noncomputable def F_X11_drawn (O : mO) (d : Nat) (a0 : Nat) (a1 : Int32) (a2 : Int32) (K : mH) : Option (Int32 × mH) :=
  (ptI K a0 11 0 (nI 0)).bind fun K1 =>
  (toI (ev O d MX11_in [.long a2.toInt64, .long 0, .long (2)] K1)).bind fun p2 =>
  if p2.1 = 0 then
    some ((-100), p2.2)
  else
    if (nI 2) ≤ a2 then
      (gtI p2.2 a0 11 55).bind fun x6 =>
      F_X11_drawn_j36 O d a0 a1 a2 x6 0 a1.toInt64 p2.2
    else
      (gtI p2.2 a0 11 54).bind fun x13 =>
      F_X11_drawn_j36 O d a0 a1 a2 x13 0 a1.toInt64 p2.2
theorem e_X11_drawn {O : mO} {d : Nat} {a0 : Nat} {a1 : Int32} {a2 : Int32} {K : mH} {r0 : Int32} {K0 : mH} (h : F_X11_drawn O d a0 a1 a2 K = some (r0, K0)) : ev O (d + 1) MX11_drawn [.ref a0, .int a1, .int a2] K = some (some (.int r0), K0) := by
  refine Rn_evx ?_
  show Go O (d + 1) MX11_drawn 0 [some (.ref a0), some (.int a1), some (.int a2), none] [] K _
  generalize hP : (fun (r : Option Value) (K' : mH) => (r, K') = (some (.int r0), K0)) = P
  have hret : ∀ (r : Int32) (K' : mH), (r, K') = (r0, K0) → P (some (.int r)) K' := by
    intro r K' e
    cases e
    subst hP
    rfl
  clear hP
  unfold F_X11_drawn at h
  refine g_aload_n dX11_drawn_0 rfl ?_
  refine g_iconst (v := (nI 0)) dX11_drawn_1 (by decide) ?_
  obtain ⟨K1, eK1, h⟩ := bs h
  refine q_put (c := (RX11, TX11, 56)) dX11_drawn_2 fX11_149 rfl rfl rfl (fun h => absurd h (by decide)) eK1 ?_
  refine g_iload_n dX11_drawn_5 rfl ?_
  refine g_i2l dX11_drawn_6 ?_
  refine g_lconst (v := 0) dX11_drawn_7 (by decide) ?_
  refine g_ldc2 (v := 2) dX11_drawn_8 lX11_471 ?_
  obtain ⟨p2, ep2, h⟩ := bs h
  refine q_stat (Z := MX11_in) (toI_s ep2) dX11_drawn_11 mX11_169.1 mX11_169.2 (Nat.le_of_ble_eq_true rfl) rfl rfl (Nat.le_of_ble_eq_true rfl) (Nat.le_of_ble_eq_true rfl) ?_
  show Go O (d + 1) MX11_drawn 14 [some (.ref a0), some (.int a1), some (.int a2), none] [.int p2.1] p2.2 P
  refine g_if_eq (t := 45) dX11_drawn_14 (by decide) (fun c3 => ?_) (fun c3 => ?_)
  · rw [if_pos c3] at h
    refine g_bipush (v := (-100)) dX11_drawn_45 (by decide) ?_
    exact g_ireturn dX11_drawn_47 rfl (by first | rfl | decide) (hret _ _ (Option.some.inj h))
  · rw [if_neg c3] at h
    refine g_iload_n dX11_drawn_17 rfl ?_
    refine g_i2l dX11_drawn_18 ?_
    refine g_lconst (v := 0) dX11_drawn_19 (by decide) ?_
    refine g_iload_n dX11_drawn_20 rfl ?_
    refine g_iconst (v := (nI 2)) dX11_drawn_21 (by decide) ?_
    refine g_ic_ge (t := 32) dX11_drawn_22 (by decide) (fun c5 => ?_) (fun c5 => ?_)
    · rw [if_pos c5] at h
      refine g_aload_n dX11_drawn_32 rfl ?_
      obtain ⟨x6, ex6, h⟩ := bs h
      refine q_getI dX11_drawn_33 fX11_146 ex6 ?_
      refine Go_le ?_ (e_X11_drawn_j36 hret h)
      exact And.intro rfl (And.intro rfl (And.intro rfl (trivial)))
    · rw [if_neg c5] at h
      refine g_aload_n dX11_drawn_25 rfl ?_
      obtain ⟨x13, ex13, h⟩ := bs h
      refine q_getI dX11_drawn_26 fX11_143 ex13 ?_
      refine g_goto (t := 36) dX11_drawn_29 (by decide) ?_
      refine Go_le ?_ (e_X11_drawn_j36 hret h)
      exact And.intro rfl (And.intro rfl (And.intro rfl (trivial)))
noncomputable def F_X11_count (O : mO) (d : Nat) (a0 : Nat) (a1 : Int32) (K : mH) : Option (Int32 × mH) :=
  (ptI K a0 11 0 (nI 0)).bind fun K1 =>
  if a1 = nI 0 then
    (gtA K1 a0 11 3).bind fun x3 =>
    (rdI O K1 x3 (nI 0)).bind fun x4 =>
    some (x4, K1)
  else if a1 = nI 1 then
    (gtA K1 a0 11 3).bind fun x6 =>
    (rdI O K1 x6 (nI 1)).bind fun x7 =>
    some (x7, K1)
  else if a1 = nI 2 then
    (gtA K1 a0 11 3).bind fun x9 =>
    (rdI O K1 x9 (nI 2)).bind fun x10 =>
    some (x10, K1)
  else if a1 = nI 3 then
    (toI (vc O d 11 MX11_insideNow a0 [] K1)).bind fun p12 =>
    some (p12.1, p12.2)
  else if a1 = nI 4 then
    (gtA K1 a0 11 3).bind fun x14 =>
    (rdI O K1 x14 (nI 3)).bind fun x15 =>
    some (x15, K1)
  else if a1 = nI 5 then
    (gtA K1 a0 11 3).bind fun x17 =>
    (rdI O K1 x17 (nI 4)).bind fun x18 =>
    some (x18, K1)
  else if a1 = nI 6 then
    (gtI K1 a0 11 8).bind fun x20 =>
    some (x20, K1)
  else if a1 = nI 7 then
    (gtI K1 a0 11 13).bind fun x22 =>
    some (x22, K1)
  else if a1 = nI 8 then
    (gtA K1 a0 11 2).bind fun x24 =>
    (rdI O K1 x24 (nI 1)).bind fun x25 =>
    some (x25, K1)
  else if a1 = nI 9 then
    (gtA K1 a0 11 2).bind fun x27 =>
    (rdI O K1 x27 (nI 2)).bind fun x28 =>
    some (x28, K1)
  else if a1 = nI 10 then
    (gtA K1 a0 11 2).bind fun x30 =>
    (rdI O K1 x30 (nI 3)).bind fun x31 =>
    some (x31, K1)
  else if a1 = nI 11 then
    (gtA K1 a0 11 2).bind fun x33 =>
    (rdI O K1 x33 (nI 5)).bind fun x34 =>
    some (x34, K1)
  else if a1 = nI 12 then
    (gtA K1 a0 11 2).bind fun x36 =>
    (rdI O K1 x36 (nI 6)).bind fun x37 =>
    some (x37, K1)
  else if a1 = nI 13 then
    (gtA K1 a0 11 3).bind fun x39 =>
    (rdI O K1 x39 (nI 5)).bind fun x40 =>
    some (x40, K1)
  else 
    (toI (ev O d MX11_in [.long a1.toInt64, .long (14), .long (16)] K1)).bind fun p41 =>
    if p41.1 = 0 then
      some ((-1), p41.2)
    else
      (gtA p41.2 a0 11 3).bind fun x44 =>
      (rdI O p41.2 x44 (((nI 6) + a1) - (nI 14))).bind fun x45 =>
      some (x45, p41.2)
theorem e_X11_count {O : mO} {d : Nat} {a0 : Nat} {a1 : Int32} {K : mH} {r0 : Int32} {K0 : mH} (h : F_X11_count O d a0 a1 K = some (r0, K0)) : ev O (d + 1) MX11_count [.ref a0, .int a1] K = some (some (.int r0), K0) := by
  refine Rn_evx ?_
  show Go O (d + 1) MX11_count 0 [some (.ref a0), some (.int a1)] [] K _
  generalize hP : (fun (r : Option Value) (K' : mH) => (r, K') = (some (.int r0), K0)) = P
  have hret : ∀ (r : Int32) (K' : mH), (r, K') = (r0, K0) → P (some (.int r)) K' := by
    intro r K' e
    cases e
    subst hP
    rfl
  clear hP
  unfold F_X11_count at h
  refine g_aload_n dX11_count_0 rfl ?_
  refine g_iconst (v := (nI 0)) dX11_count_1 (by decide) ?_
  obtain ⟨K1, eK1, h⟩ := bs h
  refine q_put (c := (RX11, TX11, 56)) dX11_count_2 fX11_149 rfl rfl rfl (fun h => absurd h (by decide)) eK1 ?_
  refine g_iload_n dX11_count_5 rfl ?_
  by_cases c2 : a1 = nI 0
  · rw [if_pos c2] at h
    refine g_tsI (t := 76) (off := 70) dX11_count_6 (by rw [c2]; decide) (by rw [c2]; decide) (by decide) ?_
    refine g_aload_n dX11_count_76 rfl ?_
    obtain ⟨x3, ex3, h⟩ := bs h
    refine q_getA dX11_count_77 fX11_13 ex3 ?_
    refine g_iconst (v := (nI 0)) dX11_count_80 (by decide) ?_
    obtain ⟨x4, ex4, h⟩ := bs h
    refine q_iald dX11_count_81 ex4 ?_
    exact g_ireturn dX11_count_82 rfl (by first | rfl | decide) (hret _ _ (Option.some.inj h))
  rw [if_neg c2] at h
  by_cases c5 : a1 = nI 1
  · rw [if_pos c5] at h
    refine g_tsI (t := 83) (off := 77) dX11_count_6 (by rw [c5]; decide) (by rw [c5]; decide) (by decide) ?_
    refine g_aload_n dX11_count_83 rfl ?_
    obtain ⟨x6, ex6, h⟩ := bs h
    refine q_getA dX11_count_84 fX11_13 ex6 ?_
    refine g_iconst (v := (nI 1)) dX11_count_87 (by decide) ?_
    obtain ⟨x7, ex7, h⟩ := bs h
    refine q_iald dX11_count_88 ex7 ?_
    exact g_ireturn dX11_count_89 rfl (by first | rfl | decide) (hret _ _ (Option.some.inj h))
  rw [if_neg c5] at h
  by_cases c8 : a1 = nI 2
  · rw [if_pos c8] at h
    refine g_tsI (t := 90) (off := 84) dX11_count_6 (by rw [c8]; decide) (by rw [c8]; decide) (by decide) ?_
    refine g_aload_n dX11_count_90 rfl ?_
    obtain ⟨x9, ex9, h⟩ := bs h
    refine q_getA dX11_count_91 fX11_13 ex9 ?_
    refine g_iconst (v := (nI 2)) dX11_count_94 (by decide) ?_
    obtain ⟨x10, ex10, h⟩ := bs h
    refine q_iald dX11_count_95 ex10 ?_
    exact g_ireturn dX11_count_96 rfl (by first | rfl | decide) (hret _ _ (Option.some.inj h))
  rw [if_neg c8] at h
  by_cases c11 : a1 = nI 3
  · rw [if_pos c11] at h
    refine g_tsI (t := 97) (off := 91) dX11_count_6 (by rw [c11]; decide) (by rw [c11]; decide) (by decide) ?_
    refine g_aload_n dX11_count_97 rfl ?_
    obtain ⟨p12, ep12, h⟩ := bs h
    refine q_virt (Z := MX11_insideNow) (c := (RX11, TX11, 56)) (toI_s ep12) dX11_count_98 mX11_519.1 mX11_519.2 (Nat.le_of_ble_eq_true rfl) rfl rfl (Nat.le_of_ble_eq_true rfl) (Nat.le_of_ble_eq_true rfl) rfl rfl ?_
    show Go O (d + 1) MX11_count 101 [some (.ref a0), some (.int a1)] [.int p12.1] p12.2 P
    exact g_ireturn dX11_count_101 rfl (by first | rfl | decide) (hret _ _ (Option.some.inj h))
  rw [if_neg c11] at h
  by_cases c13 : a1 = nI 4
  · rw [if_pos c13] at h
    refine g_tsI (t := 102) (off := 96) dX11_count_6 (by rw [c13]; decide) (by rw [c13]; decide) (by decide) ?_
    refine g_aload_n dX11_count_102 rfl ?_
    obtain ⟨x14, ex14, h⟩ := bs h
    refine q_getA dX11_count_103 fX11_13 ex14 ?_
    refine g_iconst (v := (nI 3)) dX11_count_106 (by decide) ?_
    obtain ⟨x15, ex15, h⟩ := bs h
    refine q_iald dX11_count_107 ex15 ?_
    exact g_ireturn dX11_count_108 rfl (by first | rfl | decide) (hret _ _ (Option.some.inj h))
  rw [if_neg c13] at h
  by_cases c16 : a1 = nI 5
  · rw [if_pos c16] at h
    refine g_tsI (t := 109) (off := 103) dX11_count_6 (by rw [c16]; decide) (by rw [c16]; decide) (by decide) ?_
    refine g_aload_n dX11_count_109 rfl ?_
    obtain ⟨x17, ex17, h⟩ := bs h
    refine q_getA dX11_count_110 fX11_13 ex17 ?_
    refine g_iconst (v := (nI 4)) dX11_count_113 (by decide) ?_
    obtain ⟨x18, ex18, h⟩ := bs h
    refine q_iald dX11_count_114 ex18 ?_
    exact g_ireturn dX11_count_115 rfl (by first | rfl | decide) (hret _ _ (Option.some.inj h))
  rw [if_neg c16] at h
  by_cases c19 : a1 = nI 6
  · rw [if_pos c19] at h
    refine g_tsI (t := 116) (off := 110) dX11_count_6 (by rw [c19]; decide) (by rw [c19]; decide) (by decide) ?_
    refine g_aload_n dX11_count_116 rfl ?_
    obtain ⟨x20, ex20, h⟩ := bs h
    refine q_getI dX11_count_117 fX11_155 ex20 ?_
    exact g_ireturn dX11_count_120 rfl (by first | rfl | decide) (hret _ _ (Option.some.inj h))
  rw [if_neg c19] at h
  by_cases c21 : a1 = nI 7
  · rw [if_pos c21] at h
    refine g_tsI (t := 121) (off := 115) dX11_count_6 (by rw [c21]; decide) (by rw [c21]; decide) (by decide) ?_
    refine g_aload_n dX11_count_121 rfl ?_
    obtain ⟨x22, ex22, h⟩ := bs h
    refine q_getI dX11_count_122 fX11_232 ex22 ?_
    exact g_ireturn dX11_count_125 rfl (by first | rfl | decide) (hret _ _ (Option.some.inj h))
  rw [if_neg c21] at h
  by_cases c23 : a1 = nI 8
  · rw [if_pos c23] at h
    refine g_tsI (t := 126) (off := 120) dX11_count_6 (by rw [c23]; decide) (by rw [c23]; decide) (by decide) ?_
    refine g_aload_n dX11_count_126 rfl ?_
    obtain ⟨x24, ex24, h⟩ := bs h
    refine q_getA dX11_count_127 fX11_7 ex24 ?_
    refine g_iconst (v := (nI 1)) dX11_count_130 (by decide) ?_
    obtain ⟨x25, ex25, h⟩ := bs h
    refine q_iald dX11_count_131 ex25 ?_
    exact g_ireturn dX11_count_132 rfl (by first | rfl | decide) (hret _ _ (Option.some.inj h))
  rw [if_neg c23] at h
  by_cases c26 : a1 = nI 9
  · rw [if_pos c26] at h
    refine g_tsI (t := 133) (off := 127) dX11_count_6 (by rw [c26]; decide) (by rw [c26]; decide) (by decide) ?_
    refine g_aload_n dX11_count_133 rfl ?_
    obtain ⟨x27, ex27, h⟩ := bs h
    refine q_getA dX11_count_134 fX11_7 ex27 ?_
    refine g_iconst (v := (nI 2)) dX11_count_137 (by decide) ?_
    obtain ⟨x28, ex28, h⟩ := bs h
    refine q_iald dX11_count_138 ex28 ?_
    exact g_ireturn dX11_count_139 rfl (by first | rfl | decide) (hret _ _ (Option.some.inj h))
  rw [if_neg c26] at h
  by_cases c29 : a1 = nI 10
  · rw [if_pos c29] at h
    refine g_tsI (t := 140) (off := 134) dX11_count_6 (by rw [c29]; decide) (by rw [c29]; decide) (by decide) ?_
    refine g_aload_n dX11_count_140 rfl ?_
    obtain ⟨x30, ex30, h⟩ := bs h
    refine q_getA dX11_count_141 fX11_7 ex30 ?_
    refine g_iconst (v := (nI 3)) dX11_count_144 (by decide) ?_
    obtain ⟨x31, ex31, h⟩ := bs h
    refine q_iald dX11_count_145 ex31 ?_
    exact g_ireturn dX11_count_146 rfl (by first | rfl | decide) (hret _ _ (Option.some.inj h))
  rw [if_neg c29] at h
  by_cases c32 : a1 = nI 11
  · rw [if_pos c32] at h
    refine g_tsI (t := 147) (off := 141) dX11_count_6 (by rw [c32]; decide) (by rw [c32]; decide) (by decide) ?_
    refine g_aload_n dX11_count_147 rfl ?_
    obtain ⟨x33, ex33, h⟩ := bs h
    refine q_getA dX11_count_148 fX11_7 ex33 ?_
    refine g_iconst (v := (nI 5)) dX11_count_151 (by decide) ?_
    obtain ⟨x34, ex34, h⟩ := bs h
    refine q_iald dX11_count_152 ex34 ?_
    exact g_ireturn dX11_count_153 rfl (by first | rfl | decide) (hret _ _ (Option.some.inj h))
  rw [if_neg c32] at h
  by_cases c35 : a1 = nI 12
  · rw [if_pos c35] at h
    refine g_tsI (t := 154) (off := 148) dX11_count_6 (by rw [c35]; decide) (by rw [c35]; decide) (by decide) ?_
    refine g_aload_n dX11_count_154 rfl ?_
    obtain ⟨x36, ex36, h⟩ := bs h
    refine q_getA dX11_count_155 fX11_7 ex36 ?_
    refine g_bipush (v := (nI 6)) dX11_count_158 (by decide) ?_
    obtain ⟨x37, ex37, h⟩ := bs h
    refine q_iald dX11_count_160 ex37 ?_
    exact g_ireturn dX11_count_161 rfl (by first | rfl | decide) (hret _ _ (Option.some.inj h))
  rw [if_neg c35] at h
  by_cases c38 : a1 = nI 13
  · rw [if_pos c38] at h
    refine g_tsI (t := 162) (off := 156) dX11_count_6 (by rw [c38]; decide) (by rw [c38]; decide) (by decide) ?_
    refine g_aload_n dX11_count_162 rfl ?_
    obtain ⟨x39, ex39, h⟩ := bs h
    refine q_getA dX11_count_163 fX11_13 ex39 ?_
    refine g_iconst (v := (nI 5)) dX11_count_166 (by decide) ?_
    obtain ⟨x40, ex40, h⟩ := bs h
    refine q_iald dX11_count_167 ex40 ?_
    exact g_ireturn dX11_count_168 rfl (by first | rfl | decide) (hret _ _ (Option.some.inj h))
  rw [if_neg c38] at h
  refine g_tsO (t := 169) dX11_count_6 ?_ (by decide) ?_
  rotate_left
  · skip
    refine g_iload_n dX11_count_169 rfl ?_
    refine g_i2l dX11_count_170 ?_
    refine g_ldc2 (v := 14) dX11_count_171 lX11_551 ?_
    refine g_ldc2 (v := 16) dX11_count_174 lX11_553 ?_
    obtain ⟨p41, ep41, h⟩ := bs h
    refine q_stat (Z := MX11_in) (toI_s ep41) dX11_count_177 mX11_169.1 mX11_169.2 (Nat.le_of_ble_eq_true rfl) rfl rfl (Nat.le_of_ble_eq_true rfl) (Nat.le_of_ble_eq_true rfl) ?_
    show Go O (d + 1) MX11_count 180 [some (.ref a0), some (.int a1)] [.int p41.1] p41.2 P
    refine g_if_eq (t := 198) dX11_count_180 (by decide) (fun c43 => ?_) (fun c43 => ?_)
    · rw [if_pos c43] at h
      refine g_iconst (v := (-1)) dX11_count_198 (by decide) ?_
      exact g_ireturn dX11_count_199 rfl (by first | rfl | decide) (hret _ _ (Option.some.inj h))
    · rw [if_neg c43] at h
      refine g_aload_n dX11_count_183 rfl ?_
      obtain ⟨x44, ex44, h⟩ := bs h
      refine q_getA dX11_count_184 fX11_13 ex44 ?_
      refine g_bipush (v := (nI 6)) dX11_count_187 (by decide) ?_
      refine g_iload_n dX11_count_189 rfl ?_
      refine g_iadd dX11_count_190 ?_
      refine g_bipush (v := (nI 14)) dX11_count_191 (by decide) ?_
      refine g_isub dX11_count_193 ?_
      obtain ⟨x45, ex45, h⟩ := bs h
      refine q_iald dX11_count_194 ex45 ?_
      refine g_goto (t := 199) dX11_count_195 (by decide) ?_
      exact g_ireturn dX11_count_199 rfl (by first | rfl | decide) (hret _ _ (Option.some.inj h))
  have ic2 := ts_ne (by decide) c2
  have ic5 := ts_ne (by decide) c5
  have ic8 := ts_ne (by decide) c8
  have ic11 := ts_ne (by decide) c11
  have ic13 := ts_ne (by decide) c13
  have ic16 := ts_ne (by decide) c16
  have ic19 := ts_ne (by decide) c19
  have ic21 := ts_ne (by decide) c21
  have ic23 := ts_ne (by decide) c23
  have ic26 := ts_ne (by decide) c26
  have ic29 := ts_ne (by decide) c29
  have ic32 := ts_ne (by decide) c32
  have ic35 := ts_ne (by decide) c35
  have ic38 := ts_ne (by decide) c38
  omega
noncomputable def F_X11_status (O : mO) (d : Nat) (a0 : Nat) (K : mH) : Option (Int32 × mH) :=
  (ptI K a0 11 0 (nI 0)).bind fun K1 =>
  (gtI K1 a0 11 1).bind fun x2 =>
  some (x2, K1)
theorem e_X11_status {O : mO} {d : Nat} {a0 : Nat} {K : mH} {r0 : Int32} {K0 : mH} (h : F_X11_status O d a0 K = some (r0, K0)) : ev O (d + 1) MX11_status [.ref a0] K = some (some (.int r0), K0) := by
  refine Rn_evx ?_
  show Go O (d + 1) MX11_status 0 [some (.ref a0)] [] K _
  generalize hP : (fun (r : Option Value) (K' : mH) => (r, K') = (some (.int r0), K0)) = P
  have hret : ∀ (r : Int32) (K' : mH), (r, K') = (r0, K0) → P (some (.int r)) K' := by
    intro r K' e
    cases e
    subst hP
    rfl
  clear hP
  unfold F_X11_status at h
  refine g_aload_n dX11_status_0 rfl ?_
  refine g_iconst (v := (nI 0)) dX11_status_1 (by decide) ?_
  obtain ⟨K1, eK1, h⟩ := bs h
  refine q_put (c := (RX11, TX11, 56)) dX11_status_2 fX11_149 rfl rfl rfl (fun h => absurd h (by decide)) eK1 ?_
  refine g_aload_n dX11_status_5 rfl ?_
  obtain ⟨x2, ex2, h⟩ := bs h
  refine q_getI dX11_status_6 fX11_152 ex2 ?_
  exact g_ireturn dX11_status_9 rfl (by first | rfl | decide) (hret _ _ (Option.some.inj h))
