/-! methods as functions, by gen50.py -/
noncomputable def F_X6_readText_l63 (O : mO) (d : Nat) (v0 : Nat) (s4 : Int32) (s5 : Int32) (K : mH) : Option ((Int32 × Int32 × mH) ⊕ (Int32 × mH)) :=
  if (nI 12) ≤ s5 then
    some (.inr (s4, K))
  else
    if s4 = 0 then
      some (.inr (s4, K))
    else
      (toV (vc O d 6 MX6_clause v0 [] K)).bind fun K16 =>
      (gtI K16 v0 6 5).bind fun x17 =>
      if (if x17 = (nI 4000) then (nI 0) else (nI 1)) = 0 then
        some (.inl ((if x17 = (nI 4000) then (nI 0) else (nI 1)), (s5 + nI 1), K16))
      else
        (toV (vc O d 6 MX6_take v0 [.int (nI 3059)] K16)).bind fun K21 =>
        some (.inl ((if x17 = (nI 4000) then (nI 0) else (nI 1)), (s5 + nI 1), K21))
theorem e_X6_readText_l63 {O : mO} {d : Nat} {v0 : Nat} {P : Option Value → mH → Prop} {x : Int32 × mH} (hex : ∀ q : Int32 × mH, x = q → Go O (d + 1) MX6_readText 114 [some (.ref v0), none, none, none, some (.int q.1), none] [] q.2 P) : ∀ (f : Nat) (q : Int32 × Int32 × mH), lupF (fun (q : Int32 × Int32 × mH) => F_X6_readText_l63 O d v0 q.1 q.2.1 q.2.2) f q = some x → Go O (d + 1) MX6_readText 63 [some (.ref v0), none, none, none, some (.int q.1), some (.int q.2.1)] [] q.2.2 P := by
  intro f
  induction f with
  | zero =>
    intro q h
    cases h
  | succ f ih =>
    intro q h
    obtain ⟨y, h, hy1, hy2⟩ := lupF_s h
    have hin : ∀ q : Int32 × Int32 × mH, y = .inl q → Go O (d + 1) MX6_readText 63 [some (.ref v0), none, none, none, some (.int q.1), some (.int q.2.1)] [] q.2.2 P := fun q e => ih q (hy1 q e)
    replace hex : ∀ q : Int32 × mH, y = .inr q → Go O (d + 1) MX6_readText 114 [some (.ref v0), none, none, none, some (.int q.1), none] [] q.2 P := fun q e => hex q (hy2 q e).symm
    clear ih hy1 hy2
    obtain ⟨s4, s5, K⟩ := q
    dsimp only at h ⊢
    unfold F_X6_readText_l63 at h
    refine g_iload dX6_readText_63 rfl ?_
    refine g_bipush (v := (nI 12)) dX6_readText_65 (by decide) ?_
    refine g_ic_ge (t := 114) dX6_readText_67 (by decide) (fun c14 => ?_) (fun c14 => ?_)
    · rw [if_pos c14] at h
      refine Go_le ?_ (hex (s4, K) (Option.some.inj h).symm)
      exact And.intro rfl (And.intro rfl (trivial))
    · rw [if_neg c14] at h
      refine g_iload dX6_readText_70 rfl ?_
      refine g_if_eq (t := 114) dX6_readText_72 (by decide) (fun c15 => ?_) (fun c15 => ?_)
      · rw [if_pos c15] at h
        refine Go_le ?_ (hex (s4, K) (Option.some.inj h).symm)
        exact And.intro rfl (And.intro rfl (trivial))
      · rw [if_neg c15] at h
        refine g_aload_n dX6_readText_75 rfl ?_
        obtain ⟨K16, eK16, h⟩ := bs h
        refine q_virt (Z := MX6_clause) (c := (RX6, TX6, 10)) (toV_s eK16) dX6_readText_76 mX6_66.1 mX6_66.2 (Nat.le_of_ble_eq_true rfl) rfl rfl (Nat.le_of_ble_eq_true rfl) (Nat.le_of_ble_eq_true rfl) rfl rfl ?_
        show Go O (d + 1) MX6_readText 79 [some (.ref v0), none, none, none, some (.int s4), some (.int s5)] [] K16 P
        refine g_aload_n dX6_readText_79 rfl ?_
        obtain ⟨x17, ex17, h⟩ := bs h
        refine q_getI dX6_readText_80 fX6_34 ex17 ?_
        refine g_sipush (v := (nI 4000)) dX6_readText_83 (by decide) ?_
        have hj : Go O (d + 1) MX6_readText 94 [some (.ref v0), none, none, none, none, some (.int s5)] [.int (if x17 = (nI 4000) then (nI 0) else (nI 1))] K16 P := by
          refine g_istore (ls' := [some (.ref v0), none, none, none, some (.int (if x17 = (nI 4000) then (nI 0) else (nI 1))), some (.int s5)]) dX6_readText_94 (by decide) rfl ?_
          refine g_iload dX6_readText_96 rfl ?_
          refine g_if_eq (t := 108) dX6_readText_98 (by decide) (fun c20 => ?_) (fun c20 => ?_)
          · rw [if_pos c20] at h
            refine q_iinc (w := nI 1) (ls' := [some (.ref v0), none, none, none, some (.int (if x17 = (nI 4000) then (nI 0) else (nI 1))), some (.int (s5 + nI 1))]) dX6_readText_108 (by decide) rfl (by decide) rfl ?_
            refine g_goto (t := 63) dX6_readText_111 (by decide) ?_
            refine Go_le ?_ (hin ((if x17 = (nI 4000) then (nI 0) else (nI 1)), (s5 + nI 1), K16) (Option.some.inj h).symm)
            exact And.intro rfl (And.intro rfl (And.intro rfl (trivial)))
          · rw [if_neg c20] at h
            refine g_aload_n dX6_readText_101 rfl ?_
            refine g_sipush (v := (nI 3059)) dX6_readText_102 (by decide) ?_
            obtain ⟨K21, eK21, h⟩ := bs h
            refine q_virt (Z := MX6_take) (c := (RX6, TX6, 10)) (toV_s eK21) dX6_readText_105 mX6_69.1 mX6_69.2 (Nat.le_of_ble_eq_true rfl) rfl rfl (Nat.le_of_ble_eq_true rfl) (Nat.le_of_ble_eq_true rfl) rfl rfl ?_
            show Go O (d + 1) MX6_readText 108 [some (.ref v0), none, none, none, some (.int (if x17 = (nI 4000) then (nI 0) else (nI 1))), some (.int s5)] [] K21 P
            refine q_iinc (w := nI 1) (ls' := [some (.ref v0), none, none, none, some (.int (if x17 = (nI 4000) then (nI 0) else (nI 1))), some (.int (s5 + nI 1))]) dX6_readText_108 (by decide) rfl (by decide) rfl ?_
            refine g_goto (t := 63) dX6_readText_111 (by decide) ?_
            refine Go_le ?_ (hin ((if x17 = (nI 4000) then (nI 0) else (nI 1)), (s5 + nI 1), K21) (Option.some.inj h).symm)
            exact And.intro rfl (And.intro rfl (And.intro rfl (trivial)))
        refine g_ic_eq (t := 93) dX6_readText_86 (by decide) (fun c18 => ?_) (fun c18 => ?_)
        · skip
          refine g_iconst (v := (nI 0)) dX6_readText_93 (by decide) ?_
          have hk : Go O (d + 1) MX6_readText 94 [some (.ref v0), none, none, none, none, some (.int s5)] [.int (nI 0)] K16 P := by simpa only [if_pos c18] using hj
          refine Go_le ?_ hk
          exact And.intro rfl (And.intro rfl (trivial))
        · skip
          refine g_iconst (v := (nI 1)) dX6_readText_89 (by decide) ?_
          refine g_goto (t := 94) dX6_readText_90 (by decide) ?_
          have hk : Go O (d + 1) MX6_readText 94 [some (.ref v0), none, none, none, none, some (.int s5)] [.int (nI 1)] K16 P := by simpa only [if_neg c18] using hj
          refine Go_le ?_ hk
          exact And.intro rfl (And.intro rfl (trivial))
noncomputable def F_X6_readText_j124 (O : mO) (d : Nat) (v0 : Nat) (K : mH) : Option (Int32 × mH) :=
  (gtI K v0 6 6).bind fun x25 =>
  (zz (if x25 = (-1) then (nI 1) else (nI 0))).bind fun z27 =>
  some (z27, K)
theorem e_X6_readText_j124 {O : mO} {d : Nat} {v0 : Nat} {K : mH} {P : Option Value → mH → Prop} {x : Int32 × mH} (hret : ∀ (r : Int32) (K' : mH), (r, K') = x → P (some (.int r)) K') (h : F_X6_readText_j124 O d v0 K = some x) : Go O (d + 1) MX6_readText 124 [some (.ref v0), none, none, none, none, none] [] K P := by
  unfold F_X6_readText_j124 at h
  refine g_aload_n dX6_readText_124 rfl ?_
  obtain ⟨x25, ex25, h⟩ := bs h
  refine q_getI dX6_readText_125 fX6_37 ex25 ?_
  refine g_iconst (v := (-1)) dX6_readText_128 (by decide) ?_
  have hj : Go O (d + 1) MX6_readText 137 [none, none, none, none, none, none] [.int (if x25 = (-1) then (nI 1) else (nI 0))] K P := by
    obtain ⟨z27, ez27, h⟩ := bs h
    exact q_zret dX6_readText_137 rfl ez27 (hret _ _ (Option.some.inj h))
  refine g_ic_ne (t := 136) dX6_readText_129 (by decide) (fun c26 => ?_) (fun c26 => ?_)
  · skip
    refine g_iconst (v := (nI 0)) dX6_readText_136 (by decide) ?_
    have hk : Go O (d + 1) MX6_readText 137 [none, none, none, none, none, none] [.int (nI 0)] K P := by simpa only [if_neg c26] using hj
    refine Go_le ?_ hk
    exact trivial
  · skip
    refine g_iconst (v := (nI 1)) dX6_readText_132 (by decide) ?_
    refine g_goto (t := 137) dX6_readText_133 (by decide) ?_
    have hk : Go O (d + 1) MX6_readText 137 [none, none, none, none, none, none] [.int (nI 1)] K P := by simpa only [if_pos c26] using hj
    refine Go_le ?_ hk
    exact trivial
noncomputable def F_X6_readText_j114 (O : mO) (d : Nat) (v0 : Nat) (v4 : Int32) (K : mH) : Option (Int32 × mH) :=
  if v4 = 0 then
    F_X6_readText_j124 O d v0 K
  else
    (toV (vc O d 6 MX6_take v0 [.int (-1)] K)).bind fun K28 =>
    F_X6_readText_j124 O d v0 K28
theorem e_X6_readText_j114 {O : mO} {d : Nat} {v0 : Nat} {v4 : Int32} {K : mH} {P : Option Value → mH → Prop} {x : Int32 × mH} (hret : ∀ (r : Int32) (K' : mH), (r, K') = x → P (some (.int r)) K') (h : F_X6_readText_j114 O d v0 v4 K = some x) : Go O (d + 1) MX6_readText 114 [some (.ref v0), none, none, none, some (.int v4), none] [] K P := by
  unfold F_X6_readText_j114 at h
  refine g_iload dX6_readText_114 rfl ?_
  refine g_if_eq (t := 124) dX6_readText_116 (by decide) (fun c24 => ?_) (fun c24 => ?_)
  · rw [if_pos c24] at h
    refine Go_le ?_ (e_X6_readText_j124 hret h)
    exact And.intro rfl (trivial)
  · rw [if_neg c24] at h
    refine g_aload_n dX6_readText_119 rfl ?_
    refine g_iconst (v := (-1)) dX6_readText_120 (by decide) ?_
    obtain ⟨K28, eK28, h⟩ := bs h
    refine q_virt (Z := MX6_take) (c := (RX6, TX6, 10)) (toV_s eK28) dX6_readText_121 mX6_69.1 mX6_69.2 (Nat.le_of_ble_eq_true rfl) rfl rfl (Nat.le_of_ble_eq_true rfl) (Nat.le_of_ble_eq_true rfl) rfl rfl ?_
    show Go O (d + 1) MX6_readText 124 [some (.ref v0), none, none, none, some (.int v4), none] [] K28 P
    refine Go_le ?_ (e_X6_readText_j124 hret h)
    exact And.intro rfl (trivial)
noncomputable def F_X6_readText (O : mO) (d : Nat) (a0 : Nat) (a1 : Nat) (a2 : Int32) (a3 : Int32) (K : mH) : Option (Int32 × mH) :=
  (lnA O K a1).bind fun x1 =>
  (toV (vc O d 6 MX6_split a0 [.ref a1, .int (if (nI 0) < (if x1 < a2 then x1 else a2) then (if x1 < a2 then x1 else a2) else (nI 0))] K)).bind fun K2 =>
  (zz a3).bind fun z4 =>
  (ptI K2 a0 6 9 a3).bind fun K3 =>
  (ptI K3 a0 6 4 (nI 0)).bind fun K5 =>
  (gtA K5 a0 6 2).bind fun x6 =>
  (rdI O K5 x6 (nI 0)).bind fun x7 =>
  (ptI K5 a0 6 5 x7).bind fun K8 =>
  (ptI K8 a0 6 6 (-1)).bind fun K9 =>
  (ptI K9 a0 6 7 (nI 0)).bind fun K10 =>
  (ptI K10 a0 6 8 (nI 0)).bind fun K11 =>
  (gtA K11 a0 6 0).bind fun x12 =>
  (toV (vc O d 5 MX5_clear x12 [] K11)).bind fun K13 =>
  (lupF (fun (q : Int32 × Int32 × mH) => F_X6_readText_l63 O d a0 q.1 q.2.1 q.2.2) FU ((nI 1), (nI 0), K13)).bind fun r22 =>
  F_X6_readText_j114 O d a0 r22.1 r22.2
theorem e_X6_readText {O : mO} {d : Nat} {a0 : Nat} {a1 : Nat} {a2 : Int32} {a3 : Int32} {K : mH} {r0 : Int32} {K0 : mH} (h : F_X6_readText O d a0 a1 a2 a3 K = some (r0, K0)) : ev O (d + 1) MX6_readText [.ref a0, .ref a1, .int a2, .int a3] K = some (some (.int r0), K0) := by
  refine Rn_evx ?_
  show Go O (d + 1) MX6_readText 0 [some (.ref a0), some (.ref a1), some (.int a2), some (.int a3), none, none] [] K _
  generalize hP : (fun (r : Option Value) (K' : mH) => (r, K') = (some (.int r0), K0)) = P
  have hret : ∀ (r : Int32) (K' : mH), (r, K') = (r0, K0) → P (some (.int r)) K' := by
    intro r K' e
    cases e
    subst hP
    rfl
  clear hP
  unfold F_X6_readText at h
  refine g_aload_n dX6_readText_0 rfl ?_
  refine g_aload_n dX6_readText_1 rfl ?_
  refine g_iconst (v := (nI 0)) dX6_readText_2 (by decide) ?_
  refine g_iload_n dX6_readText_3 rfl ?_
  refine g_aload_n dX6_readText_4 rfl ?_
  obtain ⟨x1, ex1, h⟩ := bs h
  refine q_alen dX6_readText_5 ex1 ?_
  refine g_min dX6_readText_6 mX6_50 (Nat.le_of_ble_eq_true rfl) (mNo2_h3 rfl) ?_
  refine g_max dX6_readText_9 mX6_56 (Nat.le_of_ble_eq_true rfl) (mNo2_h3 rfl) ?_
  obtain ⟨K2, eK2, h⟩ := bs h
  refine q_virt (Z := MX6_split) (c := (RX6, TX6, 10)) (toV_s eK2) dX6_readText_12 mX6_59.1 mX6_59.2 (Nat.le_of_ble_eq_true rfl) rfl rfl (Nat.le_of_ble_eq_true rfl) (Nat.le_of_ble_eq_true rfl) rfl rfl ?_
  show Go O (d + 1) MX6_readText 15 [some (.ref a0), some (.ref a1), some (.int a2), some (.int a3), none, none] [] K2 P
  refine g_aload_n dX6_readText_15 rfl ?_
  refine g_iload_n dX6_readText_16 rfl ?_
  obtain ⟨z4, ez4, h⟩ := bs h
  obtain ⟨K3, eK3, h⟩ := bs h
  refine q_put (c := (RX6, TX6, 10)) dX6_readText_17 fX6_46 rfl (zz_nar ez4).2.1 (zz_nar ez4).2.2 (fun h => absurd h (by decide)) eK3 ?_
  refine g_aload_n dX6_readText_20 rfl ?_
  refine g_iconst (v := (nI 0)) dX6_readText_21 (by decide) ?_
  obtain ⟨K5, eK5, h⟩ := bs h
  refine q_put (c := (RX6, TX6, 10)) dX6_readText_22 fX6_31 rfl rfl rfl (fun h => absurd h (by decide)) eK5 ?_
  refine g_aload_n dX6_readText_25 rfl ?_
  refine g_aload_n dX6_readText_26 rfl ?_
  obtain ⟨x6, ex6, h⟩ := bs h
  refine q_getA dX6_readText_27 fX6_24 ex6 ?_
  refine g_iconst (v := (nI 0)) dX6_readText_30 (by decide) ?_
  obtain ⟨x7, ex7, h⟩ := bs h
  refine q_iald dX6_readText_31 ex7 ?_
  obtain ⟨K8, eK8, h⟩ := bs h
  refine q_put (c := (RX6, TX6, 10)) dX6_readText_32 fX6_34 rfl rfl rfl (fun h => absurd h (by decide)) eK8 ?_
  refine g_aload_n dX6_readText_35 rfl ?_
  refine g_iconst (v := (-1)) dX6_readText_36 (by decide) ?_
  obtain ⟨K9, eK9, h⟩ := bs h
  refine q_put (c := (RX6, TX6, 10)) dX6_readText_37 fX6_37 rfl rfl rfl (fun h => absurd h (by decide)) eK9 ?_
  refine g_aload_n dX6_readText_40 rfl ?_
  refine g_iconst (v := (nI 0)) dX6_readText_41 (by decide) ?_
  obtain ⟨K10, eK10, h⟩ := bs h
  refine q_put (c := (RX6, TX6, 10)) dX6_readText_42 fX6_40 rfl rfl rfl (fun h => absurd h (by decide)) eK10 ?_
  refine g_aload_n dX6_readText_45 rfl ?_
  refine g_iconst (v := (nI 0)) dX6_readText_46 (by decide) ?_
  obtain ⟨K11, eK11, h⟩ := bs h
  refine q_put (c := (RX6, TX6, 10)) dX6_readText_47 fX6_43 rfl rfl rfl (fun h => absurd h (by decide)) eK11 ?_
  refine g_aload_n dX6_readText_50 rfl ?_
  obtain ⟨x12, ex12, h⟩ := bs h
  refine q_getA dX6_readText_51 fX6_16 ex12 ?_
  obtain ⟨K13, eK13, h⟩ := bs h
  refine q_virt (Z := MX5_clear) (c := (RX5, TX5, 4)) (toV_s eK13) dX6_readText_54 mX6_63.1 mX6_63.2 (Nat.le_of_ble_eq_true rfl) rfl rfl (Nat.le_of_ble_eq_true rfl) (Nat.le_of_ble_eq_true rfl) rfl rfl ?_
  show Go O (d + 1) MX6_readText 57 [some (.ref a0), some (.ref a1), some (.int a2), some (.int a3), none, none] [] K13 P
  refine g_iconst (v := (nI 1)) dX6_readText_57 (by decide) ?_
  refine g_istore (ls' := [some (.ref a0), some (.ref a1), some (.int a2), some (.int a3), some (.int (nI 1)), none]) dX6_readText_58 (by decide) rfl ?_
  refine g_iconst (v := (nI 0)) dX6_readText_60 (by decide) ?_
  refine g_istore (ls' := [some (.ref a0), some (.ref a1), some (.int a2), some (.int a3), some (.int (nI 1)), some (.int (nI 0))]) dX6_readText_61 (by decide) rfl ?_
  obtain ⟨r22, er22, h⟩ := bs h
  have hx : Go O (d + 1) MX6_readText 114 [some (.ref a0), none, none, none, some (.int r22.1), none] [] r22.2 P := by
    refine Go_le ?_ (e_X6_readText_j114 hret h)
    exact And.intro rfl (And.intro rfl (trivial))
  refine Go_le ?_ (e_X6_readText_l63 (fun q e => by cases e; exact hx) FU ((nI 1), (nI 0), K13) er22)
  exact And.intro rfl (And.intro rfl (And.intro rfl (trivial)))
noncomputable def F_X6_split_j176 (O : mO) (d : Nat) (v0 : Nat) (v1 : Nat) (v2 : Int32) (v4 : Int32) (v6 : Int32) (K : mH) : Option ((Int32 × Int32 × mH) ⊕ (mH)) :=
  some (.inl (v6, (v4 + nI 1), K))
theorem e_X6_split_j176 {O : mO} {d : Nat} {v0 : Nat} {v1 : Nat} {v2 : Int32} {v4 : Int32} {v6 : Int32} {K : mH} {P : Option Value → mH → Prop} {y : (Int32 × Int32 × mH) ⊕ (mH)} (hin : ∀ q : Int32 × Int32 × mH, y = .inl q → Go O (d + 1) MX6_split 10 [some (.ref v0), some (.ref v1), some (.int v2), some (.int q.1), some (.int q.2.1), none, none, none] [] q.2.2 P) (hex : ∀ q : mH, y = .inr q → Go O (d + 1) MX6_split 185 [some (.ref v0), none, some (.int v2), none, none, none, none, none] [] q P) (h : F_X6_split_j176 O d v0 v1 v2 v4 v6 K = some y) : Go O (d + 1) MX6_split 176 [some (.ref v0), some (.ref v1), some (.int v2), none, some (.int v4), none, some (.int v6), none] [] K P := by
  unfold F_X6_split_j176 at h
  refine g_iload dX6_split_176 rfl ?_
  refine g_istore_n (ls' := [some (.ref v0), some (.ref v1), some (.int v2), some (.int v6), some (.int v4), none, some (.int v6), none]) dX6_split_178 (by decide) rfl ?_
  refine q_iinc (w := nI 1) (ls' := [some (.ref v0), some (.ref v1), some (.int v2), some (.int v6), some (.int (v4 + nI 1)), none, some (.int v6), none]) dX6_split_179 (by decide) rfl (by decide) rfl ?_
  refine g_goto (t := 10) dX6_split_182 (by decide) ?_
  refine Go_le ?_ (hin (v6, (v4 + nI 1), K) (Option.some.inj h).symm)
  exact And.intro rfl (And.intro rfl (And.intro rfl (And.intro rfl (And.intro rfl (trivial)))))
noncomputable def F_X6_split_j122 (O : mO) (d : Nat) (v0 : Nat) (v1 : Nat) (v2 : Int32) (v4 : Int32) (v5 : Int32) (v6 : Int32) (K : mH) : Option ((Int32 × Int32 × mH) ⊕ (mH)) :=
  if v6 = (nI 2) then
    (gtI K v0 6 3).bind fun x11 =>
    if x11 ≤ 0 then
      F_X6_split_j176 O d v0 v1 v2 v4 v6 K
    else
      (gtA K v0 6 2).bind fun x14 =>
      (gtI K v0 6 3).bind fun x15 =>
      (rdI O K x14 (x15 - (nI 1))).bind fun x16 =>
      (gtA K v0 6 2).bind fun x17 =>
      (gtI K v0 6 3).bind fun x18 =>
      (wrI K x17 (x18 - (nI 1)) (if (((x16 * (nI 10)) + v5) - (nI 48)) < (nI 1001) then (((x16 * (nI 10)) + v5) - (nI 48)) else (nI 1001))).bind fun K19 =>
      F_X6_split_j176 O d v0 v1 v2 v4 v6 K19
  else
    F_X6_split_j176 O d v0 v1 v2 v4 v6 K
theorem e_X6_split_j122 {O : mO} {d : Nat} {v0 : Nat} {v1 : Nat} {v2 : Int32} {v4 : Int32} {v5 : Int32} {v6 : Int32} {K : mH} {P : Option Value → mH → Prop} {y : (Int32 × Int32 × mH) ⊕ (mH)} (hin : ∀ q : Int32 × Int32 × mH, y = .inl q → Go O (d + 1) MX6_split 10 [some (.ref v0), some (.ref v1), some (.int v2), some (.int q.1), some (.int q.2.1), none, none, none] [] q.2.2 P) (hex : ∀ q : mH, y = .inr q → Go O (d + 1) MX6_split 185 [some (.ref v0), none, some (.int v2), none, none, none, none, none] [] q P) (h : F_X6_split_j122 O d v0 v1 v2 v4 v5 v6 K = some y) : Go O (d + 1) MX6_split 122 [some (.ref v0), some (.ref v1), some (.int v2), none, some (.int v4), some (.int v5), some (.int v6), none] [] K P := by
  unfold F_X6_split_j122 at h
  refine g_iload dX6_split_122 rfl ?_
  refine g_iconst (v := (nI 2)) dX6_split_124 (by decide) ?_
  refine g_ic_ne (t := 176) dX6_split_125 (by decide) (fun c10 => ?_) (fun c10 => ?_)
  · rw [if_neg c10] at h
    refine Go_le ?_ (e_X6_split_j176 hin hex h)
    exact And.intro rfl (And.intro rfl (And.intro rfl (And.intro rfl (And.intro rfl (trivial)))))
  · rw [if_pos c10] at h
    refine g_aload_n dX6_split_128 rfl ?_
    obtain ⟨x11, ex11, h⟩ := bs h
    refine q_getI dX6_split_129 fX6_27 ex11 ?_
    refine g_if_le (t := 176) dX6_split_132 (by decide) (fun c13 => ?_) (fun c13 => ?_)
    · rw [if_pos c13] at h
      refine Go_le ?_ (e_X6_split_j176 hin hex h)
      exact And.intro rfl (And.intro rfl (And.intro rfl (And.intro rfl (And.intro rfl (trivial)))))
    · rw [if_neg c13] at h
      refine g_aload_n dX6_split_135 rfl ?_
      obtain ⟨x14, ex14, h⟩ := bs h
      refine q_getA dX6_split_136 fX6_24 ex14 ?_
      refine g_aload_n dX6_split_139 rfl ?_
      obtain ⟨x15, ex15, h⟩ := bs h
      refine q_getI dX6_split_140 fX6_27 ex15 ?_
      refine g_iconst (v := (nI 1)) dX6_split_143 (by decide) ?_
      refine g_isub dX6_split_144 ?_
      obtain ⟨x16, ex16, h⟩ := bs h
      refine q_iald dX6_split_145 ex16 ?_
      refine g_bipush (v := (nI 10)) dX6_split_146 (by decide) ?_
      refine g_imul dX6_split_148 ?_
      refine g_iload dX6_split_149 rfl ?_
      refine g_iadd dX6_split_151 ?_
      refine g_bipush (v := (nI 48)) dX6_split_152 (by decide) ?_
      refine g_isub dX6_split_154 ?_
      refine g_istore (ls' := [some (.ref v0), some (.ref v1), some (.int v2), none, some (.int v4), some (.int v5), some (.int v6), some (.int (((x16 * (nI 10)) + v5) - (nI 48)))]) dX6_split_155 (by decide) rfl ?_
      refine g_aload_n dX6_split_157 rfl ?_
      obtain ⟨x17, ex17, h⟩ := bs h
      refine q_getA dX6_split_158 fX6_24 ex17 ?_
      refine g_aload_n dX6_split_161 rfl ?_
      obtain ⟨x18, ex18, h⟩ := bs h
      refine q_getI dX6_split_162 fX6_27 ex18 ?_
      refine g_iconst (v := (nI 1)) dX6_split_165 (by decide) ?_
      refine g_isub dX6_split_166 ?_
      refine g_sipush (v := (nI 1001)) dX6_split_167 (by decide) ?_
      refine g_iload dX6_split_170 rfl ?_
      refine g_min dX6_split_172 mX6_50 (Nat.le_of_ble_eq_true rfl) (mNo2_h3 rfl) ?_
      obtain ⟨K19, eK19, h⟩ := bs h
      refine q_iast dX6_split_175 eK19 ?_
      refine Go_le ?_ (e_X6_split_j176 hin hex h)
      exact And.intro rfl (And.intro rfl (And.intro rfl (And.intro rfl (And.intro rfl (trivial)))))
noncomputable def F_X6_split_j112 (O : mO) (d : Nat) (v0 : Nat) (v1 : Nat) (v2 : Int32) (v4 : Int32) (v5 : Int32) (v6 : Int32) (K : mH) : Option ((Int32 × Int32 × mH) ⊕ (mH)) :=
  (gtI K v0 6 3).bind fun x33 =>
  (ptI K v0 6 3 (x33 + (nI 1))).bind fun K34 =>
  F_X6_split_j122 O d v0 v1 v2 v4 v5 v6 K34
theorem e_X6_split_j112 {O : mO} {d : Nat} {v0 : Nat} {v1 : Nat} {v2 : Int32} {v4 : Int32} {v5 : Int32} {v6 : Int32} {K : mH} {P : Option Value → mH → Prop} {y : (Int32 × Int32 × mH) ⊕ (mH)} (hin : ∀ q : Int32 × Int32 × mH, y = .inl q → Go O (d + 1) MX6_split 10 [some (.ref v0), some (.ref v1), some (.int v2), some (.int q.1), some (.int q.2.1), none, none, none] [] q.2.2 P) (hex : ∀ q : mH, y = .inr q → Go O (d + 1) MX6_split 185 [some (.ref v0), none, some (.int v2), none, none, none, none, none] [] q P) (h : F_X6_split_j112 O d v0 v1 v2 v4 v5 v6 K = some y) : Go O (d + 1) MX6_split 112 [some (.ref v0), some (.ref v1), some (.int v2), none, some (.int v4), some (.int v5), some (.int v6), none] [] K P := by
  unfold F_X6_split_j112 at h
  refine g_aload_n dX6_split_112 rfl ?_
  refine g_dup dX6_split_113 (by first | rfl | exact vrf_cat _) ?_
  obtain ⟨x33, ex33, h⟩ := bs h
  refine q_getI dX6_split_114 fX6_27 ex33 ?_
  refine g_iconst (v := (nI 1)) dX6_split_117 (by decide) ?_
  refine g_iadd dX6_split_118 ?_
  obtain ⟨K34, eK34, h⟩ := bs h
  refine q_put (c := (RX6, TX6, 10)) dX6_split_119 fX6_27 rfl rfl rfl (fun h => absurd h (by decide)) eK34 ?_
  refine Go_le ?_ (e_X6_split_j122 hin hex h)
  exact And.intro rfl (And.intro rfl (And.intro rfl (And.intro rfl (And.intro rfl (And.intro rfl (trivial))))))
noncomputable def F_X6_split_j95 (O : mO) (d : Nat) (v0 : Nat) (v1 : Nat) (v2 : Int32) (v4 : Int32) (v5 : Int32) (v6 : Int32) (w0 : Int32) (w1 : Int32) (w2 : Nat) (K : mH) : Option ((Int32 × Int32 × mH) ⊕ (mH)) :=
  (wrI K w2 w1 w0).bind fun K30 =>
  if v6 = (nI 2) then
    (gtA K30 v0 6 2).bind fun x35 =>
    (gtI K30 v0 6 3).bind fun x36 =>
    (wrI K30 x35 x36 (nI 0)).bind fun K37 =>
    F_X6_split_j112 O d v0 v1 v2 v4 v5 v6 K37
  else
    F_X6_split_j112 O d v0 v1 v2 v4 v5 v6 K30
theorem e_X6_split_j95 {O : mO} {d : Nat} {v0 : Nat} {v1 : Nat} {v2 : Int32} {v4 : Int32} {v5 : Int32} {v6 : Int32} {w0 : Int32} {w1 : Int32} {w2 : Nat} {K : mH} {P : Option Value → mH → Prop} {y : (Int32 × Int32 × mH) ⊕ (mH)} (hin : ∀ q : Int32 × Int32 × mH, y = .inl q → Go O (d + 1) MX6_split 10 [some (.ref v0), some (.ref v1), some (.int v2), some (.int q.1), some (.int q.2.1), none, none, none] [] q.2.2 P) (hex : ∀ q : mH, y = .inr q → Go O (d + 1) MX6_split 185 [some (.ref v0), none, some (.int v2), none, none, none, none, none] [] q P) (h : F_X6_split_j95 O d v0 v1 v2 v4 v5 v6 w0 w1 w2 K = some y) : Go O (d + 1) MX6_split 95 [some (.ref v0), some (.ref v1), some (.int v2), none, some (.int v4), some (.int v5), some (.int v6), none] [.int w0, .int w1, .ref w2] K P := by
  unfold F_X6_split_j95 at h
  obtain ⟨K30, eK30, h⟩ := bs h
  refine q_iast dX6_split_95 eK30 ?_
  refine g_iload dX6_split_96 rfl ?_
  refine g_iconst (v := (nI 2)) dX6_split_98 (by decide) ?_
  refine g_ic_ne (t := 112) dX6_split_99 (by decide) (fun c32 => ?_) (fun c32 => ?_)
  · rw [if_neg c32] at h
    refine Go_le ?_ (e_X6_split_j112 hin hex h)
    exact And.intro rfl (And.intro rfl (And.intro rfl (And.intro rfl (And.intro rfl (And.intro rfl (trivial))))))
  · rw [if_pos c32] at h
    refine g_aload_n dX6_split_102 rfl ?_
    obtain ⟨x35, ex35, h⟩ := bs h
    refine q_getA dX6_split_103 fX6_24 ex35 ?_
    refine g_aload_n dX6_split_106 rfl ?_
    obtain ⟨x36, ex36, h⟩ := bs h
    refine q_getI dX6_split_107 fX6_27 ex36 ?_
    refine g_iconst (v := (nI 0)) dX6_split_110 (by decide) ?_
    obtain ⟨K37, eK37, h⟩ := bs h
    refine q_iast dX6_split_111 eK37 ?_
    refine Go_le ?_ (e_X6_split_j112 hin hex h)
    exact And.intro rfl (And.intro rfl (And.intro rfl (And.intro rfl (And.intro rfl (And.intro rfl (trivial))))))
noncomputable def F_X6_split_j50 (O : mO) (d : Nat) (v0 : Nat) (v1 : Nat) (v2 : Int32) (v4 : Int32) (v5 : Int32) (v6 : Int32) (K : mH) : Option ((Int32 × Int32 × mH) ⊕ (mH)) :=
  (gtA K v0 6 1).bind fun x23 =>
  (gtI K v0 6 3).bind fun x24 =>
  (wrI K x23 x24 v4).bind fun K25 =>
  (gtA K25 v0 6 2).bind fun x26 =>
  (gtI K25 v0 6 3).bind fun x27 =>
  if v6 = (nI 1) then
    (toI (ev O d MX6_wordAt [.ref v1, .int v4, .int v2] K25)).bind fun p38 =>
    F_X6_split_j95 O d v0 v1 v2 v4 v5 v6 ((nI 2000) + p38.1) x27 x26 p38.2
  else
    F_X6_split_j95 O d v0 v1 v2 v4 v5 v6 ((nI 3000) + v5) x27 x26 K25
theorem e_X6_split_j50 {O : mO} {d : Nat} {v0 : Nat} {v1 : Nat} {v2 : Int32} {v4 : Int32} {v5 : Int32} {v6 : Int32} {K : mH} {P : Option Value → mH → Prop} {y : (Int32 × Int32 × mH) ⊕ (mH)} (hin : ∀ q : Int32 × Int32 × mH, y = .inl q → Go O (d + 1) MX6_split 10 [some (.ref v0), some (.ref v1), some (.int v2), some (.int q.1), some (.int q.2.1), none, none, none] [] q.2.2 P) (hex : ∀ q : mH, y = .inr q → Go O (d + 1) MX6_split 185 [some (.ref v0), none, some (.int v2), none, none, none, none, none] [] q P) (h : F_X6_split_j50 O d v0 v1 v2 v4 v5 v6 K = some y) : Go O (d + 1) MX6_split 50 [some (.ref v0), some (.ref v1), some (.int v2), none, some (.int v4), some (.int v5), some (.int v6), none] [] K P := by
  unfold F_X6_split_j50 at h
  refine g_aload_n dX6_split_50 rfl ?_
  obtain ⟨x23, ex23, h⟩ := bs h
  refine q_getA dX6_split_51 fX6_20 ex23 ?_
  refine g_aload_n dX6_split_54 rfl ?_
  obtain ⟨x24, ex24, h⟩ := bs h
  refine q_getI dX6_split_55 fX6_27 ex24 ?_
  refine g_iload dX6_split_58 rfl ?_
  obtain ⟨K25, eK25, h⟩ := bs h
  refine q_iast dX6_split_60 eK25 ?_
  refine g_aload_n dX6_split_61 rfl ?_
  obtain ⟨x26, ex26, h⟩ := bs h
  refine q_getA dX6_split_62 fX6_24 ex26 ?_
  refine g_aload_n dX6_split_65 rfl ?_
  obtain ⟨x27, ex27, h⟩ := bs h
  refine q_getI dX6_split_66 fX6_27 ex27 ?_
  refine g_iload dX6_split_69 rfl ?_
  refine g_iconst (v := (nI 1)) dX6_split_71 (by decide) ?_
  refine g_ic_ne (t := 89) dX6_split_72 (by decide) (fun c29 => ?_) (fun c29 => ?_)
  · rw [if_neg c29] at h
    refine g_sipush (v := (nI 3000)) dX6_split_89 (by decide) ?_
    refine g_iload dX6_split_92 rfl ?_
    refine g_iadd dX6_split_94 ?_
    refine Go_le ?_ (e_X6_split_j95 hin hex h)
    exact And.intro rfl (And.intro rfl (And.intro rfl (And.intro rfl (And.intro rfl (And.intro rfl (trivial))))))
  · rw [if_pos c29] at h
    refine g_sipush (v := (nI 2000)) dX6_split_75 (by decide) ?_
    refine g_aload_n dX6_split_78 rfl ?_
    refine g_iload dX6_split_79 rfl ?_
    refine g_iload_n dX6_split_81 rfl ?_
    obtain ⟨p38, ep38, h⟩ := bs h
    refine q_stat (Z := MX6_wordAt) (toI_s ep38) dX6_split_82 mX6_77.1 mX6_77.2 (Nat.le_of_ble_eq_true rfl) rfl rfl (Nat.le_of_ble_eq_true rfl) (Nat.le_of_ble_eq_true rfl) ?_
    show Go O (d + 1) MX6_split 85 [some (.ref v0), some (.ref v1), some (.int v2), none, some (.int v4), some (.int v5), some (.int v6), none] [.int p38.1, .int (nI 2000), .int x27, .ref x26] p38.2 P
    refine g_iadd dX6_split_85 ?_
    refine g_goto (t := 95) dX6_split_86 (by decide) ?_
    refine Go_le ?_ (e_X6_split_j95 hin hex h)
    exact And.intro rfl (And.intro rfl (And.intro rfl (And.intro rfl (And.intro rfl (And.intro rfl (trivial))))))
noncomputable def F_X6_split_l10 (O : mO) (d : Nat) (v0 : Nat) (v1 : Nat) (v2 : Int32) (s3 : Int32) (s4 : Int32) (K : mH) : Option ((Int32 × Int32 × mH) ⊕ (mH)) :=
  if v2 ≤ s4 then
    some (.inr K)
  else
    (rdB O K v1 s4).bind fun x3 =>
    (toI (ev O d MX6_sortOf [.int (x3 &&& (nI 255))] K)).bind fun p4 =>
    if p4.1 = 0 then
      F_X6_split_j122 O d v0 v1 v2 s4 (x3 &&& (nI 255)) p4.1 p4.2
    else
      if p4.1 = (nI 3) then
        F_X6_split_j50 O d v0 v1 v2 s4 (x3 &&& (nI 255)) p4.1 p4.2
      else
        if p4.1 = s3 then
          F_X6_split_j122 O d v0 v1 v2 s4 (x3 &&& (nI 255)) p4.1 p4.2
        else
          F_X6_split_j50 O d v0 v1 v2 s4 (x3 &&& (nI 255)) p4.1 p4.2
theorem e_X6_split_l10 {O : mO} {d : Nat} {v0 : Nat} {v1 : Nat} {v2 : Int32} {P : Option Value → mH → Prop} {x : mH} (hex : ∀ q : mH, x = q → Go O (d + 1) MX6_split 185 [some (.ref v0), none, some (.int v2), none, none, none, none, none] [] q P) : ∀ (f : Nat) (q : Int32 × Int32 × mH), lupF (fun (q : Int32 × Int32 × mH) => F_X6_split_l10 O d v0 v1 v2 q.1 q.2.1 q.2.2) f q = some x → Go O (d + 1) MX6_split 10 [some (.ref v0), some (.ref v1), some (.int v2), some (.int q.1), some (.int q.2.1), none, none, none] [] q.2.2 P := by
  intro f
  induction f with
  | zero =>
    intro q h
    cases h
  | succ f ih =>
    intro q h
    obtain ⟨y, h, hy1, hy2⟩ := lupF_s h
    have hin : ∀ q : Int32 × Int32 × mH, y = .inl q → Go O (d + 1) MX6_split 10 [some (.ref v0), some (.ref v1), some (.int v2), some (.int q.1), some (.int q.2.1), none, none, none] [] q.2.2 P := fun q e => ih q (hy1 q e)
    replace hex : ∀ q : mH, y = .inr q → Go O (d + 1) MX6_split 185 [some (.ref v0), none, some (.int v2), none, none, none, none, none] [] q P := fun q e => hex q (hy2 q e).symm
    clear ih hy1 hy2
    obtain ⟨s3, s4, K⟩ := q
    dsimp only at h ⊢
    unfold F_X6_split_l10 at h
    refine g_iload dX6_split_10 rfl ?_
    refine g_iload_n dX6_split_12 rfl ?_
    refine g_ic_ge (t := 185) dX6_split_13 (by decide) (fun c2 => ?_) (fun c2 => ?_)
    · rw [if_pos c2] at h
      refine Go_le ?_ (hex K (Option.some.inj h).symm)
      exact And.intro rfl (And.intro rfl (trivial))
    · rw [if_neg c2] at h
      refine g_aload_n dX6_split_16 rfl ?_
      refine g_iload dX6_split_17 rfl ?_
      obtain ⟨x3, ex3, h⟩ := bs h
      refine q_bald dX6_split_19 ex3 ?_
      refine g_sipush (v := (nI 255)) dX6_split_20 (by decide) ?_
      refine g_iand dX6_split_23 ?_
      refine g_istore (ls' := [some (.ref v0), some (.ref v1), some (.int v2), some (.int s3), some (.int s4), some (.int (x3 &&& (nI 255))), none, none]) dX6_split_24 (by decide) rfl ?_
      refine g_iload dX6_split_26 rfl ?_
      obtain ⟨p4, ep4, h⟩ := bs h
      refine q_stat (Z := MX6_sortOf) (toI_s ep4) dX6_split_28 mX6_73.1 mX6_73.2 (Nat.le_of_ble_eq_true rfl) rfl rfl (Nat.le_of_ble_eq_true rfl) (Nat.le_of_ble_eq_true rfl) ?_
      show Go O (d + 1) MX6_split 31 [some (.ref v0), some (.ref v1), some (.int v2), some (.int s3), some (.int s4), some (.int (x3 &&& (nI 255))), none, none] [.int p4.1] p4.2 P
      refine g_istore (ls' := [some (.ref v0), some (.ref v1), some (.int v2), some (.int s3), some (.int s4), some (.int (x3 &&& (nI 255))), some (.int p4.1), none]) dX6_split_31 (by decide) rfl ?_
      refine g_iload dX6_split_33 rfl ?_
      refine g_if_eq (t := 122) dX6_split_35 (by decide) (fun c8 => ?_) (fun c8 => ?_)
      · rw [if_pos c8] at h
        refine Go_le ?_ (e_X6_split_j122 hin hex h)
        exact And.intro rfl (And.intro rfl (And.intro rfl (And.intro rfl (And.intro rfl (And.intro rfl (trivial))))))
      · rw [if_neg c8] at h
        refine g_iload dX6_split_38 rfl ?_
        refine g_iconst (v := (nI 3)) dX6_split_40 (by decide) ?_
        refine g_ic_eq (t := 50) dX6_split_41 (by decide) (fun c22 => ?_) (fun c22 => ?_)
        · rw [if_pos c22] at h
          refine Go_le ?_ (e_X6_split_j50 hin hex h)
          exact And.intro rfl (And.intro rfl (And.intro rfl (And.intro rfl (And.intro rfl (And.intro rfl (trivial))))))
        · rw [if_neg c22] at h
          refine g_iload dX6_split_44 rfl ?_
          refine g_iload_n dX6_split_46 rfl ?_
          refine g_ic_eq (t := 122) dX6_split_47 (by decide) (fun c40 => ?_) (fun c40 => ?_)
          · rw [if_pos c40] at h
            refine Go_le ?_ (e_X6_split_j122 hin hex h)
            exact And.intro rfl (And.intro rfl (And.intro rfl (And.intro rfl (And.intro rfl (And.intro rfl (trivial))))))
          · rw [if_neg c40] at h
            refine Go_le ?_ (e_X6_split_j50 hin hex h)
            exact And.intro rfl (And.intro rfl (And.intro rfl (And.intro rfl (And.intro rfl (And.intro rfl (trivial))))))
noncomputable def F_X6_split (O : mO) (d : Nat) (a0 : Nat) (a1 : Nat) (a2 : Int32) (K : mH) : Option (mH) :=
  (ptI K a0 6 3 (nI 0)).bind fun K1 =>
  (lupF (fun (q : Int32 × Int32 × mH) => F_X6_split_l10 O d a0 a1 a2 q.1 q.2.1 q.2.2) FU ((nI 0), (nI 0), K1)).bind fun r41 =>
  (gtA r41 a0 6 1).bind fun x42 =>
  (gtI r41 a0 6 3).bind fun x43 =>
  (wrI r41 x42 x43 a2).bind fun K44 =>
  (gtA K44 a0 6 2).bind fun x45 =>
  (gtI K44 a0 6 3).bind fun x46 =>
  (wrI K44 x45 x46 (nI 4000)).bind fun K47 =>
  some K47
theorem e_X6_split {O : mO} {d : Nat} {a0 : Nat} {a1 : Nat} {a2 : Int32} {K : mH} {x : mH} (h : F_X6_split O d a0 a1 a2 K = some x) : ev O (d + 1) MX6_split [.ref a0, .ref a1, .int a2] K = some (none, x) := by
  refine Rn_evx ?_
  show Go O (d + 1) MX6_split 0 [some (.ref a0), some (.ref a1), some (.int a2), none, none, none, none, none] [] K _
  generalize hP : (fun (r : Option Value) (K' : mH) => (r, K') = (none, x)) = P
  have hret : ∀ K' : mH, K' = x → P none K' := by
    intro K' e
    subst hP e
    rfl
  clear hP
  unfold F_X6_split at h
  refine g_aload_n dX6_split_0 rfl ?_
  refine g_iconst (v := (nI 0)) dX6_split_1 (by decide) ?_
  obtain ⟨K1, eK1, h⟩ := bs h
  refine q_put (c := (RX6, TX6, 10)) dX6_split_2 fX6_27 rfl rfl rfl (fun h => absurd h (by decide)) eK1 ?_
  refine g_iconst (v := (nI 0)) dX6_split_5 (by decide) ?_
  refine g_istore_n (ls' := [some (.ref a0), some (.ref a1), some (.int a2), some (.int (nI 0)), none, none, none, none]) dX6_split_6 (by decide) rfl ?_
  refine g_iconst (v := (nI 0)) dX6_split_7 (by decide) ?_
  refine g_istore (ls' := [some (.ref a0), some (.ref a1), some (.int a2), some (.int (nI 0)), some (.int (nI 0)), none, none, none]) dX6_split_8 (by decide) rfl ?_
  obtain ⟨r41, er41, h⟩ := bs h
  have hx : Go O (d + 1) MX6_split 185 [some (.ref a0), none, some (.int a2), none, none, none, none, none] [] r41 P := by
    refine g_aload_n dX6_split_185 rfl ?_
    obtain ⟨x42, ex42, h⟩ := bs h
    refine q_getA dX6_split_186 fX6_20 ex42 ?_
    refine g_aload_n dX6_split_189 rfl ?_
    obtain ⟨x43, ex43, h⟩ := bs h
    refine q_getI dX6_split_190 fX6_27 ex43 ?_
    refine g_iload_n dX6_split_193 rfl ?_
    obtain ⟨K44, eK44, h⟩ := bs h
    refine q_iast dX6_split_194 eK44 ?_
    refine g_aload_n dX6_split_195 rfl ?_
    obtain ⟨x45, ex45, h⟩ := bs h
    refine q_getA dX6_split_196 fX6_24 ex45 ?_
    refine g_aload_n dX6_split_199 rfl ?_
    obtain ⟨x46, ex46, h⟩ := bs h
    refine q_getI dX6_split_200 fX6_27 ex46 ?_
    refine g_sipush (v := (nI 4000)) dX6_split_203 (by decide) ?_
    obtain ⟨K47, eK47, h⟩ := bs h
    refine q_iast dX6_split_206 eK47 ?_
    exact g_return dX6_split_207 rfl (hret _ (Option.some.inj h))
  refine Go_le ?_ (e_X6_split_l10 (fun q e => by cases e; exact hx) FU ((nI 0), (nI 0), K1) er41)
  exact And.intro rfl (And.intro rfl (And.intro rfl (And.intro rfl (And.intro rfl (trivial)))))
noncomputable def F_X6_sortOf_j22 (O : mO) (d : Nat) (v0 : Int32) (K : mH) : Option (Int32 × mH) :=
  some ((if v0 < (nI 48) then (nI 3) else (if (nI 57) < v0 then (nI 3) else (nI 2))), K)
theorem e_X6_sortOf_j22 {O : mO} {d : Nat} {v0 : Int32} {K : mH} {P : Option Value → mH → Prop} {x : Int32 × mH} (hret : ∀ (r : Int32) (K' : mH), (r, K') = x → P (some (.int r)) K') (h : F_X6_sortOf_j22 O d v0 K = some x) : Go O (d + 1) MX6_sortOf 22 [some (.int v0)] [] K P := by
  unfold F_X6_sortOf_j22 at h
  refine g_iload_n dX6_sortOf_22 rfl ?_
  refine g_bipush (v := (nI 48)) dX6_sortOf_23 (by decide) ?_
  have hj : Go O (d + 1) MX6_sortOf 39 [none] [.int (if v0 < (nI 48) then (nI 3) else (if (nI 57) < v0 then (nI 3) else (nI 2)))] K P := by
    exact g_ireturn dX6_sortOf_39 rfl (by first | rfl | decide) (hret _ _ (Option.some.inj h))
  refine g_ic_lt (t := 38) dX6_sortOf_25 (by decide) (fun c3 => ?_) (fun c3 => ?_)
  · skip
    refine g_iconst (v := (nI 3)) dX6_sortOf_38 (by decide) ?_
    have hk : Go O (d + 1) MX6_sortOf 39 [none] [.int (nI 3)] K P := by simpa only [if_pos c3] using hj
    refine Go_le ?_ hk
    exact trivial
  · skip
    refine g_iload_n dX6_sortOf_28 rfl ?_
    refine g_bipush (v := (nI 57)) dX6_sortOf_29 (by decide) ?_
    refine g_ic_gt (t := 38) dX6_sortOf_31 (by decide) (fun c4 => ?_) (fun c4 => ?_)
    · skip
      refine g_iconst (v := (nI 3)) dX6_sortOf_38 (by decide) ?_
      have hk : Go O (d + 1) MX6_sortOf 39 [none] [.int (nI 3)] K P := by simpa only [if_neg c3, if_pos c4] using hj
      refine Go_le ?_ hk
      exact trivial
    · skip
      refine g_iconst (v := (nI 2)) dX6_sortOf_34 (by decide) ?_
      refine g_goto (t := 39) dX6_sortOf_35 (by decide) ?_
      have hk : Go O (d + 1) MX6_sortOf 39 [none] [.int (nI 2)] K P := by simpa only [if_neg c3, if_neg c4] using hj
      refine Go_le ?_ hk
      exact trivial
noncomputable def F_X6_sortOf (O : mO) (d : Nat) (a0 : Int32) (K : mH) : Option (Int32 × mH) :=
  if a0 = (nI 32) then
    some ((nI 0), K)
  else
    if a0 < (nI 97) then
      F_X6_sortOf_j22 O d a0 K
    else
      if (nI 122) < a0 then
        F_X6_sortOf_j22 O d a0 K
      else
        some ((nI 1), K)
theorem e_X6_sortOf {O : mO} {d : Nat} {a0 : Int32} {K : mH} {r0 : Int32} {K0 : mH} (h : F_X6_sortOf O d a0 K = some (r0, K0)) : ev O (d + 1) MX6_sortOf [.int a0] K = some (some (.int r0), K0) := by
  refine Rn_evx ?_
  show Go O (d + 1) MX6_sortOf 0 [some (.int a0)] [] K _
  generalize hP : (fun (r : Option Value) (K' : mH) => (r, K') = (some (.int r0), K0)) = P
  have hret : ∀ (r : Int32) (K' : mH), (r, K') = (r0, K0) → P (some (.int r)) K' := by
    intro r K' e
    cases e
    subst hP
    rfl
  clear hP
  unfold F_X6_sortOf at h
  refine g_iload_n dX6_sortOf_0 rfl ?_
  refine g_bipush (v := (nI 32)) dX6_sortOf_1 (by decide) ?_
  refine g_ic_ne (t := 8) dX6_sortOf_3 (by decide) (fun c1 => ?_) (fun c1 => ?_)
  · rw [if_neg c1] at h
    refine g_iload_n dX6_sortOf_8 rfl ?_
    refine g_bipush (v := (nI 97)) dX6_sortOf_9 (by decide) ?_
    refine g_ic_lt (t := 22) dX6_sortOf_11 (by decide) (fun c2 => ?_) (fun c2 => ?_)
    · rw [if_pos c2] at h
      refine Go_le ?_ (e_X6_sortOf_j22 hret h)
      exact And.intro rfl (trivial)
    · rw [if_neg c2] at h
      refine g_iload_n dX6_sortOf_14 rfl ?_
      refine g_bipush (v := (nI 122)) dX6_sortOf_15 (by decide) ?_
      refine g_ic_gt (t := 22) dX6_sortOf_17 (by decide) (fun c5 => ?_) (fun c5 => ?_)
      · rw [if_pos c5] at h
        refine Go_le ?_ (e_X6_sortOf_j22 hret h)
        exact And.intro rfl (trivial)
      · rw [if_neg c5] at h
        refine g_iconst (v := (nI 1)) dX6_sortOf_20 (by decide) ?_
        exact g_ireturn dX6_sortOf_21 rfl (by first | rfl | decide) (hret _ _ (Option.some.inj h))
  · rw [if_pos c1] at h
    refine g_iconst (v := (nI 0)) dX6_sortOf_6 (by decide) ?_
    exact g_ireturn dX6_sortOf_7 rfl (by first | rfl | decide) (hret _ _ (Option.some.inj h))
noncomputable def F_X6_wordAt_l2 (O : mO) (d : Nat) (v0 : Nat) (v1 : Int32) (v2 : Int32) (s3 : Int32) (K : mH) : Option ((Int32 × mH) ⊕ ((mH) ⊕ (Int32 × mH))) :=
  if (nI 26) ≤ s3 then
    some (.inr (.inl K))
  else
    (toI (ev O d MX6_spells [.int s3, .ref v0, .int v1, .int v2] K)).bind fun p2 =>
    if p2.1 = 0 then
      some (.inl ((s3 + nI 1), p2.2))
    else
      some (.inr (.inr (s3, p2.2)))
theorem e_X6_wordAt_l2 {O : mO} {d : Nat} {v0 : Nat} {v1 : Int32} {v2 : Int32} {P : Option Value → mH → Prop} {x : (mH) ⊕ (Int32 × mH)} (hex : ∀ q : mH, x = .inl q → Go O (d + 1) MX6_wordAt 26 [none, none, none, none] [] q P) (hrt : ∀ (r : Int32) (K' : mH), x = .inr (r, K') → P (some (.int r)) K') : ∀ (f : Nat) (q : Int32 × mH), lupF (fun (q : Int32 × mH) => F_X6_wordAt_l2 O d v0 v1 v2 q.1 q.2) f q = some x → Go O (d + 1) MX6_wordAt 2 [some (.ref v0), some (.int v1), some (.int v2), some (.int q.1)] [] q.2 P := by
  intro f
  induction f with
  | zero =>
    intro q h
    cases h
  | succ f ih =>
    intro q h
    obtain ⟨y, h, hy1, hy2⟩ := lupF_s h
    have hin : ∀ q : Int32 × mH, y = .inl q → Go O (d + 1) MX6_wordAt 2 [some (.ref v0), some (.int v1), some (.int v2), some (.int q.1)] [] q.2 P := fun q e => ih q (hy1 q e)
    replace hex : ∀ q : mH, y = .inr (.inl q) → Go O (d + 1) MX6_wordAt 26 [none, none, none, none] [] q P := fun q e => hex q (hy2 _ e).symm
    replace hrt : ∀ (r : Int32) (K' : mH), y = .inr (.inr (r, K')) → P (some (.int r)) K' := fun r K' e => hrt r K' (hy2 _ e).symm
    clear ih hy1 hy2
    obtain ⟨s3, K⟩ := q
    dsimp only at h ⊢
    unfold F_X6_wordAt_l2 at h
    refine g_iload_n dX6_wordAt_2 rfl ?_
    refine g_bipush (v := (nI 26)) dX6_wordAt_3 (by decide) ?_
    refine g_ic_ge (t := 26) dX6_wordAt_5 (by decide) (fun c1 => ?_) (fun c1 => ?_)
    · rw [if_pos c1] at h
      refine Go_le ?_ (hex K (Option.some.inj h).symm)
      exact trivial
    · rw [if_neg c1] at h
      refine g_iload_n dX6_wordAt_8 rfl ?_
      refine g_aload_n dX6_wordAt_9 rfl ?_
      refine g_iload_n dX6_wordAt_10 rfl ?_
      refine g_iload_n dX6_wordAt_11 rfl ?_
      obtain ⟨p2, ep2, h⟩ := bs h
      refine q_stat (Z := MX6_spells) (toI_s ep2) dX6_wordAt_12 mX6_81.1 mX6_81.2 (Nat.le_of_ble_eq_true rfl) rfl rfl (Nat.le_of_ble_eq_true rfl) (Nat.le_of_ble_eq_true rfl) ?_
      show Go O (d + 1) MX6_wordAt 15 [some (.ref v0), some (.int v1), some (.int v2), some (.int s3)] [.int p2.1] p2.2 P
      refine g_if_eq (t := 20) dX6_wordAt_15 (by decide) (fun c3 => ?_) (fun c3 => ?_)
      · rw [if_pos c3] at h
        refine q_iinc (w := nI 1) (ls' := [some (.ref v0), some (.int v1), some (.int v2), some (.int (s3 + nI 1))]) dX6_wordAt_20 (by decide) rfl (by decide) rfl ?_
        refine g_goto (t := 2) dX6_wordAt_23 (by decide) ?_
        refine Go_le ?_ (hin ((s3 + nI 1), p2.2) (Option.some.inj h).symm)
        exact And.intro rfl (And.intro rfl (And.intro rfl (And.intro rfl (trivial))))
      · rw [if_neg c3] at h
        refine g_iload_n dX6_wordAt_18 rfl ?_
        exact g_ireturn dX6_wordAt_19 rfl (by first | rfl | decide) (hrt _ _ (Option.some.inj h).symm)
noncomputable def F_X6_wordAt (O : mO) (d : Nat) (a0 : Nat) (a1 : Int32) (a2 : Int32) (K : mH) : Option (Int32 × mH) :=
  (lupF (fun (q : Int32 × mH) => F_X6_wordAt_l2 O d a0 a1 a2 q.1 q.2) FU ((nI 0), K)).bind fun r4 => match r4 with
    | .inl r5 =>
    
      some ((nI 26), r5)
    | .inr r5 => some r5
theorem e_X6_wordAt {O : mO} {d : Nat} {a0 : Nat} {a1 : Int32} {a2 : Int32} {K : mH} {r0 : Int32} {K0 : mH} (h : F_X6_wordAt O d a0 a1 a2 K = some (r0, K0)) : ev O (d + 1) MX6_wordAt [.ref a0, .int a1, .int a2] K = some (some (.int r0), K0) := by
  refine Rn_evx ?_
  show Go O (d + 1) MX6_wordAt 0 [some (.ref a0), some (.int a1), some (.int a2), none] [] K _
  generalize hP : (fun (r : Option Value) (K' : mH) => (r, K') = (some (.int r0), K0)) = P
  have hret : ∀ (r : Int32) (K' : mH), (r, K') = (r0, K0) → P (some (.int r)) K' := by
    intro r K' e
    cases e
    subst hP
    rfl
  clear hP
  unfold F_X6_wordAt at h
  refine g_iconst (v := (nI 0)) dX6_wordAt_0 (by decide) ?_
  refine g_istore_n (ls' := [some (.ref a0), some (.int a1), some (.int a2), some (.int (nI 0))]) dX6_wordAt_1 (by decide) rfl ?_
  obtain ⟨r4, er4, h⟩ := bs h
  rcases r4 with r5 | r5
  · dsimp only at h
    have hx : Go O (d + 1) MX6_wordAt 26 [none, none, none, none] [] r5 P := by
      refine g_bipush (v := (nI 26)) dX6_wordAt_26 (by decide) ?_
      exact g_ireturn dX6_wordAt_28 rfl (by first | rfl | decide) (hret _ _ (Option.some.inj h))
    refine Go_le ?_ (e_X6_wordAt_l2 (fun q e => by cases e; exact hx) (fun r K' e => by cases e) FU ((nI 0), K) er4)
    exact And.intro rfl (And.intro rfl (And.intro rfl (And.intro rfl (trivial))))
  · dsimp only at h
    refine Go_le ?_ (e_X6_wordAt_l2 (fun q e => by cases e) (fun r K' e => by cases e; exact hret _ _ (Option.some.inj h)) FU ((nI 0), K) er4)
    exact And.intro rfl (And.intro rfl (And.intro rfl (And.intro rfl (trivial))))
noncomputable def F_X6_spells_j59 (O : mO) (d : Nat) (v0 : Int32) (v1 : Nat) (v2 : Int32) (v3 : Int32) (v4 : Int32) (v5 : Int32) (w0 : Int32) (K : mH) : Option ((Int32) ⊕ ((Unit) ⊕ (Int32 × mH))) :=
  if w0 = (nI 32) then
    (toI (ev O d MX6_sortOf [.int v5] K)).bind fun p8 =>
    (zz (if p8.1 = (nI 1) then (nI 0) else (nI 1))).bind fun z10 =>
    some (.inr (.inr (z10, p8.2)))
  else
    if v5 = w0 then
      some (.inl (v4 + nI 1))
    else
      some (.inr (.inr ((nI 0), K)))
theorem e_X6_spells_j59 {O : mO} {d : Nat} {v0 : Int32} {v1 : Nat} {v2 : Int32} {v3 : Int32} {v4 : Int32} {v5 : Int32} {w0 : Int32} {K : mH} {P : Option Value → mH → Prop} {y : (Int32) ⊕ ((Unit) ⊕ (Int32 × mH))} (hin : ∀ q : Int32, y = .inl q → Go O (d + 1) MX6_spells 3 [some (.int v0), some (.ref v1), some (.int v2), some (.int v3), some (.int q), none, none] [] K P) (hex : ∀ q : Unit, y = .inr (.inl q) → Go O (d + 1) MX6_spells 98 [none, none, none, none, none, none, none] [] K P) (hrt : ∀ (r : Int32) (K' : mH), y = .inr (.inr (r, K')) → P (some (.int r)) K') (h : F_X6_spells_j59 O d v0 v1 v2 v3 v4 v5 w0 K = some y) : Go O (d + 1) MX6_spells 59 [some (.int v0), some (.ref v1), some (.int v2), some (.int v3), some (.int v4), some (.int v5), none] [.int w0] K P := by
  unfold F_X6_spells_j59 at h
  refine g_istore (ls' := [some (.int v0), some (.ref v1), some (.int v2), some (.int v3), some (.int v4), some (.int v5), some (.int w0)]) dX6_spells_59 (by decide) rfl ?_
  refine g_iload dX6_spells_61 rfl ?_
  refine g_bipush (v := (nI 32)) dX6_spells_63 (by decide) ?_
  refine g_ic_ne (t := 83) dX6_spells_65 (by decide) (fun c6 => ?_) (fun c6 => ?_)
  · rw [if_neg c6] at h
    refine g_iload dX6_spells_83 rfl ?_
    refine g_iload dX6_spells_85 rfl ?_
    refine g_ic_eq (t := 92) dX6_spells_87 (by decide) (fun c7 => ?_) (fun c7 => ?_)
    · rw [if_pos c7] at h
      refine q_iinc (w := nI 1) (ls' := [some (.int v0), some (.ref v1), some (.int v2), some (.int v3), some (.int (v4 + nI 1)), some (.int v5), some (.int w0)]) dX6_spells_92 (by decide) rfl (by decide) rfl ?_
      refine g_goto (t := 3) dX6_spells_95 (by decide) ?_
      refine Go_le ?_ (hin (v4 + nI 1) (Option.some.inj h).symm)
      exact And.intro rfl (And.intro rfl (And.intro rfl (And.intro rfl (And.intro rfl (trivial)))))
    · rw [if_neg c7] at h
      refine g_iconst (v := (nI 0)) dX6_spells_90 (by decide) ?_
      exact g_ireturn dX6_spells_91 rfl (by first | rfl | decide) (hrt _ _ (Option.some.inj h).symm)
  · rw [if_pos c6] at h
    refine g_iload dX6_spells_68 rfl ?_
    obtain ⟨p8, ep8, h⟩ := bs h
    refine q_stat (Z := MX6_sortOf) (toI_s ep8) dX6_spells_70 mX6_73.1 mX6_73.2 (Nat.le_of_ble_eq_true rfl) rfl rfl (Nat.le_of_ble_eq_true rfl) (Nat.le_of_ble_eq_true rfl) ?_
    show Go O (d + 1) MX6_spells 73 [some (.int v0), some (.ref v1), some (.int v2), some (.int v3), some (.int v4), some (.int v5), some (.int w0)] [.int p8.1] p8.2 P
    refine g_iconst (v := (nI 1)) dX6_spells_73 (by decide) ?_
    have hj : Go O (d + 1) MX6_spells 82 [none, none, none, none, none, none, none] [.int (if p8.1 = (nI 1) then (nI 0) else (nI 1))] p8.2 P := by
      obtain ⟨z10, ez10, h⟩ := bs h
      exact q_zret dX6_spells_82 rfl ez10 (hrt _ _ (Option.some.inj h).symm)
    refine g_ic_eq (t := 81) dX6_spells_74 (by decide) (fun c9 => ?_) (fun c9 => ?_)
    · skip
      refine g_iconst (v := (nI 0)) dX6_spells_81 (by decide) ?_
      have hk : Go O (d + 1) MX6_spells 82 [none, none, none, none, none, none, none] [.int (nI 0)] p8.2 P := by simpa only [if_pos c9] using hj
      refine Go_le ?_ hk
      exact trivial
    · skip
      refine g_iconst (v := (nI 1)) dX6_spells_77 (by decide) ?_
      refine g_goto (t := 82) dX6_spells_78 (by decide) ?_
      have hk : Go O (d + 1) MX6_spells 82 [none, none, none, none, none, none, none] [.int (nI 1)] p8.2 P := by simpa only [if_neg c9] using hj
      refine Go_le ?_ hk
      exact trivial
noncomputable def F_X6_spells_j33 (O : mO) (d : Nat) (v0 : Int32) (v1 : Nat) (v2 : Int32) (v3 : Int32) (v4 : Int32) (w0 : Int32) (K : mH) : Option ((Int32) ⊕ ((Unit) ⊕ (Int32 × mH))) :=
  if (nI 6) ≤ v4 then
    F_X6_spells_j59 O d v0 v1 v2 v3 v4 w0 (nI 32) K
  else
    (chA ((v0 * (nI 6)) + v4)).bind fun x11 =>
    F_X6_spells_j59 O d v0 v1 v2 v3 v4 w0 x11 K
theorem e_X6_spells_j33 {O : mO} {d : Nat} {v0 : Int32} {v1 : Nat} {v2 : Int32} {v3 : Int32} {v4 : Int32} {w0 : Int32} {K : mH} {P : Option Value → mH → Prop} {y : (Int32) ⊕ ((Unit) ⊕ (Int32 × mH))} (hin : ∀ q : Int32, y = .inl q → Go O (d + 1) MX6_spells 3 [some (.int v0), some (.ref v1), some (.int v2), some (.int v3), some (.int q), none, none] [] K P) (hex : ∀ q : Unit, y = .inr (.inl q) → Go O (d + 1) MX6_spells 98 [none, none, none, none, none, none, none] [] K P) (hrt : ∀ (r : Int32) (K' : mH), y = .inr (.inr (r, K')) → P (some (.int r)) K') (h : F_X6_spells_j33 O d v0 v1 v2 v3 v4 w0 K = some y) : Go O (d + 1) MX6_spells 33 [some (.int v0), some (.ref v1), some (.int v2), some (.int v3), some (.int v4), none, none] [.int w0] K P := by
  unfold F_X6_spells_j33 at h
  refine g_istore (ls' := [some (.int v0), some (.ref v1), some (.int v2), some (.int v3), some (.int v4), some (.int w0), none]) dX6_spells_33 (by decide) rfl ?_
  refine g_iload dX6_spells_35 rfl ?_
  refine g_bipush (v := (nI 6)) dX6_spells_37 (by decide) ?_
  refine g_ic_ge (t := 57) dX6_spells_39 (by decide) (fun c5 => ?_) (fun c5 => ?_)
  · rw [if_pos c5] at h
    refine g_bipush (v := (nI 32)) dX6_spells_57 (by decide) ?_
    refine Go_le ?_ (e_X6_spells_j59 hin hex hrt h)
    exact And.intro rfl (And.intro rfl (And.intro rfl (And.intro rfl (And.intro rfl (And.intro rfl (trivial))))))
  · rw [if_neg c5] at h
    refine g_ldcS dX6_spells_42 (by decide +kernel) (by decide +kernel) ?_
    refine g_iload_n dX6_spells_44 rfl ?_
    refine g_bipush (v := (nI 6)) dX6_spells_45 (by decide) ?_
    refine g_imul dX6_spells_47 ?_
    refine g_iload dX6_spells_48 rfl ?_
    refine g_iadd dX6_spells_50 ?_
    obtain ⟨x11, ex11, h⟩ := bs h
    refine q_chr dX6_spells_51 (by decide +kernel) (Nat.le_of_ble_eq_true rfl) ex11 ?_
    refine g_goto (t := 59) dX6_spells_54 (by decide) ?_
    refine Go_le ?_ (e_X6_spells_j59 hin hex hrt h)
    exact And.intro rfl (And.intro rfl (And.intro rfl (And.intro rfl (And.intro rfl (And.intro rfl (trivial))))))
noncomputable def F_X6_spells_l3 (O : mO) (d : Nat) (v0 : Int32) (v1 : Nat) (v2 : Int32) (v3 : Int32) (K : mH) (s4 : Int32) : Option ((Int32) ⊕ ((Unit) ⊕ (Int32 × mH))) :=
  if (nI 6) < s4 then
    some (.inr (.inl ()))
  else
    if v3 ≤ (v2 + s4) then
      F_X6_spells_j33 O d v0 v1 v2 v3 s4 (nI 32) K
    else
      (rdB O K v1 (v2 + s4)).bind fun x12 =>
      F_X6_spells_j33 O d v0 v1 v2 v3 s4 (x12 &&& (nI 255)) K
theorem e_X6_spells_l3 {O : mO} {d : Nat} {v0 : Int32} {v1 : Nat} {v2 : Int32} {v3 : Int32} {K : mH} {P : Option Value → mH → Prop} {x : (Unit) ⊕ (Int32 × mH)} (hex : ∀ q : Unit, x = .inl q → Go O (d + 1) MX6_spells 98 [none, none, none, none, none, none, none] [] K P) (hrt : ∀ (r : Int32) (K' : mH), x = .inr (r, K') → P (some (.int r)) K') : ∀ (f : Nat) (q : Int32), lupF (fun (q : Int32) => F_X6_spells_l3 O d v0 v1 v2 v3 K q) f q = some x → Go O (d + 1) MX6_spells 3 [some (.int v0), some (.ref v1), some (.int v2), some (.int v3), some (.int q), none, none] [] K P := by
  intro f
  induction f with
  | zero =>
    intro q h
    cases h
  | succ f ih =>
    intro s4 h
    obtain ⟨y, h, hy1, hy2⟩ := lupF_s h
    have hin : ∀ q : Int32, y = .inl q → Go O (d + 1) MX6_spells 3 [some (.int v0), some (.ref v1), some (.int v2), some (.int v3), some (.int q), none, none] [] K P := fun q e => ih q (hy1 q e)
    replace hex : ∀ q : Unit, y = .inr (.inl q) → Go O (d + 1) MX6_spells 98 [none, none, none, none, none, none, none] [] K P := fun q e => hex q (hy2 _ e).symm
    replace hrt : ∀ (r : Int32) (K' : mH), y = .inr (.inr (r, K')) → P (some (.int r)) K' := fun r K' e => hrt r K' (hy2 _ e).symm
    clear ih hy1 hy2
    try dsimp only at h
    unfold F_X6_spells_l3 at h
    refine g_iload dX6_spells_3 rfl ?_
    refine g_bipush (v := (nI 6)) dX6_spells_5 (by decide) ?_
    refine g_ic_gt (t := 98) dX6_spells_7 (by decide) (fun c1 => ?_) (fun c1 => ?_)
    · rw [if_pos c1] at h
      refine Go_le ?_ (hex () (Option.some.inj h).symm)
      exact trivial
    · rw [if_neg c1] at h
      refine g_iload_n dX6_spells_10 rfl ?_
      refine g_iload dX6_spells_11 rfl ?_
      refine g_iadd dX6_spells_13 ?_
      refine g_iload_n dX6_spells_14 rfl ?_
      refine g_ic_ge (t := 31) dX6_spells_15 (by decide) (fun c3 => ?_) (fun c3 => ?_)
      · rw [if_pos c3] at h
        refine g_bipush (v := (nI 32)) dX6_spells_31 (by decide) ?_
        refine Go_le ?_ (e_X6_spells_j33 hin hex hrt h)
        exact And.intro rfl (And.intro rfl (And.intro rfl (And.intro rfl (And.intro rfl (trivial)))))
      · rw [if_neg c3] at h
        refine g_aload_n dX6_spells_18 rfl ?_
        refine g_iload_n dX6_spells_19 rfl ?_
        refine g_iload dX6_spells_20 rfl ?_
        refine g_iadd dX6_spells_22 ?_
        obtain ⟨x12, ex12, h⟩ := bs h
        refine q_bald dX6_spells_23 ex12 ?_
        refine g_sipush (v := (nI 255)) dX6_spells_24 (by decide) ?_
        refine g_iand dX6_spells_27 ?_
        refine g_goto (t := 33) dX6_spells_28 (by decide) ?_
        refine Go_le ?_ (e_X6_spells_j33 hin hex hrt h)
        exact And.intro rfl (And.intro rfl (And.intro rfl (And.intro rfl (And.intro rfl (trivial)))))
noncomputable def F_X6_spells (O : mO) (d : Nat) (a0 : Int32) (a1 : Nat) (a2 : Int32) (a3 : Int32) (K : mH) : Option (Int32 × mH) :=
  (lupF (fun (q : Int32) => F_X6_spells_l3 O d a0 a1 a2 a3 K q) FU (nI 0)).bind fun r13 => match r13 with
    | .inl r14 =>
    
      some ((nI 0), K)
    | .inr r14 => some r14
theorem e_X6_spells {O : mO} {d : Nat} {a0 : Int32} {a1 : Nat} {a2 : Int32} {a3 : Int32} {K : mH} {r0 : Int32} {K0 : mH} (h : F_X6_spells O d a0 a1 a2 a3 K = some (r0, K0)) : ev O (d + 1) MX6_spells [.int a0, .ref a1, .int a2, .int a3] K = some (some (.int r0), K0) := by
  refine Rn_evx ?_
  show Go O (d + 1) MX6_spells 0 [some (.int a0), some (.ref a1), some (.int a2), some (.int a3), none, none, none] [] K _
  generalize hP : (fun (r : Option Value) (K' : mH) => (r, K') = (some (.int r0), K0)) = P
  have hret : ∀ (r : Int32) (K' : mH), (r, K') = (r0, K0) → P (some (.int r)) K' := by
    intro r K' e
    cases e
    subst hP
    rfl
  clear hP
  unfold F_X6_spells at h
  refine g_iconst (v := (nI 0)) dX6_spells_0 (by decide) ?_
  refine g_istore (ls' := [some (.int a0), some (.ref a1), some (.int a2), some (.int a3), some (.int (nI 0)), none, none]) dX6_spells_1 (by decide) rfl ?_
  obtain ⟨r13, er13, h⟩ := bs h
  rcases r13 with r14 | r14
  · dsimp only at h
    have hx : Go O (d + 1) MX6_spells 98 [none, none, none, none, none, none, none] [] K P := by
      refine g_iconst (v := (nI 0)) dX6_spells_98 (by decide) ?_
      exact g_ireturn dX6_spells_99 rfl (by first | rfl | decide) (hret _ _ (Option.some.inj h))
    refine Go_le ?_ (e_X6_spells_l3 (fun q e => by cases e; exact hx) (fun r K' e => by cases e) FU (nI 0) er13)
    exact And.intro rfl (And.intro rfl (And.intro rfl (And.intro rfl (And.intro rfl (trivial)))))
  · dsimp only at h
    refine Go_le ?_ (e_X6_spells_l3 (fun q e => by cases e) (fun r K' e => by cases e; exact hret _ _ (Option.some.inj h)) FU (nI 0) er13)
    exact And.intro rfl (And.intro rfl (And.intro rfl (And.intro rfl (And.intro rfl (trivial)))))
noncomputable def F_X6_take_j58 (O : mO) (d : Nat) (v0 : Nat) (w0 : Int32) (w1 : Nat) (K : mH) : Option (mH) :=
  (ptI K w1 6 4 w0).bind fun K8 =>
  (gtA K8 v0 6 2).bind fun x9 =>
  (gtI K8 v0 6 4).bind fun x10 =>
  (rdI O K8 x9 x10).bind fun x11 =>
  (ptI K8 v0 6 5 x11).bind fun K12 =>
  some K12
theorem e_X6_take_j58 {O : mO} {d : Nat} {v0 : Nat} {w0 : Int32} {w1 : Nat} {K : mH} {P : Option Value → mH → Prop} {x : mH} (hret : ∀ K' : mH, K' = x → P none K') (h : F_X6_take_j58 O d v0 w0 w1 K = some x) : Go O (d + 1) MX6_take 58 [some (.ref v0), none] [.int w0, .ref w1] K P := by
  unfold F_X6_take_j58 at h
  obtain ⟨K8, eK8, h⟩ := bs h
  refine q_put (c := (RX6, TX6, 10)) dX6_take_58 fX6_31 rfl rfl rfl (fun h => absurd h (by decide)) eK8 ?_
  refine g_aload_n dX6_take_61 rfl ?_
  refine g_aload_n dX6_take_62 rfl ?_
  obtain ⟨x9, ex9, h⟩ := bs h
  refine q_getA dX6_take_63 fX6_24 ex9 ?_
  refine g_aload_n dX6_take_66 rfl ?_
  obtain ⟨x10, ex10, h⟩ := bs h
  refine q_getI dX6_take_67 fX6_31 ex10 ?_
  obtain ⟨x11, ex11, h⟩ := bs h
  refine q_iald dX6_take_70 ex11 ?_
  obtain ⟨K12, eK12, h⟩ := bs h
  refine q_put (c := (RX6, TX6, 10)) dX6_take_71 fX6_34 rfl rfl rfl (fun h => absurd h (by decide)) eK12 ?_
  exact g_return dX6_take_74 rfl (hret _ (Option.some.inj h))
noncomputable def F_X6_take_j29 (O : mO) (d : Nat) (v0 : Nat) (K : mH) : Option (mH) :=
  (gtI K v0 6 6).bind fun x4 =>
  if x4 = (-1) then
    (gtI K v0 6 4).bind fun x13 =>
    (gtI K v0 6 3).bind fun x14 =>
    F_X6_take_j58 O d v0 (if x14 < (x13 + (nI 1)) then x14 else (x13 + (nI 1))) v0 K
  else
    (gtI K v0 6 3).bind fun x7 =>
    F_X6_take_j58 O d v0 x7 v0 K
theorem e_X6_take_j29 {O : mO} {d : Nat} {v0 : Nat} {K : mH} {P : Option Value → mH → Prop} {x : mH} (hret : ∀ K' : mH, K' = x → P none K') (h : F_X6_take_j29 O d v0 K = some x) : Go O (d + 1) MX6_take 29 [some (.ref v0), none] [] K P := by
  unfold F_X6_take_j29 at h
  refine g_aload_n dX6_take_29 rfl ?_
  refine g_aload_n dX6_take_30 rfl ?_
  obtain ⟨x4, ex4, h⟩ := bs h
  refine q_getI dX6_take_31 fX6_37 ex4 ?_
  refine g_iconst (v := (-1)) dX6_take_34 (by decide) ?_
  refine g_ic_ne (t := 54) dX6_take_35 (by decide) (fun c6 => ?_) (fun c6 => ?_)
  · rw [if_neg c6] at h
    refine g_aload_n dX6_take_54 rfl ?_
    obtain ⟨x7, ex7, h⟩ := bs h
    refine q_getI dX6_take_55 fX6_27 ex7 ?_
    refine Go_le ?_ (e_X6_take_j58 hret h)
    exact And.intro rfl (trivial)
  · rw [if_pos c6] at h
    refine g_aload_n dX6_take_38 rfl ?_
    obtain ⟨x13, ex13, h⟩ := bs h
    refine q_getI dX6_take_39 fX6_31 ex13 ?_
    refine g_iconst (v := (nI 1)) dX6_take_42 (by decide) ?_
    refine g_iadd dX6_take_43 ?_
    refine g_aload_n dX6_take_44 rfl ?_
    obtain ⟨x14, ex14, h⟩ := bs h
    refine q_getI dX6_take_45 fX6_27 ex14 ?_
    refine g_min dX6_take_48 mX6_50 (Nat.le_of_ble_eq_true rfl) (mNo2_h3 rfl) ?_
    refine g_goto (t := 58) dX6_take_51 (by decide) ?_
    refine Go_le ?_ (e_X6_take_j58 hret h)
    exact And.intro rfl (trivial)
noncomputable def F_X6_take (O : mO) (d : Nat) (a0 : Nat) (a1 : Int32) (K : mH) : Option (mH) :=
  (gtI K a0 6 5).bind fun x1 =>
  if x1 = a1 then
    F_X6_take_j29 O d a0 K
  else
    (gtI K a0 6 6).bind fun x15 =>
    if x15 = (-1) then
      (gtA K a0 6 1).bind fun x18 =>
      (gtI K a0 6 4).bind fun x19 =>
      (rdI O K x18 x19).bind fun x20 =>
      (ptI K a0 6 6 x20).bind fun K21 =>
      F_X6_take_j29 O d a0 K21
    else
      F_X6_take_j29 O d a0 K
theorem e_X6_take {O : mO} {d : Nat} {a0 : Nat} {a1 : Int32} {K : mH} {x : mH} (h : F_X6_take O d a0 a1 K = some x) : ev O (d + 1) MX6_take [.ref a0, .int a1] K = some (none, x) := by
  refine Rn_evx ?_
  show Go O (d + 1) MX6_take 0 [some (.ref a0), some (.int a1)] [] K _
  generalize hP : (fun (r : Option Value) (K' : mH) => (r, K') = (none, x)) = P
  have hret : ∀ K' : mH, K' = x → P none K' := by
    intro K' e
    subst hP e
    rfl
  clear hP
  unfold F_X6_take at h
  refine g_aload_n dX6_take_0 rfl ?_
  obtain ⟨x1, ex1, h⟩ := bs h
  refine q_getI dX6_take_1 fX6_34 ex1 ?_
  refine g_iload_n dX6_take_4 rfl ?_
  refine g_ic_eq (t := 29) dX6_take_5 (by decide) (fun c3 => ?_) (fun c3 => ?_)
  · rw [if_pos c3] at h
    refine Go_le ?_ (e_X6_take_j29 hret h)
    exact And.intro rfl (trivial)
  · rw [if_neg c3] at h
    refine g_aload_n dX6_take_8 rfl ?_
    obtain ⟨x15, ex15, h⟩ := bs h
    refine q_getI dX6_take_9 fX6_37 ex15 ?_
    refine g_iconst (v := (-1)) dX6_take_12 (by decide) ?_
    refine g_ic_ne (t := 29) dX6_take_13 (by decide) (fun c17 => ?_) (fun c17 => ?_)
    · rw [if_neg c17] at h
      refine Go_le ?_ (e_X6_take_j29 hret h)
      exact And.intro rfl (trivial)
    · rw [if_pos c17] at h
      refine g_aload_n dX6_take_16 rfl ?_
      refine g_aload_n dX6_take_17 rfl ?_
      obtain ⟨x18, ex18, h⟩ := bs h
      refine q_getA dX6_take_18 fX6_20 ex18 ?_
      refine g_aload_n dX6_take_21 rfl ?_
      obtain ⟨x19, ex19, h⟩ := bs h
      refine q_getI dX6_take_22 fX6_31 ex19 ?_
      obtain ⟨x20, ex20, h⟩ := bs h
      refine q_iald dX6_take_25 ex20 ?_
      obtain ⟨K21, eK21, h⟩ := bs h
      refine q_put (c := (RX6, TX6, 10)) dX6_take_26 fX6_37 rfl rfl rfl (fun h => absurd h (by decide)) eK21 ?_
      refine Go_le ?_ (e_X6_take_j29 hret h)
      exact And.intro rfl (trivial)
noncomputable def F_X6_clause_j31 (O : mO) (d : Nat) (v0 : Nat) (K : mH) : Option (mH) :=
  (toV (vc O d 6 MX6_take v0 [.int (-1)] K)).bind fun K5 =>
  some K5
theorem e_X6_clause_j31 {O : mO} {d : Nat} {v0 : Nat} {K : mH} {P : Option Value → mH → Prop} {x : mH} (hret : ∀ K' : mH, K' = x → P none K') (h : F_X6_clause_j31 O d v0 K = some x) : Go O (d + 1) MX6_clause 31 [some (.ref v0), none] [] K P := by
  unfold F_X6_clause_j31 at h
  refine g_aload_n dX6_clause_31 rfl ?_
  refine g_iconst (v := (-1)) dX6_clause_32 (by decide) ?_
  obtain ⟨K5, eK5, h⟩ := bs h
  refine q_virt (Z := MX6_take) (c := (RX6, TX6, 10)) (toV_s eK5) dX6_clause_33 mX6_69.1 mX6_69.2 (Nat.le_of_ble_eq_true rfl) rfl rfl (Nat.le_of_ble_eq_true rfl) (Nat.le_of_ble_eq_true rfl) rfl rfl ?_
  show Go O (d + 1) MX6_clause 36 [some (.ref v0), none] [] K5 P
  exact g_return dX6_clause_36 rfl (hret _ (Option.some.inj h))
noncomputable def F_X6_clause_j215 (O : mO) (d : Nat) (v0 : Nat) (K : mH) : Option (mH) :=
  (gtA K v0 6 0).bind fun x33 =>
  (gtA K v0 6 0).bind fun x34 =>
  (gtI K x34 5 2).bind fun x35 =>
  (toV (vc O d 5 MX5_set x33 [.int (nI 5), .int x35] K)).bind fun K36 =>
  some K36
theorem e_X6_clause_j215 {O : mO} {d : Nat} {v0 : Nat} {K : mH} {P : Option Value → mH → Prop} {x : mH} (hret : ∀ K' : mH, K' = x → P none K') (h : F_X6_clause_j215 O d v0 K = some x) : Go O (d + 1) MX6_clause 215 [some (.ref v0), none] [] K P := by
  unfold F_X6_clause_j215 at h
  refine g_aload_n dX6_clause_215 rfl ?_
  obtain ⟨x33, ex33, h⟩ := bs h
  refine q_getA dX6_clause_216 fX6_16 ex33 ?_
  refine g_iconst (v := (nI 5)) dX6_clause_219 (by decide) ?_
  refine g_aload_n dX6_clause_220 rfl ?_
  obtain ⟨x34, ex34, h⟩ := bs h
  refine q_getA dX6_clause_221 fX6_16 ex34 ?_
  obtain ⟨x35, ex35, h⟩ := bs h
  refine q_getI dX6_clause_224 fX6_99 ex35 ?_
  obtain ⟨K36, eK36, h⟩ := bs h
  refine q_virt (Z := MX5_set) (c := (RX5, TX5, 4)) (toV_s eK36) dX6_clause_227 mX6_102.1 mX6_102.2 (Nat.le_of_ble_eq_true rfl) rfl rfl (Nat.le_of_ble_eq_true rfl) (Nat.le_of_ble_eq_true rfl) rfl rfl ?_
  show Go O (d + 1) MX6_clause 230 [some (.ref v0), none] [] K36 P
  exact g_return dX6_clause_230 rfl (hret _ (Option.some.inj h))
noncomputable def F_X6_clause_j193 (O : mO) (d : Nat) (v0 : Nat) (K : mH) : Option (mH) :=
  (gtI K v0 6 5).bind fun x30 =>
  if x30 = (nI 2008) then
    (toV (vc O d 6 MX6_take v0 [.int (nI 2008)] K)).bind fun K37 =>
    (toV (vc O d 6 MX6_test v0 [.int (nI 0)] K37)).bind fun K38 =>
    F_X6_clause_j215 O d v0 K38
  else
    F_X6_clause_j215 O d v0 K
theorem e_X6_clause_j193 {O : mO} {d : Nat} {v0 : Nat} {K : mH} {P : Option Value → mH → Prop} {x : mH} (hret : ∀ K' : mH, K' = x → P none K') (h : F_X6_clause_j193 O d v0 K = some x) : Go O (d + 1) MX6_clause 193 [some (.ref v0), none] [] K P := by
  unfold F_X6_clause_j193 at h
  refine g_aload_n dX6_clause_193 rfl ?_
  obtain ⟨x30, ex30, h⟩ := bs h
  refine q_getI dX6_clause_194 fX6_34 ex30 ?_
  refine g_sipush (v := (nI 2008)) dX6_clause_197 (by decide) ?_
  refine g_ic_ne (t := 215) dX6_clause_200 (by decide) (fun c32 => ?_) (fun c32 => ?_)
  · rw [if_neg c32] at h
    refine Go_le ?_ (e_X6_clause_j215 hret h)
    exact And.intro rfl (trivial)
  · rw [if_pos c32] at h
    refine g_aload_n dX6_clause_203 rfl ?_
    refine g_sipush (v := (nI 2008)) dX6_clause_204 (by decide) ?_
    obtain ⟨K37, eK37, h⟩ := bs h
    refine q_virt (Z := MX6_take) (c := (RX6, TX6, 10)) (toV_s eK37) dX6_clause_207 mX6_69.1 mX6_69.2 (Nat.le_of_ble_eq_true rfl) rfl rfl (Nat.le_of_ble_eq_true rfl) (Nat.le_of_ble_eq_true rfl) rfl rfl ?_
    show Go O (d + 1) MX6_clause 210 [some (.ref v0), none] [] K37 P
    refine g_aload_n dX6_clause_210 rfl ?_
    refine g_iconst (v := (nI 0)) dX6_clause_211 (by decide) ?_
    obtain ⟨K38, eK38, h⟩ := bs h
    refine q_virt (Z := MX6_test) (c := (RX6, TX6, 10)) (toV_s eK38) dX6_clause_212 mX6_105.1 mX6_105.2 (Nat.le_of_ble_eq_true rfl) rfl rfl (Nat.le_of_ble_eq_true rfl) (Nat.le_of_ble_eq_true rfl) rfl rfl ?_
    show Go O (d + 1) MX6_clause 215 [some (.ref v0), none] [] K38 P
    refine Go_le ?_ (e_X6_clause_j215 hret h)
    exact And.intro rfl (trivial)
noncomputable def F_X6_clause_j190 (O : mO) (d : Nat) (v0 : Nat) (w0 : Int32) (w1 : Nat) (K : mH) : Option (mH) :=
  (toV (vc O d 6 MX6_take w1 [.int w0] K)).bind fun K49 =>
  F_X6_clause_j193 O d v0 K49
theorem e_X6_clause_j190 {O : mO} {d : Nat} {v0 : Nat} {w0 : Int32} {w1 : Nat} {K : mH} {P : Option Value → mH → Prop} {x : mH} (hret : ∀ K' : mH, K' = x → P none K') (h : F_X6_clause_j190 O d v0 w0 w1 K = some x) : Go O (d + 1) MX6_clause 190 [some (.ref v0), none] [.int w0, .ref w1] K P := by
  unfold F_X6_clause_j190 at h
  obtain ⟨K49, eK49, h⟩ := bs h
  refine q_virt (Z := MX6_take) (c := (RX6, TX6, 10)) (toV_s eK49) dX6_clause_190 mX6_69.1 mX6_69.2 (Nat.le_of_ble_eq_true rfl) rfl rfl (Nat.le_of_ble_eq_true rfl) (Nat.le_of_ble_eq_true rfl) rfl rfl ?_
  show Go O (d + 1) MX6_clause 193 [some (.ref v0), none] [] K49 P
  refine Go_le ?_ (e_X6_clause_j193 hret h)
  exact And.intro rfl (trivial)
noncomputable def F_X6_clause_j189 (O : mO) (d : Nat) (v0 : Nat) (w0 : Nat) (K : mH) : Option (mH) :=
  F_X6_clause_j190 O d v0 (-1) w0 K
theorem e_X6_clause_j189 {O : mO} {d : Nat} {v0 : Nat} {w0 : Nat} {K : mH} {P : Option Value → mH → Prop} {x : mH} (hret : ∀ K' : mH, K' = x → P none K') (h : F_X6_clause_j189 O d v0 w0 K = some x) : Go O (d + 1) MX6_clause 189 [some (.ref v0), none] [.ref w0] K P := by
  unfold F_X6_clause_j189 at h
  refine g_iconst (v := (-1)) dX6_clause_189 (by decide) ?_
  refine Go_le ?_ (e_X6_clause_j190 hret h)
  exact And.intro rfl (trivial)
noncomputable def F_X6_clause_j113 (O : mO) (d : Nat) (v0 : Nat) (K : mH) : Option (mH) :=
  (gtA K v0 6 0).bind fun x23 =>
  (gtA K v0 6 0).bind fun x24 =>
  (gtI K x24 5 2).bind fun x25 =>
  (toV (vc O d 5 MX5_set x23 [.int (nI 4), .int x25] K)).bind fun K26 =>
  (gtI K26 v0 6 9).bind fun x27 =>
  if x27 = 0 then
    F_X6_clause_j193 O d v0 K26
  else
    (gtI K26 v0 6 5).bind fun x39 =>
    if x39 = (nI 2013) then
      (toV (vc O d 6 MX6_take v0 [.int (nI 2013)] K26)).bind fun K42 =>
      (gtA K42 v0 6 0).bind fun x43 =>
      (gtI K42 v0 6 5).bind fun x44 =>
      (toV (vc O d 5 MX5_set x43 [.int (nI 1), .int x44] K42)).bind fun K45 =>
      (gtI K45 v0 6 5).bind fun x46 =>
      if x46 < (nI 1) then
        F_X6_clause_j189 O d v0 v0 K45
      else
        (gtI K45 v0 6 5).bind fun x50 =>
        if (nI 20) < x50 then
          F_X6_clause_j189 O d v0 v0 K45
        else
          (gtI K45 v0 6 5).bind fun x53 =>
          F_X6_clause_j190 O d v0 x53 v0 K45
    else
      F_X6_clause_j193 O d v0 K26
theorem e_X6_clause_j113 {O : mO} {d : Nat} {v0 : Nat} {K : mH} {P : Option Value → mH → Prop} {x : mH} (hret : ∀ K' : mH, K' = x → P none K') (h : F_X6_clause_j113 O d v0 K = some x) : Go O (d + 1) MX6_clause 113 [some (.ref v0), none] [] K P := by
  unfold F_X6_clause_j113 at h
  refine g_aload_n dX6_clause_113 rfl ?_
  obtain ⟨x23, ex23, h⟩ := bs h
  refine q_getA dX6_clause_114 fX6_16 ex23 ?_
  refine g_iconst (v := (nI 4)) dX6_clause_117 (by decide) ?_
  refine g_aload_n dX6_clause_118 rfl ?_
  obtain ⟨x24, ex24, h⟩ := bs h
  refine q_getA dX6_clause_119 fX6_16 ex24 ?_
  obtain ⟨x25, ex25, h⟩ := bs h
  refine q_getI dX6_clause_122 fX6_99 ex25 ?_
  obtain ⟨K26, eK26, h⟩ := bs h
  refine q_virt (Z := MX5_set) (c := (RX5, TX5, 4)) (toV_s eK26) dX6_clause_125 mX6_102.1 mX6_102.2 (Nat.le_of_ble_eq_true rfl) rfl rfl (Nat.le_of_ble_eq_true rfl) (Nat.le_of_ble_eq_true rfl) rfl rfl ?_
  show Go O (d + 1) MX6_clause 128 [some (.ref v0), none] [] K26 P
  refine g_aload_n dX6_clause_128 rfl ?_
  obtain ⟨x27, ex27, h⟩ := bs h
  refine q_getI dX6_clause_129 fX6_46 ex27 ?_
  refine g_if_eq (t := 193) dX6_clause_132 (by decide) (fun c29 => ?_) (fun c29 => ?_)
  · rw [if_pos c29] at h
    refine Go_le ?_ (e_X6_clause_j193 hret h)
    exact And.intro rfl (trivial)
  · rw [if_neg c29] at h
    refine g_aload_n dX6_clause_135 rfl ?_
    obtain ⟨x39, ex39, h⟩ := bs h
    refine q_getI dX6_clause_136 fX6_34 ex39 ?_
    refine g_sipush (v := (nI 2013)) dX6_clause_139 (by decide) ?_
    refine g_ic_ne (t := 193) dX6_clause_142 (by decide) (fun c41 => ?_) (fun c41 => ?_)
    · rw [if_neg c41] at h
      refine Go_le ?_ (e_X6_clause_j193 hret h)
      exact And.intro rfl (trivial)
    · rw [if_pos c41] at h
      refine g_aload_n dX6_clause_145 rfl ?_
      refine g_sipush (v := (nI 2013)) dX6_clause_146 (by decide) ?_
      obtain ⟨K42, eK42, h⟩ := bs h
      refine q_virt (Z := MX6_take) (c := (RX6, TX6, 10)) (toV_s eK42) dX6_clause_149 mX6_69.1 mX6_69.2 (Nat.le_of_ble_eq_true rfl) rfl rfl (Nat.le_of_ble_eq_true rfl) (Nat.le_of_ble_eq_true rfl) rfl rfl ?_
      show Go O (d + 1) MX6_clause 152 [some (.ref v0), none] [] K42 P
      refine g_aload_n dX6_clause_152 rfl ?_
      obtain ⟨x43, ex43, h⟩ := bs h
      refine q_getA dX6_clause_153 fX6_16 ex43 ?_
      refine g_iconst (v := (nI 1)) dX6_clause_156 (by decide) ?_
      refine g_aload_n dX6_clause_157 rfl ?_
      obtain ⟨x44, ex44, h⟩ := bs h
      refine q_getI dX6_clause_158 fX6_34 ex44 ?_
      obtain ⟨K45, eK45, h⟩ := bs h
      refine q_virt (Z := MX5_set) (c := (RX5, TX5, 4)) (toV_s eK45) dX6_clause_161 mX6_102.1 mX6_102.2 (Nat.le_of_ble_eq_true rfl) rfl rfl (Nat.le_of_ble_eq_true rfl) (Nat.le_of_ble_eq_true rfl) rfl rfl ?_
      show Go O (d + 1) MX6_clause 164 [some (.ref v0), none] [] K45 P
      refine g_aload_n dX6_clause_164 rfl ?_
      refine g_aload_n dX6_clause_165 rfl ?_
      obtain ⟨x46, ex46, h⟩ := bs h
      refine q_getI dX6_clause_166 fX6_34 ex46 ?_
      refine g_iconst (v := (nI 1)) dX6_clause_169 (by decide) ?_
      refine g_ic_lt (t := 189) dX6_clause_170 (by decide) (fun c48 => ?_) (fun c48 => ?_)
      · rw [if_pos c48] at h
        refine Go_le ?_ (e_X6_clause_j189 hret h)
        exact And.intro rfl (trivial)
      · rw [if_neg c48] at h
        refine g_aload_n dX6_clause_173 rfl ?_
        obtain ⟨x50, ex50, h⟩ := bs h
        refine q_getI dX6_clause_174 fX6_34 ex50 ?_
        refine g_bipush (v := (nI 20)) dX6_clause_177 (by decide) ?_
        refine g_ic_gt (t := 189) dX6_clause_179 (by decide) (fun c52 => ?_) (fun c52 => ?_)
        · rw [if_pos c52] at h
          refine Go_le ?_ (e_X6_clause_j189 hret h)
          exact And.intro rfl (trivial)
        · rw [if_neg c52] at h
          refine g_aload_n dX6_clause_182 rfl ?_
          obtain ⟨x53, ex53, h⟩ := bs h
          refine q_getI dX6_clause_183 fX6_34 ex53 ?_
          refine g_goto (t := 190) dX6_clause_186 (by decide) ?_
          refine Go_le ?_ (e_X6_clause_j190 hret h)
          exact And.intro rfl (trivial)
noncomputable def F_X6_clause_j74 (O : mO) (d : Nat) (v0 : Nat) (v1 : Int32) (K : mH) : Option (mH) :=
  (gtA K v0 6 0).bind fun x15 =>
  (gtA K v0 6 0).bind fun x16 =>
  (gtI K x16 5 2).bind fun x17 =>
  (toV (vc O d 5 MX5_set x15 [.int (nI 3), .int x17] K)).bind fun K18 =>
  (gtI K18 v0 6 9).bind fun x19 =>
  if x19 = 0 then
    F_X6_clause_j113 O d v0 K18
  else
    if v1 = (nI 1) then
      (toV (vc O d 6 MX6_take v0 [.int (nI 2012)] K18)).bind fun K56 =>
      (toV (vc O d 6 MX6_sum v0 [.int (nI 0)] K56)).bind fun K57 =>
      F_X6_clause_j113 O d v0 K57
    else
      F_X6_clause_j113 O d v0 K18
theorem e_X6_clause_j74 {O : mO} {d : Nat} {v0 : Nat} {v1 : Int32} {K : mH} {P : Option Value → mH → Prop} {x : mH} (hret : ∀ K' : mH, K' = x → P none K') (h : F_X6_clause_j74 O d v0 v1 K = some x) : Go O (d + 1) MX6_clause 74 [some (.ref v0), some (.int v1)] [] K P := by
  unfold F_X6_clause_j74 at h
  refine g_aload_n dX6_clause_74 rfl ?_
  obtain ⟨x15, ex15, h⟩ := bs h
  refine q_getA dX6_clause_75 fX6_16 ex15 ?_
  refine g_iconst (v := (nI 3)) dX6_clause_78 (by decide) ?_
  refine g_aload_n dX6_clause_79 rfl ?_
  obtain ⟨x16, ex16, h⟩ := bs h
  refine q_getA dX6_clause_80 fX6_16 ex16 ?_
  obtain ⟨x17, ex17, h⟩ := bs h
  refine q_getI dX6_clause_83 fX6_99 ex17 ?_
  obtain ⟨K18, eK18, h⟩ := bs h
  refine q_virt (Z := MX5_set) (c := (RX5, TX5, 4)) (toV_s eK18) dX6_clause_86 mX6_102.1 mX6_102.2 (Nat.le_of_ble_eq_true rfl) rfl rfl (Nat.le_of_ble_eq_true rfl) (Nat.le_of_ble_eq_true rfl) rfl rfl ?_
  show Go O (d + 1) MX6_clause 89 [some (.ref v0), some (.int v1)] [] K18 P
  refine g_aload_n dX6_clause_89 rfl ?_
  obtain ⟨x19, ex19, h⟩ := bs h
  refine q_getI dX6_clause_90 fX6_46 ex19 ?_
  refine g_if_eq (t := 113) dX6_clause_93 (by decide) (fun c22 => ?_) (fun c22 => ?_)
  · rw [if_pos c22] at h
    refine Go_le ?_ (e_X6_clause_j113 hret h)
    exact And.intro rfl (trivial)
  · rw [if_neg c22] at h
    refine g_iload_n dX6_clause_96 rfl ?_
    refine g_iconst (v := (nI 1)) dX6_clause_97 (by decide) ?_
    refine g_ic_ne (t := 113) dX6_clause_98 (by decide) (fun c55 => ?_) (fun c55 => ?_)
    · rw [if_neg c55] at h
      refine Go_le ?_ (e_X6_clause_j113 hret h)
      exact And.intro rfl (trivial)
    · rw [if_pos c55] at h
      refine g_aload_n dX6_clause_101 rfl ?_
      refine g_sipush (v := (nI 2012)) dX6_clause_102 (by decide) ?_
      obtain ⟨K56, eK56, h⟩ := bs h
      refine q_virt (Z := MX6_take) (c := (RX6, TX6, 10)) (toV_s eK56) dX6_clause_105 mX6_69.1 mX6_69.2 (Nat.le_of_ble_eq_true rfl) rfl rfl (Nat.le_of_ble_eq_true rfl) (Nat.le_of_ble_eq_true rfl) rfl rfl ?_
      show Go O (d + 1) MX6_clause 108 [some (.ref v0), some (.int v1)] [] K56 P
      refine g_aload_n dX6_clause_108 rfl ?_
      refine g_iconst (v := (nI 0)) dX6_clause_109 (by decide) ?_
      obtain ⟨K57, eK57, h⟩ := bs h
      refine q_virt (Z := MX6_sum) (c := (RX6, TX6, 10)) (toV_s eK57) dX6_clause_110 mX6_96.1 mX6_96.2 (Nat.le_of_ble_eq_true rfl) rfl rfl (Nat.le_of_ble_eq_true rfl) (Nat.le_of_ble_eq_true rfl) rfl rfl ?_
      show Go O (d + 1) MX6_clause 113 [some (.ref v0), some (.int v1)] [] K57 P
      refine Go_le ?_ (e_X6_clause_j113 hret h)
      exact And.intro rfl (trivial)
noncomputable def F_X6_clause (O : mO) (d : Nat) (a0 : Nat) (K : mH) : Option (mH) :=
  (gtI K a0 6 5).bind fun x1 =>
  (gtI K a0 6 9).bind fun x2 =>
  if ((x1 - (nI 2000)) - (if x2 = 0 then (nI 0) else (nI 4))) < 0 then
    F_X6_clause_j31 O d a0 K
  else
    if ((x1 - (nI 2000)) - (if x2 = 0 then (nI 0) else (nI 4))) ≤ (nI 3) then
      (gtI K a0 6 5).bind fun x7 =>
      (toV (vc O d 6 MX6_take a0 [.int x7] K)).bind fun K8 =>
      (gtA K8 a0 6 0).bind fun x9 =>
      (toV (vc O d 5 MX5_openClause x9 [.int ((x1 - (nI 2000)) - (if x2 = 0 then (nI 0) else (nI 4)))] K8)).bind fun K10 =>
      (gtI K10 a0 6 9).bind fun x11 =>
      if ((x1 - (nI 2000)) - (if x2 = 0 then (nI 0) else (nI 4))) = (nI 3) then
        F_X6_clause_j74 O d a0 ((x1 - (nI 2000)) - (if x2 = 0 then (nI 0) else (nI 4))) K10
      else
        (toV (vc O d 6 MX6_sum a0 [.int (nI 0)] K10)).bind fun K58 =>
        F_X6_clause_j74 O d a0 ((x1 - (nI 2000)) - (if x2 = 0 then (nI 0) else (nI 4))) K58
    else
      F_X6_clause_j31 O d a0 K
theorem e_X6_clause {O : mO} {d : Nat} {a0 : Nat} {K : mH} {x : mH} (h : F_X6_clause O d a0 K = some x) : ev O (d + 1) MX6_clause [.ref a0] K = some (none, x) := by
  refine Rn_evx ?_
  show Go O (d + 1) MX6_clause 0 [some (.ref a0), none] [] K _
  generalize hP : (fun (r : Option Value) (K' : mH) => (r, K') = (none, x)) = P
  have hret : ∀ K' : mH, K' = x → P none K' := by
    intro K' e
    subst hP e
    rfl
  clear hP
  unfold F_X6_clause at h
  refine g_aload_n dX6_clause_0 rfl ?_
  obtain ⟨x1, ex1, h⟩ := bs h
  refine q_getI dX6_clause_1 fX6_34 ex1 ?_
  refine g_sipush (v := (nI 2000)) dX6_clause_4 (by decide) ?_
  refine g_isub dX6_clause_7 ?_
  refine g_aload_n dX6_clause_8 rfl ?_
  obtain ⟨x2, ex2, h⟩ := bs h
  refine q_getI dX6_clause_9 fX6_46 ex2 ?_
  have hj : Go O (d + 1) MX6_clause 20 [some (.ref a0), none] [.int (if x2 = 0 then (nI 0) else (nI 4)), .int (x1 - (nI 2000))] K P := by
    refine g_isub dX6_clause_20 ?_
    refine g_istore_n (ls' := [some (.ref a0), some (.int ((x1 - (nI 2000)) - (if x2 = 0 then (nI 0) else (nI 4))))]) dX6_clause_21 (by decide) rfl ?_
    refine g_iload_n dX6_clause_22 rfl ?_
    refine g_if_lt (t := 31) dX6_clause_23 (by decide) (fun c4 => ?_) (fun c4 => ?_)
    · rw [if_pos c4] at h
      refine Go_le ?_ (e_X6_clause_j31 hret h)
      exact And.intro rfl (trivial)
    · rw [if_neg c4] at h
      refine g_iload_n dX6_clause_26 rfl ?_
      refine g_iconst (v := (nI 3)) dX6_clause_27 (by decide) ?_
      refine g_ic_le (t := 37) dX6_clause_28 (by decide) (fun c6 => ?_) (fun c6 => ?_)
      · rw [if_pos c6] at h
        refine g_aload_n dX6_clause_37 rfl ?_
        refine g_aload_n dX6_clause_38 rfl ?_
        obtain ⟨x7, ex7, h⟩ := bs h
        refine q_getI dX6_clause_39 fX6_34 ex7 ?_
        obtain ⟨K8, eK8, h⟩ := bs h
        refine q_virt (Z := MX6_take) (c := (RX6, TX6, 10)) (toV_s eK8) dX6_clause_42 mX6_69.1 mX6_69.2 (Nat.le_of_ble_eq_true rfl) rfl rfl (Nat.le_of_ble_eq_true rfl) (Nat.le_of_ble_eq_true rfl) rfl rfl ?_
        show Go O (d + 1) MX6_clause 45 [some (.ref a0), some (.int ((x1 - (nI 2000)) - (if x2 = 0 then (nI 0) else (nI 4))))] [] K8 P
        refine g_aload_n dX6_clause_45 rfl ?_
        obtain ⟨x9, ex9, h⟩ := bs h
        refine q_getA dX6_clause_46 fX6_16 ex9 ?_
        refine g_iload_n dX6_clause_49 rfl ?_
        obtain ⟨K10, eK10, h⟩ := bs h
        refine q_virt (Z := MX5_openClause) (c := (RX5, TX5, 4)) (toV_s eK10) dX6_clause_50 mX6_93.1 mX6_93.2 (Nat.le_of_ble_eq_true rfl) rfl rfl (Nat.le_of_ble_eq_true rfl) (Nat.le_of_ble_eq_true rfl) rfl rfl ?_
        show Go O (d + 1) MX6_clause 53 [some (.ref a0), some (.int ((x1 - (nI 2000)) - (if x2 = 0 then (nI 0) else (nI 4))))] [] K10 P
        refine g_iload_n dX6_clause_53 rfl ?_
        refine g_aload_n dX6_clause_54 rfl ?_
        obtain ⟨x11, ex11, h⟩ := bs h
        refine q_getI dX6_clause_55 fX6_46 ex11 ?_
        have hj : Go O (d + 1) MX6_clause 66 [some (.ref a0), some (.int ((x1 - (nI 2000)) - (if x2 = 0 then (nI 0) else (nI 4))))] [.int (nI 3), .int ((x1 - (nI 2000)) - (if x2 = 0 then (nI 0) else (nI 4)))] K10 P := by
          refine g_ic_eq (t := 74) dX6_clause_66 (by decide) (fun c14 => ?_) (fun c14 => ?_)
          · rw [if_pos c14] at h
            refine Go_le ?_ (e_X6_clause_j74 hret h)
            exact And.intro rfl (And.intro rfl (trivial))
          · rw [if_neg c14] at h
            refine g_aload_n dX6_clause_69 rfl ?_
            refine g_iconst (v := (nI 0)) dX6_clause_70 (by decide) ?_
            obtain ⟨K58, eK58, h⟩ := bs h
            refine q_virt (Z := MX6_sum) (c := (RX6, TX6, 10)) (toV_s eK58) dX6_clause_71 mX6_96.1 mX6_96.2 (Nat.le_of_ble_eq_true rfl) rfl rfl (Nat.le_of_ble_eq_true rfl) (Nat.le_of_ble_eq_true rfl) rfl rfl ?_
            show Go O (d + 1) MX6_clause 74 [some (.ref a0), some (.int ((x1 - (nI 2000)) - (if x2 = 0 then (nI 0) else (nI 4))))] [] K58 P
            refine Go_le ?_ (e_X6_clause_j74 hret h)
            exact And.intro rfl (And.intro rfl (trivial))
        refine g_if_eq (t := 65) dX6_clause_58 (by decide) (fun c12 => ?_) (fun c12 => ?_)
        · skip
          refine g_iconst (v := (nI 3)) dX6_clause_65 (by decide) ?_
          have hk : Go O (d + 1) MX6_clause 66 [some (.ref a0), some (.int ((x1 - (nI 2000)) - (if x2 = 0 then (nI 0) else (nI 4))))] [.int (nI 3), .int ((x1 - (nI 2000)) - (if x2 = 0 then (nI 0) else (nI 4)))] K10 P := by simpa only [if_pos c12] using hj
          refine Go_le ?_ hk
          exact And.intro rfl (And.intro rfl (trivial))
        · skip
          refine g_iconst (v := (nI 3)) dX6_clause_61 (by decide) ?_
          refine g_goto (t := 66) dX6_clause_62 (by decide) ?_
          have hk : Go O (d + 1) MX6_clause 66 [some (.ref a0), some (.int ((x1 - (nI 2000)) - (if x2 = 0 then (nI 0) else (nI 4))))] [.int (nI 3), .int ((x1 - (nI 2000)) - (if x2 = 0 then (nI 0) else (nI 4)))] K10 P := by simpa only [if_neg c12] using hj
          refine Go_le ?_ hk
          exact And.intro rfl (And.intro rfl (trivial))
      · rw [if_neg c6] at h
        refine Go_le ?_ (e_X6_clause_j31 hret h)
        exact And.intro rfl (trivial)
  refine g_if_eq (t := 19) dX6_clause_12 (by decide) (fun c3 => ?_) (fun c3 => ?_)
  · skip
    refine g_iconst (v := (nI 0)) dX6_clause_19 (by decide) ?_
    have hk : Go O (d + 1) MX6_clause 20 [some (.ref a0), none] [.int (nI 0), .int (x1 - (nI 2000))] K P := by simpa only [if_pos c3] using hj
    refine Go_le ?_ hk
    exact And.intro rfl (trivial)
  · skip
    refine g_iconst (v := (nI 4)) dX6_clause_15 (by decide) ?_
    refine g_goto (t := 20) dX6_clause_16 (by decide) ?_
    have hk : Go O (d + 1) MX6_clause 20 [some (.ref a0), none] [.int (nI 4), .int (x1 - (nI 2000))] K P := by simpa only [if_neg c3] using hj
    refine Go_le ?_ hk
    exact And.intro rfl (trivial)
noncomputable def F_X6_test_l33 (O : mO) (d : Nat) (v0 : Nat) (v1 : Int32) (v2 : Int32) (s3 : Int32) (K : mH) : Option ((Int32 × mH) ⊕ (mH)) :=
  if (nI 400) ≤ s3 then
    some (.inr K)
  else
    (gtI K v0 6 5).bind fun x5 =>
    if x5 = v2 then
      (toV (vc O d 6 MX6_take v0 [.int v2] K)).bind fun K7 =>
      (gtA K7 v0 6 0).bind fun x8 =>
      (toI (vc O d 5 MX5_add x8 [.int (if v1 = 0 then (nI 3) else (nI 4)), .int (nI 0)] K7)).bind fun p10 =>
      (toV (vc O d 6 MX6_test v0 [.int (v1 + (nI 1))] p10.2)).bind fun K11 =>
      (gtA K11 v0 6 0).bind fun x12 =>
      (toV (vc O d 5 MX5_aim x12 [.int p10.1] K11)).bind fun K13 =>
      some (.inl ((s3 + nI 1), K13))
    else
      some (.inr K)
theorem e_X6_test_l33 {O : mO} {d : Nat} {v0 : Nat} {v1 : Int32} {v2 : Int32} {P : Option Value → mH → Prop} {x : mH} (hex : ∀ q : mH, x = q → Go O (d + 1) MX6_test 94 [none, none, none, none, none] [] q P) : ∀ (f : Nat) (q : Int32 × mH), lupF (fun (q : Int32 × mH) => F_X6_test_l33 O d v0 v1 v2 q.1 q.2) f q = some x → Go O (d + 1) MX6_test 33 [some (.ref v0), some (.int v1), some (.int v2), some (.int q.1), none] [] q.2 P := by
  intro f
  induction f with
  | zero =>
    intro q h
    cases h
  | succ f ih =>
    intro q h
    obtain ⟨y, h, hy1, hy2⟩ := lupF_s h
    have hin : ∀ q : Int32 × mH, y = .inl q → Go O (d + 1) MX6_test 33 [some (.ref v0), some (.int v1), some (.int v2), some (.int q.1), none] [] q.2 P := fun q e => ih q (hy1 q e)
    replace hex : ∀ q : mH, y = .inr q → Go O (d + 1) MX6_test 94 [none, none, none, none, none] [] q P := fun q e => hex q (hy2 q e).symm
    clear ih hy1 hy2
    obtain ⟨s3, K⟩ := q
    dsimp only at h ⊢
    unfold F_X6_test_l33 at h
    refine g_iload_n dX6_test_33 rfl ?_
    refine g_sipush (v := (nI 400)) dX6_test_34 (by decide) ?_
    refine g_ic_ge (t := 94) dX6_test_37 (by decide) (fun c4 => ?_) (fun c4 => ?_)
    · rw [if_pos c4] at h
      refine Go_le ?_ (hex K (Option.some.inj h).symm)
      exact trivial
    · rw [if_neg c4] at h
      refine g_aload_n dX6_test_40 rfl ?_
      obtain ⟨x5, ex5, h⟩ := bs h
      refine q_getI dX6_test_41 fX6_34 ex5 ?_
      refine g_iload_n dX6_test_44 rfl ?_
      refine g_ic_ne (t := 94) dX6_test_45 (by decide) (fun c6 => ?_) (fun c6 => ?_)
      · rw [if_neg c6] at h
        refine Go_le ?_ (hex K (Option.some.inj h).symm)
        exact trivial
      · rw [if_pos c6] at h
        refine g_aload_n dX6_test_48 rfl ?_
        refine g_iload_n dX6_test_49 rfl ?_
        obtain ⟨K7, eK7, h⟩ := bs h
        refine q_virt (Z := MX6_take) (c := (RX6, TX6, 10)) (toV_s eK7) dX6_test_50 mX6_69.1 mX6_69.2 (Nat.le_of_ble_eq_true rfl) rfl rfl (Nat.le_of_ble_eq_true rfl) (Nat.le_of_ble_eq_true rfl) rfl rfl ?_
        show Go O (d + 1) MX6_test 53 [some (.ref v0), some (.int v1), some (.int v2), some (.int s3), none] [] K7 P
        refine g_aload_n dX6_test_53 rfl ?_
        obtain ⟨x8, ex8, h⟩ := bs h
        refine q_getA dX6_test_54 fX6_16 ex8 ?_
        refine g_iload_n dX6_test_57 rfl ?_
        have hj : Go O (d + 1) MX6_test 66 [some (.ref v0), some (.int v1), some (.int v2), some (.int s3), none] [.int (if v1 = 0 then (nI 3) else (nI 4)), .ref x8] K7 P := by
          refine g_iconst (v := (nI 0)) dX6_test_66 (by decide) ?_
          obtain ⟨p10, ep10, h⟩ := bs h
          refine q_virt (Z := MX5_add) (c := (RX5, TX5, 4)) (toI_s ep10) dX6_test_67 mX6_111.1 mX6_111.2 (Nat.le_of_ble_eq_true rfl) rfl rfl (Nat.le_of_ble_eq_true rfl) (Nat.le_of_ble_eq_true rfl) rfl rfl ?_
          show Go O (d + 1) MX6_test 70 [some (.ref v0), some (.int v1), some (.int v2), some (.int s3), none] [.int p10.1] p10.2 P
          refine g_istore (ls' := [some (.ref v0), some (.int v1), some (.int v2), some (.int s3), some (.int p10.1)]) dX6_test_70 (by decide) rfl ?_
          refine g_aload_n dX6_test_72 rfl ?_
          refine g_iload_n dX6_test_73 rfl ?_
          refine g_iconst (v := (nI 1)) dX6_test_74 (by decide) ?_
          refine g_iadd dX6_test_75 ?_
          obtain ⟨K11, eK11, h⟩ := bs h
          refine q_virt (Z := MX6_test) (c := (RX6, TX6, 10)) (toV_s eK11) dX6_test_76 mX6_105.1 mX6_105.2 (Nat.le_of_ble_eq_true rfl) rfl rfl (Nat.le_of_ble_eq_true rfl) (Nat.le_of_ble_eq_true rfl) rfl rfl ?_
          show Go O (d + 1) MX6_test 79 [some (.ref v0), some (.int v1), some (.int v2), some (.int s3), some (.int p10.1)] [] K11 P
          refine g_aload_n dX6_test_79 rfl ?_
          obtain ⟨x12, ex12, h⟩ := bs h
          refine q_getA dX6_test_80 fX6_16 ex12 ?_
          refine g_iload dX6_test_83 rfl ?_
          obtain ⟨K13, eK13, h⟩ := bs h
          refine q_virt (Z := MX5_aim) (c := (RX5, TX5, 4)) (toV_s eK13) dX6_test_85 mX6_114.1 mX6_114.2 (Nat.le_of_ble_eq_true rfl) rfl rfl (Nat.le_of_ble_eq_true rfl) (Nat.le_of_ble_eq_true rfl) rfl rfl ?_
          show Go O (d + 1) MX6_test 88 [some (.ref v0), some (.int v1), some (.int v2), some (.int s3), some (.int p10.1)] [] K13 P
          refine q_iinc (w := nI 1) (ls' := [some (.ref v0), some (.int v1), some (.int v2), some (.int (s3 + nI 1)), some (.int p10.1)]) dX6_test_88 (by decide) rfl (by decide) rfl ?_
          refine g_goto (t := 33) dX6_test_91 (by decide) ?_
          refine Go_le ?_ (hin ((s3 + nI 1), K13) (Option.some.inj h).symm)
          exact And.intro rfl (And.intro rfl (And.intro rfl (And.intro rfl (trivial))))
        refine g_if_ne (t := 65) dX6_test_58 (by decide) (fun c9 => ?_) (fun c9 => ?_)
        · skip
          refine g_iconst (v := (nI 4)) dX6_test_65 (by decide) ?_
          have hk : Go O (d + 1) MX6_test 66 [some (.ref v0), some (.int v1), some (.int v2), some (.int s3), none] [.int (nI 4), .ref x8] K7 P := by simpa only [if_neg c9] using hj
          refine Go_le ?_ hk
          exact And.intro rfl (And.intro rfl (And.intro rfl (And.intro rfl (trivial))))
        · skip
          refine g_iconst (v := (nI 3)) dX6_test_61 (by decide) ?_
          refine g_goto (t := 66) dX6_test_62 (by decide) ?_
          have hk : Go O (d + 1) MX6_test 66 [some (.ref v0), some (.int v1), some (.int v2), some (.int s3), none] [.int (nI 3), .ref x8] K7 P := by simpa only [if_pos c9] using hj
          refine Go_le ?_ hk
          exact And.intro rfl (And.intro rfl (And.intro rfl (And.intro rfl (trivial))))
noncomputable def F_X6_test (O : mO) (d : Nat) (a0 : Nat) (a1 : Int32) (K : mH) : Option (mH) :=
  if a1 ≤ (nI 1) then
    (toV (vc O d 6 MX6_test a0 [.int (a1 + (nI 1))] K)).bind fun K2 =>
    (lupF (fun (q : Int32 × mH) => F_X6_test_l33 O d a0 a1 (if a1 = 0 then (nI 2009) else (nI 2010)) q.1 q.2) FU ((nI 0), K2)).bind fun r14 =>
    some r14
  else
    (toV (vc O d 6 MX6_plain a0 [] K)).bind fun K15 =>
    some K15
theorem e_X6_test {O : mO} {d : Nat} {a0 : Nat} {a1 : Int32} {K : mH} {x : mH} (h : F_X6_test O d a0 a1 K = some x) : ev O (d + 1) MX6_test [.ref a0, .int a1] K = some (none, x) := by
  refine Rn_evx ?_
  show Go O (d + 1) MX6_test 0 [some (.ref a0), some (.int a1), none, none, none] [] K _
  generalize hP : (fun (r : Option Value) (K' : mH) => (r, K') = (none, x)) = P
  have hret : ∀ K' : mH, K' = x → P none K' := by
    intro K' e
    subst hP e
    rfl
  clear hP
  unfold F_X6_test at h
  refine g_iload_n dX6_test_0 rfl ?_
  refine g_iconst (v := (nI 1)) dX6_test_1 (by decide) ?_
  refine g_ic_le (t := 10) dX6_test_2 (by decide) (fun c1 => ?_) (fun c1 => ?_)
  · rw [if_pos c1] at h
    refine g_aload_n dX6_test_10 rfl ?_
    refine g_iload_n dX6_test_11 rfl ?_
    refine g_iconst (v := (nI 1)) dX6_test_12 (by decide) ?_
    refine g_iadd dX6_test_13 ?_
    obtain ⟨K2, eK2, h⟩ := bs h
    refine q_virt (Z := MX6_test) (c := (RX6, TX6, 10)) (toV_s eK2) dX6_test_14 mX6_105.1 mX6_105.2 (Nat.le_of_ble_eq_true rfl) rfl rfl (Nat.le_of_ble_eq_true rfl) (Nat.le_of_ble_eq_true rfl) rfl rfl ?_
    show Go O (d + 1) MX6_test 17 [some (.ref a0), some (.int a1), none, none, none] [] K2 P
    refine g_iload_n dX6_test_17 rfl ?_
    have hj : Go O (d + 1) MX6_test 30 [some (.ref a0), some (.int a1), none, none, none] [.int (if a1 = 0 then (nI 2009) else (nI 2010))] K2 P := by
      refine g_istore_n (ls' := [some (.ref a0), some (.int a1), some (.int (if a1 = 0 then (nI 2009) else (nI 2010))), none, none]) dX6_test_30 (by decide) rfl ?_
      refine g_iconst (v := (nI 0)) dX6_test_31 (by decide) ?_
      refine g_istore_n (ls' := [some (.ref a0), some (.int a1), some (.int (if a1 = 0 then (nI 2009) else (nI 2010))), some (.int (nI 0)), none]) dX6_test_32 (by decide) rfl ?_
      obtain ⟨r14, er14, h⟩ := bs h
      have hx : Go O (d + 1) MX6_test 94 [none, none, none, none, none] [] r14 P := by
        exact g_return dX6_test_94 rfl (hret _ (Option.some.inj h))
      refine Go_le ?_ (e_X6_test_l33 (fun q e => by cases e; exact hx) FU ((nI 0), K2) er14)
      exact And.intro rfl (And.intro rfl (And.intro rfl (And.intro rfl (trivial))))
    refine g_if_ne (t := 27) dX6_test_18 (by decide) (fun c3 => ?_) (fun c3 => ?_)
    · skip
      refine g_sipush (v := (nI 2010)) dX6_test_27 (by decide) ?_
      have hk : Go O (d + 1) MX6_test 30 [some (.ref a0), some (.int a1), none, none, none] [.int (nI 2010)] K2 P := by simpa only [if_neg c3] using hj
      refine Go_le ?_ hk
      exact And.intro rfl (And.intro rfl (trivial))
    · skip
      refine g_sipush (v := (nI 2009)) dX6_test_21 (by decide) ?_
      refine g_goto (t := 30) dX6_test_24 (by decide) ?_
      have hk : Go O (d + 1) MX6_test 30 [some (.ref a0), some (.int a1), none, none, none] [.int (nI 2009)] K2 P := by simpa only [if_pos c3] using hj
      refine Go_le ?_ hk
      exact And.intro rfl (And.intro rfl (trivial))
  · rw [if_neg c1] at h
    refine g_aload_n dX6_test_5 rfl ?_
    obtain ⟨K15, eK15, h⟩ := bs h
    refine q_virt (Z := MX6_plain) (c := (RX6, TX6, 10)) (toV_s eK15) dX6_test_6 mX6_108.1 mX6_108.2 (Nat.le_of_ble_eq_true rfl) rfl rfl (Nat.le_of_ble_eq_true rfl) (Nat.le_of_ble_eq_true rfl) rfl rfl ?_
    show Go O (d + 1) MX6_test 9 [some (.ref a0), some (.int a1), none, none, none] [] K15 P
    exact g_return dX6_test_9 rfl (hret _ (Option.some.inj h))
noncomputable def F_X6_plain_l4 (O : mO) (d : Nat) (v0 : Nat) (s1 : Int32) (s2 : Int32) (K : mH) : Option ((Int32 × Int32 × mH) ⊕ (Int32 × mH)) :=
  if (nI 400) ≤ s2 then
    some (.inr (s1, K))
  else
    (gtI K v0 6 5).bind fun x2 =>
    if x2 = (nI 2011) then
      (toV (vc O d 6 MX6_take v0 [.int (nI 2011)] K)).bind fun K4 =>
      some (.inl ((if s1 = 0 then (nI 1) else (nI 0)), (s2 + nI 1), K4))
    else
      some (.inr (s1, K))
theorem e_X6_plain_l4 {O : mO} {d : Nat} {v0 : Nat} {P : Option Value → mH → Prop} {x : Int32 × mH} (hex : ∀ q : Int32 × mH, x = q → Go O (d + 1) MX6_plain 44 [some (.ref v0), some (.int q.1), none] [] q.2 P) : ∀ (f : Nat) (q : Int32 × Int32 × mH), lupF (fun (q : Int32 × Int32 × mH) => F_X6_plain_l4 O d v0 q.1 q.2.1 q.2.2) f q = some x → Go O (d + 1) MX6_plain 4 [some (.ref v0), some (.int q.1), some (.int q.2.1)] [] q.2.2 P := by
  intro f
  induction f with
  | zero =>
    intro q h
    cases h
  | succ f ih =>
    intro q h
    obtain ⟨y, h, hy1, hy2⟩ := lupF_s h
    have hin : ∀ q : Int32 × Int32 × mH, y = .inl q → Go O (d + 1) MX6_plain 4 [some (.ref v0), some (.int q.1), some (.int q.2.1)] [] q.2.2 P := fun q e => ih q (hy1 q e)
    replace hex : ∀ q : Int32 × mH, y = .inr q → Go O (d + 1) MX6_plain 44 [some (.ref v0), some (.int q.1), none] [] q.2 P := fun q e => hex q (hy2 q e).symm
    clear ih hy1 hy2
    obtain ⟨s1, s2, K⟩ := q
    dsimp only at h ⊢
    unfold F_X6_plain_l4 at h
    refine g_iload_n dX6_plain_4 rfl ?_
    refine g_sipush (v := (nI 400)) dX6_plain_5 (by decide) ?_
    refine g_ic_ge (t := 44) dX6_plain_8 (by decide) (fun c1 => ?_) (fun c1 => ?_)
    · rw [if_pos c1] at h
      refine Go_le ?_ (hex (s1, K) (Option.some.inj h).symm)
      exact And.intro rfl (And.intro rfl (trivial))
    · rw [if_neg c1] at h
      refine g_aload_n dX6_plain_11 rfl ?_
      obtain ⟨x2, ex2, h⟩ := bs h
      refine q_getI dX6_plain_12 fX6_34 ex2 ?_
      refine g_sipush (v := (nI 2011)) dX6_plain_15 (by decide) ?_
      refine g_ic_ne (t := 44) dX6_plain_18 (by decide) (fun c3 => ?_) (fun c3 => ?_)
      · rw [if_neg c3] at h
        refine Go_le ?_ (hex (s1, K) (Option.some.inj h).symm)
        exact And.intro rfl (And.intro rfl (trivial))
      · rw [if_pos c3] at h
        refine g_aload_n dX6_plain_21 rfl ?_
        refine g_sipush (v := (nI 2011)) dX6_plain_22 (by decide) ?_
        obtain ⟨K4, eK4, h⟩ := bs h
        refine q_virt (Z := MX6_take) (c := (RX6, TX6, 10)) (toV_s eK4) dX6_plain_25 mX6_69.1 mX6_69.2 (Nat.le_of_ble_eq_true rfl) rfl rfl (Nat.le_of_ble_eq_true rfl) (Nat.le_of_ble_eq_true rfl) rfl rfl ?_
        show Go O (d + 1) MX6_plain 28 [some (.ref v0), some (.int s1), some (.int s2)] [] K4 P
        refine g_iload_n dX6_plain_28 rfl ?_
        have hj : Go O (d + 1) MX6_plain 37 [some (.ref v0), none, some (.int s2)] [.int (if s1 = 0 then (nI 1) else (nI 0))] K4 P := by
          refine g_istore_n (ls' := [some (.ref v0), some (.int (if s1 = 0 then (nI 1) else (nI 0))), some (.int s2)]) dX6_plain_37 (by decide) rfl ?_
          refine q_iinc (w := nI 1) (ls' := [some (.ref v0), some (.int (if s1 = 0 then (nI 1) else (nI 0))), some (.int (s2 + nI 1))]) dX6_plain_38 (by decide) rfl (by decide) rfl ?_
          refine g_goto (t := 4) dX6_plain_41 (by decide) ?_
          refine Go_le ?_ (hin ((if s1 = 0 then (nI 1) else (nI 0)), (s2 + nI 1), K4) (Option.some.inj h).symm)
          exact And.intro rfl (And.intro rfl (And.intro rfl (trivial)))
        refine g_if_ne (t := 36) dX6_plain_29 (by decide) (fun c5 => ?_) (fun c5 => ?_)
        · skip
          refine g_iconst (v := (nI 0)) dX6_plain_36 (by decide) ?_
          have hk : Go O (d + 1) MX6_plain 37 [some (.ref v0), none, some (.int s2)] [.int (nI 0)] K4 P := by simpa only [if_neg c5] using hj
          refine Go_le ?_ hk
          exact And.intro rfl (And.intro rfl (trivial))
        · skip
          refine g_iconst (v := (nI 1)) dX6_plain_32 (by decide) ?_
          refine g_goto (t := 37) dX6_plain_33 (by decide) ?_
          have hk : Go O (d + 1) MX6_plain 37 [some (.ref v0), none, some (.int s2)] [.int (nI 1)] K4 P := by simpa only [if_pos c5] using hj
          refine Go_le ?_ hk
          exact And.intro rfl (And.intro rfl (trivial))
noncomputable def F_X6_plain_j152 (O : mO) (d : Nat) (v0 : Nat) (v1 : Int32) (K : mH) : Option (mH) :=
  if v1 = 0 then
    some K
  else
    (gtA K v0 6 0).bind fun x21 =>
    (toI (vc O d 5 MX5_add x21 [.int (nI 2), .int (nI 0)] K)).bind fun p22 =>
    some p22.2
theorem e_X6_plain_j152 {O : mO} {d : Nat} {v0 : Nat} {v1 : Int32} {K : mH} {P : Option Value → mH → Prop} {x : mH} (hret : ∀ K' : mH, K' = x → P none K') (h : F_X6_plain_j152 O d v0 v1 K = some x) : Go O (d + 1) MX6_plain 152 [some (.ref v0), some (.int v1), none] [] K P := by
  unfold F_X6_plain_j152 at h
  refine g_iload_n dX6_plain_152 rfl ?_
  refine g_if_eq (t := 166) dX6_plain_153 (by decide) (fun c20 => ?_) (fun c20 => ?_)
  · rw [if_pos c20] at h
    exact g_return dX6_plain_166 rfl (hret _ (Option.some.inj h))
  · rw [if_neg c20] at h
    refine g_aload_n dX6_plain_156 rfl ?_
    obtain ⟨x21, ex21, h⟩ := bs h
    refine q_getA dX6_plain_157 fX6_16 ex21 ?_
    refine g_iconst (v := (nI 2)) dX6_plain_160 (by decide) ?_
    refine g_iconst (v := (nI 0)) dX6_plain_161 (by decide) ?_
    obtain ⟨p22, ep22, h⟩ := bs h
    refine q_virt (Z := MX5_add) (c := (RX5, TX5, 4)) (toI_s ep22) dX6_plain_162 mX6_111.1 mX6_111.2 (Nat.le_of_ble_eq_true rfl) rfl rfl (Nat.le_of_ble_eq_true rfl) (Nat.le_of_ble_eq_true rfl) rfl rfl ?_
    show Go O (d + 1) MX6_plain 165 [some (.ref v0), some (.int v1), none] [.int p22.1] p22.2 P
    refine g_pop dX6_plain_165 (by first | rfl | exact vrf_cat _) ?_
    exact g_return dX6_plain_166 rfl (hret _ (Option.some.inj h))
noncomputable def F_X6_plain_j134 (O : mO) (d : Nat) (v0 : Nat) (v1 : Int32) (v2 : Int32) (w0 : Int32) (w1 : Nat) (K : mH) : Option (mH) :=
  (toV (vc O d 6 MX6_take w1 [.int w0] K)).bind fun K15 =>
  (toV (vc O d 6 MX6_sum v0 [.int (nI 0)] K15)).bind fun K16 =>
  (gtA K16 v0 6 0).bind fun x17 =>
  (toI (vc O d 5 MX5_add x17 [.int v2, .int (nI 0)] K16)).bind fun p18 =>
  F_X6_plain_j152 O d v0 v1 p18.2
theorem e_X6_plain_j134 {O : mO} {d : Nat} {v0 : Nat} {v1 : Int32} {v2 : Int32} {w0 : Int32} {w1 : Nat} {K : mH} {P : Option Value → mH → Prop} {x : mH} (hret : ∀ K' : mH, K' = x → P none K') (h : F_X6_plain_j134 O d v0 v1 v2 w0 w1 K = some x) : Go O (d + 1) MX6_plain 134 [some (.ref v0), some (.int v1), some (.int v2)] [.int w0, .ref w1] K P := by
  unfold F_X6_plain_j134 at h
  obtain ⟨K15, eK15, h⟩ := bs h
  refine q_virt (Z := MX6_take) (c := (RX6, TX6, 10)) (toV_s eK15) dX6_plain_134 mX6_69.1 mX6_69.2 (Nat.le_of_ble_eq_true rfl) rfl rfl (Nat.le_of_ble_eq_true rfl) (Nat.le_of_ble_eq_true rfl) rfl rfl ?_
  show Go O (d + 1) MX6_plain 137 [some (.ref v0), some (.int v1), some (.int v2)] [] K15 P
  refine g_aload_n dX6_plain_137 rfl ?_
  refine g_iconst (v := (nI 0)) dX6_plain_138 (by decide) ?_
  obtain ⟨K16, eK16, h⟩ := bs h
  refine q_virt (Z := MX6_sum) (c := (RX6, TX6, 10)) (toV_s eK16) dX6_plain_139 mX6_96.1 mX6_96.2 (Nat.le_of_ble_eq_true rfl) rfl rfl (Nat.le_of_ble_eq_true rfl) (Nat.le_of_ble_eq_true rfl) rfl rfl ?_
  show Go O (d + 1) MX6_plain 142 [some (.ref v0), some (.int v1), some (.int v2)] [] K16 P
  refine g_aload_n dX6_plain_142 rfl ?_
  obtain ⟨x17, ex17, h⟩ := bs h
  refine q_getA dX6_plain_143 fX6_16 ex17 ?_
  refine g_iload_n dX6_plain_146 rfl ?_
  refine g_iconst (v := (nI 0)) dX6_plain_147 (by decide) ?_
  obtain ⟨p18, ep18, h⟩ := bs h
  refine q_virt (Z := MX5_add) (c := (RX5, TX5, 4)) (toI_s ep18) dX6_plain_148 mX6_111.1 mX6_111.2 (Nat.le_of_ble_eq_true rfl) rfl rfl (Nat.le_of_ble_eq_true rfl) (Nat.le_of_ble_eq_true rfl) rfl rfl ?_
  show Go O (d + 1) MX6_plain 151 [some (.ref v0), some (.int v1), some (.int v2)] [.int p18.1] p18.2 P
  refine g_pop dX6_plain_151 (by first | rfl | exact vrf_cat _) ?_
  refine Go_le ?_ (e_X6_plain_j152 hret h)
  exact And.intro rfl (And.intro rfl (trivial))
noncomputable def F_X6_plain_j106 (O : mO) (d : Nat) (v0 : Nat) (v1 : Int32) (K : mH) : Option (mH) :=
  (toV (vc O d 6 MX6_sum v0 [.int (nI 0)] K)).bind fun K10 =>
  (gtI K10 v0 6 5).bind fun x11 =>
  (toI (ev O d MX6_stepOf [.int x11] K10)).bind fun p12 =>
  if p12.1 < (nI 10) then
    F_X6_plain_j134 O d v0 v1 p12.1 (-1) v0 p12.2
  else
    (gtI p12.2 v0 6 5).bind fun x23 =>
    F_X6_plain_j134 O d v0 v1 p12.1 x23 v0 p12.2
theorem e_X6_plain_j106 {O : mO} {d : Nat} {v0 : Nat} {v1 : Int32} {K : mH} {P : Option Value → mH → Prop} {x : mH} (hret : ∀ K' : mH, K' = x → P none K') (h : F_X6_plain_j106 O d v0 v1 K = some x) : Go O (d + 1) MX6_plain 106 [some (.ref v0), some (.int v1), none] [] K P := by
  unfold F_X6_plain_j106 at h
  refine g_aload_n dX6_plain_106 rfl ?_
  refine g_iconst (v := (nI 0)) dX6_plain_107 (by decide) ?_
  obtain ⟨K10, eK10, h⟩ := bs h
  refine q_virt (Z := MX6_sum) (c := (RX6, TX6, 10)) (toV_s eK10) dX6_plain_108 mX6_96.1 mX6_96.2 (Nat.le_of_ble_eq_true rfl) rfl rfl (Nat.le_of_ble_eq_true rfl) (Nat.le_of_ble_eq_true rfl) rfl rfl ?_
  show Go O (d + 1) MX6_plain 111 [some (.ref v0), some (.int v1), none] [] K10 P
  refine g_aload_n dX6_plain_111 rfl ?_
  obtain ⟨x11, ex11, h⟩ := bs h
  refine q_getI dX6_plain_112 fX6_34 ex11 ?_
  obtain ⟨p12, ep12, h⟩ := bs h
  refine q_stat (Z := MX6_stepOf) (toI_s ep12) dX6_plain_115 mX6_117.1 mX6_117.2 (Nat.le_of_ble_eq_true rfl) rfl rfl (Nat.le_of_ble_eq_true rfl) (Nat.le_of_ble_eq_true rfl) ?_
  show Go O (d + 1) MX6_plain 118 [some (.ref v0), some (.int v1), none] [.int p12.1] p12.2 P
  refine g_istore_n (ls' := [some (.ref v0), some (.int v1), some (.int p12.1)]) dX6_plain_118 (by decide) rfl ?_
  refine g_aload_n dX6_plain_119 rfl ?_
  refine g_iload_n dX6_plain_120 rfl ?_
  refine g_bipush (v := (nI 10)) dX6_plain_121 (by decide) ?_
  refine g_ic_lt (t := 133) dX6_plain_123 (by decide) (fun c14 => ?_) (fun c14 => ?_)
  · rw [if_pos c14] at h
    refine g_iconst (v := (-1)) dX6_plain_133 (by decide) ?_
    refine Go_le ?_ (e_X6_plain_j134 hret h)
    exact And.intro rfl (And.intro rfl (And.intro rfl (trivial)))
  · rw [if_neg c14] at h
    refine g_aload_n dX6_plain_126 rfl ?_
    obtain ⟨x23, ex23, h⟩ := bs h
    refine q_getI dX6_plain_127 fX6_34 ex23 ?_
    refine g_goto (t := 134) dX6_plain_130 (by decide) ?_
    refine Go_le ?_ (e_X6_plain_j134 hret h)
    exact And.intro rfl (And.intro rfl (And.intro rfl (trivial)))
noncomputable def F_X6_plain_j44 (O : mO) (d : Nat) (v0 : Nat) (v1 : Int32) (K : mH) : Option (mH) :=
  (gtI K v0 6 5).bind fun x7 =>
  if x7 = (nI 3040) then
    (gtI K v0 6 8).bind fun x24 =>
    if (nI 8) ≤ x24 then
      F_X6_plain_j106 O d v0 v1 K
    else
      (gtI K v0 6 8).bind fun x27 =>
      (ptI K v0 6 8 (x27 + (nI 1))).bind fun K28 =>
      (gtI K28 v0 6 5).bind fun x29 =>
      (toV (vc O d 6 MX6_take v0 [.int x29] K28)).bind fun K30 =>
      (toV (vc O d 6 MX6_test v0 [.int (nI 0)] K30)).bind fun K31 =>
      (toV (vc O d 6 MX6_take v0 [.int (nI 3041)] K31)).bind fun K32 =>
      (gtI K32 v0 6 8).bind fun x33 =>
      (ptI K32 v0 6 8 (x33 - (nI 1))).bind fun K34 =>
      F_X6_plain_j152 O d v0 v1 K34
  else
    F_X6_plain_j106 O d v0 v1 K
theorem e_X6_plain_j44 {O : mO} {d : Nat} {v0 : Nat} {v1 : Int32} {K : mH} {P : Option Value → mH → Prop} {x : mH} (hret : ∀ K' : mH, K' = x → P none K') (h : F_X6_plain_j44 O d v0 v1 K = some x) : Go O (d + 1) MX6_plain 44 [some (.ref v0), some (.int v1), none] [] K P := by
  unfold F_X6_plain_j44 at h
  refine g_aload_n dX6_plain_44 rfl ?_
  obtain ⟨x7, ex7, h⟩ := bs h
  refine q_getI dX6_plain_45 fX6_34 ex7 ?_
  refine g_sipush (v := (nI 3040)) dX6_plain_48 (by decide) ?_
  refine g_ic_ne (t := 106) dX6_plain_51 (by decide) (fun c9 => ?_) (fun c9 => ?_)
  · rw [if_neg c9] at h
    refine Go_le ?_ (e_X6_plain_j106 hret h)
    exact And.intro rfl (And.intro rfl (trivial))
  · rw [if_pos c9] at h
    refine g_aload_n dX6_plain_54 rfl ?_
    obtain ⟨x24, ex24, h⟩ := bs h
    refine q_getI dX6_plain_55 fX6_43 ex24 ?_
    refine g_bipush (v := (nI 8)) dX6_plain_58 (by decide) ?_
    refine g_ic_ge (t := 106) dX6_plain_60 (by decide) (fun c26 => ?_) (fun c26 => ?_)
    · rw [if_pos c26] at h
      refine Go_le ?_ (e_X6_plain_j106 hret h)
      exact And.intro rfl (And.intro rfl (trivial))
    · rw [if_neg c26] at h
      refine g_aload_n dX6_plain_63 rfl ?_
      refine g_dup dX6_plain_64 (by first | rfl | exact vrf_cat _) ?_
      obtain ⟨x27, ex27, h⟩ := bs h
      refine q_getI dX6_plain_65 fX6_43 ex27 ?_
      refine g_iconst (v := (nI 1)) dX6_plain_68 (by decide) ?_
      refine g_iadd dX6_plain_69 ?_
      obtain ⟨K28, eK28, h⟩ := bs h
      refine q_put (c := (RX6, TX6, 10)) dX6_plain_70 fX6_43 rfl rfl rfl (fun h => absurd h (by decide)) eK28 ?_
      refine g_aload_n dX6_plain_73 rfl ?_
      refine g_aload_n dX6_plain_74 rfl ?_
      obtain ⟨x29, ex29, h⟩ := bs h
      refine q_getI dX6_plain_75 fX6_34 ex29 ?_
      obtain ⟨K30, eK30, h⟩ := bs h
      refine q_virt (Z := MX6_take) (c := (RX6, TX6, 10)) (toV_s eK30) dX6_plain_78 mX6_69.1 mX6_69.2 (Nat.le_of_ble_eq_true rfl) rfl rfl (Nat.le_of_ble_eq_true rfl) (Nat.le_of_ble_eq_true rfl) rfl rfl ?_
      show Go O (d + 1) MX6_plain 81 [some (.ref v0), some (.int v1), none] [] K30 P
      refine g_aload_n dX6_plain_81 rfl ?_
      refine g_iconst (v := (nI 0)) dX6_plain_82 (by decide) ?_
      obtain ⟨K31, eK31, h⟩ := bs h
      refine q_virt (Z := MX6_test) (c := (RX6, TX6, 10)) (toV_s eK31) dX6_plain_83 mX6_105.1 mX6_105.2 (Nat.le_of_ble_eq_true rfl) rfl rfl (Nat.le_of_ble_eq_true rfl) (Nat.le_of_ble_eq_true rfl) rfl rfl ?_
      show Go O (d + 1) MX6_plain 86 [some (.ref v0), some (.int v1), none] [] K31 P
      refine g_aload_n dX6_plain_86 rfl ?_
      refine g_sipush (v := (nI 3041)) dX6_plain_87 (by decide) ?_
      obtain ⟨K32, eK32, h⟩ := bs h
      refine q_virt (Z := MX6_take) (c := (RX6, TX6, 10)) (toV_s eK32) dX6_plain_90 mX6_69.1 mX6_69.2 (Nat.le_of_ble_eq_true rfl) rfl rfl (Nat.le_of_ble_eq_true rfl) (Nat.le_of_ble_eq_true rfl) rfl rfl ?_
      show Go O (d + 1) MX6_plain 93 [some (.ref v0), some (.int v1), none] [] K32 P
      refine g_aload_n dX6_plain_93 rfl ?_
      refine g_dup dX6_plain_94 (by first | rfl | exact vrf_cat _) ?_
      obtain ⟨x33, ex33, h⟩ := bs h
      refine q_getI dX6_plain_95 fX6_43 ex33 ?_
      refine g_iconst (v := (nI 1)) dX6_plain_98 (by decide) ?_
      refine g_isub dX6_plain_99 ?_
      obtain ⟨K34, eK34, h⟩ := bs h
      refine q_put (c := (RX6, TX6, 10)) dX6_plain_100 fX6_43 rfl rfl rfl (fun h => absurd h (by decide)) eK34 ?_
      refine g_goto (t := 152) dX6_plain_103 (by decide) ?_
      refine Go_le ?_ (e_X6_plain_j152 hret h)
      exact And.intro rfl (And.intro rfl (trivial))
noncomputable def F_X6_plain (O : mO) (d : Nat) (a0 : Nat) (K : mH) : Option (mH) :=
  (lupF (fun (q : Int32 × Int32 × mH) => F_X6_plain_l4 O d a0 q.1 q.2.1 q.2.2) FU ((nI 0), (nI 0), K)).bind fun r6 =>
  F_X6_plain_j44 O d a0 r6.1 r6.2
theorem e_X6_plain {O : mO} {d : Nat} {a0 : Nat} {K : mH} {x : mH} (h : F_X6_plain O d a0 K = some x) : ev O (d + 1) MX6_plain [.ref a0] K = some (none, x) := by
  refine Rn_evx ?_
  show Go O (d + 1) MX6_plain 0 [some (.ref a0), none, none] [] K _
  generalize hP : (fun (r : Option Value) (K' : mH) => (r, K') = (none, x)) = P
  have hret : ∀ K' : mH, K' = x → P none K' := by
    intro K' e
    subst hP e
    rfl
  clear hP
  unfold F_X6_plain at h
  refine g_iconst (v := (nI 0)) dX6_plain_0 (by decide) ?_
  refine g_istore_n (ls' := [some (.ref a0), some (.int (nI 0)), none]) dX6_plain_1 (by decide) rfl ?_
  refine g_iconst (v := (nI 0)) dX6_plain_2 (by decide) ?_
  refine g_istore_n (ls' := [some (.ref a0), some (.int (nI 0)), some (.int (nI 0))]) dX6_plain_3 (by decide) rfl ?_
  obtain ⟨r6, er6, h⟩ := bs h
  have hx : Go O (d + 1) MX6_plain 44 [some (.ref a0), some (.int r6.1), none] [] r6.2 P := by
    refine Go_le ?_ (e_X6_plain_j44 hret h)
    exact And.intro rfl (And.intro rfl (trivial))
  refine Go_le ?_ (e_X6_plain_l4 (fun q e => by cases e; exact hx) FU ((nI 0), (nI 0), K) er6)
  exact And.intro rfl (And.intro rfl (And.intro rfl (trivial)))
noncomputable def F_X6_sum_l43 (O : mO) (d : Nat) (v0 : Nat) (v1 : Int32) (v2 : Int32) (v3 : Int32) (s4 : Int32) (K : mH) : Option ((Int32 × mH) ⊕ (mH)) :=
  if (nI 400) ≤ s4 then
    some (.inr K)
  else
    (gtI K v0 6 5).bind fun x6 =>
    (toI (ev O d MX6_stepOf [.int x6] K)).bind fun p7 =>
    if p7.1 < v2 then
      some (.inr p7.2)
    else
      (gtI p7.2 v0 6 5).bind fun x9 =>
      (toI (ev O d MX6_stepOf [.int x9] p7.2)).bind fun p10 =>
      if v3 < p10.1 then
        some (.inr p10.2)
      else
        (gtI p10.2 v0 6 5).bind fun x12 =>
        (toI (ev O d MX6_stepOf [.int x12] p10.2)).bind fun p13 =>
        (gtI p13.2 v0 6 5).bind fun x14 =>
        (toV (vc O d 6 MX6_take v0 [.int x14] p13.2)).bind fun K15 =>
        (toV (vc O d 6 MX6_sum v0 [.int (v1 + (nI 1))] K15)).bind fun K16 =>
        (gtA K16 v0 6 0).bind fun x17 =>
        (toI (vc O d 5 MX5_add x17 [.int p13.1, .int (nI 0)] K16)).bind fun p18 =>
        some (.inl ((s4 + nI 1), p18.2))
theorem e_X6_sum_l43 {O : mO} {d : Nat} {v0 : Nat} {v1 : Int32} {v2 : Int32} {v3 : Int32} {P : Option Value → mH → Prop} {x : mH} (hex : ∀ q : mH, x = q → Go O (d + 1) MX6_sum 114 [none, none, none, none, none, none] [] q P) : ∀ (f : Nat) (q : Int32 × mH), lupF (fun (q : Int32 × mH) => F_X6_sum_l43 O d v0 v1 v2 v3 q.1 q.2) f q = some x → Go O (d + 1) MX6_sum 43 [some (.ref v0), some (.int v1), some (.int v2), some (.int v3), some (.int q.1), none] [] q.2 P := by
  intro f
  induction f with
  | zero =>
    intro q h
    cases h
  | succ f ih =>
    intro q h
    obtain ⟨y, h, hy1, hy2⟩ := lupF_s h
    have hin : ∀ q : Int32 × mH, y = .inl q → Go O (d + 1) MX6_sum 43 [some (.ref v0), some (.int v1), some (.int v2), some (.int v3), some (.int q.1), none] [] q.2 P := fun q e => ih q (hy1 q e)
    replace hex : ∀ q : mH, y = .inr q → Go O (d + 1) MX6_sum 114 [none, none, none, none, none, none] [] q P := fun q e => hex q (hy2 q e).symm
    clear ih hy1 hy2
    obtain ⟨s4, K⟩ := q
    dsimp only at h ⊢
    unfold F_X6_sum_l43 at h
    refine g_iload dX6_sum_43 rfl ?_
    refine g_sipush (v := (nI 400)) dX6_sum_45 (by decide) ?_
    refine g_ic_ge (t := 114) dX6_sum_48 (by decide) (fun c5 => ?_) (fun c5 => ?_)
    · rw [if_pos c5] at h
      refine Go_le ?_ (hex K (Option.some.inj h).symm)
      exact trivial
    · rw [if_neg c5] at h
      refine g_aload_n dX6_sum_51 rfl ?_
      obtain ⟨x6, ex6, h⟩ := bs h
      refine q_getI dX6_sum_52 fX6_34 ex6 ?_
      obtain ⟨p7, ep7, h⟩ := bs h
      refine q_stat (Z := MX6_stepOf) (toI_s ep7) dX6_sum_55 mX6_117.1 mX6_117.2 (Nat.le_of_ble_eq_true rfl) rfl rfl (Nat.le_of_ble_eq_true rfl) (Nat.le_of_ble_eq_true rfl) ?_
      show Go O (d + 1) MX6_sum 58 [some (.ref v0), some (.int v1), some (.int v2), some (.int v3), some (.int s4), none] [.int p7.1] p7.2 P
      refine g_iload_n dX6_sum_58 rfl ?_
      refine g_ic_lt (t := 114) dX6_sum_59 (by decide) (fun c8 => ?_) (fun c8 => ?_)
      · rw [if_pos c8] at h
        refine Go_le ?_ (hex p7.2 (Option.some.inj h).symm)
        exact trivial
      · rw [if_neg c8] at h
        refine g_aload_n dX6_sum_62 rfl ?_
        obtain ⟨x9, ex9, h⟩ := bs h
        refine q_getI dX6_sum_63 fX6_34 ex9 ?_
        obtain ⟨p10, ep10, h⟩ := bs h
        refine q_stat (Z := MX6_stepOf) (toI_s ep10) dX6_sum_66 mX6_117.1 mX6_117.2 (Nat.le_of_ble_eq_true rfl) rfl rfl (Nat.le_of_ble_eq_true rfl) (Nat.le_of_ble_eq_true rfl) ?_
        show Go O (d + 1) MX6_sum 69 [some (.ref v0), some (.int v1), some (.int v2), some (.int v3), some (.int s4), none] [.int p10.1] p10.2 P
        refine g_iload_n dX6_sum_69 rfl ?_
        refine g_ic_gt (t := 114) dX6_sum_70 (by decide) (fun c11 => ?_) (fun c11 => ?_)
        · rw [if_pos c11] at h
          refine Go_le ?_ (hex p10.2 (Option.some.inj h).symm)
          exact trivial
        · rw [if_neg c11] at h
          refine g_aload_n dX6_sum_73 rfl ?_
          obtain ⟨x12, ex12, h⟩ := bs h
          refine q_getI dX6_sum_74 fX6_34 ex12 ?_
          obtain ⟨p13, ep13, h⟩ := bs h
          refine q_stat (Z := MX6_stepOf) (toI_s ep13) dX6_sum_77 mX6_117.1 mX6_117.2 (Nat.le_of_ble_eq_true rfl) rfl rfl (Nat.le_of_ble_eq_true rfl) (Nat.le_of_ble_eq_true rfl) ?_
          show Go O (d + 1) MX6_sum 80 [some (.ref v0), some (.int v1), some (.int v2), some (.int v3), some (.int s4), none] [.int p13.1] p13.2 P
          refine g_istore (ls' := [some (.ref v0), some (.int v1), some (.int v2), some (.int v3), some (.int s4), some (.int p13.1)]) dX6_sum_80 (by decide) rfl ?_
          refine g_aload_n dX6_sum_82 rfl ?_
          refine g_aload_n dX6_sum_83 rfl ?_
          obtain ⟨x14, ex14, h⟩ := bs h
          refine q_getI dX6_sum_84 fX6_34 ex14 ?_
          obtain ⟨K15, eK15, h⟩ := bs h
          refine q_virt (Z := MX6_take) (c := (RX6, TX6, 10)) (toV_s eK15) dX6_sum_87 mX6_69.1 mX6_69.2 (Nat.le_of_ble_eq_true rfl) rfl rfl (Nat.le_of_ble_eq_true rfl) (Nat.le_of_ble_eq_true rfl) rfl rfl ?_
          show Go O (d + 1) MX6_sum 90 [some (.ref v0), some (.int v1), some (.int v2), some (.int v3), some (.int s4), some (.int p13.1)] [] K15 P
          refine g_aload_n dX6_sum_90 rfl ?_
          refine g_iload_n dX6_sum_91 rfl ?_
          refine g_iconst (v := (nI 1)) dX6_sum_92 (by decide) ?_
          refine g_iadd dX6_sum_93 ?_
          obtain ⟨K16, eK16, h⟩ := bs h
          refine q_virt (Z := MX6_sum) (c := (RX6, TX6, 10)) (toV_s eK16) dX6_sum_94 mX6_96.1 mX6_96.2 (Nat.le_of_ble_eq_true rfl) rfl rfl (Nat.le_of_ble_eq_true rfl) (Nat.le_of_ble_eq_true rfl) rfl rfl ?_
          show Go O (d + 1) MX6_sum 97 [some (.ref v0), some (.int v1), some (.int v2), some (.int v3), some (.int s4), some (.int p13.1)] [] K16 P
          refine g_aload_n dX6_sum_97 rfl ?_
          obtain ⟨x17, ex17, h⟩ := bs h
          refine q_getA dX6_sum_98 fX6_16 ex17 ?_
          refine g_iload dX6_sum_101 rfl ?_
          refine g_iconst (v := (nI 0)) dX6_sum_103 (by decide) ?_
          obtain ⟨p18, ep18, h⟩ := bs h
          refine q_virt (Z := MX5_add) (c := (RX5, TX5, 4)) (toI_s ep18) dX6_sum_104 mX6_111.1 mX6_111.2 (Nat.le_of_ble_eq_true rfl) rfl rfl (Nat.le_of_ble_eq_true rfl) (Nat.le_of_ble_eq_true rfl) rfl rfl ?_
          show Go O (d + 1) MX6_sum 107 [some (.ref v0), some (.int v1), some (.int v2), some (.int v3), some (.int s4), some (.int p13.1)] [.int p18.1] p18.2 P
          refine g_pop dX6_sum_107 (by first | rfl | exact vrf_cat _) ?_
          refine q_iinc (w := nI 1) (ls' := [some (.ref v0), some (.int v1), some (.int v2), some (.int v3), some (.int (s4 + nI 1)), some (.int p13.1)]) dX6_sum_108 (by decide) rfl (by decide) rfl ?_
          refine g_goto (t := 43) dX6_sum_111 (by decide) ?_
          refine Go_le ?_ (hin ((s4 + nI 1), p18.2) (Option.some.inj h).symm)
          exact And.intro rfl (And.intro rfl (And.intro rfl (And.intro rfl (And.intro rfl (trivial)))))
noncomputable def F_X6_sum (O : mO) (d : Nat) (a0 : Nat) (a1 : Int32) (K : mH) : Option (mH) :=
  if a1 ≤ (nI 1) then
    (toV (vc O d 6 MX6_sum a0 [.int (a1 + (nI 1))] K)).bind fun K2 =>
    (lupF (fun (q : Int32 × mH) => F_X6_sum_l43 O d a0 a1 (if a1 = 0 then (nI 5) else (nI 7)) (if a1 = 0 then (nI 6) else (nI 9)) q.1 q.2) FU ((nI 0), K2)).bind fun r19 =>
    some r19
  else
    (toV (vc O d 6 MX6_part a0 [] K)).bind fun K20 =>
    some K20
theorem e_X6_sum {O : mO} {d : Nat} {a0 : Nat} {a1 : Int32} {K : mH} {x : mH} (h : F_X6_sum O d a0 a1 K = some x) : ev O (d + 1) MX6_sum [.ref a0, .int a1] K = some (none, x) := by
  refine Rn_evx ?_
  show Go O (d + 1) MX6_sum 0 [some (.ref a0), some (.int a1), none, none, none, none] [] K _
  generalize hP : (fun (r : Option Value) (K' : mH) => (r, K') = (none, x)) = P
  have hret : ∀ K' : mH, K' = x → P none K' := by
    intro K' e
    subst hP e
    rfl
  clear hP
  unfold F_X6_sum at h
  refine g_iload_n dX6_sum_0 rfl ?_
  refine g_iconst (v := (nI 1)) dX6_sum_1 (by decide) ?_
  refine g_ic_le (t := 10) dX6_sum_2 (by decide) (fun c1 => ?_) (fun c1 => ?_)
  · rw [if_pos c1] at h
    refine g_aload_n dX6_sum_10 rfl ?_
    refine g_iload_n dX6_sum_11 rfl ?_
    refine g_iconst (v := (nI 1)) dX6_sum_12 (by decide) ?_
    refine g_iadd dX6_sum_13 ?_
    obtain ⟨K2, eK2, h⟩ := bs h
    refine q_virt (Z := MX6_sum) (c := (RX6, TX6, 10)) (toV_s eK2) dX6_sum_14 mX6_96.1 mX6_96.2 (Nat.le_of_ble_eq_true rfl) rfl rfl (Nat.le_of_ble_eq_true rfl) (Nat.le_of_ble_eq_true rfl) rfl rfl ?_
    show Go O (d + 1) MX6_sum 17 [some (.ref a0), some (.int a1), none, none, none, none] [] K2 P
    refine g_iload_n dX6_sum_17 rfl ?_
    have hj : Go O (d + 1) MX6_sum 27 [some (.ref a0), some (.int a1), none, none, none, none] [.int (if a1 = 0 then (nI 5) else (nI 7))] K2 P := by
      refine g_istore_n (ls' := [some (.ref a0), some (.int a1), some (.int (if a1 = 0 then (nI 5) else (nI 7))), none, none, none]) dX6_sum_27 (by decide) rfl ?_
      refine g_iload_n dX6_sum_28 rfl ?_
      have hj : Go O (d + 1) MX6_sum 39 [some (.ref a0), some (.int a1), some (.int (if a1 = 0 then (nI 5) else (nI 7))), none, none, none] [.int (if a1 = 0 then (nI 6) else (nI 9))] K2 P := by
        refine g_istore_n (ls' := [some (.ref a0), some (.int a1), some (.int (if a1 = 0 then (nI 5) else (nI 7))), some (.int (if a1 = 0 then (nI 6) else (nI 9))), none, none]) dX6_sum_39 (by decide) rfl ?_
        refine g_iconst (v := (nI 0)) dX6_sum_40 (by decide) ?_
        refine g_istore (ls' := [some (.ref a0), some (.int a1), some (.int (if a1 = 0 then (nI 5) else (nI 7))), some (.int (if a1 = 0 then (nI 6) else (nI 9))), some (.int (nI 0)), none]) dX6_sum_41 (by decide) rfl ?_
        obtain ⟨r19, er19, h⟩ := bs h
        have hx : Go O (d + 1) MX6_sum 114 [none, none, none, none, none, none] [] r19 P := by
          exact g_return dX6_sum_114 rfl (hret _ (Option.some.inj h))
        refine Go_le ?_ (e_X6_sum_l43 (fun q e => by cases e; exact hx) FU ((nI 0), K2) er19)
        exact And.intro rfl (And.intro rfl (And.intro rfl (And.intro rfl (And.intro rfl (trivial)))))
      refine g_if_ne (t := 37) dX6_sum_29 (by decide) (fun c4 => ?_) (fun c4 => ?_)
      · skip
        refine g_bipush (v := (nI 9)) dX6_sum_37 (by decide) ?_
        have hk : Go O (d + 1) MX6_sum 39 [some (.ref a0), some (.int a1), some (.int (if a1 = 0 then (nI 5) else (nI 7))), none, none, none] [.int (nI 9)] K2 P := by simpa only [if_neg c4] using hj
        refine Go_le ?_ hk
        exact And.intro rfl (And.intro rfl (And.intro rfl (trivial)))
      · skip
        refine g_bipush (v := (nI 6)) dX6_sum_32 (by decide) ?_
        refine g_goto (t := 39) dX6_sum_34 (by decide) ?_
        have hk : Go O (d + 1) MX6_sum 39 [some (.ref a0), some (.int a1), some (.int (if a1 = 0 then (nI 5) else (nI 7))), none, none, none] [.int (nI 6)] K2 P := by simpa only [if_pos c4] using hj
        refine Go_le ?_ hk
        exact And.intro rfl (And.intro rfl (And.intro rfl (trivial)))
    refine g_if_ne (t := 25) dX6_sum_18 (by decide) (fun c3 => ?_) (fun c3 => ?_)
    · skip
      refine g_bipush (v := (nI 7)) dX6_sum_25 (by decide) ?_
      have hk : Go O (d + 1) MX6_sum 27 [some (.ref a0), some (.int a1), none, none, none, none] [.int (nI 7)] K2 P := by simpa only [if_neg c3] using hj
      refine Go_le ?_ hk
      exact And.intro rfl (And.intro rfl (trivial))
    · skip
      refine g_iconst (v := (nI 5)) dX6_sum_21 (by decide) ?_
      refine g_goto (t := 27) dX6_sum_22 (by decide) ?_
      have hk : Go O (d + 1) MX6_sum 27 [some (.ref a0), some (.int a1), none, none, none, none] [.int (nI 5)] K2 P := by simpa only [if_pos c3] using hj
      refine Go_le ?_ hk
      exact And.intro rfl (And.intro rfl (trivial))
  · rw [if_neg c1] at h
    refine g_aload_n dX6_sum_5 rfl ?_
    obtain ⟨K20, eK20, h⟩ := bs h
    refine q_virt (Z := MX6_part) (c := (RX6, TX6, 10)) (toV_s eK20) dX6_sum_6 mX6_120.1 mX6_120.2 (Nat.le_of_ble_eq_true rfl) rfl rfl (Nat.le_of_ble_eq_true rfl) (Nat.le_of_ble_eq_true rfl) rfl rfl ?_
    show Go O (d + 1) MX6_sum 9 [some (.ref a0), some (.int a1), none, none, none, none] [] K20 P
    exact g_return dX6_sum_9 rfl (hret _ (Option.some.inj h))
noncomputable def F_X6_part_j317 (O : mO) (d : Nat) (v0 : Nat) (K : mH) : Option (mH) :=
  (toV (vc O d 6 MX6_take v0 [.int (-1)] K)).bind fun K26 =>
  some K26
theorem e_X6_part_j317 {O : mO} {d : Nat} {v0 : Nat} {K : mH} {P : Option Value → mH → Prop} {x : mH} (hret : ∀ K' : mH, K' = x → P none K') (h : F_X6_part_j317 O d v0 K = some x) : Go O (d + 1) MX6_part 317 [some (.ref v0), none, none, none] [] K P := by
  unfold F_X6_part_j317 at h
  refine g_aload_n dX6_part_317 rfl ?_
  refine g_iconst (v := (-1)) dX6_part_318 (by decide) ?_
  obtain ⟨K26, eK26, h⟩ := bs h
  refine q_virt (Z := MX6_take) (c := (RX6, TX6, 10)) (toV_s eK26) dX6_part_319 mX6_69.1 mX6_69.2 (Nat.le_of_ble_eq_true rfl) rfl rfl (Nat.le_of_ble_eq_true rfl) (Nat.le_of_ble_eq_true rfl) rfl rfl ?_
  show Go O (d + 1) MX6_part 322 [some (.ref v0), none, none, none] [] K26 P
  exact g_return dX6_part_322 rfl (hret _ (Option.some.inj h))
noncomputable def F_X6_part_j311 (O : mO) (d : Nat) (w0 : Int32) (w1 : Nat) (K : mH) : Option (mH) :=
  (toV (vc O d 6 MX6_take w1 [.int w0] K)).bind fun K37 =>
  some K37
theorem e_X6_part_j311 {O : mO} {d : Nat} {w0 : Int32} {w1 : Nat} {K : mH} {P : Option Value → mH → Prop} {x : mH} (hret : ∀ K' : mH, K' = x → P none K') (h : F_X6_part_j311 O d w0 w1 K = some x) : Go O (d + 1) MX6_part 311 [none, none, none, none] [.int w0, .ref w1] K P := by
  unfold F_X6_part_j311 at h
  obtain ⟨K37, eK37, h⟩ := bs h
  refine q_virt (Z := MX6_take) (c := (RX6, TX6, 10)) (toV_s eK37) dX6_part_311 mX6_69.1 mX6_69.2 (Nat.le_of_ble_eq_true rfl) rfl rfl (Nat.le_of_ble_eq_true rfl) (Nat.le_of_ble_eq_true rfl) rfl rfl ?_
  show Go O (d + 1) MX6_part 314 [none, none, none, none] [] K37 P
  refine g_goto (t := 322) dX6_part_314 (by decide) ?_
  exact g_return dX6_part_322 rfl (hret _ (Option.some.inj h))
noncomputable def F_X6_part_j254 (O : mO) (d : Nat) (v0 : Nat) (K : mH) : Option (mH) :=
  (gtI K v0 6 9).bind fun x23 =>
  if x23 = 0 then
    F_X6_part_j317 O d v0 K
  else
    (gtI K v0 6 5).bind fun x27 =>
    if x27 = (nI 2021) then
      (toV (vc O d 6 MX6_take v0 [.int (nI 2021)] K)).bind fun K30 =>
      (gtA K30 v0 6 0).bind fun x31 =>
      (gtI K30 v0 6 5).bind fun x32 =>
      (toI (vc O d 5 MX5_add x31 [.int (nI 1), .int ((nI 12) + x32)] K30)).bind fun p33 =>
      (gtI p33.2 v0 6 5).bind fun x34 =>
      if (nI 4) ≤ x34 then
        F_X6_part_j311 O d (-1) v0 p33.2
      else
        (gtI p33.2 v0 6 5).bind fun x38 =>
        F_X6_part_j311 O d x38 v0 p33.2
    else
      F_X6_part_j317 O d v0 K
theorem e_X6_part_j254 {O : mO} {d : Nat} {v0 : Nat} {K : mH} {P : Option Value → mH → Prop} {x : mH} (hret : ∀ K' : mH, K' = x → P none K') (h : F_X6_part_j254 O d v0 K = some x) : Go O (d + 1) MX6_part 254 [some (.ref v0), none, none, none] [] K P := by
  unfold F_X6_part_j254 at h
  refine g_aload_n dX6_part_254 rfl ?_
  obtain ⟨x23, ex23, h⟩ := bs h
  refine q_getI dX6_part_255 fX6_46 ex23 ?_
  refine g_if_eq (t := 317) dX6_part_258 (by decide) (fun c25 => ?_) (fun c25 => ?_)
  · rw [if_pos c25] at h
    refine Go_le ?_ (e_X6_part_j317 hret h)
    exact And.intro rfl (trivial)
  · rw [if_neg c25] at h
    refine g_aload_n dX6_part_261 rfl ?_
    obtain ⟨x27, ex27, h⟩ := bs h
    refine q_getI dX6_part_262 fX6_34 ex27 ?_
    refine g_sipush (v := (nI 2021)) dX6_part_265 (by decide) ?_
    refine g_ic_ne (t := 317) dX6_part_268 (by decide) (fun c29 => ?_) (fun c29 => ?_)
    · rw [if_neg c29] at h
      refine Go_le ?_ (e_X6_part_j317 hret h)
      exact And.intro rfl (trivial)
    · rw [if_pos c29] at h
      refine g_aload_n dX6_part_271 rfl ?_
      refine g_sipush (v := (nI 2021)) dX6_part_272 (by decide) ?_
      obtain ⟨K30, eK30, h⟩ := bs h
      refine q_virt (Z := MX6_take) (c := (RX6, TX6, 10)) (toV_s eK30) dX6_part_275 mX6_69.1 mX6_69.2 (Nat.le_of_ble_eq_true rfl) rfl rfl (Nat.le_of_ble_eq_true rfl) (Nat.le_of_ble_eq_true rfl) rfl rfl ?_
      show Go O (d + 1) MX6_part 278 [some (.ref v0), none, none, none] [] K30 P
      refine g_aload_n dX6_part_278 rfl ?_
      obtain ⟨x31, ex31, h⟩ := bs h
      refine q_getA dX6_part_279 fX6_16 ex31 ?_
      refine g_iconst (v := (nI 1)) dX6_part_282 (by decide) ?_
      refine g_bipush (v := (nI 12)) dX6_part_283 (by decide) ?_
      refine g_aload_n dX6_part_285 rfl ?_
      obtain ⟨x32, ex32, h⟩ := bs h
      refine q_getI dX6_part_286 fX6_34 ex32 ?_
      refine g_iadd dX6_part_289 ?_
      obtain ⟨p33, ep33, h⟩ := bs h
      refine q_virt (Z := MX5_add) (c := (RX5, TX5, 4)) (toI_s ep33) dX6_part_290 mX6_111.1 mX6_111.2 (Nat.le_of_ble_eq_true rfl) rfl rfl (Nat.le_of_ble_eq_true rfl) (Nat.le_of_ble_eq_true rfl) rfl rfl ?_
      show Go O (d + 1) MX6_part 293 [some (.ref v0), none, none, none] [.int p33.1] p33.2 P
      refine g_pop dX6_part_293 (by first | rfl | exact vrf_cat _) ?_
      refine g_aload_n dX6_part_294 rfl ?_
      refine g_aload_n dX6_part_295 rfl ?_
      obtain ⟨x34, ex34, h⟩ := bs h
      refine q_getI dX6_part_296 fX6_34 ex34 ?_
      refine g_iconst (v := (nI 4)) dX6_part_299 (by decide) ?_
      refine g_ic_ge (t := 310) dX6_part_300 (by decide) (fun c36 => ?_) (fun c36 => ?_)
      · rw [if_pos c36] at h
        refine g_iconst (v := (-1)) dX6_part_310 (by decide) ?_
        refine Go_le ?_ (e_X6_part_j311 hret h)
        exact trivial
      · rw [if_neg c36] at h
        refine g_aload_n dX6_part_303 rfl ?_
        obtain ⟨x38, ex38, h⟩ := bs h
        refine q_getI dX6_part_304 fX6_34 ex38 ?_
        refine g_goto (t := 311) dX6_part_307 (by decide) ?_
        refine Go_le ?_ (e_X6_part_j311 hret h)
        exact trivial
noncomputable def F_X6_part_j248 (O : mO) (d : Nat) (w0 : Int32) (w1 : Nat) (K : mH) : Option (mH) :=
  (toV (vc O d 6 MX6_take w1 [.int w0] K)).bind fun K49 =>
  some K49
theorem e_X6_part_j248 {O : mO} {d : Nat} {w0 : Int32} {w1 : Nat} {K : mH} {P : Option Value → mH → Prop} {x : mH} (hret : ∀ K' : mH, K' = x → P none K') (h : F_X6_part_j248 O d w0 w1 K = some x) : Go O (d + 1) MX6_part 248 [none, none, none, none] [.int w0, .ref w1] K P := by
  unfold F_X6_part_j248 at h
  obtain ⟨K49, eK49, h⟩ := bs h
  refine q_virt (Z := MX6_take) (c := (RX6, TX6, 10)) (toV_s eK49) dX6_part_248 mX6_69.1 mX6_69.2 (Nat.le_of_ble_eq_true rfl) rfl rfl (Nat.le_of_ble_eq_true rfl) (Nat.le_of_ble_eq_true rfl) rfl rfl ?_
  show Go O (d + 1) MX6_part 251 [none, none, none, none] [] K49 P
  refine g_goto (t := 322) dX6_part_251 (by decide) ?_
  exact g_return dX6_part_322 rfl (hret _ (Option.some.inj h))
noncomputable def F_X6_part_j191 (O : mO) (d : Nat) (v0 : Nat) (K : mH) : Option (mH) :=
  (gtI K v0 6 9).bind fun x20 =>
  if x20 = 0 then
    F_X6_part_j254 O d v0 K
  else
    (gtI K v0 6 5).bind fun x39 =>
    if x39 = (nI 2020) then
      (toV (vc O d 6 MX6_take v0 [.int (nI 2020)] K)).bind fun K42 =>
      (gtA K42 v0 6 0).bind fun x43 =>
      (gtI K42 v0 6 5).bind fun x44 =>
      (toI (vc O d 5 MX5_add x43 [.int (nI 1), .int ((nI 4) + x44)] K42)).bind fun p45 =>
      (gtI p45.2 v0 6 5).bind fun x46 =>
      if (nI 8) ≤ x46 then
        F_X6_part_j248 O d (-1) v0 p45.2
      else
        (gtI p45.2 v0 6 5).bind fun x50 =>
        F_X6_part_j248 O d x50 v0 p45.2
    else
      F_X6_part_j254 O d v0 K
theorem e_X6_part_j191 {O : mO} {d : Nat} {v0 : Nat} {K : mH} {P : Option Value → mH → Prop} {x : mH} (hret : ∀ K' : mH, K' = x → P none K') (h : F_X6_part_j191 O d v0 K = some x) : Go O (d + 1) MX6_part 191 [some (.ref v0), none, none, none] [] K P := by
  unfold F_X6_part_j191 at h
  refine g_aload_n dX6_part_191 rfl ?_
  obtain ⟨x20, ex20, h⟩ := bs h
  refine q_getI dX6_part_192 fX6_46 ex20 ?_
  refine g_if_eq (t := 254) dX6_part_195 (by decide) (fun c22 => ?_) (fun c22 => ?_)
  · rw [if_pos c22] at h
    refine Go_le ?_ (e_X6_part_j254 hret h)
    exact And.intro rfl (trivial)
  · rw [if_neg c22] at h
    refine g_aload_n dX6_part_198 rfl ?_
    obtain ⟨x39, ex39, h⟩ := bs h
    refine q_getI dX6_part_199 fX6_34 ex39 ?_
    refine g_sipush (v := (nI 2020)) dX6_part_202 (by decide) ?_
    refine g_ic_ne (t := 254) dX6_part_205 (by decide) (fun c41 => ?_) (fun c41 => ?_)
    · rw [if_neg c41] at h
      refine Go_le ?_ (e_X6_part_j254 hret h)
      exact And.intro rfl (trivial)
    · rw [if_pos c41] at h
      refine g_aload_n dX6_part_208 rfl ?_
      refine g_sipush (v := (nI 2020)) dX6_part_209 (by decide) ?_
      obtain ⟨K42, eK42, h⟩ := bs h
      refine q_virt (Z := MX6_take) (c := (RX6, TX6, 10)) (toV_s eK42) dX6_part_212 mX6_69.1 mX6_69.2 (Nat.le_of_ble_eq_true rfl) rfl rfl (Nat.le_of_ble_eq_true rfl) (Nat.le_of_ble_eq_true rfl) rfl rfl ?_
      show Go O (d + 1) MX6_part 215 [some (.ref v0), none, none, none] [] K42 P
      refine g_aload_n dX6_part_215 rfl ?_
      obtain ⟨x43, ex43, h⟩ := bs h
      refine q_getA dX6_part_216 fX6_16 ex43 ?_
      refine g_iconst (v := (nI 1)) dX6_part_219 (by decide) ?_
      refine g_iconst (v := (nI 4)) dX6_part_220 (by decide) ?_
      refine g_aload_n dX6_part_221 rfl ?_
      obtain ⟨x44, ex44, h⟩ := bs h
      refine q_getI dX6_part_222 fX6_34 ex44 ?_
      refine g_iadd dX6_part_225 ?_
      obtain ⟨p45, ep45, h⟩ := bs h
      refine q_virt (Z := MX5_add) (c := (RX5, TX5, 4)) (toI_s ep45) dX6_part_226 mX6_111.1 mX6_111.2 (Nat.le_of_ble_eq_true rfl) rfl rfl (Nat.le_of_ble_eq_true rfl) (Nat.le_of_ble_eq_true rfl) rfl rfl ?_
      show Go O (d + 1) MX6_part 229 [some (.ref v0), none, none, none] [.int p45.1] p45.2 P
      refine g_pop dX6_part_229 (by first | rfl | exact vrf_cat _) ?_
      refine g_aload_n dX6_part_230 rfl ?_
      refine g_aload_n dX6_part_231 rfl ?_
      obtain ⟨x46, ex46, h⟩ := bs h
      refine q_getI dX6_part_232 fX6_34 ex46 ?_
      refine g_bipush (v := (nI 8)) dX6_part_235 (by decide) ?_
      refine g_ic_ge (t := 247) dX6_part_237 (by decide) (fun c48 => ?_) (fun c48 => ?_)
      · rw [if_pos c48] at h
        refine g_iconst (v := (-1)) dX6_part_247 (by decide) ?_
        refine Go_le ?_ (e_X6_part_j248 hret h)
        exact trivial
      · rw [if_neg c48] at h
        refine g_aload_n dX6_part_240 rfl ?_
        obtain ⟨x50, ex50, h⟩ := bs h
        refine q_getI dX6_part_241 fX6_34 ex50 ?_
        refine g_goto (t := 248) dX6_part_244 (by decide) ?_
        refine Go_le ?_ (e_X6_part_j248 hret h)
        exact trivial
noncomputable def F_X6_part_j99 (O : mO) (d : Nat) (v0 : Nat) (v1 : Int32) (v2 : Int32) (v3 : Int32) (K : mH) : Option (mH) :=
  (gtI K v0 6 7).bind fun x8 =>
  if x8 < (nI 50) then
    (gtI K v0 6 7).bind fun x10 =>
    (ptI K v0 6 7 (x10 + (nI 1))).bind fun K11 =>
    (gtI K11 v0 6 5).bind fun x12 =>
    if (nI 1000) < x12 then
      if v1 < v2 then
        F_X6_part_j191 O d v0 K11
      else
        if v3 < v1 then
          F_X6_part_j191 O d v0 K11
        else
          (gtA K11 v0 6 0).bind fun x53 =>
          (toI (vc O d 5 MX5_add x53 [.int (nI 1), .int (v1 - v2)] K11)).bind fun p54 =>
          (gtI p54.2 v0 6 5).bind fun x55 =>
          (toV (vc O d 6 MX6_take v0 [.int x55] p54.2)).bind fun K56 =>
          some K56
    else
      (gtA K11 v0 6 0).bind fun x57 =>
      (gtI K11 v0 6 5).bind fun x58 =>
      (toI (vc O d 5 MX5_add x57 [.int (nI 0), .int x58] K11)).bind fun p59 =>
      (gtI p59.2 v0 6 5).bind fun x60 =>
      (toV (vc O d 6 MX6_take v0 [.int x60] p59.2)).bind fun K61 =>
      some K61
  else
    (toV (vc O d 6 MX6_take v0 [.int (-1)] K)).bind fun K62 =>
    some K62
theorem e_X6_part_j99 {O : mO} {d : Nat} {v0 : Nat} {v1 : Int32} {v2 : Int32} {v3 : Int32} {K : mH} {P : Option Value → mH → Prop} {x : mH} (hret : ∀ K' : mH, K' = x → P none K') (h : F_X6_part_j99 O d v0 v1 v2 v3 K = some x) : Go O (d + 1) MX6_part 99 [some (.ref v0), some (.int v1), some (.int v2), some (.int v3)] [] K P := by
  unfold F_X6_part_j99 at h
  refine g_aload_n dX6_part_99 rfl ?_
  obtain ⟨x8, ex8, h⟩ := bs h
  refine q_getI dX6_part_100 fX6_40 ex8 ?_
  refine g_bipush (v := (nI 50)) dX6_part_103 (by decide) ?_
  refine g_ic_lt (t := 114) dX6_part_105 (by decide) (fun c9 => ?_) (fun c9 => ?_)
  · rw [if_pos c9] at h
    refine g_aload_n dX6_part_114 rfl ?_
    refine g_dup dX6_part_115 (by first | rfl | exact vrf_cat _) ?_
    obtain ⟨x10, ex10, h⟩ := bs h
    refine q_getI dX6_part_116 fX6_40 ex10 ?_
    refine g_iconst (v := (nI 1)) dX6_part_119 (by decide) ?_
    refine g_iadd dX6_part_120 ?_
    obtain ⟨K11, eK11, h⟩ := bs h
    refine q_put (c := (RX6, TX6, 10)) dX6_part_121 fX6_40 rfl rfl rfl (fun h => absurd h (by decide)) eK11 ?_
    refine g_aload_n dX6_part_124 rfl ?_
    obtain ⟨x12, ex12, h⟩ := bs h
    refine q_getI dX6_part_125 fX6_34 ex12 ?_
    refine g_sipush (v := (nI 1000)) dX6_part_128 (by decide) ?_
    refine g_ic_gt (t := 158) dX6_part_131 (by decide) (fun c16 => ?_) (fun c16 => ?_)
    · rw [if_pos c16] at h
      refine g_iload_n dX6_part_158 rfl ?_
      refine g_iload_n dX6_part_159 rfl ?_
      refine g_ic_lt (t := 191) dX6_part_160 (by decide) (fun c19 => ?_) (fun c19 => ?_)
      · rw [if_pos c19] at h
        refine Go_le ?_ (e_X6_part_j191 hret h)
        exact And.intro rfl (trivial)
      · rw [if_neg c19] at h
        refine g_iload_n dX6_part_163 rfl ?_
        refine g_iload_n dX6_part_164 rfl ?_
        refine g_ic_gt (t := 191) dX6_part_165 (by decide) (fun c52 => ?_) (fun c52 => ?_)
        · rw [if_pos c52] at h
          refine Go_le ?_ (e_X6_part_j191 hret h)
          exact And.intro rfl (trivial)
        · rw [if_neg c52] at h
          refine g_aload_n dX6_part_168 rfl ?_
          obtain ⟨x53, ex53, h⟩ := bs h
          refine q_getA dX6_part_169 fX6_16 ex53 ?_
          refine g_iconst (v := (nI 1)) dX6_part_172 (by decide) ?_
          refine g_iload_n dX6_part_173 rfl ?_
          refine g_iload_n dX6_part_174 rfl ?_
          refine g_isub dX6_part_175 ?_
          obtain ⟨p54, ep54, h⟩ := bs h
          refine q_virt (Z := MX5_add) (c := (RX5, TX5, 4)) (toI_s ep54) dX6_part_176 mX6_111.1 mX6_111.2 (Nat.le_of_ble_eq_true rfl) rfl rfl (Nat.le_of_ble_eq_true rfl) (Nat.le_of_ble_eq_true rfl) rfl rfl ?_
          show Go O (d + 1) MX6_part 179 [some (.ref v0), some (.int v1), some (.int v2), some (.int v3)] [.int p54.1] p54.2 P
          refine g_pop dX6_part_179 (by first | rfl | exact vrf_cat _) ?_
          refine g_aload_n dX6_part_180 rfl ?_
          refine g_aload_n dX6_part_181 rfl ?_
          obtain ⟨x55, ex55, h⟩ := bs h
          refine q_getI dX6_part_182 fX6_34 ex55 ?_
          obtain ⟨K56, eK56, h⟩ := bs h
          refine q_virt (Z := MX6_take) (c := (RX6, TX6, 10)) (toV_s eK56) dX6_part_185 mX6_69.1 mX6_69.2 (Nat.le_of_ble_eq_true rfl) rfl rfl (Nat.le_of_ble_eq_true rfl) (Nat.le_of_ble_eq_true rfl) rfl rfl ?_
          show Go O (d + 1) MX6_part 188 [some (.ref v0), some (.int v1), some (.int v2), some (.int v3)] [] K56 P
          refine g_goto (t := 322) dX6_part_188 (by decide) ?_
          exact g_return dX6_part_322 rfl (hret _ (Option.some.inj h))
    · rw [if_neg c16] at h
      refine g_aload_n dX6_part_134 rfl ?_
      obtain ⟨x57, ex57, h⟩ := bs h
      refine q_getA dX6_part_135 fX6_16 ex57 ?_
      refine g_iconst (v := (nI 0)) dX6_part_138 (by decide) ?_
      refine g_aload_n dX6_part_139 rfl ?_
      obtain ⟨x58, ex58, h⟩ := bs h
      refine q_getI dX6_part_140 fX6_34 ex58 ?_
      obtain ⟨p59, ep59, h⟩ := bs h
      refine q_virt (Z := MX5_add) (c := (RX5, TX5, 4)) (toI_s ep59) dX6_part_143 mX6_111.1 mX6_111.2 (Nat.le_of_ble_eq_true rfl) rfl rfl (Nat.le_of_ble_eq_true rfl) (Nat.le_of_ble_eq_true rfl) rfl rfl ?_
      show Go O (d + 1) MX6_part 146 [some (.ref v0), some (.int v1), some (.int v2), some (.int v3)] [.int p59.1] p59.2 P
      refine g_pop dX6_part_146 (by first | rfl | exact vrf_cat _) ?_
      refine g_aload_n dX6_part_147 rfl ?_
      refine g_aload_n dX6_part_148 rfl ?_
      obtain ⟨x60, ex60, h⟩ := bs h
      refine q_getI dX6_part_149 fX6_34 ex60 ?_
      obtain ⟨K61, eK61, h⟩ := bs h
      refine q_virt (Z := MX6_take) (c := (RX6, TX6, 10)) (toV_s eK61) dX6_part_152 mX6_69.1 mX6_69.2 (Nat.le_of_ble_eq_true rfl) rfl rfl (Nat.le_of_ble_eq_true rfl) (Nat.le_of_ble_eq_true rfl) rfl rfl ?_
      show Go O (d + 1) MX6_part 155 [some (.ref v0), some (.int v1), some (.int v2), some (.int v3)] [] K61 P
      refine g_goto (t := 322) dX6_part_155 (by decide) ?_
      exact g_return dX6_part_322 rfl (hret _ (Option.some.inj h))
  · rw [if_neg c9] at h
    refine g_aload_n dX6_part_108 rfl ?_
    refine g_iconst (v := (-1)) dX6_part_109 (by decide) ?_
    obtain ⟨K62, eK62, h⟩ := bs h
    refine q_virt (Z := MX6_take) (c := (RX6, TX6, 10)) (toV_s eK62) dX6_part_110 mX6_69.1 mX6_69.2 (Nat.le_of_ble_eq_true rfl) rfl rfl (Nat.le_of_ble_eq_true rfl) (Nat.le_of_ble_eq_true rfl) rfl rfl ?_
    show Go O (d + 1) MX6_part 113 [some (.ref v0), some (.int v1), some (.int v2), some (.int v3)] [] K62 P
    exact g_return dX6_part_113 rfl (hret _ (Option.some.inj h))
noncomputable def F_X6_part (O : mO) (d : Nat) (a0 : Nat) (K : mH) : Option (mH) :=
  (gtI K a0 6 5).bind fun x1 =>
  (gtI K a0 6 9).bind fun x2 =>
  (gtI K a0 6 9).bind fun x4 =>
  (gtI K a0 6 5).bind fun x6 =>
  if x6 = (nI 3091) then
    (gtI K a0 6 8).bind fun x63 =>
    if (nI 8) ≤ x63 then
      F_X6_part_j99 O d a0 (x1 - (nI 2000)) (if x2 = 0 then (nI 14) else (nI 22)) (if x4 = 0 then (nI 22) else (nI 25)) K
    else
      (gtI K a0 6 8).bind fun x65 =>
      (ptI K a0 6 8 (x65 + (nI 1))).bind fun K66 =>
      (gtI K66 a0 6 5).bind fun x67 =>
      (toV (vc O d 6 MX6_take a0 [.int x67] K66)).bind fun K68 =>
      (toV (vc O d 6 MX6_sum a0 [.int (nI 0)] K68)).bind fun K69 =>
      (toV (vc O d 6 MX6_take a0 [.int (nI 3093)] K69)).bind fun K70 =>
      (gtI K70 a0 6 8).bind fun x71 =>
      (ptI K70 a0 6 8 (x71 - (nI 1))).bind fun K72 =>
      some K72
  else
    F_X6_part_j99 O d a0 (x1 - (nI 2000)) (if x2 = 0 then (nI 14) else (nI 22)) (if x4 = 0 then (nI 22) else (nI 25)) K
theorem e_X6_part {O : mO} {d : Nat} {a0 : Nat} {K : mH} {x : mH} (h : F_X6_part O d a0 K = some x) : ev O (d + 1) MX6_part [.ref a0] K = some (none, x) := by
  refine Rn_evx ?_
  show Go O (d + 1) MX6_part 0 [some (.ref a0), none, none, none] [] K _
  generalize hP : (fun (r : Option Value) (K' : mH) => (r, K') = (none, x)) = P
  have hret : ∀ K' : mH, K' = x → P none K' := by
    intro K' e
    subst hP e
    rfl
  clear hP
  unfold F_X6_part at h
  refine g_aload_n dX6_part_0 rfl ?_
  obtain ⟨x1, ex1, h⟩ := bs h
  refine q_getI dX6_part_1 fX6_34 ex1 ?_
  refine g_sipush (v := (nI 2000)) dX6_part_4 (by decide) ?_
  refine g_isub dX6_part_7 ?_
  refine g_istore_n (ls' := [some (.ref a0), some (.int (x1 - (nI 2000))), none, none]) dX6_part_8 (by decide) rfl ?_
  refine g_aload_n dX6_part_9 rfl ?_
  obtain ⟨x2, ex2, h⟩ := bs h
  refine q_getI dX6_part_10 fX6_46 ex2 ?_
  have hj : Go O (d + 1) MX6_part 23 [some (.ref a0), some (.int (x1 - (nI 2000))), none, none] [.int (if x2 = 0 then (nI 14) else (nI 22))] K P := by
    refine g_istore_n (ls' := [some (.ref a0), some (.int (x1 - (nI 2000))), some (.int (if x2 = 0 then (nI 14) else (nI 22))), none]) dX6_part_23 (by decide) rfl ?_
    refine g_aload_n dX6_part_24 rfl ?_
    obtain ⟨x4, ex4, h⟩ := bs h
    refine q_getI dX6_part_25 fX6_46 ex4 ?_
    have hj : Go O (d + 1) MX6_part 38 [some (.ref a0), some (.int (x1 - (nI 2000))), some (.int (if x2 = 0 then (nI 14) else (nI 22))), none] [.int (if x4 = 0 then (nI 22) else (nI 25))] K P := by
      refine g_istore_n (ls' := [some (.ref a0), some (.int (x1 - (nI 2000))), some (.int (if x2 = 0 then (nI 14) else (nI 22))), some (.int (if x4 = 0 then (nI 22) else (nI 25)))]) dX6_part_38 (by decide) rfl ?_
      refine g_aload_n dX6_part_39 rfl ?_
      obtain ⟨x6, ex6, h⟩ := bs h
      refine q_getI dX6_part_40 fX6_34 ex6 ?_
      refine g_sipush (v := (nI 3091)) dX6_part_43 (by decide) ?_
      refine g_ic_ne (t := 99) dX6_part_46 (by decide) (fun c7 => ?_) (fun c7 => ?_)
      · rw [if_neg c7] at h
        refine Go_le ?_ (e_X6_part_j99 hret h)
        exact And.intro rfl (And.intro rfl (And.intro rfl (And.intro rfl (trivial))))
      · rw [if_pos c7] at h
        refine g_aload_n dX6_part_49 rfl ?_
        obtain ⟨x63, ex63, h⟩ := bs h
        refine q_getI dX6_part_50 fX6_43 ex63 ?_
        refine g_bipush (v := (nI 8)) dX6_part_53 (by decide) ?_
        refine g_ic_ge (t := 99) dX6_part_55 (by decide) (fun c64 => ?_) (fun c64 => ?_)
        · rw [if_pos c64] at h
          refine Go_le ?_ (e_X6_part_j99 hret h)
          exact And.intro rfl (And.intro rfl (And.intro rfl (And.intro rfl (trivial))))
        · rw [if_neg c64] at h
          refine g_aload_n dX6_part_58 rfl ?_
          refine g_dup dX6_part_59 (by first | rfl | exact vrf_cat _) ?_
          obtain ⟨x65, ex65, h⟩ := bs h
          refine q_getI dX6_part_60 fX6_43 ex65 ?_
          refine g_iconst (v := (nI 1)) dX6_part_63 (by decide) ?_
          refine g_iadd dX6_part_64 ?_
          obtain ⟨K66, eK66, h⟩ := bs h
          refine q_put (c := (RX6, TX6, 10)) dX6_part_65 fX6_43 rfl rfl rfl (fun h => absurd h (by decide)) eK66 ?_
          refine g_aload_n dX6_part_68 rfl ?_
          refine g_aload_n dX6_part_69 rfl ?_
          obtain ⟨x67, ex67, h⟩ := bs h
          refine q_getI dX6_part_70 fX6_34 ex67 ?_
          obtain ⟨K68, eK68, h⟩ := bs h
          refine q_virt (Z := MX6_take) (c := (RX6, TX6, 10)) (toV_s eK68) dX6_part_73 mX6_69.1 mX6_69.2 (Nat.le_of_ble_eq_true rfl) rfl rfl (Nat.le_of_ble_eq_true rfl) (Nat.le_of_ble_eq_true rfl) rfl rfl ?_
          show Go O (d + 1) MX6_part 76 [some (.ref a0), some (.int (x1 - (nI 2000))), some (.int (if x2 = 0 then (nI 14) else (nI 22))), some (.int (if x4 = 0 then (nI 22) else (nI 25)))] [] K68 P
          refine g_aload_n dX6_part_76 rfl ?_
          refine g_iconst (v := (nI 0)) dX6_part_77 (by decide) ?_
          obtain ⟨K69, eK69, h⟩ := bs h
          refine q_virt (Z := MX6_sum) (c := (RX6, TX6, 10)) (toV_s eK69) dX6_part_78 mX6_96.1 mX6_96.2 (Nat.le_of_ble_eq_true rfl) rfl rfl (Nat.le_of_ble_eq_true rfl) (Nat.le_of_ble_eq_true rfl) rfl rfl ?_
          show Go O (d + 1) MX6_part 81 [some (.ref a0), some (.int (x1 - (nI 2000))), some (.int (if x2 = 0 then (nI 14) else (nI 22))), some (.int (if x4 = 0 then (nI 22) else (nI 25)))] [] K69 P
          refine g_aload_n dX6_part_81 rfl ?_
          refine g_sipush (v := (nI 3093)) dX6_part_82 (by decide) ?_
          obtain ⟨K70, eK70, h⟩ := bs h
          refine q_virt (Z := MX6_take) (c := (RX6, TX6, 10)) (toV_s eK70) dX6_part_85 mX6_69.1 mX6_69.2 (Nat.le_of_ble_eq_true rfl) rfl rfl (Nat.le_of_ble_eq_true rfl) (Nat.le_of_ble_eq_true rfl) rfl rfl ?_
          show Go O (d + 1) MX6_part 88 [some (.ref a0), some (.int (x1 - (nI 2000))), some (.int (if x2 = 0 then (nI 14) else (nI 22))), some (.int (if x4 = 0 then (nI 22) else (nI 25)))] [] K70 P
          refine g_aload_n dX6_part_88 rfl ?_
          refine g_dup dX6_part_89 (by first | rfl | exact vrf_cat _) ?_
          obtain ⟨x71, ex71, h⟩ := bs h
          refine q_getI dX6_part_90 fX6_43 ex71 ?_
          refine g_iconst (v := (nI 1)) dX6_part_93 (by decide) ?_
          refine g_isub dX6_part_94 ?_
          obtain ⟨K72, eK72, h⟩ := bs h
          refine q_put (c := (RX6, TX6, 10)) dX6_part_95 fX6_43 rfl rfl rfl (fun h => absurd h (by decide)) eK72 ?_
          exact g_return dX6_part_98 rfl (hret _ (Option.some.inj h))
    refine g_if_eq (t := 36) dX6_part_28 (by decide) (fun c5 => ?_) (fun c5 => ?_)
    · skip
      refine g_bipush (v := (nI 22)) dX6_part_36 (by decide) ?_
      have hk : Go O (d + 1) MX6_part 38 [some (.ref a0), some (.int (x1 - (nI 2000))), some (.int (if x2 = 0 then (nI 14) else (nI 22))), none] [.int (nI 22)] K P := by simpa only [if_pos c5] using hj
      refine Go_le ?_ hk
      exact And.intro rfl (And.intro rfl (And.intro rfl (trivial)))
    · skip
      refine g_bipush (v := (nI 25)) dX6_part_31 (by decide) ?_
      refine g_goto (t := 38) dX6_part_33 (by decide) ?_
      have hk : Go O (d + 1) MX6_part 38 [some (.ref a0), some (.int (x1 - (nI 2000))), some (.int (if x2 = 0 then (nI 14) else (nI 22))), none] [.int (nI 25)] K P := by simpa only [if_neg c5] using hj
      refine Go_le ?_ hk
      exact And.intro rfl (And.intro rfl (And.intro rfl (trivial)))
  refine g_if_eq (t := 21) dX6_part_13 (by decide) (fun c3 => ?_) (fun c3 => ?_)
  · skip
    refine g_bipush (v := (nI 14)) dX6_part_21 (by decide) ?_
    have hk : Go O (d + 1) MX6_part 23 [some (.ref a0), some (.int (x1 - (nI 2000))), none, none] [.int (nI 14)] K P := by simpa only [if_pos c3] using hj
    refine Go_le ?_ hk
    exact And.intro rfl (And.intro rfl (trivial))
  · skip
    refine g_bipush (v := (nI 22)) dX6_part_16 (by decide) ?_
    refine g_goto (t := 23) dX6_part_18 (by decide) ?_
    have hk : Go O (d + 1) MX6_part 23 [some (.ref a0), some (.int (x1 - (nI 2000))), none, none] [.int (nI 22)] K P := by simpa only [if_neg c3] using hj
    refine Go_le ?_ hk
    exact And.intro rfl (And.intro rfl (trivial))
noncomputable def F_X6_stepOf (O : mO) (d : Nat) (a0 : Int32) (K : mH) : Option (Int32 × mH) :=
  if (a0 - (nI 3000)) = nI 37 then
    some ((nI 9), K)
  else if (a0 - (nI 3000)) = nI 42 then
    some ((nI 7), K)
  else if (a0 - (nI 3000)) = nI 43 then
    some ((nI 5), K)
  else if (a0 - (nI 3000)) = nI 45 then
    some ((nI 6), K)
  else if (a0 - (nI 3000)) = nI 47 then
    some ((nI 8), K)
  else if (a0 - (nI 3000)) = nI 60 then
    some ((nI 10), K)
  else if (a0 - (nI 3000)) = nI 61 then
    some ((nI 12), K)
  else if (a0 - (nI 3000)) = nI 62 then
    some ((nI 11), K)
  else 
    some ((-1), K)
theorem e_X6_stepOf {O : mO} {d : Nat} {a0 : Int32} {K : mH} {r0 : Int32} {K0 : mH} (h : F_X6_stepOf O d a0 K = some (r0, K0)) : ev O (d + 1) MX6_stepOf [.int a0] K = some (some (.int r0), K0) := by
  refine Rn_evx ?_
  show Go O (d + 1) MX6_stepOf 0 [some (.int a0)] [] K _
  generalize hP : (fun (r : Option Value) (K' : mH) => (r, K') = (some (.int r0), K0)) = P
  have hret : ∀ (r : Int32) (K' : mH), (r, K') = (r0, K0) → P (some (.int r)) K' := by
    intro r K' e
    cases e
    subst hP
    rfl
  clear hP
  unfold F_X6_stepOf at h
  refine g_iload_n dX6_stepOf_0 rfl ?_
  refine g_sipush (v := (nI 3000)) dX6_stepOf_1 (by decide) ?_
  refine g_isub dX6_stepOf_4 ?_
  by_cases c1 : (a0 - (nI 3000)) = nI 37
  · rw [if_pos c1] at h
    refine g_tsI (t := 135) (off := 130) dX6_stepOf_5 (by rw [c1]; decide) (by rw [c1]; decide) (by decide) ?_
    refine g_bipush (v := (nI 9)) dX6_stepOf_135 (by decide) ?_
    exact g_ireturn dX6_stepOf_137 rfl (by first | rfl | decide) (hret _ _ (Option.some.inj h))
  rw [if_neg c1] at h
  by_cases c2 : (a0 - (nI 3000)) = nI 42
  · rw [if_pos c2] at h
    refine g_tsI (t := 129) (off := 124) dX6_stepOf_5 (by rw [c2]; decide) (by rw [c2]; decide) (by decide) ?_
    refine g_bipush (v := (nI 7)) dX6_stepOf_129 (by decide) ?_
    exact g_ireturn dX6_stepOf_131 rfl (by first | rfl | decide) (hret _ _ (Option.some.inj h))
  rw [if_neg c2] at h
  by_cases c3 : (a0 - (nI 3000)) = nI 43
  · rw [if_pos c3] at h
    refine g_tsI (t := 124) (off := 119) dX6_stepOf_5 (by rw [c3]; decide) (by rw [c3]; decide) (by decide) ?_
    refine g_iconst (v := (nI 5)) dX6_stepOf_124 (by decide) ?_
    exact g_ireturn dX6_stepOf_125 rfl (by first | rfl | decide) (hret _ _ (Option.some.inj h))
  rw [if_neg c3] at h
  by_cases c4 : (a0 - (nI 3000)) = nI 45
  · rw [if_pos c4] at h
    refine g_tsI (t := 126) (off := 121) dX6_stepOf_5 (by rw [c4]; decide) (by rw [c4]; decide) (by decide) ?_
    refine g_bipush (v := (nI 6)) dX6_stepOf_126 (by decide) ?_
    exact g_ireturn dX6_stepOf_128 rfl (by first | rfl | decide) (hret _ _ (Option.some.inj h))
  rw [if_neg c4] at h
  by_cases c5 : (a0 - (nI 3000)) = nI 47
  · rw [if_pos c5] at h
    refine g_tsI (t := 132) (off := 127) dX6_stepOf_5 (by rw [c5]; decide) (by rw [c5]; decide) (by decide) ?_
    refine g_bipush (v := (nI 8)) dX6_stepOf_132 (by decide) ?_
    exact g_ireturn dX6_stepOf_134 rfl (by first | rfl | decide) (hret _ _ (Option.some.inj h))
  rw [if_neg c5] at h
  by_cases c6 : (a0 - (nI 3000)) = nI 60
  · rw [if_pos c6] at h
    refine g_tsI (t := 138) (off := 133) dX6_stepOf_5 (by rw [c6]; decide) (by rw [c6]; decide) (by decide) ?_
    refine g_bipush (v := (nI 10)) dX6_stepOf_138 (by decide) ?_
    exact g_ireturn dX6_stepOf_140 rfl (by first | rfl | decide) (hret _ _ (Option.some.inj h))
  rw [if_neg c6] at h
  by_cases c7 : (a0 - (nI 3000)) = nI 61
  · rw [if_pos c7] at h
    refine g_tsI (t := 144) (off := 139) dX6_stepOf_5 (by rw [c7]; decide) (by rw [c7]; decide) (by decide) ?_
    refine g_bipush (v := (nI 12)) dX6_stepOf_144 (by decide) ?_
    exact g_ireturn dX6_stepOf_146 rfl (by first | rfl | decide) (hret _ _ (Option.some.inj h))
  rw [if_neg c7] at h
  by_cases c8 : (a0 - (nI 3000)) = nI 62
  · rw [if_pos c8] at h
    refine g_tsI (t := 141) (off := 136) dX6_stepOf_5 (by rw [c8]; decide) (by rw [c8]; decide) (by decide) ?_
    refine g_bipush (v := (nI 11)) dX6_stepOf_141 (by decide) ?_
    exact g_ireturn dX6_stepOf_143 rfl (by first | rfl | decide) (hret _ _ (Option.some.inj h))
  rw [if_neg c8] at h
  have hdef : Go O (d + 1) MX6_stepOf 147 [some (.int a0)] [] K P := by
    refine g_iconst (v := (-1)) dX6_stepOf_147 (by decide) ?_
    exact g_ireturn dX6_stepOf_148 rfl (by first | rfl | decide) (hret _ _ (Option.some.inj h))
  by_cases c9 : (a0 - (nI 3000)) = nI 38
  · refine g_tsI (t := 147) (off := 142) dX6_stepOf_5 (by rw [c9]; decide) (by rw [c9]; decide) (by decide) hdef
  by_cases c10 : (a0 - (nI 3000)) = nI 39
  · refine g_tsI (t := 147) (off := 142) dX6_stepOf_5 (by rw [c10]; decide) (by rw [c10]; decide) (by decide) hdef
  by_cases c11 : (a0 - (nI 3000)) = nI 40
  · refine g_tsI (t := 147) (off := 142) dX6_stepOf_5 (by rw [c11]; decide) (by rw [c11]; decide) (by decide) hdef
  by_cases c12 : (a0 - (nI 3000)) = nI 41
  · refine g_tsI (t := 147) (off := 142) dX6_stepOf_5 (by rw [c12]; decide) (by rw [c12]; decide) (by decide) hdef
  by_cases c13 : (a0 - (nI 3000)) = nI 44
  · refine g_tsI (t := 147) (off := 142) dX6_stepOf_5 (by rw [c13]; decide) (by rw [c13]; decide) (by decide) hdef
  by_cases c14 : (a0 - (nI 3000)) = nI 46
  · refine g_tsI (t := 147) (off := 142) dX6_stepOf_5 (by rw [c14]; decide) (by rw [c14]; decide) (by decide) hdef
  by_cases c15 : (a0 - (nI 3000)) = nI 48
  · refine g_tsI (t := 147) (off := 142) dX6_stepOf_5 (by rw [c15]; decide) (by rw [c15]; decide) (by decide) hdef
  by_cases c16 : (a0 - (nI 3000)) = nI 49
  · refine g_tsI (t := 147) (off := 142) dX6_stepOf_5 (by rw [c16]; decide) (by rw [c16]; decide) (by decide) hdef
  by_cases c17 : (a0 - (nI 3000)) = nI 50
  · refine g_tsI (t := 147) (off := 142) dX6_stepOf_5 (by rw [c17]; decide) (by rw [c17]; decide) (by decide) hdef
  by_cases c18 : (a0 - (nI 3000)) = nI 51
  · refine g_tsI (t := 147) (off := 142) dX6_stepOf_5 (by rw [c18]; decide) (by rw [c18]; decide) (by decide) hdef
  by_cases c19 : (a0 - (nI 3000)) = nI 52
  · refine g_tsI (t := 147) (off := 142) dX6_stepOf_5 (by rw [c19]; decide) (by rw [c19]; decide) (by decide) hdef
  by_cases c20 : (a0 - (nI 3000)) = nI 53
  · refine g_tsI (t := 147) (off := 142) dX6_stepOf_5 (by rw [c20]; decide) (by rw [c20]; decide) (by decide) hdef
  by_cases c21 : (a0 - (nI 3000)) = nI 54
  · refine g_tsI (t := 147) (off := 142) dX6_stepOf_5 (by rw [c21]; decide) (by rw [c21]; decide) (by decide) hdef
  by_cases c22 : (a0 - (nI 3000)) = nI 55
  · refine g_tsI (t := 147) (off := 142) dX6_stepOf_5 (by rw [c22]; decide) (by rw [c22]; decide) (by decide) hdef
  by_cases c23 : (a0 - (nI 3000)) = nI 56
  · refine g_tsI (t := 147) (off := 142) dX6_stepOf_5 (by rw [c23]; decide) (by rw [c23]; decide) (by decide) hdef
  by_cases c24 : (a0 - (nI 3000)) = nI 57
  · refine g_tsI (t := 147) (off := 142) dX6_stepOf_5 (by rw [c24]; decide) (by rw [c24]; decide) (by decide) hdef
  by_cases c25 : (a0 - (nI 3000)) = nI 58
  · refine g_tsI (t := 147) (off := 142) dX6_stepOf_5 (by rw [c25]; decide) (by rw [c25]; decide) (by decide) hdef
  by_cases c26 : (a0 - (nI 3000)) = nI 59
  · refine g_tsI (t := 147) (off := 142) dX6_stepOf_5 (by rw [c26]; decide) (by rw [c26]; decide) (by decide) hdef
  refine g_tsO (t := 147) dX6_stepOf_5 ?_ (by decide) hdef
  have ic1 := ts_ne (by decide) c1
  have ic2 := ts_ne (by decide) c2
  have ic3 := ts_ne (by decide) c3
  have ic4 := ts_ne (by decide) c4
  have ic5 := ts_ne (by decide) c5
  have ic6 := ts_ne (by decide) c6
  have ic7 := ts_ne (by decide) c7
  have ic8 := ts_ne (by decide) c8
  have ic9 := ts_ne (by decide) c9
  have ic10 := ts_ne (by decide) c10
  have ic11 := ts_ne (by decide) c11
  have ic12 := ts_ne (by decide) c12
  have ic13 := ts_ne (by decide) c13
  have ic14 := ts_ne (by decide) c14
  have ic15 := ts_ne (by decide) c15
  have ic16 := ts_ne (by decide) c16
  have ic17 := ts_ne (by decide) c17
  have ic18 := ts_ne (by decide) c18
  have ic19 := ts_ne (by decide) c19
  have ic20 := ts_ne (by decide) c20
  have ic21 := ts_ne (by decide) c21
  have ic22 := ts_ne (by decide) c22
  have ic23 := ts_ne (by decide) c23
  have ic24 := ts_ne (by decide) c24
  have ic25 := ts_ne (by decide) c25
  have ic26 := ts_ne (by decide) c26
  omega
noncomputable def F_X5_openClause (O : mO) (d : Nat) (a0 : Nat) (a1 : Int32) (K : mH) : Option (mH) :=
  (gtI K a0 5 3).bind fun x1 =>
  (ptI K a0 5 3 (x1 + (nI 1))).bind fun K2 =>
  (toV (vc O d 5 MX5_set a0 [.int (nI 0), .int a1] K2)).bind fun K3 =>
  (toV (vc O d 5 MX5_set a0 [.int (nI 1), .int (nI 1)] K3)).bind fun K4 =>
  (gtI K4 a0 5 2).bind fun x5 =>
  (toV (vc O d 5 MX5_set a0 [.int (nI 2), .int x5] K4)).bind fun K6 =>
  some K6
theorem e_X5_openClause {O : mO} {d : Nat} {a0 : Nat} {a1 : Int32} {K : mH} {x : mH} (h : F_X5_openClause O d a0 a1 K = some x) : ev O (d + 1) MX5_openClause [.ref a0, .int a1] K = some (none, x) := by
  refine Rn_evx ?_
  show Go O (d + 1) MX5_openClause 0 [some (.ref a0), some (.int a1)] [] K _
  generalize hP : (fun (r : Option Value) (K' : mH) => (r, K') = (none, x)) = P
  have hret : ∀ K' : mH, K' = x → P none K' := by
    intro K' e
    subst hP e
    rfl
  clear hP
  unfold F_X5_openClause at h
  refine g_aload_n dX5_openClause_0 rfl ?_
  refine g_dup dX5_openClause_1 (by first | rfl | exact vrf_cat _) ?_
  obtain ⟨x1, ex1, h⟩ := bs h
  refine q_getI dX5_openClause_2 fX5_13 ex1 ?_
  refine g_iconst (v := (nI 1)) dX5_openClause_5 (by decide) ?_
  refine g_iadd dX5_openClause_6 ?_
  obtain ⟨K2, eK2, h⟩ := bs h
  refine q_put (c := (RX5, TX5, 4)) dX5_openClause_7 fX5_13 rfl rfl rfl (fun h => absurd h (by decide)) eK2 ?_
  refine g_aload_n dX5_openClause_10 rfl ?_
  refine g_iconst (v := (nI 0)) dX5_openClause_11 (by decide) ?_
  refine g_iload_n dX5_openClause_12 rfl ?_
  obtain ⟨K3, eK3, h⟩ := bs h
  refine q_virt (Z := MX5_set) (c := (RX5, TX5, 4)) (toV_s eK3) dX5_openClause_13 mX5_38.1 mX5_38.2 (Nat.le_of_ble_eq_true rfl) rfl rfl (Nat.le_of_ble_eq_true rfl) (Nat.le_of_ble_eq_true rfl) rfl rfl ?_
  show Go O (d + 1) MX5_openClause 16 [some (.ref a0), some (.int a1)] [] K3 P
  refine g_aload_n dX5_openClause_16 rfl ?_
  refine g_iconst (v := (nI 1)) dX5_openClause_17 (by decide) ?_
  refine g_iconst (v := (nI 1)) dX5_openClause_18 (by decide) ?_
  obtain ⟨K4, eK4, h⟩ := bs h
  refine q_virt (Z := MX5_set) (c := (RX5, TX5, 4)) (toV_s eK4) dX5_openClause_19 mX5_38.1 mX5_38.2 (Nat.le_of_ble_eq_true rfl) rfl rfl (Nat.le_of_ble_eq_true rfl) (Nat.le_of_ble_eq_true rfl) rfl rfl ?_
  show Go O (d + 1) MX5_openClause 22 [some (.ref a0), some (.int a1)] [] K4 P
  refine g_aload_n dX5_openClause_22 rfl ?_
  refine g_iconst (v := (nI 2)) dX5_openClause_23 (by decide) ?_
  refine g_aload_n dX5_openClause_24 rfl ?_
  obtain ⟨x5, ex5, h⟩ := bs h
  refine q_getI dX5_openClause_25 fX5_7 ex5 ?_
  obtain ⟨K6, eK6, h⟩ := bs h
  refine q_virt (Z := MX5_set) (c := (RX5, TX5, 4)) (toV_s eK6) dX5_openClause_28 mX5_38.1 mX5_38.2 (Nat.le_of_ble_eq_true rfl) rfl rfl (Nat.le_of_ble_eq_true rfl) (Nat.le_of_ble_eq_true rfl) rfl rfl ?_
  show Go O (d + 1) MX5_openClause 31 [some (.ref a0), some (.int a1)] [] K6 P
  exact g_return dX5_openClause_31 rfl (hret _ (Option.some.inj h))
