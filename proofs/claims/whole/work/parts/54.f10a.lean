/-! methods as functions, by gen50.py -/
noncomputable def F_X10_vault_j10 (O : mO) (d : Nat) (v0 : Nat) (K : mH) : Option (Int32 × mH) :=
  (toI (vc O d 10 MX10_refused v0 [.int (-1)] K)).bind fun p2 =>
  some (p2.1, p2.2)
theorem e_X10_vault_j10 {O : mO} {d : Nat} {v0 : Nat} {K : mH} {P : Option Value → mH → Prop} {x : Int32 × mH} (hret : ∀ (r : Int32) (K' : mH), (r, K') = x → P (some (.int r)) K') (h : F_X10_vault_j10 O d v0 K = some x) : Go O (d + 1) MX10_vault 10 [some (.ref v0), none] [] K P := by
  unfold F_X10_vault_j10 at h
  refine g_aload_n dX10_vault_10 rfl ?_
  refine g_iconst (v := (-1)) dX10_vault_11 (by decide) ?_
  obtain ⟨p2, ep2, h⟩ := bs h
  refine q_virt (Z := MX10_refused) (c := (RX10, TX10, 17)) (toI_s ep2) dX10_vault_12 mX10_105.1 mX10_105.2 (Nat.le_of_ble_eq_true rfl) rfl rfl (Nat.le_of_ble_eq_true rfl) (Nat.le_of_ble_eq_true rfl) rfl rfl ?_
  show Go O (d + 1) MX10_vault 15 [some (.ref v0), none] [.int p2.1] p2.2 P
  exact g_ireturn dX10_vault_15 rfl (by first | rfl | decide) (hret _ _ (Option.some.inj h))
noncomputable def F_X10_vault (O : mO) (d : Nat) (a0 : Nat) (a1 : Int32) (K : mH) : Option (Int32 × mH) :=
  if a1 < (nI 1) then
    F_X10_vault_j10 O d a0 K
  else
    if a1 ≤ (nI 3) then
      (gtA K a0 10 10).bind fun x4 =>
      (gtI K x4 2 11).bind fun x5 =>
      if x5 < (nI 5) then
        (gtA K a0 10 10).bind fun x7 =>
        (gtA K x7 2 1).bind fun x8 =>
        (gtA K a0 10 10).bind fun x9 =>
        (gtI K x9 2 11).bind fun x10 =>
        (wrI K x8 x10 a1).bind fun K11 =>
        (gtA K11 a0 10 10).bind fun x12 =>
        (gtI K11 x12 2 11).bind fun x13 =>
        (ptI K11 x12 2 11 (x13 + (nI 1))).bind fun K14 =>
        (gtA K14 a0 10 11).bind fun x15 =>
        (toV (vc O d 3 MX3_clear x15 [] K14)).bind fun K16 =>
        (gtA K16 a0 10 10).bind fun x17 =>
        (gtI K16 x17 2 11).bind fun x18 =>
        (toI (vc O d 10 MX10_granted a0 [.int (x18 - (nI 1))] K16)).bind fun p19 =>
        some (p19.1, p19.2)
      else
        (toI (vc O d 10 MX10_refused a0 [.int (-5)] K)).bind fun p20 =>
        some (p20.1, p20.2)
    else
      F_X10_vault_j10 O d a0 K
theorem e_X10_vault {O : mO} {d : Nat} {a0 : Nat} {a1 : Int32} {K : mH} {r0 : Int32} {K0 : mH} (h : F_X10_vault O d a0 a1 K = some (r0, K0)) : ev O (d + 1) MX10_vault [.ref a0, .int a1] K = some (some (.int r0), K0) := by
  refine Rn_evx ?_
  show Go O (d + 1) MX10_vault 0 [some (.ref a0), some (.int a1)] [] K _
  generalize hP : (fun (r : Option Value) (K' : mH) => (r, K') = (some (.int r0), K0)) = P
  have hret : ∀ (r : Int32) (K' : mH), (r, K') = (r0, K0) → P (some (.int r)) K' := by
    intro r K' e
    cases e
    subst hP
    rfl
  clear hP
  unfold F_X10_vault at h
  refine g_iload_n dX10_vault_0 rfl ?_
  refine g_iconst (v := (nI 1)) dX10_vault_1 (by decide) ?_
  refine g_ic_lt (t := 10) dX10_vault_2 (by decide) (fun c1 => ?_) (fun c1 => ?_)
  · rw [if_pos c1] at h
    refine Go_le ?_ (e_X10_vault_j10 hret h)
    exact And.intro rfl (trivial)
  · rw [if_neg c1] at h
    refine g_iload_n dX10_vault_5 rfl ?_
    refine g_iconst (v := (nI 3)) dX10_vault_6 (by decide) ?_
    refine g_ic_le (t := 16) dX10_vault_7 (by decide) (fun c3 => ?_) (fun c3 => ?_)
    · rw [if_pos c3] at h
      refine g_aload_n dX10_vault_16 rfl ?_
      obtain ⟨x4, ex4, h⟩ := bs h
      refine q_getA dX10_vault_17 fX10_89 ex4 ?_
      obtain ⟨x5, ex5, h⟩ := bs h
      refine q_getI dX10_vault_20 fX10_109 ex5 ?_
      refine g_iconst (v := (nI 5)) dX10_vault_23 (by decide) ?_
      refine g_ic_lt (t := 34) dX10_vault_24 (by decide) (fun c6 => ?_) (fun c6 => ?_)
      · rw [if_pos c6] at h
        refine g_aload_n dX10_vault_34 rfl ?_
        obtain ⟨x7, ex7, h⟩ := bs h
        refine q_getA dX10_vault_35 fX10_89 ex7 ?_
        obtain ⟨x8, ex8, h⟩ := bs h
        refine q_getA dX10_vault_38 fX10_112 ex8 ?_
        refine g_aload_n dX10_vault_41 rfl ?_
        obtain ⟨x9, ex9, h⟩ := bs h
        refine q_getA dX10_vault_42 fX10_89 ex9 ?_
        obtain ⟨x10, ex10, h⟩ := bs h
        refine q_getI dX10_vault_45 fX10_109 ex10 ?_
        refine g_iload_n dX10_vault_48 rfl ?_
        obtain ⟨K11, eK11, h⟩ := bs h
        refine q_iast dX10_vault_49 eK11 ?_
        refine g_aload_n dX10_vault_50 rfl ?_
        obtain ⟨x12, ex12, h⟩ := bs h
        refine q_getA dX10_vault_51 fX10_89 ex12 ?_
        refine g_dup dX10_vault_54 (by first | rfl | exact vrf_cat _) ?_
        obtain ⟨x13, ex13, h⟩ := bs h
        refine q_getI dX10_vault_55 fX10_109 ex13 ?_
        refine g_iconst (v := (nI 1)) dX10_vault_58 (by decide) ?_
        refine g_iadd dX10_vault_59 ?_
        obtain ⟨K14, eK14, h⟩ := bs h
        refine q_put (c := (RX2, TX2, 18)) dX10_vault_60 fX10_109 rfl rfl rfl (fun h => absurd h (by decide)) eK14 ?_
        refine g_aload_n dX10_vault_63 rfl ?_
        obtain ⟨x15, ex15, h⟩ := bs h
        refine q_getA dX10_vault_64 fX10_58 ex15 ?_
        obtain ⟨K16, eK16, h⟩ := bs h
        refine q_virt (Z := MX3_clear) (c := (RX3, TX3, 3)) (toV_s eK16) dX10_vault_67 mX10_115.1 mX10_115.2 (Nat.le_of_ble_eq_true rfl) rfl rfl (Nat.le_of_ble_eq_true rfl) (Nat.le_of_ble_eq_true rfl) rfl rfl ?_
        show Go O (d + 1) MX10_vault 70 [some (.ref a0), some (.int a1)] [] K16 P
        refine g_aload_n dX10_vault_70 rfl ?_
        refine g_aload_n dX10_vault_71 rfl ?_
        obtain ⟨x17, ex17, h⟩ := bs h
        refine q_getA dX10_vault_72 fX10_89 ex17 ?_
        obtain ⟨x18, ex18, h⟩ := bs h
        refine q_getI dX10_vault_75 fX10_109 ex18 ?_
        refine g_iconst (v := (nI 1)) dX10_vault_78 (by decide) ?_
        refine g_isub dX10_vault_79 ?_
        obtain ⟨p19, ep19, h⟩ := bs h
        refine q_virt (Z := MX10_granted) (c := (RX10, TX10, 17)) (toI_s ep19) dX10_vault_80 mX10_118.1 mX10_118.2 (Nat.le_of_ble_eq_true rfl) rfl rfl (Nat.le_of_ble_eq_true rfl) (Nat.le_of_ble_eq_true rfl) rfl rfl ?_
        show Go O (d + 1) MX10_vault 83 [some (.ref a0), some (.int a1)] [.int p19.1] p19.2 P
        exact g_ireturn dX10_vault_83 rfl (by first | rfl | decide) (hret _ _ (Option.some.inj h))
      · rw [if_neg c6] at h
        refine g_aload_n dX10_vault_27 rfl ?_
        refine g_bipush (v := (-5)) dX10_vault_28 (by decide) ?_
        obtain ⟨p20, ep20, h⟩ := bs h
        refine q_virt (Z := MX10_refused) (c := (RX10, TX10, 17)) (toI_s ep20) dX10_vault_30 mX10_105.1 mX10_105.2 (Nat.le_of_ble_eq_true rfl) rfl rfl (Nat.le_of_ble_eq_true rfl) (Nat.le_of_ble_eq_true rfl) rfl rfl ?_
        show Go O (d + 1) MX10_vault 33 [some (.ref a0), some (.int a1)] [.int p20.1] p20.2 P
        exact g_ireturn dX10_vault_33 rfl (by first | rfl | decide) (hret _ _ (Option.some.inj h))
    · rw [if_neg c3] at h
      refine Go_le ?_ (e_X10_vault_j10 hret h)
      exact And.intro rfl (trivial)
noncomputable def F_X10_at (O : mO) (d : Nat) (a0 : Nat) (a1 : Int32) (a2 : Int32) (K : mH) : Option (Int32 × mH) :=
  (gtA K a0 10 10).bind fun x1 =>
  (toI (vc O d 2 MX2_hasVault x1 [.int a1] K)).bind fun p2 =>
  if p2.1 = 0 then
    some ((-1), p2.2)
  else
    if a2 = nI 0 then
      (gtA p2.2 a0 10 10).bind fun x5 =>
      (gtA p2.2 x5 2 1).bind fun x6 =>
      (rdI O p2.2 x6 a1).bind fun x7 =>
      some (x7, p2.2)
    else if a2 = nI 1 then
      (gtA p2.2 a0 10 10).bind fun x9 =>
      (toI (vc O d 2 MX2_freeBeds x9 [.int a1] p2.2)).bind fun p10 =>
      some (p10.1, p10.2)
    else if a2 = nI 2 then
      (gtA p2.2 a0 10 10).bind fun x12 =>
      (toI (vc O d 2 MX2_lyingIn x12 [.int a1] p2.2)).bind fun p13 =>
      some (p13.1, p13.2)
    else 
      some ((-1), p2.2)
theorem e_X10_at {O : mO} {d : Nat} {a0 : Nat} {a1 : Int32} {a2 : Int32} {K : mH} {r0 : Int32} {K0 : mH} (h : F_X10_at O d a0 a1 a2 K = some (r0, K0)) : ev O (d + 1) MX10_at [.ref a0, .int a1, .int a2] K = some (some (.int r0), K0) := by
  refine Rn_evx ?_
  show Go O (d + 1) MX10_at 0 [some (.ref a0), some (.int a1), some (.int a2)] [] K _
  generalize hP : (fun (r : Option Value) (K' : mH) => (r, K') = (some (.int r0), K0)) = P
  have hret : ∀ (r : Int32) (K' : mH), (r, K') = (r0, K0) → P (some (.int r)) K' := by
    intro r K' e
    cases e
    subst hP
    rfl
  clear hP
  unfold F_X10_at at h
  refine g_aload_n dX10_at_0 rfl ?_
  obtain ⟨x1, ex1, h⟩ := bs h
  refine q_getA dX10_at_1 fX10_89 ex1 ?_
  refine g_iload_n dX10_at_4 rfl ?_
  obtain ⟨p2, ep2, h⟩ := bs h
  refine q_virt (Z := MX2_hasVault) (c := (RX2, TX2, 18)) (toI_s ep2) dX10_at_5 mX10_121.1 mX10_121.2 (Nat.le_of_ble_eq_true rfl) rfl rfl (Nat.le_of_ble_eq_true rfl) (Nat.le_of_ble_eq_true rfl) rfl rfl ?_
  show Go O (d + 1) MX10_at 8 [some (.ref a0), some (.int a1), some (.int a2)] [.int p2.1] p2.2 P
  refine g_if_ne (t := 13) dX10_at_8 (by decide) (fun c3 => ?_) (fun c3 => ?_)
  · rw [if_neg c3] at h
    refine g_iload_n dX10_at_13 rfl ?_
    by_cases c4 : a2 = nI 0
    · rw [if_pos c4] at h
      refine g_tsI (t := 40) (off := 26) dX10_at_14 (by rw [c4]; decide) (by rw [c4]; decide) (by decide) ?_
      refine g_aload_n dX10_at_40 rfl ?_
      obtain ⟨x5, ex5, h⟩ := bs h
      refine q_getA dX10_at_41 fX10_89 ex5 ?_
      obtain ⟨x6, ex6, h⟩ := bs h
      refine q_getA dX10_at_44 fX10_112 ex6 ?_
      refine g_iload_n dX10_at_47 rfl ?_
      obtain ⟨x7, ex7, h⟩ := bs h
      refine q_iald dX10_at_48 ex7 ?_
      exact g_ireturn dX10_at_49 rfl (by first | rfl | decide) (hret _ _ (Option.some.inj h))
    rw [if_neg c4] at h
    by_cases c8 : a2 = nI 1
    · rw [if_pos c8] at h
      refine g_tsI (t := 50) (off := 36) dX10_at_14 (by rw [c8]; decide) (by rw [c8]; decide) (by decide) ?_
      refine g_aload_n dX10_at_50 rfl ?_
      obtain ⟨x9, ex9, h⟩ := bs h
      refine q_getA dX10_at_51 fX10_89 ex9 ?_
      refine g_iload_n dX10_at_54 rfl ?_
      obtain ⟨p10, ep10, h⟩ := bs h
      refine q_virt (Z := MX2_freeBeds) (c := (RX2, TX2, 18)) (toI_s ep10) dX10_at_55 mX10_125.1 mX10_125.2 (Nat.le_of_ble_eq_true rfl) rfl rfl (Nat.le_of_ble_eq_true rfl) (Nat.le_of_ble_eq_true rfl) rfl rfl ?_
      show Go O (d + 1) MX10_at 58 [some (.ref a0), some (.int a1), some (.int a2)] [.int p10.1] p10.2 P
      exact g_ireturn dX10_at_58 rfl (by first | rfl | decide) (hret _ _ (Option.some.inj h))
    rw [if_neg c8] at h
    by_cases c11 : a2 = nI 2
    · rw [if_pos c11] at h
      refine g_tsI (t := 59) (off := 45) dX10_at_14 (by rw [c11]; decide) (by rw [c11]; decide) (by decide) ?_
      refine g_aload_n dX10_at_59 rfl ?_
      obtain ⟨x12, ex12, h⟩ := bs h
      refine q_getA dX10_at_60 fX10_89 ex12 ?_
      refine g_iload_n dX10_at_63 rfl ?_
      obtain ⟨p13, ep13, h⟩ := bs h
      refine q_virt (Z := MX2_lyingIn) (c := (RX2, TX2, 18)) (toI_s ep13) dX10_at_64 mX10_128.1 mX10_128.2 (Nat.le_of_ble_eq_true rfl) rfl rfl (Nat.le_of_ble_eq_true rfl) (Nat.le_of_ble_eq_true rfl) rfl rfl ?_
      show Go O (d + 1) MX10_at 67 [some (.ref a0), some (.int a1), some (.int a2)] [.int p13.1] p13.2 P
      exact g_ireturn dX10_at_67 rfl (by first | rfl | decide) (hret _ _ (Option.some.inj h))
    rw [if_neg c11] at h
    refine g_tsO (t := 68) dX10_at_14 ?_ (by decide) ?_
    rotate_left
    · skip
      refine g_iconst (v := (-1)) dX10_at_68 (by decide) ?_
      exact g_ireturn dX10_at_69 rfl (by first | rfl | decide) (hret _ _ (Option.some.inj h))
    have ic4 := ts_ne (by decide) c4
    have ic8 := ts_ne (by decide) c8
    have ic11 := ts_ne (by decide) c11
    omega
  · rw [if_pos c3] at h
    refine g_iconst (v := (-1)) dX10_at_11 (by decide) ?_
    exact g_ireturn dX10_at_12 rfl (by first | rfl | decide) (hret _ _ (Option.some.inj h))
noncomputable def F_X10_family_j11 (O : mO) (d : Nat) (v0 : Nat) (K : mH) : Option (Int32 × mH) :=
  (toI (vc O d 10 MX10_refused v0 [.int (-1)] K)).bind fun p2 =>
  some (p2.1, p2.2)
theorem e_X10_family_j11 {O : mO} {d : Nat} {v0 : Nat} {K : mH} {P : Option Value → mH → Prop} {x : Int32 × mH} (hret : ∀ (r : Int32) (K' : mH), (r, K') = x → P (some (.int r)) K') (h : F_X10_family_j11 O d v0 K = some x) : Go O (d + 1) MX10_family 11 [some (.ref v0), none] [] K P := by
  unfold F_X10_family_j11 at h
  refine g_aload_n dX10_family_11 rfl ?_
  refine g_iconst (v := (-1)) dX10_family_12 (by decide) ?_
  obtain ⟨p2, ep2, h⟩ := bs h
  refine q_virt (Z := MX10_refused) (c := (RX10, TX10, 17)) (toI_s ep2) dX10_family_13 mX10_105.1 mX10_105.2 (Nat.le_of_ble_eq_true rfl) rfl rfl (Nat.le_of_ble_eq_true rfl) (Nat.le_of_ble_eq_true rfl) rfl rfl ?_
  show Go O (d + 1) MX10_family 16 [some (.ref v0), none] [.int p2.1] p2.2 P
  exact g_ireturn dX10_family_16 rfl (by first | rfl | decide) (hret _ _ (Option.some.inj h))
noncomputable def F_X10_family (O : mO) (d : Nat) (a0 : Nat) (a1 : Int32) (K : mH) : Option (Int32 × mH) :=
  if a1 < 0 then
    F_X10_family_j11 O d a0 K
  else
    if a1 ≤ (nI 999) then
      (gtA K a0 10 10).bind fun x4 =>
      (gtI K x4 2 12).bind fun x5 =>
      if x5 < (nI 4) then
        (gtA K a0 10 10).bind fun x7 =>
        (gtA K x7 2 2).bind fun x8 =>
        (gtA K a0 10 10).bind fun x9 =>
        (gtI K x9 2 12).bind fun x10 =>
        (wrI K x8 x10 a1).bind fun K11 =>
        (gtA K11 a0 10 10).bind fun x12 =>
        (gtI K11 x12 2 12).bind fun x13 =>
        (ptI K11 x12 2 12 (x13 + (nI 1))).bind fun K14 =>
        (gtA K14 a0 10 11).bind fun x15 =>
        (toV (vc O d 3 MX3_clear x15 [] K14)).bind fun K16 =>
        (gtA K16 a0 10 10).bind fun x17 =>
        (gtI K16 x17 2 12).bind fun x18 =>
        (toI (vc O d 10 MX10_granted a0 [.int (x18 - (nI 1))] K16)).bind fun p19 =>
        some (p19.1, p19.2)
      else
        (toI (vc O d 10 MX10_refused a0 [.int (-5)] K)).bind fun p20 =>
        some (p20.1, p20.2)
    else
      F_X10_family_j11 O d a0 K
theorem e_X10_family {O : mO} {d : Nat} {a0 : Nat} {a1 : Int32} {K : mH} {r0 : Int32} {K0 : mH} (h : F_X10_family O d a0 a1 K = some (r0, K0)) : ev O (d + 1) MX10_family [.ref a0, .int a1] K = some (some (.int r0), K0) := by
  refine Rn_evx ?_
  show Go O (d + 1) MX10_family 0 [some (.ref a0), some (.int a1)] [] K _
  generalize hP : (fun (r : Option Value) (K' : mH) => (r, K') = (some (.int r0), K0)) = P
  have hret : ∀ (r : Int32) (K' : mH), (r, K') = (r0, K0) → P (some (.int r)) K' := by
    intro r K' e
    cases e
    subst hP
    rfl
  clear hP
  unfold F_X10_family at h
  refine g_iload_n dX10_family_0 rfl ?_
  refine g_if_lt (t := 11) dX10_family_1 (by decide) (fun c1 => ?_) (fun c1 => ?_)
  · rw [if_pos c1] at h
    refine Go_le ?_ (e_X10_family_j11 hret h)
    exact And.intro rfl (trivial)
  · rw [if_neg c1] at h
    refine g_iload_n dX10_family_4 rfl ?_
    refine g_sipush (v := (nI 999)) dX10_family_5 (by decide) ?_
    refine g_ic_le (t := 17) dX10_family_8 (by decide) (fun c3 => ?_) (fun c3 => ?_)
    · rw [if_pos c3] at h
      refine g_aload_n dX10_family_17 rfl ?_
      obtain ⟨x4, ex4, h⟩ := bs h
      refine q_getA dX10_family_18 fX10_89 ex4 ?_
      obtain ⟨x5, ex5, h⟩ := bs h
      refine q_getI dX10_family_21 fX10_131 ex5 ?_
      refine g_iconst (v := (nI 4)) dX10_family_24 (by decide) ?_
      refine g_ic_lt (t := 35) dX10_family_25 (by decide) (fun c6 => ?_) (fun c6 => ?_)
      · rw [if_pos c6] at h
        refine g_aload_n dX10_family_35 rfl ?_
        obtain ⟨x7, ex7, h⟩ := bs h
        refine q_getA dX10_family_36 fX10_89 ex7 ?_
        obtain ⟨x8, ex8, h⟩ := bs h
        refine q_getA dX10_family_39 fX10_134 ex8 ?_
        refine g_aload_n dX10_family_42 rfl ?_
        obtain ⟨x9, ex9, h⟩ := bs h
        refine q_getA dX10_family_43 fX10_89 ex9 ?_
        obtain ⟨x10, ex10, h⟩ := bs h
        refine q_getI dX10_family_46 fX10_131 ex10 ?_
        refine g_iload_n dX10_family_49 rfl ?_
        obtain ⟨K11, eK11, h⟩ := bs h
        refine q_iast dX10_family_50 eK11 ?_
        refine g_aload_n dX10_family_51 rfl ?_
        obtain ⟨x12, ex12, h⟩ := bs h
        refine q_getA dX10_family_52 fX10_89 ex12 ?_
        refine g_dup dX10_family_55 (by first | rfl | exact vrf_cat _) ?_
        obtain ⟨x13, ex13, h⟩ := bs h
        refine q_getI dX10_family_56 fX10_131 ex13 ?_
        refine g_iconst (v := (nI 1)) dX10_family_59 (by decide) ?_
        refine g_iadd dX10_family_60 ?_
        obtain ⟨K14, eK14, h⟩ := bs h
        refine q_put (c := (RX2, TX2, 18)) dX10_family_61 fX10_131 rfl rfl rfl (fun h => absurd h (by decide)) eK14 ?_
        refine g_aload_n dX10_family_64 rfl ?_
        obtain ⟨x15, ex15, h⟩ := bs h
        refine q_getA dX10_family_65 fX10_58 ex15 ?_
        obtain ⟨K16, eK16, h⟩ := bs h
        refine q_virt (Z := MX3_clear) (c := (RX3, TX3, 3)) (toV_s eK16) dX10_family_68 mX10_115.1 mX10_115.2 (Nat.le_of_ble_eq_true rfl) rfl rfl (Nat.le_of_ble_eq_true rfl) (Nat.le_of_ble_eq_true rfl) rfl rfl ?_
        show Go O (d + 1) MX10_family 71 [some (.ref a0), some (.int a1)] [] K16 P
        refine g_aload_n dX10_family_71 rfl ?_
        refine g_aload_n dX10_family_72 rfl ?_
        obtain ⟨x17, ex17, h⟩ := bs h
        refine q_getA dX10_family_73 fX10_89 ex17 ?_
        obtain ⟨x18, ex18, h⟩ := bs h
        refine q_getI dX10_family_76 fX10_131 ex18 ?_
        refine g_iconst (v := (nI 1)) dX10_family_79 (by decide) ?_
        refine g_isub dX10_family_80 ?_
        obtain ⟨p19, ep19, h⟩ := bs h
        refine q_virt (Z := MX10_granted) (c := (RX10, TX10, 17)) (toI_s ep19) dX10_family_81 mX10_118.1 mX10_118.2 (Nat.le_of_ble_eq_true rfl) rfl rfl (Nat.le_of_ble_eq_true rfl) (Nat.le_of_ble_eq_true rfl) rfl rfl ?_
        show Go O (d + 1) MX10_family 84 [some (.ref a0), some (.int a1)] [.int p19.1] p19.2 P
        exact g_ireturn dX10_family_84 rfl (by first | rfl | decide) (hret _ _ (Option.some.inj h))
      · rw [if_neg c6] at h
        refine g_aload_n dX10_family_28 rfl ?_
        refine g_bipush (v := (-5)) dX10_family_29 (by decide) ?_
        obtain ⟨p20, ep20, h⟩ := bs h
        refine q_virt (Z := MX10_refused) (c := (RX10, TX10, 17)) (toI_s ep20) dX10_family_31 mX10_105.1 mX10_105.2 (Nat.le_of_ble_eq_true rfl) rfl rfl (Nat.le_of_ble_eq_true rfl) (Nat.le_of_ble_eq_true rfl) rfl rfl ?_
        show Go O (d + 1) MX10_family 34 [some (.ref a0), some (.int a1)] [.int p20.1] p20.2 P
        exact g_ireturn dX10_family_34 rfl (by first | rfl | decide) (hret _ _ (Option.some.inj h))
    · rw [if_neg c3] at h
      refine Go_le ?_ (e_X10_family_j11 hret h)
      exact And.intro rfl (trivial)
noncomputable def F_X10_has (O : mO) (d : Nat) (a0 : Nat) (a1 : Int32) (a2 : Int32) (K : mH) : Option (Int32 × mH) :=
  (gtA K a0 10 10).bind fun x1 =>
  (toI (vc O d 2 MX2_hasFamily x1 [.int a1] K)).bind fun p2 =>
  if p2.1 = 0 then
    some ((-1), p2.2)
  else
    if a2 = nI 0 then
      (gtA p2.2 a0 10 10).bind fun x5 =>
      (gtA p2.2 x5 2 2).bind fun x6 =>
      (rdI O p2.2 x6 a1).bind fun x7 =>
      some (x7, p2.2)
    else if a2 = nI 1 then
      (gtA p2.2 a0 10 10).bind fun x9 =>
      (toI (vc O d 2 MX2_earned x9 [.int a1] p2.2)).bind fun p10 =>
      some (p10.1, p10.2)
    else if a2 = nI 2 then
      (gtA p2.2 a0 10 10).bind fun x12 =>
      (toI (vc O d 2 MX2_deadOf x12 [.int a1] p2.2)).bind fun p13 =>
      some (p13.1, p13.2)
    else if a2 = nI 3 then
      (gtA p2.2 a0 10 10).bind fun x15 =>
      (toI (vc O d 2 MX2_bill x15 [.int a1] p2.2)).bind fun p16 =>
      some (p16.1, p16.2)
    else 
      some ((-1), p2.2)
theorem e_X10_has {O : mO} {d : Nat} {a0 : Nat} {a1 : Int32} {a2 : Int32} {K : mH} {r0 : Int32} {K0 : mH} (h : F_X10_has O d a0 a1 a2 K = some (r0, K0)) : ev O (d + 1) MX10_has [.ref a0, .int a1, .int a2] K = some (some (.int r0), K0) := by
  refine Rn_evx ?_
  show Go O (d + 1) MX10_has 0 [some (.ref a0), some (.int a1), some (.int a2)] [] K _
  generalize hP : (fun (r : Option Value) (K' : mH) => (r, K') = (some (.int r0), K0)) = P
  have hret : ∀ (r : Int32) (K' : mH), (r, K') = (r0, K0) → P (some (.int r)) K' := by
    intro r K' e
    cases e
    subst hP
    rfl
  clear hP
  unfold F_X10_has at h
  refine g_aload_n dX10_has_0 rfl ?_
  obtain ⟨x1, ex1, h⟩ := bs h
  refine q_getA dX10_has_1 fX10_89 ex1 ?_
  refine g_iload_n dX10_has_4 rfl ?_
  obtain ⟨p2, ep2, h⟩ := bs h
  refine q_virt (Z := MX2_hasFamily) (c := (RX2, TX2, 18)) (toI_s ep2) dX10_has_5 mX10_137.1 mX10_137.2 (Nat.le_of_ble_eq_true rfl) rfl rfl (Nat.le_of_ble_eq_true rfl) (Nat.le_of_ble_eq_true rfl) rfl rfl ?_
  show Go O (d + 1) MX10_has 8 [some (.ref a0), some (.int a1), some (.int a2)] [.int p2.1] p2.2 P
  refine g_if_ne (t := 13) dX10_has_8 (by decide) (fun c3 => ?_) (fun c3 => ?_)
  · rw [if_neg c3] at h
    refine g_iload_n dX10_has_13 rfl ?_
    by_cases c4 : a2 = nI 0
    · rw [if_pos c4] at h
      refine g_tsI (t := 44) (off := 30) dX10_has_14 (by rw [c4]; decide) (by rw [c4]; decide) (by decide) ?_
      refine g_aload_n dX10_has_44 rfl ?_
      obtain ⟨x5, ex5, h⟩ := bs h
      refine q_getA dX10_has_45 fX10_89 ex5 ?_
      obtain ⟨x6, ex6, h⟩ := bs h
      refine q_getA dX10_has_48 fX10_134 ex6 ?_
      refine g_iload_n dX10_has_51 rfl ?_
      obtain ⟨x7, ex7, h⟩ := bs h
      refine q_iald dX10_has_52 ex7 ?_
      exact g_ireturn dX10_has_53 rfl (by first | rfl | decide) (hret _ _ (Option.some.inj h))
    rw [if_neg c4] at h
    by_cases c8 : a2 = nI 1
    · rw [if_pos c8] at h
      refine g_tsI (t := 54) (off := 40) dX10_has_14 (by rw [c8]; decide) (by rw [c8]; decide) (by decide) ?_
      refine g_aload_n dX10_has_54 rfl ?_
      obtain ⟨x9, ex9, h⟩ := bs h
      refine q_getA dX10_has_55 fX10_89 ex9 ?_
      refine g_iload_n dX10_has_58 rfl ?_
      obtain ⟨p10, ep10, h⟩ := bs h
      refine q_virt (Z := MX2_earned) (c := (RX2, TX2, 18)) (toI_s ep10) dX10_has_59 mX10_140.1 mX10_140.2 (Nat.le_of_ble_eq_true rfl) rfl rfl (Nat.le_of_ble_eq_true rfl) (Nat.le_of_ble_eq_true rfl) rfl rfl ?_
      show Go O (d + 1) MX10_has 62 [some (.ref a0), some (.int a1), some (.int a2)] [.int p10.1] p10.2 P
      exact g_ireturn dX10_has_62 rfl (by first | rfl | decide) (hret _ _ (Option.some.inj h))
    rw [if_neg c8] at h
    by_cases c11 : a2 = nI 2
    · rw [if_pos c11] at h
      refine g_tsI (t := 63) (off := 49) dX10_has_14 (by rw [c11]; decide) (by rw [c11]; decide) (by decide) ?_
      refine g_aload_n dX10_has_63 rfl ?_
      obtain ⟨x12, ex12, h⟩ := bs h
      refine q_getA dX10_has_64 fX10_89 ex12 ?_
      refine g_iload_n dX10_has_67 rfl ?_
      obtain ⟨p13, ep13, h⟩ := bs h
      refine q_virt (Z := MX2_deadOf) (c := (RX2, TX2, 18)) (toI_s ep13) dX10_has_68 mX10_143.1 mX10_143.2 (Nat.le_of_ble_eq_true rfl) rfl rfl (Nat.le_of_ble_eq_true rfl) (Nat.le_of_ble_eq_true rfl) rfl rfl ?_
      show Go O (d + 1) MX10_has 71 [some (.ref a0), some (.int a1), some (.int a2)] [.int p13.1] p13.2 P
      exact g_ireturn dX10_has_71 rfl (by first | rfl | decide) (hret _ _ (Option.some.inj h))
    rw [if_neg c11] at h
    by_cases c14 : a2 = nI 3
    · rw [if_pos c14] at h
      refine g_tsI (t := 72) (off := 58) dX10_has_14 (by rw [c14]; decide) (by rw [c14]; decide) (by decide) ?_
      refine g_aload_n dX10_has_72 rfl ?_
      obtain ⟨x15, ex15, h⟩ := bs h
      refine q_getA dX10_has_73 fX10_89 ex15 ?_
      refine g_iload_n dX10_has_76 rfl ?_
      obtain ⟨p16, ep16, h⟩ := bs h
      refine q_virt (Z := MX2_bill) (c := (RX2, TX2, 18)) (toI_s ep16) dX10_has_77 mX10_146.1 mX10_146.2 (Nat.le_of_ble_eq_true rfl) rfl rfl (Nat.le_of_ble_eq_true rfl) (Nat.le_of_ble_eq_true rfl) rfl rfl ?_
      show Go O (d + 1) MX10_has 80 [some (.ref a0), some (.int a1), some (.int a2)] [.int p16.1] p16.2 P
      exact g_ireturn dX10_has_80 rfl (by first | rfl | decide) (hret _ _ (Option.some.inj h))
    rw [if_neg c14] at h
    refine g_tsO (t := 81) dX10_has_14 ?_ (by decide) ?_
    rotate_left
    · skip
      refine g_iconst (v := (-1)) dX10_has_81 (by decide) ?_
      exact g_ireturn dX10_has_82 rfl (by first | rfl | decide) (hret _ _ (Option.some.inj h))
    have ic4 := ts_ne (by decide) c4
    have ic8 := ts_ne (by decide) c8
    have ic11 := ts_ne (by decide) c11
    have ic14 := ts_ne (by decide) c14
    omega
  · rw [if_pos c3] at h
    refine g_iconst (v := (-1)) dX10_has_11 (by decide) ?_
    exact g_ireturn dX10_has_12 rfl (by first | rfl | decide) (hret _ _ (Option.some.inj h))
noncomputable def F_X10_dead (O : mO) (d : Nat) (a0 : Nat) (a1 : Int32) (a2 : Int32) (a3 : Int32) (K : mH) : Option (Int32 × mH) :=
  (gtA K a0 10 10).bind fun x1 =>
  (toI (vc O d 2 MX2_whyNotDead x1 [.int a1, .int a2, .int a3] K)).bind fun p2 =>
  if p2.1 = 0 then
    (gtA p2.2 a0 10 10).bind fun x4 =>
    (toV (vc O d 2 MX2_addDead x4 [.int a1, .int a2, .int a3] p2.2)).bind fun K5 =>
    (gtA K5 a0 10 11).bind fun x6 =>
    (toV (vc O d 3 MX3_clear x6 [] K5)).bind fun K7 =>
    (gtA K7 a0 10 10).bind fun x8 =>
    (gtI K7 x8 2 13).bind fun x9 =>
    (toI (vc O d 10 MX10_granted a0 [.int (x9 - (nI 1))] K7)).bind fun p10 =>
    some (p10.1, p10.2)
  else
    (toI (vc O d 10 MX10_refused a0 [.int p2.1] p2.2)).bind fun p11 =>
    some (p11.1, p11.2)
theorem e_X10_dead {O : mO} {d : Nat} {a0 : Nat} {a1 : Int32} {a2 : Int32} {a3 : Int32} {K : mH} {r0 : Int32} {K0 : mH} (h : F_X10_dead O d a0 a1 a2 a3 K = some (r0, K0)) : ev O (d + 1) MX10_dead [.ref a0, .int a1, .int a2, .int a3] K = some (some (.int r0), K0) := by
  refine Rn_evx ?_
  show Go O (d + 1) MX10_dead 0 [some (.ref a0), some (.int a1), some (.int a2), some (.int a3), none] [] K _
  generalize hP : (fun (r : Option Value) (K' : mH) => (r, K') = (some (.int r0), K0)) = P
  have hret : ∀ (r : Int32) (K' : mH), (r, K') = (r0, K0) → P (some (.int r)) K' := by
    intro r K' e
    cases e
    subst hP
    rfl
  clear hP
  unfold F_X10_dead at h
  refine g_aload_n dX10_dead_0 rfl ?_
  obtain ⟨x1, ex1, h⟩ := bs h
  refine q_getA dX10_dead_1 fX10_89 ex1 ?_
  refine g_iload_n dX10_dead_4 rfl ?_
  refine g_iload_n dX10_dead_5 rfl ?_
  refine g_iload_n dX10_dead_6 rfl ?_
  obtain ⟨p2, ep2, h⟩ := bs h
  refine q_virt (Z := MX2_whyNotDead) (c := (RX2, TX2, 18)) (toI_s ep2) dX10_dead_7 mX10_149.1 mX10_149.2 (Nat.le_of_ble_eq_true rfl) rfl rfl (Nat.le_of_ble_eq_true rfl) (Nat.le_of_ble_eq_true rfl) rfl rfl ?_
  show Go O (d + 1) MX10_dead 10 [some (.ref a0), some (.int a1), some (.int a2), some (.int a3), none] [.int p2.1] p2.2 P
  refine g_istore (ls' := [some (.ref a0), some (.int a1), some (.int a2), some (.int a3), some (.int p2.1)]) dX10_dead_10 (by decide) rfl ?_
  refine g_iload dX10_dead_12 rfl ?_
  refine g_if_eq (t := 24) dX10_dead_14 (by decide) (fun c3 => ?_) (fun c3 => ?_)
  · rw [if_pos c3] at h
    refine g_aload_n dX10_dead_24 rfl ?_
    obtain ⟨x4, ex4, h⟩ := bs h
    refine q_getA dX10_dead_25 fX10_89 ex4 ?_
    refine g_iload_n dX10_dead_28 rfl ?_
    refine g_iload_n dX10_dead_29 rfl ?_
    refine g_iload_n dX10_dead_30 rfl ?_
    obtain ⟨K5, eK5, h⟩ := bs h
    refine q_virt (Z := MX2_addDead) (c := (RX2, TX2, 18)) (toV_s eK5) dX10_dead_31 mX10_153.1 mX10_153.2 (Nat.le_of_ble_eq_true rfl) rfl rfl (Nat.le_of_ble_eq_true rfl) (Nat.le_of_ble_eq_true rfl) rfl rfl ?_
    show Go O (d + 1) MX10_dead 34 [some (.ref a0), some (.int a1), some (.int a2), some (.int a3), some (.int p2.1)] [] K5 P
    refine g_aload_n dX10_dead_34 rfl ?_
    obtain ⟨x6, ex6, h⟩ := bs h
    refine q_getA dX10_dead_35 fX10_58 ex6 ?_
    obtain ⟨K7, eK7, h⟩ := bs h
    refine q_virt (Z := MX3_clear) (c := (RX3, TX3, 3)) (toV_s eK7) dX10_dead_38 mX10_115.1 mX10_115.2 (Nat.le_of_ble_eq_true rfl) rfl rfl (Nat.le_of_ble_eq_true rfl) (Nat.le_of_ble_eq_true rfl) rfl rfl ?_
    show Go O (d + 1) MX10_dead 41 [some (.ref a0), some (.int a1), some (.int a2), some (.int a3), some (.int p2.1)] [] K7 P
    refine g_aload_n dX10_dead_41 rfl ?_
    refine g_aload_n dX10_dead_42 rfl ?_
    obtain ⟨x8, ex8, h⟩ := bs h
    refine q_getA dX10_dead_43 fX10_89 ex8 ?_
    obtain ⟨x9, ex9, h⟩ := bs h
    refine q_getI dX10_dead_46 fX10_157 ex9 ?_
    refine g_iconst (v := (nI 1)) dX10_dead_49 (by decide) ?_
    refine g_isub dX10_dead_50 ?_
    obtain ⟨p10, ep10, h⟩ := bs h
    refine q_virt (Z := MX10_granted) (c := (RX10, TX10, 17)) (toI_s ep10) dX10_dead_51 mX10_118.1 mX10_118.2 (Nat.le_of_ble_eq_true rfl) rfl rfl (Nat.le_of_ble_eq_true rfl) (Nat.le_of_ble_eq_true rfl) rfl rfl ?_
    show Go O (d + 1) MX10_dead 54 [some (.ref a0), some (.int a1), some (.int a2), some (.int a3), some (.int p2.1)] [.int p10.1] p10.2 P
    exact g_ireturn dX10_dead_54 rfl (by first | rfl | decide) (hret _ _ (Option.some.inj h))
  · rw [if_neg c3] at h
    refine g_aload_n dX10_dead_17 rfl ?_
    refine g_iload dX10_dead_18 rfl ?_
    obtain ⟨p11, ep11, h⟩ := bs h
    refine q_virt (Z := MX10_refused) (c := (RX10, TX10, 17)) (toI_s ep11) dX10_dead_20 mX10_105.1 mX10_105.2 (Nat.le_of_ble_eq_true rfl) rfl rfl (Nat.le_of_ble_eq_true rfl) (Nat.le_of_ble_eq_true rfl) rfl rfl ?_
    show Go O (d + 1) MX10_dead 23 [some (.ref a0), some (.int a1), some (.int a2), some (.int a3), some (.int p2.1)] [.int p11.1] p11.2 P
    exact g_ireturn dX10_dead_23 rfl (by first | rfl | decide) (hret _ _ (Option.some.inj h))
noncomputable def F_X10_of (O : mO) (d : Nat) (a0 : Nat) (a1 : Int32) (a2 : Int32) (K : mH) : Option (Int32 × mH) :=
  (gtA K a0 10 10).bind fun x1 =>
  (toI (vc O d 2 MX2_hasDead x1 [.int a1] K)).bind fun p2 =>
  if p2.1 = 0 then
    some ((-100), p2.2)
  else
    if a2 = nI 0 then
      (gtA p2.2 a0 10 10).bind fun x5 =>
      (gtA p2.2 x5 2 3).bind fun x6 =>
      (rdI O p2.2 x6 a1).bind fun x7 =>
      some (x7, p2.2)
    else if a2 = nI 1 then
      (gtA p2.2 a0 10 10).bind fun x9 =>
      (gtA p2.2 x9 2 4).bind fun x10 =>
      (rdI O p2.2 x10 a1).bind fun x11 =>
      some (x11, p2.2)
    else if a2 = nI 2 then
      (gtA p2.2 a0 10 10).bind fun x13 =>
      (gtA p2.2 x13 2 5).bind fun x14 =>
      (rdI O p2.2 x14 a1).bind fun x15 =>
      some (x15, p2.2)
    else if a2 = nI 3 then
      (gtA p2.2 a0 10 10).bind fun x17 =>
      (gtI p2.2 x17 2 14).bind fun x18 =>
      some (((x18 >>> (a1 &&& 31)) &&& (nI 1)), p2.2)
    else if a2 = nI 4 then
      (gtA p2.2 a0 10 10).bind fun x20 =>
      (gtA p2.2 a0 10 10).bind fun x21 =>
      (toR (vc O d 2 MX2_inForce x21 [] p2.2)).bind fun p22 =>
      (toI (vc O d 2 MX2_told x20 [va_rf p22.1, .int (nI 0), .int a1] p22.2)).bind fun p23 =>
      some (p23.1, p23.2)
    else if a2 = nI 5 then
      (gtA p2.2 a0 10 10).bind fun x25 =>
      (gtA p2.2 a0 10 10).bind fun x26 =>
      (toR (vc O d 2 MX2_inForce x26 [] p2.2)).bind fun p27 =>
      (toI (vc O d 2 MX2_told x25 [va_rf p27.1, .int (nI 1), .int a1] p27.2)).bind fun p28 =>
      some (p28.1, p28.2)
    else 
      some ((-100), p2.2)
theorem e_X10_of {O : mO} {d : Nat} {a0 : Nat} {a1 : Int32} {a2 : Int32} {K : mH} {r0 : Int32} {K0 : mH} (h : F_X10_of O d a0 a1 a2 K = some (r0, K0)) : ev O (d + 1) MX10_of [.ref a0, .int a1, .int a2] K = some (some (.int r0), K0) := by
  refine Rn_evx ?_
  show Go O (d + 1) MX10_of 0 [some (.ref a0), some (.int a1), some (.int a2)] [] K _
  generalize hP : (fun (r : Option Value) (K' : mH) => (r, K') = (some (.int r0), K0)) = P
  have hret : ∀ (r : Int32) (K' : mH), (r, K') = (r0, K0) → P (some (.int r)) K' := by
    intro r K' e
    cases e
    subst hP
    rfl
  clear hP
  unfold F_X10_of at h
  refine g_aload_n dX10_of_0 rfl ?_
  obtain ⟨x1, ex1, h⟩ := bs h
  refine q_getA dX10_of_1 fX10_89 ex1 ?_
  refine g_iload_n dX10_of_4 rfl ?_
  obtain ⟨p2, ep2, h⟩ := bs h
  refine q_virt (Z := MX2_hasDead) (c := (RX2, TX2, 18)) (toI_s ep2) dX10_of_5 mX10_160.1 mX10_160.2 (Nat.le_of_ble_eq_true rfl) rfl rfl (Nat.le_of_ble_eq_true rfl) (Nat.le_of_ble_eq_true rfl) rfl rfl ?_
  show Go O (d + 1) MX10_of 8 [some (.ref a0), some (.int a1), some (.int a2)] [.int p2.1] p2.2 P
  refine g_if_ne (t := 14) dX10_of_8 (by decide) (fun c3 => ?_) (fun c3 => ?_)
  · rw [if_neg c3] at h
    refine g_iload_n dX10_of_14 rfl ?_
    by_cases c4 : a2 = nI 0
    · rw [if_pos c4] at h
      refine g_tsI (t := 52) (off := 37) dX10_of_15 (by rw [c4]; decide) (by rw [c4]; decide) (by decide) ?_
      refine g_aload_n dX10_of_52 rfl ?_
      obtain ⟨x5, ex5, h⟩ := bs h
      refine q_getA dX10_of_53 fX10_89 ex5 ?_
      obtain ⟨x6, ex6, h⟩ := bs h
      refine q_getA dX10_of_56 fX10_163 ex6 ?_
      refine g_iload_n dX10_of_59 rfl ?_
      obtain ⟨x7, ex7, h⟩ := bs h
      refine q_iald dX10_of_60 ex7 ?_
      exact g_ireturn dX10_of_61 rfl (by first | rfl | decide) (hret _ _ (Option.some.inj h))
    rw [if_neg c4] at h
    by_cases c8 : a2 = nI 1
    · rw [if_pos c8] at h
      refine g_tsI (t := 62) (off := 47) dX10_of_15 (by rw [c8]; decide) (by rw [c8]; decide) (by decide) ?_
      refine g_aload_n dX10_of_62 rfl ?_
      obtain ⟨x9, ex9, h⟩ := bs h
      refine q_getA dX10_of_63 fX10_89 ex9 ?_
      obtain ⟨x10, ex10, h⟩ := bs h
      refine q_getA dX10_of_66 fX10_166 ex10 ?_
      refine g_iload_n dX10_of_69 rfl ?_
      obtain ⟨x11, ex11, h⟩ := bs h
      refine q_iald dX10_of_70 ex11 ?_
      exact g_ireturn dX10_of_71 rfl (by first | rfl | decide) (hret _ _ (Option.some.inj h))
    rw [if_neg c8] at h
    by_cases c12 : a2 = nI 2
    · rw [if_pos c12] at h
      refine g_tsI (t := 72) (off := 57) dX10_of_15 (by rw [c12]; decide) (by rw [c12]; decide) (by decide) ?_
      refine g_aload_n dX10_of_72 rfl ?_
      obtain ⟨x13, ex13, h⟩ := bs h
      refine q_getA dX10_of_73 fX10_89 ex13 ?_
      obtain ⟨x14, ex14, h⟩ := bs h
      refine q_getA dX10_of_76 fX10_169 ex14 ?_
      refine g_iload_n dX10_of_79 rfl ?_
      obtain ⟨x15, ex15, h⟩ := bs h
      refine q_iald dX10_of_80 ex15 ?_
      exact g_ireturn dX10_of_81 rfl (by first | rfl | decide) (hret _ _ (Option.some.inj h))
    rw [if_neg c12] at h
    by_cases c16 : a2 = nI 3
    · rw [if_pos c16] at h
      refine g_tsI (t := 82) (off := 67) dX10_of_15 (by rw [c16]; decide) (by rw [c16]; decide) (by decide) ?_
      refine g_aload_n dX10_of_82 rfl ?_
      obtain ⟨x17, ex17, h⟩ := bs h
      refine q_getA dX10_of_83 fX10_89 ex17 ?_
      obtain ⟨x18, ex18, h⟩ := bs h
      refine q_getI dX10_of_86 fX10_172 ex18 ?_
      refine g_iload_n dX10_of_89 rfl ?_
      refine g_ishr dX10_of_90 ?_
      refine g_iconst (v := (nI 1)) dX10_of_91 (by decide) ?_
      refine g_iand dX10_of_92 ?_
      exact g_ireturn dX10_of_93 rfl (by first | rfl | decide) (hret _ _ (Option.some.inj h))
    rw [if_neg c16] at h
    by_cases c19 : a2 = nI 4
    · rw [if_pos c19] at h
      refine g_tsI (t := 94) (off := 79) dX10_of_15 (by rw [c19]; decide) (by rw [c19]; decide) (by decide) ?_
      refine g_aload_n dX10_of_94 rfl ?_
      obtain ⟨x20, ex20, h⟩ := bs h
      refine q_getA dX10_of_95 fX10_89 ex20 ?_
      refine g_aload_n dX10_of_98 rfl ?_
      obtain ⟨x21, ex21, h⟩ := bs h
      refine q_getA dX10_of_99 fX10_89 ex21 ?_
      obtain ⟨p22, ep22, h⟩ := bs h
      refine q_virt (Z := MX2_inForce) (c := (RX2, TX2, 18)) (toR_s ep22) dX10_of_102 mX10_175.1 mX10_175.2 (Nat.le_of_ble_eq_true rfl) rfl rfl (Nat.le_of_ble_eq_true rfl) (Nat.le_of_ble_eq_true rfl) rfl rfl ?_
      show Go O (d + 1) MX10_of 105 [some (.ref a0), some (.int a1), some (.int a2)] [va_rf p22.1, .ref x20] p22.2 P
      refine g_iconst (v := (nI 0)) dX10_of_105 (by decide) ?_
      refine g_iload_n dX10_of_106 rfl ?_
      obtain ⟨p23, ep23, h⟩ := bs h
      refine q_virt (Z := MX2_told) (c := (RX2, TX2, 18)) (toI_s ep23) dX10_of_107 mX10_179.1 mX10_179.2 (Nat.le_of_ble_eq_true rfl) rfl rfl (Nat.le_of_ble_eq_true rfl) (by cases p22.1 <;> exact Nat.le_of_ble_eq_true rfl) rfl rfl ?_
      show Go O (d + 1) MX10_of 110 [some (.ref a0), some (.int a1), some (.int a2)] [.int p23.1] p23.2 P
      exact g_ireturn dX10_of_110 rfl (by first | rfl | decide) (hret _ _ (Option.some.inj h))
    rw [if_neg c19] at h
    by_cases c24 : a2 = nI 5
    · rw [if_pos c24] at h
      refine g_tsI (t := 111) (off := 96) dX10_of_15 (by rw [c24]; decide) (by rw [c24]; decide) (by decide) ?_
      refine g_aload_n dX10_of_111 rfl ?_
      obtain ⟨x25, ex25, h⟩ := bs h
      refine q_getA dX10_of_112 fX10_89 ex25 ?_
      refine g_aload_n dX10_of_115 rfl ?_
      obtain ⟨x26, ex26, h⟩ := bs h
      refine q_getA dX10_of_116 fX10_89 ex26 ?_
      obtain ⟨p27, ep27, h⟩ := bs h
      refine q_virt (Z := MX2_inForce) (c := (RX2, TX2, 18)) (toR_s ep27) dX10_of_119 mX10_175.1 mX10_175.2 (Nat.le_of_ble_eq_true rfl) rfl rfl (Nat.le_of_ble_eq_true rfl) (Nat.le_of_ble_eq_true rfl) rfl rfl ?_
      show Go O (d + 1) MX10_of 122 [some (.ref a0), some (.int a1), some (.int a2)] [va_rf p27.1, .ref x25] p27.2 P
      refine g_iconst (v := (nI 1)) dX10_of_122 (by decide) ?_
      refine g_iload_n dX10_of_123 rfl ?_
      obtain ⟨p28, ep28, h⟩ := bs h
      refine q_virt (Z := MX2_told) (c := (RX2, TX2, 18)) (toI_s ep28) dX10_of_124 mX10_179.1 mX10_179.2 (Nat.le_of_ble_eq_true rfl) rfl rfl (Nat.le_of_ble_eq_true rfl) (by cases p27.1 <;> exact Nat.le_of_ble_eq_true rfl) rfl rfl ?_
      show Go O (d + 1) MX10_of 127 [some (.ref a0), some (.int a1), some (.int a2)] [.int p28.1] p28.2 P
      exact g_ireturn dX10_of_127 rfl (by first | rfl | decide) (hret _ _ (Option.some.inj h))
    rw [if_neg c24] at h
    refine g_tsO (t := 128) dX10_of_15 ?_ (by decide) ?_
    rotate_left
    · skip
      refine g_bipush (v := (-100)) dX10_of_128 (by decide) ?_
      exact g_ireturn dX10_of_130 rfl (by first | rfl | decide) (hret _ _ (Option.some.inj h))
    have ic4 := ts_ne (by decide) c4
    have ic8 := ts_ne (by decide) c8
    have ic12 := ts_ne (by decide) c12
    have ic16 := ts_ne (by decide) c16
    have ic19 := ts_ne (by decide) c19
    have ic24 := ts_ne (by decide) c24
    omega
  · rw [if_pos c3] at h
    refine g_bipush (v := (-100)) dX10_of_11 (by decide) ?_
    exact g_ireturn dX10_of_13 rfl (by first | rfl | decide) (hret _ _ (Option.some.inj h))
noncomputable def F_X10_asks (O : mO) (d : Nat) (a0 : Nat) (a1 : Int32) (a2 : Int32) (a3 : Int32) (K : mH) : Option (Int32 × mH) :=
  (gtA K a0 10 10).bind fun x1 =>
  (toI (vc O d 2 MX2_hasDead x1 [.int a1] K)).bind fun p2 =>
  if p2.1 = 0 then
    some ((-1), p2.2)
  else
    (gtA p2.2 a0 10 10).bind fun x4 =>
    (toI (vc O d 2 MX2_hasVault x4 [.int a2] p2.2)).bind fun p5 =>
    if p5.1 = 0 then
      some ((-1), p5.2)
    else
      if a3 = 0 then
        (gtA p5.2 a0 10 10).bind fun x12 =>
        (toI (vc O d 2 MX2_wishOf x12 [.int a1, .int a2] p5.2)).bind fun p13 =>
        some (p13.1, p13.2)
      else
        if a3 = (nI 1) then
          (gtA p5.2 a0 10 10).bind fun x9 =>
          (toI (vc O d 2 MX2_isBarred x9 [.int a1, .int a2] p5.2)).bind fun p10 =>
          some ((if p10.1 = 0 then (nI 0) else (nI 1)), p10.2)
        else
          some ((-1), p5.2)
theorem e_X10_asks {O : mO} {d : Nat} {a0 : Nat} {a1 : Int32} {a2 : Int32} {a3 : Int32} {K : mH} {r0 : Int32} {K0 : mH} (h : F_X10_asks O d a0 a1 a2 a3 K = some (r0, K0)) : ev O (d + 1) MX10_asks [.ref a0, .int a1, .int a2, .int a3] K = some (some (.int r0), K0) := by
  refine Rn_evx ?_
  show Go O (d + 1) MX10_asks 0 [some (.ref a0), some (.int a1), some (.int a2), some (.int a3)] [] K _
  generalize hP : (fun (r : Option Value) (K' : mH) => (r, K') = (some (.int r0), K0)) = P
  have hret : ∀ (r : Int32) (K' : mH), (r, K') = (r0, K0) → P (some (.int r)) K' := by
    intro r K' e
    cases e
    subst hP
    rfl
  clear hP
  unfold F_X10_asks at h
  refine g_aload_n dX10_asks_0 rfl ?_
  obtain ⟨x1, ex1, h⟩ := bs h
  refine q_getA dX10_asks_1 fX10_89 ex1 ?_
  refine g_iload_n dX10_asks_4 rfl ?_
  obtain ⟨p2, ep2, h⟩ := bs h
  refine q_virt (Z := MX2_hasDead) (c := (RX2, TX2, 18)) (toI_s ep2) dX10_asks_5 mX10_160.1 mX10_160.2 (Nat.le_of_ble_eq_true rfl) rfl rfl (Nat.le_of_ble_eq_true rfl) (Nat.le_of_ble_eq_true rfl) rfl rfl ?_
  show Go O (d + 1) MX10_asks 8 [some (.ref a0), some (.int a1), some (.int a2), some (.int a3)] [.int p2.1] p2.2 P
  refine g_if_eq (t := 22) dX10_asks_8 (by decide) (fun c3 => ?_) (fun c3 => ?_)
  · rw [if_pos c3] at h
    refine g_iconst (v := (-1)) dX10_asks_22 (by decide) ?_
    exact g_ireturn dX10_asks_23 rfl (by first | rfl | decide) (hret _ _ (Option.some.inj h))
  · rw [if_neg c3] at h
    refine g_aload_n dX10_asks_11 rfl ?_
    obtain ⟨x4, ex4, h⟩ := bs h
    refine q_getA dX10_asks_12 fX10_89 ex4 ?_
    refine g_iload_n dX10_asks_15 rfl ?_
    obtain ⟨p5, ep5, h⟩ := bs h
    refine q_virt (Z := MX2_hasVault) (c := (RX2, TX2, 18)) (toI_s ep5) dX10_asks_16 mX10_121.1 mX10_121.2 (Nat.le_of_ble_eq_true rfl) rfl rfl (Nat.le_of_ble_eq_true rfl) (Nat.le_of_ble_eq_true rfl) rfl rfl ?_
    show Go O (d + 1) MX10_asks 19 [some (.ref a0), some (.int a1), some (.int a2), some (.int a3)] [.int p5.1] p5.2 P
    refine g_if_ne (t := 24) dX10_asks_19 (by decide) (fun c6 => ?_) (fun c6 => ?_)
    · rw [if_neg c6] at h
      refine g_iload_n dX10_asks_24 rfl ?_
      refine g_if_ne (t := 38) dX10_asks_25 (by decide) (fun c7 => ?_) (fun c7 => ?_)
      · rw [if_neg c7] at h
        refine g_iload_n dX10_asks_38 rfl ?_
        refine g_iconst (v := (nI 1)) dX10_asks_39 (by decide) ?_
        refine g_ic_ne (t := 61) dX10_asks_40 (by decide) (fun c8 => ?_) (fun c8 => ?_)
        · rw [if_neg c8] at h
          refine g_iconst (v := (-1)) dX10_asks_61 (by decide) ?_
          exact g_ireturn dX10_asks_62 rfl (by first | rfl | decide) (hret _ _ (Option.some.inj h))
        · rw [if_pos c8] at h
          refine g_aload_n dX10_asks_43 rfl ?_
          obtain ⟨x9, ex9, h⟩ := bs h
          refine q_getA dX10_asks_44 fX10_89 ex9 ?_
          refine g_iload_n dX10_asks_47 rfl ?_
          refine g_iload_n dX10_asks_48 rfl ?_
          obtain ⟨p10, ep10, h⟩ := bs h
          refine q_virt (Z := MX2_isBarred) (c := (RX2, TX2, 18)) (toI_s ep10) dX10_asks_49 mX10_187.1 mX10_187.2 (Nat.le_of_ble_eq_true rfl) rfl rfl (Nat.le_of_ble_eq_true rfl) (Nat.le_of_ble_eq_true rfl) rfl rfl ?_
          show Go O (d + 1) MX10_asks 52 [some (.ref a0), some (.int a1), some (.int a2), some (.int a3)] [.int p10.1] p10.2 P
          have hj : Go O (d + 1) MX10_asks 60 [none, none, none, none] [.int (if p10.1 = 0 then (nI 0) else (nI 1))] p10.2 P := by
            exact g_ireturn dX10_asks_60 rfl (by first | rfl | decide) (hret _ _ (Option.some.inj h))
          refine g_if_eq (t := 59) dX10_asks_52 (by decide) (fun c11 => ?_) (fun c11 => ?_)
          · skip
            refine g_iconst (v := (nI 0)) dX10_asks_59 (by decide) ?_
            have hk : Go O (d + 1) MX10_asks 60 [none, none, none, none] [.int (nI 0)] p10.2 P := by simpa only [if_pos c11] using hj
            refine Go_le ?_ hk
            exact trivial
          · skip
            refine g_iconst (v := (nI 1)) dX10_asks_55 (by decide) ?_
            refine g_goto (t := 60) dX10_asks_56 (by decide) ?_
            have hk : Go O (d + 1) MX10_asks 60 [none, none, none, none] [.int (nI 1)] p10.2 P := by simpa only [if_neg c11] using hj
            refine Go_le ?_ hk
            exact trivial
      · rw [if_pos c7] at h
        refine g_aload_n dX10_asks_28 rfl ?_
        obtain ⟨x12, ex12, h⟩ := bs h
        refine q_getA dX10_asks_29 fX10_89 ex12 ?_
        refine g_iload_n dX10_asks_32 rfl ?_
        refine g_iload_n dX10_asks_33 rfl ?_
        obtain ⟨p13, ep13, h⟩ := bs h
        refine q_virt (Z := MX2_wishOf) (c := (RX2, TX2, 18)) (toI_s ep13) dX10_asks_34 mX10_183.1 mX10_183.2 (Nat.le_of_ble_eq_true rfl) rfl rfl (Nat.le_of_ble_eq_true rfl) (Nat.le_of_ble_eq_true rfl) rfl rfl ?_
        show Go O (d + 1) MX10_asks 37 [some (.ref a0), some (.int a1), some (.int a2), some (.int a3)] [.int p13.1] p13.2 P
        exact g_ireturn dX10_asks_37 rfl (by first | rfl | decide) (hret _ _ (Option.some.inj h))
    · rw [if_pos c6] at h
      refine g_iconst (v := (-1)) dX10_asks_22 (by decide) ?_
      exact g_ireturn dX10_asks_23 rfl (by first | rfl | decide) (hret _ _ (Option.some.inj h))
noncomputable def F_X10_wish_j10 (O : mO) (d : Nat) (v0 : Nat) (K : mH) : Option (Int32 × mH) :=
  (toI (vc O d 10 MX10_refused v0 [.int (-1)] K)).bind fun p2 =>
  some (p2.1, p2.2)
theorem e_X10_wish_j10 {O : mO} {d : Nat} {v0 : Nat} {K : mH} {P : Option Value → mH → Prop} {x : Int32 × mH} (hret : ∀ (r : Int32) (K' : mH), (r, K') = x → P (some (.int r)) K') (h : F_X10_wish_j10 O d v0 K = some x) : Go O (d + 1) MX10_wish 10 [some (.ref v0), none, none, none, none] [] K P := by
  unfold F_X10_wish_j10 at h
  refine g_aload_n dX10_wish_10 rfl ?_
  refine g_iconst (v := (-1)) dX10_wish_11 (by decide) ?_
  obtain ⟨p2, ep2, h⟩ := bs h
  refine q_virt (Z := MX10_refused) (c := (RX10, TX10, 17)) (toI_s ep2) dX10_wish_12 mX10_105.1 mX10_105.2 (Nat.le_of_ble_eq_true rfl) rfl rfl (Nat.le_of_ble_eq_true rfl) (Nat.le_of_ble_eq_true rfl) rfl rfl ?_
  show Go O (d + 1) MX10_wish 15 [some (.ref v0), none, none, none, none] [.int p2.1] p2.2 P
  exact g_ireturn dX10_wish_15 rfl (by first | rfl | decide) (hret _ _ (Option.some.inj h))
noncomputable def F_X10_wish_j38 (O : mO) (d : Nat) (v0 : Nat) (K : mH) : Option (Int32 × mH) :=
  (toI (vc O d 10 MX10_refused v0 [.int (-2)] K)).bind fun p7 =>
  some (p7.1, p7.2)
theorem e_X10_wish_j38 {O : mO} {d : Nat} {v0 : Nat} {K : mH} {P : Option Value → mH → Prop} {x : Int32 × mH} (hret : ∀ (r : Int32) (K' : mH), (r, K') = x → P (some (.int r)) K') (h : F_X10_wish_j38 O d v0 K = some x) : Go O (d + 1) MX10_wish 38 [some (.ref v0), none, none, none, none] [] K P := by
  unfold F_X10_wish_j38 at h
  refine g_aload_n dX10_wish_38 rfl ?_
  refine g_bipush (v := (-2)) dX10_wish_39 (by decide) ?_
  obtain ⟨p7, ep7, h⟩ := bs h
  refine q_virt (Z := MX10_refused) (c := (RX10, TX10, 17)) (toI_s ep7) dX10_wish_41 mX10_105.1 mX10_105.2 (Nat.le_of_ble_eq_true rfl) rfl rfl (Nat.le_of_ble_eq_true rfl) (Nat.le_of_ble_eq_true rfl) rfl rfl ?_
  show Go O (d + 1) MX10_wish 44 [some (.ref v0), none, none, none, none] [.int p7.1] p7.2 P
  exact g_ireturn dX10_wish_44 rfl (by first | rfl | decide) (hret _ _ (Option.some.inj h))
noncomputable def F_X10_wish (O : mO) (d : Nat) (a0 : Nat) (a1 : Int32) (a2 : Int32) (a3 : Int32) (K : mH) : Option (Int32 × mH) :=
  if a3 < 0 then
    F_X10_wish_j10 O d a0 K
  else
    if a3 ≤ (nI 9) then
      (gtA K a0 10 10).bind fun x4 =>
      (toI (vc O d 2 MX2_hasDead x4 [.int a1] K)).bind fun p5 =>
      if p5.1 = 0 then
        F_X10_wish_j38 O d a0 p5.2
      else
        (gtA p5.2 a0 10 10).bind fun x8 =>
        (toI (vc O d 2 MX2_hasVault x8 [.int a2] p5.2)).bind fun p9 =>
        if p9.1 = 0 then
          F_X10_wish_j38 O d a0 p9.2
        else
          (gtA p9.2 a0 10 10).bind fun x11 =>
          (toI (vc O d 2 MX2_wishOf x11 [.int a1, .int a2] p9.2)).bind fun p12 =>
          (gtA p12.2 a0 10 10).bind fun x13 =>
          (gtA p12.2 x13 2 6).bind fun x14 =>
          (wrI p12.2 x14 ((a1 * (nI 5)) + a2) a3).bind fun K15 =>
          (toI (vc O d 10 MX10_granted a0 [.int p12.1] K15)).bind fun p16 =>
          some (p16.1, p16.2)
    else
      F_X10_wish_j10 O d a0 K
theorem e_X10_wish {O : mO} {d : Nat} {a0 : Nat} {a1 : Int32} {a2 : Int32} {a3 : Int32} {K : mH} {r0 : Int32} {K0 : mH} (h : F_X10_wish O d a0 a1 a2 a3 K = some (r0, K0)) : ev O (d + 1) MX10_wish [.ref a0, .int a1, .int a2, .int a3] K = some (some (.int r0), K0) := by
  refine Rn_evx ?_
  show Go O (d + 1) MX10_wish 0 [some (.ref a0), some (.int a1), some (.int a2), some (.int a3), none] [] K _
  generalize hP : (fun (r : Option Value) (K' : mH) => (r, K') = (some (.int r0), K0)) = P
  have hret : ∀ (r : Int32) (K' : mH), (r, K') = (r0, K0) → P (some (.int r)) K' := by
    intro r K' e
    cases e
    subst hP
    rfl
  clear hP
  unfold F_X10_wish at h
  refine g_iload_n dX10_wish_0 rfl ?_
  refine g_if_lt (t := 10) dX10_wish_1 (by decide) (fun c1 => ?_) (fun c1 => ?_)
  · rw [if_pos c1] at h
    refine Go_le ?_ (e_X10_wish_j10 hret h)
    exact And.intro rfl (trivial)
  · rw [if_neg c1] at h
    refine g_iload_n dX10_wish_4 rfl ?_
    refine g_bipush (v := (nI 9)) dX10_wish_5 (by decide) ?_
    refine g_ic_le (t := 16) dX10_wish_7 (by decide) (fun c3 => ?_) (fun c3 => ?_)
    · rw [if_pos c3] at h
      refine g_aload_n dX10_wish_16 rfl ?_
      obtain ⟨x4, ex4, h⟩ := bs h
      refine q_getA dX10_wish_17 fX10_89 ex4 ?_
      refine g_iload_n dX10_wish_20 rfl ?_
      obtain ⟨p5, ep5, h⟩ := bs h
      refine q_virt (Z := MX2_hasDead) (c := (RX2, TX2, 18)) (toI_s ep5) dX10_wish_21 mX10_160.1 mX10_160.2 (Nat.le_of_ble_eq_true rfl) rfl rfl (Nat.le_of_ble_eq_true rfl) (Nat.le_of_ble_eq_true rfl) rfl rfl ?_
      show Go O (d + 1) MX10_wish 24 [some (.ref a0), some (.int a1), some (.int a2), some (.int a3), none] [.int p5.1] p5.2 P
      refine g_if_eq (t := 38) dX10_wish_24 (by decide) (fun c6 => ?_) (fun c6 => ?_)
      · rw [if_pos c6] at h
        refine Go_le ?_ (e_X10_wish_j38 hret h)
        exact And.intro rfl (trivial)
      · rw [if_neg c6] at h
        refine g_aload_n dX10_wish_27 rfl ?_
        obtain ⟨x8, ex8, h⟩ := bs h
        refine q_getA dX10_wish_28 fX10_89 ex8 ?_
        refine g_iload_n dX10_wish_31 rfl ?_
        obtain ⟨p9, ep9, h⟩ := bs h
        refine q_virt (Z := MX2_hasVault) (c := (RX2, TX2, 18)) (toI_s ep9) dX10_wish_32 mX10_121.1 mX10_121.2 (Nat.le_of_ble_eq_true rfl) rfl rfl (Nat.le_of_ble_eq_true rfl) (Nat.le_of_ble_eq_true rfl) rfl rfl ?_
        show Go O (d + 1) MX10_wish 35 [some (.ref a0), some (.int a1), some (.int a2), some (.int a3), none] [.int p9.1] p9.2 P
        refine g_if_ne (t := 45) dX10_wish_35 (by decide) (fun c10 => ?_) (fun c10 => ?_)
        · rw [if_neg c10] at h
          refine g_aload_n dX10_wish_45 rfl ?_
          obtain ⟨x11, ex11, h⟩ := bs h
          refine q_getA dX10_wish_46 fX10_89 ex11 ?_
          refine g_iload_n dX10_wish_49 rfl ?_
          refine g_iload_n dX10_wish_50 rfl ?_
          obtain ⟨p12, ep12, h⟩ := bs h
          refine q_virt (Z := MX2_wishOf) (c := (RX2, TX2, 18)) (toI_s ep12) dX10_wish_51 mX10_183.1 mX10_183.2 (Nat.le_of_ble_eq_true rfl) rfl rfl (Nat.le_of_ble_eq_true rfl) (Nat.le_of_ble_eq_true rfl) rfl rfl ?_
          show Go O (d + 1) MX10_wish 54 [some (.ref a0), some (.int a1), some (.int a2), some (.int a3), none] [.int p12.1] p12.2 P
          refine g_istore (ls' := [some (.ref a0), some (.int a1), some (.int a2), some (.int a3), some (.int p12.1)]) dX10_wish_54 (by decide) rfl ?_
          refine g_aload_n dX10_wish_56 rfl ?_
          obtain ⟨x13, ex13, h⟩ := bs h
          refine q_getA dX10_wish_57 fX10_89 ex13 ?_
          obtain ⟨x14, ex14, h⟩ := bs h
          refine q_getA dX10_wish_60 fX10_191 ex14 ?_
          refine g_iload_n dX10_wish_63 rfl ?_
          refine g_iconst (v := (nI 5)) dX10_wish_64 (by decide) ?_
          refine g_imul dX10_wish_65 ?_
          refine g_iload_n dX10_wish_66 rfl ?_
          refine g_iadd dX10_wish_67 ?_
          refine g_iload_n dX10_wish_68 rfl ?_
          obtain ⟨K15, eK15, h⟩ := bs h
          refine q_iast dX10_wish_69 eK15 ?_
          refine g_aload_n dX10_wish_70 rfl ?_
          refine g_iload dX10_wish_71 rfl ?_
          obtain ⟨p16, ep16, h⟩ := bs h
          refine q_virt (Z := MX10_granted) (c := (RX10, TX10, 17)) (toI_s ep16) dX10_wish_73 mX10_118.1 mX10_118.2 (Nat.le_of_ble_eq_true rfl) rfl rfl (Nat.le_of_ble_eq_true rfl) (Nat.le_of_ble_eq_true rfl) rfl rfl ?_
          show Go O (d + 1) MX10_wish 76 [some (.ref a0), some (.int a1), some (.int a2), some (.int a3), some (.int p12.1)] [.int p16.1] p16.2 P
          exact g_ireturn dX10_wish_76 rfl (by first | rfl | decide) (hret _ _ (Option.some.inj h))
        · rw [if_pos c10] at h
          refine Go_le ?_ (e_X10_wish_j38 hret h)
          exact And.intro rfl (trivial)
    · rw [if_neg c3] at h
      refine Go_le ?_ (e_X10_wish_j10 hret h)
      exact And.intro rfl (trivial)
noncomputable def F_X10_terms_j25 (O : mO) (d : Nat) (v0 : Nat) (K : mH) : Option (Int32 × mH) :=
  (toI (vc O d 10 MX10_refused v0 [.int (-1)] K)).bind fun p2 =>
  some (p2.1, p2.2)
theorem e_X10_terms_j25 {O : mO} {d : Nat} {v0 : Nat} {K : mH} {P : Option Value → mH → Prop} {x : Int32 × mH} (hret : ∀ (r : Int32) (K' : mH), (r, K') = x → P (some (.int r)) K') (h : F_X10_terms_j25 O d v0 K = some x) : Go O (d + 1) MX10_terms 25 [some (.ref v0), none, none, none] [] K P := by
  unfold F_X10_terms_j25 at h
  refine g_aload_n dX10_terms_25 rfl ?_
  refine g_iconst (v := (-1)) dX10_terms_26 (by decide) ?_
  obtain ⟨p2, ep2, h⟩ := bs h
  refine q_virt (Z := MX10_refused) (c := (RX10, TX10, 17)) (toI_s ep2) dX10_terms_27 mX10_105.1 mX10_105.2 (Nat.le_of_ble_eq_true rfl) rfl rfl (Nat.le_of_ble_eq_true rfl) (Nat.le_of_ble_eq_true rfl) rfl rfl ?_
  show Go O (d + 1) MX10_terms 30 [some (.ref v0), none, none, none] [.int p2.1] p2.2 P
  exact g_ireturn dX10_terms_30 rfl (by first | rfl | decide) (hret _ _ (Option.some.inj h))
noncomputable def F_X10_terms (O : mO) (d : Nat) (a0 : Nat) (a1 : Int32) (a2 : Int32) (K : mH) : Option (Int32 × mH) :=
  if a1 < 0 then
    F_X10_terms_j25 O d a0 K
  else
    (lnA O K (oB + 1)).bind fun x3 =>
    if x3 ≤ a1 then
      F_X10_terms_j25 O d a0 K
    else
      if a2 < 0 then
        F_X10_terms_j25 O d a0 K
      else
        (rdI O K (oB + 1) a1).bind fun x6 =>
        if a2 ≤ x6 then
          (gtA K a0 10 10).bind fun x8 =>
          (gtA K x8 2 9).bind fun x9 =>
          (rdI O K x9 a1).bind fun x10 =>
          (gtA K a0 10 10).bind fun x11 =>
          (gtA K x11 2 9).bind fun x12 =>
          (wrI K x12 a1 a2).bind fun K13 =>
          (gtA K13 a0 10 11).bind fun x14 =>
          (toV (vc O d 3 MX3_clear x14 [] K13)).bind fun K15 =>
          (toI (vc O d 10 MX10_granted a0 [.int x10] K15)).bind fun p16 =>
          some (p16.1, p16.2)
        else
          F_X10_terms_j25 O d a0 K
theorem e_X10_terms {O : mO} {d : Nat} {a0 : Nat} {a1 : Int32} {a2 : Int32} {K : mH} {r0 : Int32} {K0 : mH} (h : F_X10_terms O d a0 a1 a2 K = some (r0, K0)) : ev O (d + 1) MX10_terms [.ref a0, .int a1, .int a2] K = some (some (.int r0), K0) := by
  refine Rn_evx ?_
  show Go O (d + 1) MX10_terms 0 [some (.ref a0), some (.int a1), some (.int a2), none] [] K _
  generalize hP : (fun (r : Option Value) (K' : mH) => (r, K') = (some (.int r0), K0)) = P
  have hret : ∀ (r : Int32) (K' : mH), (r, K') = (r0, K0) → P (some (.int r)) K' := by
    intro r K' e
    cases e
    subst hP
    rfl
  clear hP
  unfold F_X10_terms at h
  refine g_iload_n dX10_terms_0 rfl ?_
  refine g_if_lt (t := 25) dX10_terms_1 (by decide) (fun c1 => ?_) (fun c1 => ?_)
  · rw [if_pos c1] at h
    refine Go_le ?_ (e_X10_terms_j25 hret h)
    exact And.intro rfl (trivial)
  · rw [if_neg c1] at h
    refine g_iload_n dX10_terms_4 rfl ?_
    refine g_gets (M := MX10_terms) dX10_terms_5 fX10_194 ?_
    obtain ⟨x3, ex3, h⟩ := bs h
    refine q_alen dX10_terms_8 ex3 ?_
    refine g_ic_ge (t := 25) dX10_terms_9 (by decide) (fun c4 => ?_) (fun c4 => ?_)
    · rw [if_pos c4] at h
      refine Go_le ?_ (e_X10_terms_j25 hret h)
      exact And.intro rfl (trivial)
    · rw [if_neg c4] at h
      refine g_iload_n dX10_terms_12 rfl ?_
      refine g_if_lt (t := 25) dX10_terms_13 (by decide) (fun c5 => ?_) (fun c5 => ?_)
      · rw [if_pos c5] at h
        refine Go_le ?_ (e_X10_terms_j25 hret h)
        exact And.intro rfl (trivial)
      · rw [if_neg c5] at h
        refine g_iload_n dX10_terms_16 rfl ?_
        refine g_gets (M := MX10_terms) dX10_terms_17 fX10_194 ?_
        refine g_iload_n dX10_terms_20 rfl ?_
        obtain ⟨x6, ex6, h⟩ := bs h
        refine q_iald dX10_terms_21 ex6 ?_
        refine g_ic_le (t := 31) dX10_terms_22 (by decide) (fun c7 => ?_) (fun c7 => ?_)
        · rw [if_pos c7] at h
          refine g_aload_n dX10_terms_31 rfl ?_
          obtain ⟨x8, ex8, h⟩ := bs h
          refine q_getA dX10_terms_32 fX10_89 ex8 ?_
          obtain ⟨x9, ex9, h⟩ := bs h
          refine q_getA dX10_terms_35 fX10_197 ex9 ?_
          refine g_iload_n dX10_terms_38 rfl ?_
          obtain ⟨x10, ex10, h⟩ := bs h
          refine q_iald dX10_terms_39 ex10 ?_
          refine g_istore_n (ls' := [some (.ref a0), some (.int a1), some (.int a2), some (.int x10)]) dX10_terms_40 (by decide) rfl ?_
          refine g_aload_n dX10_terms_41 rfl ?_
          obtain ⟨x11, ex11, h⟩ := bs h
          refine q_getA dX10_terms_42 fX10_89 ex11 ?_
          obtain ⟨x12, ex12, h⟩ := bs h
          refine q_getA dX10_terms_45 fX10_197 ex12 ?_
          refine g_iload_n dX10_terms_48 rfl ?_
          refine g_iload_n dX10_terms_49 rfl ?_
          obtain ⟨K13, eK13, h⟩ := bs h
          refine q_iast dX10_terms_50 eK13 ?_
          refine g_aload_n dX10_terms_51 rfl ?_
          obtain ⟨x14, ex14, h⟩ := bs h
          refine q_getA dX10_terms_52 fX10_58 ex14 ?_
          obtain ⟨K15, eK15, h⟩ := bs h
          refine q_virt (Z := MX3_clear) (c := (RX3, TX3, 3)) (toV_s eK15) dX10_terms_55 mX10_115.1 mX10_115.2 (Nat.le_of_ble_eq_true rfl) rfl rfl (Nat.le_of_ble_eq_true rfl) (Nat.le_of_ble_eq_true rfl) rfl rfl ?_
          show Go O (d + 1) MX10_terms 58 [some (.ref a0), some (.int a1), some (.int a2), some (.int x10)] [] K15 P
          refine g_aload_n dX10_terms_58 rfl ?_
          refine g_iload_n dX10_terms_59 rfl ?_
          obtain ⟨p16, ep16, h⟩ := bs h
          refine q_virt (Z := MX10_granted) (c := (RX10, TX10, 17)) (toI_s ep16) dX10_terms_60 mX10_118.1 mX10_118.2 (Nat.le_of_ble_eq_true rfl) rfl rfl (Nat.le_of_ble_eq_true rfl) (Nat.le_of_ble_eq_true rfl) rfl rfl ?_
          show Go O (d + 1) MX10_terms 63 [some (.ref a0), some (.int a1), some (.int a2), some (.int x10)] [.int p16.1] p16.2 P
          exact g_ireturn dX10_terms_63 rfl (by first | rfl | decide) (hret _ _ (Option.some.inj h))
        · rw [if_neg c7] at h
          refine Go_le ?_ (e_X10_terms_j25 hret h)
          exact And.intro rfl (trivial)
noncomputable def F_X10_feed (O : mO) (d : Nat) (a0 : Nat) (a1 : Int32) (a2 : Int32) (a3 : Int32) (a4 : Int32) (a5 : Int32) (K : mH) : Option (Int32 × mH) :=
  (gtI K a0 10 12).bind fun x1 =>
  if x1 ≤ (nI 380) then
    (toV (vc O d 10 MX10_putBytes a0 [.int a1] K)).bind fun K3 =>
    (toV (vc O d 10 MX10_putBytes a0 [.int a2] K3)).bind fun K4 =>
    (toV (vc O d 10 MX10_putBytes a0 [.int a3] K4)).bind fun K5 =>
    (toV (vc O d 10 MX10_putBytes a0 [.int a4] K5)).bind fun K6 =>
    (toV (vc O d 10 MX10_putBytes a0 [.int a5] K6)).bind fun K7 =>
    (gtI K7 a0 10 12).bind fun x8 =>
    some (x8, K7)
  else
    some ((-1), K)
theorem e_X10_feed {O : mO} {d : Nat} {a0 : Nat} {a1 : Int32} {a2 : Int32} {a3 : Int32} {a4 : Int32} {a5 : Int32} {K : mH} {r0 : Int32} {K0 : mH} (h : F_X10_feed O d a0 a1 a2 a3 a4 a5 K = some (r0, K0)) : ev O (d + 1) MX10_feed [.ref a0, .int a1, .int a2, .int a3, .int a4, .int a5] K = some (some (.int r0), K0) := by
  refine Rn_evx ?_
  show Go O (d + 1) MX10_feed 0 [some (.ref a0), some (.int a1), some (.int a2), some (.int a3), some (.int a4), some (.int a5)] [] K _
  generalize hP : (fun (r : Option Value) (K' : mH) => (r, K') = (some (.int r0), K0)) = P
  have hret : ∀ (r : Int32) (K' : mH), (r, K') = (r0, K0) → P (some (.int r)) K' := by
    intro r K' e
    cases e
    subst hP
    rfl
  clear hP
  unfold F_X10_feed at h
  refine g_aload_n dX10_feed_0 rfl ?_
  obtain ⟨x1, ex1, h⟩ := bs h
  refine q_getI dX10_feed_1 fX10_62 ex1 ?_
  refine g_sipush (v := (nI 380)) dX10_feed_4 (by decide) ?_
  refine g_ic_le (t := 12) dX10_feed_7 (by decide) (fun c2 => ?_) (fun c2 => ?_)
  · rw [if_pos c2] at h
    refine g_aload_n dX10_feed_12 rfl ?_
    refine g_iload_n dX10_feed_13 rfl ?_
    obtain ⟨K3, eK3, h⟩ := bs h
    refine q_virt (Z := MX10_putBytes) (c := (RX10, TX10, 17)) (toV_s eK3) dX10_feed_14 mX10_200.1 mX10_200.2 (Nat.le_of_ble_eq_true rfl) rfl rfl (Nat.le_of_ble_eq_true rfl) (Nat.le_of_ble_eq_true rfl) rfl rfl ?_
    show Go O (d + 1) MX10_feed 17 [some (.ref a0), some (.int a1), some (.int a2), some (.int a3), some (.int a4), some (.int a5)] [] K3 P
    refine g_aload_n dX10_feed_17 rfl ?_
    refine g_iload_n dX10_feed_18 rfl ?_
    obtain ⟨K4, eK4, h⟩ := bs h
    refine q_virt (Z := MX10_putBytes) (c := (RX10, TX10, 17)) (toV_s eK4) dX10_feed_19 mX10_200.1 mX10_200.2 (Nat.le_of_ble_eq_true rfl) rfl rfl (Nat.le_of_ble_eq_true rfl) (Nat.le_of_ble_eq_true rfl) rfl rfl ?_
    show Go O (d + 1) MX10_feed 22 [some (.ref a0), some (.int a1), some (.int a2), some (.int a3), some (.int a4), some (.int a5)] [] K4 P
    refine g_aload_n dX10_feed_22 rfl ?_
    refine g_iload_n dX10_feed_23 rfl ?_
    obtain ⟨K5, eK5, h⟩ := bs h
    refine q_virt (Z := MX10_putBytes) (c := (RX10, TX10, 17)) (toV_s eK5) dX10_feed_24 mX10_200.1 mX10_200.2 (Nat.le_of_ble_eq_true rfl) rfl rfl (Nat.le_of_ble_eq_true rfl) (Nat.le_of_ble_eq_true rfl) rfl rfl ?_
    show Go O (d + 1) MX10_feed 27 [some (.ref a0), some (.int a1), some (.int a2), some (.int a3), some (.int a4), some (.int a5)] [] K5 P
    refine g_aload_n dX10_feed_27 rfl ?_
    refine g_iload dX10_feed_28 rfl ?_
    obtain ⟨K6, eK6, h⟩ := bs h
    refine q_virt (Z := MX10_putBytes) (c := (RX10, TX10, 17)) (toV_s eK6) dX10_feed_30 mX10_200.1 mX10_200.2 (Nat.le_of_ble_eq_true rfl) rfl rfl (Nat.le_of_ble_eq_true rfl) (Nat.le_of_ble_eq_true rfl) rfl rfl ?_
    show Go O (d + 1) MX10_feed 33 [some (.ref a0), some (.int a1), some (.int a2), some (.int a3), some (.int a4), some (.int a5)] [] K6 P
    refine g_aload_n dX10_feed_33 rfl ?_
    refine g_iload dX10_feed_34 rfl ?_
    obtain ⟨K7, eK7, h⟩ := bs h
    refine q_virt (Z := MX10_putBytes) (c := (RX10, TX10, 17)) (toV_s eK7) dX10_feed_36 mX10_200.1 mX10_200.2 (Nat.le_of_ble_eq_true rfl) rfl rfl (Nat.le_of_ble_eq_true rfl) (Nat.le_of_ble_eq_true rfl) rfl rfl ?_
    show Go O (d + 1) MX10_feed 39 [some (.ref a0), some (.int a1), some (.int a2), some (.int a3), some (.int a4), some (.int a5)] [] K7 P
    refine g_aload_n dX10_feed_39 rfl ?_
    obtain ⟨x8, ex8, h⟩ := bs h
    refine q_getI dX10_feed_40 fX10_62 ex8 ?_
    exact g_ireturn dX10_feed_43 rfl (by first | rfl | decide) (hret _ _ (Option.some.inj h))
  · rw [if_neg c2] at h
    refine g_iconst (v := (-1)) dX10_feed_10 (by decide) ?_
    exact g_ireturn dX10_feed_11 rfl (by first | rfl | decide) (hret _ _ (Option.some.inj h))
noncomputable def F_X10_end (O : mO) (d : Nat) (a0 : Nat) (a1 : Int32) (K : mH) : Option (Int32 × mH) :=
  if a1 < 0 then
    some ((-1), K)
  else
    (gtI K a0 10 12).bind fun x2 =>
    if a1 ≤ x2 then
      (ptI K a0 10 12 a1).bind fun K4 =>
      some (a1, K4)
    else
      some ((-1), K)
theorem e_X10_end {O : mO} {d : Nat} {a0 : Nat} {a1 : Int32} {K : mH} {r0 : Int32} {K0 : mH} (h : F_X10_end O d a0 a1 K = some (r0, K0)) : ev O (d + 1) MX10_end [.ref a0, .int a1] K = some (some (.int r0), K0) := by
  refine Rn_evx ?_
  show Go O (d + 1) MX10_end 0 [some (.ref a0), some (.int a1)] [] K _
  generalize hP : (fun (r : Option Value) (K' : mH) => (r, K') = (some (.int r0), K0)) = P
  have hret : ∀ (r : Int32) (K' : mH), (r, K') = (r0, K0) → P (some (.int r)) K' := by
    intro r K' e
    cases e
    subst hP
    rfl
  clear hP
  unfold F_X10_end at h
  refine g_iload_n dX10_end_0 rfl ?_
  refine g_if_lt (t := 12) dX10_end_1 (by decide) (fun c1 => ?_) (fun c1 => ?_)
  · rw [if_pos c1] at h
    refine g_iconst (v := (-1)) dX10_end_12 (by decide) ?_
    exact g_ireturn dX10_end_13 rfl (by first | rfl | decide) (hret _ _ (Option.some.inj h))
  · rw [if_neg c1] at h
    refine g_iload_n dX10_end_4 rfl ?_
    refine g_aload_n dX10_end_5 rfl ?_
    obtain ⟨x2, ex2, h⟩ := bs h
    refine q_getI dX10_end_6 fX10_62 ex2 ?_
    refine g_ic_le (t := 14) dX10_end_9 (by decide) (fun c3 => ?_) (fun c3 => ?_)
    · rw [if_pos c3] at h
      refine g_aload_n dX10_end_14 rfl ?_
      refine g_iload_n dX10_end_15 rfl ?_
      obtain ⟨K4, eK4, h⟩ := bs h
      refine q_put (c := (RX10, TX10, 17)) dX10_end_16 fX10_62 rfl rfl rfl (fun h => absurd h (by decide)) eK4 ?_
      refine g_iload_n dX10_end_19 rfl ?_
      exact g_ireturn dX10_end_20 rfl (by first | rfl | decide) (hret _ _ (Option.some.inj h))
    · rw [if_neg c3] at h
      refine g_iconst (v := (-1)) dX10_end_12 (by decide) ?_
      exact g_ireturn dX10_end_13 rfl (by first | rfl | decide) (hret _ _ (Option.some.inj h))
noncomputable def F_X10_row_l26 (O : mO) (d : Nat) (v0 : Nat) (v1 : Int32) (s2 : Int32) (s3 : Int32) (s4 : Int32) (K : mH) : Option ((Int32 × Int32 × Int32 × mH) ⊕ (Int32 × Int32 × mH)) :=
  if v1 ≤ s4 then
    some (.inr (s2, s3, K))
  else
    if v1 ≤ (s4 + (nI 2)) then
      some (.inl (s2, (s3 + nI 1), (s4 + nI 3), K))
    else
      (gtA K v0 10 5).bind fun x7 =>
      (rdB O K x7 s4).bind fun x8 =>
      (gtA K v0 10 5).bind fun x9 =>
      (rdB O K x9 (s4 + (nI 1))).bind fun x10 =>
      (gtA K v0 10 5).bind fun x11 =>
      (rdB O K x11 (s4 + (nI 2))).bind fun x12 =>
      (toI (vc O d 10 MX10_comes v0 [.int (x8 &&& (nI 255)), .int (x10 &&& (nI 255)), .int (x12 &&& (nI 255))] K)).bind fun p13 =>
      some (.inl ((if p13.1 = 0 then s2 else (s2 + nI 1)), (if p13.1 = 0 then (s3 + nI 1) else s3), (s4 + nI 3), p13.2))
theorem e_X10_row_l26 {O : mO} {d : Nat} {v0 : Nat} {v1 : Int32} {P : Option Value → mH → Prop} {x : Int32 × Int32 × mH} (hex : ∀ q : Int32 × Int32 × mH, x = q → Go O (d + 1) MX10_row 99 [some (.ref v0), none, some (.int q.1), some (.int q.2.1), none] [] q.2.2 P) : ∀ (f : Nat) (q : Int32 × Int32 × Int32 × mH), lupF (fun (q : Int32 × Int32 × Int32 × mH) => F_X10_row_l26 O d v0 v1 q.1 q.2.1 q.2.2.1 q.2.2.2) f q = some x → Go O (d + 1) MX10_row 26 [some (.ref v0), some (.int v1), some (.int q.1), some (.int q.2.1), some (.int q.2.2.1)] [] q.2.2.2 P := by
  intro f
  induction f with
  | zero =>
    intro q h
    cases h
  | succ f ih =>
    intro q h
    obtain ⟨y, h, hy1, hy2⟩ := lupF_s h
    have hin : ∀ q : Int32 × Int32 × Int32 × mH, y = .inl q → Go O (d + 1) MX10_row 26 [some (.ref v0), some (.int v1), some (.int q.1), some (.int q.2.1), some (.int q.2.2.1)] [] q.2.2.2 P := fun q e => ih q (hy1 q e)
    replace hex : ∀ q : Int32 × Int32 × mH, y = .inr q → Go O (d + 1) MX10_row 99 [some (.ref v0), none, some (.int q.1), some (.int q.2.1), none] [] q.2.2 P := fun q e => hex q (hy2 q e).symm
    clear ih hy1 hy2
    obtain ⟨s2, s3, s4, K⟩ := q
    dsimp only at h ⊢
    unfold F_X10_row_l26 at h
    refine g_iload dX10_row_26 rfl ?_
    refine g_iload_n dX10_row_28 rfl ?_
    refine g_ic_ge (t := 99) dX10_row_29 (by decide) (fun c4 => ?_) (fun c4 => ?_)
    · rw [if_pos c4] at h
      refine Go_le ?_ (hex (s2, s3, K) (Option.some.inj h).symm)
      exact And.intro rfl (And.intro rfl (And.intro rfl (trivial)))
    · rw [if_neg c4] at h
      refine g_iload dX10_row_32 rfl ?_
      refine g_iconst (v := (nI 2)) dX10_row_34 (by decide) ?_
      refine g_iadd dX10_row_35 ?_
      refine g_iload_n dX10_row_36 rfl ?_
      refine g_ic_ge (t := 90) dX10_row_37 (by decide) (fun c6 => ?_) (fun c6 => ?_)
      · rw [if_pos c6] at h
        refine q_iinc (w := nI 1) (ls' := [some (.ref v0), some (.int v1), some (.int s2), some (.int (s3 + nI 1)), some (.int s4)]) dX10_row_90 (by decide) rfl (by decide) rfl ?_
        refine q_iinc (w := nI 3) (ls' := [some (.ref v0), some (.int v1), some (.int s2), some (.int (s3 + nI 1)), some (.int (s4 + nI 3))]) dX10_row_93 (by decide) rfl (by decide) rfl ?_
        refine g_goto (t := 26) dX10_row_96 (by decide) ?_
        refine Go_le ?_ (hin (s2, (s3 + nI 1), (s4 + nI 3), K) (Option.some.inj h).symm)
        exact And.intro rfl (And.intro rfl (And.intro rfl (And.intro rfl (And.intro rfl (trivial)))))
      · rw [if_neg c6] at h
        refine g_aload_n dX10_row_40 rfl ?_
        refine g_aload_n dX10_row_41 rfl ?_
        obtain ⟨x7, ex7, h⟩ := bs h
        refine q_getA dX10_row_42 fX10_41 ex7 ?_
        refine g_iload dX10_row_45 rfl ?_
        obtain ⟨x8, ex8, h⟩ := bs h
        refine q_bald dX10_row_47 ex8 ?_
        refine g_sipush (v := (nI 255)) dX10_row_48 (by decide) ?_
        refine g_iand dX10_row_51 ?_
        refine g_aload_n dX10_row_52 rfl ?_
        obtain ⟨x9, ex9, h⟩ := bs h
        refine q_getA dX10_row_53 fX10_41 ex9 ?_
        refine g_iload dX10_row_56 rfl ?_
        refine g_iconst (v := (nI 1)) dX10_row_58 (by decide) ?_
        refine g_iadd dX10_row_59 ?_
        obtain ⟨x10, ex10, h⟩ := bs h
        refine q_bald dX10_row_60 ex10 ?_
        refine g_sipush (v := (nI 255)) dX10_row_61 (by decide) ?_
        refine g_iand dX10_row_64 ?_
        refine g_aload_n dX10_row_65 rfl ?_
        obtain ⟨x11, ex11, h⟩ := bs h
        refine q_getA dX10_row_66 fX10_41 ex11 ?_
        refine g_iload dX10_row_69 rfl ?_
        refine g_iconst (v := (nI 2)) dX10_row_71 (by decide) ?_
        refine g_iadd dX10_row_72 ?_
        obtain ⟨x12, ex12, h⟩ := bs h
        refine q_bald dX10_row_73 ex12 ?_
        refine g_sipush (v := (nI 255)) dX10_row_74 (by decide) ?_
        refine g_iand dX10_row_77 ?_
        obtain ⟨p13, ep13, h⟩ := bs h
        refine q_virt (Z := MX10_comes) (c := (RX10, TX10, 17)) (toI_s ep13) dX10_row_78 mX10_208.1 mX10_208.2 (Nat.le_of_ble_eq_true rfl) rfl rfl (Nat.le_of_ble_eq_true rfl) (Nat.le_of_ble_eq_true rfl) rfl rfl ?_
        show Go O (d + 1) MX10_row 81 [some (.ref v0), some (.int v1), some (.int s2), some (.int s3), some (.int s4)] [.int p13.1] p13.2 P
        have hj : Go O (d + 1) MX10_row 93 [some (.ref v0), some (.int v1), some (.int (if p13.1 = 0 then s2 else (s2 + nI 1))), some (.int (if p13.1 = 0 then (s3 + nI 1) else s3)), some (.int s4)] [] p13.2 P := by
          refine q_iinc (w := nI 3) (ls' := [some (.ref v0), some (.int v1), some (.int (if p13.1 = 0 then s2 else (s2 + nI 1))), some (.int (if p13.1 = 0 then (s3 + nI 1) else s3)), some (.int (s4 + nI 3))]) dX10_row_93 (by decide) rfl (by decide) rfl ?_
          refine g_goto (t := 26) dX10_row_96 (by decide) ?_
          refine Go_le ?_ (hin ((if p13.1 = 0 then s2 else (s2 + nI 1)), (if p13.1 = 0 then (s3 + nI 1) else s3), (s4 + nI 3), p13.2) (Option.some.inj h).symm)
          exact And.intro rfl (And.intro rfl (And.intro rfl (And.intro rfl (And.intro rfl (trivial)))))
        refine g_if_eq (t := 90) dX10_row_81 (by decide) (fun c14 => ?_) (fun c14 => ?_)
        · skip
          refine q_iinc (w := nI 1) (ls' := [some (.ref v0), some (.int v1), some (.int s2), some (.int (s3 + nI 1)), some (.int s4)]) dX10_row_90 (by decide) rfl (by decide) rfl ?_
          have hk : Go O (d + 1) MX10_row 93 [some (.ref v0), some (.int v1), some (.int s2), some (.int (s3 + nI 1)), some (.int s4)] [] p13.2 P := by simpa only [if_pos c14] using hj
          refine Go_le ?_ hk
          exact And.intro rfl (And.intro rfl (And.intro rfl (And.intro rfl (And.intro rfl (trivial)))))
        · skip
          refine q_iinc (w := nI 1) (ls' := [some (.ref v0), some (.int v1), some (.int (s2 + nI 1)), some (.int s3), some (.int s4)]) dX10_row_84 (by decide) rfl (by decide) rfl ?_
          refine g_goto (t := 93) dX10_row_87 (by decide) ?_
          have hk : Go O (d + 1) MX10_row 93 [some (.ref v0), some (.int v1), some (.int (s2 + nI 1)), some (.int s3), some (.int s4)] [] p13.2 P := by simpa only [if_neg c14] using hj
          refine Go_le ?_ hk
          exact And.intro rfl (And.intro rfl (And.intro rfl (And.intro rfl (And.intro rfl (trivial)))))
noncomputable def F_X10_row (O : mO) (d : Nat) (a0 : Nat) (K : mH) : Option (Int32 × mH) :=
  (gtI K a0 10 12).bind fun x1 =>
  if x1 = 0 then
    (toI (vc O d 10 MX10_refused a0 [.int (-6)] K)).bind fun p20 =>
    some (p20.1, p20.2)
  else
    (toI (vc O d 10 MX10_takeTape a0 [] K)).bind fun p3 =>
    (lupF (fun (q : Int32 × Int32 × Int32 × mH) => F_X10_row_l26 O d a0 p3.1 q.1 q.2.1 q.2.2.1 q.2.2.2) FU ((nI 0), (nI 0), (nI 0), p3.2)).bind fun r15 =>
    (ptI r15.2.2 a0 10 15 r15.2.1).bind fun K16 =>
    (gtA K16 a0 10 11).bind fun x17 =>
    (toV (vc O d 3 MX3_clear x17 [] K16)).bind fun K18 =>
    (toI (vc O d 10 MX10_granted a0 [.int r15.1] K18)).bind fun p19 =>
    some (p19.1, p19.2)
theorem e_X10_row {O : mO} {d : Nat} {a0 : Nat} {K : mH} {r0 : Int32} {K0 : mH} (h : F_X10_row O d a0 K = some (r0, K0)) : ev O (d + 1) MX10_row [.ref a0] K = some (some (.int r0), K0) := by
  refine Rn_evx ?_
  show Go O (d + 1) MX10_row 0 [some (.ref a0), none, none, none, none] [] K _
  generalize hP : (fun (r : Option Value) (K' : mH) => (r, K') = (some (.int r0), K0)) = P
  have hret : ∀ (r : Int32) (K' : mH), (r, K') = (r0, K0) → P (some (.int r)) K' := by
    intro r K' e
    cases e
    subst hP
    rfl
  clear hP
  unfold F_X10_row at h
  refine g_aload_n dX10_row_0 rfl ?_
  obtain ⟨x1, ex1, h⟩ := bs h
  refine q_getI dX10_row_1 fX10_62 ex1 ?_
  refine g_if_ne (t := 14) dX10_row_4 (by decide) (fun c2 => ?_) (fun c2 => ?_)
  · rw [if_neg c2] at h
    refine g_aload_n dX10_row_14 rfl ?_
    obtain ⟨p3, ep3, h⟩ := bs h
    refine q_virt (Z := MX10_takeTape) (c := (RX10, TX10, 17)) (toI_s ep3) dX10_row_15 mX10_204.1 mX10_204.2 (Nat.le_of_ble_eq_true rfl) rfl rfl (Nat.le_of_ble_eq_true rfl) (Nat.le_of_ble_eq_true rfl) rfl rfl ?_
    show Go O (d + 1) MX10_row 18 [some (.ref a0), none, none, none, none] [.int p3.1] p3.2 P
    refine g_istore_n (ls' := [some (.ref a0), some (.int p3.1), none, none, none]) dX10_row_18 (by decide) rfl ?_
    refine g_iconst (v := (nI 0)) dX10_row_19 (by decide) ?_
    refine g_istore_n (ls' := [some (.ref a0), some (.int p3.1), some (.int (nI 0)), none, none]) dX10_row_20 (by decide) rfl ?_
    refine g_iconst (v := (nI 0)) dX10_row_21 (by decide) ?_
    refine g_istore_n (ls' := [some (.ref a0), some (.int p3.1), some (.int (nI 0)), some (.int (nI 0)), none]) dX10_row_22 (by decide) rfl ?_
    refine g_iconst (v := (nI 0)) dX10_row_23 (by decide) ?_
    refine g_istore (ls' := [some (.ref a0), some (.int p3.1), some (.int (nI 0)), some (.int (nI 0)), some (.int (nI 0))]) dX10_row_24 (by decide) rfl ?_
    obtain ⟨r15, er15, h⟩ := bs h
    have hx : Go O (d + 1) MX10_row 99 [some (.ref a0), none, some (.int r15.1), some (.int r15.2.1), none] [] r15.2.2 P := by
      refine g_aload_n dX10_row_99 rfl ?_
      refine g_iload_n dX10_row_100 rfl ?_
      obtain ⟨K16, eK16, h⟩ := bs h
      refine q_put (c := (RX10, TX10, 17)) dX10_row_101 fX10_72 rfl rfl rfl (fun h => absurd h (by decide)) eK16 ?_
      refine g_aload_n dX10_row_104 rfl ?_
      obtain ⟨x17, ex17, h⟩ := bs h
      refine q_getA dX10_row_105 fX10_58 ex17 ?_
      obtain ⟨K18, eK18, h⟩ := bs h
      refine q_virt (Z := MX3_clear) (c := (RX3, TX3, 3)) (toV_s eK18) dX10_row_108 mX10_115.1 mX10_115.2 (Nat.le_of_ble_eq_true rfl) rfl rfl (Nat.le_of_ble_eq_true rfl) (Nat.le_of_ble_eq_true rfl) rfl rfl ?_
      show Go O (d + 1) MX10_row 111 [some (.ref a0), none, some (.int r15.1), some (.int r15.2.1), none] [] K18 P
      refine g_aload_n dX10_row_111 rfl ?_
      refine g_iload_n dX10_row_112 rfl ?_
      obtain ⟨p19, ep19, h⟩ := bs h
      refine q_virt (Z := MX10_granted) (c := (RX10, TX10, 17)) (toI_s ep19) dX10_row_113 mX10_118.1 mX10_118.2 (Nat.le_of_ble_eq_true rfl) rfl rfl (Nat.le_of_ble_eq_true rfl) (Nat.le_of_ble_eq_true rfl) rfl rfl ?_
      show Go O (d + 1) MX10_row 116 [some (.ref a0), none, some (.int r15.1), some (.int r15.2.1), none] [.int p19.1] p19.2 P
      exact g_ireturn dX10_row_116 rfl (by first | rfl | decide) (hret _ _ (Option.some.inj h))
    refine Go_le ?_ (e_X10_row_l26 (fun q e => by cases e; exact hx) FU ((nI 0), (nI 0), (nI 0), p3.2) er15)
    exact And.intro rfl (And.intro rfl (And.intro rfl (And.intro rfl (And.intro rfl (trivial)))))
  · rw [if_pos c2] at h
    refine g_aload_n dX10_row_7 rfl ?_
    refine g_bipush (v := (-6)) dX10_row_8 (by decide) ?_
    obtain ⟨p20, ep20, h⟩ := bs h
    refine q_virt (Z := MX10_refused) (c := (RX10, TX10, 17)) (toI_s ep20) dX10_row_10 mX10_105.1 mX10_105.2 (Nat.le_of_ble_eq_true rfl) rfl rfl (Nat.le_of_ble_eq_true rfl) (Nat.le_of_ble_eq_true rfl) rfl rfl ?_
    show Go O (d + 1) MX10_row 13 [some (.ref a0), none, none, none, none] [.int p20.1] p20.2 P
    exact g_ireturn dX10_row_13 rfl (by first | rfl | decide) (hret _ _ (Option.some.inj h))
noncomputable def F_X10_draughts (O : mO) (d : Nat) (a0 : Nat) (K : mH) : Option (Int32 × mH) :=
  (gtI K a0 10 15).bind fun x1 =>
  some (x1, K)
theorem e_X10_draughts {O : mO} {d : Nat} {a0 : Nat} {K : mH} {r0 : Int32} {K0 : mH} (h : F_X10_draughts O d a0 K = some (r0, K0)) : ev O (d + 1) MX10_draughts [.ref a0] K = some (some (.int r0), K0) := by
  refine Rn_evx ?_
  show Go O (d + 1) MX10_draughts 0 [some (.ref a0)] [] K _
  generalize hP : (fun (r : Option Value) (K' : mH) => (r, K') = (some (.int r0), K0)) = P
  have hret : ∀ (r : Int32) (K' : mH), (r, K') = (r0, K0) → P (some (.int r)) K' := by
    intro r K' e
    cases e
    subst hP
    rfl
  clear hP
  unfold F_X10_draughts at h
  refine g_aload_n dX10_draughts_0 rfl ?_
  obtain ⟨x1, ex1, h⟩ := bs h
  refine q_getI dX10_draughts_1 fX10_72 ex1 ?_
  exact g_ireturn dX10_draughts_4 rfl (by first | rfl | decide) (hret _ _ (Option.some.inj h))
noncomputable def F_X10_law (O : mO) (d : Nat) (a0 : Nat) (K : mH) : Option (Int32 × mH) :=
  (toI (vc O d 10 MX10_takeTape a0 [] K)).bind fun p1 =>
  (gtA p1.2 a0 10 10).bind fun x2 =>
  (gtI p1.2 x2 2 16).bind fun x3 =>
  if x3 < (nI 6) then
    (gtA p1.2 a0 10 0).bind fun x5 =>
    (gtA p1.2 a0 10 5).bind fun x6 =>
    (toI (vc O d 6 MX6_readText x5 [.ref x6, .int p1.1, .int (nI 0)] p1.2)).bind fun p7 =>
    (gtA p7.2 a0 10 0).bind fun x8 =>
    (gtI p7.2 x8 6 6).bind fun x9 =>
    (ptI p7.2 a0 10 13 x9).bind fun K10 =>
    if p7.1 = 0 then
      (toI (vc O d 10 MX10_refused a0 [.int (-6)] K10)).bind fun p26 =>
      some (p26.1, p26.2)
    else
      (gtA K10 a0 10 10).bind fun x12 =>
      (gtA K10 x12 2 10).bind fun x13 =>
      (gtA K10 a0 10 10).bind fun x14 =>
      (gtI K10 x14 2 16).bind fun x15 =>
      (gtA K10 a0 10 0).bind fun x16 =>
      (gtA K10 x16 6 0).bind fun x17 =>
      (toR (vc O d 5 MX5_trimmed x17 [] K10)).bind fun p18 =>
      (wrR p18.2 x13 x15 p18.1).bind fun K19 =>
      (gtA K19 a0 10 10).bind fun x20 =>
      (gtI K19 x20 2 16).bind fun x21 =>
      (ptI K19 x20 2 16 (x21 + (nI 1))).bind fun K22 =>
      (gtA K22 a0 10 10).bind fun x23 =>
      (gtI K22 x23 2 16).bind fun x24 =>
      (toI (vc O d 10 MX10_granted a0 [.int (x24 - (nI 1))] K22)).bind fun p25 =>
      some (p25.1, p25.2)
  else
    (toI (vc O d 10 MX10_refused a0 [.int (-5)] p1.2)).bind fun p27 =>
    some (p27.1, p27.2)
theorem e_X10_law {O : mO} {d : Nat} {a0 : Nat} {K : mH} {r0 : Int32} {K0 : mH} (h : F_X10_law O d a0 K = some (r0, K0)) : ev O (d + 1) MX10_law [.ref a0] K = some (some (.int r0), K0) := by
  refine Rn_evx ?_
  show Go O (d + 1) MX10_law 0 [some (.ref a0), none, none] [] K _
  generalize hP : (fun (r : Option Value) (K' : mH) => (r, K') = (some (.int r0), K0)) = P
  have hret : ∀ (r : Int32) (K' : mH), (r, K') = (r0, K0) → P (some (.int r)) K' := by
    intro r K' e
    cases e
    subst hP
    rfl
  clear hP
  unfold F_X10_law at h
  refine g_aload_n dX10_law_0 rfl ?_
  obtain ⟨p1, ep1, h⟩ := bs h
  refine q_virt (Z := MX10_takeTape) (c := (RX10, TX10, 17)) (toI_s ep1) dX10_law_1 mX10_204.1 mX10_204.2 (Nat.le_of_ble_eq_true rfl) rfl rfl (Nat.le_of_ble_eq_true rfl) (Nat.le_of_ble_eq_true rfl) rfl rfl ?_
  show Go O (d + 1) MX10_law 4 [some (.ref a0), none, none] [.int p1.1] p1.2 P
  refine g_istore_n (ls' := [some (.ref a0), some (.int p1.1), none]) dX10_law_4 (by decide) rfl ?_
  refine g_aload_n dX10_law_5 rfl ?_
  obtain ⟨x2, ex2, h⟩ := bs h
  refine q_getA dX10_law_6 fX10_89 ex2 ?_
  obtain ⟨x3, ex3, h⟩ := bs h
  refine q_getI dX10_law_9 fX10_212 ex3 ?_
  refine g_bipush (v := (nI 6)) dX10_law_12 (by decide) ?_
  refine g_ic_lt (t := 24) dX10_law_14 (by decide) (fun c4 => ?_) (fun c4 => ?_)
  · rw [if_pos c4] at h
    refine g_aload_n dX10_law_24 rfl ?_
    obtain ⟨x5, ex5, h⟩ := bs h
    refine q_getA dX10_law_25 fX10_10 ex5 ?_
    refine g_aload_n dX10_law_28 rfl ?_
    obtain ⟨x6, ex6, h⟩ := bs h
    refine q_getA dX10_law_29 fX10_41 ex6 ?_
    refine g_iload_n dX10_law_32 rfl ?_
    refine g_iconst (v := (nI 0)) dX10_law_33 (by decide) ?_
    obtain ⟨p7, ep7, h⟩ := bs h
    refine q_virt (Z := MX6_readText) (c := (RX6, TX6, 10)) (toI_s ep7) dX10_law_34 mX10_215.1 mX10_215.2 (Nat.le_of_ble_eq_true rfl) rfl rfl (Nat.le_of_ble_eq_true rfl) (Nat.le_of_ble_eq_true rfl) rfl rfl ?_
    show Go O (d + 1) MX10_law 37 [some (.ref a0), some (.int p1.1), none] [.int p7.1] p7.2 P
    refine g_istore_n (ls' := [some (.ref a0), some (.int p1.1), some (.int p7.1)]) dX10_law_37 (by decide) rfl ?_
    refine g_aload_n dX10_law_38 rfl ?_
    refine g_aload_n dX10_law_39 rfl ?_
    obtain ⟨x8, ex8, h⟩ := bs h
    refine q_getA dX10_law_40 fX10_10 ex8 ?_
    obtain ⟨x9, ex9, h⟩ := bs h
    refine q_getI dX10_law_43 fX10_219 ex9 ?_
    obtain ⟨K10, eK10, h⟩ := bs h
    refine q_put (c := (RX10, TX10, 17)) dX10_law_46 fX10_66 rfl rfl rfl (fun h => absurd h (by decide)) eK10 ?_
    refine g_iload_n dX10_law_49 rfl ?_
    refine g_if_ne (t := 60) dX10_law_50 (by decide) (fun c11 => ?_) (fun c11 => ?_)
    · rw [if_neg c11] at h
      refine g_aload_n dX10_law_60 rfl ?_
      obtain ⟨x12, ex12, h⟩ := bs h
      refine q_getA dX10_law_61 fX10_89 ex12 ?_
      obtain ⟨x13, ex13, h⟩ := bs h
      refine q_getA dX10_law_64 fX10_222 ex13 ?_
      refine g_aload_n dX10_law_67 rfl ?_
      obtain ⟨x14, ex14, h⟩ := bs h
      refine q_getA dX10_law_68 fX10_89 ex14 ?_
      obtain ⟨x15, ex15, h⟩ := bs h
      refine q_getI dX10_law_71 fX10_212 ex15 ?_
      refine g_aload_n dX10_law_74 rfl ?_
      obtain ⟨x16, ex16, h⟩ := bs h
      refine q_getA dX10_law_75 fX10_10 ex16 ?_
      obtain ⟨x17, ex17, h⟩ := bs h
      refine q_getA dX10_law_78 fX10_226 ex17 ?_
      obtain ⟨p18, ep18, h⟩ := bs h
      refine q_virt (Z := MX5_trimmed) (c := (RX5, TX5, 4)) (toR_s ep18) dX10_law_81 mX10_230.1 mX10_230.2 (Nat.le_of_ble_eq_true rfl) rfl rfl (Nat.le_of_ble_eq_true rfl) (Nat.le_of_ble_eq_true rfl) rfl rfl ?_
      show Go O (d + 1) MX10_law 84 [some (.ref a0), some (.int p1.1), some (.int p7.1)] [va_rf p18.1, .int x15, .ref x13] p18.2 P
      obtain ⟨K19, eK19, h⟩ := bs h
      refine q_aast (v := p18.1) dX10_law_84 eK19 ?_
      refine g_aload_n dX10_law_85 rfl ?_
      obtain ⟨x20, ex20, h⟩ := bs h
      refine q_getA dX10_law_86 fX10_89 ex20 ?_
      refine g_dup dX10_law_89 (by first | rfl | exact vrf_cat _) ?_
      obtain ⟨x21, ex21, h⟩ := bs h
      refine q_getI dX10_law_90 fX10_212 ex21 ?_
      refine g_iconst (v := (nI 1)) dX10_law_93 (by decide) ?_
      refine g_iadd dX10_law_94 ?_
      obtain ⟨K22, eK22, h⟩ := bs h
      refine q_put (c := (RX2, TX2, 18)) dX10_law_95 fX10_212 rfl rfl rfl (fun h => absurd h (by decide)) eK22 ?_
      refine g_aload_n dX10_law_98 rfl ?_
      refine g_aload_n dX10_law_99 rfl ?_
      obtain ⟨x23, ex23, h⟩ := bs h
      refine q_getA dX10_law_100 fX10_89 ex23 ?_
      obtain ⟨x24, ex24, h⟩ := bs h
      refine q_getI dX10_law_103 fX10_212 ex24 ?_
      refine g_iconst (v := (nI 1)) dX10_law_106 (by decide) ?_
      refine g_isub dX10_law_107 ?_
      obtain ⟨p25, ep25, h⟩ := bs h
      refine q_virt (Z := MX10_granted) (c := (RX10, TX10, 17)) (toI_s ep25) dX10_law_108 mX10_118.1 mX10_118.2 (Nat.le_of_ble_eq_true rfl) rfl rfl (Nat.le_of_ble_eq_true rfl) (Nat.le_of_ble_eq_true rfl) rfl rfl ?_
      show Go O (d + 1) MX10_law 111 [some (.ref a0), some (.int p1.1), some (.int p7.1)] [.int p25.1] p25.2 P
      exact g_ireturn dX10_law_111 rfl (by first | rfl | decide) (hret _ _ (Option.some.inj h))
    · rw [if_pos c11] at h
      refine g_aload_n dX10_law_53 rfl ?_
      refine g_bipush (v := (-6)) dX10_law_54 (by decide) ?_
      obtain ⟨p26, ep26, h⟩ := bs h
      refine q_virt (Z := MX10_refused) (c := (RX10, TX10, 17)) (toI_s ep26) dX10_law_56 mX10_105.1 mX10_105.2 (Nat.le_of_ble_eq_true rfl) rfl rfl (Nat.le_of_ble_eq_true rfl) (Nat.le_of_ble_eq_true rfl) rfl rfl ?_
      show Go O (d + 1) MX10_law 59 [some (.ref a0), some (.int p1.1), some (.int p7.1)] [.int p26.1] p26.2 P
      exact g_ireturn dX10_law_59 rfl (by first | rfl | decide) (hret _ _ (Option.some.inj h))
  · rw [if_neg c4] at h
    refine g_aload_n dX10_law_17 rfl ?_
    refine g_bipush (v := (-5)) dX10_law_18 (by decide) ?_
    obtain ⟨p27, ep27, h⟩ := bs h
    refine q_virt (Z := MX10_refused) (c := (RX10, TX10, 17)) (toI_s ep27) dX10_law_20 mX10_105.1 mX10_105.2 (Nat.le_of_ble_eq_true rfl) rfl rfl (Nat.le_of_ble_eq_true rfl) (Nat.le_of_ble_eq_true rfl) rfl rfl ?_
    show Go O (d + 1) MX10_law 23 [some (.ref a0), some (.int p1.1), none] [.int p27.1] p27.2 P
    exact g_ireturn dX10_law_23 rfl (by first | rfl | decide) (hret _ _ (Option.some.inj h))
noncomputable def F_X10_orders (O : mO) (d : Nat) (a0 : Nat) (K : mH) : Option (Int32 × mH) :=
  (toI (vc O d 10 MX10_takeTape a0 [] K)).bind fun p1 =>
  (ptI p1.2 a0 10 14 (-1)).bind fun K2 =>
  (gtA K2 a0 10 0).bind fun x3 =>
  (gtA K2 a0 10 5).bind fun x4 =>
  (toI (vc O d 6 MX6_readText x3 [.ref x4, .int p1.1, .int (nI 1)] K2)).bind fun p5 =>
  (gtA p5.2 a0 10 0).bind fun x6 =>
  (gtI p5.2 x6 6 6).bind fun x7 =>
  (ptI p5.2 a0 10 13 x7).bind fun K8 =>
  if p5.1 = 0 then
    (toI (vc O d 10 MX10_refused a0 [.int (-6)] K8)).bind fun p37 =>
    some (p37.1, p37.2)
  else
    (gtA K8 a0 10 8).bind fun x10 =>
    (gtA K8 a0 10 10).bind fun x11 =>
    (gtA K8 a0 10 11).bind fun x12 =>
    (toV (vc O d 9 MX9_begin x10 [.ref x11, .ref x12] K8)).bind fun K13 =>
    (gtA K13 a0 10 8).bind fun x14 =>
    (gtA K13 a0 10 0).bind fun x15 =>
    (gtA K13 x15 6 0).bind fun x16 =>
    (toI (vc O d 9 MX9_carryOut x14 [.ref x16] K13)).bind fun p17 =>
    (ptI p17.2 a0 10 14 p17.1).bind fun K18 =>
    (gtI K18 a0 10 14).bind fun x19 =>
    if x19 = (-1) then
      (gtA K18 a0 10 10).bind fun x21 =>
      (gtA K18 a0 10 11).bind fun x22 =>
      (gtA K18 a0 10 8).bind fun x23 =>
      (gtA K18 x23 9 2).bind fun x24 =>
      (ptA K18 a0 10 10 x24).bind fun K25 =>
      (gtA K25 a0 10 8).bind fun x26 =>
      (gtA K25 x26 9 3).bind fun x27 =>
      (ptA K25 a0 10 11 x27).bind fun K28 =>
      (gtA K28 a0 10 8).bind fun x29 =>
      (ptA K28 x29 9 2 x21).bind fun K30 =>
      (gtA K30 a0 10 8).bind fun x31 =>
      (ptA K30 x31 9 3 x22).bind fun K32 =>
      (gtA K32 a0 10 8).bind fun x33 =>
      (gtI K32 x33 9 4).bind fun x34 =>
      (toI (vc O d 10 MX10_granted a0 [.int x34] K32)).bind fun p35 =>
      some (p35.1, p35.2)
    else
      (toI (vc O d 10 MX10_refused a0 [.int (-3)] K18)).bind fun p36 =>
      some (p36.1, p36.2)
theorem e_X10_orders {O : mO} {d : Nat} {a0 : Nat} {K : mH} {r0 : Int32} {K0 : mH} (h : F_X10_orders O d a0 K = some (r0, K0)) : ev O (d + 1) MX10_orders [.ref a0] K = some (some (.int r0), K0) := by
  refine Rn_evx ?_
  show Go O (d + 1) MX10_orders 0 [some (.ref a0), none, none, none, none] [] K _
  generalize hP : (fun (r : Option Value) (K' : mH) => (r, K') = (some (.int r0), K0)) = P
  have hret : ∀ (r : Int32) (K' : mH), (r, K') = (r0, K0) → P (some (.int r)) K' := by
    intro r K' e
    cases e
    subst hP
    rfl
  clear hP
  unfold F_X10_orders at h
  refine g_aload_n dX10_orders_0 rfl ?_
  obtain ⟨p1, ep1, h⟩ := bs h
  refine q_virt (Z := MX10_takeTape) (c := (RX10, TX10, 17)) (toI_s ep1) dX10_orders_1 mX10_204.1 mX10_204.2 (Nat.le_of_ble_eq_true rfl) rfl rfl (Nat.le_of_ble_eq_true rfl) (Nat.le_of_ble_eq_true rfl) rfl rfl ?_
  show Go O (d + 1) MX10_orders 4 [some (.ref a0), none, none, none, none] [.int p1.1] p1.2 P
  refine g_istore_n (ls' := [some (.ref a0), some (.int p1.1), none, none, none]) dX10_orders_4 (by decide) rfl ?_
  refine g_aload_n dX10_orders_5 rfl ?_
  refine g_iconst (v := (-1)) dX10_orders_6 (by decide) ?_
  obtain ⟨K2, eK2, h⟩ := bs h
  refine q_put (c := (RX10, TX10, 17)) dX10_orders_7 fX10_69 rfl rfl rfl (fun h => absurd h (by decide)) eK2 ?_
  refine g_aload_n dX10_orders_10 rfl ?_
  obtain ⟨x3, ex3, h⟩ := bs h
  refine q_getA dX10_orders_11 fX10_10 ex3 ?_
  refine g_aload_n dX10_orders_14 rfl ?_
  obtain ⟨x4, ex4, h⟩ := bs h
  refine q_getA dX10_orders_15 fX10_41 ex4 ?_
  refine g_iload_n dX10_orders_18 rfl ?_
  refine g_iconst (v := (nI 1)) dX10_orders_19 (by decide) ?_
  obtain ⟨p5, ep5, h⟩ := bs h
  refine q_virt (Z := MX6_readText) (c := (RX6, TX6, 10)) (toI_s ep5) dX10_orders_20 mX10_215.1 mX10_215.2 (Nat.le_of_ble_eq_true rfl) rfl rfl (Nat.le_of_ble_eq_true rfl) (Nat.le_of_ble_eq_true rfl) rfl rfl ?_
  show Go O (d + 1) MX10_orders 23 [some (.ref a0), some (.int p1.1), none, none, none] [.int p5.1] p5.2 P
  refine g_istore_n (ls' := [some (.ref a0), some (.int p1.1), some (.int p5.1), none, none]) dX10_orders_23 (by decide) rfl ?_
  refine g_aload_n dX10_orders_24 rfl ?_
  refine g_aload_n dX10_orders_25 rfl ?_
  obtain ⟨x6, ex6, h⟩ := bs h
  refine q_getA dX10_orders_26 fX10_10 ex6 ?_
  obtain ⟨x7, ex7, h⟩ := bs h
  refine q_getI dX10_orders_29 fX10_219 ex7 ?_
  obtain ⟨K8, eK8, h⟩ := bs h
  refine q_put (c := (RX10, TX10, 17)) dX10_orders_32 fX10_66 rfl rfl rfl (fun h => absurd h (by decide)) eK8 ?_
  refine g_iload_n dX10_orders_35 rfl ?_
  refine g_if_ne (t := 46) dX10_orders_36 (by decide) (fun c9 => ?_) (fun c9 => ?_)
  · rw [if_neg c9] at h
    refine g_aload_n dX10_orders_46 rfl ?_
    obtain ⟨x10, ex10, h⟩ := bs h
    refine q_getA dX10_orders_47 fX10_101 ex10 ?_
    refine g_aload_n dX10_orders_50 rfl ?_
    obtain ⟨x11, ex11, h⟩ := bs h
    refine q_getA dX10_orders_51 fX10_89 ex11 ?_
    refine g_aload_n dX10_orders_54 rfl ?_
    obtain ⟨x12, ex12, h⟩ := bs h
    refine q_getA dX10_orders_55 fX10_58 ex12 ?_
    obtain ⟨K13, eK13, h⟩ := bs h
    refine q_virt (Z := MX9_begin) (c := (RX9, TX9, 6)) (toV_s eK13) dX10_orders_58 mX10_235.1 mX10_235.2 (Nat.le_of_ble_eq_true rfl) rfl rfl (Nat.le_of_ble_eq_true rfl) (Nat.le_of_ble_eq_true rfl) rfl rfl ?_
    show Go O (d + 1) MX10_orders 61 [some (.ref a0), some (.int p1.1), some (.int p5.1), none, none] [] K13 P
    refine g_aload_n dX10_orders_61 rfl ?_
    refine g_aload_n dX10_orders_62 rfl ?_
    obtain ⟨x14, ex14, h⟩ := bs h
    refine q_getA dX10_orders_63 fX10_101 ex14 ?_
    refine g_aload_n dX10_orders_66 rfl ?_
    obtain ⟨x15, ex15, h⟩ := bs h
    refine q_getA dX10_orders_67 fX10_10 ex15 ?_
    obtain ⟨x16, ex16, h⟩ := bs h
    refine q_getA dX10_orders_70 fX10_226 ex16 ?_
    obtain ⟨p17, ep17, h⟩ := bs h
    refine q_virt (Z := MX9_carryOut) (c := (RX9, TX9, 6)) (toI_s ep17) dX10_orders_73 mX10_239.1 mX10_239.2 (Nat.le_of_ble_eq_true rfl) rfl rfl (Nat.le_of_ble_eq_true rfl) (Nat.le_of_ble_eq_true rfl) rfl rfl ?_
    show Go O (d + 1) MX10_orders 76 [some (.ref a0), some (.int p1.1), some (.int p5.1), none, none] [.int p17.1, .ref a0] p17.2 P
    obtain ⟨K18, eK18, h⟩ := bs h
    refine q_put (c := (RX10, TX10, 17)) dX10_orders_76 fX10_69 rfl rfl rfl (fun h => absurd h (by decide)) eK18 ?_
    refine g_aload_n dX10_orders_79 rfl ?_
    obtain ⟨x19, ex19, h⟩ := bs h
    refine q_getI dX10_orders_80 fX10_69 ex19 ?_
    refine g_iconst (v := (-1)) dX10_orders_83 (by decide) ?_
    refine g_ic_eq (t := 94) dX10_orders_84 (by decide) (fun c20 => ?_) (fun c20 => ?_)
    · rw [if_pos c20] at h
      refine g_aload_n dX10_orders_94 rfl ?_
      obtain ⟨x21, ex21, h⟩ := bs h
      refine q_getA dX10_orders_95 fX10_89 ex21 ?_
      refine g_astore_n (ls' := [some (.ref a0), some (.int p1.1), some (.int p5.1), some (.ref x21), none]) dX10_orders_98 (by decide) rfl ?_
      refine g_aload_n dX10_orders_99 rfl ?_
      obtain ⟨x22, ex22, h⟩ := bs h
      refine q_getA dX10_orders_100 fX10_58 ex22 ?_
      refine g_astore (ls' := [some (.ref a0), some (.int p1.1), some (.int p5.1), some (.ref x21), some (.ref x22)]) dX10_orders_103 (by decide) rfl ?_
      refine g_aload_n dX10_orders_105 rfl ?_
      refine g_aload_n dX10_orders_106 rfl ?_
      obtain ⟨x23, ex23, h⟩ := bs h
      refine q_getA dX10_orders_107 fX10_101 ex23 ?_
      obtain ⟨x24, ex24, h⟩ := bs h
      refine q_getA dX10_orders_110 fX10_243 ex24 ?_
      obtain ⟨K25, eK25, h⟩ := bs h
      refine q_put (c := (RX10, TX10, 17)) dX10_orders_113 fX10_89 rfl rfl rfl (fun h => absurd h (by decide)) eK25 ?_
      refine g_aload_n dX10_orders_116 rfl ?_
      refine g_aload_n dX10_orders_117 rfl ?_
      obtain ⟨x26, ex26, h⟩ := bs h
      refine q_getA dX10_orders_118 fX10_101 ex26 ?_
      obtain ⟨x27, ex27, h⟩ := bs h
      refine q_getA dX10_orders_121 fX10_244 ex27 ?_
      obtain ⟨K28, eK28, h⟩ := bs h
      refine q_put (c := (RX10, TX10, 17)) dX10_orders_124 fX10_58 rfl rfl rfl (fun h => absurd h (by decide)) eK28 ?_
      refine g_aload_n dX10_orders_127 rfl ?_
      obtain ⟨x29, ex29, h⟩ := bs h
      refine q_getA dX10_orders_128 fX10_101 ex29 ?_
      refine g_aload_n dX10_orders_131 rfl ?_
      obtain ⟨K30, eK30, h⟩ := bs h
      refine q_put (c := (RX9, TX9, 6)) dX10_orders_132 fX10_243 rfl rfl rfl (fun h => absurd h (by decide)) eK30 ?_
      refine g_aload_n dX10_orders_135 rfl ?_
      obtain ⟨x31, ex31, h⟩ := bs h
      refine q_getA dX10_orders_136 fX10_101 ex31 ?_
      refine g_aload dX10_orders_139 rfl ?_
      obtain ⟨K32, eK32, h⟩ := bs h
      refine q_put (c := (RX9, TX9, 6)) dX10_orders_141 fX10_244 rfl rfl rfl (fun h => absurd h (by decide)) eK32 ?_
      refine g_aload_n dX10_orders_144 rfl ?_
      refine g_aload_n dX10_orders_145 rfl ?_
      obtain ⟨x33, ex33, h⟩ := bs h
      refine q_getA dX10_orders_146 fX10_101 ex33 ?_
      obtain ⟨x34, ex34, h⟩ := bs h
      refine q_getI dX10_orders_149 fX10_245 ex34 ?_
      obtain ⟨p35, ep35, h⟩ := bs h
      refine q_virt (Z := MX10_granted) (c := (RX10, TX10, 17)) (toI_s ep35) dX10_orders_152 mX10_118.1 mX10_118.2 (Nat.le_of_ble_eq_true rfl) rfl rfl (Nat.le_of_ble_eq_true rfl) (Nat.le_of_ble_eq_true rfl) rfl rfl ?_
      show Go O (d + 1) MX10_orders 155 [some (.ref a0), some (.int p1.1), some (.int p5.1), some (.ref x21), some (.ref x22)] [.int p35.1] p35.2 P
      exact g_ireturn dX10_orders_155 rfl (by first | rfl | decide) (hret _ _ (Option.some.inj h))
    · rw [if_neg c20] at h
      refine g_aload_n dX10_orders_87 rfl ?_
      refine g_bipush (v := (-3)) dX10_orders_88 (by decide) ?_
      obtain ⟨p36, ep36, h⟩ := bs h
      refine q_virt (Z := MX10_refused) (c := (RX10, TX10, 17)) (toI_s ep36) dX10_orders_90 mX10_105.1 mX10_105.2 (Nat.le_of_ble_eq_true rfl) rfl rfl (Nat.le_of_ble_eq_true rfl) (Nat.le_of_ble_eq_true rfl) rfl rfl ?_
      show Go O (d + 1) MX10_orders 93 [some (.ref a0), some (.int p1.1), some (.int p5.1), none, none] [.int p36.1] p36.2 P
      exact g_ireturn dX10_orders_93 rfl (by first | rfl | decide) (hret _ _ (Option.some.inj h))
  · rw [if_pos c9] at h
    refine g_aload_n dX10_orders_39 rfl ?_
    refine g_bipush (v := (-6)) dX10_orders_40 (by decide) ?_
    obtain ⟨p37, ep37, h⟩ := bs h
    refine q_virt (Z := MX10_refused) (c := (RX10, TX10, 17)) (toI_s ep37) dX10_orders_42 mX10_105.1 mX10_105.2 (Nat.le_of_ble_eq_true rfl) rfl rfl (Nat.le_of_ble_eq_true rfl) (Nat.le_of_ble_eq_true rfl) rfl rfl ?_
    show Go O (d + 1) MX10_orders 45 [some (.ref a0), some (.int p1.1), some (.int p5.1), none, none] [.int p37.1] p37.2 P
    exact g_ireturn dX10_orders_45 rfl (by first | rfl | decide) (hret _ _ (Option.some.inj h))
noncomputable def F_X10_fault (O : mO) (d : Nat) (a0 : Nat) (K : mH) : Option (Int32 × mH) :=
  (gtI K a0 10 13).bind fun x1 =>
  some (x1, K)
theorem e_X10_fault {O : mO} {d : Nat} {a0 : Nat} {K : mH} {r0 : Int32} {K0 : mH} (h : F_X10_fault O d a0 K = some (r0, K0)) : ev O (d + 1) MX10_fault [.ref a0] K = some (some (.int r0), K0) := by
  refine Rn_evx ?_
  show Go O (d + 1) MX10_fault 0 [some (.ref a0)] [] K _
  generalize hP : (fun (r : Option Value) (K' : mH) => (r, K') = (some (.int r0), K0)) = P
  have hret : ∀ (r : Int32) (K' : mH), (r, K') = (r0, K0) → P (some (.int r)) K' := by
    intro r K' e
    cases e
    subst hP
    rfl
  clear hP
  unfold F_X10_fault at h
  refine g_aload_n dX10_fault_0 rfl ?_
  obtain ⟨x1, ex1, h⟩ := bs h
  refine q_getI dX10_fault_1 fX10_66 ex1 ?_
  exact g_ireturn dX10_fault_4 rfl (by first | rfl | decide) (hret _ _ (Option.some.inj h))
noncomputable def F_X10_stopped (O : mO) (d : Nat) (a0 : Nat) (K : mH) : Option (Int32 × mH) :=
  (gtI K a0 10 14).bind fun x1 =>
  some (x1, K)
theorem e_X10_stopped {O : mO} {d : Nat} {a0 : Nat} {K : mH} {r0 : Int32} {K0 : mH} (h : F_X10_stopped O d a0 K = some (r0, K0)) : ev O (d + 1) MX10_stopped [.ref a0] K = some (some (.int r0), K0) := by
  refine Rn_evx ?_
  show Go O (d + 1) MX10_stopped 0 [some (.ref a0)] [] K _
  generalize hP : (fun (r : Option Value) (K' : mH) => (r, K') = (some (.int r0), K0)) = P
  have hret : ∀ (r : Int32) (K' : mH), (r, K') = (r0, K0) → P (some (.int r)) K' := by
    intro r K' e
    cases e
    subst hP
    rfl
  clear hP
  unfold F_X10_stopped at h
  refine g_aload_n dX10_stopped_0 rfl ?_
  obtain ⟨x1, ex1, h⟩ := bs h
  refine q_getI dX10_stopped_1 fX10_69 ex1 ?_
  exact g_ireturn dX10_stopped_4 rfl (by first | rfl | decide) (hret _ _ (Option.some.inj h))
noncomputable def F_X10_force_j23 (O : mO) (d : Nat) (v0 : Nat) (v1 : Int32) (K : mH) : Option (Int32 × mH) :=
  (gtA K v0 10 10).bind fun x2 =>
  (gtI K x2 2 17).bind fun x3 =>
  (gtA K v0 10 10).bind fun x4 =>
  (ptI K x4 2 17 v1).bind fun K5 =>
  (toI (vc O d 10 MX10_granted v0 [.int x3] K5)).bind fun p6 =>
  some (p6.1, p6.2)
theorem e_X10_force_j23 {O : mO} {d : Nat} {v0 : Nat} {v1 : Int32} {K : mH} {P : Option Value → mH → Prop} {x : Int32 × mH} (hret : ∀ (r : Int32) (K' : mH), (r, K') = x → P (some (.int r)) K') (h : F_X10_force_j23 O d v0 v1 K = some x) : Go O (d + 1) MX10_force 23 [some (.ref v0), some (.int v1), none] [] K P := by
  unfold F_X10_force_j23 at h
  refine g_aload_n dX10_force_23 rfl ?_
  obtain ⟨x2, ex2, h⟩ := bs h
  refine q_getA dX10_force_24 fX10_89 ex2 ?_
  obtain ⟨x3, ex3, h⟩ := bs h
  refine q_getI dX10_force_27 fX10_251 ex3 ?_
  refine g_istore_n (ls' := [some (.ref v0), some (.int v1), some (.int x3)]) dX10_force_30 (by decide) rfl ?_
  refine g_aload_n dX10_force_31 rfl ?_
  obtain ⟨x4, ex4, h⟩ := bs h
  refine q_getA dX10_force_32 fX10_89 ex4 ?_
  refine g_iload_n dX10_force_35 rfl ?_
  obtain ⟨K5, eK5, h⟩ := bs h
  refine q_put (c := (RX2, TX2, 18)) dX10_force_36 fX10_251 rfl rfl rfl (fun h => absurd h (by decide)) eK5 ?_
  refine g_aload_n dX10_force_39 rfl ?_
  refine g_iload_n dX10_force_40 rfl ?_
  obtain ⟨p6, ep6, h⟩ := bs h
  refine q_virt (Z := MX10_granted) (c := (RX10, TX10, 17)) (toI_s ep6) dX10_force_41 mX10_118.1 mX10_118.2 (Nat.le_of_ble_eq_true rfl) rfl rfl (Nat.le_of_ble_eq_true rfl) (Nat.le_of_ble_eq_true rfl) rfl rfl ?_
  show Go O (d + 1) MX10_force 44 [some (.ref v0), some (.int v1), some (.int x3)] [.int p6.1] p6.2 P
  exact g_ireturn dX10_force_44 rfl (by first | rfl | decide) (hret _ _ (Option.some.inj h))
noncomputable def F_X10_force (O : mO) (d : Nat) (a0 : Nat) (a1 : Int32) (K : mH) : Option (Int32 × mH) :=
  if a1 = (-1) then
    F_X10_force_j23 O d a0 a1 K
  else
    (gtA K a0 10 10).bind fun x7 =>
    (toI (vc O d 2 MX2_hasLaw x7 [.int a1] K)).bind fun p8 =>
    if p8.1 = 0 then
      (toI (vc O d 10 MX10_refused a0 [.int (-2)] p8.2)).bind fun p10 =>
      some (p10.1, p10.2)
    else
      F_X10_force_j23 O d a0 a1 p8.2
theorem e_X10_force {O : mO} {d : Nat} {a0 : Nat} {a1 : Int32} {K : mH} {r0 : Int32} {K0 : mH} (h : F_X10_force O d a0 a1 K = some (r0, K0)) : ev O (d + 1) MX10_force [.ref a0, .int a1] K = some (some (.int r0), K0) := by
  refine Rn_evx ?_
  show Go O (d + 1) MX10_force 0 [some (.ref a0), some (.int a1), none] [] K _
  generalize hP : (fun (r : Option Value) (K' : mH) => (r, K') = (some (.int r0), K0)) = P
  have hret : ∀ (r : Int32) (K' : mH), (r, K') = (r0, K0) → P (some (.int r)) K' := by
    intro r K' e
    cases e
    subst hP
    rfl
  clear hP
  unfold F_X10_force at h
  refine g_iload_n dX10_force_0 rfl ?_
  refine g_iconst (v := (-1)) dX10_force_1 (by decide) ?_
  refine g_ic_eq (t := 23) dX10_force_2 (by decide) (fun c1 => ?_) (fun c1 => ?_)
  · rw [if_pos c1] at h
    refine Go_le ?_ (e_X10_force_j23 hret h)
    exact And.intro rfl (And.intro rfl (trivial))
  · rw [if_neg c1] at h
    refine g_aload_n dX10_force_5 rfl ?_
    obtain ⟨x7, ex7, h⟩ := bs h
    refine q_getA dX10_force_6 fX10_89 ex7 ?_
    refine g_iload_n dX10_force_9 rfl ?_
    obtain ⟨p8, ep8, h⟩ := bs h
    refine q_virt (Z := MX2_hasLaw) (c := (RX2, TX2, 18)) (toI_s ep8) dX10_force_10 mX10_248.1 mX10_248.2 (Nat.le_of_ble_eq_true rfl) rfl rfl (Nat.le_of_ble_eq_true rfl) (Nat.le_of_ble_eq_true rfl) rfl rfl ?_
    show Go O (d + 1) MX10_force 13 [some (.ref a0), some (.int a1), none] [.int p8.1] p8.2 P
    refine g_if_ne (t := 23) dX10_force_13 (by decide) (fun c9 => ?_) (fun c9 => ?_)
    · rw [if_neg c9] at h
      refine Go_le ?_ (e_X10_force_j23 hret h)
      exact And.intro rfl (And.intro rfl (trivial))
    · rw [if_pos c9] at h
      refine g_aload_n dX10_force_16 rfl ?_
      refine g_bipush (v := (-2)) dX10_force_17 (by decide) ?_
      obtain ⟨p10, ep10, h⟩ := bs h
      refine q_virt (Z := MX10_refused) (c := (RX10, TX10, 17)) (toI_s ep10) dX10_force_19 mX10_105.1 mX10_105.2 (Nat.le_of_ble_eq_true rfl) rfl rfl (Nat.le_of_ble_eq_true rfl) (Nat.le_of_ble_eq_true rfl) rfl rfl ?_
      show Go O (d + 1) MX10_force 22 [some (.ref a0), some (.int a1), none] [.int p10.1] p10.2 P
      exact g_ireturn dX10_force_22 rfl (by first | rfl | decide) (hret _ _ (Option.some.inj h))
noncomputable def F_X10_renew (O : mO) (d : Nat) (a0 : Nat) (a1 : Int32) (K : mH) : Option (Int32 × mH) :=
  (gtA K a0 10 10).bind fun x1 =>
  (gtA K a0 10 11).bind fun x2 =>
  (toI (ev O d MX10_act [.ref x1, .ref x2, .int (nI 0), .int a1, .int (-1)] K)).bind fun p3 =>
  (toI (vc O d 10 MX10_answered a0 [.int p3.1] p3.2)).bind fun p4 =>
  some (p4.1, p4.2)
theorem e_X10_renew {O : mO} {d : Nat} {a0 : Nat} {a1 : Int32} {K : mH} {r0 : Int32} {K0 : mH} (h : F_X10_renew O d a0 a1 K = some (r0, K0)) : ev O (d + 1) MX10_renew [.ref a0, .int a1] K = some (some (.int r0), K0) := by
  refine Rn_evx ?_
  show Go O (d + 1) MX10_renew 0 [some (.ref a0), some (.int a1)] [] K _
  generalize hP : (fun (r : Option Value) (K' : mH) => (r, K') = (some (.int r0), K0)) = P
  have hret : ∀ (r : Int32) (K' : mH), (r, K') = (r0, K0) → P (some (.int r)) K' := by
    intro r K' e
    cases e
    subst hP
    rfl
  clear hP
  unfold F_X10_renew at h
  refine g_aload_n dX10_renew_0 rfl ?_
  refine g_aload_n dX10_renew_1 rfl ?_
  obtain ⟨x1, ex1, h⟩ := bs h
  refine q_getA dX10_renew_2 fX10_89 ex1 ?_
  refine g_aload_n dX10_renew_5 rfl ?_
  obtain ⟨x2, ex2, h⟩ := bs h
  refine q_getA dX10_renew_6 fX10_58 ex2 ?_
  refine g_iconst (v := (nI 0)) dX10_renew_9 (by decide) ?_
  refine g_iload_n dX10_renew_10 rfl ?_
  refine g_iconst (v := (-1)) dX10_renew_11 (by decide) ?_
  obtain ⟨p3, ep3, h⟩ := bs h
  refine q_stat (Z := MX10_act) (toI_s ep3) dX10_renew_12 mX10_254.1 mX10_254.2 (Nat.le_of_ble_eq_true rfl) rfl rfl (Nat.le_of_ble_eq_true rfl) (Nat.le_of_ble_eq_true rfl) ?_
  show Go O (d + 1) MX10_renew 15 [some (.ref a0), some (.int a1)] [.int p3.1, .ref a0] p3.2 P
  obtain ⟨p4, ep4, h⟩ := bs h
  refine q_virt (Z := MX10_answered) (c := (RX10, TX10, 17)) (toI_s ep4) dX10_renew_15 mX10_258.1 mX10_258.2 (Nat.le_of_ble_eq_true rfl) rfl rfl (Nat.le_of_ble_eq_true rfl) (Nat.le_of_ble_eq_true rfl) rfl rfl ?_
  show Go O (d + 1) MX10_renew 18 [some (.ref a0), some (.int a1)] [.int p4.1] p4.2 P
  exact g_ireturn dX10_renew_18 rfl (by first | rfl | decide) (hret _ _ (Option.some.inj h))
noncomputable def F_X10_lodge (O : mO) (d : Nat) (a0 : Nat) (a1 : Int32) (a2 : Int32) (K : mH) : Option (Int32 × mH) :=
  (gtA K a0 10 10).bind fun x1 =>
  (gtA K a0 10 11).bind fun x2 =>
  (toI (ev O d MX10_act [.ref x1, .ref x2, .int (nI 1), .int a1, .int a2] K)).bind fun p3 =>
  (toI (vc O d 10 MX10_answered a0 [.int p3.1] p3.2)).bind fun p4 =>
  some (p4.1, p4.2)
theorem e_X10_lodge {O : mO} {d : Nat} {a0 : Nat} {a1 : Int32} {a2 : Int32} {K : mH} {r0 : Int32} {K0 : mH} (h : F_X10_lodge O d a0 a1 a2 K = some (r0, K0)) : ev O (d + 1) MX10_lodge [.ref a0, .int a1, .int a2] K = some (some (.int r0), K0) := by
  refine Rn_evx ?_
  show Go O (d + 1) MX10_lodge 0 [some (.ref a0), some (.int a1), some (.int a2)] [] K _
  generalize hP : (fun (r : Option Value) (K' : mH) => (r, K') = (some (.int r0), K0)) = P
  have hret : ∀ (r : Int32) (K' : mH), (r, K') = (r0, K0) → P (some (.int r)) K' := by
    intro r K' e
    cases e
    subst hP
    rfl
  clear hP
  unfold F_X10_lodge at h
  refine g_aload_n dX10_lodge_0 rfl ?_
  refine g_aload_n dX10_lodge_1 rfl ?_
  obtain ⟨x1, ex1, h⟩ := bs h
  refine q_getA dX10_lodge_2 fX10_89 ex1 ?_
  refine g_aload_n dX10_lodge_5 rfl ?_
  obtain ⟨x2, ex2, h⟩ := bs h
  refine q_getA dX10_lodge_6 fX10_58 ex2 ?_
  refine g_iconst (v := (nI 1)) dX10_lodge_9 (by decide) ?_
  refine g_iload_n dX10_lodge_10 rfl ?_
  refine g_iload_n dX10_lodge_11 rfl ?_
  obtain ⟨p3, ep3, h⟩ := bs h
  refine q_stat (Z := MX10_act) (toI_s ep3) dX10_lodge_12 mX10_254.1 mX10_254.2 (Nat.le_of_ble_eq_true rfl) rfl rfl (Nat.le_of_ble_eq_true rfl) (Nat.le_of_ble_eq_true rfl) ?_
  show Go O (d + 1) MX10_lodge 15 [some (.ref a0), some (.int a1), some (.int a2)] [.int p3.1, .ref a0] p3.2 P
  obtain ⟨p4, ep4, h⟩ := bs h
  refine q_virt (Z := MX10_answered) (c := (RX10, TX10, 17)) (toI_s ep4) dX10_lodge_15 mX10_258.1 mX10_258.2 (Nat.le_of_ble_eq_true rfl) rfl rfl (Nat.le_of_ble_eq_true rfl) (Nat.le_of_ble_eq_true rfl) rfl rfl ?_
  show Go O (d + 1) MX10_lodge 18 [some (.ref a0), some (.int a1), some (.int a2)] [.int p4.1] p4.2 P
  exact g_ireturn dX10_lodge_18 rfl (by first | rfl | decide) (hret _ _ (Option.some.inj h))
noncomputable def F_X10_knock (O : mO) (d : Nat) (a0 : Nat) (a1 : Int32) (K : mH) : Option (Int32 × mH) :=
  (gtA K a0 10 10).bind fun x1 =>
  (gtA K a0 10 11).bind fun x2 =>
  (toI (ev O d MX10_act [.ref x1, .ref x2, .int (nI 2), .int a1, .int (-1)] K)).bind fun p3 =>
  (toI (vc O d 10 MX10_answered a0 [.int p3.1] p3.2)).bind fun p4 =>
  some (p4.1, p4.2)
theorem e_X10_knock {O : mO} {d : Nat} {a0 : Nat} {a1 : Int32} {K : mH} {r0 : Int32} {K0 : mH} (h : F_X10_knock O d a0 a1 K = some (r0, K0)) : ev O (d + 1) MX10_knock [.ref a0, .int a1] K = some (some (.int r0), K0) := by
  refine Rn_evx ?_
  show Go O (d + 1) MX10_knock 0 [some (.ref a0), some (.int a1)] [] K _
  generalize hP : (fun (r : Option Value) (K' : mH) => (r, K') = (some (.int r0), K0)) = P
  have hret : ∀ (r : Int32) (K' : mH), (r, K') = (r0, K0) → P (some (.int r)) K' := by
    intro r K' e
    cases e
    subst hP
    rfl
  clear hP
  unfold F_X10_knock at h
  refine g_aload_n dX10_knock_0 rfl ?_
  refine g_aload_n dX10_knock_1 rfl ?_
  obtain ⟨x1, ex1, h⟩ := bs h
  refine q_getA dX10_knock_2 fX10_89 ex1 ?_
  refine g_aload_n dX10_knock_5 rfl ?_
  obtain ⟨x2, ex2, h⟩ := bs h
  refine q_getA dX10_knock_6 fX10_58 ex2 ?_
  refine g_iconst (v := (nI 2)) dX10_knock_9 (by decide) ?_
  refine g_iload_n dX10_knock_10 rfl ?_
  refine g_iconst (v := (-1)) dX10_knock_11 (by decide) ?_
  obtain ⟨p3, ep3, h⟩ := bs h
  refine q_stat (Z := MX10_act) (toI_s ep3) dX10_knock_12 mX10_254.1 mX10_254.2 (Nat.le_of_ble_eq_true rfl) rfl rfl (Nat.le_of_ble_eq_true rfl) (Nat.le_of_ble_eq_true rfl) ?_
  show Go O (d + 1) MX10_knock 15 [some (.ref a0), some (.int a1)] [.int p3.1, .ref a0] p3.2 P
  obtain ⟨p4, ep4, h⟩ := bs h
  refine q_virt (Z := MX10_answered) (c := (RX10, TX10, 17)) (toI_s ep4) dX10_knock_15 mX10_258.1 mX10_258.2 (Nat.le_of_ble_eq_true rfl) rfl rfl (Nat.le_of_ble_eq_true rfl) (Nat.le_of_ble_eq_true rfl) rfl rfl ?_
  show Go O (d + 1) MX10_knock 18 [some (.ref a0), some (.int a1)] [.int p4.1] p4.2 P
  exact g_ireturn dX10_knock_18 rfl (by first | rfl | decide) (hret _ _ (Option.some.inj h))
noncomputable def F_X10_pass (O : mO) (d : Nat) (a0 : Nat) (K : mH) : Option (Int32 × mH) :=
  (gtA K a0 10 10).bind fun x1 =>
  (gtA K a0 10 11).bind fun x2 =>
  (toI (ev O d MX10_act [.ref x1, .ref x2, .int (nI 3), .int (-1), .int (-1)] K)).bind fun p3 =>
  (toI (vc O d 10 MX10_answered a0 [.int p3.1] p3.2)).bind fun p4 =>
  some (p4.1, p4.2)
theorem e_X10_pass {O : mO} {d : Nat} {a0 : Nat} {K : mH} {r0 : Int32} {K0 : mH} (h : F_X10_pass O d a0 K = some (r0, K0)) : ev O (d + 1) MX10_pass [.ref a0] K = some (some (.int r0), K0) := by
  refine Rn_evx ?_
  show Go O (d + 1) MX10_pass 0 [some (.ref a0)] [] K _
  generalize hP : (fun (r : Option Value) (K' : mH) => (r, K') = (some (.int r0), K0)) = P
  have hret : ∀ (r : Int32) (K' : mH), (r, K') = (r0, K0) → P (some (.int r)) K' := by
    intro r K' e
    cases e
    subst hP
    rfl
  clear hP
  unfold F_X10_pass at h
  refine g_aload_n dX10_pass_0 rfl ?_
  refine g_aload_n dX10_pass_1 rfl ?_
  obtain ⟨x1, ex1, h⟩ := bs h
  refine q_getA dX10_pass_2 fX10_89 ex1 ?_
  refine g_aload_n dX10_pass_5 rfl ?_
  obtain ⟨x2, ex2, h⟩ := bs h
  refine q_getA dX10_pass_6 fX10_58 ex2 ?_
  refine g_iconst (v := (nI 3)) dX10_pass_9 (by decide) ?_
  refine g_iconst (v := (-1)) dX10_pass_10 (by decide) ?_
  refine g_iconst (v := (-1)) dX10_pass_11 (by decide) ?_
  obtain ⟨p3, ep3, h⟩ := bs h
  refine q_stat (Z := MX10_act) (toI_s ep3) dX10_pass_12 mX10_254.1 mX10_254.2 (Nat.le_of_ble_eq_true rfl) rfl rfl (Nat.le_of_ble_eq_true rfl) (Nat.le_of_ble_eq_true rfl) ?_
  show Go O (d + 1) MX10_pass 15 [some (.ref a0)] [.int p3.1, .ref a0] p3.2 P
  obtain ⟨p4, ep4, h⟩ := bs h
  refine q_virt (Z := MX10_answered) (c := (RX10, TX10, 17)) (toI_s ep4) dX10_pass_15 mX10_258.1 mX10_258.2 (Nat.le_of_ble_eq_true rfl) rfl rfl (Nat.le_of_ble_eq_true rfl) (Nat.le_of_ble_eq_true rfl) rfl rfl ?_
  show Go O (d + 1) MX10_pass 18 [some (.ref a0)] [.int p4.1] p4.2 P
  exact g_ireturn dX10_pass_18 rfl (by first | rfl | decide) (hret _ _ (Option.some.inj h))
noncomputable def F_X10_undo (O : mO) (d : Nat) (a0 : Nat) (K : mH) : Option (Int32 × mH) :=
  (gtA K a0 10 11).bind fun x1 =>
  (gtI K x1 3 2).bind fun x2 =>
  if x2 = 0 then
    (toI (vc O d 10 MX10_refused a0 [.int (-3)] K)).bind fun p8 =>
    some (p8.1, p8.2)
  else
    (gtA K a0 10 11).bind fun x4 =>
    (gtA K a0 10 10).bind fun x5 =>
    (toI (vc O d 3 MX3_takeBack x4 [.ref x5] K)).bind fun p6 =>
    (toI (vc O d 10 MX10_granted a0 [.int p6.1] p6.2)).bind fun p7 =>
    some (p7.1, p7.2)
theorem e_X10_undo {O : mO} {d : Nat} {a0 : Nat} {K : mH} {r0 : Int32} {K0 : mH} (h : F_X10_undo O d a0 K = some (r0, K0)) : ev O (d + 1) MX10_undo [.ref a0] K = some (some (.int r0), K0) := by
  refine Rn_evx ?_
  show Go O (d + 1) MX10_undo 0 [some (.ref a0)] [] K _
  generalize hP : (fun (r : Option Value) (K' : mH) => (r, K') = (some (.int r0), K0)) = P
  have hret : ∀ (r : Int32) (K' : mH), (r, K') = (r0, K0) → P (some (.int r)) K' := by
    intro r K' e
    cases e
    subst hP
    rfl
  clear hP
  unfold F_X10_undo at h
  refine g_aload_n dX10_undo_0 rfl ?_
  obtain ⟨x1, ex1, h⟩ := bs h
  refine q_getA dX10_undo_1 fX10_58 ex1 ?_
  obtain ⟨x2, ex2, h⟩ := bs h
  refine q_getI dX10_undo_4 fX10_261 ex2 ?_
  refine g_if_ne (t := 17) dX10_undo_7 (by decide) (fun c3 => ?_) (fun c3 => ?_)
  · rw [if_neg c3] at h
    refine g_aload_n dX10_undo_17 rfl ?_
    refine g_aload_n dX10_undo_18 rfl ?_
    obtain ⟨x4, ex4, h⟩ := bs h
    refine q_getA dX10_undo_19 fX10_58 ex4 ?_
    refine g_aload_n dX10_undo_22 rfl ?_
    obtain ⟨x5, ex5, h⟩ := bs h
    refine q_getA dX10_undo_23 fX10_89 ex5 ?_
    obtain ⟨p6, ep6, h⟩ := bs h
    refine q_virt (Z := MX3_takeBack) (c := (RX3, TX3, 3)) (toI_s ep6) dX10_undo_26 mX10_264.1 mX10_264.2 (Nat.le_of_ble_eq_true rfl) rfl rfl (Nat.le_of_ble_eq_true rfl) (Nat.le_of_ble_eq_true rfl) rfl rfl ?_
    show Go O (d + 1) MX10_undo 29 [some (.ref a0)] [.int p6.1, .ref a0] p6.2 P
    obtain ⟨p7, ep7, h⟩ := bs h
    refine q_virt (Z := MX10_granted) (c := (RX10, TX10, 17)) (toI_s ep7) dX10_undo_29 mX10_118.1 mX10_118.2 (Nat.le_of_ble_eq_true rfl) rfl rfl (Nat.le_of_ble_eq_true rfl) (Nat.le_of_ble_eq_true rfl) rfl rfl ?_
    show Go O (d + 1) MX10_undo 32 [some (.ref a0)] [.int p7.1] p7.2 P
    exact g_ireturn dX10_undo_32 rfl (by first | rfl | decide) (hret _ _ (Option.some.inj h))
  · rw [if_pos c3] at h
    refine g_aload_n dX10_undo_10 rfl ?_
    refine g_bipush (v := (-3)) dX10_undo_11 (by decide) ?_
    obtain ⟨p8, ep8, h⟩ := bs h
    refine q_virt (Z := MX10_refused) (c := (RX10, TX10, 17)) (toI_s ep8) dX10_undo_13 mX10_105.1 mX10_105.2 (Nat.le_of_ble_eq_true rfl) rfl rfl (Nat.le_of_ble_eq_true rfl) (Nat.le_of_ble_eq_true rfl) rfl rfl ?_
    show Go O (d + 1) MX10_undo 16 [some (.ref a0)] [.int p8.1] p8.2 P
    exact g_ireturn dX10_undo_16 rfl (by first | rfl | decide) (hret _ _ (Option.some.inj h))
noncomputable def F_X10_inside (O : mO) (d : Nat) (a0 : Nat) (a1 : Int32) (K : mH) : Option (Int32 × mH) :=
  if a1 < 0 then
    some ((-1), K)
  else
    if a1 ≤ (nI 99) then
      (gtA K a0 10 10).bind fun x3 =>
      (toI (vc O d 2 MX2_inAfter x3 [.int a1] K)).bind fun p4 =>
      some (p4.1, p4.2)
    else
      some ((-1), K)
theorem e_X10_inside {O : mO} {d : Nat} {a0 : Nat} {a1 : Int32} {K : mH} {r0 : Int32} {K0 : mH} (h : F_X10_inside O d a0 a1 K = some (r0, K0)) : ev O (d + 1) MX10_inside [.ref a0, .int a1] K = some (some (.int r0), K0) := by
  refine Rn_evx ?_
  show Go O (d + 1) MX10_inside 0 [some (.ref a0), some (.int a1)] [] K _
  generalize hP : (fun (r : Option Value) (K' : mH) => (r, K') = (some (.int r0), K0)) = P
  have hret : ∀ (r : Int32) (K' : mH), (r, K') = (r0, K0) → P (some (.int r)) K' := by
    intro r K' e
    cases e
    subst hP
    rfl
  clear hP
  unfold F_X10_inside at h
  refine g_iload_n dX10_inside_0 rfl ?_
  refine g_if_lt (t := 10) dX10_inside_1 (by decide) (fun c1 => ?_) (fun c1 => ?_)
  · rw [if_pos c1] at h
    refine g_iconst (v := (-1)) dX10_inside_10 (by decide) ?_
    exact g_ireturn dX10_inside_11 rfl (by first | rfl | decide) (hret _ _ (Option.some.inj h))
  · rw [if_neg c1] at h
    refine g_iload_n dX10_inside_4 rfl ?_
    refine g_bipush (v := (nI 99)) dX10_inside_5 (by decide) ?_
    refine g_ic_le (t := 12) dX10_inside_7 (by decide) (fun c2 => ?_) (fun c2 => ?_)
    · rw [if_pos c2] at h
      refine g_aload_n dX10_inside_12 rfl ?_
      obtain ⟨x3, ex3, h⟩ := bs h
      refine q_getA dX10_inside_13 fX10_89 ex3 ?_
      refine g_iload_n dX10_inside_16 rfl ?_
      obtain ⟨p4, ep4, h⟩ := bs h
      refine q_virt (Z := MX2_inAfter) (c := (RX2, TX2, 18)) (toI_s ep4) dX10_inside_17 mX10_268.1 mX10_268.2 (Nat.le_of_ble_eq_true rfl) rfl rfl (Nat.le_of_ble_eq_true rfl) (Nat.le_of_ble_eq_true rfl) rfl rfl ?_
      show Go O (d + 1) MX10_inside 20 [some (.ref a0), some (.int a1)] [.int p4.1] p4.2 P
      exact g_ireturn dX10_inside_20 rfl (by first | rfl | decide) (hret _ _ (Option.some.inj h))
    · rw [if_neg c2] at h
      refine g_iconst (v := (-1)) dX10_inside_10 (by decide) ?_
      exact g_ireturn dX10_inside_11 rfl (by first | rfl | decide) (hret _ _ (Option.some.inj h))
noncomputable def F_X10_empty_l4 (O : mO) (d : Nat) (v0 : Nat) (K : mH) (s1 : Int32) (s2 : Int32) : Option ((Int32 × Int32) ⊕ (Int32)) :=
  (gtA K v0 10 10).bind fun x1 =>
  (gtI K x1 2 13).bind fun x2 =>
  if x2 ≤ s2 then
    some (.inr s1)
  else
    (gtA K v0 10 10).bind fun x4 =>
    (gtA K x4 2 5).bind fun x5 =>
    (rdI O K x5 s2).bind fun x6 =>
    some (.inl ((if s1 < x6 then x6 else s1), (s2 + nI 1)))
theorem e_X10_empty_l4 {O : mO} {d : Nat} {v0 : Nat} {K : mH} {P : Option Value → mH → Prop} {x : Int32} (hex : ∀ q : Int32, x = q → Go O (d + 1) MX10_empty 35 [none, some (.int q), none] [] K P) : ∀ (f : Nat) (q : Int32 × Int32), lupF (fun (q : Int32 × Int32) => F_X10_empty_l4 O d v0 K q.1 q.2) f q = some x → Go O (d + 1) MX10_empty 4 [some (.ref v0), some (.int q.1), some (.int q.2)] [] K P := by
  intro f
  induction f with
  | zero =>
    intro q h
    cases h
  | succ f ih =>
    intro q h
    obtain ⟨y, h, hy1, hy2⟩ := lupF_s h
    have hin : ∀ q : Int32 × Int32, y = .inl q → Go O (d + 1) MX10_empty 4 [some (.ref v0), some (.int q.1), some (.int q.2)] [] K P := fun q e => ih q (hy1 q e)
    replace hex : ∀ q : Int32, y = .inr q → Go O (d + 1) MX10_empty 35 [none, some (.int q), none] [] K P := fun q e => hex q (hy2 q e).symm
    clear ih hy1 hy2
    obtain ⟨s1, s2⟩ := q
    dsimp only at h ⊢
    unfold F_X10_empty_l4 at h
    refine g_iload_n dX10_empty_4 rfl ?_
    refine g_aload_n dX10_empty_5 rfl ?_
    obtain ⟨x1, ex1, h⟩ := bs h
    refine q_getA dX10_empty_6 fX10_89 ex1 ?_
    obtain ⟨x2, ex2, h⟩ := bs h
    refine q_getI dX10_empty_9 fX10_157 ex2 ?_
    refine g_ic_ge (t := 35) dX10_empty_12 (by decide) (fun c3 => ?_) (fun c3 => ?_)
    · rw [if_pos c3] at h
      refine Go_le ?_ (hex s1 (Option.some.inj h).symm)
      exact And.intro rfl (trivial)
    · rw [if_neg c3] at h
      refine g_iload_n dX10_empty_15 rfl ?_
      refine g_aload_n dX10_empty_16 rfl ?_
      obtain ⟨x4, ex4, h⟩ := bs h
      refine q_getA dX10_empty_17 fX10_89 ex4 ?_
      obtain ⟨x5, ex5, h⟩ := bs h
      refine q_getA dX10_empty_20 fX10_169 ex5 ?_
      refine g_iload_n dX10_empty_23 rfl ?_
      obtain ⟨x6, ex6, h⟩ := bs h
      refine q_iald dX10_empty_24 ex6 ?_
      refine g_max dX10_empty_25 mX10_271 (Nat.le_of_ble_eq_true rfl) (mNo2_h3 rfl) ?_
      refine g_istore_n (ls' := [some (.ref v0), some (.int (if s1 < x6 then x6 else s1)), some (.int s2)]) dX10_empty_28 (by decide) rfl ?_
      refine q_iinc (w := nI 1) (ls' := [some (.ref v0), some (.int (if s1 < x6 then x6 else s1)), some (.int (s2 + nI 1))]) dX10_empty_29 (by decide) rfl (by decide) rfl ?_
      refine g_goto (t := 4) dX10_empty_32 (by decide) ?_
      refine Go_le ?_ (hin ((if s1 < x6 then x6 else s1), (s2 + nI 1)) (Option.some.inj h).symm)
      exact And.intro rfl (And.intro rfl (And.intro rfl (trivial)))
noncomputable def F_X10_empty (O : mO) (d : Nat) (a0 : Nat) (K : mH) : Option (Int32 × mH) :=
  (lupF (fun (q : Int32 × Int32) => F_X10_empty_l4 O d a0 K q.1 q.2) FU ((nI 0), (nI 0))).bind fun r7 =>
  some (r7, K)
theorem e_X10_empty {O : mO} {d : Nat} {a0 : Nat} {K : mH} {r0 : Int32} {K0 : mH} (h : F_X10_empty O d a0 K = some (r0, K0)) : ev O (d + 1) MX10_empty [.ref a0] K = some (some (.int r0), K0) := by
  refine Rn_evx ?_
  show Go O (d + 1) MX10_empty 0 [some (.ref a0), none, none] [] K _
  generalize hP : (fun (r : Option Value) (K' : mH) => (r, K') = (some (.int r0), K0)) = P
  have hret : ∀ (r : Int32) (K' : mH), (r, K') = (r0, K0) → P (some (.int r)) K' := by
    intro r K' e
    cases e
    subst hP
    rfl
  clear hP
  unfold F_X10_empty at h
  refine g_iconst (v := (nI 0)) dX10_empty_0 (by decide) ?_
  refine g_istore_n (ls' := [some (.ref a0), some (.int (nI 0)), none]) dX10_empty_1 (by decide) rfl ?_
  refine g_iconst (v := (nI 0)) dX10_empty_2 (by decide) ?_
  refine g_istore_n (ls' := [some (.ref a0), some (.int (nI 0)), some (.int (nI 0))]) dX10_empty_3 (by decide) rfl ?_
  obtain ⟨r7, er7, h⟩ := bs h
  have hx : Go O (d + 1) MX10_empty 35 [none, some (.int r7), none] [] K P := by
    refine g_iload_n dX10_empty_35 rfl ?_
    exact g_ireturn dX10_empty_36 rfl (by first | rfl | decide) (hret _ _ (Option.some.inj h))
  refine Go_le ?_ (e_X10_empty_l4 (fun q e => by cases e; exact hx) FU ((nI 0), (nI 0)) er7)
  exact And.intro rfl (And.intro rfl (And.intro rfl (trivial)))
noncomputable def F_X10_keep (O : mO) (d : Nat) (a0 : Nat) (a1 : Int32) (a2 : Int32) (a3 : Int32) (K : mH) : Option (Int32 × mH) :=
  (gtA K a0 10 10).bind fun x1 =>
  (toI (vc O d 2 MX2_hasFamily x1 [.int a1] K)).bind fun p2 =>
  if p2.1 = 0 then
    some ((-1), p2.2)
  else
    if a2 < (nI 1) then
      some ((-1), p2.2)
    else
      if (nI 99) < a2 then
        some ((-1), p2.2)
      else
        if a3 < 0 then
          some ((-1), p2.2)
        else
          if a3 ≤ (nI 2) then
            (gtA p2.2 a0 10 1).bind fun x8 =>
            (gtA p2.2 a0 10 10).bind fun x9 =>
            (toI (vc O d 4 MX4_kept x8 [.ref x9, .int a1, .int a2, .int a3] p2.2)).bind fun p10 =>
            some (p10.1, p10.2)
          else
            some ((-1), p2.2)
theorem e_X10_keep {O : mO} {d : Nat} {a0 : Nat} {a1 : Int32} {a2 : Int32} {a3 : Int32} {K : mH} {r0 : Int32} {K0 : mH} (h : F_X10_keep O d a0 a1 a2 a3 K = some (r0, K0)) : ev O (d + 1) MX10_keep [.ref a0, .int a1, .int a2, .int a3] K = some (some (.int r0), K0) := by
  refine Rn_evx ?_
  show Go O (d + 1) MX10_keep 0 [some (.ref a0), some (.int a1), some (.int a2), some (.int a3)] [] K _
  generalize hP : (fun (r : Option Value) (K' : mH) => (r, K') = (some (.int r0), K0)) = P
  have hret : ∀ (r : Int32) (K' : mH), (r, K') = (r0, K0) → P (some (.int r)) K' := by
    intro r K' e
    cases e
    subst hP
    rfl
  clear hP
  unfold F_X10_keep at h
  refine g_aload_n dX10_keep_0 rfl ?_
  obtain ⟨x1, ex1, h⟩ := bs h
  refine q_getA dX10_keep_1 fX10_89 ex1 ?_
  refine g_iload_n dX10_keep_4 rfl ?_
  obtain ⟨p2, ep2, h⟩ := bs h
  refine q_virt (Z := MX2_hasFamily) (c := (RX2, TX2, 18)) (toI_s ep2) dX10_keep_5 mX10_137.1 mX10_137.2 (Nat.le_of_ble_eq_true rfl) rfl rfl (Nat.le_of_ble_eq_true rfl) (Nat.le_of_ble_eq_true rfl) rfl rfl ?_
  show Go O (d + 1) MX10_keep 8 [some (.ref a0), some (.int a1), some (.int a2), some (.int a3)] [.int p2.1] p2.2 P
  refine g_if_eq (t := 31) dX10_keep_8 (by decide) (fun c3 => ?_) (fun c3 => ?_)
  · rw [if_pos c3] at h
    refine g_iconst (v := (-1)) dX10_keep_31 (by decide) ?_
    exact g_ireturn dX10_keep_32 rfl (by first | rfl | decide) (hret _ _ (Option.some.inj h))
  · rw [if_neg c3] at h
    refine g_iload_n dX10_keep_11 rfl ?_
    refine g_iconst (v := (nI 1)) dX10_keep_12 (by decide) ?_
    refine g_ic_lt (t := 31) dX10_keep_13 (by decide) (fun c4 => ?_) (fun c4 => ?_)
    · rw [if_pos c4] at h
      refine g_iconst (v := (-1)) dX10_keep_31 (by decide) ?_
      exact g_ireturn dX10_keep_32 rfl (by first | rfl | decide) (hret _ _ (Option.some.inj h))
    · rw [if_neg c4] at h
      refine g_iload_n dX10_keep_16 rfl ?_
      refine g_bipush (v := (nI 99)) dX10_keep_17 (by decide) ?_
      refine g_ic_gt (t := 31) dX10_keep_19 (by decide) (fun c5 => ?_) (fun c5 => ?_)
      · rw [if_pos c5] at h
        refine g_iconst (v := (-1)) dX10_keep_31 (by decide) ?_
        exact g_ireturn dX10_keep_32 rfl (by first | rfl | decide) (hret _ _ (Option.some.inj h))
      · rw [if_neg c5] at h
        refine g_iload_n dX10_keep_22 rfl ?_
        refine g_if_lt (t := 31) dX10_keep_23 (by decide) (fun c6 => ?_) (fun c6 => ?_)
        · rw [if_pos c6] at h
          refine g_iconst (v := (-1)) dX10_keep_31 (by decide) ?_
          exact g_ireturn dX10_keep_32 rfl (by first | rfl | decide) (hret _ _ (Option.some.inj h))
        · rw [if_neg c6] at h
          refine g_iload_n dX10_keep_26 rfl ?_
          refine g_iconst (v := (nI 2)) dX10_keep_27 (by decide) ?_
          refine g_ic_le (t := 33) dX10_keep_28 (by decide) (fun c7 => ?_) (fun c7 => ?_)
          · rw [if_pos c7] at h
            refine g_aload_n dX10_keep_33 rfl ?_
            obtain ⟨x8, ex8, h⟩ := bs h
            refine q_getA dX10_keep_34 fX10_19 ex8 ?_
            refine g_aload_n dX10_keep_37 rfl ?_
            obtain ⟨x9, ex9, h⟩ := bs h
            refine q_getA dX10_keep_38 fX10_89 ex9 ?_
            refine g_iload_n dX10_keep_41 rfl ?_
            refine g_iload_n dX10_keep_42 rfl ?_
            refine g_iload_n dX10_keep_43 rfl ?_
            obtain ⟨p10, ep10, h⟩ := bs h
            refine q_virt (Z := MX4_kept) (c := (RX4, TX4, 2)) (toI_s ep10) dX10_keep_44 mX10_276.1 mX10_276.2 (Nat.le_of_ble_eq_true rfl) rfl rfl (Nat.le_of_ble_eq_true rfl) (Nat.le_of_ble_eq_true rfl) rfl rfl ?_
            show Go O (d + 1) MX10_keep 47 [some (.ref a0), some (.int a1), some (.int a2), some (.int a3)] [.int p10.1] p10.2 P
            exact g_ireturn dX10_keep_47 rfl (by first | rfl | decide) (hret _ _ (Option.some.inj h))
          · rw [if_neg c7] at h
            refine g_iconst (v := (-1)) dX10_keep_31 (by decide) ?_
            exact g_ireturn dX10_keep_32 rfl (by first | rfl | decide) (hret _ _ (Option.some.inj h))
noncomputable def F_X10_when (O : mO) (d : Nat) (a0 : Nat) (a1 : Int32) (a2 : Int32) (K : mH) : Option (Int32 × mH) :=
  (gtA K a0 10 10).bind fun x1 =>
  (toI (vc O d 2 MX2_isIn x1 [.int a1] K)).bind fun p2 =>
  if p2.1 = 0 then
    some ((-1), p2.2)
  else
    if a2 < 0 then
      some ((-1), p2.2)
    else
      if a2 ≤ (nI 1) then
        (gtA p2.2 a0 10 1).bind fun x6 =>
        (gtA p2.2 a0 10 10).bind fun x7 =>
        (toI (vc O d 4 MX4_cheapestYear x6 [.ref x7, .int a1, .int a2] p2.2)).bind fun p8 =>
        some (p8.1, p8.2)
      else
        some ((-1), p2.2)
theorem e_X10_when {O : mO} {d : Nat} {a0 : Nat} {a1 : Int32} {a2 : Int32} {K : mH} {r0 : Int32} {K0 : mH} (h : F_X10_when O d a0 a1 a2 K = some (r0, K0)) : ev O (d + 1) MX10_when [.ref a0, .int a1, .int a2] K = some (some (.int r0), K0) := by
  refine Rn_evx ?_
  show Go O (d + 1) MX10_when 0 [some (.ref a0), some (.int a1), some (.int a2)] [] K _
  generalize hP : (fun (r : Option Value) (K' : mH) => (r, K') = (some (.int r0), K0)) = P
  have hret : ∀ (r : Int32) (K' : mH), (r, K') = (r0, K0) → P (some (.int r)) K' := by
    intro r K' e
    cases e
    subst hP
    rfl
  clear hP
  unfold F_X10_when at h
  refine g_aload_n dX10_when_0 rfl ?_
  obtain ⟨x1, ex1, h⟩ := bs h
  refine q_getA dX10_when_1 fX10_89 ex1 ?_
  refine g_iload_n dX10_when_4 rfl ?_
  obtain ⟨p2, ep2, h⟩ := bs h
  refine q_virt (Z := MX2_isIn) (c := (RX2, TX2, 18)) (toI_s ep2) dX10_when_5 mX10_280.1 mX10_280.2 (Nat.le_of_ble_eq_true rfl) rfl rfl (Nat.le_of_ble_eq_true rfl) (Nat.le_of_ble_eq_true rfl) rfl rfl ?_
  show Go O (d + 1) MX10_when 8 [some (.ref a0), some (.int a1), some (.int a2)] [.int p2.1] p2.2 P
  refine g_if_eq (t := 20) dX10_when_8 (by decide) (fun c3 => ?_) (fun c3 => ?_)
  · rw [if_pos c3] at h
    refine g_iconst (v := (-1)) dX10_when_20 (by decide) ?_
    exact g_ireturn dX10_when_21 rfl (by first | rfl | decide) (hret _ _ (Option.some.inj h))
  · rw [if_neg c3] at h
    refine g_iload_n dX10_when_11 rfl ?_
    refine g_if_lt (t := 20) dX10_when_12 (by decide) (fun c4 => ?_) (fun c4 => ?_)
    · rw [if_pos c4] at h
      refine g_iconst (v := (-1)) dX10_when_20 (by decide) ?_
      exact g_ireturn dX10_when_21 rfl (by first | rfl | decide) (hret _ _ (Option.some.inj h))
    · rw [if_neg c4] at h
      refine g_iload_n dX10_when_15 rfl ?_
      refine g_iconst (v := (nI 1)) dX10_when_16 (by decide) ?_
      refine g_ic_le (t := 22) dX10_when_17 (by decide) (fun c5 => ?_) (fun c5 => ?_)
      · rw [if_pos c5] at h
        refine g_aload_n dX10_when_22 rfl ?_
        obtain ⟨x6, ex6, h⟩ := bs h
        refine q_getA dX10_when_23 fX10_19 ex6 ?_
        refine g_aload_n dX10_when_26 rfl ?_
        obtain ⟨x7, ex7, h⟩ := bs h
        refine q_getA dX10_when_27 fX10_89 ex7 ?_
        refine g_iload_n dX10_when_30 rfl ?_
        refine g_iload_n dX10_when_31 rfl ?_
        obtain ⟨p8, ep8, h⟩ := bs h
        refine q_virt (Z := MX4_cheapestYear) (c := (RX4, TX4, 2)) (toI_s ep8) dX10_when_32 mX10_283.1 mX10_283.2 (Nat.le_of_ble_eq_true rfl) rfl rfl (Nat.le_of_ble_eq_true rfl) (Nat.le_of_ble_eq_true rfl) rfl rfl ?_
        show Go O (d + 1) MX10_when 35 [some (.ref a0), some (.int a1), some (.int a2)] [.int p8.1] p8.2 P
        exact g_ireturn dX10_when_35 rfl (by first | rfl | decide) (hret _ _ (Option.some.inj h))
      · rw [if_neg c5] at h
        refine g_iconst (v := (-1)) dX10_when_20 (by decide) ?_
        exact g_ireturn dX10_when_21 rfl (by first | rfl | decide) (hret _ _ (Option.some.inj h))
noncomputable def F_X10_seen_j19 (O : mO) (d : Nat) (v0 : Nat) (K : mH) : Option (Int32 × mH) :=
  (toI (vc O d 10 MX10_refused v0 [.int (-1)] K)).bind fun p2 =>
  some (p2.1, p2.2)
theorem e_X10_seen_j19 {O : mO} {d : Nat} {v0 : Nat} {K : mH} {P : Option Value → mH → Prop} {x : Int32 × mH} (hret : ∀ (r : Int32) (K' : mH), (r, K') = x → P (some (.int r)) K') (h : F_X10_seen_j19 O d v0 K = some x) : Go O (d + 1) MX10_seen 19 [some (.ref v0), none, none] [] K P := by
  unfold F_X10_seen_j19 at h
  refine g_aload_n dX10_seen_19 rfl ?_
  refine g_iconst (v := (-1)) dX10_seen_20 (by decide) ?_
  obtain ⟨p2, ep2, h⟩ := bs h
  refine q_virt (Z := MX10_refused) (c := (RX10, TX10, 17)) (toI_s ep2) dX10_seen_21 mX10_105.1 mX10_105.2 (Nat.le_of_ble_eq_true rfl) rfl rfl (Nat.le_of_ble_eq_true rfl) (Nat.le_of_ble_eq_true rfl) rfl rfl ?_
  show Go O (d + 1) MX10_seen 24 [some (.ref v0), none, none] [.int p2.1] p2.2 P
  exact g_ireturn dX10_seen_24 rfl (by first | rfl | decide) (hret _ _ (Option.some.inj h))
noncomputable def F_X10_seen (O : mO) (d : Nat) (a0 : Nat) (a1 : Int32) (a2 : Int32) (K : mH) : Option (Int32 × mH) :=
  if a1 < 0 then
    F_X10_seen_j19 O d a0 K
  else
    if (nI 99) < a1 then
      F_X10_seen_j19 O d a0 K
    else
      if a2 < 0 then
        F_X10_seen_j19 O d a0 K
      else
        if a2 ≤ (nI 1) then
          (gtA K a0 10 10).bind fun x6 =>
          (gtI K x6 2 15).bind fun x7 =>
          if x7 < (nI 8) then
            (gtA K a0 10 10).bind fun x9 =>
            (gtA K x9 2 7).bind fun x10 =>
            (gtA K a0 10 10).bind fun x11 =>
            (gtI K x11 2 15).bind fun x12 =>
            (wrI K x10 x12 a1).bind fun K13 =>
            (gtA K13 a0 10 10).bind fun x14 =>
            (gtA K13 x14 2 8).bind fun x15 =>
            (gtA K13 a0 10 10).bind fun x16 =>
            (gtI K13 x16 2 15).bind fun x17 =>
            (wrI K13 x15 x17 a2).bind fun K18 =>
            (gtA K18 a0 10 10).bind fun x19 =>
            (gtI K18 x19 2 15).bind fun x20 =>
            (ptI K18 x19 2 15 (x20 + (nI 1))).bind fun K21 =>
            (gtA K21 a0 10 10).bind fun x22 =>
            (gtI K21 x22 2 15).bind fun x23 =>
            (toI (vc O d 10 MX10_granted a0 [.int x23] K21)).bind fun p24 =>
            some (p24.1, p24.2)
          else
            (toI (vc O d 10 MX10_refused a0 [.int (-5)] K)).bind fun p25 =>
            some (p25.1, p25.2)
        else
          F_X10_seen_j19 O d a0 K
theorem e_X10_seen {O : mO} {d : Nat} {a0 : Nat} {a1 : Int32} {a2 : Int32} {K : mH} {r0 : Int32} {K0 : mH} (h : F_X10_seen O d a0 a1 a2 K = some (r0, K0)) : ev O (d + 1) MX10_seen [.ref a0, .int a1, .int a2] K = some (some (.int r0), K0) := by
  refine Rn_evx ?_
  show Go O (d + 1) MX10_seen 0 [some (.ref a0), some (.int a1), some (.int a2)] [] K _
  generalize hP : (fun (r : Option Value) (K' : mH) => (r, K') = (some (.int r0), K0)) = P
  have hret : ∀ (r : Int32) (K' : mH), (r, K') = (r0, K0) → P (some (.int r)) K' := by
    intro r K' e
    cases e
    subst hP
    rfl
  clear hP
  unfold F_X10_seen at h
  refine g_iload_n dX10_seen_0 rfl ?_
  refine g_if_lt (t := 19) dX10_seen_1 (by decide) (fun c1 => ?_) (fun c1 => ?_)
  · rw [if_pos c1] at h
    refine Go_le ?_ (e_X10_seen_j19 hret h)
    exact And.intro rfl (trivial)
  · rw [if_neg c1] at h
    refine g_iload_n dX10_seen_4 rfl ?_
    refine g_bipush (v := (nI 99)) dX10_seen_5 (by decide) ?_
    refine g_ic_gt (t := 19) dX10_seen_7 (by decide) (fun c3 => ?_) (fun c3 => ?_)
    · rw [if_pos c3] at h
      refine Go_le ?_ (e_X10_seen_j19 hret h)
      exact And.intro rfl (trivial)
    · rw [if_neg c3] at h
      refine g_iload_n dX10_seen_10 rfl ?_
      refine g_if_lt (t := 19) dX10_seen_11 (by decide) (fun c4 => ?_) (fun c4 => ?_)
      · rw [if_pos c4] at h
        refine Go_le ?_ (e_X10_seen_j19 hret h)
        exact And.intro rfl (trivial)
      · rw [if_neg c4] at h
        refine g_iload_n dX10_seen_14 rfl ?_
        refine g_iconst (v := (nI 1)) dX10_seen_15 (by decide) ?_
        refine g_ic_le (t := 25) dX10_seen_16 (by decide) (fun c5 => ?_) (fun c5 => ?_)
        · rw [if_pos c5] at h
          refine g_aload_n dX10_seen_25 rfl ?_
          obtain ⟨x6, ex6, h⟩ := bs h
          refine q_getA dX10_seen_26 fX10_89 ex6 ?_
          obtain ⟨x7, ex7, h⟩ := bs h
          refine q_getI dX10_seen_29 fX10_287 ex7 ?_
          refine g_bipush (v := (nI 8)) dX10_seen_32 (by decide) ?_
          refine g_ic_lt (t := 44) dX10_seen_34 (by decide) (fun c8 => ?_) (fun c8 => ?_)
          · rw [if_pos c8] at h
            refine g_aload_n dX10_seen_44 rfl ?_
            obtain ⟨x9, ex9, h⟩ := bs h
            refine q_getA dX10_seen_45 fX10_89 ex9 ?_
            obtain ⟨x10, ex10, h⟩ := bs h
            refine q_getA dX10_seen_48 fX10_290 ex10 ?_
            refine g_aload_n dX10_seen_51 rfl ?_
            obtain ⟨x11, ex11, h⟩ := bs h
            refine q_getA dX10_seen_52 fX10_89 ex11 ?_
            obtain ⟨x12, ex12, h⟩ := bs h
            refine q_getI dX10_seen_55 fX10_287 ex12 ?_
            refine g_iload_n dX10_seen_58 rfl ?_
            obtain ⟨K13, eK13, h⟩ := bs h
            refine q_iast dX10_seen_59 eK13 ?_
            refine g_aload_n dX10_seen_60 rfl ?_
            obtain ⟨x14, ex14, h⟩ := bs h
            refine q_getA dX10_seen_61 fX10_89 ex14 ?_
            obtain ⟨x15, ex15, h⟩ := bs h
            refine q_getA dX10_seen_64 fX10_293 ex15 ?_
            refine g_aload_n dX10_seen_67 rfl ?_
            obtain ⟨x16, ex16, h⟩ := bs h
            refine q_getA dX10_seen_68 fX10_89 ex16 ?_
            obtain ⟨x17, ex17, h⟩ := bs h
            refine q_getI dX10_seen_71 fX10_287 ex17 ?_
            refine g_iload_n dX10_seen_74 rfl ?_
            obtain ⟨K18, eK18, h⟩ := bs h
            refine q_iast dX10_seen_75 eK18 ?_
            refine g_aload_n dX10_seen_76 rfl ?_
            obtain ⟨x19, ex19, h⟩ := bs h
            refine q_getA dX10_seen_77 fX10_89 ex19 ?_
            refine g_dup dX10_seen_80 (by first | rfl | exact vrf_cat _) ?_
            obtain ⟨x20, ex20, h⟩ := bs h
            refine q_getI dX10_seen_81 fX10_287 ex20 ?_
            refine g_iconst (v := (nI 1)) dX10_seen_84 (by decide) ?_
            refine g_iadd dX10_seen_85 ?_
            obtain ⟨K21, eK21, h⟩ := bs h
            refine q_put (c := (RX2, TX2, 18)) dX10_seen_86 fX10_287 rfl rfl rfl (fun h => absurd h (by decide)) eK21 ?_
            refine g_aload_n dX10_seen_89 rfl ?_
            refine g_aload_n dX10_seen_90 rfl ?_
            obtain ⟨x22, ex22, h⟩ := bs h
            refine q_getA dX10_seen_91 fX10_89 ex22 ?_
            obtain ⟨x23, ex23, h⟩ := bs h
            refine q_getI dX10_seen_94 fX10_287 ex23 ?_
            obtain ⟨p24, ep24, h⟩ := bs h
            refine q_virt (Z := MX10_granted) (c := (RX10, TX10, 17)) (toI_s ep24) dX10_seen_97 mX10_118.1 mX10_118.2 (Nat.le_of_ble_eq_true rfl) rfl rfl (Nat.le_of_ble_eq_true rfl) (Nat.le_of_ble_eq_true rfl) rfl rfl ?_
            show Go O (d + 1) MX10_seen 100 [some (.ref a0), some (.int a1), some (.int a2)] [.int p24.1] p24.2 P
            exact g_ireturn dX10_seen_100 rfl (by first | rfl | decide) (hret _ _ (Option.some.inj h))
          · rw [if_neg c8] at h
            refine g_aload_n dX10_seen_37 rfl ?_
            refine g_bipush (v := (-5)) dX10_seen_38 (by decide) ?_
            obtain ⟨p25, ep25, h⟩ := bs h
            refine q_virt (Z := MX10_refused) (c := (RX10, TX10, 17)) (toI_s ep25) dX10_seen_40 mX10_105.1 mX10_105.2 (Nat.le_of_ble_eq_true rfl) rfl rfl (Nat.le_of_ble_eq_true rfl) (Nat.le_of_ble_eq_true rfl) rfl rfl ?_
            show Go O (d + 1) MX10_seen 43 [some (.ref a0), some (.int a1), some (.int a2)] [.int p25.1] p25.2 P
            exact g_ireturn dX10_seen_43 rfl (by first | rfl | decide) (hret _ _ (Option.some.inj h))
        · rw [if_neg c5] at h
          refine Go_le ?_ (e_X10_seen_j19 hret h)
          exact And.intro rfl (trivial)
noncomputable def F_X10_forget (O : mO) (d : Nat) (a0 : Nat) (K : mH) : Option (Int32 × mH) :=
  (gtA K a0 10 10).bind fun x1 =>
  (gtI K x1 2 15).bind fun x2 =>
  (gtA K a0 10 10).bind fun x3 =>
  (ptI K x3 2 15 (nI 0)).bind fun K4 =>
  some (x2, K4)
theorem e_X10_forget {O : mO} {d : Nat} {a0 : Nat} {K : mH} {r0 : Int32} {K0 : mH} (h : F_X10_forget O d a0 K = some (r0, K0)) : ev O (d + 1) MX10_forget [.ref a0] K = some (some (.int r0), K0) := by
  refine Rn_evx ?_
  show Go O (d + 1) MX10_forget 0 [some (.ref a0), none] [] K _
  generalize hP : (fun (r : Option Value) (K' : mH) => (r, K') = (some (.int r0), K0)) = P
  have hret : ∀ (r : Int32) (K' : mH), (r, K') = (r0, K0) → P (some (.int r)) K' := by
    intro r K' e
    cases e
    subst hP
    rfl
  clear hP
  unfold F_X10_forget at h
  refine g_aload_n dX10_forget_0 rfl ?_
  obtain ⟨x1, ex1, h⟩ := bs h
  refine q_getA dX10_forget_1 fX10_89 ex1 ?_
  obtain ⟨x2, ex2, h⟩ := bs h
  refine q_getI dX10_forget_4 fX10_287 ex2 ?_
  refine g_istore_n (ls' := [some (.ref a0), some (.int x2)]) dX10_forget_7 (by decide) rfl ?_
  refine g_aload_n dX10_forget_8 rfl ?_
  obtain ⟨x3, ex3, h⟩ := bs h
  refine q_getA dX10_forget_9 fX10_89 ex3 ?_
  refine g_iconst (v := (nI 0)) dX10_forget_12 (by decide) ?_
  obtain ⟨K4, eK4, h⟩ := bs h
  refine q_put (c := (RX2, TX2, 18)) dX10_forget_13 fX10_287 rfl rfl rfl (fun h => absurd h (by decide)) eK4 ?_
  refine g_iload_n dX10_forget_16 rfl ?_
  exact g_ireturn dX10_forget_17 rfl (by first | rfl | decide) (hret _ _ (Option.some.inj h))
noncomputable def F_X10_stranger (O : mO) (d : Nat) (a0 : Nat) (K : mH) : Option (Int32 × mH) :=
  (gtA K a0 10 10).bind fun x1 =>
  (toI (vc O d 2 MX2_strangers x1 [] K)).bind fun p2 =>
  some (p2.1, p2.2)
theorem e_X10_stranger {O : mO} {d : Nat} {a0 : Nat} {K : mH} {r0 : Int32} {K0 : mH} (h : F_X10_stranger O d a0 K = some (r0, K0)) : ev O (d + 1) MX10_stranger [.ref a0] K = some (some (.int r0), K0) := by
  refine Rn_evx ?_
  show Go O (d + 1) MX10_stranger 0 [some (.ref a0)] [] K _
  generalize hP : (fun (r : Option Value) (K' : mH) => (r, K') = (some (.int r0), K0)) = P
  have hret : ∀ (r : Int32) (K' : mH), (r, K') = (r0, K0) → P (some (.int r)) K' := by
    intro r K' e
    cases e
    subst hP
    rfl
  clear hP
  unfold F_X10_stranger at h
  refine g_aload_n dX10_stranger_0 rfl ?_
  obtain ⟨x1, ex1, h⟩ := bs h
  refine q_getA dX10_stranger_1 fX10_89 ex1 ?_
  obtain ⟨p2, ep2, h⟩ := bs h
  refine q_virt (Z := MX2_strangers) (c := (RX2, TX2, 18)) (toI_s ep2) dX10_stranger_4 mX10_296.1 mX10_296.2 (Nat.le_of_ble_eq_true rfl) rfl rfl (Nat.le_of_ble_eq_true rfl) (Nat.le_of_ble_eq_true rfl) rfl rfl ?_
  show Go O (d + 1) MX10_stranger 7 [some (.ref a0)] [.int p2.1] p2.2 P
  exact g_ireturn dX10_stranger_7 rfl (by first | rfl | decide) (hret _ _ (Option.some.inj h))
noncomputable def F_X10_look (O : mO) (d : Nat) (a0 : Nat) (a1 : Int32) (K : mH) : Option (Int32 × mH) :=
  if a1 < 0 then
    some ((-1), K)
  else
    if a1 ≤ (nI 1) then
      (gtA K a0 10 1).bind fun x3 =>
      (gtA K a0 10 10).bind fun x4 =>
      (toI (vc O d 4 MX4_bestLook x3 [.ref x4, .int a1] K)).bind fun p5 =>
      some (p5.1, p5.2)
    else
      some ((-1), K)
theorem e_X10_look {O : mO} {d : Nat} {a0 : Nat} {a1 : Int32} {K : mH} {r0 : Int32} {K0 : mH} (h : F_X10_look O d a0 a1 K = some (r0, K0)) : ev O (d + 1) MX10_look [.ref a0, .int a1] K = some (some (.int r0), K0) := by
  refine Rn_evx ?_
  show Go O (d + 1) MX10_look 0 [some (.ref a0), some (.int a1)] [] K _
  generalize hP : (fun (r : Option Value) (K' : mH) => (r, K') = (some (.int r0), K0)) = P
  have hret : ∀ (r : Int32) (K' : mH), (r, K') = (r0, K0) → P (some (.int r)) K' := by
    intro r K' e
    cases e
    subst hP
    rfl
  clear hP
  unfold F_X10_look at h
  refine g_iload_n dX10_look_0 rfl ?_
  refine g_if_lt (t := 9) dX10_look_1 (by decide) (fun c1 => ?_) (fun c1 => ?_)
  · rw [if_pos c1] at h
    refine g_iconst (v := (-1)) dX10_look_9 (by decide) ?_
    exact g_ireturn dX10_look_10 rfl (by first | rfl | decide) (hret _ _ (Option.some.inj h))
  · rw [if_neg c1] at h
    refine g_iload_n dX10_look_4 rfl ?_
    refine g_iconst (v := (nI 1)) dX10_look_5 (by decide) ?_
    refine g_ic_le (t := 11) dX10_look_6 (by decide) (fun c2 => ?_) (fun c2 => ?_)
    · rw [if_pos c2] at h
      refine g_aload_n dX10_look_11 rfl ?_
      obtain ⟨x3, ex3, h⟩ := bs h
      refine q_getA dX10_look_12 fX10_19 ex3 ?_
      refine g_aload_n dX10_look_15 rfl ?_
      obtain ⟨x4, ex4, h⟩ := bs h
      refine q_getA dX10_look_16 fX10_89 ex4 ?_
      refine g_iload_n dX10_look_19 rfl ?_
      obtain ⟨p5, ep5, h⟩ := bs h
      refine q_virt (Z := MX4_bestLook) (c := (RX4, TX4, 2)) (toI_s ep5) dX10_look_20 mX10_299.1 mX10_299.2 (Nat.le_of_ble_eq_true rfl) rfl rfl (Nat.le_of_ble_eq_true rfl) (Nat.le_of_ble_eq_true rfl) rfl rfl ?_
      show Go O (d + 1) MX10_look 23 [some (.ref a0), some (.int a1)] [.int p5.1] p5.2 P
      exact g_ireturn dX10_look_23 rfl (by first | rfl | decide) (hret _ _ (Option.some.inj h))
    · rw [if_neg c2] at h
      refine g_iconst (v := (-1)) dX10_look_9 (by decide) ?_
      exact g_ireturn dX10_look_10 rfl (by first | rfl | decide) (hret _ _ (Option.some.inj h))
