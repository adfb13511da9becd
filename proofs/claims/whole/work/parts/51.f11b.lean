/-! methods as functions, by gen50.py -/
noncomputable def F_X11_canRenew (O : mO) (d : Nat) (a0 : Nat) (a1 : Int32) (K : mH) : Option (Int32 × mH) :=
  (toI (vc O d 11 MX11_isIn a0 [.int a1] K)).bind fun p1 =>
  if p1.1 = 0 then
    some ((nI 0), p1.2)
  else
    (gtA p1.2 a0 11 3).bind fun x4 =>
    (gtA p1.2 a0 11 3).bind fun x5 =>
    (rdI O p1.2 x5 ((nI 42) + a1)).bind fun x6 =>
    (rdI O p1.2 x4 ((nI 33) + x6)).bind fun x7 =>
    (toI (vc O d 11 MX11_pricedAt a0 [.int a1] p1.2)).bind fun p8 =>
    (zz (if x7 < p8.1 then (nI 0) else (nI 1))).bind fun z10 =>
    some (z10, p8.2)
theorem e_X11_canRenew {O : mO} {d : Nat} {a0 : Nat} {a1 : Int32} {K : mH} {r0 : Int32} {K0 : mH} (h : F_X11_canRenew O d a0 a1 K = some (r0, K0)) : ev O (d + 1) MX11_canRenew [.ref a0, .int a1] K = some (some (.int r0), K0) := by
  refine Rn_evx ?_
  show Go O (d + 1) MX11_canRenew 0 [some (.ref a0), some (.int a1)] [] K _
  generalize hP : (fun (r : Option Value) (K' : mH) => (r, K') = (some (.int r0), K0)) = P
  have hret : ∀ (r : Int32) (K' : mH), (r, K') = (r0, K0) → P (some (.int r)) K' := by
    intro r K' e
    cases e
    subst hP
    rfl
  clear hP
  unfold F_X11_canRenew at h
  refine g_aload_n dX11_canRenew_0 rfl ?_
  refine g_iload_n dX11_canRenew_1 rfl ?_
  obtain ⟨p1, ep1, h⟩ := bs h
  refine q_virt (Z := MX11_isIn) (c := (RX11, TX11, 56)) (toI_s ep1) dX11_canRenew_2 mX11_182.1 mX11_182.2 (Nat.le_of_ble_eq_true rfl) rfl rfl (Nat.le_of_ble_eq_true rfl) (Nat.le_of_ble_eq_true rfl) rfl rfl ?_
  show Go O (d + 1) MX11_canRenew 5 [some (.ref a0), some (.int a1)] [.int p1.1] p1.2 P
  refine g_if_eq (t := 37) dX11_canRenew_5 (by decide) (fun c3 => ?_) (fun c3 => ?_)
  · rw [if_pos c3] at h
    refine g_iconst (v := (nI 0)) dX11_canRenew_37 (by decide) ?_
    exact g_ireturn dX11_canRenew_38 rfl (by first | rfl | decide) (hret _ _ (Option.some.inj h))
  · rw [if_neg c3] at h
    refine g_aload_n dX11_canRenew_8 rfl ?_
    obtain ⟨x4, ex4, h⟩ := bs h
    refine q_getA dX11_canRenew_9 fX11_13 ex4 ?_
    refine g_bipush (v := (nI 33)) dX11_canRenew_12 (by decide) ?_
    refine g_aload_n dX11_canRenew_14 rfl ?_
    obtain ⟨x5, ex5, h⟩ := bs h
    refine q_getA dX11_canRenew_15 fX11_13 ex5 ?_
    refine g_bipush (v := (nI 42)) dX11_canRenew_18 (by decide) ?_
    refine g_iload_n dX11_canRenew_20 rfl ?_
    refine g_iadd dX11_canRenew_21 ?_
    obtain ⟨x6, ex6, h⟩ := bs h
    refine q_iald dX11_canRenew_22 ex6 ?_
    refine g_iadd dX11_canRenew_23 ?_
    obtain ⟨x7, ex7, h⟩ := bs h
    refine q_iald dX11_canRenew_24 ex7 ?_
    refine g_aload_n dX11_canRenew_25 rfl ?_
    refine g_iload_n dX11_canRenew_26 rfl ?_
    obtain ⟨p8, ep8, h⟩ := bs h
    refine q_virt (Z := MX11_pricedAt) (c := (RX11, TX11, 56)) (toI_s ep8) dX11_canRenew_27 mX11_196.1 mX11_196.2 (Nat.le_of_ble_eq_true rfl) rfl rfl (Nat.le_of_ble_eq_true rfl) (Nat.le_of_ble_eq_true rfl) rfl rfl ?_
    show Go O (d + 1) MX11_canRenew 30 [some (.ref a0), some (.int a1)] [.int p8.1, .int x7] p8.2 P
    have hj : Go O (d + 1) MX11_canRenew 38 [none, none] [.int (if x7 < p8.1 then (nI 0) else (nI 1))] p8.2 P := by
      obtain ⟨z10, ez10, h⟩ := bs h
      exact q_zret dX11_canRenew_38 rfl ez10 (hret _ _ (Option.some.inj h))
    refine g_ic_lt (t := 37) dX11_canRenew_30 (by decide) (fun c9 => ?_) (fun c9 => ?_)
    · skip
      refine g_iconst (v := (nI 0)) dX11_canRenew_37 (by decide) ?_
      have hk : Go O (d + 1) MX11_canRenew 38 [none, none] [.int (nI 0)] p8.2 P := by simpa only [if_pos c9] using hj
      refine Go_le ?_ hk
      exact trivial
    · skip
      refine g_iconst (v := (nI 1)) dX11_canRenew_33 (by decide) ?_
      refine g_goto (t := 38) dX11_canRenew_34 (by decide) ?_
      have hk : Go O (d + 1) MX11_canRenew 38 [none, none] [.int (nI 1)] p8.2 P := by simpa only [if_neg c9] using hj
      refine Go_le ?_ hk
      exact trivial
noncomputable def F_X11_renewIt (O : mO) (d : Nat) (a0 : Nat) (a1 : Int32) (K : mH) : Option (Int32 × mH) :=
  (toI (vc O d 11 MX11_pricedAt a0 [.int a1] K)).bind fun p1 =>
  (toI (vc O d 11 MX11_lastsOf a0 [.int a1] p1.2)).bind fun p2 =>
  (gtA p2.2 a0 11 3).bind fun x3 =>
  (gtA p2.2 a0 11 3).bind fun x4 =>
  (rdI O p2.2 x4 ((nI 42) + a1)).bind fun x5 =>
  (rdI O p2.2 x3 ((nI 33) + x5)).bind fun x6 =>
  (wrI p2.2 x3 ((nI 33) + x5) (x6 - p1.1)).bind fun K7 =>
  (gtA K7 a0 11 3).bind fun x8 =>
  (gtA K7 a0 11 3).bind fun x9 =>
  (rdI O K7 x9 ((nI 17) + a1)).bind fun x10 =>
  (toI (ev O d MX11_within [.long (x10 + p2.1).toInt64, .int (nI 0), .int (nI 99)] K7)).bind fun p11 =>
  (wrI p11.2 x8 ((nI 17) + a1) p11.1).bind fun K12 =>
  some (p1.1, K12)
theorem e_X11_renewIt {O : mO} {d : Nat} {a0 : Nat} {a1 : Int32} {K : mH} {r0 : Int32} {K0 : mH} (h : F_X11_renewIt O d a0 a1 K = some (r0, K0)) : ev O (d + 1) MX11_renewIt [.ref a0, .int a1] K = some (some (.int r0), K0) := by
  refine Rn_evx ?_
  show Go O (d + 1) MX11_renewIt 0 [some (.ref a0), some (.int a1), none, none] [] K _
  generalize hP : (fun (r : Option Value) (K' : mH) => (r, K') = (some (.int r0), K0)) = P
  have hret : ∀ (r : Int32) (K' : mH), (r, K') = (r0, K0) → P (some (.int r)) K' := by
    intro r K' e
    cases e
    subst hP
    rfl
  clear hP
  unfold F_X11_renewIt at h
  refine g_aload_n dX11_renewIt_0 rfl ?_
  refine g_iload_n dX11_renewIt_1 rfl ?_
  obtain ⟨p1, ep1, h⟩ := bs h
  refine q_virt (Z := MX11_pricedAt) (c := (RX11, TX11, 56)) (toI_s ep1) dX11_renewIt_2 mX11_196.1 mX11_196.2 (Nat.le_of_ble_eq_true rfl) rfl rfl (Nat.le_of_ble_eq_true rfl) (Nat.le_of_ble_eq_true rfl) rfl rfl ?_
  show Go O (d + 1) MX11_renewIt 5 [some (.ref a0), some (.int a1), none, none] [.int p1.1] p1.2 P
  refine g_istore_n (ls' := [some (.ref a0), some (.int a1), some (.int p1.1), none]) dX11_renewIt_5 (by decide) rfl ?_
  refine g_aload_n dX11_renewIt_6 rfl ?_
  refine g_iload_n dX11_renewIt_7 rfl ?_
  obtain ⟨p2, ep2, h⟩ := bs h
  refine q_virt (Z := MX11_lastsOf) (c := (RX11, TX11, 56)) (toI_s ep2) dX11_renewIt_8 mX11_217.1 mX11_217.2 (Nat.le_of_ble_eq_true rfl) rfl rfl (Nat.le_of_ble_eq_true rfl) (Nat.le_of_ble_eq_true rfl) rfl rfl ?_
  show Go O (d + 1) MX11_renewIt 11 [some (.ref a0), some (.int a1), some (.int p1.1), none] [.int p2.1] p2.2 P
  refine g_istore_n (ls' := [some (.ref a0), some (.int a1), some (.int p1.1), some (.int p2.1)]) dX11_renewIt_11 (by decide) rfl ?_
  refine g_aload_n dX11_renewIt_12 rfl ?_
  obtain ⟨x3, ex3, h⟩ := bs h
  refine q_getA dX11_renewIt_13 fX11_13 ex3 ?_
  refine g_bipush (v := (nI 33)) dX11_renewIt_16 (by decide) ?_
  refine g_aload_n dX11_renewIt_18 rfl ?_
  obtain ⟨x4, ex4, h⟩ := bs h
  refine q_getA dX11_renewIt_19 fX11_13 ex4 ?_
  refine g_bipush (v := (nI 42)) dX11_renewIt_22 (by decide) ?_
  refine g_iload_n dX11_renewIt_24 rfl ?_
  refine g_iadd dX11_renewIt_25 ?_
  obtain ⟨x5, ex5, h⟩ := bs h
  refine q_iald dX11_renewIt_26 ex5 ?_
  refine g_iadd dX11_renewIt_27 ?_
  refine g_dup2 dX11_renewIt_28 rfl rfl ?_
  obtain ⟨x6, ex6, h⟩ := bs h
  refine q_iald dX11_renewIt_29 ex6 ?_
  refine g_iload_n dX11_renewIt_30 rfl ?_
  refine g_isub dX11_renewIt_31 ?_
  obtain ⟨K7, eK7, h⟩ := bs h
  refine q_iast dX11_renewIt_32 eK7 ?_
  refine g_aload_n dX11_renewIt_33 rfl ?_
  obtain ⟨x8, ex8, h⟩ := bs h
  refine q_getA dX11_renewIt_34 fX11_13 ex8 ?_
  refine g_bipush (v := (nI 17)) dX11_renewIt_37 (by decide) ?_
  refine g_iload_n dX11_renewIt_39 rfl ?_
  refine g_iadd dX11_renewIt_40 ?_
  refine g_aload_n dX11_renewIt_41 rfl ?_
  obtain ⟨x9, ex9, h⟩ := bs h
  refine q_getA dX11_renewIt_42 fX11_13 ex9 ?_
  refine g_bipush (v := (nI 17)) dX11_renewIt_45 (by decide) ?_
  refine g_iload_n dX11_renewIt_47 rfl ?_
  refine g_iadd dX11_renewIt_48 ?_
  obtain ⟨x10, ex10, h⟩ := bs h
  refine q_iald dX11_renewIt_49 ex10 ?_
  refine g_iload_n dX11_renewIt_50 rfl ?_
  refine g_iadd dX11_renewIt_51 ?_
  refine g_i2l dX11_renewIt_52 ?_
  refine g_iconst (v := (nI 0)) dX11_renewIt_53 (by decide) ?_
  refine g_bipush (v := (nI 99)) dX11_renewIt_54 (by decide) ?_
  obtain ⟨p11, ep11, h⟩ := bs h
  refine q_stat (Z := MX11_within) (toI_s ep11) dX11_renewIt_56 mX11_430.1 mX11_430.2 (Nat.le_of_ble_eq_true rfl) rfl rfl (Nat.le_of_ble_eq_true rfl) (Nat.le_of_ble_eq_true rfl) ?_
  show Go O (d + 1) MX11_renewIt 59 [some (.ref a0), some (.int a1), some (.int p1.1), some (.int p2.1)] [.int p11.1, .int ((nI 17) + a1), .ref x8] p11.2 P
  obtain ⟨K12, eK12, h⟩ := bs h
  refine q_iast dX11_renewIt_59 eK12 ?_
  refine g_iload_n dX11_renewIt_60 rfl ?_
  exact g_ireturn dX11_renewIt_61 rfl (by first | rfl | decide) (hret _ _ (Option.some.inj h))
noncomputable def F_X11_renewNow (O : mO) (d : Nat) (a0 : Nat) (a1 : Int32) (K : mH) : Option (Int32 × mH) :=
  (toI (vc O d 11 MX11_isDead a0 [.int a1] K)).bind fun p1 =>
  if p1.1 = 0 then
    some ((-2), p1.2)
  else
    (toI (vc O d 11 MX11_canRenew a0 [.int a1] p1.2)).bind fun p3 =>
    if p3.1 = 0 then
      some ((-3), p3.2)
    else
      (toV (vc O d 11 MX11_remember a0 [.int (nI 0)] p3.2)).bind fun K5 =>
      (toI (vc O d 11 MX11_renewIt a0 [.int a1] K5)).bind fun p6 =>
      some (p6.1, p6.2)
theorem e_X11_renewNow {O : mO} {d : Nat} {a0 : Nat} {a1 : Int32} {K : mH} {r0 : Int32} {K0 : mH} (h : F_X11_renewNow O d a0 a1 K = some (r0, K0)) : ev O (d + 1) MX11_renewNow [.ref a0, .int a1] K = some (some (.int r0), K0) := by
  refine Rn_evx ?_
  show Go O (d + 1) MX11_renewNow 0 [some (.ref a0), some (.int a1)] [] K _
  generalize hP : (fun (r : Option Value) (K' : mH) => (r, K') = (some (.int r0), K0)) = P
  have hret : ∀ (r : Int32) (K' : mH), (r, K') = (r0, K0) → P (some (.int r)) K' := by
    intro r K' e
    cases e
    subst hP
    rfl
  clear hP
  unfold F_X11_renewNow at h
  refine g_aload_n dX11_renewNow_0 rfl ?_
  refine g_iload_n dX11_renewNow_1 rfl ?_
  obtain ⟨p1, ep1, h⟩ := bs h
  refine q_virt (Z := MX11_isDead) (c := (RX11, TX11, 56)) (toI_s ep1) dX11_renewNow_2 mX11_214.1 mX11_214.2 (Nat.le_of_ble_eq_true rfl) rfl rfl (Nat.le_of_ble_eq_true rfl) (Nat.le_of_ble_eq_true rfl) rfl rfl ?_
  show Go O (d + 1) MX11_renewNow 5 [some (.ref a0), some (.int a1)] [.int p1.1] p1.2 P
  refine g_if_ne (t := 11) dX11_renewNow_5 (by decide) (fun c2 => ?_) (fun c2 => ?_)
  · rw [if_neg c2] at h
    refine g_aload_n dX11_renewNow_11 rfl ?_
    refine g_iload_n dX11_renewNow_12 rfl ?_
    obtain ⟨p3, ep3, h⟩ := bs h
    refine q_virt (Z := MX11_canRenew) (c := (RX11, TX11, 56)) (toI_s ep3) dX11_renewNow_13 mX11_434.1 mX11_434.2 (Nat.le_of_ble_eq_true rfl) rfl rfl (Nat.le_of_ble_eq_true rfl) (Nat.le_of_ble_eq_true rfl) rfl rfl ?_
    show Go O (d + 1) MX11_renewNow 16 [some (.ref a0), some (.int a1)] [.int p3.1] p3.2 P
    refine g_if_ne (t := 22) dX11_renewNow_16 (by decide) (fun c4 => ?_) (fun c4 => ?_)
    · rw [if_neg c4] at h
      refine g_aload_n dX11_renewNow_22 rfl ?_
      refine g_iconst (v := (nI 0)) dX11_renewNow_23 (by decide) ?_
      obtain ⟨K5, eK5, h⟩ := bs h
      refine q_virt (Z := MX11_remember) (c := (RX11, TX11, 56)) (toV_s eK5) dX11_renewNow_24 mX11_437.1 mX11_437.2 (Nat.le_of_ble_eq_true rfl) rfl rfl (Nat.le_of_ble_eq_true rfl) (Nat.le_of_ble_eq_true rfl) rfl rfl ?_
      show Go O (d + 1) MX11_renewNow 27 [some (.ref a0), some (.int a1)] [] K5 P
      refine g_aload_n dX11_renewNow_27 rfl ?_
      refine g_iload_n dX11_renewNow_28 rfl ?_
      obtain ⟨p6, ep6, h⟩ := bs h
      refine q_virt (Z := MX11_renewIt) (c := (RX11, TX11, 56)) (toI_s ep6) dX11_renewNow_29 mX11_440.1 mX11_440.2 (Nat.le_of_ble_eq_true rfl) rfl rfl (Nat.le_of_ble_eq_true rfl) (Nat.le_of_ble_eq_true rfl) rfl rfl ?_
      show Go O (d + 1) MX11_renewNow 32 [some (.ref a0), some (.int a1)] [.int p6.1] p6.2 P
      exact g_ireturn dX11_renewNow_32 rfl (by first | rfl | decide) (hret _ _ (Option.some.inj h))
    · rw [if_pos c4] at h
      refine g_bipush (v := (-3)) dX11_renewNow_19 (by decide) ?_
      exact g_ireturn dX11_renewNow_21 rfl (by first | rfl | decide) (hret _ _ (Option.some.inj h))
  · rw [if_pos c2] at h
    refine g_bipush (v := (-2)) dX11_renewNow_8 (by decide) ?_
    exact g_ireturn dX11_renewNow_10 rfl (by first | rfl | decide) (hret _ _ (Option.some.inj h))
noncomputable def F_X11_renew (O : mO) (d : Nat) (a0 : Nat) (a1 : Int32) (K : mH) : Option (Int32 × mH) :=
  (ptI K a0 11 0 (nI 0)).bind fun K1 =>
  (toI (vc O d 11 MX11_renewNow a0 [.int a1] K1)).bind fun p2 =>
  (toI (vc O d 11 MX11_tell a0 [.int p2.1] p2.2)).bind fun p3 =>
  some (p3.1, p3.2)
theorem e_X11_renew {O : mO} {d : Nat} {a0 : Nat} {a1 : Int32} {K : mH} {r0 : Int32} {K0 : mH} (h : F_X11_renew O d a0 a1 K = some (r0, K0)) : ev O (d + 1) MX11_renew [.ref a0, .int a1] K = some (some (.int r0), K0) := by
  refine Rn_evx ?_
  show Go O (d + 1) MX11_renew 0 [some (.ref a0), some (.int a1)] [] K _
  generalize hP : (fun (r : Option Value) (K' : mH) => (r, K') = (some (.int r0), K0)) = P
  have hret : ∀ (r : Int32) (K' : mH), (r, K') = (r0, K0) → P (some (.int r)) K' := by
    intro r K' e
    cases e
    subst hP
    rfl
  clear hP
  unfold F_X11_renew at h
  refine g_aload_n dX11_renew_0 rfl ?_
  refine g_iconst (v := (nI 0)) dX11_renew_1 (by decide) ?_
  obtain ⟨K1, eK1, h⟩ := bs h
  refine q_put (c := (RX11, TX11, 56)) dX11_renew_2 fX11_149 rfl rfl rfl (fun h => absurd h (by decide)) eK1 ?_
  refine g_aload_n dX11_renew_5 rfl ?_
  refine g_aload_n dX11_renew_6 rfl ?_
  refine g_iload_n dX11_renew_7 rfl ?_
  obtain ⟨p2, ep2, h⟩ := bs h
  refine q_virt (Z := MX11_renewNow) (c := (RX11, TX11, 56)) (toI_s ep2) dX11_renew_8 mX11_443.1 mX11_443.2 (Nat.le_of_ble_eq_true rfl) rfl rfl (Nat.le_of_ble_eq_true rfl) (Nat.le_of_ble_eq_true rfl) rfl rfl ?_
  show Go O (d + 1) MX11_renew 11 [some (.ref a0), some (.int a1)] [.int p2.1, .ref a0] p2.2 P
  obtain ⟨p3, ep3, h⟩ := bs h
  refine q_virt (Z := MX11_tell) (c := (RX11, TX11, 56)) (toI_s ep3) dX11_renew_11 mX11_158.1 mX11_158.2 (Nat.le_of_ble_eq_true rfl) rfl rfl (Nat.le_of_ble_eq_true rfl) (Nat.le_of_ble_eq_true rfl) rfl rfl ?_
  show Go O (d + 1) MX11_renew 14 [some (.ref a0), some (.int a1)] [.int p3.1] p3.2 P
  exact g_ireturn dX11_renew_14 rfl (by first | rfl | decide) (hret _ _ (Option.some.inj h))
noncomputable def F_X11_canLodge (O : mO) (d : Nat) (a0 : Nat) (a1 : Int32) (a2 : Int32) (K : mH) : Option (Int32 × mH) :=
  (gtA K a0 11 3).bind fun x1 =>
  (rdI O K x1 ((nI 9) + a1)).bind fun x2 =>
  if x2 = a2 then
    some ((nI 0), K)
  else
    (toI (vc O d 11 MX11_freeIn a0 [.int a2] K)).bind fun p5 =>
    if p5.1 ≤ 0 then
      some ((nI 0), p5.2)
    else
      (toI (vc O d 11 MX11_isBarred a0 [.int a1, .int a2] p5.2)).bind fun p8 =>
      (zz (if p8.1 = 0 then (nI 1) else (nI 0))).bind fun z10 =>
      some (z10, p8.2)
theorem e_X11_canLodge {O : mO} {d : Nat} {a0 : Nat} {a1 : Int32} {a2 : Int32} {K : mH} {r0 : Int32} {K0 : mH} (h : F_X11_canLodge O d a0 a1 a2 K = some (r0, K0)) : ev O (d + 1) MX11_canLodge [.ref a0, .int a1, .int a2] K = some (some (.int r0), K0) := by
  refine Rn_evx ?_
  show Go O (d + 1) MX11_canLodge 0 [some (.ref a0), some (.int a1), some (.int a2)] [] K _
  generalize hP : (fun (r : Option Value) (K' : mH) => (r, K') = (some (.int r0), K0)) = P
  have hret : ∀ (r : Int32) (K' : mH), (r, K') = (r0, K0) → P (some (.int r)) K' := by
    intro r K' e
    cases e
    subst hP
    rfl
  clear hP
  unfold F_X11_canLodge at h
  refine g_aload_n dX11_canLodge_0 rfl ?_
  obtain ⟨x1, ex1, h⟩ := bs h
  refine q_getA dX11_canLodge_1 fX11_13 ex1 ?_
  refine g_bipush (v := (nI 9)) dX11_canLodge_4 (by decide) ?_
  refine g_iload_n dX11_canLodge_6 rfl ?_
  refine g_iadd dX11_canLodge_7 ?_
  obtain ⟨x2, ex2, h⟩ := bs h
  refine q_iald dX11_canLodge_8 ex2 ?_
  refine g_iload_n dX11_canLodge_9 rfl ?_
  refine g_ic_eq (t := 34) dX11_canLodge_10 (by decide) (fun c4 => ?_) (fun c4 => ?_)
  · rw [if_pos c4] at h
    refine g_iconst (v := (nI 0)) dX11_canLodge_34 (by decide) ?_
    exact g_ireturn dX11_canLodge_35 rfl (by first | rfl | decide) (hret _ _ (Option.some.inj h))
  · rw [if_neg c4] at h
    refine g_aload_n dX11_canLodge_13 rfl ?_
    refine g_iload_n dX11_canLodge_14 rfl ?_
    obtain ⟨p5, ep5, h⟩ := bs h
    refine q_virt (Z := MX11_freeIn) (c := (RX11, TX11, 56)) (toI_s ep5) dX11_canLodge_15 mX11_191.1 mX11_191.2 (Nat.le_of_ble_eq_true rfl) rfl rfl (Nat.le_of_ble_eq_true rfl) (Nat.le_of_ble_eq_true rfl) rfl rfl ?_
    show Go O (d + 1) MX11_canLodge 18 [some (.ref a0), some (.int a1), some (.int a2)] [.int p5.1] p5.2 P
    refine g_if_le (t := 34) dX11_canLodge_18 (by decide) (fun c7 => ?_) (fun c7 => ?_)
    · rw [if_pos c7] at h
      refine g_iconst (v := (nI 0)) dX11_canLodge_34 (by decide) ?_
      exact g_ireturn dX11_canLodge_35 rfl (by first | rfl | decide) (hret _ _ (Option.some.inj h))
    · rw [if_neg c7] at h
      refine g_aload_n dX11_canLodge_21 rfl ?_
      refine g_iload_n dX11_canLodge_22 rfl ?_
      refine g_iload_n dX11_canLodge_23 rfl ?_
      obtain ⟨p8, ep8, h⟩ := bs h
      refine q_virt (Z := MX11_isBarred) (c := (RX11, TX11, 56)) (toI_s ep8) dX11_canLodge_24 mX11_220.1 mX11_220.2 (Nat.le_of_ble_eq_true rfl) rfl rfl (Nat.le_of_ble_eq_true rfl) (Nat.le_of_ble_eq_true rfl) rfl rfl ?_
      show Go O (d + 1) MX11_canLodge 27 [some (.ref a0), some (.int a1), some (.int a2)] [.int p8.1] p8.2 P
      have hj : Go O (d + 1) MX11_canLodge 35 [none, none, none] [.int (if p8.1 = 0 then (nI 1) else (nI 0))] p8.2 P := by
        obtain ⟨z10, ez10, h⟩ := bs h
        exact q_zret dX11_canLodge_35 rfl ez10 (hret _ _ (Option.some.inj h))
      refine g_if_ne (t := 34) dX11_canLodge_27 (by decide) (fun c9 => ?_) (fun c9 => ?_)
      · skip
        refine g_iconst (v := (nI 0)) dX11_canLodge_34 (by decide) ?_
        have hk : Go O (d + 1) MX11_canLodge 35 [none, none, none] [.int (nI 0)] p8.2 P := by simpa only [if_neg c9] using hj
        refine Go_le ?_ hk
        exact trivial
      · skip
        refine g_iconst (v := (nI 1)) dX11_canLodge_30 (by decide) ?_
        refine g_goto (t := 35) dX11_canLodge_31 (by decide) ?_
        have hk : Go O (d + 1) MX11_canLodge 35 [none, none, none] [.int (nI 1)] p8.2 P := by simpa only [if_pos c9] using hj
        refine Go_le ?_ hk
        exact trivial
noncomputable def F_X11_lodgeIt_j29 (O : mO) (d : Nat) (v0 : Nat) (v1 : Int32) (v2 : Int32) (w0 : Int32) (w1 : Int32) (w2 : Nat) (K : mH) : Option (mH) :=
  (wrI K w2 w1 w0).bind fun K5 =>
  (gtA K5 v0 11 3).bind fun x6 =>
  (wrI K5 x6 ((nI 9) + v1) v2).bind fun K7 =>
  some K7
theorem e_X11_lodgeIt_j29 {O : mO} {d : Nat} {v0 : Nat} {v1 : Int32} {v2 : Int32} {w0 : Int32} {w1 : Int32} {w2 : Nat} {K : mH} {P : Option Value → mH → Prop} {x : mH} (hret : ∀ K' : mH, K' = x → P none K') (h : F_X11_lodgeIt_j29 O d v0 v1 v2 w0 w1 w2 K = some x) : Go O (d + 1) MX11_lodgeIt 29 [some (.ref v0), some (.int v1), some (.int v2)] [.int w0, .int w1, .ref w2] K P := by
  unfold F_X11_lodgeIt_j29 at h
  obtain ⟨K5, eK5, h⟩ := bs h
  refine q_iast dX11_lodgeIt_29 eK5 ?_
  refine g_aload_n dX11_lodgeIt_30 rfl ?_
  obtain ⟨x6, ex6, h⟩ := bs h
  refine q_getA dX11_lodgeIt_31 fX11_13 ex6 ?_
  refine g_bipush (v := (nI 9)) dX11_lodgeIt_34 (by decide) ?_
  refine g_iload_n dX11_lodgeIt_36 rfl ?_
  refine g_iadd dX11_lodgeIt_37 ?_
  refine g_iload_n dX11_lodgeIt_38 rfl ?_
  obtain ⟨K7, eK7, h⟩ := bs h
  refine q_iast dX11_lodgeIt_39 eK7 ?_
  exact g_return dX11_lodgeIt_40 rfl (hret _ (Option.some.inj h))
noncomputable def F_X11_lodgeIt (O : mO) (d : Nat) (a0 : Nat) (a1 : Int32) (a2 : Int32) (K : mH) : Option (mH) :=
  (gtA K a0 11 3).bind fun x1 =>
  (toI (vc O d 11 MX11_isIn a0 [.int a1] K)).bind fun p2 =>
  if p2.1 = 0 then
    F_X11_lodgeIt_j29 O d a0 a1 a2 (nI 1) ((nI 17) + a1) x1 p2.2
  else
    (gtA p2.2 a0 11 3).bind fun x8 =>
    (rdI O p2.2 x8 ((nI 17) + a1)).bind fun x9 =>
    F_X11_lodgeIt_j29 O d a0 a1 a2 x9 ((nI 17) + a1) x1 p2.2
theorem e_X11_lodgeIt {O : mO} {d : Nat} {a0 : Nat} {a1 : Int32} {a2 : Int32} {K : mH} {x : mH} (h : F_X11_lodgeIt O d a0 a1 a2 K = some x) : ev O (d + 1) MX11_lodgeIt [.ref a0, .int a1, .int a2] K = some (none, x) := by
  refine Rn_evx ?_
  show Go O (d + 1) MX11_lodgeIt 0 [some (.ref a0), some (.int a1), some (.int a2)] [] K _
  generalize hP : (fun (r : Option Value) (K' : mH) => (r, K') = (none, x)) = P
  have hret : ∀ K' : mH, K' = x → P none K' := by
    intro K' e
    subst hP e
    rfl
  clear hP
  unfold F_X11_lodgeIt at h
  refine g_aload_n dX11_lodgeIt_0 rfl ?_
  obtain ⟨x1, ex1, h⟩ := bs h
  refine q_getA dX11_lodgeIt_1 fX11_13 ex1 ?_
  refine g_bipush (v := (nI 17)) dX11_lodgeIt_4 (by decide) ?_
  refine g_iload_n dX11_lodgeIt_6 rfl ?_
  refine g_iadd dX11_lodgeIt_7 ?_
  refine g_aload_n dX11_lodgeIt_8 rfl ?_
  refine g_iload_n dX11_lodgeIt_9 rfl ?_
  obtain ⟨p2, ep2, h⟩ := bs h
  refine q_virt (Z := MX11_isIn) (c := (RX11, TX11, 56)) (toI_s ep2) dX11_lodgeIt_10 mX11_182.1 mX11_182.2 (Nat.le_of_ble_eq_true rfl) rfl rfl (Nat.le_of_ble_eq_true rfl) (Nat.le_of_ble_eq_true rfl) rfl rfl ?_
  show Go O (d + 1) MX11_lodgeIt 13 [some (.ref a0), some (.int a1), some (.int a2)] [.int p2.1, .int ((nI 17) + a1), .ref x1] p2.2 P
  refine g_if_eq (t := 28) dX11_lodgeIt_13 (by decide) (fun c4 => ?_) (fun c4 => ?_)
  · rw [if_pos c4] at h
    refine g_iconst (v := (nI 1)) dX11_lodgeIt_28 (by decide) ?_
    refine Go_le ?_ (e_X11_lodgeIt_j29 hret h)
    exact And.intro rfl (And.intro rfl (And.intro rfl (trivial)))
  · rw [if_neg c4] at h
    refine g_aload_n dX11_lodgeIt_16 rfl ?_
    obtain ⟨x8, ex8, h⟩ := bs h
    refine q_getA dX11_lodgeIt_17 fX11_13 ex8 ?_
    refine g_bipush (v := (nI 17)) dX11_lodgeIt_20 (by decide) ?_
    refine g_iload_n dX11_lodgeIt_22 rfl ?_
    refine g_iadd dX11_lodgeIt_23 ?_
    obtain ⟨x9, ex9, h⟩ := bs h
    refine q_iald dX11_lodgeIt_24 ex9 ?_
    refine g_goto (t := 29) dX11_lodgeIt_25 (by decide) ?_
    refine Go_le ?_ (e_X11_lodgeIt_j29 hret h)
    exact And.intro rfl (And.intro rfl (And.intro rfl (trivial)))
noncomputable def F_X11_lodgeNow (O : mO) (d : Nat) (a0 : Nat) (a1 : Int32) (a2 : Int32) (K : mH) : Option (Int32 × mH) :=
  (toI (vc O d 11 MX11_isDead a0 [.int a1] K)).bind fun p1 =>
  if p1.1 = 0 then
    some ((-2), p1.2)
  else
    (toI (vc O d 11 MX11_isVault a0 [.int a2] p1.2)).bind fun p3 =>
    if p3.1 = 0 then
      some ((-2), p3.2)
    else
      (toI (vc O d 11 MX11_canLodge a0 [.int a1, .int a2] p3.2)).bind fun p5 =>
      if p5.1 = 0 then
        some ((-3), p5.2)
      else
        (toV (vc O d 11 MX11_remember a0 [.int (nI 1)] p5.2)).bind fun K7 =>
        (toV (vc O d 11 MX11_lodgeIt a0 [.int a1, .int a2] K7)).bind fun K8 =>
        (toI (vc O d 11 MX11_freeIn a0 [.int a2] K8)).bind fun p9 =>
        some (p9.1, p9.2)
theorem e_X11_lodgeNow {O : mO} {d : Nat} {a0 : Nat} {a1 : Int32} {a2 : Int32} {K : mH} {r0 : Int32} {K0 : mH} (h : F_X11_lodgeNow O d a0 a1 a2 K = some (r0, K0)) : ev O (d + 1) MX11_lodgeNow [.ref a0, .int a1, .int a2] K = some (some (.int r0), K0) := by
  refine Rn_evx ?_
  show Go O (d + 1) MX11_lodgeNow 0 [some (.ref a0), some (.int a1), some (.int a2)] [] K _
  generalize hP : (fun (r : Option Value) (K' : mH) => (r, K') = (some (.int r0), K0)) = P
  have hret : ∀ (r : Int32) (K' : mH), (r, K') = (r0, K0) → P (some (.int r)) K' := by
    intro r K' e
    cases e
    subst hP
    rfl
  clear hP
  unfold F_X11_lodgeNow at h
  refine g_aload_n dX11_lodgeNow_0 rfl ?_
  refine g_iload_n dX11_lodgeNow_1 rfl ?_
  obtain ⟨p1, ep1, h⟩ := bs h
  refine q_virt (Z := MX11_isDead) (c := (RX11, TX11, 56)) (toI_s ep1) dX11_lodgeNow_2 mX11_214.1 mX11_214.2 (Nat.le_of_ble_eq_true rfl) rfl rfl (Nat.le_of_ble_eq_true rfl) (Nat.le_of_ble_eq_true rfl) rfl rfl ?_
  show Go O (d + 1) MX11_lodgeNow 5 [some (.ref a0), some (.int a1), some (.int a2)] [.int p1.1] p1.2 P
  refine g_if_eq (t := 16) dX11_lodgeNow_5 (by decide) (fun c2 => ?_) (fun c2 => ?_)
  · rw [if_pos c2] at h
    refine g_bipush (v := (-2)) dX11_lodgeNow_16 (by decide) ?_
    exact g_ireturn dX11_lodgeNow_18 rfl (by first | rfl | decide) (hret _ _ (Option.some.inj h))
  · rw [if_neg c2] at h
    refine g_aload_n dX11_lodgeNow_8 rfl ?_
    refine g_iload_n dX11_lodgeNow_9 rfl ?_
    obtain ⟨p3, ep3, h⟩ := bs h
    refine q_virt (Z := MX11_isVault) (c := (RX11, TX11, 56)) (toI_s ep3) dX11_lodgeNow_10 mX11_188.1 mX11_188.2 (Nat.le_of_ble_eq_true rfl) rfl rfl (Nat.le_of_ble_eq_true rfl) (Nat.le_of_ble_eq_true rfl) rfl rfl ?_
    show Go O (d + 1) MX11_lodgeNow 13 [some (.ref a0), some (.int a1), some (.int a2)] [.int p3.1] p3.2 P
    refine g_if_ne (t := 19) dX11_lodgeNow_13 (by decide) (fun c4 => ?_) (fun c4 => ?_)
    · rw [if_neg c4] at h
      refine g_aload_n dX11_lodgeNow_19 rfl ?_
      refine g_iload_n dX11_lodgeNow_20 rfl ?_
      refine g_iload_n dX11_lodgeNow_21 rfl ?_
      obtain ⟨p5, ep5, h⟩ := bs h
      refine q_virt (Z := MX11_canLodge) (c := (RX11, TX11, 56)) (toI_s ep5) dX11_lodgeNow_22 mX11_446.1 mX11_446.2 (Nat.le_of_ble_eq_true rfl) rfl rfl (Nat.le_of_ble_eq_true rfl) (Nat.le_of_ble_eq_true rfl) rfl rfl ?_
      show Go O (d + 1) MX11_lodgeNow 25 [some (.ref a0), some (.int a1), some (.int a2)] [.int p5.1] p5.2 P
      refine g_if_ne (t := 31) dX11_lodgeNow_25 (by decide) (fun c6 => ?_) (fun c6 => ?_)
      · rw [if_neg c6] at h
        refine g_aload_n dX11_lodgeNow_31 rfl ?_
        refine g_iconst (v := (nI 1)) dX11_lodgeNow_32 (by decide) ?_
        obtain ⟨K7, eK7, h⟩ := bs h
        refine q_virt (Z := MX11_remember) (c := (RX11, TX11, 56)) (toV_s eK7) dX11_lodgeNow_33 mX11_437.1 mX11_437.2 (Nat.le_of_ble_eq_true rfl) rfl rfl (Nat.le_of_ble_eq_true rfl) (Nat.le_of_ble_eq_true rfl) rfl rfl ?_
        show Go O (d + 1) MX11_lodgeNow 36 [some (.ref a0), some (.int a1), some (.int a2)] [] K7 P
        refine g_aload_n dX11_lodgeNow_36 rfl ?_
        refine g_iload_n dX11_lodgeNow_37 rfl ?_
        refine g_iload_n dX11_lodgeNow_38 rfl ?_
        obtain ⟨K8, eK8, h⟩ := bs h
        refine q_virt (Z := MX11_lodgeIt) (c := (RX11, TX11, 56)) (toV_s eK8) dX11_lodgeNow_39 mX11_449.1 mX11_449.2 (Nat.le_of_ble_eq_true rfl) rfl rfl (Nat.le_of_ble_eq_true rfl) (Nat.le_of_ble_eq_true rfl) rfl rfl ?_
        show Go O (d + 1) MX11_lodgeNow 42 [some (.ref a0), some (.int a1), some (.int a2)] [] K8 P
        refine g_aload_n dX11_lodgeNow_42 rfl ?_
        refine g_iload_n dX11_lodgeNow_43 rfl ?_
        obtain ⟨p9, ep9, h⟩ := bs h
        refine q_virt (Z := MX11_freeIn) (c := (RX11, TX11, 56)) (toI_s ep9) dX11_lodgeNow_44 mX11_191.1 mX11_191.2 (Nat.le_of_ble_eq_true rfl) rfl rfl (Nat.le_of_ble_eq_true rfl) (Nat.le_of_ble_eq_true rfl) rfl rfl ?_
        show Go O (d + 1) MX11_lodgeNow 47 [some (.ref a0), some (.int a1), some (.int a2)] [.int p9.1] p9.2 P
        exact g_ireturn dX11_lodgeNow_47 rfl (by first | rfl | decide) (hret _ _ (Option.some.inj h))
      · rw [if_pos c6] at h
        refine g_bipush (v := (-3)) dX11_lodgeNow_28 (by decide) ?_
        exact g_ireturn dX11_lodgeNow_30 rfl (by first | rfl | decide) (hret _ _ (Option.some.inj h))
    · rw [if_pos c4] at h
      refine g_bipush (v := (-2)) dX11_lodgeNow_16 (by decide) ?_
      exact g_ireturn dX11_lodgeNow_18 rfl (by first | rfl | decide) (hret _ _ (Option.some.inj h))
noncomputable def F_X11_lodge (O : mO) (d : Nat) (a0 : Nat) (a1 : Int32) (a2 : Int32) (K : mH) : Option (Int32 × mH) :=
  (ptI K a0 11 0 (nI 0)).bind fun K1 =>
  (toI (vc O d 11 MX11_lodgeNow a0 [.int a1, .int a2] K1)).bind fun p2 =>
  (toI (vc O d 11 MX11_tell a0 [.int p2.1] p2.2)).bind fun p3 =>
  some (p3.1, p3.2)
theorem e_X11_lodge {O : mO} {d : Nat} {a0 : Nat} {a1 : Int32} {a2 : Int32} {K : mH} {r0 : Int32} {K0 : mH} (h : F_X11_lodge O d a0 a1 a2 K = some (r0, K0)) : ev O (d + 1) MX11_lodge [.ref a0, .int a1, .int a2] K = some (some (.int r0), K0) := by
  refine Rn_evx ?_
  show Go O (d + 1) MX11_lodge 0 [some (.ref a0), some (.int a1), some (.int a2)] [] K _
  generalize hP : (fun (r : Option Value) (K' : mH) => (r, K') = (some (.int r0), K0)) = P
  have hret : ∀ (r : Int32) (K' : mH), (r, K') = (r0, K0) → P (some (.int r)) K' := by
    intro r K' e
    cases e
    subst hP
    rfl
  clear hP
  unfold F_X11_lodge at h
  refine g_aload_n dX11_lodge_0 rfl ?_
  refine g_iconst (v := (nI 0)) dX11_lodge_1 (by decide) ?_
  obtain ⟨K1, eK1, h⟩ := bs h
  refine q_put (c := (RX11, TX11, 56)) dX11_lodge_2 fX11_149 rfl rfl rfl (fun h => absurd h (by decide)) eK1 ?_
  refine g_aload_n dX11_lodge_5 rfl ?_
  refine g_aload_n dX11_lodge_6 rfl ?_
  refine g_iload_n dX11_lodge_7 rfl ?_
  refine g_iload_n dX11_lodge_8 rfl ?_
  obtain ⟨p2, ep2, h⟩ := bs h
  refine q_virt (Z := MX11_lodgeNow) (c := (RX11, TX11, 56)) (toI_s ep2) dX11_lodge_9 mX11_452.1 mX11_452.2 (Nat.le_of_ble_eq_true rfl) rfl rfl (Nat.le_of_ble_eq_true rfl) (Nat.le_of_ble_eq_true rfl) rfl rfl ?_
  show Go O (d + 1) MX11_lodge 12 [some (.ref a0), some (.int a1), some (.int a2)] [.int p2.1, .ref a0] p2.2 P
  obtain ⟨p3, ep3, h⟩ := bs h
  refine q_virt (Z := MX11_tell) (c := (RX11, TX11, 56)) (toI_s ep3) dX11_lodge_12 mX11_158.1 mX11_158.2 (Nat.le_of_ble_eq_true rfl) rfl rfl (Nat.le_of_ble_eq_true rfl) (Nat.le_of_ble_eq_true rfl) rfl rfl ?_
  show Go O (d + 1) MX11_lodge 15 [some (.ref a0), some (.int a1), some (.int a2)] [.int p3.1] p3.2 P
  exact g_ireturn dX11_lodge_15 rfl (by first | rfl | decide) (hret _ _ (Option.some.inj h))
noncomputable def F_X11_canKnock (O : mO) (d : Nat) (a0 : Nat) (a1 : Int32) (K : mH) : Option (Int32 × mH) :=
  (toI (vc O d 11 MX11_isIn a0 [.int a1] K)).bind fun p1 =>
  if p1.1 = 0 then
    some ((nI 0), p1.2)
  else
    (gtA p1.2 a0 11 3).bind fun x4 =>
    (rdI O p1.2 x4 ((nI 25) + a1)).bind fun x5 =>
    (zz (if x5 = 0 then (nI 1) else (nI 0))).bind fun z7 =>
    some (z7, p1.2)
theorem e_X11_canKnock {O : mO} {d : Nat} {a0 : Nat} {a1 : Int32} {K : mH} {r0 : Int32} {K0 : mH} (h : F_X11_canKnock O d a0 a1 K = some (r0, K0)) : ev O (d + 1) MX11_canKnock [.ref a0, .int a1] K = some (some (.int r0), K0) := by
  refine Rn_evx ?_
  show Go O (d + 1) MX11_canKnock 0 [some (.ref a0), some (.int a1)] [] K _
  generalize hP : (fun (r : Option Value) (K' : mH) => (r, K') = (some (.int r0), K0)) = P
  have hret : ∀ (r : Int32) (K' : mH), (r, K') = (r0, K0) → P (some (.int r)) K' := by
    intro r K' e
    cases e
    subst hP
    rfl
  clear hP
  unfold F_X11_canKnock at h
  refine g_aload_n dX11_canKnock_0 rfl ?_
  refine g_iload_n dX11_canKnock_1 rfl ?_
  obtain ⟨p1, ep1, h⟩ := bs h
  refine q_virt (Z := MX11_isIn) (c := (RX11, TX11, 56)) (toI_s ep1) dX11_canKnock_2 mX11_182.1 mX11_182.2 (Nat.le_of_ble_eq_true rfl) rfl rfl (Nat.le_of_ble_eq_true rfl) (Nat.le_of_ble_eq_true rfl) rfl rfl ?_
  show Go O (d + 1) MX11_canKnock 5 [some (.ref a0), some (.int a1)] [.int p1.1] p1.2 P
  refine g_if_eq (t := 24) dX11_canKnock_5 (by decide) (fun c3 => ?_) (fun c3 => ?_)
  · rw [if_pos c3] at h
    refine g_iconst (v := (nI 0)) dX11_canKnock_24 (by decide) ?_
    exact g_ireturn dX11_canKnock_25 rfl (by first | rfl | decide) (hret _ _ (Option.some.inj h))
  · rw [if_neg c3] at h
    refine g_aload_n dX11_canKnock_8 rfl ?_
    obtain ⟨x4, ex4, h⟩ := bs h
    refine q_getA dX11_canKnock_9 fX11_13 ex4 ?_
    refine g_bipush (v := (nI 25)) dX11_canKnock_12 (by decide) ?_
    refine g_iload_n dX11_canKnock_14 rfl ?_
    refine g_iadd dX11_canKnock_15 ?_
    obtain ⟨x5, ex5, h⟩ := bs h
    refine q_iald dX11_canKnock_16 ex5 ?_
    have hj : Go O (d + 1) MX11_canKnock 25 [none, none] [.int (if x5 = 0 then (nI 1) else (nI 0))] p1.2 P := by
      obtain ⟨z7, ez7, h⟩ := bs h
      exact q_zret dX11_canKnock_25 rfl ez7 (hret _ _ (Option.some.inj h))
    refine g_if_ne (t := 24) dX11_canKnock_17 (by decide) (fun c6 => ?_) (fun c6 => ?_)
    · skip
      refine g_iconst (v := (nI 0)) dX11_canKnock_24 (by decide) ?_
      have hk : Go O (d + 1) MX11_canKnock 25 [none, none] [.int (nI 0)] p1.2 P := by simpa only [if_neg c6] using hj
      refine Go_le ?_ hk
      exact trivial
    · skip
      refine g_iconst (v := (nI 1)) dX11_canKnock_20 (by decide) ?_
      refine g_goto (t := 25) dX11_canKnock_21 (by decide) ?_
      have hk : Go O (d + 1) MX11_canKnock 25 [none, none] [.int (nI 1)] p1.2 P := by simpa only [if_pos c6] using hj
      refine Go_le ?_ hk
      exact trivial
noncomputable def F_X11_knockIt (O : mO) (d : Nat) (a0 : Nat) (a1 : Int32) (K : mH) : Option (mH) :=
  (gtA K a0 11 3).bind fun x1 =>
  (wrI K x1 ((nI 25) + a1) (nI 1)).bind fun K2 =>
  (gtA K2 a0 11 3).bind fun x3 =>
  (gtA K2 a0 11 3).bind fun x4 =>
  (rdI O K2 x4 ((nI 17) + a1)).bind fun x5 =>
  (toI (ev O d MX11_within [.long (x5 + (nI 1)).toInt64, .int (nI 0), .int (nI 99)] K2)).bind fun p6 =>
  (wrI p6.2 x3 ((nI 17) + a1) p6.1).bind fun K7 =>
  some K7
theorem e_X11_knockIt {O : mO} {d : Nat} {a0 : Nat} {a1 : Int32} {K : mH} {x : mH} (h : F_X11_knockIt O d a0 a1 K = some x) : ev O (d + 1) MX11_knockIt [.ref a0, .int a1] K = some (none, x) := by
  refine Rn_evx ?_
  show Go O (d + 1) MX11_knockIt 0 [some (.ref a0), some (.int a1)] [] K _
  generalize hP : (fun (r : Option Value) (K' : mH) => (r, K') = (none, x)) = P
  have hret : ∀ K' : mH, K' = x → P none K' := by
    intro K' e
    subst hP e
    rfl
  clear hP
  unfold F_X11_knockIt at h
  refine g_aload_n dX11_knockIt_0 rfl ?_
  obtain ⟨x1, ex1, h⟩ := bs h
  refine q_getA dX11_knockIt_1 fX11_13 ex1 ?_
  refine g_bipush (v := (nI 25)) dX11_knockIt_4 (by decide) ?_
  refine g_iload_n dX11_knockIt_6 rfl ?_
  refine g_iadd dX11_knockIt_7 ?_
  refine g_iconst (v := (nI 1)) dX11_knockIt_8 (by decide) ?_
  obtain ⟨K2, eK2, h⟩ := bs h
  refine q_iast dX11_knockIt_9 eK2 ?_
  refine g_aload_n dX11_knockIt_10 rfl ?_
  obtain ⟨x3, ex3, h⟩ := bs h
  refine q_getA dX11_knockIt_11 fX11_13 ex3 ?_
  refine g_bipush (v := (nI 17)) dX11_knockIt_14 (by decide) ?_
  refine g_iload_n dX11_knockIt_16 rfl ?_
  refine g_iadd dX11_knockIt_17 ?_
  refine g_aload_n dX11_knockIt_18 rfl ?_
  obtain ⟨x4, ex4, h⟩ := bs h
  refine q_getA dX11_knockIt_19 fX11_13 ex4 ?_
  refine g_bipush (v := (nI 17)) dX11_knockIt_22 (by decide) ?_
  refine g_iload_n dX11_knockIt_24 rfl ?_
  refine g_iadd dX11_knockIt_25 ?_
  obtain ⟨x5, ex5, h⟩ := bs h
  refine q_iald dX11_knockIt_26 ex5 ?_
  refine g_iconst (v := (nI 1)) dX11_knockIt_27 (by decide) ?_
  refine g_iadd dX11_knockIt_28 ?_
  refine g_i2l dX11_knockIt_29 ?_
  refine g_iconst (v := (nI 0)) dX11_knockIt_30 (by decide) ?_
  refine g_bipush (v := (nI 99)) dX11_knockIt_31 (by decide) ?_
  obtain ⟨p6, ep6, h⟩ := bs h
  refine q_stat (Z := MX11_within) (toI_s ep6) dX11_knockIt_33 mX11_430.1 mX11_430.2 (Nat.le_of_ble_eq_true rfl) rfl rfl (Nat.le_of_ble_eq_true rfl) (Nat.le_of_ble_eq_true rfl) ?_
  show Go O (d + 1) MX11_knockIt 36 [some (.ref a0), some (.int a1)] [.int p6.1, .int ((nI 17) + a1), .ref x3] p6.2 P
  obtain ⟨K7, eK7, h⟩ := bs h
  refine q_iast dX11_knockIt_36 eK7 ?_
  exact g_return dX11_knockIt_37 rfl (hret _ (Option.some.inj h))
noncomputable def F_X11_knockNow (O : mO) (d : Nat) (a0 : Nat) (a1 : Int32) (K : mH) : Option (Int32 × mH) :=
  (toI (vc O d 11 MX11_isDead a0 [.int a1] K)).bind fun p1 =>
  if p1.1 = 0 then
    some ((-2), p1.2)
  else
    (toI (vc O d 11 MX11_canKnock a0 [.int a1] p1.2)).bind fun p3 =>
    if p3.1 = 0 then
      some ((-3), p3.2)
    else
      (toV (vc O d 11 MX11_remember a0 [.int (nI 2)] p3.2)).bind fun K5 =>
      (toV (vc O d 11 MX11_knockIt a0 [.int a1] K5)).bind fun K6 =>
      (gtA K6 a0 11 3).bind fun x7 =>
      (rdI O K6 x7 ((nI 17) + a1)).bind fun x8 =>
      some (x8, K6)
theorem e_X11_knockNow {O : mO} {d : Nat} {a0 : Nat} {a1 : Int32} {K : mH} {r0 : Int32} {K0 : mH} (h : F_X11_knockNow O d a0 a1 K = some (r0, K0)) : ev O (d + 1) MX11_knockNow [.ref a0, .int a1] K = some (some (.int r0), K0) := by
  refine Rn_evx ?_
  show Go O (d + 1) MX11_knockNow 0 [some (.ref a0), some (.int a1)] [] K _
  generalize hP : (fun (r : Option Value) (K' : mH) => (r, K') = (some (.int r0), K0)) = P
  have hret : ∀ (r : Int32) (K' : mH), (r, K') = (r0, K0) → P (some (.int r)) K' := by
    intro r K' e
    cases e
    subst hP
    rfl
  clear hP
  unfold F_X11_knockNow at h
  refine g_aload_n dX11_knockNow_0 rfl ?_
  refine g_iload_n dX11_knockNow_1 rfl ?_
  obtain ⟨p1, ep1, h⟩ := bs h
  refine q_virt (Z := MX11_isDead) (c := (RX11, TX11, 56)) (toI_s ep1) dX11_knockNow_2 mX11_214.1 mX11_214.2 (Nat.le_of_ble_eq_true rfl) rfl rfl (Nat.le_of_ble_eq_true rfl) (Nat.le_of_ble_eq_true rfl) rfl rfl ?_
  show Go O (d + 1) MX11_knockNow 5 [some (.ref a0), some (.int a1)] [.int p1.1] p1.2 P
  refine g_if_ne (t := 11) dX11_knockNow_5 (by decide) (fun c2 => ?_) (fun c2 => ?_)
  · rw [if_neg c2] at h
    refine g_aload_n dX11_knockNow_11 rfl ?_
    refine g_iload_n dX11_knockNow_12 rfl ?_
    obtain ⟨p3, ep3, h⟩ := bs h
    refine q_virt (Z := MX11_canKnock) (c := (RX11, TX11, 56)) (toI_s ep3) dX11_knockNow_13 mX11_455.1 mX11_455.2 (Nat.le_of_ble_eq_true rfl) rfl rfl (Nat.le_of_ble_eq_true rfl) (Nat.le_of_ble_eq_true rfl) rfl rfl ?_
    show Go O (d + 1) MX11_knockNow 16 [some (.ref a0), some (.int a1)] [.int p3.1] p3.2 P
    refine g_if_ne (t := 22) dX11_knockNow_16 (by decide) (fun c4 => ?_) (fun c4 => ?_)
    · rw [if_neg c4] at h
      refine g_aload_n dX11_knockNow_22 rfl ?_
      refine g_iconst (v := (nI 2)) dX11_knockNow_23 (by decide) ?_
      obtain ⟨K5, eK5, h⟩ := bs h
      refine q_virt (Z := MX11_remember) (c := (RX11, TX11, 56)) (toV_s eK5) dX11_knockNow_24 mX11_437.1 mX11_437.2 (Nat.le_of_ble_eq_true rfl) rfl rfl (Nat.le_of_ble_eq_true rfl) (Nat.le_of_ble_eq_true rfl) rfl rfl ?_
      show Go O (d + 1) MX11_knockNow 27 [some (.ref a0), some (.int a1)] [] K5 P
      refine g_aload_n dX11_knockNow_27 rfl ?_
      refine g_iload_n dX11_knockNow_28 rfl ?_
      obtain ⟨K6, eK6, h⟩ := bs h
      refine q_virt (Z := MX11_knockIt) (c := (RX11, TX11, 56)) (toV_s eK6) dX11_knockNow_29 mX11_458.1 mX11_458.2 (Nat.le_of_ble_eq_true rfl) rfl rfl (Nat.le_of_ble_eq_true rfl) (Nat.le_of_ble_eq_true rfl) rfl rfl ?_
      show Go O (d + 1) MX11_knockNow 32 [some (.ref a0), some (.int a1)] [] K6 P
      refine g_aload_n dX11_knockNow_32 rfl ?_
      obtain ⟨x7, ex7, h⟩ := bs h
      refine q_getA dX11_knockNow_33 fX11_13 ex7 ?_
      refine g_bipush (v := (nI 17)) dX11_knockNow_36 (by decide) ?_
      refine g_iload_n dX11_knockNow_38 rfl ?_
      refine g_iadd dX11_knockNow_39 ?_
      obtain ⟨x8, ex8, h⟩ := bs h
      refine q_iald dX11_knockNow_40 ex8 ?_
      exact g_ireturn dX11_knockNow_41 rfl (by first | rfl | decide) (hret _ _ (Option.some.inj h))
    · rw [if_pos c4] at h
      refine g_bipush (v := (-3)) dX11_knockNow_19 (by decide) ?_
      exact g_ireturn dX11_knockNow_21 rfl (by first | rfl | decide) (hret _ _ (Option.some.inj h))
  · rw [if_pos c2] at h
    refine g_bipush (v := (-2)) dX11_knockNow_8 (by decide) ?_
    exact g_ireturn dX11_knockNow_10 rfl (by first | rfl | decide) (hret _ _ (Option.some.inj h))
noncomputable def F_X11_knock (O : mO) (d : Nat) (a0 : Nat) (a1 : Int32) (K : mH) : Option (Int32 × mH) :=
  (ptI K a0 11 0 (nI 0)).bind fun K1 =>
  (toI (vc O d 11 MX11_knockNow a0 [.int a1] K1)).bind fun p2 =>
  (toI (vc O d 11 MX11_tell a0 [.int p2.1] p2.2)).bind fun p3 =>
  some (p3.1, p3.2)
theorem e_X11_knock {O : mO} {d : Nat} {a0 : Nat} {a1 : Int32} {K : mH} {r0 : Int32} {K0 : mH} (h : F_X11_knock O d a0 a1 K = some (r0, K0)) : ev O (d + 1) MX11_knock [.ref a0, .int a1] K = some (some (.int r0), K0) := by
  refine Rn_evx ?_
  show Go O (d + 1) MX11_knock 0 [some (.ref a0), some (.int a1)] [] K _
  generalize hP : (fun (r : Option Value) (K' : mH) => (r, K') = (some (.int r0), K0)) = P
  have hret : ∀ (r : Int32) (K' : mH), (r, K') = (r0, K0) → P (some (.int r)) K' := by
    intro r K' e
    cases e
    subst hP
    rfl
  clear hP
  unfold F_X11_knock at h
  refine g_aload_n dX11_knock_0 rfl ?_
  refine g_iconst (v := (nI 0)) dX11_knock_1 (by decide) ?_
  obtain ⟨K1, eK1, h⟩ := bs h
  refine q_put (c := (RX11, TX11, 56)) dX11_knock_2 fX11_149 rfl rfl rfl (fun h => absurd h (by decide)) eK1 ?_
  refine g_aload_n dX11_knock_5 rfl ?_
  refine g_aload_n dX11_knock_6 rfl ?_
  refine g_iload_n dX11_knock_7 rfl ?_
  obtain ⟨p2, ep2, h⟩ := bs h
  refine q_virt (Z := MX11_knockNow) (c := (RX11, TX11, 56)) (toI_s ep2) dX11_knock_8 mX11_461.1 mX11_461.2 (Nat.le_of_ble_eq_true rfl) rfl rfl (Nat.le_of_ble_eq_true rfl) (Nat.le_of_ble_eq_true rfl) rfl rfl ?_
  show Go O (d + 1) MX11_knock 11 [some (.ref a0), some (.int a1)] [.int p2.1, .ref a0] p2.2 P
  obtain ⟨p3, ep3, h⟩ := bs h
  refine q_virt (Z := MX11_tell) (c := (RX11, TX11, 56)) (toI_s ep3) dX11_knock_11 mX11_158.1 mX11_158.2 (Nat.le_of_ble_eq_true rfl) rfl rfl (Nat.le_of_ble_eq_true rfl) (Nat.le_of_ble_eq_true rfl) rfl rfl ?_
  show Go O (d + 1) MX11_knock 14 [some (.ref a0), some (.int a1)] [.int p3.1] p3.2 P
  exact g_ireturn dX11_knock_14 rfl (by first | rfl | decide) (hret _ _ (Option.some.inj h))
noncomputable def F_X11_passIt_l2 (O : mO) (d : Nat) (v0 : Nat) (s1 : Int32) (K : mH) : Option ((Int32 × mH) ⊕ (mH)) :=
  (gtA K v0 11 3).bind fun x1 =>
  (rdI O K x1 (nI 1)).bind fun x2 =>
  if x2 ≤ s1 then
    some (.inr K)
  else
    (gtA K v0 11 41).bind fun x4 =>
    (toI (vc O d 11 MX11_earnsOf v0 [.int s1] K)).bind fun p5 =>
    (wrI p5.2 x4 s1 p5.1).bind fun K6 =>
    some (.inl ((s1 + nI 1), K6))
theorem e_X11_passIt_l2 {O : mO} {d : Nat} {v0 : Nat} {P : Option Value → mH → Prop} {x : mH} (hex : ∀ q : mH, x = q → Go O (d + 1) MX11_passIt 29 [some (.ref v0), none, none] [] q P) : ∀ (f : Nat) (q : Int32 × mH), lupF (fun (q : Int32 × mH) => F_X11_passIt_l2 O d v0 q.1 q.2) f q = some x → Go O (d + 1) MX11_passIt 2 [some (.ref v0), some (.int q.1), none] [] q.2 P := by
  intro f
  induction f with
  | zero =>
    intro q h
    cases h
  | succ f ih =>
    intro q h
    obtain ⟨y, h, hy1, hy2⟩ := lupF_s h
    have hin : ∀ q : Int32 × mH, y = .inl q → Go O (d + 1) MX11_passIt 2 [some (.ref v0), some (.int q.1), none] [] q.2 P := fun q e => ih q (hy1 q e)
    replace hex : ∀ q : mH, y = .inr q → Go O (d + 1) MX11_passIt 29 [some (.ref v0), none, none] [] q P := fun q e => hex q (hy2 q e).symm
    clear ih hy1 hy2
    obtain ⟨s1, K⟩ := q
    dsimp only at h ⊢
    unfold F_X11_passIt_l2 at h
    refine g_iload_n dX11_passIt_2 rfl ?_
    refine g_aload_n dX11_passIt_3 rfl ?_
    obtain ⟨x1, ex1, h⟩ := bs h
    refine q_getA dX11_passIt_4 fX11_13 ex1 ?_
    refine g_iconst (v := (nI 1)) dX11_passIt_7 (by decide) ?_
    obtain ⟨x2, ex2, h⟩ := bs h
    refine q_iald dX11_passIt_8 ex2 ?_
    refine g_ic_ge (t := 29) dX11_passIt_9 (by decide) (fun c3 => ?_) (fun c3 => ?_)
    · rw [if_pos c3] at h
      refine Go_le ?_ (hex K (Option.some.inj h).symm)
      exact And.intro rfl (trivial)
    · rw [if_neg c3] at h
      refine g_aload_n dX11_passIt_12 rfl ?_
      obtain ⟨x4, ex4, h⟩ := bs h
      refine q_getA dX11_passIt_13 fX11_108 ex4 ?_
      refine g_iload_n dX11_passIt_16 rfl ?_
      refine g_aload_n dX11_passIt_17 rfl ?_
      refine g_iload_n dX11_passIt_18 rfl ?_
      obtain ⟨p5, ep5, h⟩ := bs h
      refine q_virt (Z := MX11_earnsOf) (c := (RX11, TX11, 56)) (toI_s ep5) dX11_passIt_19 mX11_202.1 mX11_202.2 (Nat.le_of_ble_eq_true rfl) rfl rfl (Nat.le_of_ble_eq_true rfl) (Nat.le_of_ble_eq_true rfl) rfl rfl ?_
      show Go O (d + 1) MX11_passIt 22 [some (.ref v0), some (.int s1), none] [.int p5.1, .int s1, .ref x4] p5.2 P
      obtain ⟨K6, eK6, h⟩ := bs h
      refine q_iast dX11_passIt_22 eK6 ?_
      refine q_iinc (w := nI 1) (ls' := [some (.ref v0), some (.int (s1 + nI 1)), none]) dX11_passIt_23 (by decide) rfl (by decide) rfl ?_
      refine g_goto (t := 2) dX11_passIt_26 (by decide) ?_
      refine Go_le ?_ (hin ((s1 + nI 1), K6) (Option.some.inj h).symm)
      exact And.intro rfl (And.intro rfl (trivial))
noncomputable def F_X11_passIt_l31 (O : mO) (d : Nat) (v0 : Nat) (s1 : Int32) (K : mH) : Option ((Int32 × mH) ⊕ (mH)) :=
  (gtA K v0 11 3).bind fun x8 =>
  (rdI O K x8 (nI 1)).bind fun x9 =>
  if x9 ≤ s1 then
    some (.inr K)
  else
    (gtA K v0 11 3).bind fun x11 =>
    (gtA K v0 11 3).bind fun x12 =>
    (rdI O K x12 ((nI 33) + s1)).bind fun x13 =>
    (gtA K v0 11 41).bind fun x14 =>
    (rdI O K x14 s1).bind fun x15 =>
    (toI (ev O d MX11_within [.long (x13 + x15).toInt64, .int (nI 0), .int (nI 999)] K)).bind fun p16 =>
    (wrI p16.2 x11 ((nI 33) + s1) p16.1).bind fun K17 =>
    some (.inl ((s1 + nI 1), K17))
theorem e_X11_passIt_l31 {O : mO} {d : Nat} {v0 : Nat} {P : Option Value → mH → Prop} {x : mH} (hex : ∀ q : mH, x = q → Go O (d + 1) MX11_passIt 80 [some (.ref v0), none, none] [] q P) : ∀ (f : Nat) (q : Int32 × mH), lupF (fun (q : Int32 × mH) => F_X11_passIt_l31 O d v0 q.1 q.2) f q = some x → Go O (d + 1) MX11_passIt 31 [some (.ref v0), some (.int q.1), none] [] q.2 P := by
  intro f
  induction f with
  | zero =>
    intro q h
    cases h
  | succ f ih =>
    intro q h
    obtain ⟨y, h, hy1, hy2⟩ := lupF_s h
    have hin : ∀ q : Int32 × mH, y = .inl q → Go O (d + 1) MX11_passIt 31 [some (.ref v0), some (.int q.1), none] [] q.2 P := fun q e => ih q (hy1 q e)
    replace hex : ∀ q : mH, y = .inr q → Go O (d + 1) MX11_passIt 80 [some (.ref v0), none, none] [] q P := fun q e => hex q (hy2 q e).symm
    clear ih hy1 hy2
    obtain ⟨s1, K⟩ := q
    dsimp only at h ⊢
    unfold F_X11_passIt_l31 at h
    refine g_iload_n dX11_passIt_31 rfl ?_
    refine g_aload_n dX11_passIt_32 rfl ?_
    obtain ⟨x8, ex8, h⟩ := bs h
    refine q_getA dX11_passIt_33 fX11_13 ex8 ?_
    refine g_iconst (v := (nI 1)) dX11_passIt_36 (by decide) ?_
    obtain ⟨x9, ex9, h⟩ := bs h
    refine q_iald dX11_passIt_37 ex9 ?_
    refine g_ic_ge (t := 80) dX11_passIt_38 (by decide) (fun c10 => ?_) (fun c10 => ?_)
    · rw [if_pos c10] at h
      refine Go_le ?_ (hex K (Option.some.inj h).symm)
      exact And.intro rfl (trivial)
    · rw [if_neg c10] at h
      refine g_aload_n dX11_passIt_41 rfl ?_
      obtain ⟨x11, ex11, h⟩ := bs h
      refine q_getA dX11_passIt_42 fX11_13 ex11 ?_
      refine g_bipush (v := (nI 33)) dX11_passIt_45 (by decide) ?_
      refine g_iload_n dX11_passIt_47 rfl ?_
      refine g_iadd dX11_passIt_48 ?_
      refine g_aload_n dX11_passIt_49 rfl ?_
      obtain ⟨x12, ex12, h⟩ := bs h
      refine q_getA dX11_passIt_50 fX11_13 ex12 ?_
      refine g_bipush (v := (nI 33)) dX11_passIt_53 (by decide) ?_
      refine g_iload_n dX11_passIt_55 rfl ?_
      refine g_iadd dX11_passIt_56 ?_
      obtain ⟨x13, ex13, h⟩ := bs h
      refine q_iald dX11_passIt_57 ex13 ?_
      refine g_aload_n dX11_passIt_58 rfl ?_
      obtain ⟨x14, ex14, h⟩ := bs h
      refine q_getA dX11_passIt_59 fX11_108 ex14 ?_
      refine g_iload_n dX11_passIt_62 rfl ?_
      obtain ⟨x15, ex15, h⟩ := bs h
      refine q_iald dX11_passIt_63 ex15 ?_
      refine g_iadd dX11_passIt_64 ?_
      refine g_i2l dX11_passIt_65 ?_
      refine g_iconst (v := (nI 0)) dX11_passIt_66 (by decide) ?_
      refine g_sipush (v := (nI 999)) dX11_passIt_67 (by decide) ?_
      obtain ⟨p16, ep16, h⟩ := bs h
      refine q_stat (Z := MX11_within) (toI_s ep16) dX11_passIt_70 mX11_430.1 mX11_430.2 (Nat.le_of_ble_eq_true rfl) rfl rfl (Nat.le_of_ble_eq_true rfl) (Nat.le_of_ble_eq_true rfl) ?_
      show Go O (d + 1) MX11_passIt 73 [some (.ref v0), some (.int s1), none] [.int p16.1, .int ((nI 33) + s1), .ref x11] p16.2 P
      obtain ⟨K17, eK17, h⟩ := bs h
      refine q_iast dX11_passIt_73 eK17 ?_
      refine q_iinc (w := nI 1) (ls' := [some (.ref v0), some (.int (s1 + nI 1)), none]) dX11_passIt_74 (by decide) rfl (by decide) rfl ?_
      refine g_goto (t := 31) dX11_passIt_77 (by decide) ?_
      refine Go_le ?_ (hin ((s1 + nI 1), K17) (Option.some.inj h).symm)
      exact And.intro rfl (And.intro rfl (trivial))
noncomputable def F_X11_passIt_j168 (O : mO) (d : Nat) (v0 : Nat) (v1 : Int32) (v2 : Int32) (w0 : Int32) (w1 : Int32) (w2 : Nat) (K : mH) : Option ((Int32 × Int32 × mH) ⊕ (Int32 × mH)) :=
  (wrI K w2 w1 w0).bind fun K38 =>
  some (.inl (v1, (v2 + nI 1), K38))
theorem e_X11_passIt_j168 {O : mO} {d : Nat} {v0 : Nat} {v1 : Int32} {v2 : Int32} {w0 : Int32} {w1 : Int32} {w2 : Nat} {K : mH} {P : Option Value → mH → Prop} {y : (Int32 × Int32 × mH) ⊕ (Int32 × mH)} (hin : ∀ q : Int32 × Int32 × mH, y = .inl q → Go O (d + 1) MX11_passIt 84 [some (.ref v0), some (.int q.1), some (.int q.2.1)] [] q.2.2 P) (hex : ∀ q : Int32 × mH, y = .inr q → Go O (d + 1) MX11_passIt 175 [some (.ref v0), some (.int q.1), none] [] q.2 P) (h : F_X11_passIt_j168 O d v0 v1 v2 w0 w1 w2 K = some y) : Go O (d + 1) MX11_passIt 168 [some (.ref v0), some (.int v1), some (.int v2)] [.int w0, .int w1, .ref w2] K P := by
  unfold F_X11_passIt_j168 at h
  obtain ⟨K38, eK38, h⟩ := bs h
  refine q_iast dX11_passIt_168 eK38 ?_
  refine q_iinc (w := nI 1) (ls' := [some (.ref v0), some (.int v1), some (.int (v2 + nI 1))]) dX11_passIt_169 (by decide) rfl (by decide) rfl ?_
  refine g_goto (t := 84) dX11_passIt_172 (by decide) ?_
  refine Go_le ?_ (hin (v1, (v2 + nI 1), K38) (Option.some.inj h).symm)
  exact And.intro rfl (And.intro rfl (And.intro rfl (trivial)))
noncomputable def F_X11_passIt_l84 (O : mO) (d : Nat) (v0 : Nat) (s1 : Int32) (s2 : Int32) (K : mH) : Option ((Int32 × Int32 × mH) ⊕ (Int32 × mH)) :=
  (gtA K v0 11 3).bind fun x19 =>
  (rdI O K x19 (nI 2)).bind fun x20 =>
  if x20 ≤ s2 then
    some (.inr (s1, K))
  else
    (toI (vc O d 11 MX11_isIn v0 [.int s2] K)).bind fun p22 =>
    if p22.1 = 0 then
      some (.inl (s1, (s2 + nI 1), p22.2))
    else
      (gtA p22.2 v0 11 3).bind fun x25 =>
      (rdI O p22.2 x25 ((nI 17) + s2)).bind fun x26 =>
      (wrI p22.2 x25 ((nI 17) + s2) (x26 - (nI 1))).bind fun K27 =>
      (gtA K27 v0 11 3).bind fun x28 =>
      (rdI O K27 x28 ((nI 17) + s2)).bind fun x29 =>
      (gtA K27 v0 11 3).bind fun x31 =>
      (gtA K27 v0 11 3).bind fun x32 =>
      (rdI O K27 x32 ((nI 17) + s2)).bind fun x33 =>
      if x33 = 0 then
        F_X11_passIt_j168 O d v0 (s1 + (if x29 = 0 then (nI 1) else (nI 0))) s2 (-1) ((nI 9) + s2) x31 K27
      else
        (gtA K27 v0 11 3).bind fun x36 =>
        (rdI O K27 x36 ((nI 9) + s2)).bind fun x37 =>
        F_X11_passIt_j168 O d v0 (s1 + (if x29 = 0 then (nI 1) else (nI 0))) s2 x37 ((nI 9) + s2) x31 K27
theorem e_X11_passIt_l84 {O : mO} {d : Nat} {v0 : Nat} {P : Option Value → mH → Prop} {x : Int32 × mH} (hex : ∀ q : Int32 × mH, x = q → Go O (d + 1) MX11_passIt 175 [some (.ref v0), some (.int q.1), none] [] q.2 P) : ∀ (f : Nat) (q : Int32 × Int32 × mH), lupF (fun (q : Int32 × Int32 × mH) => F_X11_passIt_l84 O d v0 q.1 q.2.1 q.2.2) f q = some x → Go O (d + 1) MX11_passIt 84 [some (.ref v0), some (.int q.1), some (.int q.2.1)] [] q.2.2 P := by
  intro f
  induction f with
  | zero =>
    intro q h
    cases h
  | succ f ih =>
    intro q h
    obtain ⟨y, h, hy1, hy2⟩ := lupF_s h
    have hin : ∀ q : Int32 × Int32 × mH, y = .inl q → Go O (d + 1) MX11_passIt 84 [some (.ref v0), some (.int q.1), some (.int q.2.1)] [] q.2.2 P := fun q e => ih q (hy1 q e)
    replace hex : ∀ q : Int32 × mH, y = .inr q → Go O (d + 1) MX11_passIt 175 [some (.ref v0), some (.int q.1), none] [] q.2 P := fun q e => hex q (hy2 q e).symm
    clear ih hy1 hy2
    obtain ⟨s1, s2, K⟩ := q
    dsimp only at h ⊢
    unfold F_X11_passIt_l84 at h
    refine g_iload_n dX11_passIt_84 rfl ?_
    refine g_aload_n dX11_passIt_85 rfl ?_
    obtain ⟨x19, ex19, h⟩ := bs h
    refine q_getA dX11_passIt_86 fX11_13 ex19 ?_
    refine g_iconst (v := (nI 2)) dX11_passIt_89 (by decide) ?_
    obtain ⟨x20, ex20, h⟩ := bs h
    refine q_iald dX11_passIt_90 ex20 ?_
    refine g_ic_ge (t := 175) dX11_passIt_91 (by decide) (fun c21 => ?_) (fun c21 => ?_)
    · rw [if_pos c21] at h
      refine Go_le ?_ (hex (s1, K) (Option.some.inj h).symm)
      exact And.intro rfl (And.intro rfl (trivial))
    · rw [if_neg c21] at h
      refine g_aload_n dX11_passIt_94 rfl ?_
      refine g_iload_n dX11_passIt_95 rfl ?_
      obtain ⟨p22, ep22, h⟩ := bs h
      refine q_virt (Z := MX11_isIn) (c := (RX11, TX11, 56)) (toI_s ep22) dX11_passIt_96 mX11_182.1 mX11_182.2 (Nat.le_of_ble_eq_true rfl) rfl rfl (Nat.le_of_ble_eq_true rfl) (Nat.le_of_ble_eq_true rfl) rfl rfl ?_
      show Go O (d + 1) MX11_passIt 99 [some (.ref v0), some (.int s1), some (.int s2)] [.int p22.1] p22.2 P
      refine g_if_eq (t := 169) dX11_passIt_99 (by decide) (fun c24 => ?_) (fun c24 => ?_)
      · rw [if_pos c24] at h
        refine q_iinc (w := nI 1) (ls' := [some (.ref v0), some (.int s1), some (.int (s2 + nI 1))]) dX11_passIt_169 (by decide) rfl (by decide) rfl ?_
        refine g_goto (t := 84) dX11_passIt_172 (by decide) ?_
        refine Go_le ?_ (hin (s1, (s2 + nI 1), p22.2) (Option.some.inj h).symm)
        exact And.intro rfl (And.intro rfl (And.intro rfl (trivial)))
      · rw [if_neg c24] at h
        refine g_aload_n dX11_passIt_102 rfl ?_
        obtain ⟨x25, ex25, h⟩ := bs h
        refine q_getA dX11_passIt_103 fX11_13 ex25 ?_
        refine g_bipush (v := (nI 17)) dX11_passIt_106 (by decide) ?_
        refine g_iload_n dX11_passIt_108 rfl ?_
        refine g_iadd dX11_passIt_109 ?_
        refine g_dup2 dX11_passIt_110 rfl rfl ?_
        obtain ⟨x26, ex26, h⟩ := bs h
        refine q_iald dX11_passIt_111 ex26 ?_
        refine g_iconst (v := (nI 1)) dX11_passIt_112 (by decide) ?_
        refine g_isub dX11_passIt_113 ?_
        obtain ⟨K27, eK27, h⟩ := bs h
        refine q_iast dX11_passIt_114 eK27 ?_
        refine g_iload_n dX11_passIt_115 rfl ?_
        refine g_aload_n dX11_passIt_116 rfl ?_
        obtain ⟨x28, ex28, h⟩ := bs h
        refine q_getA dX11_passIt_117 fX11_13 ex28 ?_
        refine g_bipush (v := (nI 17)) dX11_passIt_120 (by decide) ?_
        refine g_iload_n dX11_passIt_122 rfl ?_
        refine g_iadd dX11_passIt_123 ?_
        obtain ⟨x29, ex29, h⟩ := bs h
        refine q_iald dX11_passIt_124 ex29 ?_
        have hj : Go O (d + 1) MX11_passIt 133 [some (.ref v0), none, some (.int s2)] [.int (if x29 = 0 then (nI 1) else (nI 0)), .int s1] K27 P := by
          refine g_iadd dX11_passIt_133 ?_
          refine g_istore_n (ls' := [some (.ref v0), some (.int (s1 + (if x29 = 0 then (nI 1) else (nI 0)))), some (.int s2)]) dX11_passIt_134 (by decide) rfl ?_
          refine g_aload_n dX11_passIt_135 rfl ?_
          obtain ⟨x31, ex31, h⟩ := bs h
          refine q_getA dX11_passIt_136 fX11_13 ex31 ?_
          refine g_bipush (v := (nI 9)) dX11_passIt_139 (by decide) ?_
          refine g_iload_n dX11_passIt_141 rfl ?_
          refine g_iadd dX11_passIt_142 ?_
          refine g_aload_n dX11_passIt_143 rfl ?_
          obtain ⟨x32, ex32, h⟩ := bs h
          refine q_getA dX11_passIt_144 fX11_13 ex32 ?_
          refine g_bipush (v := (nI 17)) dX11_passIt_147 (by decide) ?_
          refine g_iload_n dX11_passIt_149 rfl ?_
          refine g_iadd dX11_passIt_150 ?_
          obtain ⟨x33, ex33, h⟩ := bs h
          refine q_iald dX11_passIt_151 ex33 ?_
          refine g_if_ne (t := 159) dX11_passIt_152 (by decide) (fun c35 => ?_) (fun c35 => ?_)
          · rw [if_neg c35] at h
            refine g_aload_n dX11_passIt_159 rfl ?_
            obtain ⟨x36, ex36, h⟩ := bs h
            refine q_getA dX11_passIt_160 fX11_13 ex36 ?_
            refine g_bipush (v := (nI 9)) dX11_passIt_163 (by decide) ?_
            refine g_iload_n dX11_passIt_165 rfl ?_
            refine g_iadd dX11_passIt_166 ?_
            obtain ⟨x37, ex37, h⟩ := bs h
            refine q_iald dX11_passIt_167 ex37 ?_
            refine Go_le ?_ (e_X11_passIt_j168 hin hex h)
            exact And.intro rfl (And.intro rfl (And.intro rfl (trivial)))
          · rw [if_pos c35] at h
            refine g_iconst (v := (-1)) dX11_passIt_155 (by decide) ?_
            refine g_goto (t := 168) dX11_passIt_156 (by decide) ?_
            refine Go_le ?_ (e_X11_passIt_j168 hin hex h)
            exact And.intro rfl (And.intro rfl (And.intro rfl (trivial)))
        refine g_if_ne (t := 132) dX11_passIt_125 (by decide) (fun c30 => ?_) (fun c30 => ?_)
        · skip
          refine g_iconst (v := (nI 0)) dX11_passIt_132 (by decide) ?_
          have hk : Go O (d + 1) MX11_passIt 133 [some (.ref v0), none, some (.int s2)] [.int (nI 0), .int s1] K27 P := by simpa only [if_neg c30] using hj
          refine Go_le ?_ hk
          exact And.intro rfl (And.intro rfl (trivial))
        · skip
          refine g_iconst (v := (nI 1)) dX11_passIt_128 (by decide) ?_
          refine g_goto (t := 133) dX11_passIt_129 (by decide) ?_
          have hk : Go O (d + 1) MX11_passIt 133 [some (.ref v0), none, some (.int s2)] [.int (nI 1), .int s1] K27 P := by simpa only [if_pos c30] using hj
          refine Go_le ?_ hk
          exact And.intro rfl (And.intro rfl (trivial))
noncomputable def F_X11_passIt (O : mO) (d : Nat) (a0 : Nat) (K : mH) : Option (Int32 × mH) :=
  (lupF (fun (q : Int32 × mH) => F_X11_passIt_l2 O d a0 q.1 q.2) FU ((nI 0), K)).bind fun r7 =>
  (lupF (fun (q : Int32 × mH) => F_X11_passIt_l31 O d a0 q.1 q.2) FU ((nI 0), r7)).bind fun r18 =>
  (lupF (fun (q : Int32 × Int32 × mH) => F_X11_passIt_l84 O d a0 q.1 q.2.1 q.2.2) FU ((nI 0), (nI 0), r18)).bind fun r39 =>
  (gtA r39.2 a0 11 3).bind fun x40 =>
  (rdI O r39.2 x40 (nI 6)).bind fun x41 =>
  (wrI r39.2 x40 (nI 6) (x41 + (nI 1))).bind fun K42 =>
  some (r39.1, K42)
theorem e_X11_passIt {O : mO} {d : Nat} {a0 : Nat} {K : mH} {r0 : Int32} {K0 : mH} (h : F_X11_passIt O d a0 K = some (r0, K0)) : ev O (d + 1) MX11_passIt [.ref a0] K = some (some (.int r0), K0) := by
  refine Rn_evx ?_
  show Go O (d + 1) MX11_passIt 0 [some (.ref a0), none, none] [] K _
  generalize hP : (fun (r : Option Value) (K' : mH) => (r, K') = (some (.int r0), K0)) = P
  have hret : ∀ (r : Int32) (K' : mH), (r, K') = (r0, K0) → P (some (.int r)) K' := by
    intro r K' e
    cases e
    subst hP
    rfl
  clear hP
  unfold F_X11_passIt at h
  refine g_iconst (v := (nI 0)) dX11_passIt_0 (by decide) ?_
  refine g_istore_n (ls' := [some (.ref a0), some (.int (nI 0)), none]) dX11_passIt_1 (by decide) rfl ?_
  obtain ⟨r7, er7, h⟩ := bs h
  have hx : Go O (d + 1) MX11_passIt 29 [some (.ref a0), none, none] [] r7 P := by
    refine g_iconst (v := (nI 0)) dX11_passIt_29 (by decide) ?_
    refine g_istore_n (ls' := [some (.ref a0), some (.int (nI 0)), none]) dX11_passIt_30 (by decide) rfl ?_
    obtain ⟨r18, er18, h⟩ := bs h
    have hx : Go O (d + 1) MX11_passIt 80 [some (.ref a0), none, none] [] r18 P := by
      refine g_iconst (v := (nI 0)) dX11_passIt_80 (by decide) ?_
      refine g_istore_n (ls' := [some (.ref a0), some (.int (nI 0)), none]) dX11_passIt_81 (by decide) rfl ?_
      refine g_iconst (v := (nI 0)) dX11_passIt_82 (by decide) ?_
      refine g_istore_n (ls' := [some (.ref a0), some (.int (nI 0)), some (.int (nI 0))]) dX11_passIt_83 (by decide) rfl ?_
      obtain ⟨r39, er39, h⟩ := bs h
      have hx : Go O (d + 1) MX11_passIt 175 [some (.ref a0), some (.int r39.1), none] [] r39.2 P := by
        refine g_aload_n dX11_passIt_175 rfl ?_
        obtain ⟨x40, ex40, h⟩ := bs h
        refine q_getA dX11_passIt_176 fX11_13 ex40 ?_
        refine g_bipush (v := (nI 6)) dX11_passIt_179 (by decide) ?_
        refine g_dup2 dX11_passIt_181 rfl rfl ?_
        obtain ⟨x41, ex41, h⟩ := bs h
        refine q_iald dX11_passIt_182 ex41 ?_
        refine g_iconst (v := (nI 1)) dX11_passIt_183 (by decide) ?_
        refine g_iadd dX11_passIt_184 ?_
        obtain ⟨K42, eK42, h⟩ := bs h
        refine q_iast dX11_passIt_185 eK42 ?_
        refine g_iload_n dX11_passIt_186 rfl ?_
        exact g_ireturn dX11_passIt_187 rfl (by first | rfl | decide) (hret _ _ (Option.some.inj h))
      refine Go_le ?_ (e_X11_passIt_l84 (fun q e => by cases e; exact hx) FU ((nI 0), (nI 0), r18) er39)
      exact And.intro rfl (And.intro rfl (And.intro rfl (trivial)))
    refine Go_le ?_ (e_X11_passIt_l31 (fun q e => by cases e; exact hx) FU ((nI 0), r7) er18)
    exact And.intro rfl (And.intro rfl (trivial))
  refine Go_le ?_ (e_X11_passIt_l2 (fun q e => by cases e; exact hx) FU ((nI 0), K) er7)
  exact And.intro rfl (And.intro rfl (trivial))
noncomputable def F_X11_passNow (O : mO) (d : Nat) (a0 : Nat) (K : mH) : Option (Int32 × mH) :=
  (gtA K a0 11 3).bind fun x1 =>
  (rdI O K x1 (nI 6)).bind fun x2 =>
  if x2 = (nI 999) then
    some ((-3), K)
  else
    (toV (vc O d 11 MX11_remember a0 [.int (nI 3)] K)).bind fun K4 =>
    (toI (vc O d 11 MX11_passIt a0 [] K4)).bind fun p5 =>
    (gtA p5.2 a0 11 3).bind fun x6 =>
    (rdI O p5.2 x6 (nI 6)).bind fun x7 =>
    some (x7, p5.2)
theorem e_X11_passNow {O : mO} {d : Nat} {a0 : Nat} {K : mH} {r0 : Int32} {K0 : mH} (h : F_X11_passNow O d a0 K = some (r0, K0)) : ev O (d + 1) MX11_passNow [.ref a0] K = some (some (.int r0), K0) := by
  refine Rn_evx ?_
  show Go O (d + 1) MX11_passNow 0 [some (.ref a0)] [] K _
  generalize hP : (fun (r : Option Value) (K' : mH) => (r, K') = (some (.int r0), K0)) = P
  have hret : ∀ (r : Int32) (K' : mH), (r, K') = (r0, K0) → P (some (.int r)) K' := by
    intro r K' e
    cases e
    subst hP
    rfl
  clear hP
  unfold F_X11_passNow at h
  refine g_aload_n dX11_passNow_0 rfl ?_
  obtain ⟨x1, ex1, h⟩ := bs h
  refine q_getA dX11_passNow_1 fX11_13 ex1 ?_
  refine g_bipush (v := (nI 6)) dX11_passNow_4 (by decide) ?_
  obtain ⟨x2, ex2, h⟩ := bs h
  refine q_iald dX11_passNow_6 ex2 ?_
  refine g_sipush (v := (nI 999)) dX11_passNow_7 (by decide) ?_
  refine g_ic_ne (t := 16) dX11_passNow_10 (by decide) (fun c3 => ?_) (fun c3 => ?_)
  · rw [if_neg c3] at h
    refine g_aload_n dX11_passNow_16 rfl ?_
    refine g_iconst (v := (nI 3)) dX11_passNow_17 (by decide) ?_
    obtain ⟨K4, eK4, h⟩ := bs h
    refine q_virt (Z := MX11_remember) (c := (RX11, TX11, 56)) (toV_s eK4) dX11_passNow_18 mX11_437.1 mX11_437.2 (Nat.le_of_ble_eq_true rfl) rfl rfl (Nat.le_of_ble_eq_true rfl) (Nat.le_of_ble_eq_true rfl) rfl rfl ?_
    show Go O (d + 1) MX11_passNow 21 [some (.ref a0)] [] K4 P
    refine g_aload_n dX11_passNow_21 rfl ?_
    obtain ⟨p5, ep5, h⟩ := bs h
    refine q_virt (Z := MX11_passIt) (c := (RX11, TX11, 56)) (toI_s ep5) dX11_passNow_22 mX11_464.1 mX11_464.2 (Nat.le_of_ble_eq_true rfl) rfl rfl (Nat.le_of_ble_eq_true rfl) (Nat.le_of_ble_eq_true rfl) rfl rfl ?_
    show Go O (d + 1) MX11_passNow 25 [some (.ref a0)] [.int p5.1] p5.2 P
    refine g_pop dX11_passNow_25 (by first | rfl | exact vrf_cat _) ?_
    refine g_aload_n dX11_passNow_26 rfl ?_
    obtain ⟨x6, ex6, h⟩ := bs h
    refine q_getA dX11_passNow_27 fX11_13 ex6 ?_
    refine g_bipush (v := (nI 6)) dX11_passNow_30 (by decide) ?_
    obtain ⟨x7, ex7, h⟩ := bs h
    refine q_iald dX11_passNow_32 ex7 ?_
    exact g_ireturn dX11_passNow_33 rfl (by first | rfl | decide) (hret _ _ (Option.some.inj h))
  · rw [if_pos c3] at h
    refine g_bipush (v := (-3)) dX11_passNow_13 (by decide) ?_
    exact g_ireturn dX11_passNow_15 rfl (by first | rfl | decide) (hret _ _ (Option.some.inj h))
noncomputable def F_X11_pass (O : mO) (d : Nat) (a0 : Nat) (K : mH) : Option (Int32 × mH) :=
  (ptI K a0 11 0 (nI 0)).bind fun K1 =>
  (toI (vc O d 11 MX11_passNow a0 [] K1)).bind fun p2 =>
  (toI (vc O d 11 MX11_tell a0 [.int p2.1] p2.2)).bind fun p3 =>
  some (p3.1, p3.2)
theorem e_X11_pass {O : mO} {d : Nat} {a0 : Nat} {K : mH} {r0 : Int32} {K0 : mH} (h : F_X11_pass O d a0 K = some (r0, K0)) : ev O (d + 1) MX11_pass [.ref a0] K = some (some (.int r0), K0) := by
  refine Rn_evx ?_
  show Go O (d + 1) MX11_pass 0 [some (.ref a0)] [] K _
  generalize hP : (fun (r : Option Value) (K' : mH) => (r, K') = (some (.int r0), K0)) = P
  have hret : ∀ (r : Int32) (K' : mH), (r, K') = (r0, K0) → P (some (.int r)) K' := by
    intro r K' e
    cases e
    subst hP
    rfl
  clear hP
  unfold F_X11_pass at h
  refine g_aload_n dX11_pass_0 rfl ?_
  refine g_iconst (v := (nI 0)) dX11_pass_1 (by decide) ?_
  obtain ⟨K1, eK1, h⟩ := bs h
  refine q_put (c := (RX11, TX11, 56)) dX11_pass_2 fX11_149 rfl rfl rfl (fun h => absurd h (by decide)) eK1 ?_
  refine g_aload_n dX11_pass_5 rfl ?_
  refine g_aload_n dX11_pass_6 rfl ?_
  obtain ⟨p2, ep2, h⟩ := bs h
  refine q_virt (Z := MX11_passNow) (c := (RX11, TX11, 56)) (toI_s ep2) dX11_pass_7 mX11_467.1 mX11_467.2 (Nat.le_of_ble_eq_true rfl) rfl rfl (Nat.le_of_ble_eq_true rfl) (Nat.le_of_ble_eq_true rfl) rfl rfl ?_
  show Go O (d + 1) MX11_pass 10 [some (.ref a0)] [.int p2.1, .ref a0] p2.2 P
  obtain ⟨p3, ep3, h⟩ := bs h
  refine q_virt (Z := MX11_tell) (c := (RX11, TX11, 56)) (toI_s ep3) dX11_pass_10 mX11_158.1 mX11_158.2 (Nat.le_of_ble_eq_true rfl) rfl rfl (Nat.le_of_ble_eq_true rfl) (Nat.le_of_ble_eq_true rfl) rfl rfl ?_
  show Go O (d + 1) MX11_pass 13 [some (.ref a0)] [.int p3.1] p3.2 P
  exact g_ireturn dX11_pass_13 rfl (by first | rfl | decide) (hret _ _ (Option.some.inj h))
noncomputable def F_X11_inside_l23 (O : mO) (d : Nat) (v0 : Nat) (v1 : Int32) (K : mH) (s2 : Int32) (s3 : Int32) : Option ((Int32 × Int32) ⊕ (Int32)) :=
  (gtA K v0 11 3).bind fun x4 =>
  (rdI O K x4 (nI 2)).bind fun x5 =>
  if x5 ≤ s3 then
    some (.inr s2)
  else
    (gtA K v0 11 3).bind fun x7 =>
    (rdI O K x7 ((nI 17) + s3)).bind fun x8 =>
    some (.inl ((s2 ||| (if x8 ≤ v1 then (nI 0) else ((nI 1) <<< (s3 &&& 31)))), (s3 + nI 1)))
theorem e_X11_inside_l23 {O : mO} {d : Nat} {v0 : Nat} {v1 : Int32} {K : mH} {P : Option Value → mH → Prop} {x : Int32} (hex : ∀ q : Int32, x = q → Go O (d + 1) MX11_inside 62 [none, none, some (.int q), none] [] K P) : ∀ (f : Nat) (q : Int32 × Int32), lupF (fun (q : Int32 × Int32) => F_X11_inside_l23 O d v0 v1 K q.1 q.2) f q = some x → Go O (d + 1) MX11_inside 23 [some (.ref v0), some (.int v1), some (.int q.1), some (.int q.2)] [] K P := by
  intro f
  induction f with
  | zero =>
    intro q h
    cases h
  | succ f ih =>
    intro q h
    obtain ⟨y, h, hy1, hy2⟩ := lupF_s h
    have hin : ∀ q : Int32 × Int32, y = .inl q → Go O (d + 1) MX11_inside 23 [some (.ref v0), some (.int v1), some (.int q.1), some (.int q.2)] [] K P := fun q e => ih q (hy1 q e)
    replace hex : ∀ q : Int32, y = .inr q → Go O (d + 1) MX11_inside 62 [none, none, some (.int q), none] [] K P := fun q e => hex q (hy2 q e).symm
    clear ih hy1 hy2
    obtain ⟨s2, s3⟩ := q
    dsimp only at h ⊢
    unfold F_X11_inside_l23 at h
    refine g_iload_n dX11_inside_23 rfl ?_
    refine g_aload_n dX11_inside_24 rfl ?_
    obtain ⟨x4, ex4, h⟩ := bs h
    refine q_getA dX11_inside_25 fX11_13 ex4 ?_
    refine g_iconst (v := (nI 2)) dX11_inside_28 (by decide) ?_
    obtain ⟨x5, ex5, h⟩ := bs h
    refine q_iald dX11_inside_29 ex5 ?_
    refine g_ic_ge (t := 62) dX11_inside_30 (by decide) (fun c6 => ?_) (fun c6 => ?_)
    · rw [if_pos c6] at h
      refine Go_le ?_ (hex s2 (Option.some.inj h).symm)
      exact And.intro rfl (trivial)
    · rw [if_neg c6] at h
      refine g_iload_n dX11_inside_33 rfl ?_
      refine g_aload_n dX11_inside_34 rfl ?_
      obtain ⟨x7, ex7, h⟩ := bs h
      refine q_getA dX11_inside_35 fX11_13 ex7 ?_
      refine g_bipush (v := (nI 17)) dX11_inside_38 (by decide) ?_
      refine g_iload_n dX11_inside_40 rfl ?_
      refine g_iadd dX11_inside_41 ?_
      obtain ⟨x8, ex8, h⟩ := bs h
      refine q_iald dX11_inside_42 ex8 ?_
      refine g_iload_n dX11_inside_43 rfl ?_
      have hj : Go O (d + 1) MX11_inside 54 [some (.ref v0), some (.int v1), none, some (.int s3)] [.int (if x8 ≤ v1 then (nI 0) else ((nI 1) <<< (s3 &&& 31))), .int s2] K P := by
        refine g_ior dX11_inside_54 ?_
        refine g_istore_n (ls' := [some (.ref v0), some (.int v1), some (.int (s2 ||| (if x8 ≤ v1 then (nI 0) else ((nI 1) <<< (s3 &&& 31))))), some (.int s3)]) dX11_inside_55 (by decide) rfl ?_
        refine q_iinc (w := nI 1) (ls' := [some (.ref v0), some (.int v1), some (.int (s2 ||| (if x8 ≤ v1 then (nI 0) else ((nI 1) <<< (s3 &&& 31))))), some (.int (s3 + nI 1))]) dX11_inside_56 (by decide) rfl (by decide) rfl ?_
        refine g_goto (t := 23) dX11_inside_59 (by decide) ?_
        refine Go_le ?_ (hin ((s2 ||| (if x8 ≤ v1 then (nI 0) else ((nI 1) <<< (s3 &&& 31)))), (s3 + nI 1)) (Option.some.inj h).symm)
        exact And.intro rfl (And.intro rfl (And.intro rfl (And.intro rfl (trivial))))
      refine g_ic_le (t := 53) dX11_inside_44 (by decide) (fun c9 => ?_) (fun c9 => ?_)
      · skip
        refine g_iconst (v := (nI 0)) dX11_inside_53 (by decide) ?_
        have hk : Go O (d + 1) MX11_inside 54 [some (.ref v0), some (.int v1), none, some (.int s3)] [.int (nI 0), .int s2] K P := by simpa only [if_pos c9] using hj
        refine Go_le ?_ hk
        exact And.intro rfl (And.intro rfl (And.intro rfl (trivial)))
      · skip
        refine g_iconst (v := (nI 1)) dX11_inside_47 (by decide) ?_
        refine g_iload_n dX11_inside_48 rfl ?_
        refine g_ishl dX11_inside_49 ?_
        refine g_goto (t := 54) dX11_inside_50 (by decide) ?_
        have hk : Go O (d + 1) MX11_inside 54 [some (.ref v0), some (.int v1), none, some (.int s3)] [.int ((nI 1) <<< (s3 &&& 31)), .int s2] K P := by simpa only [if_neg c9] using hj
        refine Go_le ?_ hk
        exact And.intro rfl (And.intro rfl (And.intro rfl (trivial)))
noncomputable def F_X11_inside (O : mO) (d : Nat) (a0 : Nat) (a1 : Int32) (K : mH) : Option (Int32 × mH) :=
  (ptI K a0 11 0 (nI 0)).bind fun K1 =>
  (toI (ev O d MX11_in [.long a1.toInt64, .long 0, .long (99)] K1)).bind fun p2 =>
  if p2.1 = 0 then
    some ((-1), p2.2)
  else
    (lupF (fun (q : Int32 × Int32) => F_X11_inside_l23 O d a0 a1 p2.2 q.1 q.2) FU ((nI 0), (nI 0))).bind fun r10 =>
    some (r10, p2.2)
theorem e_X11_inside {O : mO} {d : Nat} {a0 : Nat} {a1 : Int32} {K : mH} {r0 : Int32} {K0 : mH} (h : F_X11_inside O d a0 a1 K = some (r0, K0)) : ev O (d + 1) MX11_inside [.ref a0, .int a1] K = some (some (.int r0), K0) := by
  refine Rn_evx ?_
  show Go O (d + 1) MX11_inside 0 [some (.ref a0), some (.int a1), none, none] [] K _
  generalize hP : (fun (r : Option Value) (K' : mH) => (r, K') = (some (.int r0), K0)) = P
  have hret : ∀ (r : Int32) (K' : mH), (r, K') = (r0, K0) → P (some (.int r)) K' := by
    intro r K' e
    cases e
    subst hP
    rfl
  clear hP
  unfold F_X11_inside at h
  refine g_aload_n dX11_inside_0 rfl ?_
  refine g_iconst (v := (nI 0)) dX11_inside_1 (by decide) ?_
  obtain ⟨K1, eK1, h⟩ := bs h
  refine q_put (c := (RX11, TX11, 56)) dX11_inside_2 fX11_149 rfl rfl rfl (fun h => absurd h (by decide)) eK1 ?_
  refine g_iload_n dX11_inside_5 rfl ?_
  refine g_i2l dX11_inside_6 ?_
  refine g_lconst (v := 0) dX11_inside_7 (by decide) ?_
  refine g_ldc2 (v := 99) dX11_inside_8 lX11_208 ?_
  obtain ⟨p2, ep2, h⟩ := bs h
  refine q_stat (Z := MX11_in) (toI_s ep2) dX11_inside_11 mX11_169.1 mX11_169.2 (Nat.le_of_ble_eq_true rfl) rfl rfl (Nat.le_of_ble_eq_true rfl) (Nat.le_of_ble_eq_true rfl) ?_
  show Go O (d + 1) MX11_inside 14 [some (.ref a0), some (.int a1), none, none] [.int p2.1] p2.2 P
  refine g_if_ne (t := 19) dX11_inside_14 (by decide) (fun c3 => ?_) (fun c3 => ?_)
  · rw [if_neg c3] at h
    refine g_iconst (v := (nI 0)) dX11_inside_19 (by decide) ?_
    refine g_istore_n (ls' := [some (.ref a0), some (.int a1), some (.int (nI 0)), none]) dX11_inside_20 (by decide) rfl ?_
    refine g_iconst (v := (nI 0)) dX11_inside_21 (by decide) ?_
    refine g_istore_n (ls' := [some (.ref a0), some (.int a1), some (.int (nI 0)), some (.int (nI 0))]) dX11_inside_22 (by decide) rfl ?_
    obtain ⟨r10, er10, h⟩ := bs h
    have hx : Go O (d + 1) MX11_inside 62 [none, none, some (.int r10), none] [] p2.2 P := by
      refine g_iload_n dX11_inside_62 rfl ?_
      exact g_ireturn dX11_inside_63 rfl (by first | rfl | decide) (hret _ _ (Option.some.inj h))
    refine Go_le ?_ (e_X11_inside_l23 (fun q e => by cases e; exact hx) FU ((nI 0), (nI 0)) er10)
    exact And.intro rfl (And.intro rfl (And.intro rfl (And.intro rfl (trivial))))
  · rw [if_pos c3] at h
    refine g_iconst (v := (-1)) dX11_inside_17 (by decide) ?_
    exact g_ireturn dX11_inside_18 rfl (by first | rfl | decide) (hret _ _ (Option.some.inj h))
noncomputable def F_X11_empty_l9 (O : mO) (d : Nat) (v0 : Nat) (K : mH) (s1 : Int32) (s2 : Int32) : Option ((Int32 × Int32) ⊕ (Int32)) :=
  (gtA K v0 11 3).bind fun x2 =>
  (rdI O K x2 (nI 2)).bind fun x3 =>
  if x3 ≤ s2 then
    some (.inr s1)
  else
    (gtA K v0 11 3).bind fun x5 =>
    (rdI O K x5 ((nI 17) + s2)).bind fun x6 =>
    if x6 ≤ s1 then
      some (.inl (s1, (s2 + nI 1)))
    else
      (gtA K v0 11 3).bind fun x9 =>
      (rdI O K x9 ((nI 17) + s2)).bind fun x10 =>
      some (.inl (x10, (s2 + nI 1)))
theorem e_X11_empty_l9 {O : mO} {d : Nat} {v0 : Nat} {K : mH} {P : Option Value → mH → Prop} {x : Int32} (hex : ∀ q : Int32, x = q → Go O (d + 1) MX11_empty 52 [none, some (.int q), none] [] K P) : ∀ (f : Nat) (q : Int32 × Int32), lupF (fun (q : Int32 × Int32) => F_X11_empty_l9 O d v0 K q.1 q.2) f q = some x → Go O (d + 1) MX11_empty 9 [some (.ref v0), some (.int q.1), some (.int q.2)] [] K P := by
  intro f
  induction f with
  | zero =>
    intro q h
    cases h
  | succ f ih =>
    intro q h
    obtain ⟨y, h, hy1, hy2⟩ := lupF_s h
    have hin : ∀ q : Int32 × Int32, y = .inl q → Go O (d + 1) MX11_empty 9 [some (.ref v0), some (.int q.1), some (.int q.2)] [] K P := fun q e => ih q (hy1 q e)
    replace hex : ∀ q : Int32, y = .inr q → Go O (d + 1) MX11_empty 52 [none, some (.int q), none] [] K P := fun q e => hex q (hy2 q e).symm
    clear ih hy1 hy2
    obtain ⟨s1, s2⟩ := q
    dsimp only at h ⊢
    unfold F_X11_empty_l9 at h
    refine g_iload_n dX11_empty_9 rfl ?_
    refine g_aload_n dX11_empty_10 rfl ?_
    obtain ⟨x2, ex2, h⟩ := bs h
    refine q_getA dX11_empty_11 fX11_13 ex2 ?_
    refine g_iconst (v := (nI 2)) dX11_empty_14 (by decide) ?_
    obtain ⟨x3, ex3, h⟩ := bs h
    refine q_iald dX11_empty_15 ex3 ?_
    refine g_ic_ge (t := 52) dX11_empty_16 (by decide) (fun c4 => ?_) (fun c4 => ?_)
    · rw [if_pos c4] at h
      refine Go_le ?_ (hex s1 (Option.some.inj h).symm)
      exact And.intro rfl (trivial)
    · rw [if_neg c4] at h
      refine g_aload_n dX11_empty_19 rfl ?_
      obtain ⟨x5, ex5, h⟩ := bs h
      refine q_getA dX11_empty_20 fX11_13 ex5 ?_
      refine g_bipush (v := (nI 17)) dX11_empty_23 (by decide) ?_
      refine g_iload_n dX11_empty_25 rfl ?_
      refine g_iadd dX11_empty_26 ?_
      obtain ⟨x6, ex6, h⟩ := bs h
      refine q_iald dX11_empty_27 ex6 ?_
      refine g_iload_n dX11_empty_28 rfl ?_
      refine g_ic_le (t := 44) dX11_empty_29 (by decide) (fun c8 => ?_) (fun c8 => ?_)
      · rw [if_pos c8] at h
        refine g_iload_n dX11_empty_44 rfl ?_
        refine g_istore_n (ls' := [some (.ref v0), some (.int s1), some (.int s2)]) dX11_empty_45 (by decide) rfl ?_
        refine q_iinc (w := nI 1) (ls' := [some (.ref v0), some (.int s1), some (.int (s2 + nI 1))]) dX11_empty_46 (by decide) rfl (by decide) rfl ?_
        refine g_goto (t := 9) dX11_empty_49 (by decide) ?_
        refine Go_le ?_ (hin (s1, (s2 + nI 1)) (Option.some.inj h).symm)
        exact And.intro rfl (And.intro rfl (And.intro rfl (trivial)))
      · rw [if_neg c8] at h
        refine g_aload_n dX11_empty_32 rfl ?_
        obtain ⟨x9, ex9, h⟩ := bs h
        refine q_getA dX11_empty_33 fX11_13 ex9 ?_
        refine g_bipush (v := (nI 17)) dX11_empty_36 (by decide) ?_
        refine g_iload_n dX11_empty_38 rfl ?_
        refine g_iadd dX11_empty_39 ?_
        obtain ⟨x10, ex10, h⟩ := bs h
        refine q_iald dX11_empty_40 ex10 ?_
        refine g_goto (t := 45) dX11_empty_41 (by decide) ?_
        refine g_istore_n (ls' := [some (.ref v0), some (.int x10), some (.int s2)]) dX11_empty_45 (by decide) rfl ?_
        refine q_iinc (w := nI 1) (ls' := [some (.ref v0), some (.int x10), some (.int (s2 + nI 1))]) dX11_empty_46 (by decide) rfl (by decide) rfl ?_
        refine g_goto (t := 9) dX11_empty_49 (by decide) ?_
        refine Go_le ?_ (hin (x10, (s2 + nI 1)) (Option.some.inj h).symm)
        exact And.intro rfl (And.intro rfl (And.intro rfl (trivial)))
noncomputable def F_X11_empty (O : mO) (d : Nat) (a0 : Nat) (K : mH) : Option (Int32 × mH) :=
  (ptI K a0 11 0 (nI 0)).bind fun K1 =>
  (lupF (fun (q : Int32 × Int32) => F_X11_empty_l9 O d a0 K1 q.1 q.2) FU ((nI 0), (nI 0))).bind fun r11 =>
  some (r11, K1)
theorem e_X11_empty {O : mO} {d : Nat} {a0 : Nat} {K : mH} {r0 : Int32} {K0 : mH} (h : F_X11_empty O d a0 K = some (r0, K0)) : ev O (d + 1) MX11_empty [.ref a0] K = some (some (.int r0), K0) := by
  refine Rn_evx ?_
  show Go O (d + 1) MX11_empty 0 [some (.ref a0), none, none] [] K _
  generalize hP : (fun (r : Option Value) (K' : mH) => (r, K') = (some (.int r0), K0)) = P
  have hret : ∀ (r : Int32) (K' : mH), (r, K') = (r0, K0) → P (some (.int r)) K' := by
    intro r K' e
    cases e
    subst hP
    rfl
  clear hP
  unfold F_X11_empty at h
  refine g_aload_n dX11_empty_0 rfl ?_
  refine g_iconst (v := (nI 0)) dX11_empty_1 (by decide) ?_
  obtain ⟨K1, eK1, h⟩ := bs h
  refine q_put (c := (RX11, TX11, 56)) dX11_empty_2 fX11_149 rfl rfl rfl (fun h => absurd h (by decide)) eK1 ?_
  refine g_iconst (v := (nI 0)) dX11_empty_5 (by decide) ?_
  refine g_istore_n (ls' := [some (.ref a0), some (.int (nI 0)), none]) dX11_empty_6 (by decide) rfl ?_
  refine g_iconst (v := (nI 0)) dX11_empty_7 (by decide) ?_
  refine g_istore_n (ls' := [some (.ref a0), some (.int (nI 0)), some (.int (nI 0))]) dX11_empty_8 (by decide) rfl ?_
  obtain ⟨r11, er11, h⟩ := bs h
  have hx : Go O (d + 1) MX11_empty 52 [none, some (.int r11), none] [] K1 P := by
    refine g_iload_n dX11_empty_52 rfl ?_
    exact g_ireturn dX11_empty_53 rfl (by first | rfl | decide) (hret _ _ (Option.some.inj h))
  refine Go_le ?_ (e_X11_empty_l9 (fun q e => by cases e; exact hx) FU ((nI 0), (nI 0)) er11)
  exact And.intro rfl (And.intro rfl (And.intro rfl (trivial)))
noncomputable def F_X11_layCosts_j85 (O : mO) (d : Nat) (v0 : Nat) (v1 : Int32) (v2 : Int32) (v3 : Int32) (w0 : Int32) (K : mH) : Option ((Int32 × mH) ⊕ (mH)) :=
  (gtA K v0 11 42).bind fun x20 =>
  (toI (vc O d 11 MX11_pricedAt v0 [.int v3] K)).bind fun p21 =>
  (wrI p21.2 x20 v3 (w0 * p21.1)).bind fun K22 =>
  some (.inl ((v3 + nI 1), K22))
theorem e_X11_layCosts_j85 {O : mO} {d : Nat} {v0 : Nat} {v1 : Int32} {v2 : Int32} {v3 : Int32} {w0 : Int32} {K : mH} {P : Option Value → mH → Prop} {y : (Int32 × mH) ⊕ (mH)} (hin : ∀ q : Int32 × mH, y = .inl q → Go O (d + 1) MX11_layCosts 2 [some (.ref v0), some (.int v1), some (.int v2), some (.int q.1), none, none] [] q.2 P) (hex : ∀ q : mH, y = .inr q → Go O (d + 1) MX11_layCosts 107 [none, none, none, none, none, none] [] q P) (h : F_X11_layCosts_j85 O d v0 v1 v2 v3 w0 K = some y) : Go O (d + 1) MX11_layCosts 85 [some (.ref v0), some (.int v1), some (.int v2), some (.int v3), none, none] [.int w0] K P := by
  unfold F_X11_layCosts_j85 at h
  refine g_istore (ls' := [some (.ref v0), some (.int v1), some (.int v2), some (.int v3), none, some (.int w0)]) dX11_layCosts_85 (by decide) rfl ?_
  refine g_aload_n dX11_layCosts_87 rfl ?_
  obtain ⟨x20, ex20, h⟩ := bs h
  refine q_getA dX11_layCosts_88 fX11_111 ex20 ?_
  refine g_iload_n dX11_layCosts_91 rfl ?_
  refine g_iload dX11_layCosts_92 rfl ?_
  refine g_aload_n dX11_layCosts_94 rfl ?_
  refine g_iload_n dX11_layCosts_95 rfl ?_
  obtain ⟨p21, ep21, h⟩ := bs h
  refine q_virt (Z := MX11_pricedAt) (c := (RX11, TX11, 56)) (toI_s ep21) dX11_layCosts_96 mX11_196.1 mX11_196.2 (Nat.le_of_ble_eq_true rfl) rfl rfl (Nat.le_of_ble_eq_true rfl) (Nat.le_of_ble_eq_true rfl) rfl rfl ?_
  show Go O (d + 1) MX11_layCosts 99 [some (.ref v0), some (.int v1), some (.int v2), some (.int v3), none, some (.int w0)] [.int p21.1, .int w0, .int v3, .ref x20] p21.2 P
  refine g_imul dX11_layCosts_99 ?_
  obtain ⟨K22, eK22, h⟩ := bs h
  refine q_iast dX11_layCosts_100 eK22 ?_
  refine q_iinc (w := nI 1) (ls' := [some (.ref v0), some (.int v1), some (.int v2), some (.int (v3 + nI 1)), none, some (.int w0)]) dX11_layCosts_101 (by decide) rfl (by decide) rfl ?_
  refine g_goto (t := 2) dX11_layCosts_104 (by decide) ?_
  refine Go_le ?_ (hin ((v3 + nI 1), K22) (Option.some.inj h).symm)
  exact And.intro rfl (And.intro rfl (And.intro rfl (And.intro rfl (trivial))))
noncomputable def F_X11_layCosts_l2 (O : mO) (d : Nat) (v0 : Nat) (v1 : Int32) (v2 : Int32) (s3 : Int32) (K : mH) : Option ((Int32 × mH) ⊕ (mH)) :=
  (gtA K v0 11 3).bind fun x1 =>
  (rdI O K x1 (nI 2)).bind fun x2 =>
  if x2 ≤ s3 then
    some (.inr K)
  else
    (gtA K v0 11 42).bind fun x4 =>
    (wrI K x4 s3 (100000000)).bind fun K5 =>
    (toI (vc O d 11 MX11_isIn v0 [.int s3] K5)).bind fun p6 =>
    if p6.1 = 0 then
      some (.inl ((s3 + nI 1), p6.2))
    else
      (gtA p6.2 v0 11 3).bind fun x9 =>
      (rdI O p6.2 x9 ((nI 42) + s3)).bind fun x10 =>
      if x10 = v1 then
        (toI (vc O d 11 MX11_lastsOf v0 [.int s3] p6.2)).bind fun p13 =>
        (gtA p13.2 v0 11 3).bind fun x14 =>
        (rdI O p13.2 x14 ((nI 17) + s3)).bind fun x15 =>
        if x15 < v2 then
          (gtA p13.2 v0 11 3).bind fun x18 =>
          (rdI O p13.2 x18 ((nI 17) + s3)).bind fun x19 =>
          if p13.1 = 0 then none else
          F_X11_layCosts_j85 O d v0 v1 v2 s3 ((((v2 - x19) + p13.1) - (nI 1)) / p13.1) p13.2
        else
          F_X11_layCosts_j85 O d v0 v1 v2 s3 (nI 0) p13.2
      else
        some (.inl ((s3 + nI 1), p6.2))
theorem e_X11_layCosts_l2 {O : mO} {d : Nat} {v0 : Nat} {v1 : Int32} {v2 : Int32} {P : Option Value → mH → Prop} {x : mH} (hex : ∀ q : mH, x = q → Go O (d + 1) MX11_layCosts 107 [none, none, none, none, none, none] [] q P) : ∀ (f : Nat) (q : Int32 × mH), lupF (fun (q : Int32 × mH) => F_X11_layCosts_l2 O d v0 v1 v2 q.1 q.2) f q = some x → Go O (d + 1) MX11_layCosts 2 [some (.ref v0), some (.int v1), some (.int v2), some (.int q.1), none, none] [] q.2 P := by
  intro f
  induction f with
  | zero =>
    intro q h
    cases h
  | succ f ih =>
    intro q h
    obtain ⟨y, h, hy1, hy2⟩ := lupF_s h
    have hin : ∀ q : Int32 × mH, y = .inl q → Go O (d + 1) MX11_layCosts 2 [some (.ref v0), some (.int v1), some (.int v2), some (.int q.1), none, none] [] q.2 P := fun q e => ih q (hy1 q e)
    replace hex : ∀ q : mH, y = .inr q → Go O (d + 1) MX11_layCosts 107 [none, none, none, none, none, none] [] q P := fun q e => hex q (hy2 q e).symm
    clear ih hy1 hy2
    obtain ⟨s3, K⟩ := q
    dsimp only at h ⊢
    unfold F_X11_layCosts_l2 at h
    refine g_iload_n dX11_layCosts_2 rfl ?_
    refine g_aload_n dX11_layCosts_3 rfl ?_
    obtain ⟨x1, ex1, h⟩ := bs h
    refine q_getA dX11_layCosts_4 fX11_13 ex1 ?_
    refine g_iconst (v := (nI 2)) dX11_layCosts_7 (by decide) ?_
    obtain ⟨x2, ex2, h⟩ := bs h
    refine q_iald dX11_layCosts_8 ex2 ?_
    refine g_ic_ge (t := 107) dX11_layCosts_9 (by decide) (fun c3 => ?_) (fun c3 => ?_)
    · rw [if_pos c3] at h
      refine Go_le ?_ (hex K (Option.some.inj h).symm)
      exact trivial
    · rw [if_neg c3] at h
      refine g_aload_n dX11_layCosts_12 rfl ?_
      obtain ⟨x4, ex4, h⟩ := bs h
      refine q_getA dX11_layCosts_13 fX11_111 ex4 ?_
      refine g_iload_n dX11_layCosts_16 rfl ?_
      refine g_ldcwI (v := 100000000) dX11_layCosts_17 iX11_470 ?_
      obtain ⟨K5, eK5, h⟩ := bs h
      refine q_iast dX11_layCosts_20 eK5 ?_
      refine g_aload_n dX11_layCosts_21 rfl ?_
      refine g_iload_n dX11_layCosts_22 rfl ?_
      obtain ⟨p6, ep6, h⟩ := bs h
      refine q_virt (Z := MX11_isIn) (c := (RX11, TX11, 56)) (toI_s ep6) dX11_layCosts_23 mX11_182.1 mX11_182.2 (Nat.le_of_ble_eq_true rfl) rfl rfl (Nat.le_of_ble_eq_true rfl) (Nat.le_of_ble_eq_true rfl) rfl rfl ?_
      show Go O (d + 1) MX11_layCosts 26 [some (.ref v0), some (.int v1), some (.int v2), some (.int s3), none, none] [.int p6.1] p6.2 P
      refine g_if_eq (t := 101) dX11_layCosts_26 (by decide) (fun c8 => ?_) (fun c8 => ?_)
      · rw [if_pos c8] at h
        refine q_iinc (w := nI 1) (ls' := [some (.ref v0), some (.int v1), some (.int v2), some (.int (s3 + nI 1)), none, none]) dX11_layCosts_101 (by decide) rfl (by decide) rfl ?_
        refine g_goto (t := 2) dX11_layCosts_104 (by decide) ?_
        refine Go_le ?_ (hin ((s3 + nI 1), p6.2) (Option.some.inj h).symm)
        exact And.intro rfl (And.intro rfl (And.intro rfl (And.intro rfl (trivial))))
      · rw [if_neg c8] at h
        refine g_aload_n dX11_layCosts_29 rfl ?_
        obtain ⟨x9, ex9, h⟩ := bs h
        refine q_getA dX11_layCosts_30 fX11_13 ex9 ?_
        refine g_bipush (v := (nI 42)) dX11_layCosts_33 (by decide) ?_
        refine g_iload_n dX11_layCosts_35 rfl ?_
        refine g_iadd dX11_layCosts_36 ?_
        obtain ⟨x10, ex10, h⟩ := bs h
        refine q_iald dX11_layCosts_37 ex10 ?_
        refine g_iload_n dX11_layCosts_38 rfl ?_
        refine g_ic_ne (t := 101) dX11_layCosts_39 (by decide) (fun c12 => ?_) (fun c12 => ?_)
        · rw [if_neg c12] at h
          refine q_iinc (w := nI 1) (ls' := [some (.ref v0), some (.int v1), some (.int v2), some (.int (s3 + nI 1)), none, none]) dX11_layCosts_101 (by decide) rfl (by decide) rfl ?_
          refine g_goto (t := 2) dX11_layCosts_104 (by decide) ?_
          refine Go_le ?_ (hin ((s3 + nI 1), p6.2) (Option.some.inj h).symm)
          exact And.intro rfl (And.intro rfl (And.intro rfl (And.intro rfl (trivial))))
        · rw [if_pos c12] at h
          refine g_aload_n dX11_layCosts_42 rfl ?_
          refine g_iload_n dX11_layCosts_43 rfl ?_
          obtain ⟨p13, ep13, h⟩ := bs h
          refine q_virt (Z := MX11_lastsOf) (c := (RX11, TX11, 56)) (toI_s ep13) dX11_layCosts_44 mX11_217.1 mX11_217.2 (Nat.le_of_ble_eq_true rfl) rfl rfl (Nat.le_of_ble_eq_true rfl) (Nat.le_of_ble_eq_true rfl) rfl rfl ?_
          show Go O (d + 1) MX11_layCosts 47 [some (.ref v0), some (.int v1), some (.int v2), some (.int s3), none, none] [.int p13.1] p13.2 P
          refine g_istore (ls' := [some (.ref v0), some (.int v1), some (.int v2), some (.int s3), some (.int p13.1), none]) dX11_layCosts_47 (by decide) rfl ?_
          refine g_aload_n dX11_layCosts_49 rfl ?_
          obtain ⟨x14, ex14, h⟩ := bs h
          refine q_getA dX11_layCosts_50 fX11_13 ex14 ?_
          refine g_bipush (v := (nI 17)) dX11_layCosts_53 (by decide) ?_
          refine g_iload_n dX11_layCosts_55 rfl ?_
          refine g_iadd dX11_layCosts_56 ?_
          obtain ⟨x15, ex15, h⟩ := bs h
          refine q_iald dX11_layCosts_57 ex15 ?_
          refine g_iload_n dX11_layCosts_58 rfl ?_
          refine g_ic_lt (t := 66) dX11_layCosts_59 (by decide) (fun c17 => ?_) (fun c17 => ?_)
          · rw [if_pos c17] at h
            refine g_iload_n dX11_layCosts_66 rfl ?_
            refine g_aload_n dX11_layCosts_67 rfl ?_
            obtain ⟨x18, ex18, h⟩ := bs h
            refine q_getA dX11_layCosts_68 fX11_13 ex18 ?_
            refine g_bipush (v := (nI 17)) dX11_layCosts_71 (by decide) ?_
            refine g_iload_n dX11_layCosts_73 rfl ?_
            refine g_iadd dX11_layCosts_74 ?_
            obtain ⟨x19, ex19, h⟩ := bs h
            refine q_iald dX11_layCosts_75 ex19 ?_
            refine g_isub dX11_layCosts_76 ?_
            refine g_iload dX11_layCosts_77 rfl ?_
            refine g_iadd dX11_layCosts_79 ?_
            refine g_iconst (v := (nI 1)) dX11_layCosts_80 (by decide) ?_
            refine g_isub dX11_layCosts_81 ?_
            refine g_iload dX11_layCosts_82 rfl ?_
            by_cases c23 : p13.1 = 0
            · rw [if_pos c23] at h
              cases h
            rw [if_neg c23] at h
            refine g_idiv dX11_layCosts_84 c23 ?_
            refine Go_le ?_ (e_X11_layCosts_j85 hin hex h)
            exact And.intro rfl (And.intro rfl (And.intro rfl (And.intro rfl (trivial))))
          · rw [if_neg c17] at h
            refine g_iconst (v := (nI 0)) dX11_layCosts_62 (by decide) ?_
            refine g_goto (t := 85) dX11_layCosts_63 (by decide) ?_
            refine Go_le ?_ (e_X11_layCosts_j85 hin hex h)
            exact And.intro rfl (And.intro rfl (And.intro rfl (And.intro rfl (trivial))))
noncomputable def F_X11_layCosts (O : mO) (d : Nat) (a0 : Nat) (a1 : Int32) (a2 : Int32) (K : mH) : Option (mH) :=
  (lupF (fun (q : Int32 × mH) => F_X11_layCosts_l2 O d a0 a1 a2 q.1 q.2) FU ((nI 0), K)).bind fun r24 =>
  some r24
theorem e_X11_layCosts {O : mO} {d : Nat} {a0 : Nat} {a1 : Int32} {a2 : Int32} {K : mH} {x : mH} (h : F_X11_layCosts O d a0 a1 a2 K = some x) : ev O (d + 1) MX11_layCosts [.ref a0, .int a1, .int a2] K = some (none, x) := by
  refine Rn_evx ?_
  show Go O (d + 1) MX11_layCosts 0 [some (.ref a0), some (.int a1), some (.int a2), none, none, none] [] K _
  generalize hP : (fun (r : Option Value) (K' : mH) => (r, K') = (none, x)) = P
  have hret : ∀ K' : mH, K' = x → P none K' := by
    intro K' e
    subst hP e
    rfl
  clear hP
  unfold F_X11_layCosts at h
  refine g_iconst (v := (nI 0)) dX11_layCosts_0 (by decide) ?_
  refine g_istore_n (ls' := [some (.ref a0), some (.int a1), some (.int a2), some (.int (nI 0)), none, none]) dX11_layCosts_1 (by decide) rfl ?_
  obtain ⟨r24, er24, h⟩ := bs h
  have hx : Go O (d + 1) MX11_layCosts 107 [none, none, none, none, none, none] [] r24 P := by
    exact g_return dX11_layCosts_107 rfl (hret _ (Option.some.inj h))
  refine Go_le ?_ (e_X11_layCosts_l2 (fun q e => by cases e; exact hx) FU ((nI 0), K) er24)
  exact And.intro rfl (And.intro rfl (And.intro rfl (And.intro rfl (trivial))))
noncomputable def F_X11_keep_j112 (O : mO) (d : Nat) (v0 : Nat) (v1 : Int32) (v3 : Int32) (v4 : Int32) (v5 : Int32) (v6 : Int32) (v7 : Int32) (v9 : Int32) (w0 : Int32) (w1 : Int32) (K : mH) : Option ((Int32 × Int32 × mH) ⊕ (Int32 × mH)) :=
  some (.inl ((w1 + w0), (v9 + nI 1), K))
theorem e_X11_keep_j112 {O : mO} {d : Nat} {v0 : Nat} {v1 : Int32} {v3 : Int32} {v4 : Int32} {v5 : Int32} {v6 : Int32} {v7 : Int32} {v9 : Int32} {w0 : Int32} {w1 : Int32} {K : mH} {P : Option Value → mH → Prop} {y : (Int32 × Int32 × mH) ⊕ (Int32 × mH)} (hin : ∀ q : Int32 × Int32 × mH, y = .inl q → Go O (d + 1) MX11_keep 78 [some (.ref v0), some (.int v1), none, some (.int v3), some (.int v4), some (.int v5), some (.int v6), some (.int v7), some (.int q.1), some (.int q.2.1)] [] q.2.2 P) (hex : ∀ q : Int32 × mH, y = .inr q → Go O (d + 1) MX11_keep 121 [some (.ref v0), some (.int v1), none, some (.int v3), some (.int v4), some (.int v5), some (.int v6), some (.int v7), some (.int q.1), none] [] q.2 P) (h : F_X11_keep_j112 O d v0 v1 v3 v4 v5 v6 v7 v9 w0 w1 K = some y) : Go O (d + 1) MX11_keep 112 [some (.ref v0), some (.int v1), none, some (.int v3), some (.int v4), some (.int v5), some (.int v6), some (.int v7), none, some (.int v9)] [.int w0, .int w1] K P := by
  unfold F_X11_keep_j112 at h
  refine g_iadd dX11_keep_112 ?_
  refine g_istore (ls' := [some (.ref v0), some (.int v1), none, some (.int v3), some (.int v4), some (.int v5), some (.int v6), some (.int v7), some (.int (w1 + w0)), some (.int v9)]) dX11_keep_113 (by decide) rfl ?_
  refine q_iinc (w := nI 1) (ls' := [some (.ref v0), some (.int v1), none, some (.int v3), some (.int v4), some (.int v5), some (.int v6), some (.int v7), some (.int (w1 + w0)), some (.int (v9 + nI 1))]) dX11_keep_115 (by decide) rfl (by decide) rfl ?_
  refine g_goto (t := 78) dX11_keep_118 (by decide) ?_
  refine Go_le ?_ (hin ((w1 + w0), (v9 + nI 1), K) (Option.some.inj h).symm)
  exact And.intro rfl (And.intro rfl (And.intro rfl (And.intro rfl (And.intro rfl (And.intro rfl (And.intro rfl (And.intro rfl (And.intro rfl (trivial)))))))))
noncomputable def F_X11_keep_l78 (O : mO) (d : Nat) (v0 : Nat) (v1 : Int32) (v3 : Int32) (v4 : Int32) (v5 : Int32) (v6 : Int32) (v7 : Int32) (s8 : Int32) (s9 : Int32) (K : mH) : Option ((Int32 × Int32 × mH) ⊕ (Int32 × mH)) :=
  (gtA K v0 11 3).bind fun x12 =>
  (rdI O K x12 (nI 2)).bind fun x13 =>
  if x13 ≤ s9 then
    some (.inr (s8, K))
  else
    (toI (ev O d MX11_is [.int v7, .int s9] K)).bind fun p15 =>
    if p15.1 = 0 then
      F_X11_keep_j112 O d v0 v1 v3 v4 v5 v6 v7 s9 (nI 0) s8 p15.2
    else
      (gtA p15.2 v0 11 42).bind fun x18 =>
      (rdI O p15.2 x18 s9).bind fun x19 =>
      F_X11_keep_j112 O d v0 v1 v3 v4 v5 v6 v7 s9 x19 s8 p15.2
theorem e_X11_keep_l78 {O : mO} {d : Nat} {v0 : Nat} {v1 : Int32} {v3 : Int32} {v4 : Int32} {v5 : Int32} {v6 : Int32} {v7 : Int32} {P : Option Value → mH → Prop} {x : Int32 × mH} (hex : ∀ q : Int32 × mH, x = q → Go O (d + 1) MX11_keep 121 [some (.ref v0), some (.int v1), none, some (.int v3), some (.int v4), some (.int v5), some (.int v6), some (.int v7), some (.int q.1), none] [] q.2 P) : ∀ (f : Nat) (q : Int32 × Int32 × mH), lupF (fun (q : Int32 × Int32 × mH) => F_X11_keep_l78 O d v0 v1 v3 v4 v5 v6 v7 q.1 q.2.1 q.2.2) f q = some x → Go O (d + 1) MX11_keep 78 [some (.ref v0), some (.int v1), none, some (.int v3), some (.int v4), some (.int v5), some (.int v6), some (.int v7), some (.int q.1), some (.int q.2.1)] [] q.2.2 P := by
  intro f
  induction f with
  | zero =>
    intro q h
    cases h
  | succ f ih =>
    intro q h
    obtain ⟨y, h, hy1, hy2⟩ := lupF_s h
    have hin : ∀ q : Int32 × Int32 × mH, y = .inl q → Go O (d + 1) MX11_keep 78 [some (.ref v0), some (.int v1), none, some (.int v3), some (.int v4), some (.int v5), some (.int v6), some (.int v7), some (.int q.1), some (.int q.2.1)] [] q.2.2 P := fun q e => ih q (hy1 q e)
    replace hex : ∀ q : Int32 × mH, y = .inr q → Go O (d + 1) MX11_keep 121 [some (.ref v0), some (.int v1), none, some (.int v3), some (.int v4), some (.int v5), some (.int v6), some (.int v7), some (.int q.1), none] [] q.2 P := fun q e => hex q (hy2 q e).symm
    clear ih hy1 hy2
    obtain ⟨s8, s9, K⟩ := q
    dsimp only at h ⊢
    unfold F_X11_keep_l78 at h
    refine g_iload dX11_keep_78 rfl ?_
    refine g_aload_n dX11_keep_80 rfl ?_
    obtain ⟨x12, ex12, h⟩ := bs h
    refine q_getA dX11_keep_81 fX11_13 ex12 ?_
    refine g_iconst (v := (nI 2)) dX11_keep_84 (by decide) ?_
    obtain ⟨x13, ex13, h⟩ := bs h
    refine q_iald dX11_keep_85 ex13 ?_
    refine g_ic_ge (t := 121) dX11_keep_86 (by decide) (fun c14 => ?_) (fun c14 => ?_)
    · rw [if_pos c14] at h
      refine Go_le ?_ (hex (s8, K) (Option.some.inj h).symm)
      exact And.intro rfl (And.intro rfl (And.intro rfl (And.intro rfl (And.intro rfl (And.intro rfl (And.intro rfl (And.intro rfl (trivial))))))))
    · rw [if_neg c14] at h
      refine g_iload dX11_keep_89 rfl ?_
      refine g_iload dX11_keep_91 rfl ?_
      refine g_iload dX11_keep_93 rfl ?_
      obtain ⟨p15, ep15, h⟩ := bs h
      refine q_stat (Z := MX11_is) (toI_s ep15) dX11_keep_95 mX11_476.1 mX11_476.2 (Nat.le_of_ble_eq_true rfl) rfl rfl (Nat.le_of_ble_eq_true rfl) (Nat.le_of_ble_eq_true rfl) ?_
      show Go O (d + 1) MX11_keep 98 [some (.ref v0), some (.int v1), none, some (.int v3), some (.int v4), some (.int v5), some (.int v6), some (.int v7), some (.int s8), some (.int s9)] [.int p15.1, .int s8] p15.2 P
      refine g_if_eq (t := 111) dX11_keep_98 (by decide) (fun c17 => ?_) (fun c17 => ?_)
      · rw [if_pos c17] at h
        refine g_iconst (v := (nI 0)) dX11_keep_111 (by decide) ?_
        refine Go_le ?_ (e_X11_keep_j112 hin hex h)
        exact And.intro rfl (And.intro rfl (And.intro rfl (And.intro rfl (And.intro rfl (And.intro rfl (And.intro rfl (And.intro rfl (trivial))))))))
      · rw [if_neg c17] at h
        refine g_aload_n dX11_keep_101 rfl ?_
        obtain ⟨x18, ex18, h⟩ := bs h
        refine q_getA dX11_keep_102 fX11_111 ex18 ?_
        refine g_iload dX11_keep_105 rfl ?_
        obtain ⟨x19, ex19, h⟩ := bs h
        refine q_iald dX11_keep_107 ex19 ?_
        refine g_goto (t := 112) dX11_keep_108 (by decide) ?_
        refine Go_le ?_ (e_X11_keep_j112 hin hex h)
        exact And.intro rfl (And.intro rfl (And.intro rfl (And.intro rfl (And.intro rfl (And.intro rfl (And.intro rfl (And.intro rfl (trivial))))))))
noncomputable def F_X11_keep_j198 (O : mO) (d : Nat) (v0 : Nat) (v1 : Int32) (v3 : Int32) (v5 : Int32) (v6 : Int32) (v7 : Int32) (v8 : Int32) (v9 : Int32) (w0 : Int32) (K : mH) : Option ((Int32 × Int32 × Int32 × Int32 × mH) ⊕ (Int32 × Int32 × Int32 × mH)) :=
  some (.inl (w0, (if v9 = 0 then v5 else v8), v6, (v7 + nI 1), K))
theorem e_X11_keep_j198 {O : mO} {d : Nat} {v0 : Nat} {v1 : Int32} {v3 : Int32} {v5 : Int32} {v6 : Int32} {v7 : Int32} {v8 : Int32} {v9 : Int32} {w0 : Int32} {K : mH} {P : Option Value → mH → Prop} {y : (Int32 × Int32 × Int32 × Int32 × mH) ⊕ (Int32 × Int32 × Int32 × mH)} (hin : ∀ q : Int32 × Int32 × Int32 × Int32 × mH, y = .inl q → Go O (d + 1) MX11_keep 59 [some (.ref v0), some (.int v1), none, some (.int v3), some (.int q.1), some (.int q.2.1), some (.int q.2.2.1), some (.int q.2.2.2.1), none, none] [] q.2.2.2.2 P) (hex : ∀ q : Int32 × Int32 × Int32 × mH, y = .inr q → Go O (d + 1) MX11_keep 220 [none, none, none, some (.int v3), some (.int q.1), some (.int q.2.1), some (.int q.2.2.1), none, none, none] [] q.2.2.2 P) (h : F_X11_keep_j198 O d v0 v1 v3 v5 v6 v7 v8 v9 w0 K = some y) : Go O (d + 1) MX11_keep 198 [some (.ref v0), some (.int v1), none, some (.int v3), none, some (.int v5), some (.int v6), some (.int v7), some (.int v8), some (.int v9)] [.int w0] K P := by
  unfold F_X11_keep_j198 at h
  refine g_istore (ls' := [some (.ref v0), some (.int v1), none, some (.int v3), some (.int w0), some (.int v5), some (.int v6), some (.int v7), some (.int v8), some (.int v9)]) dX11_keep_198 (by decide) rfl ?_
  refine g_iload dX11_keep_200 rfl ?_
  have hj : Go O (d + 1) MX11_keep 212 [some (.ref v0), some (.int v1), none, some (.int v3), some (.int w0), none, some (.int v6), some (.int v7), none, none] [.int (if v9 = 0 then v5 else v8)] K P := by
    refine g_istore (ls' := [some (.ref v0), some (.int v1), none, some (.int v3), some (.int w0), some (.int (if v9 = 0 then v5 else v8)), some (.int v6), some (.int v7), none, none]) dX11_keep_212 (by decide) rfl ?_
    refine q_iinc (w := nI 1) (ls' := [some (.ref v0), some (.int v1), none, some (.int v3), some (.int w0), some (.int (if v9 = 0 then v5 else v8)), some (.int v6), some (.int (v7 + nI 1)), none, none]) dX11_keep_214 (by decide) rfl (by decide) rfl ?_
    refine g_goto (t := 59) dX11_keep_217 (by decide) ?_
    refine Go_le ?_ (hin (w0, (if v9 = 0 then v5 else v8), v6, (v7 + nI 1), K) (Option.some.inj h).symm)
    exact And.intro rfl (And.intro rfl (And.intro rfl (And.intro rfl (And.intro rfl (And.intro rfl (And.intro rfl (trivial)))))))
  refine g_if_eq (t := 210) dX11_keep_202 (by decide) (fun c28 => ?_) (fun c28 => ?_)
  · skip
    refine g_iload dX11_keep_210 rfl ?_
    have hk : Go O (d + 1) MX11_keep 212 [some (.ref v0), some (.int v1), none, some (.int v3), some (.int w0), none, some (.int v6), some (.int v7), none, none] [.int v5] K P := by simpa only [if_pos c28] using hj
    refine Go_le ?_ hk
    exact And.intro rfl (And.intro rfl (And.intro rfl (And.intro rfl (And.intro rfl (And.intro rfl (trivial))))))
  · skip
    refine g_iload dX11_keep_205 rfl ?_
    refine g_goto (t := 212) dX11_keep_207 (by decide) ?_
    have hk : Go O (d + 1) MX11_keep 212 [some (.ref v0), some (.int v1), none, some (.int v3), some (.int w0), none, some (.int v6), some (.int v7), none, none] [.int v8] K P := by simpa only [if_neg c28] using hj
    refine Go_le ?_ hk
    exact And.intro rfl (And.intro rfl (And.intro rfl (And.intro rfl (And.intro rfl (And.intro rfl (trivial))))))
noncomputable def F_X11_keep_j167 (O : mO) (d : Nat) (v0 : Nat) (v1 : Int32) (v3 : Int32) (v4 : Int32) (v5 : Int32) (v6 : Int32) (v7 : Int32) (v8 : Int32) (w0 : Int32) (K : mH) : Option ((Int32 × Int32 × Int32 × Int32 × mH) ⊕ (Int32 × Int32 × Int32 × mH)) :=
  if w0 = 0 then
    F_X11_keep_j198 O d v0 v1 v3 v5 (if w0 = 0 then v6 else v7) v7 v8 w0 v4 K
  else
    (toI (ev O d MX11_ones [.int v7] K)).bind fun p29 =>
    F_X11_keep_j198 O d v0 v1 v3 v5 (if w0 = 0 then v6 else v7) v7 v8 w0 p29.1 p29.2
theorem e_X11_keep_j167 {O : mO} {d : Nat} {v0 : Nat} {v1 : Int32} {v3 : Int32} {v4 : Int32} {v5 : Int32} {v6 : Int32} {v7 : Int32} {v8 : Int32} {w0 : Int32} {K : mH} {P : Option Value → mH → Prop} {y : (Int32 × Int32 × Int32 × Int32 × mH) ⊕ (Int32 × Int32 × Int32 × mH)} (hin : ∀ q : Int32 × Int32 × Int32 × Int32 × mH, y = .inl q → Go O (d + 1) MX11_keep 59 [some (.ref v0), some (.int v1), none, some (.int v3), some (.int q.1), some (.int q.2.1), some (.int q.2.2.1), some (.int q.2.2.2.1), none, none] [] q.2.2.2.2 P) (hex : ∀ q : Int32 × Int32 × Int32 × mH, y = .inr q → Go O (d + 1) MX11_keep 220 [none, none, none, some (.int v3), some (.int q.1), some (.int q.2.1), some (.int q.2.2.1), none, none, none] [] q.2.2.2 P) (h : F_X11_keep_j167 O d v0 v1 v3 v4 v5 v6 v7 v8 w0 K = some y) : Go O (d + 1) MX11_keep 167 [some (.ref v0), some (.int v1), none, some (.int v3), some (.int v4), some (.int v5), some (.int v6), some (.int v7), some (.int v8), none] [.int w0] K P := by
  unfold F_X11_keep_j167 at h
  refine g_istore (ls' := [some (.ref v0), some (.int v1), none, some (.int v3), some (.int v4), some (.int v5), some (.int v6), some (.int v7), some (.int v8), some (.int w0)]) dX11_keep_167 (by decide) rfl ?_
  refine g_iload dX11_keep_169 rfl ?_
  have hj : Go O (d + 1) MX11_keep 181 [some (.ref v0), some (.int v1), none, some (.int v3), some (.int v4), some (.int v5), none, some (.int v7), some (.int v8), some (.int w0)] [.int (if w0 = 0 then v6 else v7)] K P := by
    refine g_istore (ls' := [some (.ref v0), some (.int v1), none, some (.int v3), some (.int v4), some (.int v5), some (.int (if w0 = 0 then v6 else v7)), some (.int v7), some (.int v8), some (.int w0)]) dX11_keep_181 (by decide) rfl ?_
    refine g_iload dX11_keep_183 rfl ?_
    refine g_if_eq (t := 196) dX11_keep_185 (by decide) (fun c27 => ?_) (fun c27 => ?_)
    · rw [if_pos c27] at h
      refine g_iload dX11_keep_196 rfl ?_
      refine Go_le ?_ (e_X11_keep_j198 hin hex h)
      exact And.intro rfl (And.intro rfl (And.intro rfl (And.intro rfl (And.intro rfl (And.intro rfl (And.intro rfl (And.intro rfl (trivial))))))))
    · rw [if_neg c27] at h
      refine g_iload dX11_keep_188 rfl ?_
      obtain ⟨p29, ep29, h⟩ := bs h
      refine q_stat (Z := MX11_ones) (toI_s ep29) dX11_keep_190 mX11_179.1 mX11_179.2 (Nat.le_of_ble_eq_true rfl) rfl rfl (Nat.le_of_ble_eq_true rfl) (Nat.le_of_ble_eq_true rfl) ?_
      show Go O (d + 1) MX11_keep 193 [some (.ref v0), some (.int v1), none, some (.int v3), some (.int v4), some (.int v5), some (.int (if w0 = 0 then v6 else v7)), some (.int v7), some (.int v8), some (.int w0)] [.int p29.1] p29.2 P
      refine g_goto (t := 198) dX11_keep_193 (by decide) ?_
      refine Go_le ?_ (e_X11_keep_j198 hin hex h)
      exact And.intro rfl (And.intro rfl (And.intro rfl (And.intro rfl (And.intro rfl (And.intro rfl (And.intro rfl (And.intro rfl (trivial))))))))
  refine g_if_eq (t := 179) dX11_keep_171 (by decide) (fun c25 => ?_) (fun c25 => ?_)
  · skip
    refine g_iload dX11_keep_179 rfl ?_
    have hk : Go O (d + 1) MX11_keep 181 [some (.ref v0), some (.int v1), none, some (.int v3), some (.int v4), some (.int v5), none, some (.int v7), some (.int v8), some (.int w0)] [.int v6] K P := by simpa only [if_pos c25] using hj
    refine Go_le ?_ hk
    exact And.intro rfl (And.intro rfl (And.intro rfl (And.intro rfl (And.intro rfl (And.intro rfl (And.intro rfl (And.intro rfl (trivial))))))))
  · skip
    refine g_iload dX11_keep_174 rfl ?_
    refine g_goto (t := 181) dX11_keep_176 (by decide) ?_
    have hk : Go O (d + 1) MX11_keep 181 [some (.ref v0), some (.int v1), none, some (.int v3), some (.int v4), some (.int v5), none, some (.int v7), some (.int v8), some (.int w0)] [.int v7] K P := by simpa only [if_neg c25] using hj
    refine Go_le ?_ hk
    exact And.intro rfl (And.intro rfl (And.intro rfl (And.intro rfl (And.intro rfl (And.intro rfl (And.intro rfl (And.intro rfl (trivial))))))))
noncomputable def F_X11_keep_j166 (O : mO) (d : Nat) (v0 : Nat) (v1 : Int32) (v3 : Int32) (v4 : Int32) (v5 : Int32) (v6 : Int32) (v7 : Int32) (v8 : Int32) (K : mH) : Option ((Int32 × Int32 × Int32 × Int32 × mH) ⊕ (Int32 × Int32 × Int32 × mH)) :=
  F_X11_keep_j167 O d v0 v1 v3 v4 v5 v6 v7 v8 (nI 0) K
theorem e_X11_keep_j166 {O : mO} {d : Nat} {v0 : Nat} {v1 : Int32} {v3 : Int32} {v4 : Int32} {v5 : Int32} {v6 : Int32} {v7 : Int32} {v8 : Int32} {K : mH} {P : Option Value → mH → Prop} {y : (Int32 × Int32 × Int32 × Int32 × mH) ⊕ (Int32 × Int32 × Int32 × mH)} (hin : ∀ q : Int32 × Int32 × Int32 × Int32 × mH, y = .inl q → Go O (d + 1) MX11_keep 59 [some (.ref v0), some (.int v1), none, some (.int v3), some (.int q.1), some (.int q.2.1), some (.int q.2.2.1), some (.int q.2.2.2.1), none, none] [] q.2.2.2.2 P) (hex : ∀ q : Int32 × Int32 × Int32 × mH, y = .inr q → Go O (d + 1) MX11_keep 220 [none, none, none, some (.int v3), some (.int q.1), some (.int q.2.1), some (.int q.2.2.1), none, none, none] [] q.2.2.2 P) (h : F_X11_keep_j166 O d v0 v1 v3 v4 v5 v6 v7 v8 K = some y) : Go O (d + 1) MX11_keep 166 [some (.ref v0), some (.int v1), none, some (.int v3), some (.int v4), some (.int v5), some (.int v6), some (.int v7), some (.int v8), none] [] K P := by
  unfold F_X11_keep_j166 at h
  refine g_iconst (v := (nI 0)) dX11_keep_166 (by decide) ?_
  refine Go_le ?_ (e_X11_keep_j167 hin hex h)
  exact And.intro rfl (And.intro rfl (And.intro rfl (And.intro rfl (And.intro rfl (And.intro rfl (And.intro rfl (And.intro rfl (trivial))))))))
noncomputable def F_X11_keep_j162 (O : mO) (d : Nat) (v0 : Nat) (v1 : Int32) (v3 : Int32) (v4 : Int32) (v5 : Int32) (v6 : Int32) (v7 : Int32) (v8 : Int32) (K : mH) : Option ((Int32 × Int32 × Int32 × Int32 × mH) ⊕ (Int32 × Int32 × Int32 × mH)) :=
  F_X11_keep_j167 O d v0 v1 v3 v4 v5 v6 v7 v8 (nI 1) K
theorem e_X11_keep_j162 {O : mO} {d : Nat} {v0 : Nat} {v1 : Int32} {v3 : Int32} {v4 : Int32} {v5 : Int32} {v6 : Int32} {v7 : Int32} {v8 : Int32} {K : mH} {P : Option Value → mH → Prop} {y : (Int32 × Int32 × Int32 × Int32 × mH) ⊕ (Int32 × Int32 × Int32 × mH)} (hin : ∀ q : Int32 × Int32 × Int32 × Int32 × mH, y = .inl q → Go O (d + 1) MX11_keep 59 [some (.ref v0), some (.int v1), none, some (.int v3), some (.int q.1), some (.int q.2.1), some (.int q.2.2.1), some (.int q.2.2.2.1), none, none] [] q.2.2.2.2 P) (hex : ∀ q : Int32 × Int32 × Int32 × mH, y = .inr q → Go O (d + 1) MX11_keep 220 [none, none, none, some (.int v3), some (.int q.1), some (.int q.2.1), some (.int q.2.2.1), none, none, none] [] q.2.2.2 P) (h : F_X11_keep_j162 O d v0 v1 v3 v4 v5 v6 v7 v8 K = some y) : Go O (d + 1) MX11_keep 162 [some (.ref v0), some (.int v1), none, some (.int v3), some (.int v4), some (.int v5), some (.int v6), some (.int v7), some (.int v8), none] [] K P := by
  unfold F_X11_keep_j162 at h
  refine g_iconst (v := (nI 1)) dX11_keep_162 (by decide) ?_
  refine g_goto (t := 167) dX11_keep_163 (by decide) ?_
  refine Go_le ?_ (e_X11_keep_j167 hin hex h)
  exact And.intro rfl (And.intro rfl (And.intro rfl (And.intro rfl (And.intro rfl (And.intro rfl (And.intro rfl (And.intro rfl (trivial))))))))
noncomputable def F_X11_keep_l59 (O : mO) (d : Nat) (v0 : Nat) (v1 : Int32) (v3 : Int32) (s4 : Int32) (s5 : Int32) (s6 : Int32) (s7 : Int32) (K : mH) : Option ((Int32 × Int32 × Int32 × Int32 × mH) ⊕ (Int32 × Int32 × Int32 × mH)) :=
  (gtA K v0 11 3).bind fun x9 =>
  (rdI O K x9 (nI 2)).bind fun x10 =>
  if ((nI 1) <<< (x10 &&& 31)) ≤ s7 then
    some (.inr (s4, s5, s6, K))
  else
    (lupF (fun (q : Int32 × Int32 × mH) => F_X11_keep_l78 O d v0 v1 v3 s4 s5 s6 s7 q.1 q.2.1 q.2.2) FU ((nI 0), (nI 0), K)).bind fun r20 =>
    (gtA r20.2 v0 11 3).bind fun x21 =>
    (rdI O r20.2 x21 ((nI 33) + v1)).bind fun x22 =>
    if x22 < r20.1 then
      F_X11_keep_j166 O d v0 v1 v3 s4 s5 s6 s7 r20.1 r20.2
    else
      (toI (ev O d MX11_ones [.int s7] r20.2)).bind fun p30 =>
      if s4 < p30.1 then
        F_X11_keep_j162 O d v0 v1 v3 s4 s5 s6 s7 r20.1 p30.2
      else
        (toI (ev O d MX11_ones [.int s7] p30.2)).bind fun p33 =>
        if (if p33.1 = s4 then (if s5 ≤ r20.1 then (nI 0) else (nI 1)) else (nI 0)) = 0 then
          F_X11_keep_j198 O d v0 v1 v3 s5 (if (if p33.1 = s4 then (if s5 ≤ r20.1 then (nI 0) else (nI 1)) else (nI 0)) = 0 then s6 else s7) s7 r20.1 (if p33.1 = s4 then (if s5 ≤ r20.1 then (nI 0) else (nI 1)) else (nI 0)) s4 p33.2
        else
          (toI (ev O d MX11_ones [.int s7] p33.2)).bind fun p39 =>
          F_X11_keep_j198 O d v0 v1 v3 s5 (if (if p33.1 = s4 then (if s5 ≤ r20.1 then (nI 0) else (nI 1)) else (nI 0)) = 0 then s6 else s7) s7 r20.1 (if p33.1 = s4 then (if s5 ≤ r20.1 then (nI 0) else (nI 1)) else (nI 0)) p39.1 p39.2
theorem e_X11_keep_l59 {O : mO} {d : Nat} {v0 : Nat} {v1 : Int32} {v3 : Int32} {P : Option Value → mH → Prop} {x : Int32 × Int32 × Int32 × mH} (hex : ∀ q : Int32 × Int32 × Int32 × mH, x = q → Go O (d + 1) MX11_keep 220 [none, none, none, some (.int v3), some (.int q.1), some (.int q.2.1), some (.int q.2.2.1), none, none, none] [] q.2.2.2 P) : ∀ (f : Nat) (q : Int32 × Int32 × Int32 × Int32 × mH), lupF (fun (q : Int32 × Int32 × Int32 × Int32 × mH) => F_X11_keep_l59 O d v0 v1 v3 q.1 q.2.1 q.2.2.1 q.2.2.2.1 q.2.2.2.2) f q = some x → Go O (d + 1) MX11_keep 59 [some (.ref v0), some (.int v1), none, some (.int v3), some (.int q.1), some (.int q.2.1), some (.int q.2.2.1), some (.int q.2.2.2.1), none, none] [] q.2.2.2.2 P := by
  intro f
  induction f with
  | zero =>
    intro q h
    cases h
  | succ f ih =>
    intro q h
    obtain ⟨y, h, hy1, hy2⟩ := lupF_s h
    have hin : ∀ q : Int32 × Int32 × Int32 × Int32 × mH, y = .inl q → Go O (d + 1) MX11_keep 59 [some (.ref v0), some (.int v1), none, some (.int v3), some (.int q.1), some (.int q.2.1), some (.int q.2.2.1), some (.int q.2.2.2.1), none, none] [] q.2.2.2.2 P := fun q e => ih q (hy1 q e)
    replace hex : ∀ q : Int32 × Int32 × Int32 × mH, y = .inr q → Go O (d + 1) MX11_keep 220 [none, none, none, some (.int v3), some (.int q.1), some (.int q.2.1), some (.int q.2.2.1), none, none, none] [] q.2.2.2 P := fun q e => hex q (hy2 q e).symm
    clear ih hy1 hy2
    obtain ⟨s4, s5, s6, s7, K⟩ := q
    dsimp only at h ⊢
    unfold F_X11_keep_l59 at h
    refine g_iload dX11_keep_59 rfl ?_
    refine g_iconst (v := (nI 1)) dX11_keep_61 (by decide) ?_
    refine g_aload_n dX11_keep_62 rfl ?_
    obtain ⟨x9, ex9, h⟩ := bs h
    refine q_getA dX11_keep_63 fX11_13 ex9 ?_
    refine g_iconst (v := (nI 2)) dX11_keep_66 (by decide) ?_
    obtain ⟨x10, ex10, h⟩ := bs h
    refine q_iald dX11_keep_67 ex10 ?_
    refine g_ishl dX11_keep_68 ?_
    refine g_ic_ge (t := 220) dX11_keep_69 (by decide) (fun c11 => ?_) (fun c11 => ?_)
    · rw [if_pos c11] at h
      refine Go_le ?_ (hex (s4, s5, s6, K) (Option.some.inj h).symm)
      exact And.intro rfl (And.intro rfl (And.intro rfl (And.intro rfl (trivial))))
    · rw [if_neg c11] at h
      refine g_iconst (v := (nI 0)) dX11_keep_72 (by decide) ?_
      refine g_istore (ls' := [some (.ref v0), some (.int v1), none, some (.int v3), some (.int s4), some (.int s5), some (.int s6), some (.int s7), some (.int (nI 0)), none]) dX11_keep_73 (by decide) rfl ?_
      refine g_iconst (v := (nI 0)) dX11_keep_75 (by decide) ?_
      refine g_istore (ls' := [some (.ref v0), some (.int v1), none, some (.int v3), some (.int s4), some (.int s5), some (.int s6), some (.int s7), some (.int (nI 0)), some (.int (nI 0))]) dX11_keep_76 (by decide) rfl ?_
      obtain ⟨r20, er20, h⟩ := bs h
      have hx : Go O (d + 1) MX11_keep 121 [some (.ref v0), some (.int v1), none, some (.int v3), some (.int s4), some (.int s5), some (.int s6), some (.int s7), some (.int r20.1), none] [] r20.2 P := by
        refine g_iload dX11_keep_121 rfl ?_
        refine g_aload_n dX11_keep_123 rfl ?_
        obtain ⟨x21, ex21, h⟩ := bs h
        refine q_getA dX11_keep_124 fX11_13 ex21 ?_
        refine g_bipush (v := (nI 33)) dX11_keep_127 (by decide) ?_
        refine g_iload_n dX11_keep_129 rfl ?_
        refine g_iadd dX11_keep_130 ?_
        obtain ⟨x22, ex22, h⟩ := bs h
        refine q_iald dX11_keep_131 ex22 ?_
        refine g_ic_gt (t := 166) dX11_keep_132 (by decide) (fun c24 => ?_) (fun c24 => ?_)
        · rw [if_pos c24] at h
          refine Go_le ?_ (e_X11_keep_j166 hin hex h)
          exact And.intro rfl (And.intro rfl (And.intro rfl (And.intro rfl (And.intro rfl (And.intro rfl (And.intro rfl (And.intro rfl (trivial))))))))
        · rw [if_neg c24] at h
          refine g_iload dX11_keep_135 rfl ?_
          obtain ⟨p30, ep30, h⟩ := bs h
          refine q_stat (Z := MX11_ones) (toI_s ep30) dX11_keep_137 mX11_179.1 mX11_179.2 (Nat.le_of_ble_eq_true rfl) rfl rfl (Nat.le_of_ble_eq_true rfl) (Nat.le_of_ble_eq_true rfl) ?_
          show Go O (d + 1) MX11_keep 140 [some (.ref v0), some (.int v1), none, some (.int v3), some (.int s4), some (.int s5), some (.int s6), some (.int s7), some (.int r20.1), none] [.int p30.1] p30.2 P
          refine g_iload dX11_keep_140 rfl ?_
          refine g_ic_gt (t := 162) dX11_keep_142 (by decide) (fun c32 => ?_) (fun c32 => ?_)
          · rw [if_pos c32] at h
            refine Go_le ?_ (e_X11_keep_j162 hin hex h)
            exact And.intro rfl (And.intro rfl (And.intro rfl (And.intro rfl (And.intro rfl (And.intro rfl (And.intro rfl (And.intro rfl (trivial))))))))
          · rw [if_neg c32] at h
            refine g_iload dX11_keep_145 rfl ?_
            obtain ⟨p33, ep33, h⟩ := bs h
            refine q_stat (Z := MX11_ones) (toI_s ep33) dX11_keep_147 mX11_179.1 mX11_179.2 (Nat.le_of_ble_eq_true rfl) rfl rfl (Nat.le_of_ble_eq_true rfl) (Nat.le_of_ble_eq_true rfl) ?_
            show Go O (d + 1) MX11_keep 150 [some (.ref v0), some (.int v1), none, some (.int v3), some (.int s4), some (.int s5), some (.int s6), some (.int s7), some (.int r20.1), none] [.int p33.1] p33.2 P
            refine g_iload dX11_keep_150 rfl ?_
            have hj : Go O (d + 1) MX11_keep 167 [some (.ref v0), some (.int v1), none, some (.int v3), some (.int s4), some (.int s5), some (.int s6), some (.int s7), some (.int r20.1), none] [.int (if p33.1 = s4 then (if s5 ≤ r20.1 then (nI 0) else (nI 1)) else (nI 0))] p33.2 P := by
              refine g_istore (ls' := [some (.ref v0), some (.int v1), none, some (.int v3), some (.int s4), some (.int s5), some (.int s6), some (.int s7), some (.int r20.1), some (.int (if p33.1 = s4 then (if s5 ≤ r20.1 then (nI 0) else (nI 1)) else (nI 0)))]) dX11_keep_167 (by decide) rfl ?_
              refine g_iload dX11_keep_169 rfl ?_
              have hj : Go O (d + 1) MX11_keep 181 [some (.ref v0), some (.int v1), none, some (.int v3), some (.int s4), some (.int s5), none, some (.int s7), some (.int r20.1), some (.int (if p33.1 = s4 then (if s5 ≤ r20.1 then (nI 0) else (nI 1)) else (nI 0)))] [.int (if (if p33.1 = s4 then (if s5 ≤ r20.1 then (nI 0) else (nI 1)) else (nI 0)) = 0 then s6 else s7)] p33.2 P := by
                refine g_istore (ls' := [some (.ref v0), some (.int v1), none, some (.int v3), some (.int s4), some (.int s5), some (.int (if (if p33.1 = s4 then (if s5 ≤ r20.1 then (nI 0) else (nI 1)) else (nI 0)) = 0 then s6 else s7)), some (.int s7), some (.int r20.1), some (.int (if p33.1 = s4 then (if s5 ≤ r20.1 then (nI 0) else (nI 1)) else (nI 0)))]) dX11_keep_181 (by decide) rfl ?_
                refine g_iload dX11_keep_183 rfl ?_
                refine g_if_eq (t := 196) dX11_keep_185 (by decide) (fun c38 => ?_) (fun c38 => ?_)
                · rw [if_pos c38] at h
                  refine g_iload dX11_keep_196 rfl ?_
                  refine Go_le ?_ (e_X11_keep_j198 hin hex h)
                  exact And.intro rfl (And.intro rfl (And.intro rfl (And.intro rfl (And.intro rfl (And.intro rfl (And.intro rfl (And.intro rfl (trivial))))))))
                · rw [if_neg c38] at h
                  refine g_iload dX11_keep_188 rfl ?_
                  obtain ⟨p39, ep39, h⟩ := bs h
                  refine q_stat (Z := MX11_ones) (toI_s ep39) dX11_keep_190 mX11_179.1 mX11_179.2 (Nat.le_of_ble_eq_true rfl) rfl rfl (Nat.le_of_ble_eq_true rfl) (Nat.le_of_ble_eq_true rfl) ?_
                  show Go O (d + 1) MX11_keep 193 [some (.ref v0), some (.int v1), none, some (.int v3), some (.int s4), some (.int s5), some (.int (if (if p33.1 = s4 then (if s5 ≤ r20.1 then (nI 0) else (nI 1)) else (nI 0)) = 0 then s6 else s7)), some (.int s7), some (.int r20.1), some (.int (if p33.1 = s4 then (if s5 ≤ r20.1 then (nI 0) else (nI 1)) else (nI 0)))] [.int p39.1] p39.2 P
                  refine g_goto (t := 198) dX11_keep_193 (by decide) ?_
                  refine Go_le ?_ (e_X11_keep_j198 hin hex h)
                  exact And.intro rfl (And.intro rfl (And.intro rfl (And.intro rfl (And.intro rfl (And.intro rfl (And.intro rfl (And.intro rfl (trivial))))))))
              refine g_if_eq (t := 179) dX11_keep_171 (by decide) (fun c36 => ?_) (fun c36 => ?_)
              · skip
                refine g_iload dX11_keep_179 rfl ?_
                have hk : Go O (d + 1) MX11_keep 181 [some (.ref v0), some (.int v1), none, some (.int v3), some (.int s4), some (.int s5), none, some (.int s7), some (.int r20.1), some (.int (if p33.1 = s4 then (if s5 ≤ r20.1 then (nI 0) else (nI 1)) else (nI 0)))] [.int s6] p33.2 P := by simpa only [if_pos c36] using hj
                refine Go_le ?_ hk
                exact And.intro rfl (And.intro rfl (And.intro rfl (And.intro rfl (And.intro rfl (And.intro rfl (And.intro rfl (And.intro rfl (trivial))))))))
              · skip
                refine g_iload dX11_keep_174 rfl ?_
                refine g_goto (t := 181) dX11_keep_176 (by decide) ?_
                have hk : Go O (d + 1) MX11_keep 181 [some (.ref v0), some (.int v1), none, some (.int v3), some (.int s4), some (.int s5), none, some (.int s7), some (.int r20.1), some (.int (if p33.1 = s4 then (if s5 ≤ r20.1 then (nI 0) else (nI 1)) else (nI 0)))] [.int s7] p33.2 P := by simpa only [if_neg c36] using hj
                refine Go_le ?_ hk
                exact And.intro rfl (And.intro rfl (And.intro rfl (And.intro rfl (And.intro rfl (And.intro rfl (And.intro rfl (And.intro rfl (trivial))))))))
            refine g_ic_ne (t := 166) dX11_keep_152 (by decide) (fun c34 => ?_) (fun c34 => ?_)
            · skip
              refine g_iconst (v := (nI 0)) dX11_keep_166 (by decide) ?_
              have hk : Go O (d + 1) MX11_keep 167 [some (.ref v0), some (.int v1), none, some (.int v3), some (.int s4), some (.int s5), some (.int s6), some (.int s7), some (.int r20.1), none] [.int (nI 0)] p33.2 P := by simpa only [if_neg c34] using hj
              refine Go_le ?_ hk
              exact And.intro rfl (And.intro rfl (And.intro rfl (And.intro rfl (And.intro rfl (And.intro rfl (And.intro rfl (And.intro rfl (trivial))))))))
            · skip
              refine g_iload dX11_keep_155 rfl ?_
              refine g_iload dX11_keep_157 rfl ?_
              refine g_ic_ge (t := 166) dX11_keep_159 (by decide) (fun c35 => ?_) (fun c35 => ?_)
              · skip
                refine g_iconst (v := (nI 0)) dX11_keep_166 (by decide) ?_
                have hk : Go O (d + 1) MX11_keep 167 [some (.ref v0), some (.int v1), none, some (.int v3), some (.int s4), some (.int s5), some (.int s6), some (.int s7), some (.int r20.1), none] [.int (nI 0)] p33.2 P := by simpa only [if_pos c34, if_pos c35] using hj
                refine Go_le ?_ hk
                exact And.intro rfl (And.intro rfl (And.intro rfl (And.intro rfl (And.intro rfl (And.intro rfl (And.intro rfl (And.intro rfl (trivial))))))))
              · skip
                refine g_iconst (v := (nI 1)) dX11_keep_162 (by decide) ?_
                refine g_goto (t := 167) dX11_keep_163 (by decide) ?_
                have hk : Go O (d + 1) MX11_keep 167 [some (.ref v0), some (.int v1), none, some (.int v3), some (.int s4), some (.int s5), some (.int s6), some (.int s7), some (.int r20.1), none] [.int (nI 1)] p33.2 P := by simpa only [if_pos c34, if_neg c35] using hj
                refine Go_le ?_ hk
                exact And.intro rfl (And.intro rfl (And.intro rfl (And.intro rfl (And.intro rfl (And.intro rfl (And.intro rfl (And.intro rfl (trivial))))))))
      refine Go_le ?_ (e_X11_keep_l78 (fun q e => by cases e; exact hx) FU ((nI 0), (nI 0), K) er20)
      exact And.intro rfl (And.intro rfl (And.intro rfl (And.intro rfl (And.intro rfl (And.intro rfl (And.intro rfl (And.intro rfl (And.intro rfl (trivial)))))))))
noncomputable def F_X11_keep (O : mO) (d : Nat) (a0 : Nat) (a1 : Int32) (a2 : Int32) (a3 : Int32) (K : mH) : Option (Int32 × mH) :=
  (ptI K a0 11 0 (nI 0)).bind fun K1 =>
  (toI (vc O d 11 MX11_isFamily a0 [.int a1] K1)).bind fun p2 =>
  if p2.1 = 0 then
    some ((-1), p2.2)
  else
    (toI (ev O d MX11_in [.long a2.toInt64, .long 1, .long (99)] p2.2)).bind fun p4 =>
    if p4.1 = 0 then
      some ((-1), p4.2)
    else
      (toI (ev O d MX11_in [.long a3.toInt64, .long 0, .long (2)] p4.2)).bind fun p6 =>
      if p6.1 = 0 then
        some ((-1), p6.2)
      else
        (toV (vc O d 11 MX11_layCosts a0 [.int a1, .int a2] p6.2)).bind fun K8 =>
        (lupF (fun (q : Int32 × Int32 × Int32 × Int32 × mH) => F_X11_keep_l59 O d a0 a1 a3 q.1 q.2.1 q.2.2.1 q.2.2.2.1 q.2.2.2.2) FU ((-1), (100000000), (nI 0), (nI 0), K8)).bind fun r40 =>
        some ((if a3 = 0 then r40.1 else (if a3 = (nI 1) then r40.2.1 else r40.2.2.1)), r40.2.2.2)
theorem e_X11_keep {O : mO} {d : Nat} {a0 : Nat} {a1 : Int32} {a2 : Int32} {a3 : Int32} {K : mH} {r0 : Int32} {K0 : mH} (h : F_X11_keep O d a0 a1 a2 a3 K = some (r0, K0)) : ev O (d + 1) MX11_keep [.ref a0, .int a1, .int a2, .int a3] K = some (some (.int r0), K0) := by
  refine Rn_evx ?_
  show Go O (d + 1) MX11_keep 0 [some (.ref a0), some (.int a1), some (.int a2), some (.int a3), none, none, none, none, none, none] [] K _
  generalize hP : (fun (r : Option Value) (K' : mH) => (r, K') = (some (.int r0), K0)) = P
  have hret : ∀ (r : Int32) (K' : mH), (r, K') = (r0, K0) → P (some (.int r)) K' := by
    intro r K' e
    cases e
    subst hP
    rfl
  clear hP
  unfold F_X11_keep at h
  refine g_aload_n dX11_keep_0 rfl ?_
  refine g_iconst (v := (nI 0)) dX11_keep_1 (by decide) ?_
  obtain ⟨K1, eK1, h⟩ := bs h
  refine q_put (c := (RX11, TX11, 56)) dX11_keep_2 fX11_149 rfl rfl rfl (fun h => absurd h (by decide)) eK1 ?_
  refine g_aload_n dX11_keep_5 rfl ?_
  refine g_iload_n dX11_keep_6 rfl ?_
  obtain ⟨p2, ep2, h⟩ := bs h
  refine q_virt (Z := MX11_isFamily) (c := (RX11, TX11, 56)) (toI_s ep2) dX11_keep_7 mX11_199.1 mX11_199.2 (Nat.le_of_ble_eq_true rfl) rfl rfl (Nat.le_of_ble_eq_true rfl) (Nat.le_of_ble_eq_true rfl) rfl rfl ?_
  show Go O (d + 1) MX11_keep 10 [some (.ref a0), some (.int a1), some (.int a2), some (.int a3), none, none, none, none, none, none] [.int p2.1] p2.2 P
  refine g_if_eq (t := 37) dX11_keep_10 (by decide) (fun c3 => ?_) (fun c3 => ?_)
  · rw [if_pos c3] at h
    refine g_iconst (v := (-1)) dX11_keep_37 (by decide) ?_
    exact g_ireturn dX11_keep_38 rfl (by first | rfl | decide) (hret _ _ (Option.some.inj h))
  · rw [if_neg c3] at h
    refine g_iload_n dX11_keep_13 rfl ?_
    refine g_i2l dX11_keep_14 ?_
    refine g_lconst (v := 1) dX11_keep_15 (by decide) ?_
    refine g_ldc2 (v := 99) dX11_keep_16 lX11_208 ?_
    obtain ⟨p4, ep4, h⟩ := bs h
    refine q_stat (Z := MX11_in) (toI_s ep4) dX11_keep_19 mX11_169.1 mX11_169.2 (Nat.le_of_ble_eq_true rfl) rfl rfl (Nat.le_of_ble_eq_true rfl) (Nat.le_of_ble_eq_true rfl) ?_
    show Go O (d + 1) MX11_keep 22 [some (.ref a0), some (.int a1), some (.int a2), some (.int a3), none, none, none, none, none, none] [.int p4.1] p4.2 P
    refine g_if_eq (t := 37) dX11_keep_22 (by decide) (fun c5 => ?_) (fun c5 => ?_)
    · rw [if_pos c5] at h
      refine g_iconst (v := (-1)) dX11_keep_37 (by decide) ?_
      exact g_ireturn dX11_keep_38 rfl (by first | rfl | decide) (hret _ _ (Option.some.inj h))
    · rw [if_neg c5] at h
      refine g_iload_n dX11_keep_25 rfl ?_
      refine g_i2l dX11_keep_26 ?_
      refine g_lconst (v := 0) dX11_keep_27 (by decide) ?_
      refine g_ldc2 (v := 2) dX11_keep_28 lX11_471 ?_
      obtain ⟨p6, ep6, h⟩ := bs h
      refine q_stat (Z := MX11_in) (toI_s ep6) dX11_keep_31 mX11_169.1 mX11_169.2 (Nat.le_of_ble_eq_true rfl) rfl rfl (Nat.le_of_ble_eq_true rfl) (Nat.le_of_ble_eq_true rfl) ?_
      show Go O (d + 1) MX11_keep 34 [some (.ref a0), some (.int a1), some (.int a2), some (.int a3), none, none, none, none, none, none] [.int p6.1] p6.2 P
      refine g_if_ne (t := 39) dX11_keep_34 (by decide) (fun c7 => ?_) (fun c7 => ?_)
      · rw [if_neg c7] at h
        refine g_aload_n dX11_keep_39 rfl ?_
        refine g_iload_n dX11_keep_40 rfl ?_
        refine g_iload_n dX11_keep_41 rfl ?_
        obtain ⟨K8, eK8, h⟩ := bs h
        refine q_virt (Z := MX11_layCosts) (c := (RX11, TX11, 56)) (toV_s eK8) dX11_keep_42 mX11_473.1 mX11_473.2 (Nat.le_of_ble_eq_true rfl) rfl rfl (Nat.le_of_ble_eq_true rfl) (Nat.le_of_ble_eq_true rfl) rfl rfl ?_
        show Go O (d + 1) MX11_keep 45 [some (.ref a0), some (.int a1), some (.int a2), some (.int a3), none, none, none, none, none, none] [] K8 P
        refine g_iconst (v := (-1)) dX11_keep_45 (by decide) ?_
        refine g_istore (ls' := [some (.ref a0), some (.int a1), some (.int a2), some (.int a3), some (.int (-1)), none, none, none, none, none]) dX11_keep_46 (by decide) rfl ?_
        refine g_ldcwI (v := 100000000) dX11_keep_48 iX11_470 ?_
        refine g_istore (ls' := [some (.ref a0), some (.int a1), some (.int a2), some (.int a3), some (.int (-1)), some (.int (100000000)), none, none, none, none]) dX11_keep_51 (by decide) rfl ?_
        refine g_iconst (v := (nI 0)) dX11_keep_53 (by decide) ?_
        refine g_istore (ls' := [some (.ref a0), some (.int a1), some (.int a2), some (.int a3), some (.int (-1)), some (.int (100000000)), some (.int (nI 0)), none, none, none]) dX11_keep_54 (by decide) rfl ?_
        refine g_iconst (v := (nI 0)) dX11_keep_56 (by decide) ?_
        refine g_istore (ls' := [some (.ref a0), some (.int a1), some (.int a2), some (.int a3), some (.int (-1)), some (.int (100000000)), some (.int (nI 0)), some (.int (nI 0)), none, none]) dX11_keep_57 (by decide) rfl ?_
        obtain ⟨r40, er40, h⟩ := bs h
        have hx : Go O (d + 1) MX11_keep 220 [none, none, none, some (.int a3), some (.int r40.1), some (.int r40.2.1), some (.int r40.2.2.1), none, none, none] [] r40.2.2.2 P := by
          refine g_iload_n dX11_keep_220 rfl ?_
          have hj : Go O (d + 1) MX11_keep 241 [none, none, none, none, none, none, none, none, none, none] [.int (if a3 = 0 then r40.1 else (if a3 = (nI 1) then r40.2.1 else r40.2.2.1))] r40.2.2.2 P := by
            exact g_ireturn dX11_keep_241 rfl (by first | rfl | decide) (hret _ _ (Option.some.inj h))
          refine g_if_ne (t := 229) dX11_keep_221 (by decide) (fun c41 => ?_) (fun c41 => ?_)
          · skip
            refine g_iload_n dX11_keep_229 rfl ?_
            refine g_iconst (v := (nI 1)) dX11_keep_230 (by decide) ?_
            refine g_ic_ne (t := 239) dX11_keep_231 (by decide) (fun c42 => ?_) (fun c42 => ?_)
            · skip
              refine g_iload dX11_keep_239 rfl ?_
              have hk : Go O (d + 1) MX11_keep 241 [none, none, none, none, none, none, none, none, none, none] [.int r40.2.2.1] r40.2.2.2 P := by simpa only [if_neg c41, if_neg c42] using hj
              refine Go_le ?_ hk
              exact trivial
            · skip
              refine g_iload dX11_keep_234 rfl ?_
              refine g_goto (t := 241) dX11_keep_236 (by decide) ?_
              have hk : Go O (d + 1) MX11_keep 241 [none, none, none, none, none, none, none, none, none, none] [.int r40.2.1] r40.2.2.2 P := by simpa only [if_neg c41, if_pos c42] using hj
              refine Go_le ?_ hk
              exact trivial
          · skip
            refine g_iload dX11_keep_224 rfl ?_
            refine g_goto (t := 241) dX11_keep_226 (by decide) ?_
            have hk : Go O (d + 1) MX11_keep 241 [none, none, none, none, none, none, none, none, none, none] [.int r40.1] r40.2.2.2 P := by simpa only [if_pos c41] using hj
            refine Go_le ?_ hk
            exact trivial
        refine Go_le ?_ (e_X11_keep_l59 (fun q e => by cases e; exact hx) FU ((-1), (100000000), (nI 0), (nI 0), K8) er40)
        exact And.intro rfl (And.intro rfl (And.intro rfl (And.intro rfl (And.intro rfl (And.intro rfl (And.intro rfl (trivial)))))))
      · rw [if_pos c7] at h
        refine g_iconst (v := (-1)) dX11_keep_37 (by decide) ?_
        exact g_ireturn dX11_keep_38 rfl (by first | rfl | decide) (hret _ _ (Option.some.inj h))
noncomputable def F_X11_when_l63 (O : mO) (d : Nat) (v0 : Nat) (v1 : Int32) (v2 : Int32) (v3 : Int32) (v4 : Int32) (s5 : Int32) (s6 : Int32) (s7 : Int32) (K : mH) : Option ((Int32 × Int32 × Int32 × mH) ⊕ (Int32 × Int32 × mH)) :=
  if v3 ≤ s7 then
    some (.inr (s5, s6, K))
  else
    (gtA K v0 11 3).bind fun x13 =>
    (wrI K x13 ((nI 17) + v1) (v3 - s7)).bind fun K14 =>
    (gtA K14 v0 11 3).bind fun x15 =>
    (wrI K14 x15 (nI 6) (v4 + s7)).bind fun K16 =>
    (toI (vc O d 11 MX11_pricedAt v0 [.int v1] K16)).bind fun p17 =>
    some (.inl ((if s5 ≤ p17.1 then s5 else p17.1), (if s5 ≤ p17.1 then s6 else s7), (s7 + nI 1), p17.2))
theorem e_X11_when_l63 {O : mO} {d : Nat} {v0 : Nat} {v1 : Int32} {v2 : Int32} {v3 : Int32} {v4 : Int32} {P : Option Value → mH → Prop} {x : Int32 × Int32 × mH} (hex : ∀ q : Int32 × Int32 × mH, x = q → Go O (d + 1) MX11_when 139 [some (.ref v0), some (.int v1), some (.int v2), some (.int v3), some (.int v4), some (.int q.1), some (.int q.2.1), none, none] [] q.2.2 P) : ∀ (f : Nat) (q : Int32 × Int32 × Int32 × mH), lupF (fun (q : Int32 × Int32 × Int32 × mH) => F_X11_when_l63 O d v0 v1 v2 v3 v4 q.1 q.2.1 q.2.2.1 q.2.2.2) f q = some x → Go O (d + 1) MX11_when 63 [some (.ref v0), some (.int v1), some (.int v2), some (.int v3), some (.int v4), some (.int q.1), some (.int q.2.1), some (.int q.2.2.1), none] [] q.2.2.2 P := by
  intro f
  induction f with
  | zero =>
    intro q h
    cases h
  | succ f ih =>
    intro q h
    obtain ⟨y, h, hy1, hy2⟩ := lupF_s h
    have hin : ∀ q : Int32 × Int32 × Int32 × mH, y = .inl q → Go O (d + 1) MX11_when 63 [some (.ref v0), some (.int v1), some (.int v2), some (.int v3), some (.int v4), some (.int q.1), some (.int q.2.1), some (.int q.2.2.1), none] [] q.2.2.2 P := fun q e => ih q (hy1 q e)
    replace hex : ∀ q : Int32 × Int32 × mH, y = .inr q → Go O (d + 1) MX11_when 139 [some (.ref v0), some (.int v1), some (.int v2), some (.int v3), some (.int v4), some (.int q.1), some (.int q.2.1), none, none] [] q.2.2 P := fun q e => hex q (hy2 q e).symm
    clear ih hy1 hy2
    obtain ⟨s5, s6, s7, K⟩ := q
    dsimp only at h ⊢
    unfold F_X11_when_l63 at h
    refine g_iload dX11_when_63 rfl ?_
    refine g_iload_n dX11_when_65 rfl ?_
    refine g_ic_ge (t := 139) dX11_when_66 (by decide) (fun c12 => ?_) (fun c12 => ?_)
    · rw [if_pos c12] at h
      refine Go_le ?_ (hex (s5, s6, K) (Option.some.inj h).symm)
      exact And.intro rfl (And.intro rfl (And.intro rfl (And.intro rfl (And.intro rfl (And.intro rfl (And.intro rfl (trivial)))))))
    · rw [if_neg c12] at h
      refine g_aload_n dX11_when_69 rfl ?_
      obtain ⟨x13, ex13, h⟩ := bs h
      refine q_getA dX11_when_70 fX11_13 ex13 ?_
      refine g_bipush (v := (nI 17)) dX11_when_73 (by decide) ?_
      refine g_iload_n dX11_when_75 rfl ?_
      refine g_iadd dX11_when_76 ?_
      refine g_iload_n dX11_when_77 rfl ?_
      refine g_iload dX11_when_78 rfl ?_
      refine g_isub dX11_when_80 ?_
      obtain ⟨K14, eK14, h⟩ := bs h
      refine q_iast dX11_when_81 eK14 ?_
      refine g_aload_n dX11_when_82 rfl ?_
      obtain ⟨x15, ex15, h⟩ := bs h
      refine q_getA dX11_when_83 fX11_13 ex15 ?_
      refine g_bipush (v := (nI 6)) dX11_when_86 (by decide) ?_
      refine g_iload dX11_when_88 rfl ?_
      refine g_iload dX11_when_90 rfl ?_
      refine g_iadd dX11_when_92 ?_
      obtain ⟨K16, eK16, h⟩ := bs h
      refine q_iast dX11_when_93 eK16 ?_
      refine g_aload_n dX11_when_94 rfl ?_
      refine g_iload_n dX11_when_95 rfl ?_
      obtain ⟨p17, ep17, h⟩ := bs h
      refine q_virt (Z := MX11_pricedAt) (c := (RX11, TX11, 56)) (toI_s ep17) dX11_when_96 mX11_196.1 mX11_196.2 (Nat.le_of_ble_eq_true rfl) rfl rfl (Nat.le_of_ble_eq_true rfl) (Nat.le_of_ble_eq_true rfl) rfl rfl ?_
      show Go O (d + 1) MX11_when 99 [some (.ref v0), some (.int v1), some (.int v2), some (.int v3), some (.int v4), some (.int s5), some (.int s6), some (.int s7), none] [.int p17.1] p17.2 P
      refine g_istore (ls' := [some (.ref v0), some (.int v1), some (.int v2), some (.int v3), some (.int v4), some (.int s5), some (.int s6), some (.int s7), some (.int p17.1)]) dX11_when_99 (by decide) rfl ?_
      refine g_iload dX11_when_101 rfl ?_
      refine g_iload dX11_when_103 rfl ?_
      have hj : Go O (d + 1) MX11_when 115 [some (.ref v0), some (.int v1), some (.int v2), some (.int v3), some (.int v4), some (.int s5), none, some (.int s7), some (.int p17.1)] [.int (if s5 ≤ p17.1 then s6 else s7)] p17.2 P := by
        refine g_istore (ls' := [some (.ref v0), some (.int v1), some (.int v2), some (.int v3), some (.int v4), some (.int s5), some (.int (if s5 ≤ p17.1 then s6 else s7)), some (.int s7), some (.int p17.1)]) dX11_when_115 (by decide) rfl ?_
        refine g_iload dX11_when_117 rfl ?_
        refine g_iload dX11_when_119 rfl ?_
        have hj : Go O (d + 1) MX11_when 131 [some (.ref v0), some (.int v1), some (.int v2), some (.int v3), some (.int v4), none, some (.int (if s5 ≤ p17.1 then s6 else s7)), some (.int s7), none] [.int (if s5 ≤ p17.1 then s5 else p17.1)] p17.2 P := by
          refine g_istore (ls' := [some (.ref v0), some (.int v1), some (.int v2), some (.int v3), some (.int v4), some (.int (if s5 ≤ p17.1 then s5 else p17.1)), some (.int (if s5 ≤ p17.1 then s6 else s7)), some (.int s7), none]) dX11_when_131 (by decide) rfl ?_
          refine q_iinc (w := nI 1) (ls' := [some (.ref v0), some (.int v1), some (.int v2), some (.int v3), some (.int v4), some (.int (if s5 ≤ p17.1 then s5 else p17.1)), some (.int (if s5 ≤ p17.1 then s6 else s7)), some (.int (s7 + nI 1)), none]) dX11_when_133 (by decide) rfl (by decide) rfl ?_
          refine g_goto (t := 63) dX11_when_136 (by decide) ?_
          refine Go_le ?_ (hin ((if s5 ≤ p17.1 then s5 else p17.1), (if s5 ≤ p17.1 then s6 else s7), (s7 + nI 1), p17.2) (Option.some.inj h).symm)
          exact And.intro rfl (And.intro rfl (And.intro rfl (And.intro rfl (And.intro rfl (And.intro rfl (And.intro rfl (And.intro rfl (trivial))))))))
        refine g_ic_ge (t := 129) dX11_when_121 (by decide) (fun c19 => ?_) (fun c19 => ?_)
        · skip
          refine g_iload dX11_when_129 rfl ?_
          have hk : Go O (d + 1) MX11_when 131 [some (.ref v0), some (.int v1), some (.int v2), some (.int v3), some (.int v4), none, some (.int (if s5 ≤ p17.1 then s6 else s7)), some (.int s7), none] [.int s5] p17.2 P := by simpa only [if_pos c19] using hj
          refine Go_le ?_ hk
          exact And.intro rfl (And.intro rfl (And.intro rfl (And.intro rfl (And.intro rfl (And.intro rfl (And.intro rfl (trivial)))))))
        · skip
          refine g_iload dX11_when_124 rfl ?_
          refine g_goto (t := 131) dX11_when_126 (by decide) ?_
          have hk : Go O (d + 1) MX11_when 131 [some (.ref v0), some (.int v1), some (.int v2), some (.int v3), some (.int v4), none, some (.int (if s5 ≤ p17.1 then s6 else s7)), some (.int s7), none] [.int p17.1] p17.2 P := by simpa only [if_neg c19] using hj
          refine Go_le ?_ hk
          exact And.intro rfl (And.intro rfl (And.intro rfl (And.intro rfl (And.intro rfl (And.intro rfl (And.intro rfl (trivial)))))))
      refine g_ic_ge (t := 113) dX11_when_105 (by decide) (fun c18 => ?_) (fun c18 => ?_)
      · skip
        refine g_iload dX11_when_113 rfl ?_
        have hk : Go O (d + 1) MX11_when 115 [some (.ref v0), some (.int v1), some (.int v2), some (.int v3), some (.int v4), some (.int s5), none, some (.int s7), some (.int p17.1)] [.int s6] p17.2 P := by simpa only [if_pos c18] using hj
        refine Go_le ?_ hk
        exact And.intro rfl (And.intro rfl (And.intro rfl (And.intro rfl (And.intro rfl (And.intro rfl (And.intro rfl (And.intro rfl (trivial))))))))
      · skip
        refine g_iload dX11_when_108 rfl ?_
        refine g_goto (t := 115) dX11_when_110 (by decide) ?_
        have hk : Go O (d + 1) MX11_when 115 [some (.ref v0), some (.int v1), some (.int v2), some (.int v3), some (.int v4), some (.int s5), none, some (.int s7), some (.int p17.1)] [.int s7] p17.2 P := by simpa only [if_neg c18] using hj
        refine Go_le ?_ hk
        exact And.intro rfl (And.intro rfl (And.intro rfl (And.intro rfl (And.intro rfl (And.intro rfl (And.intro rfl (And.intro rfl (trivial))))))))
noncomputable def F_X11_when (O : mO) (d : Nat) (a0 : Nat) (a1 : Int32) (a2 : Int32) (K : mH) : Option (Int32 × mH) :=
  (ptI K a0 11 0 (nI 0)).bind fun K1 =>
  (toI (vc O d 11 MX11_isDead a0 [.int a1] K1)).bind fun p2 =>
  if p2.1 = 0 then
    some ((-1), p2.2)
  else
    (toI (ev O d MX11_in [.long a2.toInt64, .long 0, .long 1] p2.2)).bind fun p4 =>
    if p4.1 = 0 then
      some ((-1), p4.2)
    else
      (toI (vc O d 11 MX11_isIn a0 [.int a1] p4.2)).bind fun p6 =>
      if p6.1 = 0 then
        some ((-1), p6.2)
      else
        (gtA p6.2 a0 11 3).bind fun x8 =>
        (rdI O p6.2 x8 ((nI 17) + a1)).bind fun x9 =>
        (gtA p6.2 a0 11 3).bind fun x10 =>
        (rdI O p6.2 x10 (nI 6)).bind fun x11 =>
        (lupF (fun (q : Int32 × Int32 × Int32 × mH) => F_X11_when_l63 O d a0 a1 a2 x9 x11 q.1 q.2.1 q.2.2.1 q.2.2.2) FU ((100000000), (-1), (nI 0), p6.2)).bind fun r20 =>
        (gtA r20.2.2 a0 11 3).bind fun x21 =>
        (wrI r20.2.2 x21 ((nI 17) + a1) x9).bind fun K22 =>
        (gtA K22 a0 11 3).bind fun x23 =>
        (wrI K22 x23 (nI 6) x11).bind fun K24 =>
        some ((if a2 = 0 then r20.2.1 else r20.1), K24)
theorem e_X11_when {O : mO} {d : Nat} {a0 : Nat} {a1 : Int32} {a2 : Int32} {K : mH} {r0 : Int32} {K0 : mH} (h : F_X11_when O d a0 a1 a2 K = some (r0, K0)) : ev O (d + 1) MX11_when [.ref a0, .int a1, .int a2] K = some (some (.int r0), K0) := by
  refine Rn_evx ?_
  show Go O (d + 1) MX11_when 0 [some (.ref a0), some (.int a1), some (.int a2), none, none, none, none, none, none] [] K _
  generalize hP : (fun (r : Option Value) (K' : mH) => (r, K') = (some (.int r0), K0)) = P
  have hret : ∀ (r : Int32) (K' : mH), (r, K') = (r0, K0) → P (some (.int r)) K' := by
    intro r K' e
    cases e
    subst hP
    rfl
  clear hP
  unfold F_X11_when at h
  refine g_aload_n dX11_when_0 rfl ?_
  refine g_iconst (v := (nI 0)) dX11_when_1 (by decide) ?_
  obtain ⟨K1, eK1, h⟩ := bs h
  refine q_put (c := (RX11, TX11, 56)) dX11_when_2 fX11_149 rfl rfl rfl (fun h => absurd h (by decide)) eK1 ?_
  refine g_aload_n dX11_when_5 rfl ?_
  refine g_iload_n dX11_when_6 rfl ?_
  obtain ⟨p2, ep2, h⟩ := bs h
  refine q_virt (Z := MX11_isDead) (c := (RX11, TX11, 56)) (toI_s ep2) dX11_when_7 mX11_214.1 mX11_214.2 (Nat.le_of_ble_eq_true rfl) rfl rfl (Nat.le_of_ble_eq_true rfl) (Nat.le_of_ble_eq_true rfl) rfl rfl ?_
  show Go O (d + 1) MX11_when 10 [some (.ref a0), some (.int a1), some (.int a2), none, none, none, none, none, none] [.int p2.1] p2.2 P
  refine g_if_eq (t := 31) dX11_when_10 (by decide) (fun c3 => ?_) (fun c3 => ?_)
  · rw [if_pos c3] at h
    refine g_iconst (v := (-1)) dX11_when_31 (by decide) ?_
    exact g_ireturn dX11_when_32 rfl (by first | rfl | decide) (hret _ _ (Option.some.inj h))
  · rw [if_neg c3] at h
    refine g_iload_n dX11_when_13 rfl ?_
    refine g_i2l dX11_when_14 ?_
    refine g_lconst (v := 0) dX11_when_15 (by decide) ?_
    refine g_lconst (v := 1) dX11_when_16 (by decide) ?_
    obtain ⟨p4, ep4, h⟩ := bs h
    refine q_stat (Z := MX11_in) (toI_s ep4) dX11_when_17 mX11_169.1 mX11_169.2 (Nat.le_of_ble_eq_true rfl) rfl rfl (Nat.le_of_ble_eq_true rfl) (Nat.le_of_ble_eq_true rfl) ?_
    show Go O (d + 1) MX11_when 20 [some (.ref a0), some (.int a1), some (.int a2), none, none, none, none, none, none] [.int p4.1] p4.2 P
    refine g_if_eq (t := 31) dX11_when_20 (by decide) (fun c5 => ?_) (fun c5 => ?_)
    · rw [if_pos c5] at h
      refine g_iconst (v := (-1)) dX11_when_31 (by decide) ?_
      exact g_ireturn dX11_when_32 rfl (by first | rfl | decide) (hret _ _ (Option.some.inj h))
    · rw [if_neg c5] at h
      refine g_aload_n dX11_when_23 rfl ?_
      refine g_iload_n dX11_when_24 rfl ?_
      obtain ⟨p6, ep6, h⟩ := bs h
      refine q_virt (Z := MX11_isIn) (c := (RX11, TX11, 56)) (toI_s ep6) dX11_when_25 mX11_182.1 mX11_182.2 (Nat.le_of_ble_eq_true rfl) rfl rfl (Nat.le_of_ble_eq_true rfl) (Nat.le_of_ble_eq_true rfl) rfl rfl ?_
      show Go O (d + 1) MX11_when 28 [some (.ref a0), some (.int a1), some (.int a2), none, none, none, none, none, none] [.int p6.1] p6.2 P
      refine g_if_ne (t := 33) dX11_when_28 (by decide) (fun c7 => ?_) (fun c7 => ?_)
      · rw [if_neg c7] at h
        refine g_aload_n dX11_when_33 rfl ?_
        obtain ⟨x8, ex8, h⟩ := bs h
        refine q_getA dX11_when_34 fX11_13 ex8 ?_
        refine g_bipush (v := (nI 17)) dX11_when_37 (by decide) ?_
        refine g_iload_n dX11_when_39 rfl ?_
        refine g_iadd dX11_when_40 ?_
        obtain ⟨x9, ex9, h⟩ := bs h
        refine q_iald dX11_when_41 ex9 ?_
        refine g_istore_n (ls' := [some (.ref a0), some (.int a1), some (.int a2), some (.int x9), none, none, none, none, none]) dX11_when_42 (by decide) rfl ?_
        refine g_aload_n dX11_when_43 rfl ?_
        obtain ⟨x10, ex10, h⟩ := bs h
        refine q_getA dX11_when_44 fX11_13 ex10 ?_
        refine g_bipush (v := (nI 6)) dX11_when_47 (by decide) ?_
        obtain ⟨x11, ex11, h⟩ := bs h
        refine q_iald dX11_when_49 ex11 ?_
        refine g_istore (ls' := [some (.ref a0), some (.int a1), some (.int a2), some (.int x9), some (.int x11), none, none, none, none]) dX11_when_50 (by decide) rfl ?_
        refine g_ldcwI (v := 100000000) dX11_when_52 iX11_470 ?_
        refine g_istore (ls' := [some (.ref a0), some (.int a1), some (.int a2), some (.int x9), some (.int x11), some (.int (100000000)), none, none, none]) dX11_when_55 (by decide) rfl ?_
        refine g_iconst (v := (-1)) dX11_when_57 (by decide) ?_
        refine g_istore (ls' := [some (.ref a0), some (.int a1), some (.int a2), some (.int x9), some (.int x11), some (.int (100000000)), some (.int (-1)), none, none]) dX11_when_58 (by decide) rfl ?_
        refine g_iconst (v := (nI 0)) dX11_when_60 (by decide) ?_
        refine g_istore (ls' := [some (.ref a0), some (.int a1), some (.int a2), some (.int x9), some (.int x11), some (.int (100000000)), some (.int (-1)), some (.int (nI 0)), none]) dX11_when_61 (by decide) rfl ?_
        obtain ⟨r20, er20, h⟩ := bs h
        have hx : Go O (d + 1) MX11_when 139 [some (.ref a0), some (.int a1), some (.int a2), some (.int x9), some (.int x11), some (.int r20.1), some (.int r20.2.1), none, none] [] r20.2.2 P := by
          refine g_aload_n dX11_when_139 rfl ?_
          obtain ⟨x21, ex21, h⟩ := bs h
          refine q_getA dX11_when_140 fX11_13 ex21 ?_
          refine g_bipush (v := (nI 17)) dX11_when_143 (by decide) ?_
          refine g_iload_n dX11_when_145 rfl ?_
          refine g_iadd dX11_when_146 ?_
          refine g_iload_n dX11_when_147 rfl ?_
          obtain ⟨K22, eK22, h⟩ := bs h
          refine q_iast dX11_when_148 eK22 ?_
          refine g_aload_n dX11_when_149 rfl ?_
          obtain ⟨x23, ex23, h⟩ := bs h
          refine q_getA dX11_when_150 fX11_13 ex23 ?_
          refine g_bipush (v := (nI 6)) dX11_when_153 (by decide) ?_
          refine g_iload dX11_when_155 rfl ?_
          obtain ⟨K24, eK24, h⟩ := bs h
          refine q_iast dX11_when_157 eK24 ?_
          refine g_iload_n dX11_when_158 rfl ?_
          have hj : Go O (d + 1) MX11_when 169 [none, none, none, none, none, none, none, none, none] [.int (if a2 = 0 then r20.2.1 else r20.1)] K24 P := by
            exact g_ireturn dX11_when_169 rfl (by first | rfl | decide) (hret _ _ (Option.some.inj h))
          refine g_if_ne (t := 167) dX11_when_159 (by decide) (fun c25 => ?_) (fun c25 => ?_)
          · skip
            refine g_iload dX11_when_167 rfl ?_
            have hk : Go O (d + 1) MX11_when 169 [none, none, none, none, none, none, none, none, none] [.int r20.1] K24 P := by simpa only [if_neg c25] using hj
            refine Go_le ?_ hk
            exact trivial
          · skip
            refine g_iload dX11_when_162 rfl ?_
            refine g_goto (t := 169) dX11_when_164 (by decide) ?_
            have hk : Go O (d + 1) MX11_when 169 [none, none, none, none, none, none, none, none, none] [.int r20.2.1] K24 P := by simpa only [if_pos c25] using hj
            refine Go_le ?_ hk
            exact trivial
        refine Go_le ?_ (e_X11_when_l63 (fun q e => by cases e; exact hx) FU ((100000000), (-1), (nI 0), p6.2) er20)
        exact And.intro rfl (And.intro rfl (And.intro rfl (And.intro rfl (And.intro rfl (And.intro rfl (And.intro rfl (And.intro rfl (trivial))))))))
      · rw [if_pos c7] at h
        refine g_iconst (v := (-1)) dX11_when_31 (by decide) ?_
        exact g_ireturn dX11_when_32 rfl (by first | rfl | decide) (hret _ _ (Option.some.inj h))
noncomputable def F_X11_seen_j27 (O : mO) (d : Nat) (v0 : Nat) (K : mH) : Option (Int32 × mH) :=
  (toI (vc O d 11 MX11_tell v0 [.int (-1)] K)).bind fun p4 =>
  some (p4.1, p4.2)
theorem e_X11_seen_j27 {O : mO} {d : Nat} {v0 : Nat} {K : mH} {P : Option Value → mH → Prop} {x : Int32 × mH} (hret : ∀ (r : Int32) (K' : mH), (r, K') = x → P (some (.int r)) K') (h : F_X11_seen_j27 O d v0 K = some x) : Go O (d + 1) MX11_seen 27 [some (.ref v0), none, none, none] [] K P := by
  unfold F_X11_seen_j27 at h
  refine g_aload_n dX11_seen_27 rfl ?_
  refine g_iconst (v := (-1)) dX11_seen_28 (by decide) ?_
  obtain ⟨p4, ep4, h⟩ := bs h
  refine q_virt (Z := MX11_tell) (c := (RX11, TX11, 56)) (toI_s ep4) dX11_seen_29 mX11_158.1 mX11_158.2 (Nat.le_of_ble_eq_true rfl) rfl rfl (Nat.le_of_ble_eq_true rfl) (Nat.le_of_ble_eq_true rfl) rfl rfl ?_
  show Go O (d + 1) MX11_seen 32 [some (.ref v0), none, none, none] [.int p4.1] p4.2 P
  exact g_ireturn dX11_seen_32 rfl (by first | rfl | decide) (hret _ _ (Option.some.inj h))
noncomputable def F_X11_seen (O : mO) (d : Nat) (a0 : Nat) (a1 : Int32) (a2 : Int32) (K : mH) : Option (Int32 × mH) :=
  (ptI K a0 11 0 (nI 0)).bind fun K1 =>
  (toI (ev O d MX11_in [.long a1.toInt64, .long 0, .long (99)] K1)).bind fun p2 =>
  if p2.1 = 0 then
    F_X11_seen_j27 O d a0 p2.2
  else
    (toI (ev O d MX11_in [.long a2.toInt64, .long 0, .long 1] p2.2)).bind fun p5 =>
    if p5.1 = 0 then
      F_X11_seen_j27 O d a0 p5.2
    else
      (gtA p5.2 a0 11 3).bind fun x7 =>
      (rdI O p5.2 x7 (nI 3)).bind fun x8 =>
      if x8 = (nI 8) then
        (toI (vc O d 11 MX11_tell a0 [.int (-5)] p5.2)).bind fun p18 =>
        some (p18.1, p18.2)
      else
        (gtA p5.2 a0 11 3).bind fun x10 =>
        (wrI p5.2 x10 ((nI 90) + ((nI 2) * x8)) a1).bind fun K11 =>
        (gtA K11 a0 11 3).bind fun x12 =>
        (wrI K11 x12 (((nI 90) + ((nI 2) * x8)) + (nI 1)) a2).bind fun K13 =>
        (gtA K13 a0 11 3).bind fun x14 =>
        (rdI O K13 x14 (nI 3)).bind fun x15 =>
        (wrI K13 x14 (nI 3) (x15 + (nI 1))).bind fun K16 =>
        (toI (vc O d 11 MX11_tell a0 [.int (x8 + (nI 1))] K16)).bind fun p17 =>
        some (p17.1, p17.2)
theorem e_X11_seen {O : mO} {d : Nat} {a0 : Nat} {a1 : Int32} {a2 : Int32} {K : mH} {r0 : Int32} {K0 : mH} (h : F_X11_seen O d a0 a1 a2 K = some (r0, K0)) : ev O (d + 1) MX11_seen [.ref a0, .int a1, .int a2] K = some (some (.int r0), K0) := by
  refine Rn_evx ?_
  show Go O (d + 1) MX11_seen 0 [some (.ref a0), some (.int a1), some (.int a2), none] [] K _
  generalize hP : (fun (r : Option Value) (K' : mH) => (r, K') = (some (.int r0), K0)) = P
  have hret : ∀ (r : Int32) (K' : mH), (r, K') = (r0, K0) → P (some (.int r)) K' := by
    intro r K' e
    cases e
    subst hP
    rfl
  clear hP
  unfold F_X11_seen at h
  refine g_aload_n dX11_seen_0 rfl ?_
  refine g_iconst (v := (nI 0)) dX11_seen_1 (by decide) ?_
  obtain ⟨K1, eK1, h⟩ := bs h
  refine q_put (c := (RX11, TX11, 56)) dX11_seen_2 fX11_149 rfl rfl rfl (fun h => absurd h (by decide)) eK1 ?_
  refine g_iload_n dX11_seen_5 rfl ?_
  refine g_i2l dX11_seen_6 ?_
  refine g_lconst (v := 0) dX11_seen_7 (by decide) ?_
  refine g_ldc2 (v := 99) dX11_seen_8 lX11_208 ?_
  obtain ⟨p2, ep2, h⟩ := bs h
  refine q_stat (Z := MX11_in) (toI_s ep2) dX11_seen_11 mX11_169.1 mX11_169.2 (Nat.le_of_ble_eq_true rfl) rfl rfl (Nat.le_of_ble_eq_true rfl) (Nat.le_of_ble_eq_true rfl) ?_
  show Go O (d + 1) MX11_seen 14 [some (.ref a0), some (.int a1), some (.int a2), none] [.int p2.1] p2.2 P
  refine g_if_eq (t := 27) dX11_seen_14 (by decide) (fun c3 => ?_) (fun c3 => ?_)
  · rw [if_pos c3] at h
    refine Go_le ?_ (e_X11_seen_j27 hret h)
    exact And.intro rfl (trivial)
  · rw [if_neg c3] at h
    refine g_iload_n dX11_seen_17 rfl ?_
    refine g_i2l dX11_seen_18 ?_
    refine g_lconst (v := 0) dX11_seen_19 (by decide) ?_
    refine g_lconst (v := 1) dX11_seen_20 (by decide) ?_
    obtain ⟨p5, ep5, h⟩ := bs h
    refine q_stat (Z := MX11_in) (toI_s ep5) dX11_seen_21 mX11_169.1 mX11_169.2 (Nat.le_of_ble_eq_true rfl) rfl rfl (Nat.le_of_ble_eq_true rfl) (Nat.le_of_ble_eq_true rfl) ?_
    show Go O (d + 1) MX11_seen 24 [some (.ref a0), some (.int a1), some (.int a2), none] [.int p5.1] p5.2 P
    refine g_if_ne (t := 33) dX11_seen_24 (by decide) (fun c6 => ?_) (fun c6 => ?_)
    · rw [if_neg c6] at h
      refine g_aload_n dX11_seen_33 rfl ?_
      obtain ⟨x7, ex7, h⟩ := bs h
      refine q_getA dX11_seen_34 fX11_13 ex7 ?_
      refine g_iconst (v := (nI 3)) dX11_seen_37 (by decide) ?_
      obtain ⟨x8, ex8, h⟩ := bs h
      refine q_iald dX11_seen_38 ex8 ?_
      refine g_istore_n (ls' := [some (.ref a0), some (.int a1), some (.int a2), some (.int x8)]) dX11_seen_39 (by decide) rfl ?_
      refine g_iload_n dX11_seen_40 rfl ?_
      refine g_bipush (v := (nI 8)) dX11_seen_41 (by decide) ?_
      refine g_ic_ne (t := 53) dX11_seen_43 (by decide) (fun c9 => ?_) (fun c9 => ?_)
      · rw [if_neg c9] at h
        refine g_aload_n dX11_seen_53 rfl ?_
        obtain ⟨x10, ex10, h⟩ := bs h
        refine q_getA dX11_seen_54 fX11_13 ex10 ?_
        refine g_bipush (v := (nI 90)) dX11_seen_57 (by decide) ?_
        refine g_iconst (v := (nI 2)) dX11_seen_59 (by decide) ?_
        refine g_iload_n dX11_seen_60 rfl ?_
        refine g_imul dX11_seen_61 ?_
        refine g_iadd dX11_seen_62 ?_
        refine g_iload_n dX11_seen_63 rfl ?_
        obtain ⟨K11, eK11, h⟩ := bs h
        refine q_iast dX11_seen_64 eK11 ?_
        refine g_aload_n dX11_seen_65 rfl ?_
        obtain ⟨x12, ex12, h⟩ := bs h
        refine q_getA dX11_seen_66 fX11_13 ex12 ?_
        refine g_bipush (v := (nI 90)) dX11_seen_69 (by decide) ?_
        refine g_iconst (v := (nI 2)) dX11_seen_71 (by decide) ?_
        refine g_iload_n dX11_seen_72 rfl ?_
        refine g_imul dX11_seen_73 ?_
        refine g_iadd dX11_seen_74 ?_
        refine g_iconst (v := (nI 1)) dX11_seen_75 (by decide) ?_
        refine g_iadd dX11_seen_76 ?_
        refine g_iload_n dX11_seen_77 rfl ?_
        obtain ⟨K13, eK13, h⟩ := bs h
        refine q_iast dX11_seen_78 eK13 ?_
        refine g_aload_n dX11_seen_79 rfl ?_
        obtain ⟨x14, ex14, h⟩ := bs h
        refine q_getA dX11_seen_80 fX11_13 ex14 ?_
        refine g_iconst (v := (nI 3)) dX11_seen_83 (by decide) ?_
        refine g_dup2 dX11_seen_84 rfl rfl ?_
        obtain ⟨x15, ex15, h⟩ := bs h
        refine q_iald dX11_seen_85 ex15 ?_
        refine g_iconst (v := (nI 1)) dX11_seen_86 (by decide) ?_
        refine g_iadd dX11_seen_87 ?_
        obtain ⟨K16, eK16, h⟩ := bs h
        refine q_iast dX11_seen_88 eK16 ?_
        refine g_aload_n dX11_seen_89 rfl ?_
        refine g_iload_n dX11_seen_90 rfl ?_
        refine g_iconst (v := (nI 1)) dX11_seen_91 (by decide) ?_
        refine g_iadd dX11_seen_92 ?_
        obtain ⟨p17, ep17, h⟩ := bs h
        refine q_virt (Z := MX11_tell) (c := (RX11, TX11, 56)) (toI_s ep17) dX11_seen_93 mX11_158.1 mX11_158.2 (Nat.le_of_ble_eq_true rfl) rfl rfl (Nat.le_of_ble_eq_true rfl) (Nat.le_of_ble_eq_true rfl) rfl rfl ?_
        show Go O (d + 1) MX11_seen 96 [some (.ref a0), some (.int a1), some (.int a2), some (.int x8)] [.int p17.1] p17.2 P
        exact g_ireturn dX11_seen_96 rfl (by first | rfl | decide) (hret _ _ (Option.some.inj h))
      · rw [if_pos c9] at h
        refine g_aload_n dX11_seen_46 rfl ?_
        refine g_bipush (v := (-5)) dX11_seen_47 (by decide) ?_
        obtain ⟨p18, ep18, h⟩ := bs h
        refine q_virt (Z := MX11_tell) (c := (RX11, TX11, 56)) (toI_s ep18) dX11_seen_49 mX11_158.1 mX11_158.2 (Nat.le_of_ble_eq_true rfl) rfl rfl (Nat.le_of_ble_eq_true rfl) (Nat.le_of_ble_eq_true rfl) rfl rfl ?_
        show Go O (d + 1) MX11_seen 52 [some (.ref a0), some (.int a1), some (.int a2), some (.int x8)] [.int p18.1] p18.2 P
        exact g_ireturn dX11_seen_52 rfl (by first | rfl | decide) (hret _ _ (Option.some.inj h))
    · rw [if_pos c6] at h
      refine Go_le ?_ (e_X11_seen_j27 hret h)
      exact And.intro rfl (trivial)
noncomputable def F_X11_forget (O : mO) (d : Nat) (a0 : Nat) (K : mH) : Option (Int32 × mH) :=
  (ptI K a0 11 0 (nI 0)).bind fun K1 =>
  (gtA K1 a0 11 3).bind fun x2 =>
  (rdI O K1 x2 (nI 3)).bind fun x3 =>
  (gtA K1 a0 11 3).bind fun x4 =>
  (wrI K1 x4 (nI 3) (nI 0)).bind fun K5 =>
  some (x3, K5)
theorem e_X11_forget {O : mO} {d : Nat} {a0 : Nat} {K : mH} {r0 : Int32} {K0 : mH} (h : F_X11_forget O d a0 K = some (r0, K0)) : ev O (d + 1) MX11_forget [.ref a0] K = some (some (.int r0), K0) := by
  refine Rn_evx ?_
  show Go O (d + 1) MX11_forget 0 [some (.ref a0), none] [] K _
  generalize hP : (fun (r : Option Value) (K' : mH) => (r, K') = (some (.int r0), K0)) = P
  have hret : ∀ (r : Int32) (K' : mH), (r, K') = (r0, K0) → P (some (.int r)) K' := by
    intro r K' e
    cases e
    subst hP
    rfl
  clear hP
  unfold F_X11_forget at h
  refine g_aload_n dX11_forget_0 rfl ?_
  refine g_iconst (v := (nI 0)) dX11_forget_1 (by decide) ?_
  obtain ⟨K1, eK1, h⟩ := bs h
  refine q_put (c := (RX11, TX11, 56)) dX11_forget_2 fX11_149 rfl rfl rfl (fun h => absurd h (by decide)) eK1 ?_
  refine g_aload_n dX11_forget_5 rfl ?_
  obtain ⟨x2, ex2, h⟩ := bs h
  refine q_getA dX11_forget_6 fX11_13 ex2 ?_
  refine g_iconst (v := (nI 3)) dX11_forget_9 (by decide) ?_
  obtain ⟨x3, ex3, h⟩ := bs h
  refine q_iald dX11_forget_10 ex3 ?_
  refine g_istore_n (ls' := [some (.ref a0), some (.int x3)]) dX11_forget_11 (by decide) rfl ?_
  refine g_aload_n dX11_forget_12 rfl ?_
  obtain ⟨x4, ex4, h⟩ := bs h
  refine q_getA dX11_forget_13 fX11_13 ex4 ?_
  refine g_iconst (v := (nI 3)) dX11_forget_16 (by decide) ?_
  refine g_iconst (v := (nI 0)) dX11_forget_17 (by decide) ?_
  obtain ⟨K5, eK5, h⟩ := bs h
  refine q_iast dX11_forget_18 eK5 ?_
  refine g_iload_n dX11_forget_19 rfl ?_
  exact g_ireturn dX11_forget_20 rfl (by first | rfl | decide) (hret _ _ (Option.some.inj h))
noncomputable def F_X11_outIn (O : mO) (d : Nat) (a0 : Nat) (a1 : Int32) (a2 : Int32) (K : mH) : Option (Int32 × mH) :=
  (gtA K a0 11 3).bind fun x1 =>
  (rdI O K x1 ((nI 17) + a1)).bind fun x2 =>
  some ((if a2 < x2 then (nI 0) else (nI 1)), K)
theorem e_X11_outIn {O : mO} {d : Nat} {a0 : Nat} {a1 : Int32} {a2 : Int32} {K : mH} {r0 : Int32} {K0 : mH} (h : F_X11_outIn O d a0 a1 a2 K = some (r0, K0)) : ev O (d + 1) MX11_outIn [.ref a0, .int a1, .int a2] K = some (some (.int r0), K0) := by
  refine Rn_evx ?_
  show Go O (d + 1) MX11_outIn 0 [some (.ref a0), some (.int a1), some (.int a2)] [] K _
  generalize hP : (fun (r : Option Value) (K' : mH) => (r, K') = (some (.int r0), K0)) = P
  have hret : ∀ (r : Int32) (K' : mH), (r, K') = (r0, K0) → P (some (.int r)) K' := by
    intro r K' e
    cases e
    subst hP
    rfl
  clear hP
  unfold F_X11_outIn at h
  refine g_aload_n dX11_outIn_0 rfl ?_
  obtain ⟨x1, ex1, h⟩ := bs h
  refine q_getA dX11_outIn_1 fX11_13 ex1 ?_
  refine g_bipush (v := (nI 17)) dX11_outIn_4 (by decide) ?_
  refine g_iload_n dX11_outIn_6 rfl ?_
  refine g_iadd dX11_outIn_7 ?_
  obtain ⟨x2, ex2, h⟩ := bs h
  refine q_iald dX11_outIn_8 ex2 ?_
  refine g_iload_n dX11_outIn_9 rfl ?_
  have hj : Go O (d + 1) MX11_outIn 18 [none, none, none] [.int (if a2 < x2 then (nI 0) else (nI 1))] K P := by
    exact g_ireturn dX11_outIn_18 rfl (by first | rfl | decide) (hret _ _ (Option.some.inj h))
  refine g_ic_gt (t := 17) dX11_outIn_10 (by decide) (fun c3 => ?_) (fun c3 => ?_)
  · skip
    refine g_iconst (v := (nI 0)) dX11_outIn_17 (by decide) ?_
    have hk : Go O (d + 1) MX11_outIn 18 [none, none, none] [.int (nI 0)] K P := by simpa only [if_pos c3] using hj
    refine Go_le ?_ hk
    exact trivial
  · skip
    refine g_iconst (v := (nI 1)) dX11_outIn_13 (by decide) ?_
    refine g_goto (t := 18) dX11_outIn_14 (by decide) ?_
    have hk : Go O (d + 1) MX11_outIn 18 [none, none, none] [.int (nI 1)] K P := by simpa only [if_neg c3] using hj
    refine Go_le ?_ hk
    exact trivial
noncomputable def F_X11_strangers_j72 (O : mO) (d : Nat) (v0 : Nat) (v1 : Int32) (v2 : Int32) (v4 : Int32) (K : mH) : Option ((Int32 × Int32 × mH) ⊕ (Int32 × mH)) :=
  some (.inl ((nI 0), (v4 + nI 1), K))
theorem e_X11_strangers_j72 {O : mO} {d : Nat} {v0 : Nat} {v1 : Int32} {v2 : Int32} {v4 : Int32} {K : mH} {P : Option Value → mH → Prop} {y : (Int32 × Int32 × mH) ⊕ (Int32 × mH)} (hin : ∀ q : Int32 × Int32 × mH, y = .inl q → Go O (d + 1) MX11_strangers 19 [some (.ref v0), some (.int v1), some (.int v2), some (.int q.1), some (.int q.2.1)] [] q.2.2 P) (hex : ∀ q : Int32 × mH, y = .inr q → Go O (d + 1) MX11_strangers 80 [some (.ref v0), some (.int v1), some (.int v2), some (.int q.1), none] [] q.2 P) (h : F_X11_strangers_j72 O d v0 v1 v2 v4 K = some y) : Go O (d + 1) MX11_strangers 72 [some (.ref v0), some (.int v1), some (.int v2), none, some (.int v4)] [] K P := by
  unfold F_X11_strangers_j72 at h
  refine g_iconst (v := (nI 0)) dX11_strangers_72 (by decide) ?_
  refine g_istore_n (ls' := [some (.ref v0), some (.int v1), some (.int v2), some (.int (nI 0)), some (.int v4)]) dX11_strangers_73 (by decide) rfl ?_
  refine q_iinc (w := nI 1) (ls' := [some (.ref v0), some (.int v1), some (.int v2), some (.int (nI 0)), some (.int (v4 + nI 1))]) dX11_strangers_74 (by decide) rfl (by decide) rfl ?_
  refine g_goto (t := 19) dX11_strangers_77 (by decide) ?_
  refine Go_le ?_ (hin ((nI 0), (v4 + nI 1), K) (Option.some.inj h).symm)
  exact And.intro rfl (And.intro rfl (And.intro rfl (And.intro rfl (And.intro rfl (trivial)))))
noncomputable def F_X11_strangers_l19 (O : mO) (d : Nat) (v0 : Nat) (v1 : Int32) (v2 : Int32) (s3 : Int32) (s4 : Int32) (K : mH) : Option ((Int32 × Int32 × mH) ⊕ (Int32 × mH)) :=
  (gtA K v0 11 3).bind fun x4 =>
  (rdI O K x4 (nI 3)).bind fun x5 =>
  if x5 ≤ s4 then
    some (.inr (s3, K))
  else
    if s3 = 0 then
      F_X11_strangers_j72 O d v0 v1 v2 s4 K
    else
      (gtA K v0 11 3).bind fun x9 =>
      (rdI O K x9 ((nI 90) + ((nI 2) * s4))).bind fun x10 =>
      (toI (vc O d 11 MX11_outIn v0 [.int v2, .int x10] K)).bind fun p11 =>
      (gtA p11.2 v0 11 3).bind fun x12 =>
      (rdI O p11.2 x12 (((nI 90) + ((nI 2) * s4)) + (nI 1))).bind fun x13 =>
      some (.inl ((if p11.1 = x13 then (nI 1) else (nI 0)), (s4 + nI 1), p11.2))
theorem e_X11_strangers_l19 {O : mO} {d : Nat} {v0 : Nat} {v1 : Int32} {v2 : Int32} {P : Option Value → mH → Prop} {x : Int32 × mH} (hex : ∀ q : Int32 × mH, x = q → Go O (d + 1) MX11_strangers 80 [some (.ref v0), some (.int v1), some (.int v2), some (.int q.1), none] [] q.2 P) : ∀ (f : Nat) (q : Int32 × Int32 × mH), lupF (fun (q : Int32 × Int32 × mH) => F_X11_strangers_l19 O d v0 v1 v2 q.1 q.2.1 q.2.2) f q = some x → Go O (d + 1) MX11_strangers 19 [some (.ref v0), some (.int v1), some (.int v2), some (.int q.1), some (.int q.2.1)] [] q.2.2 P := by
  intro f
  induction f with
  | zero =>
    intro q h
    cases h
  | succ f ih =>
    intro q h
    obtain ⟨y, h, hy1, hy2⟩ := lupF_s h
    have hin : ∀ q : Int32 × Int32 × mH, y = .inl q → Go O (d + 1) MX11_strangers 19 [some (.ref v0), some (.int v1), some (.int v2), some (.int q.1), some (.int q.2.1)] [] q.2.2 P := fun q e => ih q (hy1 q e)
    replace hex : ∀ q : Int32 × mH, y = .inr q → Go O (d + 1) MX11_strangers 80 [some (.ref v0), some (.int v1), some (.int v2), some (.int q.1), none] [] q.2 P := fun q e => hex q (hy2 q e).symm
    clear ih hy1 hy2
    obtain ⟨s3, s4, K⟩ := q
    dsimp only at h ⊢
    unfold F_X11_strangers_l19 at h
    refine g_iload dX11_strangers_19 rfl ?_
    refine g_aload_n dX11_strangers_21 rfl ?_
    obtain ⟨x4, ex4, h⟩ := bs h
    refine q_getA dX11_strangers_22 fX11_13 ex4 ?_
    refine g_iconst (v := (nI 3)) dX11_strangers_25 (by decide) ?_
    obtain ⟨x5, ex5, h⟩ := bs h
    refine q_iald dX11_strangers_26 ex5 ?_
    refine g_ic_ge (t := 80) dX11_strangers_27 (by decide) (fun c6 => ?_) (fun c6 => ?_)
    · rw [if_pos c6] at h
      refine Go_le ?_ (hex (s3, K) (Option.some.inj h).symm)
      exact And.intro rfl (And.intro rfl (And.intro rfl (And.intro rfl (trivial))))
    · rw [if_neg c6] at h
      refine g_iload_n dX11_strangers_30 rfl ?_
      refine g_if_eq (t := 72) dX11_strangers_31 (by decide) (fun c8 => ?_) (fun c8 => ?_)
      · rw [if_pos c8] at h
        refine Go_le ?_ (e_X11_strangers_j72 hin hex h)
        exact And.intro rfl (And.intro rfl (And.intro rfl (And.intro rfl (trivial))))
      · rw [if_neg c8] at h
        refine g_aload_n dX11_strangers_34 rfl ?_
        refine g_iload_n dX11_strangers_35 rfl ?_
        refine g_aload_n dX11_strangers_36 rfl ?_
        obtain ⟨x9, ex9, h⟩ := bs h
        refine q_getA dX11_strangers_37 fX11_13 ex9 ?_
        refine g_bipush (v := (nI 90)) dX11_strangers_40 (by decide) ?_
        refine g_iconst (v := (nI 2)) dX11_strangers_42 (by decide) ?_
        refine g_iload dX11_strangers_43 rfl ?_
        refine g_imul dX11_strangers_45 ?_
        refine g_iadd dX11_strangers_46 ?_
        obtain ⟨x10, ex10, h⟩ := bs h
        refine q_iald dX11_strangers_47 ex10 ?_
        obtain ⟨p11, ep11, h⟩ := bs h
        refine q_virt (Z := MX11_outIn) (c := (RX11, TX11, 56)) (toI_s ep11) dX11_strangers_48 mX11_479.1 mX11_479.2 (Nat.le_of_ble_eq_true rfl) rfl rfl (Nat.le_of_ble_eq_true rfl) (Nat.le_of_ble_eq_true rfl) rfl rfl ?_
        show Go O (d + 1) MX11_strangers 51 [some (.ref v0), some (.int v1), some (.int v2), some (.int s3), some (.int s4)] [.int p11.1] p11.2 P
        refine g_aload_n dX11_strangers_51 rfl ?_
        obtain ⟨x12, ex12, h⟩ := bs h
        refine q_getA dX11_strangers_52 fX11_13 ex12 ?_
        refine g_bipush (v := (nI 90)) dX11_strangers_55 (by decide) ?_
        refine g_iconst (v := (nI 2)) dX11_strangers_57 (by decide) ?_
        refine g_iload dX11_strangers_58 rfl ?_
        refine g_imul dX11_strangers_60 ?_
        refine g_iadd dX11_strangers_61 ?_
        refine g_iconst (v := (nI 1)) dX11_strangers_62 (by decide) ?_
        refine g_iadd dX11_strangers_63 ?_
        obtain ⟨x13, ex13, h⟩ := bs h
        refine q_iald dX11_strangers_64 ex13 ?_
        have hj : Go O (d + 1) MX11_strangers 73 [some (.ref v0), some (.int v1), some (.int v2), none, some (.int s4)] [.int (if p11.1 = x13 then (nI 1) else (nI 0))] p11.2 P := by
          refine g_istore_n (ls' := [some (.ref v0), some (.int v1), some (.int v2), some (.int (if p11.1 = x13 then (nI 1) else (nI 0))), some (.int s4)]) dX11_strangers_73 (by decide) rfl ?_
          refine q_iinc (w := nI 1) (ls' := [some (.ref v0), some (.int v1), some (.int v2), some (.int (if p11.1 = x13 then (nI 1) else (nI 0))), some (.int (s4 + nI 1))]) dX11_strangers_74 (by decide) rfl (by decide) rfl ?_
          refine g_goto (t := 19) dX11_strangers_77 (by decide) ?_
          refine Go_le ?_ (hin ((if p11.1 = x13 then (nI 1) else (nI 0)), (s4 + nI 1), p11.2) (Option.some.inj h).symm)
          exact And.intro rfl (And.intro rfl (And.intro rfl (And.intro rfl (And.intro rfl (trivial)))))
        refine g_ic_ne (t := 72) dX11_strangers_65 (by decide) (fun c14 => ?_) (fun c14 => ?_)
        · skip
          refine g_iconst (v := (nI 0)) dX11_strangers_72 (by decide) ?_
          have hk : Go O (d + 1) MX11_strangers 73 [some (.ref v0), some (.int v1), some (.int v2), none, some (.int s4)] [.int (nI 0)] p11.2 P := by simpa only [if_neg c14] using hj
          refine Go_le ?_ hk
          exact And.intro rfl (And.intro rfl (And.intro rfl (And.intro rfl (trivial))))
        · skip
          refine g_iconst (v := (nI 1)) dX11_strangers_68 (by decide) ?_
          refine g_goto (t := 73) dX11_strangers_69 (by decide) ?_
          have hk : Go O (d + 1) MX11_strangers 73 [some (.ref v0), some (.int v1), some (.int v2), none, some (.int s4)] [.int (nI 1)] p11.2 P := by simpa only [if_pos c14] using hj
          refine Go_le ?_ hk
          exact And.intro rfl (And.intro rfl (And.intro rfl (And.intro rfl (trivial))))
noncomputable def F_X11_strangers_l4 (O : mO) (d : Nat) (v0 : Nat) (s1 : Int32) (s2 : Int32) (K : mH) : Option ((Int32 × Int32 × mH) ⊕ (Int32 × mH)) :=
  (gtA K v0 11 3).bind fun x1 =>
  (rdI O K x1 (nI 2)).bind fun x2 =>
  if x2 ≤ s2 then
    some (.inr (s1, K))
  else
    (lupF (fun (q : Int32 × Int32 × mH) => F_X11_strangers_l19 O d v0 s1 s2 q.1 q.2.1 q.2.2) FU ((nI 1), (nI 0), K)).bind fun r15 =>
    some (.inl ((s1 ||| (if r15.1 = 0 then (nI 0) else ((nI 1) <<< (s2 &&& 31)))), (s2 + nI 1), r15.2))
theorem e_X11_strangers_l4 {O : mO} {d : Nat} {v0 : Nat} {P : Option Value → mH → Prop} {x : Int32 × mH} (hex : ∀ q : Int32 × mH, x = q → Go O (d + 1) MX11_strangers 100 [none, some (.int q.1), none, none, none] [] q.2 P) : ∀ (f : Nat) (q : Int32 × Int32 × mH), lupF (fun (q : Int32 × Int32 × mH) => F_X11_strangers_l4 O d v0 q.1 q.2.1 q.2.2) f q = some x → Go O (d + 1) MX11_strangers 4 [some (.ref v0), some (.int q.1), some (.int q.2.1), none, none] [] q.2.2 P := by
  intro f
  induction f with
  | zero =>
    intro q h
    cases h
  | succ f ih =>
    intro q h
    obtain ⟨y, h, hy1, hy2⟩ := lupF_s h
    have hin : ∀ q : Int32 × Int32 × mH, y = .inl q → Go O (d + 1) MX11_strangers 4 [some (.ref v0), some (.int q.1), some (.int q.2.1), none, none] [] q.2.2 P := fun q e => ih q (hy1 q e)
    replace hex : ∀ q : Int32 × mH, y = .inr q → Go O (d + 1) MX11_strangers 100 [none, some (.int q.1), none, none, none] [] q.2 P := fun q e => hex q (hy2 q e).symm
    clear ih hy1 hy2
    obtain ⟨s1, s2, K⟩ := q
    dsimp only at h ⊢
    unfold F_X11_strangers_l4 at h
    refine g_iload_n dX11_strangers_4 rfl ?_
    refine g_aload_n dX11_strangers_5 rfl ?_
    obtain ⟨x1, ex1, h⟩ := bs h
    refine q_getA dX11_strangers_6 fX11_13 ex1 ?_
    refine g_iconst (v := (nI 2)) dX11_strangers_9 (by decide) ?_
    obtain ⟨x2, ex2, h⟩ := bs h
    refine q_iald dX11_strangers_10 ex2 ?_
    refine g_ic_ge (t := 100) dX11_strangers_11 (by decide) (fun c3 => ?_) (fun c3 => ?_)
    · rw [if_pos c3] at h
      refine Go_le ?_ (hex (s1, K) (Option.some.inj h).symm)
      exact And.intro rfl (trivial)
    · rw [if_neg c3] at h
      refine g_iconst (v := (nI 1)) dX11_strangers_14 (by decide) ?_
      refine g_istore_n (ls' := [some (.ref v0), some (.int s1), some (.int s2), some (.int (nI 1)), none]) dX11_strangers_15 (by decide) rfl ?_
      refine g_iconst (v := (nI 0)) dX11_strangers_16 (by decide) ?_
      refine g_istore (ls' := [some (.ref v0), some (.int s1), some (.int s2), some (.int (nI 1)), some (.int (nI 0))]) dX11_strangers_17 (by decide) rfl ?_
      obtain ⟨r15, er15, h⟩ := bs h
      have hx : Go O (d + 1) MX11_strangers 80 [some (.ref v0), some (.int s1), some (.int s2), some (.int r15.1), none] [] r15.2 P := by
        refine g_iload_n dX11_strangers_80 rfl ?_
        refine g_iload_n dX11_strangers_81 rfl ?_
        have hj : Go O (d + 1) MX11_strangers 92 [some (.ref v0), none, some (.int s2), none, none] [.int (if r15.1 = 0 then (nI 0) else ((nI 1) <<< (s2 &&& 31))), .int s1] r15.2 P := by
          refine g_ior dX11_strangers_92 ?_
          refine g_istore_n (ls' := [some (.ref v0), some (.int (s1 ||| (if r15.1 = 0 then (nI 0) else ((nI 1) <<< (s2 &&& 31))))), some (.int s2), none, none]) dX11_strangers_93 (by decide) rfl ?_
          refine q_iinc (w := nI 1) (ls' := [some (.ref v0), some (.int (s1 ||| (if r15.1 = 0 then (nI 0) else ((nI 1) <<< (s2 &&& 31))))), some (.int (s2 + nI 1)), none, none]) dX11_strangers_94 (by decide) rfl (by decide) rfl ?_
          refine g_goto (t := 4) dX11_strangers_97 (by decide) ?_
          refine Go_le ?_ (hin ((s1 ||| (if r15.1 = 0 then (nI 0) else ((nI 1) <<< (s2 &&& 31)))), (s2 + nI 1), r15.2) (Option.some.inj h).symm)
          exact And.intro rfl (And.intro rfl (And.intro rfl (trivial)))
        refine g_if_eq (t := 91) dX11_strangers_82 (by decide) (fun c16 => ?_) (fun c16 => ?_)
        · skip
          refine g_iconst (v := (nI 0)) dX11_strangers_91 (by decide) ?_
          have hk : Go O (d + 1) MX11_strangers 92 [some (.ref v0), none, some (.int s2), none, none] [.int (nI 0), .int s1] r15.2 P := by simpa only [if_pos c16] using hj
          refine Go_le ?_ hk
          exact And.intro rfl (And.intro rfl (trivial))
        · skip
          refine g_iconst (v := (nI 1)) dX11_strangers_85 (by decide) ?_
          refine g_iload_n dX11_strangers_86 rfl ?_
          refine g_ishl dX11_strangers_87 ?_
          refine g_goto (t := 92) dX11_strangers_88 (by decide) ?_
          have hk : Go O (d + 1) MX11_strangers 92 [some (.ref v0), none, some (.int s2), none, none] [.int ((nI 1) <<< (s2 &&& 31)), .int s1] r15.2 P := by simpa only [if_neg c16] using hj
          refine Go_le ?_ hk
          exact And.intro rfl (And.intro rfl (trivial))
      refine Go_le ?_ (e_X11_strangers_l19 (fun q e => by cases e; exact hx) FU ((nI 1), (nI 0), K) er15)
      exact And.intro rfl (And.intro rfl (And.intro rfl (And.intro rfl (And.intro rfl (trivial)))))
noncomputable def F_X11_strangers (O : mO) (d : Nat) (a0 : Nat) (K : mH) : Option (Int32 × mH) :=
  (lupF (fun (q : Int32 × Int32 × mH) => F_X11_strangers_l4 O d a0 q.1 q.2.1 q.2.2) FU ((nI 0), (nI 0), K)).bind fun r17 =>
  some (r17.1, r17.2)
theorem e_X11_strangers {O : mO} {d : Nat} {a0 : Nat} {K : mH} {r0 : Int32} {K0 : mH} (h : F_X11_strangers O d a0 K = some (r0, K0)) : ev O (d + 1) MX11_strangers [.ref a0] K = some (some (.int r0), K0) := by
  refine Rn_evx ?_
  show Go O (d + 1) MX11_strangers 0 [some (.ref a0), none, none, none, none] [] K _
  generalize hP : (fun (r : Option Value) (K' : mH) => (r, K') = (some (.int r0), K0)) = P
  have hret : ∀ (r : Int32) (K' : mH), (r, K') = (r0, K0) → P (some (.int r)) K' := by
    intro r K' e
    cases e
    subst hP
    rfl
  clear hP
  unfold F_X11_strangers at h
  refine g_iconst (v := (nI 0)) dX11_strangers_0 (by decide) ?_
  refine g_istore_n (ls' := [some (.ref a0), some (.int (nI 0)), none, none, none]) dX11_strangers_1 (by decide) rfl ?_
  refine g_iconst (v := (nI 0)) dX11_strangers_2 (by decide) ?_
  refine g_istore_n (ls' := [some (.ref a0), some (.int (nI 0)), some (.int (nI 0)), none, none]) dX11_strangers_3 (by decide) rfl ?_
  obtain ⟨r17, er17, h⟩ := bs h
  have hx : Go O (d + 1) MX11_strangers 100 [none, some (.int r17.1), none, none, none] [] r17.2 P := by
    refine g_iload_n dX11_strangers_100 rfl ?_
    exact g_ireturn dX11_strangers_101 rfl (by first | rfl | decide) (hret _ _ (Option.some.inj h))
  refine Go_le ?_ (e_X11_strangers_l4 (fun q e => by cases e; exact hx) FU ((nI 0), (nI 0), K) er17)
  exact And.intro rfl (And.intro rfl (And.intro rfl (trivial)))
noncomputable def F_X11_stranger (O : mO) (d : Nat) (a0 : Nat) (K : mH) : Option (Int32 × mH) :=
  (ptI K a0 11 0 (nI 0)).bind fun K1 =>
  (toI (vc O d 11 MX11_strangers a0 [] K1)).bind fun p2 =>
  some (p2.1, p2.2)
theorem e_X11_stranger {O : mO} {d : Nat} {a0 : Nat} {K : mH} {r0 : Int32} {K0 : mH} (h : F_X11_stranger O d a0 K = some (r0, K0)) : ev O (d + 1) MX11_stranger [.ref a0] K = some (some (.int r0), K0) := by
  refine Rn_evx ?_
  show Go O (d + 1) MX11_stranger 0 [some (.ref a0)] [] K _
  generalize hP : (fun (r : Option Value) (K' : mH) => (r, K') = (some (.int r0), K0)) = P
  have hret : ∀ (r : Int32) (K' : mH), (r, K') = (r0, K0) → P (some (.int r)) K' := by
    intro r K' e
    cases e
    subst hP
    rfl
  clear hP
  unfold F_X11_stranger at h
  refine g_aload_n dX11_stranger_0 rfl ?_
  refine g_iconst (v := (nI 0)) dX11_stranger_1 (by decide) ?_
  obtain ⟨K1, eK1, h⟩ := bs h
  refine q_put (c := (RX11, TX11, 56)) dX11_stranger_2 fX11_149 rfl rfl rfl (fun h => absurd h (by decide)) eK1 ?_
  refine g_aload_n dX11_stranger_5 rfl ?_
  obtain ⟨p2, ep2, h⟩ := bs h
  refine q_virt (Z := MX11_strangers) (c := (RX11, TX11, 56)) (toI_s ep2) dX11_stranger_6 mX11_482.1 mX11_482.2 (Nat.le_of_ble_eq_true rfl) rfl rfl (Nat.le_of_ble_eq_true rfl) (Nat.le_of_ble_eq_true rfl) rfl rfl ?_
  show Go O (d + 1) MX11_stranger 9 [some (.ref a0)] [.int p2.1] p2.2 P
  exact g_ireturn dX11_stranger_9 rfl (by first | rfl | decide) (hret _ _ (Option.some.inj h))
noncomputable def F_X11_look_j83 (O : mO) (d : Nat) (v0 : Nat) (v1 : Int32) (v2 : Int32) (v3 : Int32) (v4 : Int32) (v5 : Int32) (v7 : Int32) (w0 : Int32) (w1 : Int32) (K : mH) : Option ((Int32 × Int32 × mH) ⊕ (Int32 × mH)) :=
  some (.inl ((w1 + w0), (v7 + nI 1), K))
theorem e_X11_look_j83 {O : mO} {d : Nat} {v0 : Nat} {v1 : Int32} {v2 : Int32} {v3 : Int32} {v4 : Int32} {v5 : Int32} {v7 : Int32} {w0 : Int32} {w1 : Int32} {K : mH} {P : Option Value → mH → Prop} {y : (Int32 × Int32 × mH) ⊕ (Int32 × mH)} (hin : ∀ q : Int32 × Int32 × mH, y = .inl q → Go O (d + 1) MX11_look 49 [some (.ref v0), some (.int v1), some (.int v2), some (.int v3), some (.int v4), some (.int v5), some (.int q.1), some (.int q.2.1)] [] q.2.2 P) (hex : ∀ q : Int32 × mH, y = .inr q → Go O (d + 1) MX11_look 92 [some (.ref v0), some (.int v1), some (.int v2), some (.int v3), some (.int v4), some (.int v5), some (.int q.1), none] [] q.2 P) (h : F_X11_look_j83 O d v0 v1 v2 v3 v4 v5 v7 w0 w1 K = some y) : Go O (d + 1) MX11_look 83 [some (.ref v0), some (.int v1), some (.int v2), some (.int v3), some (.int v4), some (.int v5), none, some (.int v7)] [.int w0, .int w1] K P := by
  unfold F_X11_look_j83 at h
  refine g_iadd dX11_look_83 ?_
  refine g_istore (ls' := [some (.ref v0), some (.int v1), some (.int v2), some (.int v3), some (.int v4), some (.int v5), some (.int (w1 + w0)), some (.int v7)]) dX11_look_84 (by decide) rfl ?_
  refine q_iinc (w := nI 1) (ls' := [some (.ref v0), some (.int v1), some (.int v2), some (.int v3), some (.int v4), some (.int v5), some (.int (w1 + w0)), some (.int (v7 + nI 1))]) dX11_look_86 (by decide) rfl (by decide) rfl ?_
  refine g_goto (t := 49) dX11_look_89 (by decide) ?_
  refine Go_le ?_ (hin ((w1 + w0), (v7 + nI 1), K) (Option.some.inj h).symm)
  exact And.intro rfl (And.intro rfl (And.intro rfl (And.intro rfl (And.intro rfl (And.intro rfl (And.intro rfl (And.intro rfl (trivial))))))))
noncomputable def F_X11_look_l49 (O : mO) (d : Nat) (v0 : Nat) (v1 : Int32) (v2 : Int32) (v3 : Int32) (v4 : Int32) (v5 : Int32) (s6 : Int32) (s7 : Int32) (K : mH) : Option ((Int32 × Int32 × mH) ⊕ (Int32 × mH)) :=
  (gtA K v0 11 3).bind fun x7 =>
  (rdI O K x7 (nI 2)).bind fun x8 =>
  if x8 ≤ s7 then
    some (.inr (s6, K))
  else
    (toI (ev O d MX11_is [.int v2, .int s7] K)).bind fun p10 =>
    if p10.1 = 0 then
      F_X11_look_j83 O d v0 v1 v2 v3 v4 v5 s7 (nI 0) s6 p10.2
    else
      (toI (vc O d 11 MX11_outIn v0 [.int s7, .int v5] p10.2)).bind fun p13 =>
      F_X11_look_j83 O d v0 v1 v2 v3 v4 v5 s7 p13.1 s6 p13.2
theorem e_X11_look_l49 {O : mO} {d : Nat} {v0 : Nat} {v1 : Int32} {v2 : Int32} {v3 : Int32} {v4 : Int32} {v5 : Int32} {P : Option Value → mH → Prop} {x : Int32 × mH} (hex : ∀ q : Int32 × mH, x = q → Go O (d + 1) MX11_look 92 [some (.ref v0), some (.int v1), some (.int v2), some (.int v3), some (.int v4), some (.int v5), some (.int q.1), none] [] q.2 P) : ∀ (f : Nat) (q : Int32 × Int32 × mH), lupF (fun (q : Int32 × Int32 × mH) => F_X11_look_l49 O d v0 v1 v2 v3 v4 v5 q.1 q.2.1 q.2.2) f q = some x → Go O (d + 1) MX11_look 49 [some (.ref v0), some (.int v1), some (.int v2), some (.int v3), some (.int v4), some (.int v5), some (.int q.1), some (.int q.2.1)] [] q.2.2 P := by
  intro f
  induction f with
  | zero =>
    intro q h
    cases h
  | succ f ih =>
    intro q h
    obtain ⟨y, h, hy1, hy2⟩ := lupF_s h
    have hin : ∀ q : Int32 × Int32 × mH, y = .inl q → Go O (d + 1) MX11_look 49 [some (.ref v0), some (.int v1), some (.int v2), some (.int v3), some (.int v4), some (.int v5), some (.int q.1), some (.int q.2.1)] [] q.2.2 P := fun q e => ih q (hy1 q e)
    replace hex : ∀ q : Int32 × mH, y = .inr q → Go O (d + 1) MX11_look 92 [some (.ref v0), some (.int v1), some (.int v2), some (.int v3), some (.int v4), some (.int v5), some (.int q.1), none] [] q.2 P := fun q e => hex q (hy2 q e).symm
    clear ih hy1 hy2
    obtain ⟨s6, s7, K⟩ := q
    dsimp only at h ⊢
    unfold F_X11_look_l49 at h
    refine g_iload dX11_look_49 rfl ?_
    refine g_aload_n dX11_look_51 rfl ?_
    obtain ⟨x7, ex7, h⟩ := bs h
    refine q_getA dX11_look_52 fX11_13 ex7 ?_
    refine g_iconst (v := (nI 2)) dX11_look_55 (by decide) ?_
    obtain ⟨x8, ex8, h⟩ := bs h
    refine q_iald dX11_look_56 ex8 ?_
    refine g_ic_ge (t := 92) dX11_look_57 (by decide) (fun c9 => ?_) (fun c9 => ?_)
    · rw [if_pos c9] at h
      refine Go_le ?_ (hex (s6, K) (Option.some.inj h).symm)
      exact And.intro rfl (And.intro rfl (And.intro rfl (And.intro rfl (And.intro rfl (And.intro rfl (And.intro rfl (trivial)))))))
    · rw [if_neg c9] at h
      refine g_iload dX11_look_60 rfl ?_
      refine g_iload_n dX11_look_62 rfl ?_
      refine g_iload dX11_look_63 rfl ?_
      obtain ⟨p10, ep10, h⟩ := bs h
      refine q_stat (Z := MX11_is) (toI_s ep10) dX11_look_65 mX11_476.1 mX11_476.2 (Nat.le_of_ble_eq_true rfl) rfl rfl (Nat.le_of_ble_eq_true rfl) (Nat.le_of_ble_eq_true rfl) ?_
      show Go O (d + 1) MX11_look 68 [some (.ref v0), some (.int v1), some (.int v2), some (.int v3), some (.int v4), some (.int v5), some (.int s6), some (.int s7)] [.int p10.1, .int s6] p10.2 P
      refine g_if_eq (t := 82) dX11_look_68 (by decide) (fun c12 => ?_) (fun c12 => ?_)
      · rw [if_pos c12] at h
        refine g_iconst (v := (nI 0)) dX11_look_82 (by decide) ?_
        refine Go_le ?_ (e_X11_look_j83 hin hex h)
        exact And.intro rfl (And.intro rfl (And.intro rfl (And.intro rfl (And.intro rfl (And.intro rfl (And.intro rfl (trivial)))))))
      · rw [if_neg c12] at h
        refine g_aload_n dX11_look_71 rfl ?_
        refine g_iload dX11_look_72 rfl ?_
        refine g_iload dX11_look_74 rfl ?_
        obtain ⟨p13, ep13, h⟩ := bs h
        refine q_virt (Z := MX11_outIn) (c := (RX11, TX11, 56)) (toI_s ep13) dX11_look_76 mX11_479.1 mX11_479.2 (Nat.le_of_ble_eq_true rfl) rfl rfl (Nat.le_of_ble_eq_true rfl) (Nat.le_of_ble_eq_true rfl) rfl rfl ?_
        show Go O (d + 1) MX11_look 79 [some (.ref v0), some (.int v1), some (.int v2), some (.int v3), some (.int v4), some (.int v5), some (.int s6), some (.int s7)] [.int p13.1, .int s6] p13.2 P
        refine g_goto (t := 83) dX11_look_79 (by decide) ?_
        refine Go_le ?_ (e_X11_look_j83 hin hex h)
        exact And.intro rfl (And.intro rfl (And.intro rfl (And.intro rfl (And.intro rfl (And.intro rfl (And.intro rfl (trivial)))))))
noncomputable def F_X11_look_j116 (O : mO) (d : Nat) (v0 : Nat) (v1 : Int32) (v2 : Int32) (v3 : Int32) (v4 : Int32) (v5 : Int32) (w0 : Int32) (K : mH) : Option ((Int32 × Int32 × Int32 × mH) ⊕ (Int32 × Int32 × mH)) :=
  some (.inl ((if v3 ≤ w0 then v3 else w0), (if v3 ≤ w0 then v4 else v5), (v5 + nI 1), K))
theorem e_X11_look_j116 {O : mO} {d : Nat} {v0 : Nat} {v1 : Int32} {v2 : Int32} {v3 : Int32} {v4 : Int32} {v5 : Int32} {w0 : Int32} {K : mH} {P : Option Value → mH → Prop} {y : (Int32 × Int32 × Int32 × mH) ⊕ (Int32 × Int32 × mH)} (hin : ∀ q : Int32 × Int32 × Int32 × mH, y = .inl q → Go O (d + 1) MX11_look 36 [some (.ref v0), some (.int v1), some (.int v2), some (.int q.1), some (.int q.2.1), some (.int q.2.2.1), none, none] [] q.2.2.2 P) (hex : ∀ q : Int32 × Int32 × mH, y = .inr q → Go O (d + 1) MX11_look 152 [none, some (.int v1), none, some (.int q.1), some (.int q.2.1), none, none, none] [] q.2.2 P) (h : F_X11_look_j116 O d v0 v1 v2 v3 v4 v5 w0 K = some y) : Go O (d + 1) MX11_look 116 [some (.ref v0), some (.int v1), some (.int v2), some (.int v3), some (.int v4), some (.int v5), none, none] [.int w0] K P := by
  unfold F_X11_look_j116 at h
  refine g_istore (ls' := [some (.ref v0), some (.int v1), some (.int v2), some (.int v3), some (.int v4), some (.int v5), none, some (.int w0)]) dX11_look_116 (by decide) rfl ?_
  refine g_iload dX11_look_118 rfl ?_
  refine g_iload_n dX11_look_120 rfl ?_
  have hj : Go O (d + 1) MX11_look 131 [some (.ref v0), some (.int v1), some (.int v2), some (.int v3), none, some (.int v5), none, some (.int w0)] [.int (if v3 ≤ w0 then v4 else v5)] K P := by
    refine g_istore (ls' := [some (.ref v0), some (.int v1), some (.int v2), some (.int v3), some (.int (if v3 ≤ w0 then v4 else v5)), some (.int v5), none, some (.int w0)]) dX11_look_131 (by decide) rfl ?_
    refine g_iload dX11_look_133 rfl ?_
    refine g_iload_n dX11_look_135 rfl ?_
    have hj : Go O (d + 1) MX11_look 145 [some (.ref v0), some (.int v1), some (.int v2), none, some (.int (if v3 ≤ w0 then v4 else v5)), some (.int v5), none, none] [.int (if v3 ≤ w0 then v3 else w0)] K P := by
      refine g_istore_n (ls' := [some (.ref v0), some (.int v1), some (.int v2), some (.int (if v3 ≤ w0 then v3 else w0)), some (.int (if v3 ≤ w0 then v4 else v5)), some (.int v5), none, none]) dX11_look_145 (by decide) rfl ?_
      refine q_iinc (w := nI 1) (ls' := [some (.ref v0), some (.int v1), some (.int v2), some (.int (if v3 ≤ w0 then v3 else w0)), some (.int (if v3 ≤ w0 then v4 else v5)), some (.int (v5 + nI 1)), none, none]) dX11_look_146 (by decide) rfl (by decide) rfl ?_
      refine g_goto (t := 36) dX11_look_149 (by decide) ?_
      refine Go_le ?_ (hin ((if v3 ≤ w0 then v3 else w0), (if v3 ≤ w0 then v4 else v5), (v5 + nI 1), K) (Option.some.inj h).symm)
      exact And.intro rfl (And.intro rfl (And.intro rfl (And.intro rfl (And.intro rfl (And.intro rfl (trivial))))))
    refine g_ic_ge (t := 144) dX11_look_136 (by decide) (fun c20 => ?_) (fun c20 => ?_)
    · skip
      refine g_iload_n dX11_look_144 rfl ?_
      have hk : Go O (d + 1) MX11_look 145 [some (.ref v0), some (.int v1), some (.int v2), none, some (.int (if v3 ≤ w0 then v4 else v5)), some (.int v5), none, none] [.int v3] K P := by simpa only [if_pos c20] using hj
      refine Go_le ?_ hk
      exact And.intro rfl (And.intro rfl (And.intro rfl (And.intro rfl (And.intro rfl (trivial)))))
    · skip
      refine g_iload dX11_look_139 rfl ?_
      refine g_goto (t := 145) dX11_look_141 (by decide) ?_
      have hk : Go O (d + 1) MX11_look 145 [some (.ref v0), some (.int v1), some (.int v2), none, some (.int (if v3 ≤ w0 then v4 else v5)), some (.int v5), none, none] [.int w0] K P := by simpa only [if_neg c20] using hj
      refine Go_le ?_ hk
      exact And.intro rfl (And.intro rfl (And.intro rfl (And.intro rfl (And.intro rfl (trivial)))))
  refine g_ic_ge (t := 129) dX11_look_121 (by decide) (fun c19 => ?_) (fun c19 => ?_)
  · skip
    refine g_iload dX11_look_129 rfl ?_
    have hk : Go O (d + 1) MX11_look 131 [some (.ref v0), some (.int v1), some (.int v2), some (.int v3), none, some (.int v5), none, some (.int w0)] [.int v4] K P := by simpa only [if_pos c19] using hj
    refine Go_le ?_ hk
    exact And.intro rfl (And.intro rfl (And.intro rfl (And.intro rfl (And.intro rfl (And.intro rfl (trivial))))))
  · skip
    refine g_iload dX11_look_124 rfl ?_
    refine g_goto (t := 131) dX11_look_126 (by decide) ?_
    have hk : Go O (d + 1) MX11_look 131 [some (.ref v0), some (.int v1), some (.int v2), some (.int v3), none, some (.int v5), none, some (.int w0)] [.int v5] K P := by simpa only [if_neg c19] using hj
    refine Go_le ?_ hk
    exact And.intro rfl (And.intro rfl (And.intro rfl (And.intro rfl (And.intro rfl (And.intro rfl (trivial))))))
noncomputable def F_X11_look_l36 (O : mO) (d : Nat) (v0 : Nat) (v1 : Int32) (v2 : Int32) (s3 : Int32) (s4 : Int32) (s5 : Int32) (K : mH) : Option ((Int32 × Int32 × Int32 × mH) ⊕ (Int32 × Int32 × mH)) :=
  if (nI 99) < s5 then
    some (.inr (s3, s4, K))
  else
    (lupF (fun (q : Int32 × Int32 × mH) => F_X11_look_l49 O d v0 v1 v2 s3 s4 s5 q.1 q.2.1 q.2.2) FU ((nI 0), (nI 0), K)).bind fun r14 =>
    (toI (ev O d MX11_ones [.int v2] r14.2)).bind fun p15 =>
    if r14.1 ≤ (p15.1 - r14.1) then
      (toI (ev O d MX11_ones [.int v2] p15.2)).bind fun p18 =>
      F_X11_look_j116 O d v0 v1 v2 s3 s4 s5 (p18.1 - r14.1) p18.2
    else
      F_X11_look_j116 O d v0 v1 v2 s3 s4 s5 r14.1 p15.2
theorem e_X11_look_l36 {O : mO} {d : Nat} {v0 : Nat} {v1 : Int32} {v2 : Int32} {P : Option Value → mH → Prop} {x : Int32 × Int32 × mH} (hex : ∀ q : Int32 × Int32 × mH, x = q → Go O (d + 1) MX11_look 152 [none, some (.int v1), none, some (.int q.1), some (.int q.2.1), none, none, none] [] q.2.2 P) : ∀ (f : Nat) (q : Int32 × Int32 × Int32 × mH), lupF (fun (q : Int32 × Int32 × Int32 × mH) => F_X11_look_l36 O d v0 v1 v2 q.1 q.2.1 q.2.2.1 q.2.2.2) f q = some x → Go O (d + 1) MX11_look 36 [some (.ref v0), some (.int v1), some (.int v2), some (.int q.1), some (.int q.2.1), some (.int q.2.2.1), none, none] [] q.2.2.2 P := by
  intro f
  induction f with
  | zero =>
    intro q h
    cases h
  | succ f ih =>
    intro q h
    obtain ⟨y, h, hy1, hy2⟩ := lupF_s h
    have hin : ∀ q : Int32 × Int32 × Int32 × mH, y = .inl q → Go O (d + 1) MX11_look 36 [some (.ref v0), some (.int v1), some (.int v2), some (.int q.1), some (.int q.2.1), some (.int q.2.2.1), none, none] [] q.2.2.2 P := fun q e => ih q (hy1 q e)
    replace hex : ∀ q : Int32 × Int32 × mH, y = .inr q → Go O (d + 1) MX11_look 152 [none, some (.int v1), none, some (.int q.1), some (.int q.2.1), none, none, none] [] q.2.2 P := fun q e => hex q (hy2 q e).symm
    clear ih hy1 hy2
    obtain ⟨s3, s4, s5, K⟩ := q
    dsimp only at h ⊢
    unfold F_X11_look_l36 at h
    refine g_iload dX11_look_36 rfl ?_
    refine g_bipush (v := (nI 99)) dX11_look_38 (by decide) ?_
    refine g_ic_gt (t := 152) dX11_look_40 (by decide) (fun c6 => ?_) (fun c6 => ?_)
    · rw [if_pos c6] at h
      refine Go_le ?_ (hex (s3, s4, K) (Option.some.inj h).symm)
      exact And.intro rfl (And.intro rfl (And.intro rfl (trivial)))
    · rw [if_neg c6] at h
      refine g_iconst (v := (nI 0)) dX11_look_43 (by decide) ?_
      refine g_istore (ls' := [some (.ref v0), some (.int v1), some (.int v2), some (.int s3), some (.int s4), some (.int s5), some (.int (nI 0)), none]) dX11_look_44 (by decide) rfl ?_
      refine g_iconst (v := (nI 0)) dX11_look_46 (by decide) ?_
      refine g_istore (ls' := [some (.ref v0), some (.int v1), some (.int v2), some (.int s3), some (.int s4), some (.int s5), some (.int (nI 0)), some (.int (nI 0))]) dX11_look_47 (by decide) rfl ?_
      obtain ⟨r14, er14, h⟩ := bs h
      have hx : Go O (d + 1) MX11_look 92 [some (.ref v0), some (.int v1), some (.int v2), some (.int s3), some (.int s4), some (.int s5), some (.int r14.1), none] [] r14.2 P := by
        refine g_iload dX11_look_92 rfl ?_
        refine g_iload_n dX11_look_94 rfl ?_
        obtain ⟨p15, ep15, h⟩ := bs h
        refine q_stat (Z := MX11_ones) (toI_s ep15) dX11_look_95 mX11_179.1 mX11_179.2 (Nat.le_of_ble_eq_true rfl) rfl rfl (Nat.le_of_ble_eq_true rfl) (Nat.le_of_ble_eq_true rfl) ?_
        show Go O (d + 1) MX11_look 98 [some (.ref v0), some (.int v1), some (.int v2), some (.int s3), some (.int s4), some (.int s5), some (.int r14.1), none] [.int p15.1, .int r14.1] p15.2 P
        refine g_iload dX11_look_98 rfl ?_
        refine g_isub dX11_look_100 ?_
        refine g_ic_le (t := 109) dX11_look_101 (by decide) (fun c17 => ?_) (fun c17 => ?_)
        · rw [if_pos c17] at h
          refine g_iload_n dX11_look_109 rfl ?_
          obtain ⟨p18, ep18, h⟩ := bs h
          refine q_stat (Z := MX11_ones) (toI_s ep18) dX11_look_110 mX11_179.1 mX11_179.2 (Nat.le_of_ble_eq_true rfl) rfl rfl (Nat.le_of_ble_eq_true rfl) (Nat.le_of_ble_eq_true rfl) ?_
          show Go O (d + 1) MX11_look 113 [some (.ref v0), some (.int v1), some (.int v2), some (.int s3), some (.int s4), some (.int s5), some (.int r14.1), none] [.int p18.1] p18.2 P
          refine g_iload dX11_look_113 rfl ?_
          refine g_isub dX11_look_115 ?_
          refine Go_le ?_ (e_X11_look_j116 hin hex h)
          exact And.intro rfl (And.intro rfl (And.intro rfl (And.intro rfl (And.intro rfl (And.intro rfl (trivial))))))
        · rw [if_neg c17] at h
          refine g_iload dX11_look_104 rfl ?_
          refine g_goto (t := 116) dX11_look_106 (by decide) ?_
          refine Go_le ?_ (e_X11_look_j116 hin hex h)
          exact And.intro rfl (And.intro rfl (And.intro rfl (And.intro rfl (And.intro rfl (And.intro rfl (trivial))))))
      refine Go_le ?_ (e_X11_look_l49 (fun q e => by cases e; exact hx) FU ((nI 0), (nI 0), K) er14)
      exact And.intro rfl (And.intro rfl (And.intro rfl (And.intro rfl (And.intro rfl (And.intro rfl (And.intro rfl (And.intro rfl (trivial))))))))
noncomputable def F_X11_look (O : mO) (d : Nat) (a0 : Nat) (a1 : Int32) (K : mH) : Option (Int32 × mH) :=
  (ptI K a0 11 0 (nI 0)).bind fun K1 =>
  (toI (vc O d 11 MX11_strangers a0 [] K1)).bind fun p2 =>
  (toI (ev O d MX11_in [.long a1.toInt64, .long 0, .long 1] p2.2)).bind fun p3 =>
  if p3.1 = 0 then
    some ((-1), p3.2)
  else
    if p2.1 = 0 then
      some ((-1), p3.2)
    else
      (lupF (fun (q : Int32 × Int32 × Int32 × mH) => F_X11_look_l36 O d a0 a1 p2.1 q.1 q.2.1 q.2.2.1 q.2.2.2) FU ((100000000), (-1), (nI 0), p3.2)).bind fun r21 =>
      some ((if a1 = 0 then r21.2.1 else r21.1), r21.2.2)
theorem e_X11_look {O : mO} {d : Nat} {a0 : Nat} {a1 : Int32} {K : mH} {r0 : Int32} {K0 : mH} (h : F_X11_look O d a0 a1 K = some (r0, K0)) : ev O (d + 1) MX11_look [.ref a0, .int a1] K = some (some (.int r0), K0) := by
  refine Rn_evx ?_
  show Go O (d + 1) MX11_look 0 [some (.ref a0), some (.int a1), none, none, none, none, none, none] [] K _
  generalize hP : (fun (r : Option Value) (K' : mH) => (r, K') = (some (.int r0), K0)) = P
  have hret : ∀ (r : Int32) (K' : mH), (r, K') = (r0, K0) → P (some (.int r)) K' := by
    intro r K' e
    cases e
    subst hP
    rfl
  clear hP
  unfold F_X11_look at h
  refine g_aload_n dX11_look_0 rfl ?_
  refine g_iconst (v := (nI 0)) dX11_look_1 (by decide) ?_
  obtain ⟨K1, eK1, h⟩ := bs h
  refine q_put (c := (RX11, TX11, 56)) dX11_look_2 fX11_149 rfl rfl rfl (fun h => absurd h (by decide)) eK1 ?_
  refine g_aload_n dX11_look_5 rfl ?_
  obtain ⟨p2, ep2, h⟩ := bs h
  refine q_virt (Z := MX11_strangers) (c := (RX11, TX11, 56)) (toI_s ep2) dX11_look_6 mX11_482.1 mX11_482.2 (Nat.le_of_ble_eq_true rfl) rfl rfl (Nat.le_of_ble_eq_true rfl) (Nat.le_of_ble_eq_true rfl) rfl rfl ?_
  show Go O (d + 1) MX11_look 9 [some (.ref a0), some (.int a1), none, none, none, none, none, none] [.int p2.1] p2.2 P
  refine g_istore_n (ls' := [some (.ref a0), some (.int a1), some (.int p2.1), none, none, none, none, none]) dX11_look_9 (by decide) rfl ?_
  refine g_iload_n dX11_look_10 rfl ?_
  refine g_i2l dX11_look_11 ?_
  refine g_lconst (v := 0) dX11_look_12 (by decide) ?_
  refine g_lconst (v := 1) dX11_look_13 (by decide) ?_
  obtain ⟨p3, ep3, h⟩ := bs h
  refine q_stat (Z := MX11_in) (toI_s ep3) dX11_look_14 mX11_169.1 mX11_169.2 (Nat.le_of_ble_eq_true rfl) rfl rfl (Nat.le_of_ble_eq_true rfl) (Nat.le_of_ble_eq_true rfl) ?_
  show Go O (d + 1) MX11_look 17 [some (.ref a0), some (.int a1), some (.int p2.1), none, none, none, none, none] [.int p3.1] p3.2 P
  refine g_if_eq (t := 24) dX11_look_17 (by decide) (fun c4 => ?_) (fun c4 => ?_)
  · rw [if_pos c4] at h
    refine g_iconst (v := (-1)) dX11_look_24 (by decide) ?_
    exact g_ireturn dX11_look_25 rfl (by first | rfl | decide) (hret _ _ (Option.some.inj h))
  · rw [if_neg c4] at h
    refine g_iload_n dX11_look_20 rfl ?_
    refine g_if_ne (t := 26) dX11_look_21 (by decide) (fun c5 => ?_) (fun c5 => ?_)
    · rw [if_neg c5] at h
      refine g_ldcwI (v := 100000000) dX11_look_26 iX11_470 ?_
      refine g_istore_n (ls' := [some (.ref a0), some (.int a1), some (.int p2.1), some (.int (100000000)), none, none, none, none]) dX11_look_29 (by decide) rfl ?_
      refine g_iconst (v := (-1)) dX11_look_30 (by decide) ?_
      refine g_istore (ls' := [some (.ref a0), some (.int a1), some (.int p2.1), some (.int (100000000)), some (.int (-1)), none, none, none]) dX11_look_31 (by decide) rfl ?_
      refine g_iconst (v := (nI 0)) dX11_look_33 (by decide) ?_
      refine g_istore (ls' := [some (.ref a0), some (.int a1), some (.int p2.1), some (.int (100000000)), some (.int (-1)), some (.int (nI 0)), none, none]) dX11_look_34 (by decide) rfl ?_
      obtain ⟨r21, er21, h⟩ := bs h
      have hx : Go O (d + 1) MX11_look 152 [none, some (.int a1), none, some (.int r21.1), some (.int r21.2.1), none, none, none] [] r21.2.2 P := by
        refine g_iload_n dX11_look_152 rfl ?_
        have hj : Go O (d + 1) MX11_look 162 [none, none, none, none, none, none, none, none] [.int (if a1 = 0 then r21.2.1 else r21.1)] r21.2.2 P := by
          exact g_ireturn dX11_look_162 rfl (by first | rfl | decide) (hret _ _ (Option.some.inj h))
        refine g_if_ne (t := 161) dX11_look_153 (by decide) (fun c22 => ?_) (fun c22 => ?_)
        · skip
          refine g_iload_n dX11_look_161 rfl ?_
          have hk : Go O (d + 1) MX11_look 162 [none, none, none, none, none, none, none, none] [.int r21.1] r21.2.2 P := by simpa only [if_neg c22] using hj
          refine Go_le ?_ hk
          exact trivial
        · skip
          refine g_iload dX11_look_156 rfl ?_
          refine g_goto (t := 162) dX11_look_158 (by decide) ?_
          have hk : Go O (d + 1) MX11_look 162 [none, none, none, none, none, none, none, none] [.int r21.2.1] r21.2.2 P := by simpa only [if_pos c22] using hj
          refine Go_le ?_ hk
          exact trivial
      refine Go_le ?_ (e_X11_look_l36 (fun q e => by cases e; exact hx) FU ((100000000), (-1), (nI 0), p3.2) er21)
      exact And.intro rfl (And.intro rfl (And.intro rfl (And.intro rfl (And.intro rfl (And.intro rfl (trivial))))))
    · rw [if_pos c5] at h
      refine g_iconst (v := (-1)) dX11_look_24 (by decide) ?_
      exact g_ireturn dX11_look_25 rfl (by first | rfl | decide) (hret _ _ (Option.some.inj h))
