/-! methods as functions, by gen50.py -/
noncomputable def F_X0_init (O : mO) (d : Nat) (a0 : Nat) (a1 : Nat) (K : mH) : Option (mH) :=
  (nwV K .int (nI 9)).bind fun p1 =>
  (ptA p1.2 a0 0 1 p1.1).bind fun K2 =>
  (ptA K2 a0 0 0 a1).bind fun K3 =>
  some K3
theorem e_X0_init {O : mO} {d : Nat} {a0 : Nat} {a1 : Nat} {K : mH} {x : mH} (h : F_X0_init O d a0 a1 K = some x) : ev O (d + 1) MX0_init [.ref a0, .ref a1] K = some (none, x) := by
  refine Rn_evx ?_
  show Go O (d + 1) MX0_init 0 [some (.ref a0), some (.ref a1)] [] K _
  generalize hP : (fun (r : Option Value) (K' : mH) => (r, K') = (none, x)) = P
  have hret : ∀ K' : mH, K' = x → P none K' := by
    intro K' e
    subst hP e
    rfl
  clear hP
  unfold F_X0_init at h
  refine g_aload_n dX0_init_0 rfl ?_
  refine g_obj dX0_init_1 (by decide +kernel) (Nat.le_of_ble_eq_true rfl) ?_
  refine g_aload_n dX0_init_4 rfl ?_
  refine g_bipush (v := (nI 9)) dX0_init_5 (by decide) ?_
  obtain ⟨p1, ep1, h⟩ := bs h
  refine q_newa dX0_init_7 ep1 ?_
  obtain ⟨K2, eK2, h⟩ := bs h
  refine q_put (c := (RX0, TX0, 2)) dX0_init_9 fX0_11 rfl rfl rfl (fun _ => ⟨rfl, rfl⟩) eK2 ?_
  refine g_aload_n dX0_init_12 rfl ?_
  refine g_aload_n dX0_init_13 rfl ?_
  obtain ⟨K3, eK3, h⟩ := bs h
  refine q_put (c := (RX0, TX0, 2)) dX0_init_14 fX0_15 rfl rfl rfl (fun _ => ⟨rfl, rfl⟩) eK3 ?_
  exact g_return dX0_init_17 rfl (hret _ (Option.some.inj h))
noncomputable def F_X1_init (O : mO) (d : Nat) (a0 : Nat) (K : mH) : Option (mH) :=
  (ptI K a0 1 0 (nI 0)).bind fun K1 =>
  some K1
theorem e_X1_init {O : mO} {d : Nat} {a0 : Nat} {K : mH} {x : mH} (h : F_X1_init O d a0 K = some x) : ev O (d + 1) MX1_init [.ref a0] K = some (none, x) := by
  refine Rn_evx ?_
  show Go O (d + 1) MX1_init 0 [some (.ref a0)] [] K _
  generalize hP : (fun (r : Option Value) (K' : mH) => (r, K') = (none, x)) = P
  have hret : ∀ K' : mH, K' = x → P none K' := by
    intro K' e
    subst hP e
    rfl
  clear hP
  unfold F_X1_init at h
  refine g_aload_n dX1_init_0 rfl ?_
  refine g_obj dX1_init_1 (by decide +kernel) (Nat.le_of_ble_eq_true rfl) ?_
  refine g_aload_n dX1_init_4 rfl ?_
  refine g_iconst (v := (nI 0)) dX1_init_5 (by decide) ?_
  obtain ⟨K1, eK1, h⟩ := bs h
  refine q_put (c := (RX1, TX1, 1)) dX1_init_6 fX1_7 rfl rfl rfl (fun h => absurd h (by decide)) eK1 ?_
  exact g_return dX1_init_9 rfl (hret _ (Option.some.inj h))
noncomputable def F_X2_init (O : mO) (d : Nat) (a0 : Nat) (a1 : Nat) (K : mH) : Option (mH) :=
  (nwV K .int (nI 5)).bind fun p1 =>
  (ptA p1.2 a0 2 1 p1.1).bind fun K2 =>
  (nwV K2 .int (nI 4)).bind fun p3 =>
  (ptA p3.2 a0 2 2 p3.1).bind fun K4 =>
  (nwV K4 .int (nI 8)).bind fun p5 =>
  (ptA p5.2 a0 2 3 p5.1).bind fun K6 =>
  (nwV K6 .int (nI 8)).bind fun p7 =>
  (ptA p7.2 a0 2 4 p7.1).bind fun K8 =>
  (nwV K8 .int (nI 8)).bind fun p9 =>
  (ptA p9.2 a0 2 5 p9.1).bind fun K10 =>
  (nwV K10 .int (nI 40)).bind fun p11 =>
  (ptA p11.2 a0 2 6 p11.1).bind fun K12 =>
  (nwV K12 .int (nI 8)).bind fun p13 =>
  (ptA p13.2 a0 2 7 p13.1).bind fun K14 =>
  (nwV K14 .int (nI 8)).bind fun p15 =>
  (ptA p15.2 a0 2 8 p15.1).bind fun K16 =>
  (nwV K16 .int (nI 3)).bind fun p17 =>
  (wrI p17.2 p17.1 (nI 0) (nI 0)).bind fun K18 =>
  (wrI K18 p17.1 (nI 1) (nI 2)).bind fun K19 =>
  (wrI K19 p17.1 (nI 2) (nI 0)).bind fun K20 =>
  (ptA K20 a0 2 9 p17.1).bind fun K21 =>
  (nwR K21 5 (nI 6)).bind fun p22 =>
  (ptA p22.2 a0 2 10 p22.1).bind fun K23 =>
  (ptI K23 a0 2 11 (nI 0)).bind fun K24 =>
  (ptI K24 a0 2 12 (nI 0)).bind fun K25 =>
  (ptI K25 a0 2 13 (nI 0)).bind fun K26 =>
  (ptI K26 a0 2 14 (nI 0)).bind fun K27 =>
  (ptI K27 a0 2 15 (nI 0)).bind fun K28 =>
  (ptI K28 a0 2 16 (nI 0)).bind fun K29 =>
  (ptI K29 a0 2 17 (-1)).bind fun K30 =>
  (ptA K30 a0 2 0 a1).bind fun K31 =>
  some K31
theorem e_X2_init {O : mO} {d : Nat} {a0 : Nat} {a1 : Nat} {K : mH} {x : mH} (h : F_X2_init O d a0 a1 K = some x) : ev O (d + 1) MX2_init [.ref a0, .ref a1] K = some (none, x) := by
  refine Rn_evx ?_
  show Go O (d + 1) MX2_init 0 [some (.ref a0), some (.ref a1)] [] K _
  generalize hP : (fun (r : Option Value) (K' : mH) => (r, K') = (none, x)) = P
  have hret : ∀ K' : mH, K' = x → P none K' := by
    intro K' e
    subst hP e
    rfl
  clear hP
  unfold F_X2_init at h
  refine g_aload_n dX2_init_0 rfl ?_
  refine g_obj dX2_init_1 (by decide +kernel) (Nat.le_of_ble_eq_true rfl) ?_
  refine g_aload_n dX2_init_4 rfl ?_
  refine g_iconst (v := (nI 5)) dX2_init_5 (by decide) ?_
  obtain ⟨p1, ep1, h⟩ := bs h
  refine q_newa dX2_init_6 ep1 ?_
  obtain ⟨K2, eK2, h⟩ := bs h
  refine q_put (c := (RX2, TX2, 18)) dX2_init_8 fX2_9 rfl rfl rfl (fun _ => ⟨rfl, rfl⟩) eK2 ?_
  refine g_aload_n dX2_init_11 rfl ?_
  refine g_iconst (v := (nI 4)) dX2_init_12 (by decide) ?_
  obtain ⟨p3, ep3, h⟩ := bs h
  refine q_newa dX2_init_13 ep3 ?_
  obtain ⟨K4, eK4, h⟩ := bs h
  refine q_put (c := (RX2, TX2, 18)) dX2_init_15 fX2_15 rfl rfl rfl (fun _ => ⟨rfl, rfl⟩) eK4 ?_
  refine g_aload_n dX2_init_18 rfl ?_
  refine g_bipush (v := (nI 8)) dX2_init_19 (by decide) ?_
  obtain ⟨p5, ep5, h⟩ := bs h
  refine q_newa dX2_init_21 ep5 ?_
  obtain ⟨K6, eK6, h⟩ := bs h
  refine q_put (c := (RX2, TX2, 18)) dX2_init_23 fX2_18 rfl rfl rfl (fun _ => ⟨rfl, rfl⟩) eK6 ?_
  refine g_aload_n dX2_init_26 rfl ?_
  refine g_bipush (v := (nI 8)) dX2_init_27 (by decide) ?_
  obtain ⟨p7, ep7, h⟩ := bs h
  refine q_newa dX2_init_29 ep7 ?_
  obtain ⟨K8, eK8, h⟩ := bs h
  refine q_put (c := (RX2, TX2, 18)) dX2_init_31 fX2_21 rfl rfl rfl (fun _ => ⟨rfl, rfl⟩) eK8 ?_
  refine g_aload_n dX2_init_34 rfl ?_
  refine g_bipush (v := (nI 8)) dX2_init_35 (by decide) ?_
  obtain ⟨p9, ep9, h⟩ := bs h
  refine q_newa dX2_init_37 ep9 ?_
  obtain ⟨K10, eK10, h⟩ := bs h
  refine q_put (c := (RX2, TX2, 18)) dX2_init_39 fX2_24 rfl rfl rfl (fun _ => ⟨rfl, rfl⟩) eK10 ?_
  refine g_aload_n dX2_init_42 rfl ?_
  refine g_bipush (v := (nI 40)) dX2_init_43 (by decide) ?_
  obtain ⟨p11, ep11, h⟩ := bs h
  refine q_newa dX2_init_45 ep11 ?_
  obtain ⟨K12, eK12, h⟩ := bs h
  refine q_put (c := (RX2, TX2, 18)) dX2_init_47 fX2_27 rfl rfl rfl (fun _ => ⟨rfl, rfl⟩) eK12 ?_
  refine g_aload_n dX2_init_50 rfl ?_
  refine g_bipush (v := (nI 8)) dX2_init_51 (by decide) ?_
  obtain ⟨p13, ep13, h⟩ := bs h
  refine q_newa dX2_init_53 ep13 ?_
  obtain ⟨K14, eK14, h⟩ := bs h
  refine q_put (c := (RX2, TX2, 18)) dX2_init_55 fX2_30 rfl rfl rfl (fun _ => ⟨rfl, rfl⟩) eK14 ?_
  refine g_aload_n dX2_init_58 rfl ?_
  refine g_bipush (v := (nI 8)) dX2_init_59 (by decide) ?_
  obtain ⟨p15, ep15, h⟩ := bs h
  refine q_newa dX2_init_61 ep15 ?_
  obtain ⟨K16, eK16, h⟩ := bs h
  refine q_put (c := (RX2, TX2, 18)) dX2_init_63 fX2_33 rfl rfl rfl (fun _ => ⟨rfl, rfl⟩) eK16 ?_
  refine g_aload_n dX2_init_66 rfl ?_
  refine g_iconst (v := (nI 3)) dX2_init_67 (by decide) ?_
  obtain ⟨p17, ep17, h⟩ := bs h
  refine q_newa dX2_init_68 ep17 ?_
  refine g_dup dX2_init_70 (by first | rfl | exact vrf_cat _) ?_
  refine g_iconst (v := (nI 0)) dX2_init_71 (by decide) ?_
  refine g_iconst (v := (nI 0)) dX2_init_72 (by decide) ?_
  obtain ⟨K18, eK18, h⟩ := bs h
  refine q_iast dX2_init_73 eK18 ?_
  refine g_dup dX2_init_74 (by first | rfl | exact vrf_cat _) ?_
  refine g_iconst (v := (nI 1)) dX2_init_75 (by decide) ?_
  refine g_iconst (v := (nI 2)) dX2_init_76 (by decide) ?_
  obtain ⟨K19, eK19, h⟩ := bs h
  refine q_iast dX2_init_77 eK19 ?_
  refine g_dup dX2_init_78 (by first | rfl | exact vrf_cat _) ?_
  refine g_iconst (v := (nI 2)) dX2_init_79 (by decide) ?_
  refine g_iconst (v := (nI 0)) dX2_init_80 (by decide) ?_
  obtain ⟨K20, eK20, h⟩ := bs h
  refine q_iast dX2_init_81 eK20 ?_
  obtain ⟨K21, eK21, h⟩ := bs h
  refine q_put (c := (RX2, TX2, 18)) dX2_init_82 fX2_36 rfl rfl rfl (fun _ => ⟨rfl, rfl⟩) eK21 ?_
  refine g_aload_n dX2_init_85 rfl ?_
  refine g_bipush (v := (nI 6)) dX2_init_86 (by decide) ?_
  obtain ⟨p22, ep22, h⟩ := bs h
  refine q_anew dX2_init_88 (by decide +kernel) ep22 ?_
  obtain ⟨K23, eK23, h⟩ := bs h
  refine q_put (c := (RX2, TX2, 18)) dX2_init_91 fX2_41 rfl rfl rfl (fun _ => ⟨rfl, rfl⟩) eK23 ?_
  refine g_aload_n dX2_init_94 rfl ?_
  refine g_iconst (v := (nI 0)) dX2_init_95 (by decide) ?_
  obtain ⟨K24, eK24, h⟩ := bs h
  refine q_put (c := (RX2, TX2, 18)) dX2_init_96 fX2_45 rfl rfl rfl (fun h => absurd h (by decide)) eK24 ?_
  refine g_aload_n dX2_init_99 rfl ?_
  refine g_iconst (v := (nI 0)) dX2_init_100 (by decide) ?_
  obtain ⟨K25, eK25, h⟩ := bs h
  refine q_put (c := (RX2, TX2, 18)) dX2_init_101 fX2_49 rfl rfl rfl (fun h => absurd h (by decide)) eK25 ?_
  refine g_aload_n dX2_init_104 rfl ?_
  refine g_iconst (v := (nI 0)) dX2_init_105 (by decide) ?_
  obtain ⟨K26, eK26, h⟩ := bs h
  refine q_put (c := (RX2, TX2, 18)) dX2_init_106 fX2_52 rfl rfl rfl (fun h => absurd h (by decide)) eK26 ?_
  refine g_aload_n dX2_init_109 rfl ?_
  refine g_iconst (v := (nI 0)) dX2_init_110 (by decide) ?_
  obtain ⟨K27, eK27, h⟩ := bs h
  refine q_put (c := (RX2, TX2, 18)) dX2_init_111 fX2_55 rfl rfl rfl (fun h => absurd h (by decide)) eK27 ?_
  refine g_aload_n dX2_init_114 rfl ?_
  refine g_iconst (v := (nI 0)) dX2_init_115 (by decide) ?_
  obtain ⟨K28, eK28, h⟩ := bs h
  refine q_put (c := (RX2, TX2, 18)) dX2_init_116 fX2_58 rfl rfl rfl (fun h => absurd h (by decide)) eK28 ?_
  refine g_aload_n dX2_init_119 rfl ?_
  refine g_iconst (v := (nI 0)) dX2_init_120 (by decide) ?_
  obtain ⟨K29, eK29, h⟩ := bs h
  refine q_put (c := (RX2, TX2, 18)) dX2_init_121 fX2_61 rfl rfl rfl (fun h => absurd h (by decide)) eK29 ?_
  refine g_aload_n dX2_init_124 rfl ?_
  refine g_iconst (v := (-1)) dX2_init_125 (by decide) ?_
  obtain ⟨K30, eK30, h⟩ := bs h
  refine q_put (c := (RX2, TX2, 18)) dX2_init_126 fX2_64 rfl rfl rfl (fun h => absurd h (by decide)) eK30 ?_
  refine g_aload_n dX2_init_129 rfl ?_
  refine g_aload_n dX2_init_130 rfl ?_
  obtain ⟨K31, eK31, h⟩ := bs h
  refine q_put (c := (RX2, TX2, 18)) dX2_init_131 fX2_67 rfl rfl rfl (fun _ => ⟨rfl, rfl⟩) eK31 ?_
  exact g_return dX2_init_134 rfl (hret _ (Option.some.inj h))
noncomputable def F_X3_init (O : mO) (d : Nat) (a0 : Nat) (K : mH) : Option (mH) :=
  (nwV K .int (nI 391)).bind fun p1 =>
  (ptA p1.2 a0 3 0 p1.1).bind fun K2 =>
  (ptI K2 a0 3 1 (nI 0)).bind fun K3 =>
  (ptI K3 a0 3 2 (nI 0)).bind fun K4 =>
  some K4
theorem e_X3_init {O : mO} {d : Nat} {a0 : Nat} {K : mH} {x : mH} (h : F_X3_init O d a0 K = some x) : ev O (d + 1) MX3_init [.ref a0] K = some (none, x) := by
  refine Rn_evx ?_
  show Go O (d + 1) MX3_init 0 [some (.ref a0)] [] K _
  generalize hP : (fun (r : Option Value) (K' : mH) => (r, K') = (none, x)) = P
  have hret : ∀ K' : mH, K' = x → P none K' := by
    intro K' e
    subst hP e
    rfl
  clear hP
  unfold F_X3_init at h
  refine g_aload_n dX3_init_0 rfl ?_
  refine g_obj dX3_init_1 (by decide +kernel) (Nat.le_of_ble_eq_true rfl) ?_
  refine g_aload_n dX3_init_4 rfl ?_
  refine g_sipush (v := (nI 391)) dX3_init_5 (by decide) ?_
  obtain ⟨p1, ep1, h⟩ := bs h
  refine q_newa dX3_init_8 ep1 ?_
  obtain ⟨K2, eK2, h⟩ := bs h
  refine q_put (c := (RX3, TX3, 3)) dX3_init_10 fX3_11 rfl rfl rfl (fun _ => ⟨rfl, rfl⟩) eK2 ?_
  refine g_aload_n dX3_init_13 rfl ?_
  refine g_iconst (v := (nI 0)) dX3_init_14 (by decide) ?_
  obtain ⟨K3, eK3, h⟩ := bs h
  refine q_put (c := (RX3, TX3, 3)) dX3_init_15 fX3_15 rfl rfl rfl (fun h => absurd h (by decide)) eK3 ?_
  refine g_aload_n dX3_init_18 rfl ?_
  refine g_iconst (v := (nI 0)) dX3_init_19 (by decide) ?_
  obtain ⟨K4, eK4, h⟩ := bs h
  refine q_put (c := (RX3, TX3, 3)) dX3_init_20 fX3_19 rfl rfl rfl (fun h => absurd h (by decide)) eK4 ?_
  exact g_return dX3_init_23 rfl (hret _ (Option.some.inj h))
noncomputable def F_X4_init (O : mO) (d : Nat) (a0 : Nat) (K : mH) : Option (mH) :=
  (nwV K .int (nI 8)).bind fun p1 =>
  (ptA p1.2 a0 4 0 p1.1).bind fun K2 =>
  (nwV K2 .int (nI 8)).bind fun p3 =>
  (ptA p3.2 a0 4 1 p3.1).bind fun K4 =>
  some K4
theorem e_X4_init {O : mO} {d : Nat} {a0 : Nat} {K : mH} {x : mH} (h : F_X4_init O d a0 K = some x) : ev O (d + 1) MX4_init [.ref a0] K = some (none, x) := by
  refine Rn_evx ?_
  show Go O (d + 1) MX4_init 0 [some (.ref a0)] [] K _
  generalize hP : (fun (r : Option Value) (K' : mH) => (r, K') = (none, x)) = P
  have hret : ∀ K' : mH, K' = x → P none K' := by
    intro K' e
    subst hP e
    rfl
  clear hP
  unfold F_X4_init at h
  refine g_aload_n dX4_init_0 rfl ?_
  refine g_obj dX4_init_1 (by decide +kernel) (Nat.le_of_ble_eq_true rfl) ?_
  refine g_aload_n dX4_init_4 rfl ?_
  refine g_bipush (v := (nI 8)) dX4_init_5 (by decide) ?_
  obtain ⟨p1, ep1, h⟩ := bs h
  refine q_newa dX4_init_7 ep1 ?_
  obtain ⟨K2, eK2, h⟩ := bs h
  refine q_put (c := (RX4, TX4, 2)) dX4_init_9 fX4_9 rfl rfl rfl (fun _ => ⟨rfl, rfl⟩) eK2 ?_
  refine g_aload_n dX4_init_12 rfl ?_
  refine g_bipush (v := (nI 8)) dX4_init_13 (by decide) ?_
  obtain ⟨p3, ep3, h⟩ := bs h
  refine q_newa dX4_init_15 ep3 ?_
  obtain ⟨K4, eK4, h⟩ := bs h
  refine q_put (c := (RX4, TX4, 2)) dX4_init_17 fX4_15 rfl rfl rfl (fun _ => ⟨rfl, rfl⟩) eK4 ?_
  exact g_return dX4_init_20 rfl (hret _ (Option.some.inj h))
noncomputable def F_X5_init (O : mO) (d : Nat) (a0 : Nat) (a1 : Int32) (a2 : Int32) (K : mH) : Option (mH) :=
  (ptI K a0 5 2 (nI 0)).bind fun K1 =>
  (ptI K1 a0 5 3 (nI 0)).bind fun K2 =>
  (nwV K2 .int (if (nI 0) < a1 then a1 else (nI 0))).bind fun p3 =>
  (ptA p3.2 a0 5 0 p3.1).bind fun K4 =>
  (nwV K4 .int (if (nI 0) < (a2 * (nI 6)) then (a2 * (nI 6)) else (nI 0))).bind fun p5 =>
  (ptA p5.2 a0 5 1 p5.1).bind fun K6 =>
  some K6
theorem e_X5_init {O : mO} {d : Nat} {a0 : Nat} {a1 : Int32} {a2 : Int32} {K : mH} {x : mH} (h : F_X5_init O d a0 a1 a2 K = some x) : ev O (d + 1) MX5_init [.ref a0, .int a1, .int a2] K = some (none, x) := by
  refine Rn_evx ?_
  show Go O (d + 1) MX5_init 0 [some (.ref a0), some (.int a1), some (.int a2)] [] K _
  generalize hP : (fun (r : Option Value) (K' : mH) => (r, K') = (none, x)) = P
  have hret : ∀ K' : mH, K' = x → P none K' := by
    intro K' e
    subst hP e
    rfl
  clear hP
  unfold F_X5_init at h
  refine g_aload_n dX5_init_0 rfl ?_
  refine g_obj dX5_init_1 (by decide +kernel) (Nat.le_of_ble_eq_true rfl) ?_
  refine g_aload_n dX5_init_4 rfl ?_
  refine g_iconst (v := (nI 0)) dX5_init_5 (by decide) ?_
  obtain ⟨K1, eK1, h⟩ := bs h
  refine q_put (c := (RX5, TX5, 4)) dX5_init_6 fX5_7 rfl rfl rfl (fun h => absurd h (by decide)) eK1 ?_
  refine g_aload_n dX5_init_9 rfl ?_
  refine g_iconst (v := (nI 0)) dX5_init_10 (by decide) ?_
  obtain ⟨K2, eK2, h⟩ := bs h
  refine q_put (c := (RX5, TX5, 4)) dX5_init_11 fX5_13 rfl rfl rfl (fun h => absurd h (by decide)) eK2 ?_
  refine g_aload_n dX5_init_14 rfl ?_
  refine g_iconst (v := (nI 0)) dX5_init_15 (by decide) ?_
  refine g_iload_n dX5_init_16 rfl ?_
  refine g_max dX5_init_17 mX5_16 (Nat.le_of_ble_eq_true rfl) (mNo2_h3 rfl) ?_
  obtain ⟨p3, ep3, h⟩ := bs h
  refine q_newa dX5_init_20 ep3 ?_
  obtain ⟨K4, eK4, h⟩ := bs h
  refine q_put (c := (RX5, TX5, 4)) dX5_init_22 fX5_22 rfl rfl rfl (fun _ => ⟨rfl, rfl⟩) eK4 ?_
  refine g_aload_n dX5_init_25 rfl ?_
  refine g_iconst (v := (nI 0)) dX5_init_26 (by decide) ?_
  refine g_iload_n dX5_init_27 rfl ?_
  refine g_bipush (v := (nI 6)) dX5_init_28 (by decide) ?_
  refine g_imul dX5_init_30 ?_
  refine g_max dX5_init_31 mX5_16 (Nat.le_of_ble_eq_true rfl) (mNo2_h3 rfl) ?_
  obtain ⟨p5, ep5, h⟩ := bs h
  refine q_newa dX5_init_34 ep5 ?_
  obtain ⟨K6, eK6, h⟩ := bs h
  refine q_put (c := (RX5, TX5, 4)) dX5_init_36 fX5_26 rfl rfl rfl (fun _ => ⟨rfl, rfl⟩) eK6 ?_
  exact g_return dX5_init_39 rfl (hret _ (Option.some.inj h))
noncomputable def F_X5_trimmed (O : mO) (d : Nat) (a0 : Nat) (K : mH) : Option (Option Nat × mH) :=
  (nwO K 5 4).bind fun p1 =>
  (gtI p1.2 a0 5 2).bind fun x2 =>
  (gtI p1.2 a0 5 3).bind fun x3 =>
  (toV (ev O d MX5_init [.ref p1.1, .int x2, .int x3] p1.2)).bind fun K4 =>
  (gtA K4 a0 5 0).bind fun x5 =>
  (gtA K4 p1.1 5 0).bind fun x6 =>
  (gtI K4 a0 5 2).bind fun x7 =>
  (cpA K4 x5 (nI 0) x6 (nI 0) x7).bind fun K8 =>
  (gtA K8 a0 5 1).bind fun x9 =>
  (gtA K8 p1.1 5 1).bind fun x10 =>
  (gtI K8 a0 5 3).bind fun x11 =>
  (cpA K8 x9 (nI 0) x10 (nI 0) (x11 * (nI 6))).bind fun K12 =>
  (gtI K12 a0 5 2).bind fun x13 =>
  (ptI K12 p1.1 5 2 x13).bind fun K14 =>
  (gtI K14 a0 5 3).bind fun x15 =>
  (ptI K14 p1.1 5 3 x15).bind fun K16 =>
  some ((some p1.1), K16)
theorem e_X5_trimmed {O : mO} {d : Nat} {a0 : Nat} {K : mH} {r0 : Option Nat} {K0 : mH} (h : F_X5_trimmed O d a0 K = some (r0, K0)) : ev O (d + 1) MX5_trimmed [.ref a0] K = some (some (va_rf r0), K0) := by
  refine Rn_evx ?_
  show Go O (d + 1) MX5_trimmed 0 [some (.ref a0), none] [] K _
  generalize hP : (fun (r : Option Value) (K' : mH) => (r, K') = (some (va_rf r0), K0)) = P
  have hret : ∀ (r : Option Nat) (K' : mH), (r, K') = (r0, K0) → P (some (va_rf r)) K' := by
    intro r K' e
    cases e
    subst hP
    rfl
  clear hP
  unfold F_X5_trimmed at h
  obtain ⟨p1, ep1, h⟩ := bs h
  refine q_new dX5_trimmed_0 (by decide +kernel) ep1 ?_
  refine g_dup dX5_trimmed_3 (by first | rfl | exact vrf_cat _) ?_
  refine g_aload_n dX5_trimmed_4 rfl ?_
  obtain ⟨x2, ex2, h⟩ := bs h
  refine q_getI dX5_trimmed_5 fX5_7 ex2 ?_
  refine g_aload_n dX5_trimmed_8 rfl ?_
  obtain ⟨x3, ex3, h⟩ := bs h
  refine q_getI dX5_trimmed_9 fX5_13 ex3 ?_
  obtain ⟨K4, eK4, h⟩ := bs h
  refine q_spec (Z := MX5_init) (toV_s eK4) dX5_trimmed_12 rfl mX5_29.1 mX5_29.2 (Nat.le_of_ble_eq_true rfl) rfl rfl (Nat.le_of_ble_eq_true rfl) (Nat.le_of_ble_eq_true rfl) ?_
  show Go O (d + 1) MX5_trimmed 15 [some (.ref a0), none] [.ref p1.1] K4 P
  refine g_astore_n (ls' := [some (.ref a0), some (.ref p1.1)]) dX5_trimmed_15 (by decide) rfl ?_
  refine g_aload_n dX5_trimmed_16 rfl ?_
  obtain ⟨x5, ex5, h⟩ := bs h
  refine q_getA dX5_trimmed_17 fX5_22 ex5 ?_
  refine g_iconst (v := (nI 0)) dX5_trimmed_20 (by decide) ?_
  refine g_aload_n dX5_trimmed_21 rfl ?_
  obtain ⟨x6, ex6, h⟩ := bs h
  refine q_getA dX5_trimmed_22 fX5_22 ex6 ?_
  refine g_iconst (v := (nI 0)) dX5_trimmed_25 (by decide) ?_
  refine g_aload_n dX5_trimmed_26 rfl ?_
  obtain ⟨x7, ex7, h⟩ := bs h
  refine q_getI dX5_trimmed_27 fX5_7 ex7 ?_
  obtain ⟨K8, eK8, h⟩ := bs h
  refine q_cpy dX5_trimmed_30 cpX5 (Nat.le_of_ble_eq_true rfl) eK8 ?_
  refine g_aload_n dX5_trimmed_33 rfl ?_
  obtain ⟨x9, ex9, h⟩ := bs h
  refine q_getA dX5_trimmed_34 fX5_26 ex9 ?_
  refine g_iconst (v := (nI 0)) dX5_trimmed_37 (by decide) ?_
  refine g_aload_n dX5_trimmed_38 rfl ?_
  obtain ⟨x10, ex10, h⟩ := bs h
  refine q_getA dX5_trimmed_39 fX5_26 ex10 ?_
  refine g_iconst (v := (nI 0)) dX5_trimmed_42 (by decide) ?_
  refine g_aload_n dX5_trimmed_43 rfl ?_
  obtain ⟨x11, ex11, h⟩ := bs h
  refine q_getI dX5_trimmed_44 fX5_13 ex11 ?_
  refine g_bipush (v := (nI 6)) dX5_trimmed_47 (by decide) ?_
  refine g_imul dX5_trimmed_49 ?_
  obtain ⟨K12, eK12, h⟩ := bs h
  refine q_cpy dX5_trimmed_50 cpX5 (Nat.le_of_ble_eq_true rfl) eK12 ?_
  refine g_aload_n dX5_trimmed_53 rfl ?_
  refine g_aload_n dX5_trimmed_54 rfl ?_
  obtain ⟨x13, ex13, h⟩ := bs h
  refine q_getI dX5_trimmed_55 fX5_7 ex13 ?_
  obtain ⟨K14, eK14, h⟩ := bs h
  refine q_put (c := (RX5, TX5, 4)) dX5_trimmed_58 fX5_7 rfl rfl rfl (fun h => absurd h (by decide)) eK14 ?_
  refine g_aload_n dX5_trimmed_61 rfl ?_
  refine g_aload_n dX5_trimmed_62 rfl ?_
  obtain ⟨x15, ex15, h⟩ := bs h
  refine q_getI dX5_trimmed_63 fX5_13 ex15 ?_
  obtain ⟨K16, eK16, h⟩ := bs h
  refine q_put (c := (RX5, TX5, 4)) dX5_trimmed_66 fX5_13 rfl rfl rfl (fun h => absurd h (by decide)) eK16 ?_
  refine g_aload_n dX5_trimmed_69 rfl ?_
  exact q_areturn (x := (some p1.1)) dX5_trimmed_70 rfl (hret _ _ (Option.some.inj h))
noncomputable def F_X6_init (O : mO) (d : Nat) (a0 : Nat) (K : mH) : Option (mH) :=
  (nwO K 5 4).bind fun p1 =>
  (toV (ev O d MX5_init [.ref p1.1, .int (nI 400), .int (nI 12)] p1.2)).bind fun K2 =>
  (ptA K2 a0 6 0 p1.1).bind fun K3 =>
  (nwV K3 .int (nI 401)).bind fun p4 =>
  (ptA p4.2 a0 6 1 p4.1).bind fun K5 =>
  (nwV K5 .int (nI 401)).bind fun p6 =>
  (ptA p6.2 a0 6 2 p6.1).bind fun K7 =>
  (ptI K7 a0 6 3 (nI 0)).bind fun K8 =>
  (ptI K8 a0 6 4 (nI 0)).bind fun K9 =>
  (ptI K9 a0 6 5 (nI 4000)).bind fun K10 =>
  (ptI K10 a0 6 6 (-1)).bind fun K11 =>
  (ptI K11 a0 6 7 (nI 0)).bind fun K12 =>
  (ptI K12 a0 6 8 (nI 0)).bind fun K13 =>
  (ptI K13 a0 6 9 (nI 0)).bind fun K14 =>
  some K14
theorem e_X6_init {O : mO} {d : Nat} {a0 : Nat} {K : mH} {x : mH} (h : F_X6_init O d a0 K = some x) : ev O (d + 1) MX6_init [.ref a0] K = some (none, x) := by
  refine Rn_evx ?_
  show Go O (d + 1) MX6_init 0 [some (.ref a0)] [] K _
  generalize hP : (fun (r : Option Value) (K' : mH) => (r, K') = (none, x)) = P
  have hret : ∀ K' : mH, K' = x → P none K' := by
    intro K' e
    subst hP e
    rfl
  clear hP
  unfold F_X6_init at h
  refine g_aload_n dX6_init_0 rfl ?_
  refine g_obj dX6_init_1 (by decide +kernel) (Nat.le_of_ble_eq_true rfl) ?_
  refine g_aload_n dX6_init_4 rfl ?_
  obtain ⟨p1, ep1, h⟩ := bs h
  refine q_new dX6_init_5 (by decide +kernel) ep1 ?_
  refine g_dup dX6_init_8 (by first | rfl | exact vrf_cat _) ?_
  refine g_sipush (v := (nI 400)) dX6_init_9 (by decide) ?_
  refine g_bipush (v := (nI 12)) dX6_init_12 (by decide) ?_
  obtain ⟨K2, eK2, h⟩ := bs h
  refine q_spec (Z := MX5_init) (toV_s eK2) dX6_init_14 rfl mX6_13.1 mX6_13.2 (Nat.le_of_ble_eq_true rfl) rfl rfl (Nat.le_of_ble_eq_true rfl) (Nat.le_of_ble_eq_true rfl) ?_
  show Go O (d + 1) MX6_init 17 [some (.ref a0)] [.ref p1.1, .ref a0] K2 P
  obtain ⟨K3, eK3, h⟩ := bs h
  refine q_put (c := (RX6, TX6, 10)) dX6_init_17 fX6_16 rfl rfl rfl (fun _ => ⟨rfl, rfl⟩) eK3 ?_
  refine g_aload_n dX6_init_20 rfl ?_
  refine g_sipush (v := (nI 401)) dX6_init_21 (by decide) ?_
  obtain ⟨p4, ep4, h⟩ := bs h
  refine q_newa dX6_init_24 ep4 ?_
  obtain ⟨K5, eK5, h⟩ := bs h
  refine q_put (c := (RX6, TX6, 10)) dX6_init_26 fX6_20 rfl rfl rfl (fun _ => ⟨rfl, rfl⟩) eK5 ?_
  refine g_aload_n dX6_init_29 rfl ?_
  refine g_sipush (v := (nI 401)) dX6_init_30 (by decide) ?_
  obtain ⟨p6, ep6, h⟩ := bs h
  refine q_newa dX6_init_33 ep6 ?_
  obtain ⟨K7, eK7, h⟩ := bs h
  refine q_put (c := (RX6, TX6, 10)) dX6_init_35 fX6_24 rfl rfl rfl (fun _ => ⟨rfl, rfl⟩) eK7 ?_
  refine g_aload_n dX6_init_38 rfl ?_
  refine g_iconst (v := (nI 0)) dX6_init_39 (by decide) ?_
  obtain ⟨K8, eK8, h⟩ := bs h
  refine q_put (c := (RX6, TX6, 10)) dX6_init_40 fX6_27 rfl rfl rfl (fun h => absurd h (by decide)) eK8 ?_
  refine g_aload_n dX6_init_43 rfl ?_
  refine g_iconst (v := (nI 0)) dX6_init_44 (by decide) ?_
  obtain ⟨K9, eK9, h⟩ := bs h
  refine q_put (c := (RX6, TX6, 10)) dX6_init_45 fX6_31 rfl rfl rfl (fun h => absurd h (by decide)) eK9 ?_
  refine g_aload_n dX6_init_48 rfl ?_
  refine g_sipush (v := (nI 4000)) dX6_init_49 (by decide) ?_
  obtain ⟨K10, eK10, h⟩ := bs h
  refine q_put (c := (RX6, TX6, 10)) dX6_init_52 fX6_34 rfl rfl rfl (fun h => absurd h (by decide)) eK10 ?_
  refine g_aload_n dX6_init_55 rfl ?_
  refine g_iconst (v := (-1)) dX6_init_56 (by decide) ?_
  obtain ⟨K11, eK11, h⟩ := bs h
  refine q_put (c := (RX6, TX6, 10)) dX6_init_57 fX6_37 rfl rfl rfl (fun h => absurd h (by decide)) eK11 ?_
  refine g_aload_n dX6_init_60 rfl ?_
  refine g_iconst (v := (nI 0)) dX6_init_61 (by decide) ?_
  obtain ⟨K12, eK12, h⟩ := bs h
  refine q_put (c := (RX6, TX6, 10)) dX6_init_62 fX6_40 rfl rfl rfl (fun h => absurd h (by decide)) eK12 ?_
  refine g_aload_n dX6_init_65 rfl ?_
  refine g_iconst (v := (nI 0)) dX6_init_66 (by decide) ?_
  obtain ⟨K13, eK13, h⟩ := bs h
  refine q_put (c := (RX6, TX6, 10)) dX6_init_67 fX6_43 rfl rfl rfl (fun h => absurd h (by decide)) eK13 ?_
  refine g_aload_n dX6_init_70 rfl ?_
  refine g_iconst (v := (nI 0)) dX6_init_71 (by decide) ?_
  obtain ⟨K14, eK14, h⟩ := bs h
  refine q_put (c := (RX6, TX6, 10)) dX6_init_72 fX6_46 rfl rfl rfl (fun h => absurd h (by decide)) eK14 ?_
  exact g_return dX6_init_75 rfl (hret _ (Option.some.inj h))
noncomputable def F_X7_init (O : mO) (d : Nat) (a0 : Nat) (K : mH) : Option (mH) :=
  (nwV K .int (nI 8)).bind fun p1 =>
  (ptA p1.2 a0 7 0 p1.1).bind fun K2 =>
  (nwV K2 .int (nI 9)).bind fun p3 =>
  (ptA p3.2 a0 7 1 p3.1).bind fun K4 =>
  (nwV K4 .long (nI 54)).bind fun p5 =>
  (ptA p5.2 a0 7 2 p5.1).bind fun K6 =>
  (nwV K6 .long (nI 9)).bind fun p7 =>
  (ptA p7.2 a0 7 3 p7.1).bind fun K8 =>
  (nwV K8 .int (nI 24)).bind fun p9 =>
  (ptA p9.2 a0 7 4 p9.1).bind fun K10 =>
  (nwV K10 .int (nI 24)).bind fun p11 =>
  (ptA p11.2 a0 7 5 p11.1).bind fun K12 =>
  (nwV K12 .int (nI 24)).bind fun p13 =>
  (ptA p13.2 a0 7 6 p13.1).bind fun K14 =>
  (nwV K14 .long (nI 24)).bind fun p15 =>
  (ptA p15.2 a0 7 7 p15.1).bind fun K16 =>
  (nwV K16 .long (nI 24)).bind fun p17 =>
  (ptA p17.2 a0 7 8 p17.1).bind fun K18 =>
  (nwV K18 .boolean (nI 24)).bind fun p19 =>
  (ptA p19.2 a0 7 9 p19.1).bind fun K20 =>
  (ptI K20 a0 7 10 (nI 0)).bind fun K21 =>
  (ptI K21 a0 7 11 (nI 0)).bind fun K22 =>
  (ptI K22 a0 7 12 (nI 0)).bind fun K23 =>
  (ptI K23 a0 7 13 (nI 0)).bind fun K24 =>
  some K24
theorem e_X7_init {O : mO} {d : Nat} {a0 : Nat} {K : mH} {x : mH} (h : F_X7_init O d a0 K = some x) : ev O (d + 1) MX7_init [.ref a0] K = some (none, x) := by
  refine Rn_evx ?_
  show Go O (d + 1) MX7_init 0 [some (.ref a0)] [] K _
  generalize hP : (fun (r : Option Value) (K' : mH) => (r, K') = (none, x)) = P
  have hret : ∀ K' : mH, K' = x → P none K' := by
    intro K' e
    subst hP e
    rfl
  clear hP
  unfold F_X7_init at h
  refine g_aload_n dX7_init_0 rfl ?_
  refine g_obj dX7_init_1 (by decide +kernel) (Nat.le_of_ble_eq_true rfl) ?_
  refine g_aload_n dX7_init_4 rfl ?_
  refine g_bipush (v := (nI 8)) dX7_init_5 (by decide) ?_
  obtain ⟨p1, ep1, h⟩ := bs h
  refine q_newa dX7_init_7 ep1 ?_
  obtain ⟨K2, eK2, h⟩ := bs h
  refine q_put (c := (RX7, TX7, 14)) dX7_init_9 fX7_9 rfl rfl rfl (fun _ => ⟨rfl, rfl⟩) eK2 ?_
  refine g_aload_n dX7_init_12 rfl ?_
  refine g_bipush (v := (nI 9)) dX7_init_13 (by decide) ?_
  obtain ⟨p3, ep3, h⟩ := bs h
  refine q_newa dX7_init_15 ep3 ?_
  obtain ⟨K4, eK4, h⟩ := bs h
  refine q_put (c := (RX7, TX7, 14)) dX7_init_17 fX7_15 rfl rfl rfl (fun _ => ⟨rfl, rfl⟩) eK4 ?_
  refine g_aload_n dX7_init_20 rfl ?_
  refine g_bipush (v := (nI 54)) dX7_init_21 (by decide) ?_
  obtain ⟨p5, ep5, h⟩ := bs h
  refine q_newa dX7_init_23 ep5 ?_
  obtain ⟨K6, eK6, h⟩ := bs h
  refine q_put (c := (RX7, TX7, 14)) dX7_init_25 fX7_18 rfl rfl rfl (fun _ => ⟨rfl, rfl⟩) eK6 ?_
  refine g_aload_n dX7_init_28 rfl ?_
  refine g_bipush (v := (nI 9)) dX7_init_29 (by decide) ?_
  obtain ⟨p7, ep7, h⟩ := bs h
  refine q_newa dX7_init_31 ep7 ?_
  obtain ⟨K8, eK8, h⟩ := bs h
  refine q_put (c := (RX7, TX7, 14)) dX7_init_33 fX7_22 rfl rfl rfl (fun _ => ⟨rfl, rfl⟩) eK8 ?_
  refine g_aload_n dX7_init_36 rfl ?_
  refine g_bipush (v := (nI 24)) dX7_init_37 (by decide) ?_
  obtain ⟨p9, ep9, h⟩ := bs h
  refine q_newa dX7_init_39 ep9 ?_
  obtain ⟨K10, eK10, h⟩ := bs h
  refine q_put (c := (RX7, TX7, 14)) dX7_init_41 fX7_25 rfl rfl rfl (fun _ => ⟨rfl, rfl⟩) eK10 ?_
  refine g_aload_n dX7_init_44 rfl ?_
  refine g_bipush (v := (nI 24)) dX7_init_45 (by decide) ?_
  obtain ⟨p11, ep11, h⟩ := bs h
  refine q_newa dX7_init_47 ep11 ?_
  obtain ⟨K12, eK12, h⟩ := bs h
  refine q_put (c := (RX7, TX7, 14)) dX7_init_49 fX7_28 rfl rfl rfl (fun _ => ⟨rfl, rfl⟩) eK12 ?_
  refine g_aload_n dX7_init_52 rfl ?_
  refine g_bipush (v := (nI 24)) dX7_init_53 (by decide) ?_
  obtain ⟨p13, ep13, h⟩ := bs h
  refine q_newa dX7_init_55 ep13 ?_
  obtain ⟨K14, eK14, h⟩ := bs h
  refine q_put (c := (RX7, TX7, 14)) dX7_init_57 fX7_31 rfl rfl rfl (fun _ => ⟨rfl, rfl⟩) eK14 ?_
  refine g_aload_n dX7_init_60 rfl ?_
  refine g_bipush (v := (nI 24)) dX7_init_61 (by decide) ?_
  obtain ⟨p15, ep15, h⟩ := bs h
  refine q_newa dX7_init_63 ep15 ?_
  obtain ⟨K16, eK16, h⟩ := bs h
  refine q_put (c := (RX7, TX7, 14)) dX7_init_65 fX7_34 rfl rfl rfl (fun _ => ⟨rfl, rfl⟩) eK16 ?_
  refine g_aload_n dX7_init_68 rfl ?_
  refine g_bipush (v := (nI 24)) dX7_init_69 (by decide) ?_
  obtain ⟨p17, ep17, h⟩ := bs h
  refine q_newa dX7_init_71 ep17 ?_
  obtain ⟨K18, eK18, h⟩ := bs h
  refine q_put (c := (RX7, TX7, 14)) dX7_init_73 fX7_37 rfl rfl rfl (fun _ => ⟨rfl, rfl⟩) eK18 ?_
  refine g_aload_n dX7_init_76 rfl ?_
  refine g_bipush (v := (nI 24)) dX7_init_77 (by decide) ?_
  obtain ⟨p19, ep19, h⟩ := bs h
  refine q_newa dX7_init_79 ep19 ?_
  obtain ⟨K20, eK20, h⟩ := bs h
  refine q_put (c := (RX7, TX7, 14)) dX7_init_81 fX7_40 rfl rfl rfl (fun _ => ⟨rfl, rfl⟩) eK20 ?_
  refine g_aload_n dX7_init_84 rfl ?_
  refine g_iconst (v := (nI 0)) dX7_init_85 (by decide) ?_
  obtain ⟨K21, eK21, h⟩ := bs h
  refine q_put (c := (RX7, TX7, 14)) dX7_init_86 fX7_44 rfl rfl rfl (fun h => absurd h (by decide)) eK21 ?_
  refine g_aload_n dX7_init_89 rfl ?_
  refine g_iconst (v := (nI 0)) dX7_init_90 (by decide) ?_
  obtain ⟨K22, eK22, h⟩ := bs h
  refine q_put (c := (RX7, TX7, 14)) dX7_init_91 fX7_48 rfl rfl rfl (fun h => absurd h (by decide)) eK22 ?_
  refine g_aload_n dX7_init_94 rfl ?_
  refine g_iconst (v := (nI 0)) dX7_init_95 (by decide) ?_
  obtain ⟨K23, eK23, h⟩ := bs h
  refine q_put (c := (RX7, TX7, 14)) dX7_init_96 fX7_51 rfl rfl rfl (fun h => absurd h (by decide)) eK23 ?_
  refine g_aload_n dX7_init_99 rfl ?_
  refine g_iconst (v := (nI 0)) dX7_init_100 (by decide) ?_
  obtain ⟨K24, eK24, h⟩ := bs h
  refine q_put (c := (RX7, TX7, 14)) dX7_init_101 fX7_54 rfl rfl rfl (fun h => absurd h (by decide)) eK24 ?_
  exact g_return dX7_init_104 rfl (hret _ (Option.some.inj h))
noncomputable def F_X8_init (O : mO) (d : Nat) (a0 : Nat) (K : mH) : Option (mH) :=
  (nwV K .int (nI 64)).bind fun p1 =>
  (ptA p1.2 a0 8 0 p1.1).bind fun K2 =>
  (ptI K2 a0 8 1 (nI 0)).bind fun K3 =>
  some K3
theorem e_X8_init {O : mO} {d : Nat} {a0 : Nat} {K : mH} {x : mH} (h : F_X8_init O d a0 K = some x) : ev O (d + 1) MX8_init [.ref a0] K = some (none, x) := by
  refine Rn_evx ?_
  show Go O (d + 1) MX8_init 0 [some (.ref a0)] [] K _
  generalize hP : (fun (r : Option Value) (K' : mH) => (r, K') = (none, x)) = P
  have hret : ∀ K' : mH, K' = x → P none K' := by
    intro K' e
    subst hP e
    rfl
  clear hP
  unfold F_X8_init at h
  refine g_aload_n dX8_init_0 rfl ?_
  refine g_obj dX8_init_1 (by decide +kernel) (Nat.le_of_ble_eq_true rfl) ?_
  refine g_aload_n dX8_init_4 rfl ?_
  refine g_bipush (v := (nI 64)) dX8_init_5 (by decide) ?_
  obtain ⟨p1, ep1, h⟩ := bs h
  refine q_newa dX8_init_7 ep1 ?_
  obtain ⟨K2, eK2, h⟩ := bs h
  refine q_put (c := (RX8, TX8, 2)) dX8_init_9 fX8_11 rfl rfl rfl (fun _ => ⟨rfl, rfl⟩) eK2 ?_
  refine g_aload_n dX8_init_12 rfl ?_
  refine g_iconst (v := (nI 0)) dX8_init_13 (by decide) ?_
  obtain ⟨K3, eK3, h⟩ := bs h
  refine q_put (c := (RX8, TX8, 2)) dX8_init_14 fX8_15 rfl rfl rfl (fun h => absurd h (by decide)) eK3 ?_
  exact g_return dX8_init_17 rfl (hret _ (Option.some.inj h))
noncomputable def F_X9_init (O : mO) (d : Nat) (a0 : Nat) (a1 : Nat) (a2 : Nat) (K : mH) : Option (mH) :=
  (nwV K .int (nI 16)).bind fun p1 =>
  (ptA p1.2 a0 9 1 p1.1).bind fun K2 =>
  (nwO K2 3 3).bind fun p3 =>
  (toV (ev O d MX3_init [.ref p3.1] p3.2)).bind fun K4 =>
  (ptA K4 a0 9 3 p3.1).bind fun K5 =>
  (ptI K5 a0 9 4 (nI 0)).bind fun K6 =>
  (ptI K6 a0 9 5 (-1)).bind fun K7 =>
  (ptA K7 a0 9 0 a1).bind fun K8 =>
  (nwO K8 2 18).bind fun p9 =>
  (toV (ev O d MX2_init [.ref p9.1, .ref a2] p9.2)).bind fun K10 =>
  (ptA K10 a0 9 2 p9.1).bind fun K11 =>
  some K11
theorem e_X9_init {O : mO} {d : Nat} {a0 : Nat} {a1 : Nat} {a2 : Nat} {K : mH} {x : mH} (h : F_X9_init O d a0 a1 a2 K = some x) : ev O (d + 1) MX9_init [.ref a0, .ref a1, .ref a2] K = some (none, x) := by
  refine Rn_evx ?_
  show Go O (d + 1) MX9_init 0 [some (.ref a0), some (.ref a1), some (.ref a2)] [] K _
  generalize hP : (fun (r : Option Value) (K' : mH) => (r, K') = (none, x)) = P
  have hret : ∀ K' : mH, K' = x → P none K' := by
    intro K' e
    subst hP e
    rfl
  clear hP
  unfold F_X9_init at h
  refine g_aload_n dX9_init_0 rfl ?_
  refine g_obj dX9_init_1 (by decide +kernel) (Nat.le_of_ble_eq_true rfl) ?_
  refine g_aload_n dX9_init_4 rfl ?_
  refine g_bipush (v := (nI 16)) dX9_init_5 (by decide) ?_
  obtain ⟨p1, ep1, h⟩ := bs h
  refine q_newa dX9_init_7 ep1 ?_
  obtain ⟨K2, eK2, h⟩ := bs h
  refine q_put (c := (RX9, TX9, 6)) dX9_init_9 fX9_11 rfl rfl rfl (fun _ => ⟨rfl, rfl⟩) eK2 ?_
  refine g_aload_n dX9_init_12 rfl ?_
  obtain ⟨p3, ep3, h⟩ := bs h
  refine q_new dX9_init_13 (by decide +kernel) ep3 ?_
  refine g_dup dX9_init_16 (by first | rfl | exact vrf_cat _) ?_
  obtain ⟨K4, eK4, h⟩ := bs h
  refine q_spec (Z := MX3_init) (toV_s eK4) dX9_init_17 rfl mX9_17.1 mX9_17.2 (Nat.le_of_ble_eq_true rfl) rfl rfl (Nat.le_of_ble_eq_true rfl) (Nat.le_of_ble_eq_true rfl) ?_
  show Go O (d + 1) MX9_init 20 [some (.ref a0), some (.ref a1), some (.ref a2)] [.ref p3.1, .ref a0] K4 P
  obtain ⟨K5, eK5, h⟩ := bs h
  refine q_put (c := (RX9, TX9, 6)) dX9_init_20 fX9_18 rfl rfl rfl (fun h => absurd h (by decide)) eK5 ?_
  refine g_aload_n dX9_init_23 rfl ?_
  refine g_iconst (v := (nI 0)) dX9_init_24 (by decide) ?_
  obtain ⟨K6, eK6, h⟩ := bs h
  refine q_put (c := (RX9, TX9, 6)) dX9_init_25 fX9_22 rfl rfl rfl (fun h => absurd h (by decide)) eK6 ?_
  refine g_aload_n dX9_init_28 rfl ?_
  refine g_iconst (v := (-1)) dX9_init_29 (by decide) ?_
  obtain ⟨K7, eK7, h⟩ := bs h
  refine q_put (c := (RX9, TX9, 6)) dX9_init_30 fX9_26 rfl rfl rfl (fun h => absurd h (by decide)) eK7 ?_
  refine g_aload_n dX9_init_33 rfl ?_
  refine g_aload_n dX9_init_34 rfl ?_
  obtain ⟨K8, eK8, h⟩ := bs h
  refine q_put (c := (RX9, TX9, 6)) dX9_init_35 fX9_29 rfl rfl rfl (fun _ => ⟨rfl, rfl⟩) eK8 ?_
  refine g_aload_n dX9_init_38 rfl ?_
  obtain ⟨p9, ep9, h⟩ := bs h
  refine q_new dX9_init_39 (by decide +kernel) ep9 ?_
  refine g_dup dX9_init_42 (by first | rfl | exact vrf_cat _) ?_
  refine g_aload_n dX9_init_43 rfl ?_
  obtain ⟨K10, eK10, h⟩ := bs h
  refine q_spec (Z := MX2_init) (toV_s eK10) dX9_init_44 rfl mX9_35.1 mX9_35.2 (Nat.le_of_ble_eq_true rfl) rfl rfl (Nat.le_of_ble_eq_true rfl) (Nat.le_of_ble_eq_true rfl) ?_
  show Go O (d + 1) MX9_init 47 [some (.ref a0), some (.ref a1), some (.ref a2)] [.ref p9.1, .ref a0] K10 P
  obtain ⟨K11, eK11, h⟩ := bs h
  refine q_put (c := (RX9, TX9, 6)) dX9_init_47 fX9_38 rfl rfl rfl (fun h => absurd h (by decide)) eK11 ?_
  exact g_return dX9_init_50 rfl (hret _ (Option.some.inj h))
noncomputable def F_X10_init (O : mO) (d : Nat) (a0 : Nat) (K : mH) : Option (mH) :=
  (nwO K 6 10).bind fun p1 =>
  (toV (ev O d MX6_init [.ref p1.1] p1.2)).bind fun K2 =>
  (ptA K2 a0 10 0 p1.1).bind fun K3 =>
  (nwO K3 4 2).bind fun p4 =>
  (toV (ev O d MX4_init [.ref p4.1] p4.2)).bind fun K5 =>
  (ptA K5 a0 10 1 p4.1).bind fun K6 =>
  (nwO K6 7 14).bind fun p7 =>
  (toV (ev O d MX7_init [.ref p7.1] p7.2)).bind fun K8 =>
  (ptA K8 a0 10 2 p7.1).bind fun K9 =>
  (nwO K9 1 1).bind fun p10 =>
  (toV (ev O d MX1_init [.ref p10.1] p10.2)).bind fun K11 =>
  (ptA K11 a0 10 3 p10.1).bind fun K12 =>
  (nwV K12 .long (nI 20)).bind fun p13 =>
  (ptA p13.2 a0 10 4 p13.1).bind fun K14 =>
  (nwV K14 .byte (nI 400)).bind fun p15 =>
  (ptA p15.2 a0 10 5 p15.1).bind fun K16 =>
  (nwV K16 .int (nI 5)).bind fun p17 =>
  (ptA p17.2 a0 10 6 p17.1).bind fun K18 =>
  (nwR K18 4 (nI 2)).bind fun p19 =>
  (ptA p19.2 a0 10 7 p19.1).bind fun K20 =>
  (nwO K20 3 3).bind fun p21 =>
  (toV (ev O d MX3_init [.ref p21.1] p21.2)).bind fun K22 =>
  (ptA K22 a0 10 11 p21.1).bind fun K23 =>
  (ptI K23 a0 10 12 (nI 0)).bind fun K24 =>
  (ptI K24 a0 10 13 (-1)).bind fun K25 =>
  (ptI K25 a0 10 14 (-1)).bind fun K26 =>
  (ptI K26 a0 10 15 (nI 0)).bind fun K27 =>
  (ptI K27 a0 10 16 (nI 0)).bind fun K28 =>
  (nwO K28 8 2).bind fun p29 =>
  (toV (ev O d MX8_init [.ref p29.1] p29.2)).bind fun K30 =>
  (nwO K30 0 2).bind fun p31 =>
  (toV (ev O d MX0_init [.ref p31.1, .ref p29.1] p31.2)).bind fun K32 =>
  (nwO K32 2 18).bind fun p33 =>
  (toV (ev O d MX2_init [.ref p33.1, .ref p31.1] p33.2)).bind fun K34 =>
  (ptA K34 a0 10 10 p33.1).bind fun K35 =>
  (nwO K35 2 18).bind fun p36 =>
  (toV (ev O d MX2_init [.ref p36.1, .ref p31.1] p36.2)).bind fun K37 =>
  (ptA K37 a0 10 9 p36.1).bind fun K38 =>
  (nwO K38 9 6).bind fun p39 =>
  (toV (ev O d MX9_init [.ref p39.1, .ref p29.1, .ref p31.1] p39.2)).bind fun K40 =>
  (ptA K40 a0 10 8 p39.1).bind fun K41 =>
  some K41
theorem e_X10_init {O : mO} {d : Nat} {a0 : Nat} {K : mH} {x : mH} (h : F_X10_init O d a0 K = some x) : ev O (d + 1) MX10_init [.ref a0] K = some (none, x) := by
  refine Rn_evx ?_
  show Go O (d + 1) MX10_init 0 [some (.ref a0), none, none] [] K _
  generalize hP : (fun (r : Option Value) (K' : mH) => (r, K') = (none, x)) = P
  have hret : ∀ K' : mH, K' = x → P none K' := by
    intro K' e
    subst hP e
    rfl
  clear hP
  unfold F_X10_init at h
  refine g_aload_n dX10_init_0 rfl ?_
  refine g_obj dX10_init_1 (by decide +kernel) (Nat.le_of_ble_eq_true rfl) ?_
  refine g_aload_n dX10_init_4 rfl ?_
  obtain ⟨p1, ep1, h⟩ := bs h
  refine q_new dX10_init_5 (by decide +kernel) ep1 ?_
  refine g_dup dX10_init_8 (by first | rfl | exact vrf_cat _) ?_
  obtain ⟨K2, eK2, h⟩ := bs h
  refine q_spec (Z := MX6_init) (toV_s eK2) dX10_init_9 rfl mX10_9.1 mX10_9.2 (Nat.le_of_ble_eq_true rfl) rfl rfl (Nat.le_of_ble_eq_true rfl) (Nat.le_of_ble_eq_true rfl) ?_
  show Go O (d + 1) MX10_init 12 [some (.ref a0), none, none] [.ref p1.1, .ref a0] K2 P
  obtain ⟨K3, eK3, h⟩ := bs h
  refine q_put (c := (RX10, TX10, 17)) dX10_init_12 fX10_10 rfl rfl rfl (fun _ => ⟨rfl, rfl⟩) eK3 ?_
  refine g_aload_n dX10_init_15 rfl ?_
  obtain ⟨p4, ep4, h⟩ := bs h
  refine q_new dX10_init_16 (by decide +kernel) ep4 ?_
  refine g_dup dX10_init_19 (by first | rfl | exact vrf_cat _) ?_
  obtain ⟨K5, eK5, h⟩ := bs h
  refine q_spec (Z := MX4_init) (toV_s eK5) dX10_init_20 rfl mX10_18.1 mX10_18.2 (Nat.le_of_ble_eq_true rfl) rfl rfl (Nat.le_of_ble_eq_true rfl) (Nat.le_of_ble_eq_true rfl) ?_
  show Go O (d + 1) MX10_init 23 [some (.ref a0), none, none] [.ref p4.1, .ref a0] K5 P
  obtain ⟨K6, eK6, h⟩ := bs h
  refine q_put (c := (RX10, TX10, 17)) dX10_init_23 fX10_19 rfl rfl rfl (fun _ => ⟨rfl, rfl⟩) eK6 ?_
  refine g_aload_n dX10_init_26 rfl ?_
  obtain ⟨p7, ep7, h⟩ := bs h
  refine q_new dX10_init_27 (by decide +kernel) ep7 ?_
  refine g_dup dX10_init_30 (by first | rfl | exact vrf_cat _) ?_
  obtain ⟨K8, eK8, h⟩ := bs h
  refine q_spec (Z := MX7_init) (toV_s eK8) dX10_init_31 rfl mX10_25.1 mX10_25.2 (Nat.le_of_ble_eq_true rfl) rfl rfl (Nat.le_of_ble_eq_true rfl) (Nat.le_of_ble_eq_true rfl) ?_
  show Go O (d + 1) MX10_init 34 [some (.ref a0), none, none] [.ref p7.1, .ref a0] K8 P
  obtain ⟨K9, eK9, h⟩ := bs h
  refine q_put (c := (RX10, TX10, 17)) dX10_init_34 fX10_26 rfl rfl rfl (fun _ => ⟨rfl, rfl⟩) eK9 ?_
  refine g_aload_n dX10_init_37 rfl ?_
  obtain ⟨p10, ep10, h⟩ := bs h
  refine q_new dX10_init_38 (by decide +kernel) ep10 ?_
  refine g_dup dX10_init_41 (by first | rfl | exact vrf_cat _) ?_
  obtain ⟨K11, eK11, h⟩ := bs h
  refine q_spec (Z := MX1_init) (toV_s eK11) dX10_init_42 rfl mX10_32.1 mX10_32.2 (Nat.le_of_ble_eq_true rfl) rfl rfl (Nat.le_of_ble_eq_true rfl) (Nat.le_of_ble_eq_true rfl) ?_
  show Go O (d + 1) MX10_init 45 [some (.ref a0), none, none] [.ref p10.1, .ref a0] K11 P
  obtain ⟨K12, eK12, h⟩ := bs h
  refine q_put (c := (RX10, TX10, 17)) dX10_init_45 fX10_33 rfl rfl rfl (fun _ => ⟨rfl, rfl⟩) eK12 ?_
  refine g_aload_n dX10_init_48 rfl ?_
  refine g_bipush (v := (nI 20)) dX10_init_49 (by decide) ?_
  obtain ⟨p13, ep13, h⟩ := bs h
  refine q_newa dX10_init_51 ep13 ?_
  obtain ⟨K14, eK14, h⟩ := bs h
  refine q_put (c := (RX10, TX10, 17)) dX10_init_53 fX10_37 rfl rfl rfl (fun _ => ⟨rfl, rfl⟩) eK14 ?_
  refine g_aload_n dX10_init_56 rfl ?_
  refine g_sipush (v := (nI 400)) dX10_init_57 (by decide) ?_
  obtain ⟨p15, ep15, h⟩ := bs h
  refine q_newa dX10_init_60 ep15 ?_
  obtain ⟨K16, eK16, h⟩ := bs h
  refine q_put (c := (RX10, TX10, 17)) dX10_init_62 fX10_41 rfl rfl rfl (fun _ => ⟨rfl, rfl⟩) eK16 ?_
  refine g_aload_n dX10_init_65 rfl ?_
  refine g_iconst (v := (nI 5)) dX10_init_66 (by decide) ?_
  obtain ⟨p17, ep17, h⟩ := bs h
  refine q_newa dX10_init_67 ep17 ?_
  obtain ⟨K18, eK18, h⟩ := bs h
  refine q_put (c := (RX10, TX10, 17)) dX10_init_69 fX10_45 rfl rfl rfl (fun _ => ⟨rfl, rfl⟩) eK18 ?_
  refine g_aload_n dX10_init_72 rfl ?_
  refine g_iconst (v := (nI 2)) dX10_init_73 (by decide) ?_
  obtain ⟨p19, ep19, h⟩ := bs h
  refine q_anew dX10_init_74 (by decide +kernel) ep19 ?_
  obtain ⟨K20, eK20, h⟩ := bs h
  refine q_put (c := (RX10, TX10, 17)) dX10_init_77 fX10_51 rfl rfl rfl (fun _ => ⟨rfl, rfl⟩) eK20 ?_
  refine g_aload_n dX10_init_80 rfl ?_
  obtain ⟨p21, ep21, h⟩ := bs h
  refine q_new dX10_init_81 (by decide +kernel) ep21 ?_
  refine g_dup dX10_init_84 (by first | rfl | exact vrf_cat _) ?_
  obtain ⟨K22, eK22, h⟩ := bs h
  refine q_spec (Z := MX3_init) (toV_s eK22) dX10_init_85 rfl mX10_57.1 mX10_57.2 (Nat.le_of_ble_eq_true rfl) rfl rfl (Nat.le_of_ble_eq_true rfl) (Nat.le_of_ble_eq_true rfl) ?_
  show Go O (d + 1) MX10_init 88 [some (.ref a0), none, none] [.ref p21.1, .ref a0] K22 P
  obtain ⟨K23, eK23, h⟩ := bs h
  refine q_put (c := (RX10, TX10, 17)) dX10_init_88 fX10_58 rfl rfl rfl (fun h => absurd h (by decide)) eK23 ?_
  refine g_aload_n dX10_init_91 rfl ?_
  refine g_iconst (v := (nI 0)) dX10_init_92 (by decide) ?_
  obtain ⟨K24, eK24, h⟩ := bs h
  refine q_put (c := (RX10, TX10, 17)) dX10_init_93 fX10_62 rfl rfl rfl (fun h => absurd h (by decide)) eK24 ?_
  refine g_aload_n dX10_init_96 rfl ?_
  refine g_iconst (v := (-1)) dX10_init_97 (by decide) ?_
  obtain ⟨K25, eK25, h⟩ := bs h
  refine q_put (c := (RX10, TX10, 17)) dX10_init_98 fX10_66 rfl rfl rfl (fun h => absurd h (by decide)) eK25 ?_
  refine g_aload_n dX10_init_101 rfl ?_
  refine g_iconst (v := (-1)) dX10_init_102 (by decide) ?_
  obtain ⟨K26, eK26, h⟩ := bs h
  refine q_put (c := (RX10, TX10, 17)) dX10_init_103 fX10_69 rfl rfl rfl (fun h => absurd h (by decide)) eK26 ?_
  refine g_aload_n dX10_init_106 rfl ?_
  refine g_iconst (v := (nI 0)) dX10_init_107 (by decide) ?_
  obtain ⟨K27, eK27, h⟩ := bs h
  refine q_put (c := (RX10, TX10, 17)) dX10_init_108 fX10_72 rfl rfl rfl (fun h => absurd h (by decide)) eK27 ?_
  refine g_aload_n dX10_init_111 rfl ?_
  refine g_iconst (v := (nI 0)) dX10_init_112 (by decide) ?_
  obtain ⟨K28, eK28, h⟩ := bs h
  refine q_put (c := (RX10, TX10, 17)) dX10_init_113 fX10_75 rfl rfl rfl (fun h => absurd h (by decide)) eK28 ?_
  obtain ⟨p29, ep29, h⟩ := bs h
  refine q_new dX10_init_116 (by decide +kernel) ep29 ?_
  refine g_dup dX10_init_119 (by first | rfl | exact vrf_cat _) ?_
  obtain ⟨K30, eK30, h⟩ := bs h
  refine q_spec (Z := MX8_init) (toV_s eK30) dX10_init_120 rfl mX10_80.1 mX10_80.2 (Nat.le_of_ble_eq_true rfl) rfl rfl (Nat.le_of_ble_eq_true rfl) (Nat.le_of_ble_eq_true rfl) ?_
  show Go O (d + 1) MX10_init 123 [some (.ref a0), none, none] [.ref p29.1] K30 P
  refine g_astore_n (ls' := [some (.ref a0), some (.ref p29.1), none]) dX10_init_123 (by decide) rfl ?_
  obtain ⟨p31, ep31, h⟩ := bs h
  refine q_new dX10_init_124 (by decide +kernel) ep31 ?_
  refine g_dup dX10_init_127 (by first | rfl | exact vrf_cat _) ?_
  refine g_aload_n dX10_init_128 rfl ?_
  obtain ⟨K32, eK32, h⟩ := bs h
  refine q_spec (Z := MX0_init) (toV_s eK32) dX10_init_129 rfl mX10_83.1 mX10_83.2 (Nat.le_of_ble_eq_true rfl) rfl rfl (Nat.le_of_ble_eq_true rfl) (Nat.le_of_ble_eq_true rfl) ?_
  show Go O (d + 1) MX10_init 132 [some (.ref a0), some (.ref p29.1), none] [.ref p31.1] K32 P
  refine g_astore_n (ls' := [some (.ref a0), some (.ref p29.1), some (.ref p31.1)]) dX10_init_132 (by decide) rfl ?_
  refine g_aload_n dX10_init_133 rfl ?_
  obtain ⟨p33, ep33, h⟩ := bs h
  refine q_new dX10_init_134 (by decide +kernel) ep33 ?_
  refine g_dup dX10_init_137 (by first | rfl | exact vrf_cat _) ?_
  refine g_aload_n dX10_init_138 rfl ?_
  obtain ⟨K34, eK34, h⟩ := bs h
  refine q_spec (Z := MX2_init) (toV_s eK34) dX10_init_139 rfl mX10_86.1 mX10_86.2 (Nat.le_of_ble_eq_true rfl) rfl rfl (Nat.le_of_ble_eq_true rfl) (Nat.le_of_ble_eq_true rfl) ?_
  show Go O (d + 1) MX10_init 142 [some (.ref a0), some (.ref p29.1), some (.ref p31.1)] [.ref p33.1, .ref a0] K34 P
  obtain ⟨K35, eK35, h⟩ := bs h
  refine q_put (c := (RX10, TX10, 17)) dX10_init_142 fX10_89 rfl rfl rfl (fun h => absurd h (by decide)) eK35 ?_
  refine g_aload_n dX10_init_145 rfl ?_
  obtain ⟨p36, ep36, h⟩ := bs h
  refine q_new dX10_init_146 (by decide +kernel) ep36 ?_
  refine g_dup dX10_init_149 (by first | rfl | exact vrf_cat _) ?_
  refine g_aload_n dX10_init_150 rfl ?_
  obtain ⟨K37, eK37, h⟩ := bs h
  refine q_spec (Z := MX2_init) (toV_s eK37) dX10_init_151 rfl mX10_86.1 mX10_86.2 (Nat.le_of_ble_eq_true rfl) rfl rfl (Nat.le_of_ble_eq_true rfl) (Nat.le_of_ble_eq_true rfl) ?_
  show Go O (d + 1) MX10_init 154 [some (.ref a0), some (.ref p29.1), some (.ref p31.1)] [.ref p36.1, .ref a0] K37 P
  obtain ⟨K38, eK38, h⟩ := bs h
  refine q_put (c := (RX10, TX10, 17)) dX10_init_154 fX10_93 rfl rfl rfl (fun _ => ⟨rfl, rfl⟩) eK38 ?_
  refine g_aload_n dX10_init_157 rfl ?_
  obtain ⟨p39, ep39, h⟩ := bs h
  refine q_new dX10_init_158 (by decide +kernel) ep39 ?_
  refine g_dup dX10_init_161 (by first | rfl | exact vrf_cat _) ?_
  refine g_aload_n dX10_init_162 rfl ?_
  refine g_aload_n dX10_init_163 rfl ?_
  obtain ⟨K40, eK40, h⟩ := bs h
  refine q_spec (Z := MX9_init) (toV_s eK40) dX10_init_164 rfl mX10_98.1 mX10_98.2 (Nat.le_of_ble_eq_true rfl) rfl rfl (Nat.le_of_ble_eq_true rfl) (Nat.le_of_ble_eq_true rfl) ?_
  show Go O (d + 1) MX10_init 167 [some (.ref a0), some (.ref p29.1), some (.ref p31.1)] [.ref p39.1, .ref a0] K40 P
  obtain ⟨K41, eK41, h⟩ := bs h
  refine q_put (c := (RX10, TX10, 17)) dX10_init_167 fX10_101 rfl rfl rfl (fun _ => ⟨rfl, rfl⟩) eK41 ?_
  exact g_return dX10_init_170 rfl (hret _ (Option.some.inj h))
noncomputable def F_X11_init (O : mO) (d : Nat) (a0 : Nat) (K : mH) : Option (mH) :=
  (nwV K .int (nI 7)).bind fun p1 =>
  (ptA p1.2 a0 11 2 p1.1).bind fun K2 =>
  (nwV K2 .int (nI 5510)).bind fun p3 =>
  (ptA p3.2 a0 11 3 p3.1).bind fun K4 =>
  (nwV K4 .int (nI 11020)).bind fun p5 =>
  (ptA p5.2 a0 11 4 p5.1).bind fun K6 =>
  (nwV K6 .boolean (nI 2)).bind fun p7 =>
  (ptA p7.2 a0 11 5 p7.1).bind fun K8 =>
  (nwV K8 .int (nI 558)).bind fun p9 =>
  (ptA p9.2 a0 11 6 p9.1).bind fun K10 =>
  (nwV K10 .int (nI 16)).bind fun p11 =>
  (ptA p11.2 a0 11 7 p11.1).bind fun K12 =>
  (nwV K12 .int (nI 496)).bind fun p13 =>
  (ptA p13.2 a0 11 9 p13.1).bind fun K14 =>
  (nwV K14 .int (nI 16)).bind fun p15 =>
  (ptA p15.2 a0 11 10 p15.1).bind fun K16 =>
  (nwV K16 .int (nI 400)).bind fun p17 =>
  (ptA p17.2 a0 11 12 p17.1).bind fun K18 =>
  (ptI K18 a0 11 18 (-1)).bind fun K19 =>
  (nwV K19 .int (nI 96)).bind fun p20 =>
  (ptA p20.2 a0 11 22 p20.1).bind fun K21 =>
  (nwV K21 .int (nI 400)).bind fun p22 =>
  (ptA p22.2 a0 11 24 p22.1).bind fun K23 =>
  (nwV K23 .int (nI 400)).bind fun p24 =>
  (ptA p24.2 a0 11 25 p24.1).bind fun K25 =>
  (nwV K25 .int (nI 400)).bind fun p26 =>
  (ptA p26.2 a0 11 27 p26.1).bind fun K27 =>
  (nwV K27 .int (nI 400)).bind fun p28 =>
  (ptA p28.2 a0 11 28 p28.1).bind fun K29 =>
  (nwV K29 .long (nI 9)).bind fun p30 =>
  (wrJ p30.2 p30.1 (nI 0) (136228)).bind fun K31 =>
  (wrJ K31 p30.1 (nI 1) (202810777)).bind fun K32 =>
  (wrJ K32 p30.1 (nI 2) (23123348)).bind fun K33 =>
  (wrJ K33 p30.1 (nI 3) (661069)).bind fun K34 =>
  (wrJ K34 p30.1 (nI 4) (13796819)).bind fun K35 =>
  (wrJ K35 p30.1 (nI 5) (70803)).bind fun K36 =>
  (wrJ K36 p30.1 (nI 6) (215205)).bind fun K37 =>
  (wrJ K37 p30.1 (nI 7) (824370)).bind fun K38 =>
  (wrJ K38 p30.1 (nI 8) (441828)).bind fun K39 =>
  (ptA K39 a0 11 31 p30.1).bind fun K40 =>
  (nwV K40 .long (nI 6)).bind fun p41 =>
  (wrJ p41.2 p41.1 (nI 0) (824370)).bind fun K42 =>
  (wrJ K42 p41.1 (nI 1) (146885)).bind fun K43 =>
  (wrJ K43 p41.1 (nI 2) (404362868)).bind fun K44 =>
  (wrJ K44 p41.1 (nI 3) (317301893)).bind fun K45 =>
  (wrJ K45 p41.1 (nI 4) (661069)).bind fun K46 =>
  (wrJ K46 p41.1 (nI 5) (13796819)).bind fun K47 =>
  (ptA K47 a0 11 32 p41.1).bind fun K48 =>
  (nwV K48 .long (nI 4)).bind fun p49 =>
  (wrJ p49.2 p49.1 (nI 0) (556043443)).bind fun K50 =>
  (wrJ K50 p49.1 (nI 1) (12635795)).bind fun K51 =>
  (wrJ K51 p49.1 (nI 2) (5294547)).bind fun K52 =>
  (wrJ K52 p49.1 (nI 3) (67155)).bind fun K53 =>
  (ptA K53 a0 11 33 p49.1).bind fun K54 =>
  (nwV K54 .long (nI 13)).bind fun p55 =>
  (ptA p55.2 a0 11 35 p55.1).bind fun K56 =>
  (nwV K56 .long (nI 13)).bind fun p57 =>
  (ptA p57.2 a0 11 36 p57.1).bind fun K58 =>
  (nwV K58 .long (nI 400)).bind fun p59 =>
  (ptA p59.2 a0 11 37 p59.1).bind fun K60 =>
  (nwV K60 .int (nI 4)).bind fun p61 =>
  (ptA p61.2 a0 11 41 p61.1).bind fun K62 =>
  (nwV K62 .int (nI 8)).bind fun p63 =>
  (ptA p63.2 a0 11 42 p63.1).bind fun K64 =>
  (nwV K64 .int (nI 9216)).bind fun p65 =>
  (ptA p65.2 a0 11 43 p65.1).bind fun K66 =>
  (nwV K66 .boolean (nI 40)).bind fun p67 =>
  (ptA p67.2 a0 11 44 p67.1).bind fun K68 =>
  (nwV K68 .long (nI 21)).bind fun p69 =>
  (ptA p69.2 a0 11 45 p69.1).bind fun K70 =>
  (nwV K70 .long (nI 4)).bind fun p71 =>
  (wrJ p71.2 p71.1 (nI 0) (19052727)).bind fun K72 =>
  (wrJ K72 p71.1 (nI 1) (13078757)).bind fun K73 =>
  (wrJ K73 p71.1 (nI 2) (12008555)).bind fun K74 =>
  (wrJ K74 p71.1 (nI 3) (525939)).bind fun K75 =>
  (ptA K75 a0 11 46 p71.1).bind fun K76 =>
  (nwV K76 .int (nI 96)).bind fun p77 =>
  (ptA p77.2 a0 11 47 p77.1).bind fun K78 =>
  (ptI K78 a0 11 50 (-1)).bind fun K79 =>
  (nwV K79 .int (nI 31)).bind fun p80 =>
  (ptA p80.2 a0 11 53 p80.1).bind fun K81 =>
  (ptI K81 a0 11 54 (-1)).bind fun K82 =>
  (ptI K82 a0 11 55 (-1)).bind fun K83 =>
  (gtA K83 a0 11 3).bind fun x84 =>
  (wrI K83 x84 (nI 5) (-1)).bind fun K85 =>
  (gtA K85 a0 11 3).bind fun x86 =>
  (wrI K85 x86 (nI 7) (nI 2)).bind fun K87 =>
  some K87
theorem e_X11_init {O : mO} {d : Nat} {a0 : Nat} {K : mH} {x : mH} (h : F_X11_init O d a0 K = some x) : ev O (d + 1) MX11_init [.ref a0] K = some (none, x) := by
  refine Rn_evx ?_
  show Go O (d + 1) MX11_init 0 [some (.ref a0)] [] K _
  generalize hP : (fun (r : Option Value) (K' : mH) => (r, K') = (none, x)) = P
  have hret : ∀ K' : mH, K' = x → P none K' := by
    intro K' e
    subst hP e
    rfl
  clear hP
  unfold F_X11_init at h
  refine g_aload_n dX11_init_0 rfl ?_
  refine g_obj dX11_init_1 (by decide +kernel) (Nat.le_of_ble_eq_true rfl) ?_
  refine g_aload_n dX11_init_4 rfl ?_
  refine g_bipush (v := (nI 7)) dX11_init_5 (by decide) ?_
  obtain ⟨p1, ep1, h⟩ := bs h
  refine q_newa dX11_init_7 ep1 ?_
  obtain ⟨K2, eK2, h⟩ := bs h
  refine q_put (c := (RX11, TX11, 56)) dX11_init_9 fX11_7 rfl rfl rfl (fun _ => ⟨rfl, rfl⟩) eK2 ?_
  refine g_aload_n dX11_init_12 rfl ?_
  refine g_sipush (v := (nI 5510)) dX11_init_13 (by decide) ?_
  obtain ⟨p3, ep3, h⟩ := bs h
  refine q_newa dX11_init_16 ep3 ?_
  obtain ⟨K4, eK4, h⟩ := bs h
  refine q_put (c := (RX11, TX11, 56)) dX11_init_18 fX11_13 rfl rfl rfl (fun _ => ⟨rfl, rfl⟩) eK4 ?_
  refine g_aload_n dX11_init_21 rfl ?_
  refine g_sipush (v := (nI 11020)) dX11_init_22 (by decide) ?_
  obtain ⟨p5, ep5, h⟩ := bs h
  refine q_newa dX11_init_25 ep5 ?_
  obtain ⟨K6, eK6, h⟩ := bs h
  refine q_put (c := (RX11, TX11, 56)) dX11_init_27 fX11_16 rfl rfl rfl (fun _ => ⟨rfl, rfl⟩) eK6 ?_
  refine g_aload_n dX11_init_30 rfl ?_
  refine g_iconst (v := (nI 2)) dX11_init_31 (by decide) ?_
  obtain ⟨p7, ep7, h⟩ := bs h
  refine q_newa dX11_init_32 ep7 ?_
  obtain ⟨K8, eK8, h⟩ := bs h
  refine q_put (c := (RX11, TX11, 56)) dX11_init_34 fX11_19 rfl rfl rfl (fun _ => ⟨rfl, rfl⟩) eK8 ?_
  refine g_aload_n dX11_init_37 rfl ?_
  refine g_sipush (v := (nI 558)) dX11_init_38 (by decide) ?_
  obtain ⟨p9, ep9, h⟩ := bs h
  refine q_newa dX11_init_41 ep9 ?_
  obtain ⟨K10, eK10, h⟩ := bs h
  refine q_put (c := (RX11, TX11, 56)) dX11_init_43 fX11_23 rfl rfl rfl (fun _ => ⟨rfl, rfl⟩) eK10 ?_
  refine g_aload_n dX11_init_46 rfl ?_
  refine g_bipush (v := (nI 16)) dX11_init_47 (by decide) ?_
  obtain ⟨p11, ep11, h⟩ := bs h
  refine q_newa dX11_init_49 ep11 ?_
  obtain ⟨K12, eK12, h⟩ := bs h
  refine q_put (c := (RX11, TX11, 56)) dX11_init_51 fX11_26 rfl rfl rfl (fun _ => ⟨rfl, rfl⟩) eK12 ?_
  refine g_aload_n dX11_init_54 rfl ?_
  refine g_sipush (v := (nI 496)) dX11_init_55 (by decide) ?_
  obtain ⟨p13, ep13, h⟩ := bs h
  refine q_newa dX11_init_58 ep13 ?_
  obtain ⟨K14, eK14, h⟩ := bs h
  refine q_put (c := (RX11, TX11, 56)) dX11_init_60 fX11_29 rfl rfl rfl (fun _ => ⟨rfl, rfl⟩) eK14 ?_
  refine g_aload_n dX11_init_63 rfl ?_
  refine g_bipush (v := (nI 16)) dX11_init_64 (by decide) ?_
  obtain ⟨p15, ep15, h⟩ := bs h
  refine q_newa dX11_init_66 ep15 ?_
  obtain ⟨K16, eK16, h⟩ := bs h
  refine q_put (c := (RX11, TX11, 56)) dX11_init_68 fX11_32 rfl rfl rfl (fun _ => ⟨rfl, rfl⟩) eK16 ?_
  refine g_aload_n dX11_init_71 rfl ?_
  refine g_sipush (v := (nI 400)) dX11_init_72 (by decide) ?_
  obtain ⟨p17, ep17, h⟩ := bs h
  refine q_newa dX11_init_75 ep17 ?_
  obtain ⟨K18, eK18, h⟩ := bs h
  refine q_put (c := (RX11, TX11, 56)) dX11_init_77 fX11_35 rfl rfl rfl (fun _ => ⟨rfl, rfl⟩) eK18 ?_
  refine g_aload_n dX11_init_80 rfl ?_
  refine g_iconst (v := (-1)) dX11_init_81 (by decide) ?_
  obtain ⟨K19, eK19, h⟩ := bs h
  refine q_put (c := (RX11, TX11, 56)) dX11_init_82 fX11_38 rfl rfl rfl (fun h => absurd h (by decide)) eK19 ?_
  refine g_aload_n dX11_init_85 rfl ?_
  refine g_bipush (v := (nI 96)) dX11_init_86 (by decide) ?_
  obtain ⟨p20, ep20, h⟩ := bs h
  refine q_newa dX11_init_88 ep20 ?_
  obtain ⟨K21, eK21, h⟩ := bs h
  refine q_put (c := (RX11, TX11, 56)) dX11_init_90 fX11_42 rfl rfl rfl (fun _ => ⟨rfl, rfl⟩) eK21 ?_
  refine g_aload_n dX11_init_93 rfl ?_
  refine g_sipush (v := (nI 400)) dX11_init_94 (by decide) ?_
  obtain ⟨p22, ep22, h⟩ := bs h
  refine q_newa dX11_init_97 ep22 ?_
  obtain ⟨K23, eK23, h⟩ := bs h
  refine q_put (c := (RX11, TX11, 56)) dX11_init_99 fX11_45 rfl rfl rfl (fun _ => ⟨rfl, rfl⟩) eK23 ?_
  refine g_aload_n dX11_init_102 rfl ?_
  refine g_sipush (v := (nI 400)) dX11_init_103 (by decide) ?_
  obtain ⟨p24, ep24, h⟩ := bs h
  refine q_newa dX11_init_106 ep24 ?_
  obtain ⟨K25, eK25, h⟩ := bs h
  refine q_put (c := (RX11, TX11, 56)) dX11_init_108 fX11_48 rfl rfl rfl (fun _ => ⟨rfl, rfl⟩) eK25 ?_
  refine g_aload_n dX11_init_111 rfl ?_
  refine g_sipush (v := (nI 400)) dX11_init_112 (by decide) ?_
  obtain ⟨p26, ep26, h⟩ := bs h
  refine q_newa dX11_init_115 ep26 ?_
  obtain ⟨K27, eK27, h⟩ := bs h
  refine q_put (c := (RX11, TX11, 56)) dX11_init_117 fX11_51 rfl rfl rfl (fun _ => ⟨rfl, rfl⟩) eK27 ?_
  refine g_aload_n dX11_init_120 rfl ?_
  refine g_sipush (v := (nI 400)) dX11_init_121 (by decide) ?_
  obtain ⟨p28, ep28, h⟩ := bs h
  refine q_newa dX11_init_124 ep28 ?_
  obtain ⟨K29, eK29, h⟩ := bs h
  refine q_put (c := (RX11, TX11, 56)) dX11_init_126 fX11_54 rfl rfl rfl (fun _ => ⟨rfl, rfl⟩) eK29 ?_
  refine g_aload_n dX11_init_129 rfl ?_
  refine g_bipush (v := (nI 9)) dX11_init_130 (by decide) ?_
  obtain ⟨p30, ep30, h⟩ := bs h
  refine q_newa dX11_init_132 ep30 ?_
  refine g_dup dX11_init_134 (by first | rfl | exact vrf_cat _) ?_
  refine g_iconst (v := (nI 0)) dX11_init_135 (by decide) ?_
  refine g_ldc2 (v := 136228) dX11_init_136 lX11_57 ?_
  obtain ⟨K31, eK31, h⟩ := bs h
  refine q_last dX11_init_139 eK31 ?_
  refine g_dup dX11_init_140 (by first | rfl | exact vrf_cat _) ?_
  refine g_iconst (v := (nI 1)) dX11_init_141 (by decide) ?_
  refine g_ldc2 (v := 202810777) dX11_init_142 lX11_59 ?_
  obtain ⟨K32, eK32, h⟩ := bs h
  refine q_last dX11_init_145 eK32 ?_
  refine g_dup dX11_init_146 (by first | rfl | exact vrf_cat _) ?_
  refine g_iconst (v := (nI 2)) dX11_init_147 (by decide) ?_
  refine g_ldc2 (v := 23123348) dX11_init_148 lX11_61 ?_
  obtain ⟨K33, eK33, h⟩ := bs h
  refine q_last dX11_init_151 eK33 ?_
  refine g_dup dX11_init_152 (by first | rfl | exact vrf_cat _) ?_
  refine g_iconst (v := (nI 3)) dX11_init_153 (by decide) ?_
  refine g_ldc2 (v := 661069) dX11_init_154 lX11_63 ?_
  obtain ⟨K34, eK34, h⟩ := bs h
  refine q_last dX11_init_157 eK34 ?_
  refine g_dup dX11_init_158 (by first | rfl | exact vrf_cat _) ?_
  refine g_iconst (v := (nI 4)) dX11_init_159 (by decide) ?_
  refine g_ldc2 (v := 13796819) dX11_init_160 lX11_65 ?_
  obtain ⟨K35, eK35, h⟩ := bs h
  refine q_last dX11_init_163 eK35 ?_
  refine g_dup dX11_init_164 (by first | rfl | exact vrf_cat _) ?_
  refine g_iconst (v := (nI 5)) dX11_init_165 (by decide) ?_
  refine g_ldc2 (v := 70803) dX11_init_166 lX11_67 ?_
  obtain ⟨K36, eK36, h⟩ := bs h
  refine q_last dX11_init_169 eK36 ?_
  refine g_dup dX11_init_170 (by first | rfl | exact vrf_cat _) ?_
  refine g_bipush (v := (nI 6)) dX11_init_171 (by decide) ?_
  refine g_ldc2 (v := 215205) dX11_init_173 lX11_69 ?_
  obtain ⟨K37, eK37, h⟩ := bs h
  refine q_last dX11_init_176 eK37 ?_
  refine g_dup dX11_init_177 (by first | rfl | exact vrf_cat _) ?_
  refine g_bipush (v := (nI 7)) dX11_init_178 (by decide) ?_
  refine g_ldc2 (v := 824370) dX11_init_180 lX11_71 ?_
  obtain ⟨K38, eK38, h⟩ := bs h
  refine q_last dX11_init_183 eK38 ?_
  refine g_dup dX11_init_184 (by first | rfl | exact vrf_cat _) ?_
  refine g_bipush (v := (nI 8)) dX11_init_185 (by decide) ?_
  refine g_ldc2 (v := 441828) dX11_init_187 lX11_73 ?_
  obtain ⟨K39, eK39, h⟩ := bs h
  refine q_last dX11_init_190 eK39 ?_
  obtain ⟨K40, eK40, h⟩ := bs h
  refine q_put (c := (RX11, TX11, 56)) dX11_init_191 fX11_75 rfl rfl rfl (fun _ => ⟨rfl, rfl⟩) eK40 ?_
  refine g_aload_n dX11_init_194 rfl ?_
  refine g_bipush (v := (nI 6)) dX11_init_195 (by decide) ?_
  obtain ⟨p41, ep41, h⟩ := bs h
  refine q_newa dX11_init_197 ep41 ?_
  refine g_dup dX11_init_199 (by first | rfl | exact vrf_cat _) ?_
  refine g_iconst (v := (nI 0)) dX11_init_200 (by decide) ?_
  refine g_ldc2 (v := 824370) dX11_init_201 lX11_71 ?_
  obtain ⟨K42, eK42, h⟩ := bs h
  refine q_last dX11_init_204 eK42 ?_
  refine g_dup dX11_init_205 (by first | rfl | exact vrf_cat _) ?_
  refine g_iconst (v := (nI 1)) dX11_init_206 (by decide) ?_
  refine g_ldc2 (v := 146885) dX11_init_207 lX11_79 ?_
  obtain ⟨K43, eK43, h⟩ := bs h
  refine q_last dX11_init_210 eK43 ?_
  refine g_dup dX11_init_211 (by first | rfl | exact vrf_cat _) ?_
  refine g_iconst (v := (nI 2)) dX11_init_212 (by decide) ?_
  refine g_ldc2 (v := 404362868) dX11_init_213 lX11_81 ?_
  obtain ⟨K44, eK44, h⟩ := bs h
  refine q_last dX11_init_216 eK44 ?_
  refine g_dup dX11_init_217 (by first | rfl | exact vrf_cat _) ?_
  refine g_iconst (v := (nI 3)) dX11_init_218 (by decide) ?_
  refine g_ldc2 (v := 317301893) dX11_init_219 lX11_83 ?_
  obtain ⟨K45, eK45, h⟩ := bs h
  refine q_last dX11_init_222 eK45 ?_
  refine g_dup dX11_init_223 (by first | rfl | exact vrf_cat _) ?_
  refine g_iconst (v := (nI 4)) dX11_init_224 (by decide) ?_
  refine g_ldc2 (v := 661069) dX11_init_225 lX11_63 ?_
  obtain ⟨K46, eK46, h⟩ := bs h
  refine q_last dX11_init_228 eK46 ?_
  refine g_dup dX11_init_229 (by first | rfl | exact vrf_cat _) ?_
  refine g_iconst (v := (nI 5)) dX11_init_230 (by decide) ?_
  refine g_ldc2 (v := 13796819) dX11_init_231 lX11_65 ?_
  obtain ⟨K47, eK47, h⟩ := bs h
  refine q_last dX11_init_234 eK47 ?_
  obtain ⟨K48, eK48, h⟩ := bs h
  refine q_put (c := (RX11, TX11, 56)) dX11_init_235 fX11_85 rfl rfl rfl (fun _ => ⟨rfl, rfl⟩) eK48 ?_
  refine g_aload_n dX11_init_238 rfl ?_
  refine g_iconst (v := (nI 4)) dX11_init_239 (by decide) ?_
  obtain ⟨p49, ep49, h⟩ := bs h
  refine q_newa dX11_init_240 ep49 ?_
  refine g_dup dX11_init_242 (by first | rfl | exact vrf_cat _) ?_
  refine g_iconst (v := (nI 0)) dX11_init_243 (by decide) ?_
  refine g_ldc2 (v := 556043443) dX11_init_244 lX11_88 ?_
  obtain ⟨K50, eK50, h⟩ := bs h
  refine q_last dX11_init_247 eK50 ?_
  refine g_dup dX11_init_248 (by first | rfl | exact vrf_cat _) ?_
  refine g_iconst (v := (nI 1)) dX11_init_249 (by decide) ?_
  refine g_ldc2 (v := 12635795) dX11_init_250 lX11_90 ?_
  obtain ⟨K51, eK51, h⟩ := bs h
  refine q_last dX11_init_253 eK51 ?_
  refine g_dup dX11_init_254 (by first | rfl | exact vrf_cat _) ?_
  refine g_iconst (v := (nI 2)) dX11_init_255 (by decide) ?_
  refine g_ldc2 (v := 5294547) dX11_init_256 lX11_92 ?_
  obtain ⟨K52, eK52, h⟩ := bs h
  refine q_last dX11_init_259 eK52 ?_
  refine g_dup dX11_init_260 (by first | rfl | exact vrf_cat _) ?_
  refine g_iconst (v := (nI 3)) dX11_init_261 (by decide) ?_
  refine g_ldc2 (v := 67155) dX11_init_262 lX11_94 ?_
  obtain ⟨K53, eK53, h⟩ := bs h
  refine q_last dX11_init_265 eK53 ?_
  obtain ⟨K54, eK54, h⟩ := bs h
  refine q_put (c := (RX11, TX11, 56)) dX11_init_266 fX11_96 rfl rfl rfl (fun _ => ⟨rfl, rfl⟩) eK54 ?_
  refine g_aload_n dX11_init_269 rfl ?_
  refine g_bipush (v := (nI 13)) dX11_init_270 (by decide) ?_
  obtain ⟨p55, ep55, h⟩ := bs h
  refine q_newa dX11_init_272 ep55 ?_
  obtain ⟨K56, eK56, h⟩ := bs h
  refine q_put (c := (RX11, TX11, 56)) dX11_init_274 fX11_99 rfl rfl rfl (fun _ => ⟨rfl, rfl⟩) eK56 ?_
  refine g_aload_n dX11_init_277 rfl ?_
  refine g_bipush (v := (nI 13)) dX11_init_278 (by decide) ?_
  obtain ⟨p57, ep57, h⟩ := bs h
  refine q_newa dX11_init_280 ep57 ?_
  obtain ⟨K58, eK58, h⟩ := bs h
  refine q_put (c := (RX11, TX11, 56)) dX11_init_282 fX11_102 rfl rfl rfl (fun _ => ⟨rfl, rfl⟩) eK58 ?_
  refine g_aload_n dX11_init_285 rfl ?_
  refine g_sipush (v := (nI 400)) dX11_init_286 (by decide) ?_
  obtain ⟨p59, ep59, h⟩ := bs h
  refine q_newa dX11_init_289 ep59 ?_
  obtain ⟨K60, eK60, h⟩ := bs h
  refine q_put (c := (RX11, TX11, 56)) dX11_init_291 fX11_105 rfl rfl rfl (fun _ => ⟨rfl, rfl⟩) eK60 ?_
  refine g_aload_n dX11_init_294 rfl ?_
  refine g_iconst (v := (nI 4)) dX11_init_295 (by decide) ?_
  obtain ⟨p61, ep61, h⟩ := bs h
  refine q_newa dX11_init_296 ep61 ?_
  obtain ⟨K62, eK62, h⟩ := bs h
  refine q_put (c := (RX11, TX11, 56)) dX11_init_298 fX11_108 rfl rfl rfl (fun _ => ⟨rfl, rfl⟩) eK62 ?_
  refine g_aload_n dX11_init_301 rfl ?_
  refine g_bipush (v := (nI 8)) dX11_init_302 (by decide) ?_
  obtain ⟨p63, ep63, h⟩ := bs h
  refine q_newa dX11_init_304 ep63 ?_
  obtain ⟨K64, eK64, h⟩ := bs h
  refine q_put (c := (RX11, TX11, 56)) dX11_init_306 fX11_111 rfl rfl rfl (fun _ => ⟨rfl, rfl⟩) eK64 ?_
  refine g_aload_n dX11_init_309 rfl ?_
  refine g_sipush (v := (nI 9216)) dX11_init_310 (by decide) ?_
  obtain ⟨p65, ep65, h⟩ := bs h
  refine q_newa dX11_init_313 ep65 ?_
  obtain ⟨K66, eK66, h⟩ := bs h
  refine q_put (c := (RX11, TX11, 56)) dX11_init_315 fX11_114 rfl rfl rfl (fun _ => ⟨rfl, rfl⟩) eK66 ?_
  refine g_aload_n dX11_init_318 rfl ?_
  refine g_bipush (v := (nI 40)) dX11_init_319 (by decide) ?_
  obtain ⟨p67, ep67, h⟩ := bs h
  refine q_newa dX11_init_321 ep67 ?_
  obtain ⟨K68, eK68, h⟩ := bs h
  refine q_put (c := (RX11, TX11, 56)) dX11_init_323 fX11_117 rfl rfl rfl (fun _ => ⟨rfl, rfl⟩) eK68 ?_
  refine g_aload_n dX11_init_326 rfl ?_
  refine g_bipush (v := (nI 21)) dX11_init_327 (by decide) ?_
  obtain ⟨p69, ep69, h⟩ := bs h
  refine q_newa dX11_init_329 ep69 ?_
  obtain ⟨K70, eK70, h⟩ := bs h
  refine q_put (c := (RX11, TX11, 56)) dX11_init_331 fX11_120 rfl rfl rfl (fun _ => ⟨rfl, rfl⟩) eK70 ?_
  refine g_aload_n dX11_init_334 rfl ?_
  refine g_iconst (v := (nI 4)) dX11_init_335 (by decide) ?_
  obtain ⟨p71, ep71, h⟩ := bs h
  refine q_newa dX11_init_336 ep71 ?_
  refine g_dup dX11_init_338 (by first | rfl | exact vrf_cat _) ?_
  refine g_iconst (v := (nI 0)) dX11_init_339 (by decide) ?_
  refine g_ldc2 (v := 19052727) dX11_init_340 lX11_123 ?_
  obtain ⟨K72, eK72, h⟩ := bs h
  refine q_last dX11_init_343 eK72 ?_
  refine g_dup dX11_init_344 (by first | rfl | exact vrf_cat _) ?_
  refine g_iconst (v := (nI 1)) dX11_init_345 (by decide) ?_
  refine g_ldc2 (v := 13078757) dX11_init_346 lX11_125 ?_
  obtain ⟨K73, eK73, h⟩ := bs h
  refine q_last dX11_init_349 eK73 ?_
  refine g_dup dX11_init_350 (by first | rfl | exact vrf_cat _) ?_
  refine g_iconst (v := (nI 2)) dX11_init_351 (by decide) ?_
  refine g_ldc2 (v := 12008555) dX11_init_352 lX11_127 ?_
  obtain ⟨K74, eK74, h⟩ := bs h
  refine q_last dX11_init_355 eK74 ?_
  refine g_dup dX11_init_356 (by first | rfl | exact vrf_cat _) ?_
  refine g_iconst (v := (nI 3)) dX11_init_357 (by decide) ?_
  refine g_ldc2 (v := 525939) dX11_init_358 lX11_129 ?_
  obtain ⟨K75, eK75, h⟩ := bs h
  refine q_last dX11_init_361 eK75 ?_
  obtain ⟨K76, eK76, h⟩ := bs h
  refine q_put (c := (RX11, TX11, 56)) dX11_init_362 fX11_131 rfl rfl rfl (fun _ => ⟨rfl, rfl⟩) eK76 ?_
  refine g_aload_n dX11_init_365 rfl ?_
  refine g_bipush (v := (nI 96)) dX11_init_366 (by decide) ?_
  obtain ⟨p77, ep77, h⟩ := bs h
  refine q_newa dX11_init_368 ep77 ?_
  obtain ⟨K78, eK78, h⟩ := bs h
  refine q_put (c := (RX11, TX11, 56)) dX11_init_370 fX11_134 rfl rfl rfl (fun _ => ⟨rfl, rfl⟩) eK78 ?_
  refine g_aload_n dX11_init_373 rfl ?_
  refine g_iconst (v := (-1)) dX11_init_374 (by decide) ?_
  obtain ⟨K79, eK79, h⟩ := bs h
  refine q_put (c := (RX11, TX11, 56)) dX11_init_375 fX11_137 rfl rfl rfl (fun h => absurd h (by decide)) eK79 ?_
  refine g_aload_n dX11_init_378 rfl ?_
  refine g_bipush (v := (nI 31)) dX11_init_379 (by decide) ?_
  obtain ⟨p80, ep80, h⟩ := bs h
  refine q_newa dX11_init_381 ep80 ?_
  obtain ⟨K81, eK81, h⟩ := bs h
  refine q_put (c := (RX11, TX11, 56)) dX11_init_383 fX11_140 rfl rfl rfl (fun _ => ⟨rfl, rfl⟩) eK81 ?_
  refine g_aload_n dX11_init_386 rfl ?_
  refine g_iconst (v := (-1)) dX11_init_387 (by decide) ?_
  obtain ⟨K82, eK82, h⟩ := bs h
  refine q_put (c := (RX11, TX11, 56)) dX11_init_388 fX11_143 rfl rfl rfl (fun h => absurd h (by decide)) eK82 ?_
  refine g_aload_n dX11_init_391 rfl ?_
  refine g_iconst (v := (-1)) dX11_init_392 (by decide) ?_
  obtain ⟨K83, eK83, h⟩ := bs h
  refine q_put (c := (RX11, TX11, 56)) dX11_init_393 fX11_146 rfl rfl rfl (fun h => absurd h (by decide)) eK83 ?_
  refine g_aload_n dX11_init_396 rfl ?_
  obtain ⟨x84, ex84, h⟩ := bs h
  refine q_getA dX11_init_397 fX11_13 ex84 ?_
  refine g_iconst (v := (nI 5)) dX11_init_400 (by decide) ?_
  refine g_iconst (v := (-1)) dX11_init_401 (by decide) ?_
  obtain ⟨K85, eK85, h⟩ := bs h
  refine q_iast dX11_init_402 eK85 ?_
  refine g_aload_n dX11_init_403 rfl ?_
  obtain ⟨x86, ex86, h⟩ := bs h
  refine q_getA dX11_init_404 fX11_13 ex86 ?_
  refine g_bipush (v := (nI 7)) dX11_init_407 (by decide) ?_
  refine g_iconst (v := (nI 2)) dX11_init_409 (by decide) ?_
  obtain ⟨K87, eK87, h⟩ := bs h
  refine q_iast dX11_init_410 eK87 ?_
  exact g_return dX11_init_411 rfl (hret _ (Option.some.inj h))
noncomputable def F_X10_image_j9 (O : mO) (d : Nat) (v0 : Nat) (K : mH) : Option (Int32 × mH) :=
  (toI (vc O d 10 MX10_refused v0 [.int (-1)] K)).bind fun p2 =>
  some (p2.1, p2.2)
theorem e_X10_image_j9 {O : mO} {d : Nat} {v0 : Nat} {K : mH} {P : Option Value → mH → Prop} {x : Int32 × mH} (hret : ∀ (r : Int32) (K' : mH), (r, K') = x → P (some (.int r)) K') (h : F_X10_image_j9 O d v0 K = some x) : Go O (d + 1) MX10_image 9 [some (.ref v0), none, none] [] K P := by
  unfold F_X10_image_j9 at h
  refine g_aload_n dX10_image_9 rfl ?_
  refine g_iconst (v := (-1)) dX10_image_10 (by decide) ?_
  obtain ⟨p2, ep2, h⟩ := bs h
  refine q_virt (Z := MX10_refused) (c := (RX10, TX10, 17)) (toI_s ep2) dX10_image_11 mX10_105.1 mX10_105.2 (Nat.le_of_ble_eq_true rfl) rfl rfl (Nat.le_of_ble_eq_true rfl) (Nat.le_of_ble_eq_true rfl) rfl rfl ?_
  show Go O (d + 1) MX10_image 14 [some (.ref v0), none, none] [.int p2.1] p2.2 P
  exact g_ireturn dX10_image_14 rfl (by first | rfl | decide) (hret _ _ (Option.some.inj h))
noncomputable def F_X10_image_j48 (O : mO) (d : Nat) (v0 : Nat) (v2 : Option Nat) (K : mH) : Option (Int32 × mH) :=
  (gtA K v0 10 10).bind fun x8 =>
  (v2).bind fun a9 =>
  (toV (vc O d 2 MX2_copyFrom a9 [.ref x8] K)).bind fun K10 =>
  (toI (vc O d 10 MX10_granted v0 [.int (nI 0)] K10)).bind fun p11 =>
  some (p11.1, p11.2)
theorem e_X10_image_j48 {O : mO} {d : Nat} {v0 : Nat} {v2 : Option Nat} {K : mH} {P : Option Value → mH → Prop} {x : Int32 × mH} (hret : ∀ (r : Int32) (K' : mH), (r, K') = x → P (some (.int r)) K') (h : F_X10_image_j48 O d v0 v2 K = some x) : Go O (d + 1) MX10_image 48 [some (.ref v0), none, some (va_rf v2)] [] K P := by
  unfold F_X10_image_j48 at h
  refine q_aload_n dX10_image_48 rfl ?_
  refine g_aload_n dX10_image_49 rfl ?_
  obtain ⟨x8, ex8, h⟩ := bs h
  refine q_getA dX10_image_50 fX10_89 ex8 ?_
  obtain ⟨a9, ea9, h⟩ := bs h
  try rw [ea9]
  obtain ⟨K10, eK10, h⟩ := bs h
  refine q_virt (Z := MX2_copyFrom) (c := (RX2, TX2, 18)) (toV_s eK10) dX10_image_53 mX10_332.1 mX10_332.2 (Nat.le_of_ble_eq_true rfl) rfl rfl (by cases v2 <;> exact Nat.le_of_ble_eq_true rfl) (Nat.le_of_ble_eq_true rfl) rfl rfl ?_
  show Go O (d + 1) MX10_image 56 [some (.ref v0), none, some (.ref a9)] [] K10 P
  refine g_aload_n dX10_image_56 rfl ?_
  refine g_iconst (v := (nI 0)) dX10_image_57 (by decide) ?_
  obtain ⟨p11, ep11, h⟩ := bs h
  refine q_virt (Z := MX10_granted) (c := (RX10, TX10, 17)) (toI_s ep11) dX10_image_58 mX10_118.1 mX10_118.2 (Nat.le_of_ble_eq_true rfl) rfl rfl (Nat.le_of_ble_eq_true rfl) (Nat.le_of_ble_eq_true rfl) rfl rfl ?_
  show Go O (d + 1) MX10_image 61 [some (.ref v0), none, some (.ref a9)] [.int p11.1] p11.2 P
  exact g_ireturn dX10_image_61 rfl (by first | rfl | decide) (hret _ _ (Option.some.inj h))
noncomputable def F_X10_image (O : mO) (d : Nat) (a0 : Nat) (a1 : Int32) (K : mH) : Option (Int32 × mH) :=
  if a1 < 0 then
    F_X10_image_j9 O d a0 K
  else
    if a1 < (nI 2) then
      (gtA K a0 10 7).bind fun x4 =>
      (rdR O K x4 a1).bind fun x5 =>
      if x5 = none then
        (nwO K 2 18).bind fun p12 =>
        (gtA p12.2 a0 10 10).bind fun x13 =>
        (gtA p12.2 x13 2 0).bind fun x14 =>
        (toV (ev O d MX2_init [.ref p12.1, .ref x14] p12.2)).bind fun K15 =>
        (gtA K15 a0 10 7).bind fun x16 =>
        (wrR K15 x16 a1 (some p12.1)).bind fun K17 =>
        F_X10_image_j48 O d a0 (some p12.1) K17
      else
        F_X10_image_j48 O d a0 x5 K
    else
      F_X10_image_j9 O d a0 K
theorem e_X10_image {O : mO} {d : Nat} {a0 : Nat} {a1 : Int32} {K : mH} {r0 : Int32} {K0 : mH} (h : F_X10_image O d a0 a1 K = some (r0, K0)) : ev O (d + 1) MX10_image [.ref a0, .int a1] K = some (some (.int r0), K0) := by
  refine Rn_evx ?_
  show Go O (d + 1) MX10_image 0 [some (.ref a0), some (.int a1), none] [] K _
  generalize hP : (fun (r : Option Value) (K' : mH) => (r, K') = (some (.int r0), K0)) = P
  have hret : ∀ (r : Int32) (K' : mH), (r, K') = (r0, K0) → P (some (.int r)) K' := by
    intro r K' e
    cases e
    subst hP
    rfl
  clear hP
  unfold F_X10_image at h
  refine g_iload_n dX10_image_0 rfl ?_
  refine g_if_lt (t := 9) dX10_image_1 (by decide) (fun c1 => ?_) (fun c1 => ?_)
  · rw [if_pos c1] at h
    refine Go_le ?_ (e_X10_image_j9 hret h)
    exact And.intro rfl (trivial)
  · rw [if_neg c1] at h
    refine g_iload_n dX10_image_4 rfl ?_
    refine g_iconst (v := (nI 2)) dX10_image_5 (by decide) ?_
    refine g_ic_lt (t := 15) dX10_image_6 (by decide) (fun c3 => ?_) (fun c3 => ?_)
    · rw [if_pos c3] at h
      refine g_aload_n dX10_image_15 rfl ?_
      obtain ⟨x4, ex4, h⟩ := bs h
      refine q_getA dX10_image_16 fX10_51 ex4 ?_
      refine g_iload_n dX10_image_19 rfl ?_
      obtain ⟨x5, ex5, h⟩ := bs h
      refine q_aald dX10_image_20 ex5 ?_
      refine q_astore_n (ls' := [some (.ref a0), some (.int a1), some (va_rf x5)]) dX10_image_21 (by decide) (by cases x5 <;> rfl) ?_
      refine q_aload_n dX10_image_22 rfl ?_
      refine q_ifnon (t := 48) dX10_image_23 (by decide) (fun c7 => ?_) (fun c7 => ?_)
      · rw [if_neg c7] at h
        refine Go_le ?_ (e_X10_image_j48 hret h)
        exact And.intro rfl (And.intro rfl (trivial))
      · rw [if_pos c7] at h
        obtain ⟨p12, ep12, h⟩ := bs h
        refine q_new dX10_image_26 (by decide +kernel) ep12 ?_
        refine g_dup dX10_image_29 (by first | rfl | exact vrf_cat _) ?_
        refine g_aload_n dX10_image_30 rfl ?_
        obtain ⟨x13, ex13, h⟩ := bs h
        refine q_getA dX10_image_31 fX10_89 ex13 ?_
        obtain ⟨x14, ex14, h⟩ := bs h
        refine q_getA dX10_image_34 fX10_347 ex14 ?_
        obtain ⟨K15, eK15, h⟩ := bs h
        refine q_spec (Z := MX2_init) (toV_s eK15) dX10_image_37 rfl mX10_86.1 mX10_86.2 (Nat.le_of_ble_eq_true rfl) rfl rfl (Nat.le_of_ble_eq_true rfl) (Nat.le_of_ble_eq_true rfl) ?_
        show Go O (d + 1) MX10_image 40 [some (.ref a0), some (.int a1), some (va_rf x5)] [.ref p12.1] K15 P
        refine g_astore_n (ls' := [some (.ref a0), some (.int a1), some (.ref p12.1)]) dX10_image_40 (by decide) rfl ?_
        refine g_aload_n dX10_image_41 rfl ?_
        obtain ⟨x16, ex16, h⟩ := bs h
        refine q_getA dX10_image_42 fX10_51 ex16 ?_
        refine g_iload_n dX10_image_45 rfl ?_
        refine g_aload_n dX10_image_46 rfl ?_
        obtain ⟨K17, eK17, h⟩ := bs h
        refine q_aast (v := (some p12.1)) dX10_image_47 eK17 ?_
        refine Go_le ?_ (e_X10_image_j48 hret h)
        exact And.intro rfl (And.intro rfl (trivial))
    · rw [if_neg c3] at h
      refine Go_le ?_ (e_X10_image_j9 hret h)
      exact And.intro rfl (trivial)
