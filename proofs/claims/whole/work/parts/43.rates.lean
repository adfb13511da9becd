/-! the reference's prices and the like -/
def wiF (v : Int64) (lo hi : Int32) : Int32 := if v < lo.toInt64 then lo else if hi.toInt64 < v then hi else v.toInt32
/-- the words for one of the dead at a vault -/
def sdW (w : Nat → Int32) (D k : Nat) (v : Int32) (o : Nat) : Int64 := match o with
  | 1 => (nI k).toInt64
  | 2 => (w (42 + k)).toInt64
  | 3 => v.toInt64
  | 4 => (w (17 + k)).toInt64
  | 5 => (w (33 + nv w (42 + k))).toInt64
  | 6 => if v = -1 then -1 else (w (37 + v.toNatClampNeg)).toInt64
  | 7 => if v = -1 then -1 else (w (37 + v.toNatClampNeg) - nI (cnt (fun j => w (9 + j)) v D)).toInt64
  | 8 => (w 6).toInt64
  | 9 => (w 8).toInt64
  | _ => 0
/-- the words for a family -/
def sfW (w : Nat → Int32) (f : Nat) (o : Nat) : Int64 := match o with
  | 2 => (nI f).toInt64
  | 5 => (w (33 + f)).toInt64
  | 8 => (w 6).toInt64
  | 9 => (w 8).toInt64
  | _ => -1
def prR (w : Nat → Int32) (D k : Nat) : Int32 := wiF (telR w (sdW w D k (w (9 + k))) (nI 0) 5) (nI 1) (nI 99)
def laR (w : Nat → Int32) (D k : Nat) : Int32 := wiF (telR w (sdW w D k (w (9 + k))) (nI 1) 10) (nI 1) (nI 20)
def eaR (w : Nat → Int32) (f : Nat) : Int32 := wiF (telR w (sfW w f) (nI 2) 10) (nI 0) (nI 99)
def baR (w : Nat → Int32) (D k : Nat) (v : Int32) : Bool := decide (telR w (sdW w D k v) (nI 3) 0 = 1)
section RAT
variable {O : mO} {d u n : Nat} {T : Nat → mT} {I : Nat → Nat → Int32} {J : Nat → Nat → Int64} {R : Nat → Nat → Option Nat} {q D F : Nat}
/-- a law in force, if there is one, is sound -/
def FcM (w : Nat → Int32) : Prop := w 5 = -1 ∨ ∃ l, l < 6 ∧ w 5 = nI l ∧ LwM w (110 + 900 * l)
/-- where one lies -/
def VoK (v : Int32) : Prop := v = -1 ∨ ∃ k, k < 5 ∧ v = nI k
theorem nI_ne1 {k : Nat} (h : k < 2 ^ 31) : ¬ nI k = -1 := fun z => absurd (show nI k < 0 by rw [z]; decide) (nI_pos h)
theorem k_setDead {k f : Nat} {v : Int32} (hL : MdL n T I R q D F) (hn : n ≤ oB) (hk : k < 8) (hf : f < 4) (ef : I (q + 2) (42 + k) = nI f) (hv : VoK v) :
    Rn O (d + 2) MX11_setDead [.ref q, .int (nI k), .int v] (hp u n T I J R) (fun r K' => r = none ∧ ∃ J', K' = hp u n T I J' R ∧ (∀ a, a ≠ q + 18 → J' a = J a) ∧ ∀ o, 1 ≤ o → o ≤ 7 → J' (q + 18) o = sdW (I (q + 2)) D k v o) := by
  have hL0 := hL
  obtain ⟨hM, h2, h3, h4, h5, h6⟩ := hL
  have cf := fun (j : Nat) (hj : j < 5) (J' : Nat → Nat → Int64) => k_freeIn (O := O) (d := d) (u := u) (I := I) (J := J') (k := j) hM hn h3 h4 hj
  obtain ⟨⟨t0, hg⟩, ⟨t1, t2, t3, t4, t5, t6, t7, t8, t9, t10, t11, t12, t13, t14, t15, t16, t17, t18, t19, t20, -⟩, ⟨r2, r3, r4, r5, r6, r7, r9, r10, r12, r22, r24, r25, r27, r28, r31, r32, r33, r35, r36, r37, -⟩⟩ := hM
  have ev : nv (I (q + 2)) (42 + k) = f := by unfold nv; rw [ef, nI_clamp (by omega)]
  show Go O (d + 1 + 1) MX11_setDead 0 [some (.ref q), some (.int (nI k)), some (.int v)] [] _ _
  first | refine g_aload_n dX11_setDead_0 rfl ?_ | refine g_aload_nN dX11_setDead_0 rfl ?_
  refine g_getR dX11_setDead_1 fX11_99 (by assumption) rfl (by assumption) (by omega) hn ?_
  refine g_iconst (v := nI 1) dX11_setDead_4 (by decide) ?_
  refine g_iload_n dX11_setDead_5 rfl ?_
  refine g_i2l dX11_setDead_6 ?_
  refine g_last dX11_setDead_7 (by assumption) rfl (by omega) (by omega) (by omega) hn ?_
  first | refine g_aload_n dX11_setDead_8 rfl ?_ | refine g_aload_nN dX11_setDead_8 rfl ?_
  refine g_getR dX11_setDead_9 fX11_99 (by assumption) rfl (by assumption) (by omega) hn ?_
  refine g_iconst (v := nI 2) dX11_setDead_12 (by decide) ?_
  first | refine g_aload_n dX11_setDead_13 rfl ?_ | refine g_aload_nN dX11_setDead_13 rfl ?_
  refine g_getR dX11_setDead_14 fX11_13 (by assumption) rfl (by assumption) (by omega) hn ?_
  refine g_bipush (v := nI 42) dX11_setDead_17 (by decide) ?_
  refine g_iload_n dX11_setDead_19 rfl ?_
  first | refine g_iaddN dX11_setDead_20 ?_ | refine g_iadd dX11_setDead_20 ?_
  refine g_iald dX11_setDead_21 (by assumption) rfl (by omega) (by omega) (by omega) hn ?_
  refine g_i2l dX11_setDead_22 ?_
  refine g_last dX11_setDead_23 (by assumption) rfl (by omega) (by omega) (by omega) hn ?_
  first | refine g_aload_n dX11_setDead_24 rfl ?_ | refine g_aload_nN dX11_setDead_24 rfl ?_
  refine g_getR dX11_setDead_25 fX11_99 (by assumption) rfl (by assumption) (by omega) hn ?_
  refine g_iconst (v := nI 3) dX11_setDead_28 (by decide) ?_
  refine g_iload_n dX11_setDead_29 rfl ?_
  refine g_i2l dX11_setDead_30 ?_
  refine g_last dX11_setDead_31 (by assumption) rfl (by omega) (by omega) (by omega) hn ?_
  first | refine g_aload_n dX11_setDead_32 rfl ?_ | refine g_aload_nN dX11_setDead_32 rfl ?_
  refine g_getR dX11_setDead_33 fX11_99 (by assumption) rfl (by assumption) (by omega) hn ?_
  refine g_iconst (v := nI 4) dX11_setDead_36 (by decide) ?_
  first | refine g_aload_n dX11_setDead_37 rfl ?_ | refine g_aload_nN dX11_setDead_37 rfl ?_
  refine g_getR dX11_setDead_38 fX11_13 (by assumption) rfl (by assumption) (by omega) hn ?_
  refine g_bipush (v := nI 17) dX11_setDead_41 (by decide) ?_
  refine g_iload_n dX11_setDead_43 rfl ?_
  first | refine g_iaddN dX11_setDead_44 ?_ | refine g_iadd dX11_setDead_44 ?_
  refine g_iald dX11_setDead_45 (by assumption) rfl (by omega) (by omega) (by omega) hn ?_
  refine g_i2l dX11_setDead_46 ?_
  refine g_last dX11_setDead_47 (by assumption) rfl (by omega) (by omega) (by omega) hn ?_
  first | refine g_aload_n dX11_setDead_48 rfl ?_ | refine g_aload_nN dX11_setDead_48 rfl ?_
  refine g_getR dX11_setDead_49 fX11_99 (by assumption) rfl (by assumption) (by omega) hn ?_
  refine g_iconst (v := nI 5) dX11_setDead_52 (by decide) ?_
  first | refine g_aload_n dX11_setDead_53 rfl ?_ | refine g_aload_nN dX11_setDead_53 rfl ?_
  refine g_getR dX11_setDead_54 fX11_13 (by assumption) rfl (by assumption) (by omega) hn ?_
  refine g_bipush (v := nI 33) dX11_setDead_57 (by decide) ?_
  first | refine g_aload_n dX11_setDead_59 rfl ?_ | refine g_aload_nN dX11_setDead_59 rfl ?_
  refine g_getR dX11_setDead_60 fX11_13 (by assumption) rfl (by assumption) (by omega) hn ?_
  refine g_bipush (v := nI 42) dX11_setDead_63 (by decide) ?_
  refine g_iload_n dX11_setDead_65 rfl ?_
  first | refine g_iaddN dX11_setDead_66 ?_ | refine g_iadd dX11_setDead_66 ?_
  refine g_iald dX11_setDead_67 (by assumption) rfl (by omega) (by omega) (by omega) hn ?_
  rw [ef]
  first | refine g_iaddN dX11_setDead_68 ?_ | refine g_iadd dX11_setDead_68 ?_
  refine g_iald dX11_setDead_69 (by assumption) rfl (by omega) (by omega) (by omega) hn ?_
  refine g_i2l dX11_setDead_70 ?_
  refine g_last dX11_setDead_71 (by assumption) rfl (by omega) (by omega) (by omega) hn ?_
  first | refine g_aload_n dX11_setDead_72 rfl ?_ | refine g_aload_nN dX11_setDead_72 rfl ?_
  refine g_getR dX11_setDead_73 fX11_99 (by assumption) rfl (by assumption) (by omega) hn ?_
  refine g_bipush (v := nI 6) dX11_setDead_76 (by decide) ?_
  refine g_iload_n dX11_setDead_78 rfl ?_
  refine g_iconst (v := -1) dX11_setDead_79 (by decide) ?_
  have fin : ∀ a6 a7 : Int64, a6 = sdW (I (q + 2)) D k v 6 → a7 = sdW (I (q + 2)) D k v 7 → ∀ o, 1 ≤ o → o ≤ 7 → up2 (up2 (up2 (up2 (up2 (up2 (up2 J (q + 18) 1 (nI k).toInt64) (q + 18) 2 (nI f).toInt64) (q + 18) 3 v.toInt64) (q + 18) 4 (I (q + 2) (17 + k)).toInt64) (q + 18) 5 (I (q + 2) (33 + f)).toInt64) (q + 18) 6 a6) (q + 18) 7 a7 (q + 18) o = sdW (I (q + 2)) D k v o := by
    intro a6 a7 h6 h7 o h1 h8
    match o, h1, h8 with
    | 1, _, _ => simp [up2, sdW]
    | 2, _, _ => simp [up2, sdW, ef]
    | 3, _, _ => simp [up2, sdW]
    | 4, _, _ => simp [up2, sdW]
    | 5, _, _ => simp [up2, sdW, ev]
    | 6, _, _ => simp [up2, h6]
    | 7, _, _ => simp [up2, h7]
  have off : ∀ (a6 a7 : Int64) a, a ≠ q + 18 → up2 (up2 (up2 (up2 (up2 (up2 (up2 J (q + 18) 1 (nI k).toInt64) (q + 18) 2 (nI f).toInt64) (q + 18) 3 v.toInt64) (q + 18) 4 (I (q + 2) (17 + k)).toInt64) (q + 18) 5 (I (q + 2) (33 + f)).toInt64) (q + 18) 6 a6) (q + 18) 7 a7 a = J a := by
    intro a6 a7 a ha
    rw [up2_off _ _ _ ha, up2_off _ _ _ ha, up2_off _ _ _ ha, up2_off _ _ _ ha, up2_off _ _ _ ha, up2_off _ _ _ ha, up2_off _ _ _ ha]
  rcases hv with rfl | ⟨j, hj, rfl⟩
  · refine g_ic_ne (t := 89) dX11_setDead_80 (by decide) (fun z => absurd rfl z) (fun z => ?_)
    refine g_ldc2 dX11_setDead_83 lX11_271 ?_
    refine g_goto (t := 99) dX11_setDead_86 (by decide) ?_
    refine g_last dX11_setDead_99 (by assumption) rfl (by omega) (by omega) (by omega) hn ?_
    first | refine g_aload_n dX11_setDead_100 rfl ?_ | refine g_aload_nN dX11_setDead_100 rfl ?_
    refine g_getR dX11_setDead_101 fX11_99 (by assumption) rfl (by assumption) (by omega) hn ?_
    refine g_bipush (v := nI 7) dX11_setDead_104 (by decide) ?_
    refine g_iload_n dX11_setDead_106 rfl ?_
    refine g_iconst (v := -1) dX11_setDead_107 (by decide) ?_
    refine g_ic_ne (t := 117) dX11_setDead_108 (by decide) (fun z => absurd rfl z) (fun z => ?_)
    refine g_ldc2 dX11_setDead_111 lX11_271 ?_
    refine g_goto (t := 123) dX11_setDead_114 (by decide) ?_
    refine g_last dX11_setDead_123 (by assumption) rfl (by omega) (by omega) (by omega) hn ?_
    exact g_return dX11_setDead_124 rfl ⟨rfl, _, rfl, off _ _, fin _ _ rfl rfl⟩
  · have hne := nI_ne1 (k := j) (by omega)
    refine g_ic_ne (t := 89) dX11_setDead_80 (by decide) (fun z => ?_) (fun z => absurd z hne)
    first | refine g_aload_n dX11_setDead_89 rfl ?_ | refine g_aload_nN dX11_setDead_89 rfl ?_
    refine g_getR dX11_setDead_90 fX11_13 (by assumption) rfl (by assumption) (by omega) hn ?_
    refine g_bipush (v := nI 37) dX11_setDead_93 (by decide) ?_
    refine g_iload_n dX11_setDead_95 rfl ?_
    first | refine g_iaddN dX11_setDead_96 ?_ | refine g_iadd dX11_setDead_96 ?_
    refine g_iald dX11_setDead_97 (by assumption) rfl (by omega) (by omega) (by omega) hn ?_
    refine g_i2l dX11_setDead_98 ?_
    refine g_last dX11_setDead_99 (by assumption) rfl (by omega) (by omega) (by omega) hn ?_
    first | refine g_aload_n dX11_setDead_100 rfl ?_ | refine g_aload_nN dX11_setDead_100 rfl ?_
    refine g_getR dX11_setDead_101 fX11_99 (by assumption) rfl (by assumption) (by omega) hn ?_
    refine g_bipush (v := nI 7) dX11_setDead_104 (by decide) ?_
    refine g_iload_n dX11_setDead_106 rfl ?_
    refine g_iconst (v := -1) dX11_setDead_107 (by decide) ?_
    refine g_ic_ne (t := 117) dX11_setDead_108 (by decide) (fun z => ?_) (fun z => absurd z hne)
    first | refine g_aload_n dX11_setDead_117 rfl ?_ | refine g_aload_nN dX11_setDead_117 rfl ?_
    refine g_iload_n dX11_setDead_118 rfl ?_
    refine g_virt (Z := MX11_freeIn) dX11_setDead_119 mX11_191.1 mX11_191.2 (Nat.le_of_ble_eq_true rfl) rfl rfl (Nat.le_of_ble_eq_true rfl) (Nat.le_of_ble_eq_true rfl) (by assumption) rfl rfl (by omega) hn (cf j hj _) ?_
    rintro _ _ ⟨rfl, rfl⟩
    try dsimp only [Option.toList, List.cons_append, List.nil_append]
    refine g_i2l dX11_setDead_122 ?_
    refine g_last dX11_setDead_123 (by assumption) rfl (by omega) (by omega) (by omega) hn ?_
    refine g_return dX11_setDead_124 rfl ⟨rfl, _, rfl, off _ _, fin _ _ ?_ ?_⟩
    · show _ = (if nI j = -1 then (-1 : Int64) else _)
      rw [if_neg hne, nI_clamp (by omega)]
    · show _ = (if nI j = -1 then (-1 : Int64) else _)
      rw [if_neg hne, nI_clamp (by omega)]
theorem SxM_18 {J' : Nat → Nat → Int64} (h : ∀ a, a ≠ q + 18 → J' a = J a) : SxM q I I J J' := ⟨fun _ _ => rfl, fun _ _ _ => rfl, fun a _ h2 _ => h a h2, fun k _ _ => by rw [h q (by omega)]⟩
theorem k_pricedAt {k f : Nat} (hL : MdL n T I R q D F) (hn : n ≤ oB) (hc : FcM (I (q + 2))) (hk : k < 8) (hf : f < 4) (ef : I (q + 2) (42 + k) = nI f) (hv : VoK (I (q + 2) (9 + k))) :
    Rn O (d + 5) MX11_pricedAt [.ref q, .int (nI k)] (hp u n T I J R) (fun r K' => r = some (.int (prR (I (q + 2)) D k)) ∧ ∃ I' J', K' = hp u n T I' J' R ∧ SxM q I I' J J') := by
  have hL0 := hL
  obtain ⟨hM, h2, h3, h4, h5, h6⟩ := hL
  obtain ⟨⟨t0, hg⟩, ⟨t1, t2, -⟩, ⟨r2, r3, -⟩⟩ := hM
  show Go O (d + 4 + 1) MX11_pricedAt 0 [some (.ref q), some (.int (nI k))] [] _ _
  first | refine g_aload_n dX11_pricedAt_0 rfl ?_ | refine g_aload_nN dX11_pricedAt_0 rfl ?_
  refine g_iload_n dX11_pricedAt_1 rfl ?_
  first | refine g_aload_n dX11_pricedAt_2 rfl ?_ | refine g_aload_nN dX11_pricedAt_2 rfl ?_
  refine g_getR dX11_pricedAt_3 fX11_13 (by assumption) rfl (by assumption) (by omega) hn ?_
  refine g_bipush (v := nI 9) dX11_pricedAt_6 (by decide) ?_
  refine g_iload_n dX11_pricedAt_8 rfl ?_
  first | refine g_iaddN dX11_pricedAt_9 ?_ | refine g_iadd dX11_pricedAt_9 ?_
  refine g_iald dX11_pricedAt_10 (by assumption) rfl (by omega) (by omega) (by omega) hn ?_
  refine g_virt (Z := MX11_setDead) dX11_pricedAt_11 mX11_421.1 mX11_421.2 (Nat.le_of_ble_eq_true rfl) rfl rfl (Nat.le_of_ble_eq_true rfl) (Nat.le_of_ble_eq_true rfl) (by assumption) rfl rfl (by omega) hn (k_setDead (d := d + 2) hL0 hn hk hf ef hv) ?_
  rintro _ _ ⟨rfl, J1, rfl, h1, h18⟩
  try dsimp only [Option.toList, List.cons_append, List.nil_append]
  first | refine g_aload_n dX11_pricedAt_14 rfl ?_ | refine g_aload_nN dX11_pricedAt_14 rfl ?_
  refine g_iconst (v := nI 0) dX11_pricedAt_15 (by decide) ?_
  refine g_ldc2 dX11_pricedAt_16 lX11_424 ?_
  refine g_virt (Z := MX11_tells) dX11_pricedAt_19 mX11_426.1 mX11_426.2 (Nat.le_of_ble_eq_true rfl) rfl rfl (Nat.le_of_ble_eq_true rfl) (Nat.le_of_ble_eq_true rfl) (by assumption) rfl rfl (by omega) hn (k_tells (d := d) (S := sdW (I (q + 2)) D k (I (q + 2) (9 + k))) hL0 hn hc h18 rfl rfl (by decide) (by decide)) ?_
  rintro _ _ ⟨rfl, I2, J2, rfl, hs⟩
  try dsimp only [Option.toList, List.cons_append, List.nil_append]
  refine g_iconst (v := nI 1) dX11_pricedAt_22 (by decide) ?_
  refine g_bipush (v := nI 99) dX11_pricedAt_23 (by decide) ?_
  refine g_stat (Z := MX11_within) dX11_pricedAt_25 mX11_430.1 mX11_430.2 (Nat.le_of_ble_eq_true rfl) rfl rfl (Nat.le_of_ble_eq_true rfl) (Nat.le_of_ble_eq_true rfl) (k_within _ _ _) ?_
  rintro _ _ ⟨rfl, rfl⟩
  try dsimp only [Option.toList, List.cons_append, List.nil_append]
  exact g_ireturn dX11_pricedAt_28 rfl (by first | rfl | decide) ⟨rfl, I2, J2, rfl, (SxM_18 h1).trans hs⟩
theorem k_lastsOf {k f : Nat} (hL : MdL n T I R q D F) (hn : n ≤ oB) (hc : FcM (I (q + 2))) (hk : k < 8) (hf : f < 4) (ef : I (q + 2) (42 + k) = nI f) (hv : VoK (I (q + 2) (9 + k))) :
    Rn O (d + 5) MX11_lastsOf [.ref q, .int (nI k)] (hp u n T I J R) (fun r K' => r = some (.int (laR (I (q + 2)) D k)) ∧ ∃ I' J', K' = hp u n T I' J' R ∧ SxM q I I' J J') := by
  have hL0 := hL
  obtain ⟨hM, h2, h3, h4, h5, h6⟩ := hL
  obtain ⟨⟨t0, hg⟩, ⟨t1, t2, -⟩, ⟨r2, r3, -⟩⟩ := hM
  show Go O (d + 4 + 1) MX11_lastsOf 0 [some (.ref q), some (.int (nI k))] [] _ _
  first | refine g_aload_n dX11_lastsOf_0 rfl ?_ | refine g_aload_nN dX11_lastsOf_0 rfl ?_
  refine g_iload_n dX11_lastsOf_1 rfl ?_
  first | refine g_aload_n dX11_lastsOf_2 rfl ?_ | refine g_aload_nN dX11_lastsOf_2 rfl ?_
  refine g_getR dX11_lastsOf_3 fX11_13 (by assumption) rfl (by assumption) (by omega) hn ?_
  refine g_bipush (v := nI 9) dX11_lastsOf_6 (by decide) ?_
  refine g_iload_n dX11_lastsOf_8 rfl ?_
  first | refine g_iaddN dX11_lastsOf_9 ?_ | refine g_iadd dX11_lastsOf_9 ?_
  refine g_iald dX11_lastsOf_10 (by assumption) rfl (by omega) (by omega) (by omega) hn ?_
  refine g_virt (Z := MX11_setDead) dX11_lastsOf_11 mX11_421.1 mX11_421.2 (Nat.le_of_ble_eq_true rfl) rfl rfl (Nat.le_of_ble_eq_true rfl) (Nat.le_of_ble_eq_true rfl) (by assumption) rfl rfl (by omega) hn (k_setDead (d := d + 2) hL0 hn hk hf ef hv) ?_
  rintro _ _ ⟨rfl, J1, rfl, h1, h18⟩
  try dsimp only [Option.toList, List.cons_append, List.nil_append]
  first | refine g_aload_n dX11_lastsOf_14 rfl ?_ | refine g_aload_nN dX11_lastsOf_14 rfl ?_
  refine g_iconst (v := nI 1) dX11_lastsOf_15 (by decide) ?_
  refine g_ldc2 dX11_lastsOf_16 lX11_230 ?_
  refine g_virt (Z := MX11_tells) dX11_lastsOf_19 mX11_426.1 mX11_426.2 (Nat.le_of_ble_eq_true rfl) rfl rfl (Nat.le_of_ble_eq_true rfl) (Nat.le_of_ble_eq_true rfl) (by assumption) rfl rfl (by omega) hn (k_tells (d := d) (S := sdW (I (q + 2)) D k (I (q + 2) (9 + k))) hL0 hn hc h18 rfl rfl (by decide) (by decide)) ?_
  rintro _ _ ⟨rfl, I2, J2, rfl, hs⟩
  try dsimp only [Option.toList, List.cons_append, List.nil_append]
  refine g_iconst (v := nI 1) dX11_lastsOf_22 (by decide) ?_
  refine g_bipush (v := nI 20) dX11_lastsOf_23 (by decide) ?_
  refine g_stat (Z := MX11_within) dX11_lastsOf_25 mX11_430.1 mX11_430.2 (Nat.le_of_ble_eq_true rfl) rfl rfl (Nat.le_of_ble_eq_true rfl) (Nat.le_of_ble_eq_true rfl) (k_within _ _ _) ?_
  rintro _ _ ⟨rfl, rfl⟩
  try dsimp only [Option.toList, List.cons_append, List.nil_append]
  exact g_ireturn dX11_lastsOf_28 rfl (by first | rfl | decide) ⟨rfl, I2, J2, rfl, (SxM_18 h1).trans hs⟩
theorem k_isBarred {k f : Nat} {v : Int32} (hL : MdL n T I R q D F) (hn : n ≤ oB) (hc : FcM (I (q + 2))) (hk : k < 8) (hf : f < 4) (ef : I (q + 2) (42 + k) = nI f) (hv : VoK v) :
    Rn O (d + 5) MX11_isBarred [.ref q, .int (nI k), .int v] (hp u n T I J R) (fun r K' => r = some (.int (bI (baR (I (q + 2)) D k v))) ∧ ∃ I' J', K' = hp u n T I' J' R ∧ SxM q I I' J J') := by
  have hL0 := hL
  obtain ⟨hM, h2, h3, h4, h5, h6⟩ := hL
  obtain ⟨⟨t0, hg⟩, ⟨t1, t2, -⟩, ⟨r2, r3, -⟩⟩ := hM
  show Go O (d + 4 + 1) MX11_isBarred 0 [some (.ref q), some (.int (nI k)), some (.int v)] [] _ _
  first | refine g_aload_n dX11_isBarred_0 rfl ?_ | refine g_aload_nN dX11_isBarred_0 rfl ?_
  refine g_iload_n dX11_isBarred_1 rfl ?_
  refine g_iload_n dX11_isBarred_2 rfl ?_
  refine g_virt (Z := MX11_setDead) dX11_isBarred_3 mX11_421.1 mX11_421.2 (Nat.le_of_ble_eq_true rfl) rfl rfl (Nat.le_of_ble_eq_true rfl) (Nat.le_of_ble_eq_true rfl) (by assumption) rfl rfl (by omega) hn (k_setDead (d := d + 2) hL0 hn hk hf ef hv) ?_
  rintro _ _ ⟨rfl, J1, rfl, h1, h18⟩
  try dsimp only [Option.toList, List.cons_append, List.nil_append]
  first | refine g_aload_n dX11_isBarred_6 rfl ?_ | refine g_aload_nN dX11_isBarred_6 rfl ?_
  refine g_iconst (v := nI 3) dX11_isBarred_7 (by decide) ?_
  refine g_lconst (v := 0) dX11_isBarred_8 (by decide) ?_
  refine g_virt (Z := MX11_tells) dX11_isBarred_9 mX11_426.1 mX11_426.2 (Nat.le_of_ble_eq_true rfl) rfl rfl (Nat.le_of_ble_eq_true rfl) (Nat.le_of_ble_eq_true rfl) (by assumption) rfl rfl (by omega) hn (k_tells (d := d) (S := sdW (I (q + 2)) D k v) hL0 hn hc h18 rfl rfl (by decide) (fun _ => Or.inl rfl)) ?_
  rintro _ _ ⟨rfl, I2, J2, rfl, hs⟩
  try dsimp only [Option.toList, List.cons_append, List.nil_append]
  refine g_lconst (v := 1) dX11_isBarred_12 (by decide) ?_
  refine g_lcmp dX11_isBarred_13 ?_
  refine g_if_ne (t := 21) dX11_isBarred_14 (by decide) (fun c => ?_) (fun c => ?_)
  · refine g_iconst (v := nI 0) dX11_isBarred_21 (by decide) ?_
    exact g_ireturn dX11_isBarred_22 rfl (by decide) ⟨by unfold baR; rw [decide_eq_false (fun z => c ((lg_cmp_eq _ _).mpr z))]; rfl, I2, J2, rfl, (SxM_18 h1).trans hs⟩
  · refine g_iconst (v := nI 1) dX11_isBarred_17 (by decide) ?_
    refine g_goto (t := 22) dX11_isBarred_18 (by decide) ?_
    exact g_ireturn dX11_isBarred_22 rfl (by decide) ⟨by unfold baR; rw [decide_eq_true ((lg_cmp_eq _ _).mp c)]; rfl, I2, J2, rfl, (SxM_18 h1).trans hs⟩
theorem k_earnsOf {f : Nat} (hL : MdL n T I R q D F) (hn : n ≤ oB) (hc : FcM (I (q + 2))) (hf : f < 4) :
    Rn O (d + 5) MX11_earnsOf [.ref q, .int (nI f)] (hp u n T I J R) (fun r K' => r = some (.int (eaR (I (q + 2)) f)) ∧ ∃ I' J', K' = hp u n T I' J' R ∧ SxM q I I' J J') := by
  have hL0 := hL
  obtain ⟨hM, h2, h3, h4, h5, h6⟩ := hL
  obtain ⟨⟨t0, hg⟩, ⟨t1, t2, t3, t4, t5, t6, t7, t8, t9, t10, t11, t12, t13, t14, t15, t16, t17, t18, t19, t20, -⟩, ⟨r2, r3, r4, r5, r6, r7, r9, r10, r12, r22, r24, r25, r27, r28, r31, r32, r33, r35, r36, r37, -⟩⟩ := hM
  show Go O (d + 4 + 1) MX11_earnsOf 0 [some (.ref q), some (.int (nI f)), none] [] _ _
  refine g_iconst (v := nI 1) dX11_earnsOf_0 (by decide) ?_
  refine g_istore_n (ls' := [_, _, some (.int _)]) dX11_earnsOf_1 (by decide) rfl ?_
  have lop : ∀ m c, c + m = 8 → 1 ≤ c → ∀ J1 : Nat → Nat → Int64, (∀ a, a ≠ q + 18 → J1 a = J a) → (∀ o, 1 ≤ o → o < c → J1 (q + 18) o = -1) → Go O (d + 4 + 1) MX11_earnsOf 2 [some (.ref q), some (.int (nI f)), some (.int (nI c))] [] (hp u n T I J1 R) (fun r K' => r = some (.int (eaR (I (q + 2)) f)) ∧ ∃ I' J', K' = hp u n T I' J' R ∧ SxM q I I' J J') := by
    intro m
    induction m with
    | zero =>
      intro c hc8 h1 J1 ho hJ
      have : c = 8 := by omega
      subst this
      refine g_iload_n dX11_earnsOf_2 rfl ?_
      refine g_bipush (v := nI 8) dX11_earnsOf_3 (by decide) ?_
      refine g_icN_ge (t := 23) dX11_earnsOf_5 (by decide) (by omega) (by omega) (fun z => ?_) (fun z => by exfalso; first | omega | exact absurd rfl z | exact absurd z (by decide) | exact z (by decide) | exact absurd z (by assumption) | exact absurd (by assumption) z)
      first | refine g_aload_n dX11_earnsOf_23 rfl ?_ | refine g_aload_nN dX11_earnsOf_23 rfl ?_
      refine g_getR dX11_earnsOf_24 fX11_99 (by assumption) rfl (by assumption) (by omega) hn ?_
      refine g_iconst (v := nI 2) dX11_earnsOf_27 (by decide) ?_
      refine g_iload_n dX11_earnsOf_28 rfl ?_
      refine g_i2l dX11_earnsOf_29 ?_
      refine g_last dX11_earnsOf_30 (by assumption) rfl (by omega) (by omega) (by omega) hn ?_
      first | refine g_aload_n dX11_earnsOf_31 rfl ?_ | refine g_aload_nN dX11_earnsOf_31 rfl ?_
      refine g_getR dX11_earnsOf_32 fX11_99 (by assumption) rfl (by assumption) (by omega) hn ?_
      refine g_iconst (v := nI 5) dX11_earnsOf_35 (by decide) ?_
      first | refine g_aload_n dX11_earnsOf_36 rfl ?_ | refine g_aload_nN dX11_earnsOf_36 rfl ?_
      refine g_getR dX11_earnsOf_37 fX11_13 (by assumption) rfl (by assumption) (by omega) hn ?_
      refine g_bipush (v := nI 33) dX11_earnsOf_40 (by decide) ?_
      refine g_iload_n dX11_earnsOf_42 rfl ?_
      first | refine g_iaddN dX11_earnsOf_43 ?_ | refine g_iadd dX11_earnsOf_43 ?_
      refine g_iald dX11_earnsOf_44 (by assumption) rfl (by omega) (by omega) (by omega) hn ?_
      refine g_i2l dX11_earnsOf_45 ?_
      refine g_last dX11_earnsOf_46 (by assumption) rfl (by omega) (by omega) (by omega) hn ?_
      first | refine g_aload_n dX11_earnsOf_47 rfl ?_ | refine g_aload_nN dX11_earnsOf_47 rfl ?_
      refine g_iconst (v := nI 2) dX11_earnsOf_48 (by decide) ?_
      refine g_ldc2 dX11_earnsOf_49 lX11_230 ?_
      have hS : ∀ o, 1 ≤ o → o ≤ 7 → up2 (up2 J1 (q + 18) 2 (nI f).toInt64) (q + 18) 5 (I (q + 2) (33 + f)).toInt64 (q + 18) o = sfW (I (q + 2)) f o := by
        intro o g1 g7
        match o, g1, g7 with
        | 1, _, _ => simp [up2, sfW, hJ 1 (by decide) (by decide)]
        | 2, _, _ => simp [up2, sfW]
        | 3, _, _ => simp [up2, sfW, hJ 3 (by decide) (by decide)]
        | 4, _, _ => simp [up2, sfW, hJ 4 (by decide) (by decide)]
        | 5, _, _ => simp [up2, sfW]
        | 6, _, _ => simp [up2, sfW, hJ 6 (by decide) (by decide)]
        | 7, _, _ => simp [up2, sfW, hJ 7 (by decide) (by decide)]
      refine g_virt (Z := MX11_tells) dX11_earnsOf_52 mX11_426.1 mX11_426.2 (Nat.le_of_ble_eq_true rfl) rfl rfl (Nat.le_of_ble_eq_true rfl) (Nat.le_of_ble_eq_true rfl) (by assumption) rfl rfl (by omega) hn (k_tells (d := d) (S := sfW (I (q + 2)) f) hL0 hn hc hS rfl rfl (by decide) (by decide)) ?_
      rintro _ _ ⟨rfl, I2, J2, rfl, hs⟩
      try dsimp only [Option.toList, List.cons_append, List.nil_append]
      refine g_iconst (v := nI 0) dX11_earnsOf_55 (by decide) ?_
      refine g_bipush (v := nI 99) dX11_earnsOf_56 (by decide) ?_
      refine g_stat (Z := MX11_within) dX11_earnsOf_58 mX11_430.1 mX11_430.2 (Nat.le_of_ble_eq_true rfl) rfl rfl (Nat.le_of_ble_eq_true rfl) (Nat.le_of_ble_eq_true rfl) (k_within _ _ _) ?_
      rintro _ _ ⟨rfl, rfl⟩
      try dsimp only [Option.toList, List.cons_append, List.nil_append]
      exact g_ireturn dX11_earnsOf_61 rfl (by first | rfl | decide) ⟨rfl, I2, J2, rfl, (SxM_18 (fun a ha => by rw [up2_off _ _ _ ha, up2_off _ _ _ ha, ho a ha])).trans hs⟩
    | succ m ih =>
      intro c hc8 h1 J1 ho hJ
      refine g_iload_n dX11_earnsOf_2 rfl ?_
      refine g_bipush (v := nI 8) dX11_earnsOf_3 (by decide) ?_
      refine g_icN_ge (t := 23) dX11_earnsOf_5 (by decide) (by omega) (by omega) (fun z => by exfalso; first | omega | exact absurd rfl z | exact absurd z (by decide) | exact z (by decide) | exact absurd z (by assumption) | exact absurd (by assumption) z) (fun z => ?_)
      first | refine g_aload_n dX11_earnsOf_8 rfl ?_ | refine g_aload_nN dX11_earnsOf_8 rfl ?_
      refine g_getR dX11_earnsOf_9 fX11_99 (by assumption) rfl (by assumption) (by omega) hn ?_
      refine g_iload_n dX11_earnsOf_12 rfl ?_
      refine g_ldc2 dX11_earnsOf_13 lX11_271 ?_
      refine g_last dX11_earnsOf_16 (by assumption) rfl (by omega) (by omega) (by omega) hn ?_
      refine g_iincN (c := 1) (ls' := [_, _, some (.int _)]) dX11_earnsOf_17 rfl (by decide) rfl rfl ?_
      refine g_goto (t := 2) dX11_earnsOf_20 (by decide) ?_
      refine ih (c + 1) (by omega) (by omega) _ (fun a ha => by rw [up2_off _ _ _ ha, ho a ha]) ?_
      intro o g1 g2
      by_cases e : o = c
      · subst e
        rw [up2_at]
      · rw [up2_nk e]
        exact hJ o g1 (by omega)
  exact lop 7 1 (by omega) (by decide) J (fun _ _ => rfl) (fun o h1 h2 => by omega)
end RAT
