/-! what can be undone; draws -/
def mNo2 (st : List Value) : Bool := match st with
  | .ref _ :: _ :: _ :: _ => false
  | _ => true
theorem mNo2_h3 {st : List Value} (h : mNo2 st = true) : ∀ z, st ≠ .ref z :: st.tail ∨ st.tail.length < 2 := by
  intro z
  match st, h with
  | [], _ => exact Or.inr (by decide)
  | [a], _ => exact Or.inr (by show 0 < 2; decide)
  | [a, b], _ => exact Or.inr (by show 1 < 2; decide)
  | a :: b :: c :: r, h =>
    refine Or.inl (fun e => ?_)
    cases e
    cases h
theorem cpX2 : mLnk RX2 71 = some (arraycopyName, none) := by decide +kernel
theorem cpX3 : mLnk RX3 22 = some (arraycopyName, none) := by decide +kernel
def IsH (n : Nat) (T : Nat → mT) (R : Nat → Nat → Option Nat) (h : Nat) : Prop := T h = (100 + 3, kd3) ∧ T (h + 1) = (0, [391]) ∧ R h 0 = some (h + 1) ∧ h + 2 ≤ n
/-- a snapshot goes into slot x -/
def prA (I : Nat → Nat → Int32) (g h x : Nat) (kind : Int32) : Nat → Nat → Int32 := up2 (up2 (up2 I (h + 1) (x * 23) kind) (h + 1) (x * 23 + 1) (up2 I (h + 1) (x * 23) kind (g + 9) 0)) (h + 1) (x * 23 + 2) (up2 (up2 I (h + 1) (x * 23) kind) (h + 1) (x * 23 + 1) (up2 I (h + 1) (x * 23) kind (g + 9) 0) g 14)
def prI (I : Nat → Nat → Int32) (g h x : Nat) (kind : Int32) : Nat → Nat → Int32 := cpI (cpI (cpI (prA I g h x kind) (h + 1) (g + 2) 0 (x * 23 + 3) 4) (h + 1) (g + 4) 0 (x * 23 + 7) 8) (h + 1) (g + 5) 0 (x * 23 + 15) 8
theorem rem17 : ∀ x, x < 17 → nI (x + 1) - nI (x + 1) / nI 17 * nI 17 = nI ((x + 1) % 17) := by decide
theorem rem17b : ∀ x, x < 17 → nI (x + 16) - nI (x + 16) / nI 17 * nI 17 = nI ((x + 16) % 17) := by decide
theorem min16 : ∀ s, s < 17 → (if nI (s + 1) < nI 16 then nI (s + 1) else nI 16) = nI (min 16 (s + 1)) := by decide
section HIS
variable {O : mO} {d u n : Nat} {T : Nat → mT} {I : Nat → Nat → Int32} {J : Nat → Nat → Int64} {R : Nat → Nat → Option Nat} {g h : Nat}
theorem c_hclear (hH : IsH n T R h) (hn : n ≤ oB) : Rn O d MX3_clear [.ref h] (hp u n T I J R) (Sc u n T (up2 I h 2 (nI 0)) J R none) := by
  obtain ⟨t0, t1, r0, hh⟩ := hH
  show Go O d MX3_clear 0 [some (.ref h)] [] _ _
  refine g_aload_n dX3_clear_0 rfl ?_
  refine g_iconst (v := nI 0) dX3_clear_1 (by decide) ?_
  refine g_putI (c := (RX3, TX3, 3)) dX3_clear_2 fX3_19 (by assumption) rfl rfl rfl rfl (fun h => absurd h (by decide)) (by omega) hn ?_
  exact g_return dX3_clear_5 rfl ⟨rfl, rfl⟩
theorem c_prepare {x : Nat} {kind : Int32} (hH : IsH n T R h) (hG : IsG n T R g) (hn : n ≤ oB) (hx : I h 1 = nI x) (h17 : x < 17) : Rn O d MX3_prepare [.ref h, .ref g, .int kind] (hp u n T I J R) (Sc u n T (prI I g h x kind) J R none) := by
  obtain ⟨a0, a1, b0, hh⟩ := hH
  obtain ⟨⟨t0, hg⟩, ⟨t1, t2, t3, t4, t5, t6, t7, t8, t9, t10⟩, ⟨r1, r2, r3, r4, r5, r6, r7, r8, r9, r10⟩⟩ := hG
  show Go O d MX3_prepare 0 [some (.ref h), some (.ref g), some (.int kind), none] [] _ _
  refine g_aload_n dX3_prepare_0 rfl ?_
  refine g_getI dX3_prepare_1 fX3_15 (by assumption) rfl (by omega) hn ?_
  rw [hx]
  refine g_bipush (v := nI 23) dX3_prepare_4 (by decide) ?_
  first | refine g_imulN dX3_prepare_6 ?_ | refine g_imul dX3_prepare_6 ?_
  refine g_istore_n (ls' := [_, _, _, some (.int _)]) dX3_prepare_7 (by decide) rfl ?_
  refine g_aload_n dX3_prepare_8 rfl ?_
  refine g_getR dX3_prepare_9 fX3_11 (by assumption) rfl (by assumption) (by omega) hn ?_
  refine g_iload_n dX3_prepare_12 rfl ?_
  refine g_iload_n dX3_prepare_13 rfl ?_
  refine g_iast dX3_prepare_14 (by assumption) rfl (by omega) (by decide) (by omega) hn ?_
  refine g_aload_n dX3_prepare_15 rfl ?_
  refine g_getR dX3_prepare_16 fX3_11 (by assumption) rfl (by assumption) (by omega) hn ?_
  refine g_iload_n dX3_prepare_19 rfl ?_
  refine g_iconst (v := nI 1) dX3_prepare_20 (by decide) ?_
  first | refine g_iaddN dX3_prepare_21 ?_ | refine g_iadd dX3_prepare_21 ?_
  refine g_aload_n dX3_prepare_22 rfl ?_
  refine g_getR dX3_prepare_23 fX3_28 (by assumption) rfl (by assumption) (by omega) hn ?_
  refine g_iconst (v := nI 0) dX3_prepare_26 (by decide) ?_
  refine g_iald dX3_prepare_27 (by assumption) rfl (by omega) (by decide) (by omega) hn ?_
  refine g_iast dX3_prepare_28 (by assumption) rfl (by omega) (by decide) (by omega) hn ?_
  refine g_aload_n dX3_prepare_29 rfl ?_
  refine g_getR dX3_prepare_30 fX3_11 (by assumption) rfl (by assumption) (by omega) hn ?_
  refine g_iload_n dX3_prepare_33 rfl ?_
  refine g_iconst (v := nI 2) dX3_prepare_34 (by decide) ?_
  first | refine g_iaddN dX3_prepare_35 ?_ | refine g_iadd dX3_prepare_35 ?_
  refine g_aload_n dX3_prepare_36 rfl ?_
  refine g_getI dX3_prepare_37 fX3_33 (by assumption) rfl (by omega) hn ?_
  refine g_iast dX3_prepare_40 (by assumption) rfl (by omega) (by decide) (by omega) hn ?_
  refine g_aload_n dX3_prepare_41 rfl ?_
  refine g_getR dX3_prepare_42 fX3_36 (by assumption) rfl (by assumption) (by omega) hn ?_
  refine g_iconst (v := nI 0) dX3_prepare_45 (by decide) ?_
  refine g_aload_n dX3_prepare_46 rfl ?_
  refine g_getR dX3_prepare_47 fX3_11 (by assumption) rfl (by assumption) (by omega) hn ?_
  refine g_iload_n dX3_prepare_50 rfl ?_
  refine g_iconst (v := nI 3) dX3_prepare_51 (by decide) ?_
  first | refine g_iaddN dX3_prepare_52 ?_ | refine g_iadd dX3_prepare_52 ?_
  refine g_iconst (v := nI 4) dX3_prepare_53 (by decide) ?_
  refine g_cpy dX3_prepare_54 cpX3 (by assumption) (by assumption) rfl rfl rfl (by omega) (by omega) (by decide) (by decide) (Nat.le_of_ble_eq_true rfl) (by omega) (by omega) hn ?_
  refine g_aload_n dX3_prepare_57 rfl ?_
  refine g_getR dX3_prepare_58 fX3_39 (by assumption) rfl (by assumption) (by omega) hn ?_
  refine g_iconst (v := nI 0) dX3_prepare_61 (by decide) ?_
  refine g_aload_n dX3_prepare_62 rfl ?_
  refine g_getR dX3_prepare_63 fX3_11 (by assumption) rfl (by assumption) (by omega) hn ?_
  refine g_iload_n dX3_prepare_66 rfl ?_
  refine g_bipush (v := nI 7) dX3_prepare_67 (by decide) ?_
  first | refine g_iaddN dX3_prepare_69 ?_ | refine g_iadd dX3_prepare_69 ?_
  refine g_bipush (v := nI 8) dX3_prepare_70 (by decide) ?_
  refine g_cpy dX3_prepare_72 cpX3 (by assumption) (by assumption) rfl rfl rfl (by omega) (by omega) (by decide) (by decide) (Nat.le_of_ble_eq_true rfl) (by omega) (by omega) hn ?_
  refine g_aload_n dX3_prepare_75 rfl ?_
  refine g_getR dX3_prepare_76 fX3_42 (by assumption) rfl (by assumption) (by omega) hn ?_
  refine g_iconst (v := nI 0) dX3_prepare_79 (by decide) ?_
  refine g_aload_n dX3_prepare_80 rfl ?_
  refine g_getR dX3_prepare_81 fX3_11 (by assumption) rfl (by assumption) (by omega) hn ?_
  refine g_iload_n dX3_prepare_84 rfl ?_
  refine g_bipush (v := nI 15) dX3_prepare_85 (by decide) ?_
  first | refine g_iaddN dX3_prepare_87 ?_ | refine g_iadd dX3_prepare_87 ?_
  refine g_bipush (v := nI 8) dX3_prepare_88 (by decide) ?_
  refine g_cpy dX3_prepare_90 cpX3 (by assumption) (by assumption) rfl rfl rfl (by omega) (by omega) (by decide) (by decide) (Nat.le_of_ble_eq_true rfl) (by omega) (by omega) hn ?_
  exact g_return dX3_prepare_93 rfl ⟨rfl, rfl⟩
theorem c_commit {x s : Nat} (hH : IsH n T R h) (hn : n ≤ oB) (hx : I h 1 = nI x) (h17 : x < 17) (hs : I h 2 = nI s) (h16 : s ≤ 16) : Rn O d MX3_commit [.ref h] (hp u n T I J R) (Sc u n T (up2 (up2 I h 1 (nI ((x + 1) % 17))) h 2 (nI (min 16 (s + 1)))) J R none) := by
  obtain ⟨a0, a1, b0, hh⟩ := hH
  show Go O d MX3_commit 0 [some (.ref h)] [] _ _
  have z17 : ¬ nI 17 = 0 := by decide
  refine g_aload_n dX3_commit_0 rfl ?_
  refine g_aload_n dX3_commit_1 rfl ?_
  refine g_getI dX3_commit_2 fX3_15 (by assumption) rfl (by omega) hn ?_
  rw [hx]
  refine g_iconst (v := nI 1) dX3_commit_5 (by decide) ?_
  first | refine g_iaddN dX3_commit_6 ?_ | refine g_iadd dX3_commit_6 ?_
  refine g_bipush (v := nI 17) dX3_commit_7 (by decide) ?_
  refine g_irem dX3_commit_9 (by assumption) ?_
  rw [rem17 x h17]
  refine g_putI (c := (RX3, TX3, 3)) dX3_commit_10 fX3_15 (by assumption) rfl rfl rfl rfl (fun h => absurd h (by decide)) (by omega) hn ?_
  refine g_aload_n dX3_commit_13 rfl ?_
  refine g_bipush (v := nI 16) dX3_commit_14 (by decide) ?_
  refine g_aload_n dX3_commit_16 rfl ?_
  refine g_getI dX3_commit_17 fX3_19 (by assumption) rfl (by omega) hn ?_
  rw [up2_nk (show (2 : Nat) ≠ 1 by decide), hs]
  refine g_iconst (v := nI 1) dX3_commit_20 (by decide) ?_
  first | refine g_iaddN dX3_commit_21 ?_ | refine g_iadd dX3_commit_21 ?_
  refine g_min dX3_commit_22 mX3_45 (Nat.le_of_ble_eq_true rfl) (mNo2_h3 rfl) ?_
  rw [min16 s (by omega)]
  refine g_putI (c := (RX3, TX3, 3)) dX3_commit_25 fX3_19 (by assumption) rfl rfl rfl rfl (fun h => absurd h (by decide)) (by omega) hn ?_
  exact g_return dX3_commit_28 rfl ⟨rfl, rfl⟩
theorem c_hcopy {h' : Nat} (hH : IsH n T R h) (hH' : IsH n T R h') (hn : n ≤ oB) : Rn O d MX3_copyFrom [.ref h, .ref h'] (hp u n T I J R) (Sc u n T (up2 (up2 (cpI I (h + 1) (h' + 1) 0 0 391) h 1 (cpI I (h + 1) (h' + 1) 0 0 391 h' 1)) h 2 (up2 (cpI I (h + 1) (h' + 1) 0 0 391) h 1 (cpI I (h + 1) (h' + 1) 0 0 391 h' 1) h' 2)) J R none) := by
  obtain ⟨a0, a1, b0, hh⟩ := hH
  obtain ⟨e0, e1, f0, hh'⟩ := hH'
  show Go O d MX3_copyFrom 0 [some (.ref h), some (.ref h')] [] _ _
  refine g_aload_n dX3_copyFrom_0 rfl ?_
  refine g_getR dX3_copyFrom_1 fX3_11 (by assumption) rfl (by assumption) (by omega) hn ?_
  refine g_iconst (v := nI 0) dX3_copyFrom_4 (by decide) ?_
  refine g_aload_n dX3_copyFrom_5 rfl ?_
  refine g_getR dX3_copyFrom_6 fX3_11 (by assumption) rfl (by assumption) (by omega) hn ?_
  refine g_iconst (v := nI 0) dX3_copyFrom_9 (by decide) ?_
  refine g_aload_n dX3_copyFrom_10 rfl ?_
  refine g_getR dX3_copyFrom_11 fX3_11 (by assumption) rfl (by assumption) (by omega) hn ?_
  first | refine g_alen (t := 0) (by decide) dX3_copyFrom_14 (by assumption) (by omega) hn ?_ | refine g_alen (t := 2) (by decide) dX3_copyFrom_14 (by assumption) (by omega) hn ?_
  refine g_cpy dX3_copyFrom_15 cpX3 (by assumption) (by assumption) rfl rfl rfl (by omega) (by omega) (by decide) (by decide) (Nat.le_of_ble_eq_true rfl) (by omega) (by omega) hn ?_
  refine g_aload_n dX3_copyFrom_18 rfl ?_
  refine g_aload_n dX3_copyFrom_19 rfl ?_
  refine g_getI dX3_copyFrom_20 fX3_15 (by assumption) rfl (by omega) hn ?_
  refine g_putI (c := (RX3, TX3, 3)) dX3_copyFrom_23 fX3_15 (by assumption) rfl rfl rfl rfl (fun h => absurd h (by decide)) (by omega) hn ?_
  refine g_aload_n dX3_copyFrom_26 rfl ?_
  refine g_aload_n dX3_copyFrom_27 rfl ?_
  refine g_getI dX3_copyFrom_28 fX3_19 (by assumption) rfl (by omega) hn ?_
  refine g_putI (c := (RX3, TX3, 3)) dX3_copyFrom_31 fX3_19 (by assumption) rfl rfl rfl rfl (fun h => absurd h (by decide)) (by omega) hn ?_
  exact g_return dX3_copyFrom_34 rfl ⟨rfl, rfl⟩
/-- back out of slot x (behind next and size): the year, who knocked, means, vaults, terms -/
def tbA (I : Nat → Nat → Int32) (g h x : Nat) : Nat → Nat → Int32 := up2 (up2 I (g + 9) 0 (I (h + 1) (x * 23 + 1))) g 14 (up2 I (g + 9) 0 (I (h + 1) (x * 23 + 1)) (h + 1) (x * 23 + 2))
def tbI (I : Nat → Nat → Int32) (g h x : Nat) : Nat → Nat → Int32 := cpI (cpI (cpI (tbA I g h x) (g + 2) (h + 1) (x * 23 + 3) 0 4) (g + 4) (h + 1) (x * 23 + 7) 0 8) (g + 5) (h + 1) (x * 23 + 15) 0 8
theorem c_takeBack {x s : Nat} (hH : IsH n T R h) (hG : IsG n T R g) (hn : n ≤ oB) (hx : I h 1 = nI x) (h17 : x < 17) (hs : I h 2 = nI (s + 1)) (hne : g ≠ h) : Rn O d MX3_takeBack [.ref h, .ref g] (hp u n T I J R) (Sc u n T (tbI (up2 (up2 I h 1 (nI ((x + 16) % 17))) h 2 (nI s)) g h ((x + 16) % 17)) J R (some (.int (tbI (up2 (up2 I h 1 (nI ((x + 16) % 17))) h 2 (nI s)) g h ((x + 16) % 17) (h + 1) ((x + 16) % 17 * 23))))) := by
  obtain ⟨a0, a1, b0, hh⟩ := hH
  obtain ⟨⟨t0, hg⟩, ⟨t1, t2, t3, t4, t5, t6, t7, t8, t9, t10⟩, ⟨r1, r2, r3, r4, r5, r6, r7, r8, r9, r10⟩⟩ := hG
  show Go O d MX3_takeBack 0 [some (.ref h), some (.ref g), none] [] _ _
  have z17 : ¬ nI 17 = 0 := by decide
  have hm : (x + 16) % 17 < 17 := Nat.mod_lt _ (by decide)
  refine g_aload_n dX3_takeBack_0 rfl ?_
  refine g_aload_n dX3_takeBack_1 rfl ?_
  refine g_getI dX3_takeBack_2 fX3_15 (by assumption) rfl (by omega) hn ?_
  rw [hx]
  refine g_bipush (v := nI 16) dX3_takeBack_5 (by decide) ?_
  first | refine g_iaddN dX3_takeBack_7 ?_ | refine g_iadd dX3_takeBack_7 ?_
  refine g_bipush (v := nI 17) dX3_takeBack_8 (by decide) ?_
  refine g_irem dX3_takeBack_10 (by assumption) ?_
  rw [rem17b x h17]
  refine g_putI (c := (RX3, TX3, 3)) dX3_takeBack_11 fX3_15 (by assumption) rfl rfl rfl rfl (fun h => absurd h (by decide)) (by omega) hn ?_
  refine g_aload_n dX3_takeBack_14 rfl ?_
  refine g_dup dX3_takeBack_15 rfl ?_
  refine g_getI dX3_takeBack_16 fX3_19 (by assumption) rfl (by omega) hn ?_
  rw [up2_nk (show (2 : Nat) ≠ 1 by decide), hs]
  refine g_iconst (v := nI 1) dX3_takeBack_19 (by decide) ?_
  refine g_isubN dX3_takeBack_20 (by omega) ?_
  refine g_putI (c := (RX3, TX3, 3)) dX3_takeBack_21 fX3_19 (by assumption) rfl rfl rfl rfl (fun h => absurd h (by decide)) (by omega) hn ?_
  refine g_aload_n dX3_takeBack_24 rfl ?_
  refine g_getI dX3_takeBack_25 fX3_15 (by assumption) rfl (by omega) hn ?_
  rw [up2_nk (show (1 : Nat) ≠ 2 by decide), up2_at]
  refine g_bipush (v := nI 23) dX3_takeBack_28 (by decide) ?_
  first | refine g_imulN dX3_takeBack_30 ?_ | refine g_imul dX3_takeBack_30 ?_
  refine g_istore_n (ls' := [_, _, some (.int _)]) dX3_takeBack_31 (by decide) rfl ?_
  refine g_aload_n dX3_takeBack_32 rfl ?_
  refine g_getR dX3_takeBack_33 fX3_28 (by assumption) rfl (by assumption) (by omega) hn ?_
  refine g_iconst (v := nI 0) dX3_takeBack_36 (by decide) ?_
  refine g_aload_n dX3_takeBack_37 rfl ?_
  refine g_getR dX3_takeBack_38 fX3_11 (by assumption) rfl (by assumption) (by omega) hn ?_
  refine g_iload_n dX3_takeBack_41 rfl ?_
  refine g_iconst (v := nI 1) dX3_takeBack_42 (by decide) ?_
  first | refine g_iaddN dX3_takeBack_43 ?_ | refine g_iadd dX3_takeBack_43 ?_
  refine g_iald dX3_takeBack_44 (by assumption) rfl (by omega) (by decide) (by omega) hn ?_
  refine g_iast dX3_takeBack_45 (by assumption) rfl (by omega) (by decide) (by omega) hn ?_
  refine g_aload_n dX3_takeBack_46 rfl ?_
  refine g_aload_n dX3_takeBack_47 rfl ?_
  refine g_getR dX3_takeBack_48 fX3_11 (by assumption) rfl (by assumption) (by omega) hn ?_
  refine g_iload_n dX3_takeBack_51 rfl ?_
  refine g_iconst (v := nI 2) dX3_takeBack_52 (by decide) ?_
  first | refine g_iaddN dX3_takeBack_53 ?_ | refine g_iadd dX3_takeBack_53 ?_
  refine g_iald dX3_takeBack_54 (by assumption) rfl (by omega) (by decide) (by omega) hn ?_
  refine g_putI (c := (RX2, TX2, 18)) dX3_takeBack_55 fX3_33 (by assumption) rfl rfl rfl rfl (fun h => absurd h (by decide)) (by omega) hn ?_
  refine g_aload_n dX3_takeBack_58 rfl ?_
  refine g_getR dX3_takeBack_59 fX3_11 (by assumption) rfl (by assumption) (by omega) hn ?_
  refine g_iload_n dX3_takeBack_62 rfl ?_
  refine g_iconst (v := nI 3) dX3_takeBack_63 (by decide) ?_
  first | refine g_iaddN dX3_takeBack_64 ?_ | refine g_iadd dX3_takeBack_64 ?_
  refine g_aload_n dX3_takeBack_65 rfl ?_
  refine g_getR dX3_takeBack_66 fX3_36 (by assumption) rfl (by assumption) (by omega) hn ?_
  refine g_iconst (v := nI 0) dX3_takeBack_69 (by decide) ?_
  refine g_iconst (v := nI 4) dX3_takeBack_70 (by decide) ?_
  refine g_cpy dX3_takeBack_71 cpX3 (by assumption) (by assumption) rfl rfl rfl (by omega) (by omega) (by decide) (by decide) (Nat.le_of_ble_eq_true rfl) (by omega) (by omega) hn ?_
  refine g_aload_n dX3_takeBack_74 rfl ?_
  refine g_getR dX3_takeBack_75 fX3_11 (by assumption) rfl (by assumption) (by omega) hn ?_
  refine g_iload_n dX3_takeBack_78 rfl ?_
  refine g_bipush (v := nI 7) dX3_takeBack_79 (by decide) ?_
  first | refine g_iaddN dX3_takeBack_81 ?_ | refine g_iadd dX3_takeBack_81 ?_
  refine g_aload_n dX3_takeBack_82 rfl ?_
  refine g_getR dX3_takeBack_83 fX3_39 (by assumption) rfl (by assumption) (by omega) hn ?_
  refine g_iconst (v := nI 0) dX3_takeBack_86 (by decide) ?_
  refine g_bipush (v := nI 8) dX3_takeBack_87 (by decide) ?_
  refine g_cpy dX3_takeBack_89 cpX3 (by assumption) (by assumption) rfl rfl rfl (by omega) (by omega) (by decide) (by decide) (Nat.le_of_ble_eq_true rfl) (by omega) (by omega) hn ?_
  refine g_aload_n dX3_takeBack_92 rfl ?_
  refine g_getR dX3_takeBack_93 fX3_11 (by assumption) rfl (by assumption) (by omega) hn ?_
  refine g_iload_n dX3_takeBack_96 rfl ?_
  refine g_bipush (v := nI 15) dX3_takeBack_97 (by decide) ?_
  first | refine g_iaddN dX3_takeBack_99 ?_ | refine g_iadd dX3_takeBack_99 ?_
  refine g_aload_n dX3_takeBack_100 rfl ?_
  refine g_getR dX3_takeBack_101 fX3_42 (by assumption) rfl (by assumption) (by omega) hn ?_
  refine g_iconst (v := nI 0) dX3_takeBack_104 (by decide) ?_
  refine g_bipush (v := nI 8) dX3_takeBack_105 (by decide) ?_
  refine g_cpy dX3_takeBack_107 cpX3 (by assumption) (by assumption) rfl rfl rfl (by omega) (by omega) (by decide) (by decide) (Nat.le_of_ble_eq_true rfl) (by omega) (by omega) hn ?_
  refine g_aload_n dX3_takeBack_110 rfl ?_
  refine g_getR dX3_takeBack_111 fX3_11 (by assumption) rfl (by assumption) (by omega) hn ?_
  refine g_iload_n dX3_takeBack_114 rfl ?_
  refine g_iald dX3_takeBack_115 (by assumption) rfl (by omega) (by decide) (by omega) hn ?_
  exact g_ireturn dX3_takeBack_116 rfl (by first | rfl | decide) ⟨rfl, rfl⟩
/-- a draw: the next state, as the machine reckons it -/
def drS (s : Int32) : Int32 := (s.toInt64 * 1103 + 12345 - (s.toInt64 * 1103 + 12345) / 1000003 * 1000003).toInt32
theorem c_draw {a : Nat} {m : Int32} (hT : T a = (100 + 1, kd1)) (ha : a < n) (hn : n ≤ oB) (hm : 0 < m) : Rn O d MX1_draw [.ref a, .int m] (hp u n T I J R) (Sc u n T (up2 I a 0 (drS (I a 0))) J R (some (.int (drS (I a 0) - drS (I a 0) / m * m)))) := by
  show Go O d MX1_draw 0 [some (.ref a), some (.int m)] [] _ _
  have z1 : ¬ (1000003 : Int64) = 0 := by decide
  have zm : ¬ m = 0 := fun e => by rw [e] at hm; exact absurd hm (by decide)
  refine g_aload_n dX1_draw_0 rfl ?_
  refine g_aload_n dX1_draw_1 rfl ?_
  refine g_getI dX1_draw_2 fX1_7 (by assumption) rfl (by omega) hn ?_
  refine g_i2l dX1_draw_5 ?_
  refine g_ldc2 dX1_draw_6 lX1_13 ?_
  refine g_lmul dX1_draw_9 ?_
  refine g_ldc2 dX1_draw_10 lX1_15 ?_
  refine g_ladd dX1_draw_13 ?_
  refine g_ldc2 dX1_draw_14 lX1_17 ?_
  refine g_lrem dX1_draw_17 (by assumption) ?_
  refine g_l2i dX1_draw_18 ?_
  refine g_putI (c := (RX1, TX1, 1)) dX1_draw_19 fX1_7 (by assumption) rfl rfl rfl rfl (fun h => absurd h (by decide)) (by omega) hn ?_
  refine g_iload_n dX1_draw_22 rfl ?_
  refine g_if_le (t := 35) dX1_draw_23 (by decide) (fun c => ?_) (fun c => ?_)
  · exact absurd hm (Int32.not_lt.mpr c)
  · refine g_aload_n dX1_draw_26 rfl ?_
    refine g_getI dX1_draw_27 fX1_7 (by assumption) rfl (by omega) hn ?_
    rw [up2_at]
    refine g_iload_n dX1_draw_30 rfl ?_
    refine g_irem dX1_draw_31 (by assumption) ?_
    refine g_goto (t := 36) dX1_draw_32 (by decide) ?_
    exact g_ireturn dX1_draw_36 rfl (by first | rfl | decide) ⟨rfl, rfl⟩
end HIS
