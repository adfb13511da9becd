/-! the words of a law, set for one of the dead or for a family -/
def wr9 (b : Nat → Int32) (l : List Int32) : Nat → Int32 := fun k => if k < 9 then l.getD k 0 else b k
theorem up1_at {α : Type} (F : Nat → Nat → α) (a : Nat) (f : Nat → α) : up1 F a f a = f := if_pos rfl
theorem up1_na {α : Type} {F : Nat → Nat → α} {a b : Nat} {f : Nat → α} (h : b ≠ a) : up1 F a f b = F b := if_neg h
theorem wr_set {I : Nat → Nat → Int32} {w k : Nat} {b : Nat → Int32} {l : List Int32} {x : Int32} (hk : k < 9) (hl : l.length = 9) : up2 (up1 I w (wr9 b l)) w k x = up1 I w (wr9 b (l.set k x)) := by
  funext c j
  by_cases hc : c = w
  · subst hc
    rw [up1_at]
    by_cases hj : j = k
    · subst hj
      rw [up2_at]
      unfold wr9
      rw [if_pos hk, List.getD_eq_getElem?_getD, List.getElem?_set_self (by omega)]
      rfl
    · rw [up2_nk hj, up1_at]
      unfold wr9
      split
      · rw [List.getD_eq_getElem?_getD, List.getD_eq_getElem?_getD, List.getElem?_set_ne (Ne.symm hj)]
      · rfl
  · rw [up2_na hc, up1_na hc, up1_na hc]
theorem wr_nine {I : Nat → Nat → Int32} {w : Nat} (a0 a1 a2 a3 a4 a5 a6 a7 a8 : Int32) : up2 (up2 (up2 (up2 (up2 (up2 (up2 (up2 (up2 I w 0 a0) w 1 a1) w 2 a2) w 3 a3) w 4 a4) w 5 a5) w 6 a6) w 7 a7) w 8 a8 = up1 I w (wr9 (I w) [a0, a1, a2, a3, a4, a5, a6, a7, a8]) := by
  funext c j
  by_cases hc : c = w
  · subst hc
    rw [up1_at]
    match j with
    | 0 => simp [up2, wr9]
    | 1 => simp [up2, wr9]
    | 2 => simp [up2, wr9]
    | 3 => simp [up2, wr9]
    | 4 => simp [up2, wr9]
    | 5 => simp [up2, wr9]
    | 6 => simp [up2, wr9]
    | 7 => simp [up2, wr9]
    | 8 => simp [up2, wr9]
    | j + 9 =>
      unfold wr9
      rw [if_neg (by omega)]
      simp [up2]
  · rw [up1_na hc]
    simp [up2, hc]
/-- a court stands at q, its words at w, ahead of the ground g -/
def IsQ (n : Nat) (T : Nat → mT) (R : Nat → Nat → Option Nat) (q w g : Nat) : Prop := T q = (100 + 0, kd0) ∧ T w = (0, [9]) ∧ R q 1 = some w ∧ q < n ∧ w < n ∧ w < g ∧ q ≠ w
/-- what a family's word "means" is -/
def meF (I : Nat → Nat → Int32) (g F : Nat) (f : Int32) : Int32 := if inR f F = true then I (g + 2) f.toNatClampNeg else -1
section CRT
variable {O : mO} {d u n : Nat} {T : Nat → mT} {I : Nat → Nat → Int32} {J : Nat → Nat → Int64} {R : Nat → Nat → Option Nat} {g q w : Nat}
theorem c_askFam {F : Nat} {f : Int32} (hQ : IsQ n T R q w g) (hG : IsG n T R g) (hn : n ≤ oB) (hF : I g 12 = nI F) (h4 : F ≤ 4) : Rn O (d + 1) MX0_askOfFamily [.ref q, .ref g, .int f] (hp u n T I J R) (Sc u n T (up1 I w (wr9 (I w) [-1, f, -1, -1, -1, I (g + 9) 2, -1, meF I g F f, I (g + 9) 0])) J R none) := by
  obtain ⟨a0, a1, b1, hqn, hwn, hwg, hqw⟩ := hQ
  have hc := fun (I' : Nat → Nat → Int32) (h' : I' g 12 = nI F) => c_hasFamily (O := O) (d := d) (u := u) (I := I') (J := J) (v := f) hG hn h'
  obtain ⟨⟨t0, hg⟩, ⟨t1, t2, t3, t4, t5, t6, t7, t8, t9, t10⟩, ⟨r1, r2, r3, r4, r5, r6, r7, r8, r9, r10⟩⟩ := hG
  show Go O (d + 1) MX0_askOfFamily 0 [some (.ref q), some (.ref g), some (.int f)] [] _ _
  have e9 : g + 9 ≠ w := by omega
  have e2 : g + 2 ≠ w := by omega
  have e0 : g ≠ w := by omega
  refine g_aload_n dX0_askOfFamily_0 rfl ?_
  refine g_getR dX0_askOfFamily_1 fX0_11 (by assumption) rfl (by assumption) (by omega) hn ?_
  refine g_iconst (v := nI 0) dX0_askOfFamily_4 (by decide) ?_
  refine g_iconst (v := -1) dX0_askOfFamily_5 (by decide) ?_
  refine g_iast dX0_askOfFamily_6 (by assumption) rfl (by omega) (by decide) (by omega) hn ?_
  refine g_aload_n dX0_askOfFamily_7 rfl ?_
  refine g_getR dX0_askOfFamily_8 fX0_11 (by assumption) rfl (by assumption) (by omega) hn ?_
  refine g_iconst (v := nI 1) dX0_askOfFamily_11 (by decide) ?_
  refine g_iload_n dX0_askOfFamily_12 rfl ?_
  refine g_iast dX0_askOfFamily_13 (by assumption) rfl (by omega) (by decide) (by omega) hn ?_
  refine g_aload_n dX0_askOfFamily_14 rfl ?_
  refine g_getR dX0_askOfFamily_15 fX0_11 (by assumption) rfl (by assumption) (by omega) hn ?_
  refine g_iconst (v := nI 2) dX0_askOfFamily_18 (by decide) ?_
  refine g_iconst (v := -1) dX0_askOfFamily_19 (by decide) ?_
  refine g_iast dX0_askOfFamily_20 (by assumption) rfl (by omega) (by decide) (by omega) hn ?_
  refine g_aload_n dX0_askOfFamily_21 rfl ?_
  refine g_getR dX0_askOfFamily_22 fX0_11 (by assumption) rfl (by assumption) (by omega) hn ?_
  refine g_iconst (v := nI 3) dX0_askOfFamily_25 (by decide) ?_
  refine g_iconst (v := -1) dX0_askOfFamily_26 (by decide) ?_
  refine g_iast dX0_askOfFamily_27 (by assumption) rfl (by omega) (by decide) (by omega) hn ?_
  refine g_aload_n dX0_askOfFamily_28 rfl ?_
  refine g_getR dX0_askOfFamily_29 fX0_11 (by assumption) rfl (by assumption) (by omega) hn ?_
  refine g_iconst (v := nI 4) dX0_askOfFamily_32 (by decide) ?_
  refine g_iconst (v := -1) dX0_askOfFamily_33 (by decide) ?_
  refine g_iast dX0_askOfFamily_34 (by assumption) rfl (by omega) (by decide) (by omega) hn ?_
  refine g_aload_n dX0_askOfFamily_35 rfl ?_
  refine g_getR dX0_askOfFamily_36 fX0_11 (by assumption) rfl (by assumption) (by omega) hn ?_
  refine g_iconst (v := nI 5) dX0_askOfFamily_39 (by decide) ?_
  refine g_aload_n dX0_askOfFamily_40 rfl ?_
  refine g_getR dX0_askOfFamily_41 fX0_45 (by assumption) rfl (by assumption) (by omega) hn ?_
  refine g_iconst (v := nI 2) dX0_askOfFamily_44 (by decide) ?_
  refine g_iald dX0_askOfFamily_45 (by assumption) rfl (by omega) (by decide) (by omega) hn ?_
  simp only [up2_na e9]
  refine g_iast dX0_askOfFamily_46 (by assumption) rfl (by omega) (by decide) (by omega) hn ?_
  refine g_aload_n dX0_askOfFamily_47 rfl ?_
  refine g_getR dX0_askOfFamily_48 fX0_11 (by assumption) rfl (by assumption) (by omega) hn ?_
  refine g_bipush (v := nI 6) dX0_askOfFamily_51 (by decide) ?_
  refine g_iconst (v := -1) dX0_askOfFamily_53 (by decide) ?_
  refine g_iast dX0_askOfFamily_54 (by assumption) rfl (by omega) (by decide) (by omega) hn ?_
  refine g_aload_n dX0_askOfFamily_55 rfl ?_
  refine g_getR dX0_askOfFamily_56 fX0_11 (by assumption) rfl (by assumption) (by omega) hn ?_
  refine g_bipush (v := nI 7) dX0_askOfFamily_59 (by decide) ?_
  refine g_aload_n dX0_askOfFamily_61 rfl ?_
  refine g_iload_n dX0_askOfFamily_62 rfl ?_
  refine g_virt (Z := MX2_hasFamily) dX0_askOfFamily_63 mX0_48.1 mX0_48.2 (Nat.le_of_ble_eq_true rfl) rfl rfl (Nat.le_of_ble_eq_true rfl) (Nat.le_of_ble_eq_true rfl) (by assumption) rfl rfl (by omega) hn (hc _ (by simp only [up2_na e0]; exact hF)) ?_
  rintro _ _ ⟨rfl, rfl⟩
  try dsimp only [Option.toList, List.cons_append, List.nil_append]
  have fin : ∀ v : Int32, v = meF I g F f → Go O (d + 1) MX0_askOfFamily 79 [some (.ref q), some (.ref g), some (.int f)] [.int v, .int (nI 7), .ref w] (hp u n T (up2 (up2 (up2 (up2 (up2 (up2 (up2 I w 0 (-1)) w 1 f) w 2 (-1)) w 3 (-1)) w 4 (-1)) w 5 (I (g + 9) 2)) w 6 (-1)) J R) (Sc u n T (up1 I w (wr9 (I w) [-1, f, -1, -1, -1, I (g + 9) 2, -1, meF I g F f, I (g + 9) 0])) J R none) := by
    intro v hv
    refine g_iast dX0_askOfFamily_79 (by assumption) rfl (by omega) (by decide) (by omega) hn ?_
    refine g_aload_n dX0_askOfFamily_80 rfl ?_
    refine g_getR dX0_askOfFamily_81 fX0_11 (by assumption) rfl (by assumption) (by omega) hn ?_
    refine g_bipush (v := nI 8) dX0_askOfFamily_84 (by decide) ?_
    refine g_aload_n dX0_askOfFamily_86 rfl ?_
    refine g_getR dX0_askOfFamily_87 fX0_45 (by assumption) rfl (by assumption) (by omega) hn ?_
    refine g_iconst (v := nI 0) dX0_askOfFamily_90 (by decide) ?_
    refine g_iald dX0_askOfFamily_91 (by assumption) rfl (by omega) (by decide) (by omega) hn ?_
    simp only [up2_na e9]
    refine g_iast dX0_askOfFamily_92 (by assumption) rfl (by omega) (by decide) (by omega) hn ?_
    exact g_return dX0_askOfFamily_93 rfl ⟨rfl, by rw [wr_nine, hv]⟩
  cases hb : inR f F with
  | false =>
    refine g_if_eq (t := 78) dX0_askOfFamily_66 (by decide) (fun c => ?_) (fun c => ?_)
    · refine g_iconst (v := -1) dX0_askOfFamily_78 (by decide) ?_
      exact fin _ (by unfold meF; rw [hb]; rfl)
    · exact absurd rfl c
  | true =>
    obtain ⟨k, hk, rfl⟩ := inR_ex hb (by omega)
    refine g_if_eq (t := 78) dX0_askOfFamily_66 (by decide) (fun c => ?_) (fun c => ?_)
    · exact absurd c (by decide)
    · refine g_aload_n dX0_askOfFamily_69 rfl ?_
      refine g_getR dX0_askOfFamily_70 fX0_51 (by assumption) rfl (by assumption) (by omega) hn ?_
      refine g_iload_n dX0_askOfFamily_73 rfl ?_
      refine g_iald dX0_askOfFamily_74 (by assumption) rfl (by omega) (by decide) (by omega) hn ?_
      simp only [up2_na e2]
      refine g_goto (t := 79) dX0_askOfFamily_75 (by decide) ?_
      exact fin _ (by unfold meF; rw [hb, nI_clamp (by omega)]; rfl)
theorem c_moveOn {y : Int32} (hQ : IsQ n T R q w g) (hn : n ≤ oB) : Rn O d MX0_moveOn [.ref q, .int y] (hp u n T I J R) (Sc u n T (up2 (up2 I w 6 (I w 6 - y)) w 8 (I w 8 + y)) J R none) := by
  obtain ⟨a0, a1, b1, hqn, hwn, hwg, hqw⟩ := hQ
  show Go O d MX0_moveOn 0 [some (.ref q), some (.int y)] [] _ _
  refine g_aload_n dX0_moveOn_0 rfl ?_
  refine g_getR dX0_moveOn_1 fX0_11 (by assumption) rfl (by assumption) (by omega) hn ?_
  refine g_bipush (v := nI 6) dX0_moveOn_4 (by decide) ?_
  refine g_dup2 dX0_moveOn_6 rfl rfl ?_
  refine g_iald dX0_moveOn_7 (by assumption) rfl (by omega) (by decide) (by omega) hn ?_
  refine g_iload_n dX0_moveOn_8 rfl ?_
  refine g_isub dX0_moveOn_9 ?_
  refine g_iast dX0_moveOn_10 (by assumption) rfl (by omega) (by decide) (by omega) hn ?_
  refine g_aload_n dX0_moveOn_11 rfl ?_
  refine g_getR dX0_moveOn_12 fX0_11 (by assumption) rfl (by assumption) (by omega) hn ?_
  refine g_bipush (v := nI 8) dX0_moveOn_15 (by decide) ?_
  refine g_dup2 dX0_moveOn_17 rfl rfl ?_
  refine g_iald dX0_moveOn_18 (by assumption) rfl (by omega) (by decide) (by omega) hn ?_
  rw [up2_nk (show (8 : Nat) ≠ 6 by decide)]
  refine g_iload_n dX0_moveOn_19 rfl ?_
  refine g_iadd dX0_moveOn_20 ?_
  refine g_iast dX0_moveOn_21 (by assumption) rfl (by omega) (by decide) (by omega) hn ?_
  exact g_return dX0_moveOn_22 rfl ⟨rfl, rfl⟩
/-- the words of one of the dead (k) and a vault -/
def adF (I : Nat → Nat → Int32) (g V D k F : Nat) (v : Int32) : List Int32 :=
  [nI k, I (g + 3) k, if inR v V = true then v else -1, if inR v V = true then I (g + 1) v.toNatClampNeg else -1, if inR v V = true then I (g + 1) v.toNatClampNeg - nI (cnt (I (g + 4)) v D) else -1, I (g + 9) 2, I (g + 5) k, meF I g F (I (g + 3) k), I (g + 9) 0]
theorem c_askDead {V F D k : Nat} {v : Int32} (hQ : IsQ n T R q w g) (hG : IsG n T R g) (hn : n ≤ oB) (hV : I g 11 = nI V) (h5 : V ≤ 5) (hF : I g 12 = nI F) (h4 : F ≤ 4) (hD : I g 13 = nI D) (h8 : D ≤ 8) (hk : k < D) : Rn O (d + 2) MX0_askOfDead [.ref q, .ref g, .int (nI k), .int v] (hp u n T I J R) (Sc u n T (up1 I w (wr9 (I w) (adF I g V D k F v))) J R none) := by
  have c1 := c_hasDead (O := O) (d := d + 1) (u := u) (J := J) (v := nI k) hG hn hD
  have c2 := c_askFam (O := O) (d := d) (u := u) (J := J) (f := I (g + 3) k) hQ hG hn hF h4
  have c3 := fun (I' : Nat → Nat → Int32) (h' : I' g 11 = nI V) => c_hasVault (O := O) (d := d + 1) (u := u) (I := I') (J := J) (v := v) hG hn h'
  have c4 := fun (I' : Nat → Nat → Int32) (h' : I' g 11 = nI V) (h'' : I' g 13 = nI D) => c_freeBeds (O := O) (d := d) (u := u) (I := I') (J := J) (v := v) hG hn h' h5 h'' h8
  obtain ⟨a0, a1, b1, hqn, hwn, hwg, hqw⟩ := hQ
  obtain ⟨⟨t0, hg⟩, ⟨t1, t2, t3, t4, t5, t6, t7, t8, t9, t10⟩, ⟨r1, r2, r3, r4, r5, r6, r7, r8, r9, r10⟩⟩ := hG
  show Go O (d + 1 + 1) MX0_askOfDead 0 [some (.ref q), some (.ref g), some (.int (nI k)), some (.int v)] [] _ _
  have e5 : g + 5 ≠ w := by omega
  have e1 : g + 1 ≠ w := by omega
  have e4 : g + 4 ≠ w := by omega
  have e0 : g ≠ w := by omega
  refine g_aload_n dX0_askOfDead_0 rfl ?_
  refine g_iload_n dX0_askOfDead_1 rfl ?_
  refine g_virt (Z := MX2_hasDead) dX0_askOfDead_2 mX0_19.1 mX0_19.2 (Nat.le_of_ble_eq_true rfl) rfl rfl (Nat.le_of_ble_eq_true rfl) (Nat.le_of_ble_eq_true rfl) (by assumption) rfl rfl (by omega) hn (c1) ?_
  rintro _ _ ⟨rfl, rfl⟩
  try dsimp only [Option.toList, List.cons_append, List.nil_append]
  rw [inR_nI hk (by omega)]
  refine g_if_eq (t := 39) dX0_askOfDead_5 (by decide) (fun c => ?_) (fun c => ?_)
  · exact absurd c (by decide)
  · refine g_aload_n dX0_askOfDead_8 rfl ?_
    refine g_aload_n dX0_askOfDead_9 rfl ?_
    refine g_aload_n dX0_askOfDead_10 rfl ?_
    refine g_getR dX0_askOfDead_11 fX0_25 (by assumption) rfl (by assumption) (by omega) hn ?_
    refine g_iload_n dX0_askOfDead_14 rfl ?_
    refine g_iald dX0_askOfDead_15 (by assumption) rfl (by omega) (by decide) (by omega) hn ?_
    refine g_virt (Z := MX0_askOfFamily) dX0_askOfDead_16 mX0_28.1 mX0_28.2 (Nat.le_of_ble_eq_true rfl) rfl rfl (Nat.le_of_ble_eq_true rfl) (Nat.le_of_ble_eq_true rfl) (by assumption) rfl rfl (by omega) hn (c2) ?_
    rintro _ _ ⟨rfl, rfl⟩
    try dsimp only [Option.toList, List.cons_append, List.nil_append]
    refine g_aload_n dX0_askOfDead_19 rfl ?_
    refine g_getR dX0_askOfDead_20 fX0_11 (by assumption) rfl (by assumption) (by omega) hn ?_
    refine g_iconst (v := nI 0) dX0_askOfDead_23 (by decide) ?_
    refine g_iload_n dX0_askOfDead_24 rfl ?_
    refine g_iast dX0_askOfDead_25 (by assumption) rfl (by omega) (by decide) (by omega) hn ?_
    rw [wr_set (by decide) rfl]
    refine g_aload_n dX0_askOfDead_26 rfl ?_
    refine g_getR dX0_askOfDead_27 fX0_11 (by assumption) rfl (by assumption) (by omega) hn ?_
    refine g_bipush (v := nI 6) dX0_askOfDead_30 (by decide) ?_
    refine g_aload_n dX0_askOfDead_32 rfl ?_
    refine g_getR dX0_askOfDead_33 fX0_32 (by assumption) rfl (by assumption) (by omega) hn ?_
    refine g_iload_n dX0_askOfDead_36 rfl ?_
    refine g_iald dX0_askOfDead_37 (by assumption) rfl (by omega) (by decide) (by omega) hn ?_
    simp only [up1_na e5]
    refine g_iast dX0_askOfDead_38 (by assumption) rfl (by omega) (by decide) (by omega) hn ?_
    rw [wr_set (by decide) rfl]
    refine g_aload_n dX0_askOfDead_39 rfl ?_
    refine g_iload_n dX0_askOfDead_40 rfl ?_
    refine g_virt (Z := MX2_hasVault) dX0_askOfDead_41 mX0_35.1 mX0_35.2 (Nat.le_of_ble_eq_true rfl) rfl rfl (Nat.le_of_ble_eq_true rfl) (Nat.le_of_ble_eq_true rfl) (by assumption) rfl rfl (by omega) hn (c3 _ (by simp only [up1_na e0]; exact hV)) ?_
    rintro _ _ ⟨rfl, rfl⟩
    try dsimp only [Option.toList, List.cons_append, List.nil_append]
    cases hb : inR v V with
    | false =>
      refine g_if_eq (t := 77) dX0_askOfDead_44 (by decide) (fun z => ?_) (fun z => ?_)
      · exact g_return dX0_askOfDead_77 rfl ⟨rfl, by unfold adF; rw [hb]; rfl⟩
      · exact absurd rfl z
    | true =>
      obtain ⟨j, hj, rfl⟩ := inR_ex hb (by omega)
      refine g_if_eq (t := 77) dX0_askOfDead_44 (by decide) (fun z => ?_) (fun z => ?_)
      · exact absurd z (by decide)
      · refine g_aload_n dX0_askOfDead_47 rfl ?_
        refine g_getR dX0_askOfDead_48 fX0_11 (by assumption) rfl (by assumption) (by omega) hn ?_
        refine g_iconst (v := nI 2) dX0_askOfDead_51 (by decide) ?_
        refine g_iload_n dX0_askOfDead_52 rfl ?_
        refine g_iast dX0_askOfDead_53 (by assumption) rfl (by omega) (by decide) (by omega) hn ?_
        rw [wr_set (by decide) rfl]
        refine g_aload_n dX0_askOfDead_54 rfl ?_
        refine g_getR dX0_askOfDead_55 fX0_11 (by assumption) rfl (by assumption) (by omega) hn ?_
        refine g_iconst (v := nI 3) dX0_askOfDead_58 (by decide) ?_
        refine g_aload_n dX0_askOfDead_59 rfl ?_
        refine g_getR dX0_askOfDead_60 fX0_38 (by assumption) rfl (by assumption) (by omega) hn ?_
        refine g_iload_n dX0_askOfDead_63 rfl ?_
        refine g_iald dX0_askOfDead_64 (by assumption) rfl (by omega) (by decide) (by omega) hn ?_
        simp only [up1_na e1]
        refine g_iast dX0_askOfDead_65 (by assumption) rfl (by omega) (by decide) (by omega) hn ?_
        rw [wr_set (by decide) rfl]
        refine g_aload_n dX0_askOfDead_66 rfl ?_
        refine g_getR dX0_askOfDead_67 fX0_11 (by assumption) rfl (by assumption) (by omega) hn ?_
        refine g_iconst (v := nI 4) dX0_askOfDead_70 (by decide) ?_
        refine g_aload_n dX0_askOfDead_71 rfl ?_
        refine g_iload_n dX0_askOfDead_72 rfl ?_
        refine g_virt (Z := MX2_freeBeds) dX0_askOfDead_73 mX0_41.1 mX0_41.2 (Nat.le_of_ble_eq_true rfl) rfl rfl (Nat.le_of_ble_eq_true rfl) (Nat.le_of_ble_eq_true rfl) (by assumption) rfl rfl (by omega) hn (c4 _ (by simp only [up1_na e0]; exact hV) (by simp only [up1_na e0]; exact hD)) ?_
        rintro _ _ ⟨rfl, rfl⟩
        try dsimp only [Option.toList, List.cons_append, List.nil_append]
        simp only [up1_na e1, up1_na e4]
        refine g_iast dX0_askOfDead_76 (by assumption) rfl (by omega) (by decide) (by omega) hn ?_
        rw [wr_set (by decide) rfl]
        exact g_return dX0_askOfDead_77 rfl ⟨rfl, by unfold adF; rw [hb, nI_clamp (by omega)]; rfl⟩
end CRT
