/-! what the ground asks of the law -/
theorem IsC_Q {n : Nat} {T : Nat → mT} {R : Nat → Nat → Option Nat} {g : Nat} (h : IsC n T R) (hg : 31 < g) : IsQ n T R 30 31 g := ⟨h.1.2.2.1, h.1.2.2.2, h.2.1.2.2, by have := h.2.2; omega, by have := h.2.2; omega, hg, by decide⟩
/-- a ground with its court: its counts -/
def GrN (n : Nat) (T : Nat → mT) (I : Nat → Nat → Int32) (R : Nat → Nat → Option Nat) (g V F D N : Nat) : Prop := IsC n T R ∧ IsG n T R g ∧ 31 < g ∧ R g 0 = some 30 ∧ I g 11 = nI V ∧ V ≤ 5 ∧ I g 12 = nI F ∧ F ≤ 4 ∧ I g 13 = nI D ∧ D ≤ 8 ∧ I g 16 = nI N ∧ N ≤ 6
/-- the law in force -/
def lpF (I : Nat → Nat → Int32) (R : Nat → Nat → Option Nat) (g N : Nat) : Option Nat := if inR (I g 17) N = true then R (g + 10) (I g 17).toNatClampNeg else none
/-- the words of a family -/
def afL (I : Nat → Nat → Int32) (g F : Nat) (f : Int32) : List Int32 := [-1, f, -1, -1, -1, I (g + 9) 2, -1, meF I g F f, I (g + 9) 0]
theorem adF_len (I : Nat → Nat → Int32) (g V D k F : Nat) (v : Int32) : (adF I g V D k F v).length = 9 := rfl
theorem SxC_g {I I' : Nat → Nat → Int32} {g V F D N n : Nat} {T : Nat → mT} {R : Nat → Nat → Option Nat} (h : SxC I I') (hg : GrN n T I R g V F D N) : GrN n T I' R g V F D N := by
  obtain ⟨h1, h2, h3, h4, h5, h6, h7, h8, h9, h10, h11, h12⟩ := hg
  rw [← h g (by omega) (by omega) (by omega)] at h5 h7 h9 h11
  exact ⟨h1, h2, h3, h4, h5, h6, h7, h8, h9, h10, h11, h12⟩
theorem lpF_cg {I I' : Nat → Nat → Int32} {R : Nat → Nat → Option Nat} {g N : Nat} (h : I' g = I g) : lpF I' R g N = lpF I R g N := by
  unfold lpF
  rw [h]
section ASK
variable {O : mO} {d u n L V F D N g : Nat} {xs : Nat → Int32} {T : Nat → mT} {I : Nat → Nat → Int32} {J : Nat → Nat → Int64} {R : Nat → Nat → Option Nat}
theorem c_askF {f : Int32} (hG : GrN n T I R g V F D N) (hn : n ≤ oB) : Rn O (d + 1) MX0_askOfFamily [.ref 30, .ref g, .int f] (hp u n T I J R) (fun r K' => r = none ∧ ∃ b, K' = hp u n T (up1 I 31 (wr9 b (afL I g F f))) J R) := by
  obtain ⟨h1, h2, h3, h4, h5, h6, h7, h8, h9, h10, h11, h12⟩ := hG
  exact Rn.mono (c_askFam (d := d) (IsC_Q h1 h3) h2 hn h7 h8) (Nat.le_refl _) (fun r K' h => ⟨h.1, I 31, h.2⟩)
theorem c_askD {k : Nat} {v : Int32} (hG : GrN n T I R g V F D N) (hn : n ≤ oB) (hk : k < D) : Rn O (d + 2) MX0_askOfDead [.ref 30, .ref g, .int (nI k), .int v] (hp u n T I J R) (fun r K' => r = none ∧ ∃ b, K' = hp u n T (up1 I 31 (wr9 b (adF I g V D k F v))) J R) := by
  obtain ⟨h1, h2, h3, h4, h5, h6, h7, h8, h9, h10, h11, h12⟩ := hG
  exact Rn.mono (c_askDead (d := d) (IsC_Q h1 h3) h2 hn h5 h6 h7 h8 h9 h10 hk) (Nat.le_refl _) (fun r K' h => ⟨h.1, I 31, h.2⟩)
theorem c_toldX {kd : Nat} {lp : Option Nat} {X : Int32 → Int32} (hO : O = mOl L xs) (hC : IsC n T R) (hl : LwV n T I R lp) (hn : n ≤ oB) (hk : kd < 3) {I1 : Nat → Nat → Int32} (h1 : SxC I I1) (hX : wdF (I1 31) 9 = X) :
    Rn O (d + 2) MX0_told [.ref 30, va_rf lp, .int (nI kd)] (hp u n T I1 J R) (fun r K' => r = some (.int (tdL I lp X kd)) ∧ ∃ I', K' = hp u n T I' J R ∧ SxC I I' ∧ wdF (I' 31) 9 = X) := by
  have h97 : ∀ a, 97 < a → I1 a = I a := fun a ha => h1 a (by omega) (by omega) (by omega)
  refine Rn.mono (c_told (d := d) hO hC (LwV_cg h97 hl) hn hk) (Nat.le_refl _) ?_
  rintro r K' ⟨e1, I', e2, e3⟩
  refine ⟨?_, I', e2, h1.trans e3.c, ?_⟩
  · rw [e1, hX, tdL_cg hl h97]
  · rw [e3 31 (by decide) (by decide), hX]
theorem c_barsX {lp : Option Nat} {X : Int32 → Int32} (hC : IsC n T R) (hl : LwV n T I R lp) (hn : n ≤ oB) {I1 : Nat → Nat → Int32} (h1 : SxC I I1) (hX : wdF (I1 31) 9 = X) :
    Rn O (d + 2) MX0_bars [.ref 30, va_rf lp] (hp u n T I1 J R) (fun r K' => r = some (.int (bI (brL I lp X))) ∧ ∃ I', K' = hp u n T I' J R ∧ SxC I I') := by
  have h97 : ∀ a, 97 < a → I1 a = I a := fun a ha => h1 a (by omega) (by omega) (by omega)
  refine Rn.mono (c_bars (d := d) hC (LwV_cg h97 hl) hn) (Nat.le_refl _) ?_
  rintro r K' ⟨e1, I', e2, e3⟩
  refine ⟨?_, I', e2, h1.trans e3.c⟩
  rw [e1, hX, brL_cg hl h97]
theorem c_inF (hG : GrN n T I R g V F D N) (hn : n ≤ oB) {I1 : Nat → Nat → Int32} (h1 : SxC I I1) : Rn O (d + 2) MX2_inForce [.ref g] (hp u n T I1 J R) (fun r K' => r = some (va_rf (lpF I R g N)) ∧ K' = hp u n T I1 J R) := by
  have hG1 := SxC_g h1 hG
  obtain ⟨a1, a2, a3, a4, -⟩ := hG
  obtain ⟨-, -, -, -, h5, h6, h7, h8, h9, h10, h11, h12⟩ := hG1
  refine Rn.mono (c_inForce (d := d) a2 hn h11 h12) (Nat.le_refl _) ?_
  rintro r K' ⟨e1, e2⟩
  refine ⟨?_, e2⟩
  rw [e1, h1 g (by omega) (by omega) (by omega)]
  rfl
theorem SxC_up {b : Nat → Int32} {l : List Int32} : SxC I (up1 I 31 (wr9 b l)) := SxC_31
theorem wX_up {b : Nat → Int32} {l : List Int32} : wdF (up1 I 31 (wr9 b l) 31) 9 = wX l := by rw [up1_at, wX_wr]
theorem c_gtold {k kd : Nat} {lp : Option Nat} (hO : O = mOl L xs) (hG : GrN n T I R g V F D N) (hl : LwV n T I R lp) (hn : n ≤ oB) (hk : k < D) (hkd : kd < 3) : Rn O (d + 3) MX2_told [.ref g, va_rf lp, .int (nI kd), .int (nI k)] (hp u n T I J R) (fun r K' => r = some (.int (tdL I lp (wX (adF I g V D k F (I (g + 4) k))) kd)) ∧ ∃ I', K' = hp u n T I' J R ∧ SxC I I') := by
  have hG0 := hG
  obtain ⟨hC, hg, h31, r0, hV, h5, hF, h4, hD, h8, hN, h6⟩ := hG
  have c1 := c_hasDead (O := O) (d := d + 2) (u := u) (J := J) (v := nI k) hg hn hD
  have c2 := c_askD (O := O) (d := d) (u := u) (J := J) (k := k) (v := I (g + 4) k) hG0 hn hk
  have c3 := fun (I1 : Nat → Nat → Int32) h1 h2 => c_toldX (O := O) (d := d) (u := u) (J := J) (kd := kd) (X := wX (adF I g V D k F (I (g + 4) k))) (I1 := I1) hO hC hl hn hkd h1 h2
  obtain ⟨⟨x28, x29, x30, x31⟩, ⟨y28, y30, y31⟩, h32⟩ := hC
  obtain ⟨⟨t0, hgn⟩, ⟨t1, t2, t3, t4, t5, t6, t7, t8, t9, t10⟩, ⟨r1, r2, r3, r4, r5, r6, r7, r8, r9, r10⟩⟩ := hg
  rcases lp with _ | p
  all_goals
    show Go O (d + 2 + 1) MX2_told 0 [some (.ref g), some (va_rf _), some (.int (nI kd)), some (.int (nI k))] [] _ _
    first | refine g_aload_n dX2_told_0 rfl ?_ | refine g_aload_nN dX2_told_0 rfl ?_
    refine g_getR dX2_told_1 fX2_67 (by assumption) rfl (by assumption) (by omega) hn ?_
    first | refine g_aload_n dX2_told_4 rfl ?_ | refine g_aload_nN dX2_told_4 rfl ?_
    refine g_iload_n dX2_told_5 rfl ?_
    first | refine g_aload_n dX2_told_6 rfl ?_ | refine g_aload_nN dX2_told_6 rfl ?_
    refine g_iload_n dX2_told_7 rfl ?_
    refine g_virt (Z := MX2_hasDead) dX2_told_8 mX2_77.1 mX2_77.2 (Nat.le_of_ble_eq_true rfl) rfl rfl (Nat.le_of_ble_eq_true rfl) (Nat.le_of_ble_eq_true rfl) (by assumption) rfl rfl (by omega) hn (c1) ?_
    rintro _ _ ⟨rfl, rfl⟩
    try dsimp only [Option.toList, List.cons_append, List.nil_append]
    rw [inR_nI hk (by omega)]
    refine g_if_eq (t := 23) dX2_told_11 (by decide) (fun z => by exfalso; first | omega | exact absurd rfl z | exact absurd z (by decide) | exact z (by decide) | exact absurd z (by assumption) | exact absurd (by assumption) z) (fun z => ?_)
    first | refine g_aload_n dX2_told_14 rfl ?_ | refine g_aload_nN dX2_told_14 rfl ?_
    refine g_getR dX2_told_15 fX2_21 (by assumption) rfl (by assumption) (by omega) hn ?_
    refine g_iload_n dX2_told_18 rfl ?_
    refine g_iald dX2_told_19 (by assumption) rfl (by omega) (by omega) (by omega) hn ?_
    refine g_goto (t := 24) dX2_told_20 (by decide) ?_
    refine g_virt (Z := MX0_askOfDead) dX2_told_24 mX2_114.1 mX2_114.2 (Nat.le_of_ble_eq_true rfl) rfl rfl (Nat.le_of_ble_eq_true rfl) (Nat.le_of_ble_eq_true rfl) (by assumption) rfl rfl (by omega) hn (c2) ?_
    rintro _ _ ⟨rfl, b, rfl⟩
    try dsimp only [Option.toList, List.cons_append, List.nil_append]
    first | refine g_aload_n dX2_told_27 rfl ?_ | refine g_aload_nN dX2_told_27 rfl ?_
    refine g_getR dX2_told_28 fX2_67 (by assumption) rfl (by assumption) (by omega) hn ?_
    first | refine g_aload_n dX2_told_31 rfl ?_ | refine g_aload_nN dX2_told_31 rfl ?_
    refine g_iload_n dX2_told_32 rfl ?_
    refine g_virt (Z := MX0_told) dX2_told_33 mX2_120.1 mX2_120.2 (Nat.le_of_ble_eq_true rfl) rfl rfl (Nat.le_of_ble_eq_true rfl) (Nat.le_of_ble_eq_true rfl) (by assumption) rfl rfl (by omega) hn (c3 _ SxC_up wX_up) ?_
    rintro _ _ ⟨rfl, I', rfl, hI, -⟩
    try dsimp only [Option.toList, List.cons_append, List.nil_append]
    exact g_ireturn dX2_told_36 rfl (by first | rfl | decide) ⟨rfl, I', rfl, hI⟩
theorem c_earned {f : Int32} (hO : O = mOl L xs) (hG : GrN n T I R g V F D N) (hl : LwV n T I R (lpF I R g N)) (hn : n ≤ oB) : Rn O (d + 3) MX2_earned [.ref g, .int f] (hp u n T I J R) (fun r K' => r = some (.int (tdL I (lpF I R g N) (wX (afL I g F f)) 2)) ∧ ∃ I', K' = hp u n T I' J R ∧ SxC I I') := by
  have hG0 := hG
  obtain ⟨hC, hg, h31, r0, hV, h5, hF, h4, hD, h8, hN, h6⟩ := hG
  have c2 := c_askF (O := O) (d := d + 1) (u := u) (J := J) (f := f) hG0 hn
  have c4 := fun (I1 : Nat → Nat → Int32) h1 => c_inF (O := O) (d := d) (u := u) (J := J) (I1 := I1) hG0 hn h1
  have c3 := fun (I1 : Nat → Nat → Int32) h1 h2 => c_toldX (O := O) (d := d) (u := u) (J := J) (kd := 2) (X := wX (afL I g F f)) (I1 := I1) hO hC hl hn (by decide) h1 h2
  obtain ⟨⟨x28, x29, x30, x31⟩, ⟨y28, y30, y31⟩, h32⟩ := hC
  obtain ⟨⟨t0, hgn⟩, ⟨t1, t2, t3, t4, t5, t6, t7, t8, t9, t10⟩, ⟨r1, r2, r3, r4, r5, r6, r7, r8, r9, r10⟩⟩ := hg
  generalize lpF I R g N = lp at c3 c4 ⊢
  show Go O (d + 2 + 1) MX2_earned 0 [some (.ref g), some (.int f)] [] _ _
  first | refine g_aload_n dX2_earned_0 rfl ?_ | refine g_aload_nN dX2_earned_0 rfl ?_
  refine g_getR dX2_earned_1 fX2_67 (by assumption) rfl (by assumption) (by omega) hn ?_
  first | refine g_aload_n dX2_earned_4 rfl ?_ | refine g_aload_nN dX2_earned_4 rfl ?_
  refine g_iload_n dX2_earned_5 rfl ?_
  refine g_virt (Z := MX0_askOfFamily) dX2_earned_6 mX2_127.1 mX2_127.2 (Nat.le_of_ble_eq_true rfl) rfl rfl (Nat.le_of_ble_eq_true rfl) (Nat.le_of_ble_eq_true rfl) (by assumption) rfl rfl (by omega) hn (c2) ?_
  rintro _ _ ⟨rfl, b, rfl⟩
  try dsimp only [Option.toList, List.cons_append, List.nil_append]
  first | refine g_aload_n dX2_earned_9 rfl ?_ | refine g_aload_nN dX2_earned_9 rfl ?_
  refine g_getR dX2_earned_10 fX2_67 (by assumption) rfl (by assumption) (by omega) hn ?_
  first | refine g_aload_n dX2_earned_13 rfl ?_ | refine g_aload_nN dX2_earned_13 rfl ?_
  refine g_virt (Z := MX2_inForce) dX2_earned_14 mX2_106.1 mX2_106.2 (Nat.le_of_ble_eq_true rfl) rfl rfl (Nat.le_of_ble_eq_true rfl) (Nat.le_of_ble_eq_true rfl) (by assumption) rfl rfl (by omega) hn (c4 _ SxC_up) ?_
  rintro _ _ ⟨rfl, rfl⟩
  try dsimp only [Option.toList, List.cons_append, List.nil_append]
  rcases lp with _ | p
  all_goals
    refine g_iconst (v := nI 2) dX2_earned_17 (by decide) ?_
    refine g_virt (Z := MX0_told) dX2_earned_18 mX2_120.1 mX2_120.2 (Nat.le_of_ble_eq_true rfl) rfl rfl (Nat.le_of_ble_eq_true rfl) (Nat.le_of_ble_eq_true rfl) (by assumption) rfl rfl (by omega) hn (c3 _ SxC_up wX_up) ?_
    rintro _ _ ⟨rfl, I', rfl, hI, -⟩
    try dsimp only [Option.toList, List.cons_append, List.nil_append]
    exact g_ireturn dX2_earned_21 rfl (by first | rfl | decide) ⟨rfl, I', rfl, hI⟩
theorem c_isBarred {k : Nat} {v : Int32} (hG : GrN n T I R g V F D N) (hl : LwV n T I R (lpF I R g N)) (hn : n ≤ oB) (hk : k < D) : Rn O (d + 3) MX2_isBarred [.ref g, .int (nI k), .int v] (hp u n T I J R) (fun r K' => r = some (.int (bI (brL I (lpF I R g N) (wX (adF I g V D k F v))))) ∧ ∃ I', K' = hp u n T I' J R ∧ SxC I I') := by
  have hG0 := hG
  obtain ⟨hC, hg, h31, r0, hV, h5, hF, h4, hD, h8, hN, h6⟩ := hG
  have c2 := c_askD (O := O) (d := d) (u := u) (J := J) (k := k) (v := v) hG0 hn hk
  have c4 := fun (I1 : Nat → Nat → Int32) h1 => c_inF (O := O) (d := d) (u := u) (J := J) (I1 := I1) hG0 hn h1
  have c3 := fun (I1 : Nat → Nat → Int32) h1 h2 => c_barsX (O := O) (d := d) (u := u) (J := J) (X := wX (adF I g V D k F v)) (I1 := I1) hC hl hn h1 h2
  obtain ⟨⟨x28, x29, x30, x31⟩, ⟨y28, y30, y31⟩, h32⟩ := hC
  obtain ⟨⟨t0, hgn⟩, ⟨t1, t2, t3, t4, t5, t6, t7, t8, t9, t10⟩, ⟨r1, r2, r3, r4, r5, r6, r7, r8, r9, r10⟩⟩ := hg
  generalize lpF I R g N = lp at c3 c4 ⊢
  show Go O (d + 2 + 1) MX2_isBarred 0 [some (.ref g), some (.int (nI k)), some (.int v)] [] _ _
  first | refine g_aload_n dX2_isBarred_0 rfl ?_ | refine g_aload_nN dX2_isBarred_0 rfl ?_
  refine g_getR dX2_isBarred_1 fX2_67 (by assumption) rfl (by assumption) (by omega) hn ?_
  first | refine g_aload_n dX2_isBarred_4 rfl ?_ | refine g_aload_nN dX2_isBarred_4 rfl ?_
  refine g_iload_n dX2_isBarred_5 rfl ?_
  refine g_iload_n dX2_isBarred_6 rfl ?_
  refine g_virt (Z := MX0_askOfDead) dX2_isBarred_7 mX2_114.1 mX2_114.2 (Nat.le_of_ble_eq_true rfl) rfl rfl (Nat.le_of_ble_eq_true rfl) (Nat.le_of_ble_eq_true rfl) (by assumption) rfl rfl (by omega) hn (c2) ?_
  rintro _ _ ⟨rfl, b, rfl⟩
  try dsimp only [Option.toList, List.cons_append, List.nil_append]
  first | refine g_aload_n dX2_isBarred_10 rfl ?_ | refine g_aload_nN dX2_isBarred_10 rfl ?_
  refine g_getR dX2_isBarred_11 fX2_67 (by assumption) rfl (by assumption) (by omega) hn ?_
  first | refine g_aload_n dX2_isBarred_14 rfl ?_ | refine g_aload_nN dX2_isBarred_14 rfl ?_
  refine g_virt (Z := MX2_inForce) dX2_isBarred_15 mX2_106.1 mX2_106.2 (Nat.le_of_ble_eq_true rfl) rfl rfl (Nat.le_of_ble_eq_true rfl) (Nat.le_of_ble_eq_true rfl) (by assumption) rfl rfl (by omega) hn (c4 _ SxC_up) ?_
  rintro _ _ ⟨rfl, rfl⟩
  try dsimp only [Option.toList, List.cons_append, List.nil_append]
  rcases lp with _ | p
  all_goals
    refine g_virt (Z := MX0_bars) dX2_isBarred_18 mX2_131.1 mX2_131.2 (Nat.le_of_ble_eq_true rfl) rfl rfl (Nat.le_of_ble_eq_true rfl) (Nat.le_of_ble_eq_true rfl) (by assumption) rfl rfl (by omega) hn (c3 _ SxC_up wX_up) ?_
    rintro _ _ ⟨rfl, I', rfl, hI⟩
    try dsimp only [Option.toList, List.cons_append, List.nil_append]
    exact g_ireturn dX2_isBarred_21 rfl (bI_nar _) ⟨rfl, I', rfl, hI⟩
/-- words in so many years -/
def mvL (l : List Int32) (y : Int32) : List Int32 := (l.set 6 (l.getD 6 0 - y)).set 8 (l.getD 8 0 + y)
theorem c_moveX {b : Nat → Int32} {l : List Int32} {y : Int32} (hC : IsC n T R) (hn : n ≤ oB) (hl : l.length = 9) : Rn O d MX0_moveOn [.ref 30, .int y] (hp u n T (up1 I 31 (wr9 b l)) J R) (fun r K' => r = none ∧ K' = hp u n T (up1 I 31 (wr9 b (mvL l y))) J R) := by
  refine Rn.mono (c_moveOn (d := d) (IsC_Q (g := 32) hC (by decide)) hn) (Nat.le_refl _) ?_
  rintro r K' ⟨e1, e2⟩
  refine ⟨e1, ?_⟩
  rw [e2, wr_set (by decide) hl, wr_set (by decide) (by rw [List.length_set, hl])]
  have g6 : up1 I 31 (wr9 b l) 31 6 = l.getD 6 0 := by
    rw [up1_at]
    exact if_pos (by decide)
  have g8 : up1 I 31 (wr9 b l) 31 8 = l.getD 8 0 := by
    rw [up1_at]
    exact if_pos (by decide)
  rw [g6, g8]
  rfl
theorem mvL_len {l : List Int32} {y : Int32} (hl : l.length = 9) : (mvL l y).length = 9 := by
  unfold mvL
  rw [List.length_set, List.length_set, hl]
theorem c_pricedAfter {k : Nat} {y : Int32} (hO : O = mOl L xs) (hG : GrN n T I R g V F D N) (hl : LwV n T I R (lpF I R g N)) (hn : n ≤ oB) (hk : k < D) : Rn O (d + 3) MX2_pricedAfter [.ref g, .int (nI k), .int y] (hp u n T I J R) (fun r K' => r = some (.int (tdL I (lpF I R g N) (wX (mvL (adF I g V D k F (I (g + 4) k)) y)) 0)) ∧ ∃ I', K' = hp u n T I' J R ∧ SxC I I') := by
  have hG0 := hG
  obtain ⟨hC, hg, h31, r0, hV, h5, hF, h4, hD, h8, hN, h6⟩ := hG
  have hC0 := hC
  have c1 := c_hasDead (O := O) (d := d + 2) (u := u) (J := J) (v := nI k) hg hn hD
  have c2 := c_askD (O := O) (d := d) (u := u) (J := J) (k := k) (v := I (g + 4) k) hG0 hn hk
  have c4 := fun (I1 : Nat → Nat → Int32) h1 => c_inF (O := O) (d := d) (u := u) (J := J) (I1 := I1) hG0 hn h1
  have c3 := fun (I1 : Nat → Nat → Int32) h1 h2 => c_toldX (O := O) (d := d) (u := u) (J := J) (kd := 0) (X := wX (mvL (adF I g V D k F (I (g + 4) k)) y)) (I1 := I1) hO hC hl hn (by decide) h1 h2
  obtain ⟨⟨x28, x29, x30, x31⟩, ⟨y28, y30, y31⟩, h32⟩ := hC
  obtain ⟨⟨t0, hgn⟩, ⟨t1, t2, t3, t4, t5, t6, t7, t8, t9, t10⟩, ⟨r1, r2, r3, r4, r5, r6, r7, r8, r9, r10⟩⟩ := hg
  generalize lpF I R g N = lp at c3 c4 ⊢
  show Go O (d + 2 + 1) MX2_pricedAfter 0 [some (.ref g), some (.int (nI k)), some (.int y)] [] _ _
  first | refine g_aload_n dX2_pricedAfter_0 rfl ?_ | refine g_aload_nN dX2_pricedAfter_0 rfl ?_
  refine g_getR dX2_pricedAfter_1 fX2_67 (by assumption) rfl (by assumption) (by omega) hn ?_
  first | refine g_aload_n dX2_pricedAfter_4 rfl ?_ | refine g_aload_nN dX2_pricedAfter_4 rfl ?_
  refine g_iload_n dX2_pricedAfter_5 rfl ?_
  first | refine g_aload_n dX2_pricedAfter_6 rfl ?_ | refine g_aload_nN dX2_pricedAfter_6 rfl ?_
  refine g_iload_n dX2_pricedAfter_7 rfl ?_
  refine g_virt (Z := MX2_hasDead) dX2_pricedAfter_8 mX2_77.1 mX2_77.2 (Nat.le_of_ble_eq_true rfl) rfl rfl (Nat.le_of_ble_eq_true rfl) (Nat.le_of_ble_eq_true rfl) (by assumption) rfl rfl (by omega) hn (c1) ?_
  rintro _ _ ⟨rfl, rfl⟩
  try dsimp only [Option.toList, List.cons_append, List.nil_append]
  rw [inR_nI hk (by omega)]
  refine g_if_eq (t := 23) dX2_pricedAfter_11 (by decide) (fun z => by exfalso; first | omega | exact absurd rfl z | exact absurd z (by decide) | exact z (by decide) | exact absurd z (by assumption) | exact absurd (by assumption) z) (fun z => ?_)
  first | refine g_aload_n dX2_pricedAfter_14 rfl ?_ | refine g_aload_nN dX2_pricedAfter_14 rfl ?_
  refine g_getR dX2_pricedAfter_15 fX2_21 (by assumption) rfl (by assumption) (by omega) hn ?_
  refine g_iload_n dX2_pricedAfter_18 rfl ?_
  refine g_iald dX2_pricedAfter_19 (by assumption) rfl (by omega) (by omega) (by omega) hn ?_
  refine g_goto (t := 24) dX2_pricedAfter_20 (by decide) ?_
  refine g_virt (Z := MX0_askOfDead) dX2_pricedAfter_24 mX2_114.1 mX2_114.2 (Nat.le_of_ble_eq_true rfl) rfl rfl (Nat.le_of_ble_eq_true rfl) (Nat.le_of_ble_eq_true rfl) (by assumption) rfl rfl (by omega) hn (c2) ?_
  rintro _ _ ⟨rfl, b, rfl⟩
  try dsimp only [Option.toList, List.cons_append, List.nil_append]
  first | refine g_aload_n dX2_pricedAfter_27 rfl ?_ | refine g_aload_nN dX2_pricedAfter_27 rfl ?_
  refine g_getR dX2_pricedAfter_28 fX2_67 (by assumption) rfl (by assumption) (by omega) hn ?_
  refine g_iload_n dX2_pricedAfter_31 rfl ?_
  refine g_virt (Z := MX0_moveOn) dX2_pricedAfter_32 mX2_123.1 mX2_123.2 (Nat.le_of_ble_eq_true rfl) rfl rfl (Nat.le_of_ble_eq_true rfl) (Nat.le_of_ble_eq_true rfl) (by assumption) rfl rfl (by omega) hn (c_moveX (d := d + 2) hC0 hn (adF_len _ _ _ _ _ _ _)) ?_
  rintro _ _ ⟨rfl, rfl⟩
  try dsimp only [Option.toList, List.cons_append, List.nil_append]
  first | refine g_aload_n dX2_pricedAfter_35 rfl ?_ | refine g_aload_nN dX2_pricedAfter_35 rfl ?_
  refine g_getR dX2_pricedAfter_36 fX2_67 (by assumption) rfl (by assumption) (by omega) hn ?_
  first | refine g_aload_n dX2_pricedAfter_39 rfl ?_ | refine g_aload_nN dX2_pricedAfter_39 rfl ?_
  refine g_virt (Z := MX2_inForce) dX2_pricedAfter_40 mX2_106.1 mX2_106.2 (Nat.le_of_ble_eq_true rfl) rfl rfl (Nat.le_of_ble_eq_true rfl) (Nat.le_of_ble_eq_true rfl) (by assumption) rfl rfl (by omega) hn (c4 _ SxC_up) ?_
  rintro _ _ ⟨rfl, rfl⟩
  try dsimp only [Option.toList, List.cons_append, List.nil_append]
  rcases lp with _ | p
  all_goals
    refine g_iconst (v := nI 0) dX2_pricedAfter_43 (by decide) ?_
    refine g_virt (Z := MX0_told) dX2_pricedAfter_44 mX2_120.1 mX2_120.2 (Nat.le_of_ble_eq_true rfl) rfl rfl (Nat.le_of_ble_eq_true rfl) (Nat.le_of_ble_eq_true rfl) (by assumption) rfl rfl (by omega) hn (c3 _ SxC_up wX_up) ?_
    rintro _ _ ⟨rfl, I', rfl, hI, -⟩
    try dsimp only [Option.toList, List.cons_append, List.nil_append]
    exact g_ireturn dX2_pricedAfter_47 rfl (by first | rfl | decide) ⟨rfl, I', rfl, hI⟩
end ASK
