/-! the reference's sums and tests -/
def rjv (o : Nat) (a b : Int64) : Int64 := match o with
  | 20 => a + b
  | 21 => a - b
  | 22 => a * b
  | 23 => if b = 0 then 0 else a / b
  | 24 => if b = 0 then 0 else a - a / b * b
  | 25 => if a < b then 1 else 0
  | 26 => if b < a then 1 else 0
  | _ => if a = b then 1 else 0
def rjb (o : Nat) (b : Int64) : Bool := (decide (o = 23) || decide (o = 24)) && decide (b = 0)
/-- none: BROKEN -/
def rj (o : Nat) (a b : Int64) : Option Int64 := if rjb o b = true ∨ ¬ (-1000000000 ≤ rjv o a b ∧ rjv o a b ≤ 1000000000) then none else some (rjv o a b)
theorem up2_up2 {α : Type} (F : Nat → Nat → α) (a k : Nat) (x y : α) : up2 (up2 F a k x) a k y = up2 F a k y := by
  funext b j
  unfold up2
  split <;> rfl
theorem up1_up1 {α : Type} (F : Nat → Nat → α) (a : Nat) (f g : Nat → α) : up1 (up1 F a f) a g = up1 F a g := by
  funext b
  unfold up1
  split <;> rfl
theorem up2_up1 {α : Type} (F : Nat → Nat → α) (a k : Nat) (f : Nat → α) (x : α) : up2 (up1 F a f) a k x = up1 F a (upK f k x) := by
  funext b j
  unfold up2 up1 upK
  by_cases h : b = a
  · rw [if_pos h, if_pos h]
    by_cases h2 : j = k
    · rw [if_pos ⟨h, h2⟩, if_pos h2]
    · rw [if_neg (fun z => h2 z.2), if_neg h2]
  · rw [if_neg (fun z => h z.1), if_neg h, if_neg h]
/-- the reference's steps from k on: none: it can't go on; some none: BROKEN -/
def rk (oc ac : Nat → Nat) (lf : Nat → Nat → Int64) (last : Nat) : Nat → Nat → Nat → (Nat → Int64) → Option (Option Int64)
  | 0, _, _, _ => none
  | G + 1, k, m, X =>
    if last ≤ k then some (some (if m = 0 then 0 else X 0))
    else if oc k < 20 then (if m < 400 then rk oc ac lf last G (k + 1) (m + 1) (upK X m (lf (oc k) (ac k))) else none)
    else if oc k < 28 then (if m < 2 then none else match rj (oc k) (X (m - 2)) (X (m - 1)) with
      | none => some none
      | some v => rk oc ac lf last G (k + 1) (m - 1) (upK X (m - 2) v))
    else if oc k = 28 then (if m = 0 then none else rk oc ac lf last G (k + 1) m (upK X (m - 1) (1 - X (m - 1))))
    else if m = 0 then none else if X (m - 1) = (if oc k = 29 then 0 else 1) then rk oc ac lf last G (ac k) m X else rk oc ac lf last G (k + 1) (m - 1) X
/-- a leaf: of a law (by the words S), of orders (by the words Y and the row) -/
def lfF (md : Bool) (S Y : Nat → Int64) (w : Nat → Int32) (D F o a : Nat) : Int64 := if o = 0 then (nI a).toInt64 else if md = false then S o else if o < 5 then Y o else if o = 5 then (if a < D then (w (17 + a)).toInt64 else -1) else if a < F then (w (33 + a)).toInt64 else -1
/-- what reckonAll finds -/
def RkH (I : Nat → Nat → Int32) (q : Nat) (md : Bool) (lb last D F : Nat) (oc ac : Nat → Nat) : Prop :=
  I q 20 = bI md ∧ (md = false → I q 34 = nI lb) ∧ lb + 900 ≤ 5510 ∧ last ≤ 400 ∧ I (q + 2) 2 = nI D ∧ D ≤ 8 ∧ I (q + 2) 1 = nI F ∧ F ≤ 4 ∧
  (∀ k, k < last → oc k ≤ 30 ∧ ac k ≤ 1000 ∧ (oc k < 20 → oc k ≤ (if md = true then 6 else 12)) ∧ (md = false → I (q + 2) (lb + 98 + 2 * k) = nI (oc k) ∧ I (q + 2) (lb + 98 + 2 * k + 1) = nI (ac k)) ∧ (md = true → I (q + 11) k = nI (oc k) ∧ I (q + 12) k = nI (ac k)))
section REC
variable {O : mO} {d u n : Nat} {T : Nat → mT} {I : Nat → Nat → Int32} {J : Nat → Nat → Int64} {R : Nat → Nat → Option Nat} {q lb last D F : Nat} {md : Bool} {oc ac : Nat → Nat} {P : Option Value → mH → Prop}
theorem k_reckon {o : Nat} {a b : Int64} (hM : IsM n T R q) (hn : n ≤ oB) (h1 : 20 ≤ o) (h2 : o ≤ 27) : Rn O d MX11_reckon [.ref q, .int (nI o), .long a, .long b] (hp u n T (up2 I q 38 (nI 0)) J R) (fun r K' => r = some (.long (rjv o a b)) ∧ K' = hp u n T (up2 I q 38 (bI (rjb o b))) J R) := by
  obtain ⟨⟨t0, hg⟩, -, -⟩ := hM
  show Go O d MX11_reckon 0 [some (.ref q), some (.int (nI o)), some (.long a), none, some (.long b), none] [] _ _
  refine g_iload_n dX11_reckon_0 rfl ?_
  match o, h1, h2 with
  | 20, _, _ =>
    refine g_tsI (t := 44) dX11_reckon_1 (by decide) rfl (by decide) ?_
    refine g_lload_n dX11_reckon_44 rfl ?_
    refine g_lload dX11_reckon_45 rfl ?_
    refine g_ladd dX11_reckon_47 ?_
    exact g_lreturn dX11_reckon_48 rfl ⟨rfl, rfl⟩
  | 21, _, _ =>
    refine g_tsI (t := 49) dX11_reckon_1 (by decide) rfl (by decide) ?_
    refine g_lload_n dX11_reckon_49 rfl ?_
    refine g_lload dX11_reckon_50 rfl ?_
    refine g_lsub dX11_reckon_52 ?_
    exact g_lreturn dX11_reckon_53 rfl ⟨rfl, rfl⟩
  | 22, _, _ =>
    refine g_tsI (t := 54) dX11_reckon_1 (by decide) rfl (by decide) ?_
    refine g_lload_n dX11_reckon_54 rfl ?_
    refine g_lload dX11_reckon_55 rfl ?_
    refine g_lmul dX11_reckon_57 ?_
    exact g_lreturn dX11_reckon_58 rfl ⟨rfl, rfl⟩
  | 23, _, _ =>
    refine g_tsI (t := 59) dX11_reckon_1 (by decide) rfl (by decide) ?_
    first | refine g_aload_n dX11_reckon_59 rfl ?_ | refine g_aload_nN dX11_reckon_59 rfl ?_
    refine g_lload dX11_reckon_60 rfl ?_
    refine g_lconst (v := 0) dX11_reckon_62 (by decide) ?_
    refine g_lcmp dX11_reckon_63 ?_
    refine g_if_ne (t := 71) dX11_reckon_64 (by decide) (fun c => ?_) (fun c => ?_)
    · have hb : ¬ b = 0 := fun z => c ((lg_cmp_eq _ _).mpr z)
      refine g_iconst (v := nI 0) dX11_reckon_71 (by decide) ?_
      refine g_putI (c := (RX11, TX11, 56)) dX11_reckon_72 fX11_395 (by assumption) rfl rfl rfl rfl (fun h => absurd h (by decide)) (by omega) hn ?_
      first | refine g_aload_n dX11_reckon_75 rfl ?_ | refine g_aload_nN dX11_reckon_75 rfl ?_
      refine g_getI dX11_reckon_76 fX11_395 (by assumption) rfl (by omega) hn ?_
      rw [up2_up2, up2_at]
      refine g_if_eq (t := 86) dX11_reckon_79 (by decide) (fun z => ?_) (fun z => by exfalso; first | omega | exact absurd rfl z | exact absurd z (by decide) | exact z (by decide) | exact absurd z (by assumption) | exact absurd (by assumption) z)
      refine g_lload_n dX11_reckon_86 rfl ?_
      refine g_lload dX11_reckon_87 rfl ?_
      refine g_ldiv dX11_reckon_89 (by assumption) ?_
      exact g_lreturn dX11_reckon_90 rfl ⟨by show _ = some (Value.long (if b = 0 then 0 else a / b)); rw [if_neg hb], by rw [show rjb 23 b = false from by unfold rjb; rw [decide_eq_false hb]; rfl]; rfl⟩
    · have hb : b = 0 := (lg_cmp_eq _ _).mp c
      refine g_iconst (v := nI 1) dX11_reckon_67 (by decide) ?_
      refine g_goto (t := 72) dX11_reckon_68 (by decide) ?_
      refine g_putI (c := (RX11, TX11, 56)) dX11_reckon_72 fX11_395 (by assumption) rfl rfl rfl rfl (fun h => absurd h (by decide)) (by omega) hn ?_
      first | refine g_aload_n dX11_reckon_75 rfl ?_ | refine g_aload_nN dX11_reckon_75 rfl ?_
      refine g_getI dX11_reckon_76 fX11_395 (by assumption) rfl (by omega) hn ?_
      rw [up2_up2, up2_at]
      refine g_if_eq (t := 86) dX11_reckon_79 (by decide) (fun z => by exfalso; first | omega | exact absurd rfl z | exact absurd z (by decide) | exact z (by decide) | exact absurd z (by assumption) | exact absurd (by assumption) z) (fun z => ?_)
      refine g_lconst (v := 0) dX11_reckon_82 (by decide) ?_
      refine g_goto (t := 90) dX11_reckon_83 (by decide) ?_
      exact g_lreturn dX11_reckon_90 rfl ⟨by show _ = some (Value.long (if b = 0 then 0 else a / b)); rw [if_pos hb], by rw [show rjb 23 b = true from by unfold rjb; rw [decide_eq_true hb]; rfl]; rfl⟩
  | 24, _, _ =>
    refine g_tsI (t := 91) dX11_reckon_1 (by decide) rfl (by decide) ?_
    first | refine g_aload_n dX11_reckon_91 rfl ?_ | refine g_aload_nN dX11_reckon_91 rfl ?_
    refine g_lload dX11_reckon_92 rfl ?_
    refine g_lconst (v := 0) dX11_reckon_94 (by decide) ?_
    refine g_lcmp dX11_reckon_95 ?_
    refine g_if_ne (t := 103) dX11_reckon_96 (by decide) (fun c => ?_) (fun c => ?_)
    · have hb : ¬ b = 0 := fun z => c ((lg_cmp_eq _ _).mpr z)
      refine g_iconst (v := nI 0) dX11_reckon_103 (by decide) ?_
      refine g_putI (c := (RX11, TX11, 56)) dX11_reckon_104 fX11_395 (by assumption) rfl rfl rfl rfl (fun h => absurd h (by decide)) (by omega) hn ?_
      first | refine g_aload_n dX11_reckon_107 rfl ?_ | refine g_aload_nN dX11_reckon_107 rfl ?_
      refine g_getI dX11_reckon_108 fX11_395 (by assumption) rfl (by omega) hn ?_
      rw [up2_up2, up2_at]
      refine g_if_eq (t := 118) dX11_reckon_111 (by decide) (fun z => ?_) (fun z => by exfalso; first | omega | exact absurd rfl z | exact absurd z (by decide) | exact z (by decide) | exact absurd z (by assumption) | exact absurd (by assumption) z)
      refine g_lload_n dX11_reckon_118 rfl ?_
      refine g_lload dX11_reckon_119 rfl ?_
      refine g_lrem dX11_reckon_121 (by assumption) ?_
      exact g_lreturn dX11_reckon_122 rfl ⟨by show _ = some (Value.long (if b = 0 then 0 else a - a / b * b)); rw [if_neg hb], by rw [show rjb 24 b = false from by unfold rjb; rw [decide_eq_false hb]; rfl]; rfl⟩
    · have hb : b = 0 := (lg_cmp_eq _ _).mp c
      refine g_iconst (v := nI 1) dX11_reckon_99 (by decide) ?_
      refine g_goto (t := 104) dX11_reckon_100 (by decide) ?_
      refine g_putI (c := (RX11, TX11, 56)) dX11_reckon_104 fX11_395 (by assumption) rfl rfl rfl rfl (fun h => absurd h (by decide)) (by omega) hn ?_
      first | refine g_aload_n dX11_reckon_107 rfl ?_ | refine g_aload_nN dX11_reckon_107 rfl ?_
      refine g_getI dX11_reckon_108 fX11_395 (by assumption) rfl (by omega) hn ?_
      rw [up2_up2, up2_at]
      refine g_if_eq (t := 118) dX11_reckon_111 (by decide) (fun z => by exfalso; first | omega | exact absurd rfl z | exact absurd z (by decide) | exact z (by decide) | exact absurd z (by assumption) | exact absurd (by assumption) z) (fun z => ?_)
      refine g_lconst (v := 0) dX11_reckon_114 (by decide) ?_
      refine g_goto (t := 122) dX11_reckon_115 (by decide) ?_
      exact g_lreturn dX11_reckon_122 rfl ⟨by show _ = some (Value.long (if b = 0 then 0 else a - a / b * b)); rw [if_pos hb], by rw [show rjb 24 b = true from by unfold rjb; rw [decide_eq_true hb]; rfl]; rfl⟩
  | 25, _, _ =>
    refine g_tsI (t := 123) dX11_reckon_1 (by decide) rfl (by decide) ?_
    refine g_lload_n dX11_reckon_123 rfl ?_
    refine g_lload dX11_reckon_124 rfl ?_
    refine g_lcmp dX11_reckon_126 ?_
    refine g_if_ge (t := 134) dX11_reckon_127 (by decide) (fun c => ?_) (fun c => ?_)
    · refine g_lconst (v := 0) dX11_reckon_134 (by decide) ?_
      exact g_lreturn dX11_reckon_135 rfl ⟨by show _ = some (Value.long (if a < b then 1 else 0)); rw [if_neg (Int64.not_lt.mpr ((lg_cmp_ge _ _).mp c))], rfl⟩
    · refine g_lconst (v := 1) dX11_reckon_130 (by decide) ?_
      refine g_goto (t := 135) dX11_reckon_131 (by decide) ?_
      exact g_lreturn dX11_reckon_135 rfl ⟨by show _ = some (Value.long (if a < b then 1 else 0)); rw [if_pos (Int64.not_le.mp (fun z => c ((lg_cmp_ge _ _).mpr z)))], rfl⟩
  | 26, _, _ =>
    refine g_tsI (t := 136) dX11_reckon_1 (by decide) rfl (by decide) ?_
    refine g_lload_n dX11_reckon_136 rfl ?_
    refine g_lload dX11_reckon_137 rfl ?_
    refine g_lcmp dX11_reckon_139 ?_
    refine g_if_le (t := 147) dX11_reckon_140 (by decide) (fun c => ?_) (fun c => ?_)
    · refine g_lconst (v := 0) dX11_reckon_147 (by decide) ?_
      exact g_lreturn dX11_reckon_148 rfl ⟨by show _ = some (Value.long (if b < a then 1 else 0)); rw [if_neg (Int64.not_lt.mpr ((lg_cmp_le _ _).mp c))], rfl⟩
    · refine g_lconst (v := 1) dX11_reckon_143 (by decide) ?_
      refine g_goto (t := 148) dX11_reckon_144 (by decide) ?_
      exact g_lreturn dX11_reckon_148 rfl ⟨by show _ = some (Value.long (if b < a then 1 else 0)); rw [if_pos (Int64.not_le.mp (fun z => c ((lg_cmp_le _ _).mpr z)))], rfl⟩
  | 27, _, _ =>
    refine g_tsO (t := 149) dX11_reckon_1 (by decide) (by decide) ?_
    refine g_lload_n dX11_reckon_149 rfl ?_
    refine g_lload dX11_reckon_150 rfl ?_
    refine g_lcmp dX11_reckon_152 ?_
    refine g_if_ne (t := 160) dX11_reckon_153 (by decide) (fun c => ?_) (fun c => ?_)
    · refine g_lconst (v := 0) dX11_reckon_160 (by decide) ?_
      exact g_lreturn dX11_reckon_161 rfl ⟨by show _ = some (Value.long (if a = b then 1 else 0)); rw [if_neg (fun z => c ((lg_cmp_eq _ _).mpr z))], rfl⟩
    · refine g_lconst (v := 1) dX11_reckon_156 (by decide) ?_
      refine g_goto (t := 161) dX11_reckon_157 (by decide) ?_
      exact g_lreturn dX11_reckon_161 rfl ⟨by show _ = some (Value.long (if a = b then 1 else 0)); rw [if_pos ((lg_cmp_eq _ _).mp c)], rfl⟩
  | x + 28, _, h => exact absurd h (by omega)
theorem k_rkEnd {m : Nat} {X : Nat → Int64} {l1 l2 l4 l5 l6 : Option Value} {b : Int32} (hM : IsM n T R q) (hn : n ≤ oB) (hm : m ≤ 400) (hP : P none (hp u n T (up2 I q 38 b) (up2 (up1 J (q + 20) X) q 39 (if m = 0 then 0 else X 0)) R)) : Go O d MX11_reckonAll 364 [some (.ref q), l1, l2, some (.int (nI m)), l4, l5, l6] [] (hp u n T (up2 I q 38 b) (up1 J (q + 20) X) R) P := by
  obtain ⟨⟨t0, hg⟩, ⟨t1, t2, t3, t4, t5, t6, t7, t8, t9, t10, t11, t12, t13, t14, t15, t16, t17, t18, t19, t20, -⟩, ⟨r2, r3, r4, r5, r6, r7, r9, r10, r12, r22, r24, r25, r27, r28, r31, r32, r33, r35, r36, r37, -⟩⟩ := hM
  first | refine g_aload_n dX11_reckonAll_364 rfl ?_ | refine g_aload_nN dX11_reckonAll_364 rfl ?_
  refine g_iload_n dX11_reckonAll_365 rfl ?_
  rcases Nat.eq_zero_or_pos m with rfl | h
  · refine g_if_le (t := 378) dX11_reckonAll_366 (by decide) (fun z => ?_) (fun z => by exfalso; first | omega | exact absurd rfl z | exact absurd z (by decide) | exact z (by decide) | exact absurd z (by assumption) | exact absurd (by assumption) z)
    refine g_lconst (v := 0) dX11_reckonAll_378 (by decide) ?_
    refine g_putJ (c := (RX11, TX11, 56)) dX11_reckonAll_379 fX11_409 (by assumption) rfl rfl rfl rfl (fun h => absurd h (by decide)) (by omega) hn ?_
    exact g_return dX11_reckonAll_382 rfl hP
  · refine g_if_le (t := 378) dX11_reckonAll_366 (by decide) (fun z => absurd z (nI_nle h (by omega))) (fun z => ?_)
    first | refine g_aload_n dX11_reckonAll_369 rfl ?_ | refine g_aload_nN dX11_reckonAll_369 rfl ?_
    refine g_getR dX11_reckonAll_370 fX11_105 (by assumption) rfl (by assumption) (by omega) hn ?_
    refine g_iconst (v := nI 0) dX11_reckonAll_373 (by decide) ?_
    refine g_lald dX11_reckonAll_374 (by assumption) rfl (by omega) (by omega) (by omega) hn ?_
    rw [up1_at]
    refine g_goto (t := 379) dX11_reckonAll_375 (by decide) ?_
    refine g_putJ (c := (RX11, TX11, 56)) dX11_reckonAll_379 fX11_409 (by assumption) rfl rfl rfl rfl (fun h => absurd h (by decide)) (by omega) hn ?_
    rw [if_neg (by omega)] at hP
    exact g_return dX11_reckonAll_382 rfl hP
theorem k_rkRun (hM : IsM n T R q) (hn : n ≤ oB) (hH : RkH I q md lb last D F oc ac) : ∀ (G k m : Nat) (X : Nat → Int64) (x : Option Int64) (l1 l5 l6 : Option Value), rk oc ac (lfF md (J (q + 18)) (J (q + 19)) (I (q + 2)) D F) last G k m X = some x → k ≤ 1000 → m ≤ 400 → (∀ X' v, (∀ w, x = some w → v = w) → P none (hp u n T (up2 I q 38 (bI x.isNone)) (up2 (up1 J (q + 20) X') q 39 v) R)) → Go O (d + 2) MX11_reckonAll 10 [some (.ref q), l1, some (.int (nI last)), some (.int (nI m)), some (.int (nI k)), l5, l6] [] (hp u n T (up2 I q 38 (nI 0)) (up1 J (q + 20) X) R) P := by
  have hM0 := hM
  have cD := fun (v : Int32) (I' : Nat → Nat → Int32) (J' : Nat → Nat → Int64) (h : I' (q + 2) 2 = nI D) => k_isDead (O := O) (d := d) (u := u) (I := I') (J := J') (v := v) hM hn h (by have := hH.2.2.2.2.2.1; omega)
  have cF := fun (v : Int32) (I' : Nat → Nat → Int32) (J' : Nat → Nat → Int64) (h : I' (q + 2) 1 = nI F) => k_isFamily (O := O) (d := d) (u := u) (I := I') (J := J') (v := v) hM hn h (by have := hH.2.2.2.2.2.2.2.1; omega)
  obtain ⟨⟨t0, hg⟩, ⟨t1, t2, t3, t4, t5, t6, t7, t8, t9, t10, t11, t12, t13, t14, t15, t16, t17, t18, t19, t20, -⟩, ⟨r2, r3, r4, r5, r6, r7, r9, r10, r12, r22, r24, r25, r27, r28, r31, r32, r33, r35, r36, r37, -⟩⟩ := hM
  obtain ⟨hmd, hlb, hlb2, hlast, hD, h8, hF, h4, hcode⟩ := hH
  have e2 : q + 2 ≠ q := by omega
  have e11 : q + 11 ≠ q := by omega
  have e12 : q + 12 ≠ q := by omega
  have e18 : q + 18 ≠ q + 20 := by omega
  have e19 : q + 19 ≠ q + 20 := by omega
  have n20 : (20 : Nat) ≠ 38 := by decide
  have n34 : (34 : Nat) ≠ 38 := by decide
  intro G
  induction G with
  | zero =>
    intro k m X x l1 l5 l6 hr
    cases hr
  | succ G ih =>
    intro k m X x l1 l5 l6 hr hk hm hP
    unfold rk at hr
    refine g_iload dX11_reckonAll_10 rfl ?_
    refine g_iload_n dX11_reckonAll_12 rfl ?_
    by_cases hkl : last ≤ k
    · rw [if_pos hkl] at hr
      cases hr
      refine g_icN_ge (t := 364) dX11_reckonAll_13 (by decide) (by omega) (by omega) (fun z => ?_) (fun z => by exfalso; first | omega | exact absurd rfl z | exact absurd z (by decide) | exact z (by decide) | exact absurd z (by assumption) | exact absurd (by assumption) z)
      exact k_rkEnd hM0 hn hm (hP X _ (fun w hw => by cases hw; rfl))
    · rw [if_neg hkl] at hr
      obtain ⟨ho, ha, hleaf, hc0, hc1⟩ := hcode k (by omega)
      refine g_icN_ge (t := 364) dX11_reckonAll_13 (by decide) (by omega) (by omega) (fun z => by exfalso; first | omega | exact absurd rfl z | exact absurd z (by decide) | exact z (by decide) | exact absurd z (by assumption) | exact absurd (by assumption) z) (fun z => ?_)
      first | refine g_aload_n dX11_reckonAll_16 rfl ?_ | refine g_aload_nN dX11_reckonAll_16 rfl ?_
      refine g_getI dX11_reckonAll_17 fX11_395 (by assumption) rfl (by omega) hn ?_
      rw [up2_at]
      refine g_if_ne (t := 364) dX11_reckonAll_20 (by decide) (fun z => by exfalso; first | omega | exact absurd rfl z | exact absurd z (by decide) | exact z (by decide) | exact absurd z (by assumption) | exact absurd (by assumption) z) (fun z => ?_)
      have fetch : (∀ l5' l6' : Option Value, l5' = some (.int (nI (oc k))) → l6' = some (.int (nI (ac k))) → Go O (d + 2) MX11_reckonAll 100 [some (.ref q), l1, some (.int (nI last)), some (.int (nI m)), some (.int (nI (k + 1))), l5', l6'] [] (hp u n T (up2 I q 38 (nI 0)) (up1 J (q + 20) X) R) P) → Go O (d + 2) MX11_reckonAll 23 [some (.ref q), l1, some (.int (nI last)), some (.int (nI m)), some (.int (nI k)), l5, l6] [] (hp u n T (up2 I q 38 (nI 0)) (up1 J (q + 20) X) R) P := by
        intro kk
        first | refine g_aload_n dX11_reckonAll_23 rfl ?_ | refine g_aload_nN dX11_reckonAll_23 rfl ?_
        refine g_getI dX11_reckonAll_24 fX11_321 (by assumption) rfl (by omega) hn ?_
        rw [up2_nk n20, hmd]
        cases md with
        | false =>
          have hl := hlb rfl
          obtain ⟨g1, g2⟩ := hc0 rfl
          refine g_if_eq (t := 40) dX11_reckonAll_27 (by decide) (fun z => ?_) (fun z => by exfalso; first | omega | exact absurd rfl z | exact absurd z (by decide) | exact z (by decide) | exact absurd z (by assumption) | exact absurd (by assumption) z)
          first | refine g_aload_n dX11_reckonAll_40 rfl ?_ | refine g_aload_nN dX11_reckonAll_40 rfl ?_
          refine g_getR dX11_reckonAll_41 fX11_13 (by assumption) rfl (by assumption) (by omega) hn ?_
          first | refine g_aload_n dX11_reckonAll_44 rfl ?_ | refine g_aload_nN dX11_reckonAll_44 rfl ?_
          refine g_getI dX11_reckonAll_45 fX11_398 (by assumption) rfl (by omega) hn ?_
          rw [up2_nk n34, hl]
          refine g_bipush (v := nI 98) dX11_reckonAll_48 (by decide) ?_
          first | refine g_iaddN dX11_reckonAll_50 ?_ | refine g_iadd dX11_reckonAll_50 ?_
          refine g_iconst (v := nI 2) dX11_reckonAll_51 (by decide) ?_
          refine g_iload dX11_reckonAll_52 rfl ?_
          first | refine g_imulN dX11_reckonAll_54 ?_ | refine g_imul dX11_reckonAll_54 ?_
          first | refine g_iaddN dX11_reckonAll_55 ?_ | refine g_iadd dX11_reckonAll_55 ?_
          refine g_iald dX11_reckonAll_56 (by assumption) rfl (by omega) (by omega) (by omega) hn ?_
          rw [up2_na e2, g1]
          refine g_istore (ls' := [_, _, _, _, _, some (.int _), _]) dX11_reckonAll_57 (by decide) rfl ?_
          first | refine g_aload_n dX11_reckonAll_59 rfl ?_ | refine g_aload_nN dX11_reckonAll_59 rfl ?_
          refine g_getI dX11_reckonAll_60 fX11_321 (by assumption) rfl (by omega) hn ?_
          rw [up2_nk n20, hmd]
          refine g_if_eq (t := 76) dX11_reckonAll_63 (by decide) (fun z => ?_) (fun z => by exfalso; first | omega | exact absurd rfl z | exact absurd z (by decide) | exact z (by decide) | exact absurd z (by assumption) | exact absurd (by assumption) z)
          first | refine g_aload_n dX11_reckonAll_76 rfl ?_ | refine g_aload_nN dX11_reckonAll_76 rfl ?_
          refine g_getR dX11_reckonAll_77 fX11_13 (by assumption) rfl (by assumption) (by omega) hn ?_
          first | refine g_aload_n dX11_reckonAll_80 rfl ?_ | refine g_aload_nN dX11_reckonAll_80 rfl ?_
          refine g_getI dX11_reckonAll_81 fX11_398 (by assumption) rfl (by omega) hn ?_
          rw [up2_nk n34, hl]
          refine g_bipush (v := nI 98) dX11_reckonAll_84 (by decide) ?_
          first | refine g_iaddN dX11_reckonAll_86 ?_ | refine g_iadd dX11_reckonAll_86 ?_
          refine g_iconst (v := nI 2) dX11_reckonAll_87 (by decide) ?_
          refine g_iload dX11_reckonAll_88 rfl ?_
          first | refine g_imulN dX11_reckonAll_90 ?_ | refine g_imul dX11_reckonAll_90 ?_
          first | refine g_iaddN dX11_reckonAll_91 ?_ | refine g_iadd dX11_reckonAll_91 ?_
          refine g_iconst (v := nI 1) dX11_reckonAll_92 (by decide) ?_
          first | refine g_iaddN dX11_reckonAll_93 ?_ | refine g_iadd dX11_reckonAll_93 ?_
          refine g_iald dX11_reckonAll_94 (by assumption) rfl (by omega) (by omega) (by omega) hn ?_
          rw [up2_na e2, g2]
          refine g_istore (ls' := [_, _, _, _, _, _, some (.int _)]) dX11_reckonAll_95 (by decide) rfl ?_
          refine g_iincN (c := 1) (ls' := [_, _, _, _, some (.int _), _, _]) dX11_reckonAll_97 rfl (by decide) rfl rfl ?_
          exact kk _ _ rfl rfl
        | true =>
          obtain ⟨g1, g2⟩ := hc1 rfl
          refine g_if_eq (t := 40) dX11_reckonAll_27 (by decide) (fun z => by exfalso; first | omega | exact absurd rfl z | exact absurd z (by decide) | exact z (by decide) | exact absurd z (by assumption) | exact absurd (by assumption) z) (fun z => ?_)
          first | refine g_aload_n dX11_reckonAll_30 rfl ?_ | refine g_aload_nN dX11_reckonAll_30 rfl ?_
          refine g_getR dX11_reckonAll_31 fX11_45 (by assumption) rfl (by assumption) (by omega) hn ?_
          refine g_iload dX11_reckonAll_34 rfl ?_
          refine g_iald dX11_reckonAll_36 (by assumption) rfl (by omega) (by omega) (by omega) hn ?_
          rw [up2_na e11, g1]
          refine g_goto (t := 57) dX11_reckonAll_37 (by decide) ?_
          refine g_istore (ls' := [_, _, _, _, _, some (.int _), _]) dX11_reckonAll_57 (by decide) rfl ?_
          first | refine g_aload_n dX11_reckonAll_59 rfl ?_ | refine g_aload_nN dX11_reckonAll_59 rfl ?_
          refine g_getI dX11_reckonAll_60 fX11_321 (by assumption) rfl (by omega) hn ?_
          rw [up2_nk n20, hmd]
          refine g_if_eq (t := 76) dX11_reckonAll_63 (by decide) (fun z => by exfalso; first | omega | exact absurd rfl z | exact absurd z (by decide) | exact z (by decide) | exact absurd z (by assumption) | exact absurd (by assumption) z) (fun z => ?_)
          first | refine g_aload_n dX11_reckonAll_66 rfl ?_ | refine g_aload_nN dX11_reckonAll_66 rfl ?_
          refine g_getR dX11_reckonAll_67 fX11_48 (by assumption) rfl (by assumption) (by omega) hn ?_
          refine g_iload dX11_reckonAll_70 rfl ?_
          refine g_iald dX11_reckonAll_72 (by assumption) rfl (by omega) (by omega) (by omega) hn ?_
          rw [up2_na e12, g2]
          refine g_goto (t := 95) dX11_reckonAll_73 (by decide) ?_
          refine g_istore (ls' := [_, _, _, _, _, _, some (.int _)]) dX11_reckonAll_95 (by decide) rfl ?_
          refine g_iincN (c := 1) (ls' := [_, _, _, _, some (.int _), _, _]) dX11_reckonAll_97 rfl (by decide) rfl rfl ?_
          exact kk _ _ rfl rfl
      apply fetch
      rintro _ _ rfl rfl
      clear fetch
      refine g_iload dX11_reckonAll_100 rfl ?_
      refine g_bipush (v := nI 20) dX11_reckonAll_102 (by decide) ?_
      by_cases h20 : oc k < 20
      · rw [if_pos h20] at hr
        have hle := hleaf h20
        by_cases hm4 : m < 400
        · rw [if_pos hm4] at hr
          refine g_icN_ge (t := 222) dX11_reckonAll_104 (by decide) (by omega) (by omega) (fun z => by exfalso; first | omega | exact absurd rfl z | exact absurd z (by decide) | exact z (by decide) | exact absurd z (by assumption) | exact absurd (by assumption) z) (fun z => ?_)
          first | refine g_aload_n dX11_reckonAll_107 rfl ?_ | refine g_aload_nN dX11_reckonAll_107 rfl ?_
          refine g_getR dX11_reckonAll_108 fX11_105 (by assumption) rfl (by assumption) (by omega) hn ?_
          refine g_iload_n dX11_reckonAll_111 rfl ?_
          refine g_iload dX11_reckonAll_112 rfl ?_
          have fin : ∀ v, v = lfF md (J (q + 18)) (J (q + 19)) (I (q + 2)) D F (oc k) (ac k) → Go O (d + 2) MX11_reckonAll 215 [some (.ref q), l1, some (.int (nI last)), some (.int (nI m)), some (.int (nI (k + 1))), some (.int (nI (oc k))), some (.int (nI (ac k)))] [.long v, .int (nI m), .ref (q + 20)] (hp u n T (up2 I q 38 (nI 0)) (up1 J (q + 20) X) R) P := by
            intro v hv
            refine g_last dX11_reckonAll_215 (by assumption) rfl (by omega) (by omega) (by omega) hn ?_
            rw [up2_up1, hv]
            refine g_iincN (c := 1) (ls' := [_, _, _, some (.int _), _, _, _]) dX11_reckonAll_216 rfl (by decide) rfl rfl ?_
            refine g_goto (t := 361) dX11_reckonAll_219 (by decide) ?_
            refine g_goto (t := 10) dX11_reckonAll_361 (by decide) ?_
            exact ih (k + 1) (m + 1) _ x _ _ _ hr (by omega) (by omega) hP
          rcases Nat.eq_zero_or_pos (oc k) with h0 | h0
          · rw [h0]
            rw [h0] at fin
            refine g_if_ne (t := 123) dX11_reckonAll_114 (by decide) (fun z => by exfalso; first | omega | exact absurd rfl z | exact absurd z (by decide) | exact z (by decide) | exact absurd z (by assumption) | exact absurd (by assumption) z) (fun z => ?_)
            refine g_iload dX11_reckonAll_117 rfl ?_
            refine g_i2l dX11_reckonAll_119 ?_
            refine g_goto (t := 215) dX11_reckonAll_120 (by decide) ?_
            exact fin _ (by unfold lfF; rw [if_pos rfl])
          · refine g_if_ne (t := 123) dX11_reckonAll_114 (by decide) (fun z => ?_) (fun z => absurd z (nI_ne0 h0 (by omega)))
            first | refine g_aload_n dX11_reckonAll_123 rfl ?_ | refine g_aload_nN dX11_reckonAll_123 rfl ?_
            refine g_getI dX11_reckonAll_124 fX11_321 (by assumption) rfl (by omega) hn ?_
            rw [up2_nk n20, hmd]
            cases md with
            | false =>
              rw [if_neg (by decide)] at hle
              refine g_if_ne (t := 140) dX11_reckonAll_127 (by decide) (fun z => by exfalso; first | omega | exact absurd rfl z | exact absurd z (by decide) | exact z (by decide) | exact absurd z (by assumption) | exact absurd (by assumption) z) (fun z => ?_)
              first | refine g_aload_n dX11_reckonAll_130 rfl ?_ | refine g_aload_nN dX11_reckonAll_130 rfl ?_
              refine g_getR dX11_reckonAll_131 fX11_99 (by assumption) rfl (by assumption) (by omega) hn ?_
              refine g_iload dX11_reckonAll_134 rfl ?_
              refine g_lald dX11_reckonAll_136 (by assumption) rfl (by omega) (by omega) (by omega) hn ?_
              rw [up1_na e18]
              refine g_goto (t := 215) dX11_reckonAll_137 (by decide) ?_
              exact fin _ (by unfold lfF; rw [if_neg (by omega), if_pos rfl])
            | true =>
              rw [if_pos rfl] at hle
              refine g_if_ne (t := 140) dX11_reckonAll_127 (by decide) (fun z => ?_) (fun z => by exfalso; first | omega | exact absurd rfl z | exact absurd z (by decide) | exact z (by decide) | exact absurd z (by assumption) | exact absurd (by assumption) z)
              refine g_iload dX11_reckonAll_140 rfl ?_
              refine g_iconst (v := nI 5) dX11_reckonAll_142 (by decide) ?_
              by_cases h5 : oc k < 5
              · refine g_icN_ge (t := 156) dX11_reckonAll_143 (by decide) (by omega) (by omega) (fun z => by exfalso; first | omega | exact absurd rfl z | exact absurd z (by decide) | exact z (by decide) | exact absurd z (by assumption) | exact absurd (by assumption) z) (fun z => ?_)
                first | refine g_aload_n dX11_reckonAll_146 rfl ?_ | refine g_aload_nN dX11_reckonAll_146 rfl ?_
                refine g_getR dX11_reckonAll_147 fX11_102 (by assumption) rfl (by assumption) (by omega) hn ?_
                refine g_iload dX11_reckonAll_150 rfl ?_
                refine g_lald dX11_reckonAll_152 (by assumption) rfl (by omega) (by omega) (by omega) hn ?_
                rw [up1_na e19]
                refine g_goto (t := 215) dX11_reckonAll_153 (by decide) ?_
                exact fin _ (by unfold lfF; rw [if_neg (by omega), if_neg (by decide), if_pos h5])
              · refine g_icN_ge (t := 156) dX11_reckonAll_143 (by decide) (by omega) (by omega) (fun z => ?_) (fun z => by exfalso; first | omega | exact absurd rfl z | exact absurd z (by decide) | exact z (by decide) | exact absurd z (by assumption) | exact absurd (by assumption) z)
                refine g_iload dX11_reckonAll_156 rfl ?_
                refine g_iconst (v := nI 5) dX11_reckonAll_158 (by decide) ?_
                by_cases h6 : oc k = 5
                · refine g_icN_ne (t := 189) dX11_reckonAll_159 (by decide) (by omega) (by omega) (fun z => by exfalso; first | omega | exact absurd rfl z | exact absurd z (by decide) | exact z (by decide) | exact absurd z (by assumption) | exact absurd (by assumption) z) (fun z => ?_)
                  first | refine g_aload_n dX11_reckonAll_162 rfl ?_ | refine g_aload_nN dX11_reckonAll_162 rfl ?_
                  refine g_iload dX11_reckonAll_163 rfl ?_
                  refine g_virt (Z := MX11_isDead) dX11_reckonAll_165 mX11_214.1 mX11_214.2 (Nat.le_of_ble_eq_true rfl) rfl rfl (Nat.le_of_ble_eq_true rfl) (Nat.le_of_ble_eq_true rfl) (by assumption) rfl rfl (by omega) hn (cD _ _ _ (by rw [up2_na e2]; exact hD)) ?_
                  rintro _ _ ⟨rfl, rfl⟩
                  try dsimp only [Option.toList, List.cons_append, List.nil_append]
                  by_cases hd : ac k < D
                  · rw [inR_nI hd (by omega)]
                    refine g_if_eq (t := 184) dX11_reckonAll_168 (by decide) (fun z => by exfalso; first | omega | exact absurd rfl z | exact absurd z (by decide) | exact z (by decide) | exact absurd z (by assumption) | exact absurd (by assumption) z) (fun z => ?_)
                    first | refine g_aload_n dX11_reckonAll_171 rfl ?_ | refine g_aload_nN dX11_reckonAll_171 rfl ?_
                    refine g_getR dX11_reckonAll_172 fX11_13 (by assumption) rfl (by assumption) (by omega) hn ?_
                    refine g_bipush (v := nI 17) dX11_reckonAll_175 (by decide) ?_
                    refine g_iload dX11_reckonAll_177 rfl ?_
                    first | refine g_iaddN dX11_reckonAll_179 ?_ | refine g_iadd dX11_reckonAll_179 ?_
                    refine g_iald dX11_reckonAll_180 (by assumption) rfl (by omega) (by omega) (by omega) hn ?_
                    rw [up2_na e2]
                    refine g_goto (t := 185) dX11_reckonAll_181 (by decide) ?_
                    refine g_i2l dX11_reckonAll_185 ?_
                    refine g_goto (t := 215) dX11_reckonAll_186 (by decide) ?_
                    exact fin _ (by unfold lfF; rw [if_neg (by omega), if_neg (by decide), if_neg h5, if_pos h6, if_pos hd])
                  · rw [inR_nI' (by omega) (by omega)]
                    refine g_if_eq (t := 184) dX11_reckonAll_168 (by decide) (fun z => ?_) (fun z => by exfalso; first | omega | exact absurd rfl z | exact absurd z (by decide) | exact z (by decide) | exact absurd z (by assumption) | exact absurd (by assumption) z)
                    refine g_iconst (v := -1) dX11_reckonAll_184 (by decide) ?_
                    refine g_i2l dX11_reckonAll_185 ?_
                    refine g_goto (t := 215) dX11_reckonAll_186 (by decide) ?_
                    exact fin _ (by unfold lfF; rw [if_neg (by omega), if_neg (by decide), if_neg h5, if_pos h6, if_neg hd]; rfl)
                · refine g_icN_ne (t := 189) dX11_reckonAll_159 (by decide) (by omega) (by omega) (fun z => ?_) (fun z => by exfalso; first | omega | exact absurd rfl z | exact absurd z (by decide) | exact z (by decide) | exact absurd z (by assumption) | exact absurd (by assumption) z)
                  first | refine g_aload_n dX11_reckonAll_189 rfl ?_ | refine g_aload_nN dX11_reckonAll_189 rfl ?_
                  refine g_iload dX11_reckonAll_190 rfl ?_
                  refine g_virt (Z := MX11_isFamily) dX11_reckonAll_192 mX11_199.1 mX11_199.2 (Nat.le_of_ble_eq_true rfl) rfl rfl (Nat.le_of_ble_eq_true rfl) (Nat.le_of_ble_eq_true rfl) (by assumption) rfl rfl (by omega) hn (cF _ _ _ (by rw [up2_na e2]; exact hF)) ?_
                  rintro _ _ ⟨rfl, rfl⟩
                  try dsimp only [Option.toList, List.cons_append, List.nil_append]
                  by_cases hd : ac k < F
                  · rw [inR_nI hd (by omega)]
                    refine g_if_eq (t := 212) dX11_reckonAll_195 (by decide) (fun z => by exfalso; first | omega | exact absurd rfl z | exact absurd z (by decide) | exact z (by decide) | exact absurd z (by assumption) | exact absurd (by assumption) z) (fun z => ?_)
                    first | refine g_aload_n dX11_reckonAll_198 rfl ?_ | refine g_aload_nN dX11_reckonAll_198 rfl ?_
                    refine g_getR dX11_reckonAll_199 fX11_13 (by assumption) rfl (by assumption) (by omega) hn ?_
                    refine g_bipush (v := nI 33) dX11_reckonAll_202 (by decide) ?_
                    refine g_iload dX11_reckonAll_204 rfl ?_
                    first | refine g_iaddN dX11_reckonAll_206 ?_ | refine g_iadd dX11_reckonAll_206 ?_
                    refine g_iald dX11_reckonAll_207 (by assumption) rfl (by omega) (by omega) (by omega) hn ?_
                    rw [up2_na e2]
                    refine g_i2l dX11_reckonAll_208 ?_
                    refine g_goto (t := 215) dX11_reckonAll_209 (by decide) ?_
                    exact fin _ (by unfold lfF; rw [if_neg (by omega), if_neg (by decide), if_neg h5, if_neg h6, if_pos hd])
                  · rw [inR_nI' (by omega) (by omega)]
                    refine g_if_eq (t := 212) dX11_reckonAll_195 (by decide) (fun z => ?_) (fun z => by exfalso; first | omega | exact absurd rfl z | exact absurd z (by decide) | exact z (by decide) | exact absurd z (by assumption) | exact absurd (by assumption) z)
                    refine g_ldc2 dX11_reckonAll_212 lX11_271 ?_
                    exact fin _ (by unfold lfF; rw [if_neg (by omega), if_neg (by decide), if_neg h5, if_neg h6, if_neg hd])
        · rw [if_neg hm4] at hr
          cases hr
      · rw [if_neg h20] at hr
        refine g_icN_ge (t := 222) dX11_reckonAll_104 (by decide) (by omega) (by omega) (fun z => ?_) (fun z => by exfalso; first | omega | exact absurd rfl z | exact absurd z (by decide) | exact z (by decide) | exact absurd z (by assumption) | exact absurd (by assumption) z)
        refine g_iload dX11_reckonAll_222 rfl ?_
        refine g_bipush (v := nI 28) dX11_reckonAll_224 (by decide) ?_
        by_cases h28 : oc k < 28
        · rw [if_pos h28] at hr
          by_cases hm2 : m < 2
          · rw [if_pos hm2] at hr
            cases hr
          · rw [if_neg hm2] at hr
            refine g_icN_ge (t := 299) dX11_reckonAll_226 (by decide) (by omega) (by omega) (fun z => by exfalso; first | omega | exact absurd rfl z | exact absurd z (by decide) | exact z (by decide) | exact absurd z (by assumption) | exact absurd (by assumption) z) (fun z => ?_)
            first | refine g_iincD (ls' := [_, _, _, some (.int _), _, _, _]) dX11_reckonAll_229 (by decide) rfl (by omega) rfl ?_ | refine g_iinc (ls' := [_, _, _, some (.int _), _, _, _]) dX11_reckonAll_229 (by decide) rfl rfl rfl ?_
            first | refine g_aload_n dX11_reckonAll_232 rfl ?_ | refine g_aload_nN dX11_reckonAll_232 rfl ?_
            refine g_getR dX11_reckonAll_233 fX11_105 (by assumption) rfl (by assumption) (by omega) hn ?_
            refine g_iload_n dX11_reckonAll_236 rfl ?_
            refine g_iconst (v := nI 1) dX11_reckonAll_237 (by decide) ?_
            first | refine g_isubN dX11_reckonAll_238 (by omega) ?_ | refine g_isub dX11_reckonAll_238 ?_
            first | refine g_aload_n dX11_reckonAll_239 rfl ?_ | refine g_aload_nN dX11_reckonAll_239 rfl ?_
            refine g_iload dX11_reckonAll_240 rfl ?_
            first | refine g_aload_n dX11_reckonAll_242 rfl ?_ | refine g_aload_nN dX11_reckonAll_242 rfl ?_
            refine g_getR dX11_reckonAll_243 fX11_105 (by assumption) rfl (by assumption) (by omega) hn ?_
            refine g_iload_n dX11_reckonAll_246 rfl ?_
            refine g_iconst (v := nI 1) dX11_reckonAll_247 (by decide) ?_
            first | refine g_isubN dX11_reckonAll_248 (by omega) ?_ | refine g_isub dX11_reckonAll_248 ?_
            refine g_lald dX11_reckonAll_249 (by assumption) rfl (by omega) (by omega) (by omega) hn ?_
            rw [up1_at]
            rw [show m - 1 - 1 = m - 2 by omega]
            first | refine g_aload_n dX11_reckonAll_250 rfl ?_ | refine g_aload_nN dX11_reckonAll_250 rfl ?_
            refine g_getR dX11_reckonAll_251 fX11_105 (by assumption) rfl (by assumption) (by omega) hn ?_
            refine g_iload_n dX11_reckonAll_254 rfl ?_
            refine g_lald dX11_reckonAll_255 (by assumption) rfl (by omega) (by omega) (by omega) hn ?_
            rw [up1_at]
            refine g_virt (Z := MX11_reckon) dX11_reckonAll_256 mX11_401.1 mX11_401.2 (Nat.le_of_ble_eq_true rfl) rfl rfl (Nat.le_of_ble_eq_true rfl) (Nat.le_of_ble_eq_true rfl) (by assumption) rfl rfl (by omega) hn (k_reckon (d := d + 1) hM0 hn (by omega) (by omega)) ?_
            rintro _ _ ⟨rfl, rfl⟩
            try dsimp only [Option.toList, List.cons_append, List.nil_append]
            refine g_last dX11_reckonAll_259 (by assumption) rfl (by omega) (by omega) (by omega) hn ?_
            rw [up2_up1]
            first | refine g_aload_n dX11_reckonAll_260 rfl ?_ | refine g_aload_nN dX11_reckonAll_260 rfl ?_
            first | refine g_aload_n dX11_reckonAll_261 rfl ?_ | refine g_aload_nN dX11_reckonAll_261 rfl ?_
            refine g_getI dX11_reckonAll_262 fX11_395 (by assumption) rfl (by omega) hn ?_
            rw [up2_at]
            have brk : rj (oc k) (X (m - 2)) (X (m - 1)) = none → Go O (d + 2) MX11_reckonAll 288 [some (.ref q), l1, some (.int (nI last)), some (.int (nI (m - 1))), some (.int (nI (k + 1))), some (.int (nI (oc k))), some (.int (nI (ac k)))] [.ref q] (hp u n T (up2 I q 38 (bI (rjb (oc k) (X (m - 1))))) (up1 J (q + 20) (upK X (m - 2) (rjv (oc k) (X (m - 2)) (X (m - 1))))) R) P := by
              intro hno
              rw [hno] at hr
              cases hr
              refine g_iconst (v := nI 1) dX11_reckonAll_288 (by decide) ?_
              refine g_goto (t := 293) dX11_reckonAll_289 (by decide) ?_
              refine g_putI (c := (RX11, TX11, 56)) dX11_reckonAll_293 fX11_395 (by assumption) rfl rfl rfl rfl (fun h => absurd h (by decide)) (by omega) hn ?_
              rw [up2_up2]
              refine g_goto (t := 361) dX11_reckonAll_296 (by decide) ?_
              refine g_goto (t := 10) dX11_reckonAll_361 (by decide) ?_
              refine g_iload dX11_reckonAll_10 rfl ?_
              refine g_iload_n dX11_reckonAll_12 rfl ?_
              have ex := k_rkEnd (O := O) (d := d + 2) (u := u) (I := I) (J := J) (m := m - 1) (X := upK X (m - 2) (rjv (oc k) (X (m - 2)) (X (m - 1)))) (l1 := l1) (l2 := some (.int (nI last))) (l4 := some (.int (nI (k + 1)))) (l5 := some (.int (nI (oc k)))) (l6 := some (.int (nI (ac k)))) (b := nI 1) (P := P) hM0 hn (by omega) (hP _ _ (fun w hw => by cases hw))
              refine g_icN_ge (t := 364) dX11_reckonAll_13 (by decide) (by omega) (by omega) (fun z => ?_) (fun z => ?_)
              · exact ex
              · first | refine g_aload_n dX11_reckonAll_16 rfl ?_ | refine g_aload_nN dX11_reckonAll_16 rfl ?_
                refine g_getI dX11_reckonAll_17 fX11_395 (by assumption) rfl (by omega) hn ?_
                rw [up2_at]
                refine g_if_ne (t := 364) dX11_reckonAll_20 (by decide) (fun y => ?_) (fun y => by exfalso; first | omega | exact absurd rfl y | exact absurd y (by decide) | exact y (by decide) | exact absurd y (by assumption) | exact absurd (by assumption) y)
                exact ex
            cases hb : rjb (oc k) (X (m - 1)) with
            | true =>
              rw [hb] at brk
              refine g_if_ne (t := 288) dX11_reckonAll_265 (by decide) (fun z => ?_) (fun z => by exfalso; first | omega | exact absurd rfl z | exact absurd z (by decide) | exact z (by decide) | exact absurd z (by assumption) | exact absurd (by assumption) z)
              exact brk (by unfold rj; rw [if_pos (Or.inl hb)])
            | false =>
              rw [hb] at brk
              refine g_if_ne (t := 288) dX11_reckonAll_265 (by decide) (fun z => by exfalso; first | omega | exact absurd rfl z | exact absurd z (by decide) | exact z (by decide) | exact absurd z (by assumption) | exact absurd (by assumption) z) (fun z => ?_)
              first | refine g_aload_n dX11_reckonAll_268 rfl ?_ | refine g_aload_nN dX11_reckonAll_268 rfl ?_
              refine g_getR dX11_reckonAll_269 fX11_105 (by assumption) rfl (by assumption) (by omega) hn ?_
              refine g_iload_n dX11_reckonAll_272 rfl ?_
              refine g_iconst (v := nI 1) dX11_reckonAll_273 (by decide) ?_
              first | refine g_isubN dX11_reckonAll_274 (by omega) ?_ | refine g_isub dX11_reckonAll_274 ?_
              refine g_lald dX11_reckonAll_275 (by assumption) rfl (by omega) (by omega) (by omega) hn ?_
              rw [up1_at, show m - 1 - 1 = m - 2 by omega, upK_at]
              refine g_ldc2 dX11_reckonAll_276 lX11_405 ?_
              refine g_ldc2 dX11_reckonAll_279 lX11_407 ?_
              refine g_stat (Z := MX11_in) dX11_reckonAll_282 mX11_169.1 mX11_169.2 (Nat.le_of_ble_eq_true rfl) rfl rfl (Nat.le_of_ble_eq_true rfl) (Nat.le_of_ble_eq_true rfl) (k_in _ _ _) ?_
              rintro _ _ ⟨rfl, rfl⟩
              try dsimp only [Option.toList, List.cons_append, List.nil_append]
              by_cases hin : (-1000000000 ≤ rjv (oc k) (X (m - 2)) (X (m - 1)) ∧ rjv (oc k) (X (m - 2)) (X (m - 1)) ≤ 1000000000)
              · rw [decide_eq_true hin]
                have hsm : rj (oc k) (X (m - 2)) (X (m - 1)) = some (rjv (oc k) (X (m - 2)) (X (m - 1))) := by
                  unfold rj
                  rw [if_neg (fun h => h.elim (fun h => by rw [hb] at h; cases h) (fun h => h hin))]
                rw [hsm] at hr
                refine g_if_ne (t := 292) dX11_reckonAll_285 (by decide) (fun z => ?_) (fun z => by exfalso; first | omega | exact absurd rfl z | exact absurd z (by decide) | exact z (by decide) | exact absurd z (by assumption) | exact absurd (by assumption) z)
                refine g_iconst (v := nI 0) dX11_reckonAll_292 (by decide) ?_
                refine g_putI (c := (RX11, TX11, 56)) dX11_reckonAll_293 fX11_395 (by assumption) rfl rfl rfl rfl (fun h => absurd h (by decide)) (by omega) hn ?_
                rw [up2_up2]
                refine g_goto (t := 361) dX11_reckonAll_296 (by decide) ?_
                refine g_goto (t := 10) dX11_reckonAll_361 (by decide) ?_
                exact ih (k + 1) (m - 1) _ x _ _ _ hr (by omega) (by omega) hP
              · rw [decide_eq_false hin]
                refine g_if_ne (t := 292) dX11_reckonAll_285 (by decide) (fun z => by exfalso; first | omega | exact absurd rfl z | exact absurd z (by decide) | exact z (by decide) | exact absurd z (by assumption) | exact absurd (by assumption) z) (fun z => ?_)
                exact brk (by unfold rj; rw [if_pos (Or.inr hin)])
        · rw [if_neg h28] at hr
          refine g_icN_ge (t := 299) dX11_reckonAll_226 (by decide) (by omega) (by omega) (fun z => ?_) (fun z => by exfalso; first | omega | exact absurd rfl z | exact absurd z (by decide) | exact z (by decide) | exact absurd z (by assumption) | exact absurd (by assumption) z)
          refine g_iload dX11_reckonAll_299 rfl ?_
          refine g_bipush (v := nI 28) dX11_reckonAll_301 (by decide) ?_
          by_cases hnot : oc k = 28
          · rw [if_pos hnot] at hr
            by_cases hm0 : m = 0
            · rw [if_pos hm0] at hr
              cases hr
            · rw [if_neg hm0] at hr
              refine g_icN_ne (t := 327) dX11_reckonAll_303 (by decide) (by omega) (by omega) (fun z => by exfalso; first | omega | exact absurd rfl z | exact absurd z (by decide) | exact z (by decide) | exact absurd z (by assumption) | exact absurd (by assumption) z) (fun z => ?_)
              first | refine g_aload_n dX11_reckonAll_306 rfl ?_ | refine g_aload_nN dX11_reckonAll_306 rfl ?_
              refine g_getR dX11_reckonAll_307 fX11_105 (by assumption) rfl (by assumption) (by omega) hn ?_
              refine g_iload_n dX11_reckonAll_310 rfl ?_
              refine g_iconst (v := nI 1) dX11_reckonAll_311 (by decide) ?_
              first | refine g_isubN dX11_reckonAll_312 (by omega) ?_ | refine g_isub dX11_reckonAll_312 ?_
              refine g_lconst (v := 1) dX11_reckonAll_313 (by decide) ?_
              first | refine g_aload_n dX11_reckonAll_314 rfl ?_ | refine g_aload_nN dX11_reckonAll_314 rfl ?_
              refine g_getR dX11_reckonAll_315 fX11_105 (by assumption) rfl (by assumption) (by omega) hn ?_
              refine g_iload_n dX11_reckonAll_318 rfl ?_
              refine g_iconst (v := nI 1) dX11_reckonAll_319 (by decide) ?_
              first | refine g_isubN dX11_reckonAll_320 (by omega) ?_ | refine g_isub dX11_reckonAll_320 ?_
              refine g_lald dX11_reckonAll_321 (by assumption) rfl (by omega) (by omega) (by omega) hn ?_
              rw [up1_at]
              refine g_lsub dX11_reckonAll_322 ?_
              refine g_last dX11_reckonAll_323 (by assumption) rfl (by omega) (by omega) (by omega) hn ?_
              rw [up2_up1]
              refine g_goto (t := 361) dX11_reckonAll_324 (by decide) ?_
              refine g_goto (t := 10) dX11_reckonAll_361 (by decide) ?_
              exact ih (k + 1) m _ x _ _ _ hr (by omega) hm hP
          · rw [if_neg hnot] at hr
            by_cases hm0 : m = 0
            · rw [if_pos hm0] at hr
              cases hr
            · rw [if_neg hm0] at hr
              refine g_icN_ne (t := 327) dX11_reckonAll_303 (by decide) (by omega) (by omega) (fun z => ?_) (fun z => by exfalso; first | omega | exact absurd rfl z | exact absurd z (by decide) | exact z (by decide) | exact absurd z (by assumption) | exact absurd (by assumption) z)
              first | refine g_aload_n dX11_reckonAll_327 rfl ?_ | refine g_aload_nN dX11_reckonAll_327 rfl ?_
              refine g_getR dX11_reckonAll_328 fX11_105 (by assumption) rfl (by assumption) (by omega) hn ?_
              refine g_iload_n dX11_reckonAll_331 rfl ?_
              refine g_iconst (v := nI 1) dX11_reckonAll_332 (by decide) ?_
              first | refine g_isubN dX11_reckonAll_333 (by omega) ?_ | refine g_isub dX11_reckonAll_333 ?_
              refine g_lald dX11_reckonAll_334 (by assumption) rfl (by omega) (by omega) (by omega) hn ?_
              rw [up1_at]
              refine g_iload dX11_reckonAll_335 rfl ?_
              refine g_bipush (v := nI 29) dX11_reckonAll_337 (by decide) ?_
              have fin : ∀ w : Int64, w = (if oc k = 29 then 0 else 1) → Go O (d + 2) MX11_reckonAll 347 [some (.ref q), l1, some (.int (nI last)), some (.int (nI m)), some (.int (nI (k + 1))), some (.int (nI (oc k))), some (.int (nI (ac k)))] [.long w, .long (X (m - 1))] (hp u n T (up2 I q 38 (nI 0)) (up1 J (q + 20) X) R) P := by
                intro w hw
                rw [← hw] at hr
                refine g_lcmp dX11_reckonAll_347 ?_
                refine g_if_ne (t := 358) dX11_reckonAll_348 (by decide) (fun c => ?_) (fun c => ?_)
                · rw [if_neg (fun z => c ((lg_cmp_eq _ _).mpr z))] at hr
                  first | refine g_iincD (ls' := [_, _, _, some (.int _), _, _, _]) dX11_reckonAll_358 (by decide) rfl (by omega) rfl ?_ | refine g_iinc (ls' := [_, _, _, some (.int _), _, _, _]) dX11_reckonAll_358 (by decide) rfl rfl rfl ?_
                  refine g_goto (t := 10) dX11_reckonAll_361 (by decide) ?_
                  exact ih (k + 1) (m - 1) _ x _ _ _ hr (by omega) (by omega) hP
                · rw [if_pos ((lg_cmp_eq _ _).mp c)] at hr
                  refine g_iload dX11_reckonAll_351 rfl ?_
                  refine g_istore (ls' := [_, _, _, _, some (.int _), _, _]) dX11_reckonAll_353 (by decide) rfl ?_
                  refine g_goto (t := 361) dX11_reckonAll_355 (by decide) ?_
                  refine g_goto (t := 10) dX11_reckonAll_361 (by decide) ?_
                  exact ih (ac k) m _ x _ _ _ hr (by omega) (by omega) hP
              by_cases h29 : oc k = 29
              · refine g_icN_ne (t := 346) dX11_reckonAll_339 (by decide) (by omega) (by omega) (fun z => by exfalso; first | omega | exact absurd rfl z | exact absurd z (by decide) | exact z (by decide) | exact absurd z (by assumption) | exact absurd (by assumption) z) (fun z => ?_)
                refine g_lconst (v := 0) dX11_reckonAll_342 (by decide) ?_
                refine g_goto (t := 347) dX11_reckonAll_343 (by decide) ?_
                exact fin 0 (by rw [if_pos h29])
              · refine g_icN_ne (t := 346) dX11_reckonAll_339 (by decide) (by omega) (by omega) (fun z => ?_) (fun z => by exfalso; first | omega | exact absurd rfl z | exact absurd z (by decide) | exact z (by decide) | exact absurd z (by assumption) | exact absurd (by assumption) z)
                refine g_lconst (v := 1) dX11_reckonAll_346 (by decide) ?_
                exact fin 1 (by rw [if_neg h29])
/-- what changes in the reference when it asks a law -/
def SxM (q : Nat) (I I' : Nat → Nat → Int32) (J J' : Nat → Nat → Int64) : Prop := (∀ a, a ≠ q → I' a = I a) ∧ (∀ k, k ≠ 34 → k ≠ 38 → I' q k = I q k) ∧ (∀ a, a ≠ q → a ≠ q + 18 → a ≠ q + 20 → J' a = J a) ∧ (∀ k, k ≠ 39 → k ≠ 40 → J' q k = J q k)
theorem SxM.refl (I : Nat → Nat → Int32) (J : Nat → Nat → Int64) : SxM q I I J J := ⟨fun _ _ => rfl, fun _ _ _ => rfl, fun _ _ _ _ => rfl, fun _ _ _ => rfl⟩
theorem SxM.trans {A B C : Nat → Nat → Int32} {A' B' C' : Nat → Nat → Int64} (h : SxM q A B A' B') (k : SxM q B C B' C') : SxM q A C A' C' := ⟨fun a h1 => (k.1 a h1).trans (h.1 a h1), fun j h1 h2 => (k.2.1 j h1 h2).trans (h.2.1 j h1 h2), fun a h1 h2 h3 => (k.2.2.1 a h1 h2 h3).trans (h.2.2.1 a h1 h2 h3), fun j h1 h2 => (k.2.2.2 j h1 h2).trans (h.2.2.2 j h1 h2)⟩
theorem k_reckonAll {first G : Nat} {x : Option Int64} (hM : IsM n T R q) (hn : n ≤ oB) (hH : RkH I q md lb last D F oc ac) (hf : first ≤ 400) (hr : rk oc ac (lfF md (J (q + 18)) (J (q + 19)) (I (q + 2)) D F) last G first 0 (J (q + 20)) = some x) :
    Rn O (d + 2) MX11_reckonAll [.ref q, .int (nI first), .int (nI last)] (hp u n T I J R) (fun r K' => r = none ∧ ∃ X' v, (∀ w, x = some w → v = w) ∧ K' = hp u n T (up2 I q 38 (bI x.isNone)) (up2 (up1 J (q + 20) X') q 39 v) R) := by
  have hM0 := hM
  obtain ⟨⟨t0, hg⟩, -, -⟩ := hM
  show Go O (d + 2) MX11_reckonAll 0 [some (.ref q), some (.int (nI first)), some (.int (nI last)), none, none, none, none] [] _ _
  first | refine g_aload_n dX11_reckonAll_0 rfl ?_ | refine g_aload_nN dX11_reckonAll_0 rfl ?_
  refine g_iconst (v := nI 0) dX11_reckonAll_1 (by decide) ?_
  refine g_putI (c := (RX11, TX11, 56)) dX11_reckonAll_2 fX11_395 (by assumption) rfl rfl rfl rfl (fun h => absurd h (by decide)) (by omega) hn ?_
  refine g_iconst (v := nI 0) dX11_reckonAll_5 (by decide) ?_
  refine g_istore_n (ls' := [_, _, _, some (.int _), _, _, _]) dX11_reckonAll_6 (by decide) rfl ?_
  refine g_iload_n dX11_reckonAll_7 rfl ?_
  refine g_istore (ls' := [_, _, _, _, some (.int _), _, _]) dX11_reckonAll_8 (by decide) rfl ?_
  have e : J = up1 J (q + 20) (J (q + 20)) := by
    funext a
    unfold up1
    split
    · rename_i h
      rw [h]
    · rfl
  have := k_rkRun (O := O) (d := d) (u := u) (P := fun r K' => r = none ∧ ∃ X' v, (∀ w, x = some w → v = w) ∧ K' = hp u n T (up2 I q 38 (bI x.isNone)) (up2 (up1 J (q + 20) X') q 39 v) R) hM0 hn hH G first 0 (J (q + 20)) x (some (.int (nI first))) none none hr (by omega) (by omega) (fun X' v hv => ⟨rfl, X', v, hv, rfl⟩)
  rw [← e] at this
  exact this
end REC
