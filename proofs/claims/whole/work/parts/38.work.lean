/-! working out a part of a clause, step by step -/
theorem g_iincD {O : mO} {d : Nat} {M : mM} {pc : Nat} {ls ls' : List (Option Value)} {st : List Value} {K : mH} {P : Option Value → mH → Prop} {k x : Nat} (hd : decode M.2.1 pc = .ok (.iinc k (-1), 3)) (hk : k < M.2.2.1) (hx : mLd ls k = some (.int (nI x))) (h1 : 1 ≤ x) (hl : mSt1 ls k (.int (nI (x - 1))) = ls') (kk : Go O d M (pc + 3) ls' st K P) : Go O d M pc ls st K P :=
  g_iinc hd hk hx (by
    obtain ⟨y, rfl⟩ : ∃ y, x = y + 1 := ⟨x - 1, by omega⟩
    rw [Nat.add_sub_cancel]
    have e : nI (y + 1) + Int32.ofInt (-1) = nI (y + 1) - 1 := by rw [Int32.sub_eq_add_neg]; rfl
    rw [e]
    exact nI_pred y) hl kk
theorem ndv : ∀ k, k ≤ 12 → (if nI 1 < nI k then (if nI 4 < nI k then nI 2 else nI 1) else nI 0) = nI (if k ≤ 1 then 0 else if k ≤ 4 then 1 else 2) := by decide
/-- Sums stands at s, its stack at k -/
def IsS (n : Nat) (T : Nat → mT) (R : Nat → Nat → Option Nat) (s k : Nat) : Prop := T s = (100 + 8, kd8) ∧ T k = (0, [64]) ∧ R s 0 = some k ∧ s < n ∧ k < n ∧ s ≠ k
def upK {α : Type} (K : Nat → α) (w : Nat) (v : α) : Nat → α := fun j => if j = w then v else K j
theorem upK_at {α : Type} (K : Nat → α) (w : Nat) (v : α) : upK K w v w = v := if_pos rfl
theorem upK_ne {α : Type} {K : Nat → α} {w j : Nat} {v : α} (h : j ≠ w) : upK K w v j = K j := if_neg h
/-- the ints, with the stack K and broken or not -/
def WI (I : Nat → Nat → Int32) (sk s : Nat) (K : Nat → Int32) (b : Int32) : Nat → Nat → Int32 := up2 (up1 I sk K) s 1 b
theorem WI_o {I : Nat → Nat → Int32} {sk s a : Nat} {K : Nat → Int32} {b : Int32} (h1 : a ≠ s) (h2 : a ≠ sk) : WI I sk s K b a = I a := by
  unfold WI
  rw [up2_off _ _ _ h1, up1_na h2]
theorem WI_k {I : Nat → Nat → Int32} {sk s : Nat} {K : Nat → Int32} {b : Int32} (h : s ≠ sk) : WI I sk s K b sk = K := by
  unfold WI
  rw [up2_off _ _ _ (Ne.symm h), up1_at]
theorem WI_b {I : Nat → Nat → Int32} {sk s : Nat} {K : Nat → Int32} {b : Int32} : WI I sk s K b s 1 = b := up2_at _ _ _ _
theorem WI_w {I : Nat → Nat → Int32} {sk s w : Nat} {K : Nat → Int32} {b v : Int32} (h : s ≠ sk) : up2 (WI I sk s K b) sk w v = WI I sk s (upK K w v) b := by
  funext a j
  by_cases h1 : a = sk
  · subst h1
    rw [WI_k h]
    unfold upK
    rw [up2_row, WI_k h]
  · rw [up2_na h1]
    by_cases h2 : a = s
    · subst h2
      unfold WI up2 up1
      split
      · rfl
      · rfl
    · rw [WI_o h2 h1, WI_o h2 h1]
theorem WI_s {I : Nat → Nat → Int32} {sk s : Nat} {K : Nat → Int32} {b x : Int32} : up2 (WI I sk s K b) s 1 x = WI I sk s K x := by
  unfold WI up2
  funext a j
  split
  · rfl
  · rfl
theorem WI_0 {I : Nat → Nat → Int32} {sk s : Nat} {x : Int32} : up2 I s 1 x = WI I sk s (I sk) x := by
  unfold WI
  congr 1
  funext a
  unfold up1
  split
  · rename_i h
    rw [h]
  · rfl
/-- a word, or NONE -/
def wdF (W : Nat → Int32) (lw : Nat) (ab : Int32) : Int32 := if inR ab lw = true then W ab.toNatClampNeg else -1
/-- the steps from i on, m of them: what is told; none: BROKEN -/
def wk (st : Nat → Int32) (X : Int32 → Int32) : Nat → Nat → Int32 → Nat → (Nat → Int32) → Option Int32
  | 0, _, _, w, K => some (if w = 0 then nI 1 else K (w - 1))
  | m + 1, i, nx, w, K =>
    if nI i < nx then wk st X m (i + 1) nx w K
    else if 64 ≤ w then none
    else match (st i &&& nI 15).toNatClampNeg with
      | 0 => wk st X m (i + 1) nx (w + 1) (upK K w (st i >>> (nI 4 &&& 31)))
      | 1 => wk st X m (i + 1) nx (w + 1) (upK K w (X (st i >>> (nI 4 &&& 31))))
      | 2 => if w = 0 then none else wk st X m (i + 1) nx w (upK K (w - 1) (if K (w - 1) = nI 1 then nI 0 else nI 1))
      | 3 => if w = 0 then none else if K (w - 1) = nI 1 then wk st X m (i + 1) (st i >>> (nI 4 &&& 31)) w K else wk st X m (i + 1) nx (w - 1) K
      | 4 => if w = 0 then none else if K (w - 1) = nI 1 then wk st X m (i + 1) nx (w - 1) K else wk st X m (i + 1) (st i >>> (nI 4 &&& 31)) w K
      | k => if w < 2 then none else match jo k (K (w - 2)) (K (w - 1)) with
        | none => none
        | some v => wk st X m (i + 1) nx (w - 1) (upK K (w - 2) v)
section WRK
variable {O : mO} {d u n : Nat} {T : Nat → mT} {I : Nat → Nat → Int32} {J : Nat → Nat → Int64} {R : Nat → Nat → Option Nat} {s sk p ls lc wd lw to : Nat} {c pt fr : Int32} {P : Option Value → mH → Prop}
/-- the head of the loop: at step i, skipping to nx, w waiting -/
def WH (O : mO) (d u n : Nat) (T : Nat → mT) (I : Nat → Nat → Int32) (J : Nat → Nat → Int64) (R : Nat → Nat → Option Nat) (s sk p wd to : Nat) (c pt fr : Int32) (P : Option Value → mH → Prop) (b : Int32) (i : Nat) (nx : Int32) (w : Nat) (K : Nat → Int32) : Prop :=
  ∀ x10 x11 : Option Value, Go O (d + 1) MX8_work 45 [some (.ref s), some (.ref p), some (.int c), some (.int pt), some (.ref wd), some (.int fr), some (.int (nI to)), some (.int (nI w)), some (.int nx), some (.int (nI i)), x10, x11] [] (hp u n T (WI I sk s K b) J R) P
theorem w_end {nx : Int32} {w i : Nat} {K : Nat → Int32} (hS : IsS n T R s sk) (hn : n ≤ oB) (ht : to ≤ 400) (hi : to ≤ i) (hi2 : i ≤ 400) (hw : w ≤ 64) (hP : P (some (.int (if w = 0 then nI 1 else K (w - 1)))) (hp u n T (WI I sk s K (nI 0)) J R)) : WH O d u n T I J R s sk p wd to c pt fr P (nI 0) i nx w K := by
  obtain ⟨a0, a1, b0, hsn, hkn, hne⟩ := hS
  intro x10 x11
  refine g_iload dX8_work_45 rfl ?_
  refine g_iload dX8_work_47 rfl ?_
  refine g_icN_ge (t := 308) dX8_work_49 (by decide) (by omega) (by omega) (fun z => ?_) (fun z => by exfalso; first | omega | exact absurd rfl z | exact absurd z (by decide) | exact z (by decide) | exact absurd z (by assumption) | exact absurd (by assumption) z)
  refine g_aload_n dX8_work_308 rfl ?_
  refine g_getI dX8_work_309 fX8_15 (by assumption) rfl (by omega) hn ?_
  rw [WI_b]
  refine g_if_eq (t := 317) dX8_work_312 (by decide) (fun z => ?_) (fun z => by exfalso; first | omega | exact absurd rfl z | exact absurd z (by decide) | exact z (by decide) | exact absurd z (by assumption) | exact absurd (by assumption) z)
  refine g_iload dX8_work_317 rfl ?_
  rcases Nat.eq_zero_or_pos w with rfl | hpos
  · refine g_if_ne (t := 326) dX8_work_319 (by decide) (fun y => by exfalso; first | omega | exact absurd rfl y | exact absurd y (by decide) | exact y (by decide) | exact absurd y (by assumption) | exact absurd (by assumption) y) (fun y => ?_)
    refine g_iconst (v := nI 1) dX8_work_322 (by decide) ?_
    refine g_goto (t := 335) dX8_work_323 (by decide) ?_
    exact g_ireturn dX8_work_335 rfl (by first | rfl | decide) hP
  · refine g_if_ne (t := 326) dX8_work_319 (by decide) (fun y => ?_) (fun y => absurd y (nI_ne0 hpos (by omega)))
    refine g_aload_n dX8_work_326 rfl ?_
    refine g_getR dX8_work_327 fX8_11 (by assumption) rfl (by assumption) (by omega) hn ?_
    refine g_iload dX8_work_330 rfl ?_
    refine g_iconst (v := nI 1) dX8_work_332 (by decide) ?_
    first | refine g_isubN dX8_work_333 (by omega) ?_ | refine g_isub dX8_work_333 ?_
    refine g_iald dX8_work_334 (by assumption) rfl (by omega) (by omega) (by omega) hn ?_
    rw [if_neg (by omega)] at hP
    rw [WI_k hne]
    exact g_ireturn dX8_work_335 rfl (by first | rfl | decide) hP
theorem w_brk {nx : Int32} {i w : Nat} {K : Nat → Int32} (hS : IsS n T R s sk) (hn : n ≤ oB) (ht : to ≤ 400) (hi : i ≤ 400) (hP : P (some (.int (nI 0))) (hp u n T (WI I sk s K (nI 1)) J R)) : WH O d u n T I J R s sk p wd to c pt fr P (nI 1) i nx w K := by
  obtain ⟨a0, a1, b0, hsn, hkn, hne⟩ := hS
  intro x10 x11
  have ex : Go O (d + 1) MX8_work 308 [some (.ref s), some (.ref p), some (.int c), some (.int pt), some (.ref wd), some (.int fr), some (.int (nI to)), some (.int (nI w)), some (.int nx), some (.int (nI i)), x10, x11] [] (hp u n T (WI I sk s K (nI 1)) J R) P := by
    refine g_aload_n dX8_work_308 rfl ?_
    refine g_getI dX8_work_309 fX8_15 (by assumption) rfl (by omega) hn ?_
    rw [WI_b]
    refine g_if_eq (t := 317) dX8_work_312 (by decide) (fun z => by exfalso; first | omega | exact absurd rfl z | exact absurd z (by decide) | exact z (by decide) | exact absurd z (by assumption) | exact absurd (by assumption) z) (fun z => ?_)
    refine g_iconst (v := nI 0) dX8_work_315 (by decide) ?_
    exact g_ireturn dX8_work_316 rfl (by first | rfl | decide) hP
  refine g_iload dX8_work_45 rfl ?_
  refine g_iload dX8_work_47 rfl ?_
  refine g_icN_ge (t := 308) dX8_work_49 (by decide) (by omega) (by omega) (fun z => ex) (fun z => ?_)
  refine g_aload_n dX8_work_52 rfl ?_
  refine g_getI dX8_work_53 fX8_15 (by assumption) rfl (by omega) hn ?_
  rw [WI_b]
  refine g_if_ne (t := 308) dX8_work_56 (by decide) (fun z => ?_) (fun z => ?_)
  · exact ex
  · exact absurd z (by decide)
theorem w_run (hS : IsS n T R s sk) (hPr : IsP n T R p ls lc) (hW : T wd = (0, [lw])) (hwn : wd < n) (hlw : lw ≤ 16) (hn : n ≤ oB) (hto : to ≤ ls) (e1 : p + 1 ≠ s) (e2 : p + 1 ≠ sk) (e3 : wd ≠ s) (e4 : wd ≠ sk)
    (hV : ∀ i, i < to → ∃ k, k ≤ 12 ∧ I (p + 1) i &&& nI 15 = nI k) : ∀ (m i : Nat) (nx : Int32) (w : Nat) (K : Nat → Int32), to = i + m → w ≤ 64 → (∀ K', P (some (.int ((wk (I (p + 1)) (wdF (I wd) lw) m i nx w K).getD (nI 0)))) (hp u n T (WI I sk s K' (bI (wk (I (p + 1)) (wdF (I wd) lw) m i nx w K).isNone)) J R)) → WH O d u n T I J R s sk p wd to c pt fr P (nI 0) i nx w K := by
  have hS0 := hS
  have hPr0 := hPr
  obtain ⟨a0, a1, b0, hsn, hkn, hne⟩ := hS
  obtain ⟨t0, t1, t2, r0, r1, hpn, h400, h72⟩ := hPr
  intro m
  induction m with
  | zero =>
    intro i nx w K hm hw hP
    exact w_end hS0 hn (by omega) (by omega) (by omega) hw (hP K)
  | succ m ih =>
    intro i nx w K hm hw hP
    intro x10 x11
    unfold wk at hP
    refine g_iload dX8_work_45 rfl ?_
    refine g_iload dX8_work_47 rfl ?_
    refine g_icN_ge (t := 308) dX8_work_49 (by decide) (by omega) (by omega) (fun z => by exfalso; first | omega | exact absurd rfl z | exact absurd z (by decide) | exact z (by decide) | exact absurd z (by assumption) | exact absurd (by assumption) z) (fun z => ?_)
    refine g_aload_n dX8_work_52 rfl ?_
    refine g_getI dX8_work_53 fX8_15 (by assumption) rfl (by omega) hn ?_
    rw [WI_b]
    refine g_if_ne (t := 308) dX8_work_56 (by decide) (fun z => by exfalso; first | omega | exact absurd rfl z | exact absurd z (by decide) | exact z (by decide) | exact absurd z (by assumption) | exact absurd (by assumption) z) (fun z => ?_)
    refine g_iload dX8_work_59 rfl ?_
    refine g_iload dX8_work_61 rfl ?_
    refine g_ic_ge (t := 69) dX8_work_63 (by decide) (fun z => ?_) (fun z => ?_)
    · rw [if_neg (Int32.not_lt.mpr z)] at hP
      refine g_aload_n dX8_work_69 rfl ?_
      refine g_getR dX8_work_70 fX8_37 (by assumption) rfl (by assumption) (by omega) hn ?_
      refine g_iload dX8_work_73 rfl ?_
      refine g_iald dX8_work_75 (by assumption) rfl (show i < ls by omega) (by omega) (by omega) hn ?_
      refine g_bipush (v := nI 15) dX8_work_76 (by decide) ?_
      refine g_iand dX8_work_78 ?_
      refine g_istore (ls' := [_, _, _, _, _, _, _, _, _, _, some (.int _), _]) dX8_work_79 (by decide) rfl ?_
      refine g_aload_n dX8_work_81 rfl ?_
      refine g_getR dX8_work_82 fX8_37 (by assumption) rfl (by assumption) (by omega) hn ?_
      refine g_iload dX8_work_85 rfl ?_
      refine g_iald dX8_work_87 (by assumption) rfl (show i < ls by omega) (by omega) (by omega) hn ?_
      obtain ⟨k, hk, ek⟩ := hV i (by omega)
      rw [ek, nI_clamp (by omega)] at hP
      refine g_iconst (v := nI 4) dX8_work_88 (by decide) ?_
      refine g_ishr dX8_work_89 ?_
      rw [WI_o e1 e2, ek]
      generalize I (p + 1) i >>> (nI 4 &&& 31) = ab at hP
      refine g_istore (ls' := [_, _, _, _, _, _, _, _, _, _, _, some (.int _)]) dX8_work_90 (by decide) rfl ?_
      refine g_iload dX8_work_92 rfl ?_
      refine g_iload dX8_work_94 rfl ?_
      refine g_stat (Z := MX8_needed) dX8_work_96 mX8_40.1 mX8_40.2 (Nat.le_of_ble_eq_true rfl) rfl rfl (Nat.le_of_ble_eq_true rfl) (Nat.le_of_ble_eq_true rfl) (k_needed _ _) ?_
      rintro _ _ ⟨rfl, rfl⟩
      try dsimp only [Option.toList, List.cons_append, List.nil_append]
      rw [ndv k hk]
      have brk : (∀ K', P (some (.int ((none : Option Int32).getD (nI 0)))) (hp u n T (WI I sk s K' (bI (none : Option Int32).isNone)) J R)) → Go O (d + 1) MX8_work 112 [some (.ref s), some (.ref p), some (.int c), some (.int pt), some (.ref wd), some (.int fr), some (.int (nI to)), some (.int (nI w)), some (.int nx), some (.int (nI i)), some (.int (nI k)), some (.int ab)] [] (hp u n T (WI I sk s K (nI 0)) J R) P := by
        intro hb
        refine g_aload_n dX8_work_112 rfl ?_
        refine g_iconst (v := nI 1) dX8_work_113 (by decide) ?_
        refine g_putI (c := (RX8, TX8, 2)) dX8_work_114 fX8_15 (by assumption) rfl rfl rfl rfl (fun h => absurd h (by decide)) (by omega) hn ?_
        rw [WI_s]
        refine g_goto (t := 302) dX8_work_117 (by decide) ?_
        refine g_iincN (c := 1) (ls' := [_, _, _, _, _, _, _, _, _, some (.int _), _, _]) dX8_work_302 rfl (by decide) rfl rfl ?_
        refine g_goto (t := 45) dX8_work_305 (by decide) ?_
        exact w_brk hS0 hn (by omega) (by omega) (hb K) _ _
      by_cases hw64 : 64 ≤ w
      · rw [if_pos hw64] at hP
        refine g_icN_lt (t := 112) dX8_work_99 (by decide) (by omega) (by split <;> (try split) <;> omega) (fun z => ?_) (fun _ => ?_)
        · exact brk hP
        · refine g_iload dX8_work_102 rfl ?_
          refine g_aload_n dX8_work_104 rfl ?_
          refine g_getR dX8_work_105 fX8_11 (by assumption) rfl (by assumption) (by omega) hn ?_
          first | refine g_alen (t := 0) (by decide) dX8_work_108 (by assumption) (by omega) hn ?_ | refine g_alen (t := 2) (by decide) dX8_work_108 (by assumption) (by omega) hn ?_
          refine g_icN_lt (t := 120) dX8_work_109 (by decide) (by omega) (by omega) (fun y => by exfalso; first | omega | exact absurd rfl y | exact absurd y (by decide) | exact y (by decide) | exact absurd y (by assumption) | exact absurd (by assumption) y) (fun y => ?_)
          exact brk hP
      · rw [if_neg hw64] at hP
        match k, hk with
        | 0, _ =>
          refine g_icN_lt (t := 112) dX8_work_99 (by decide) (by omega) (by decide) (fun z => absurd z (Nat.not_lt_zero _)) (fun _ => ?_)
          refine g_iload dX8_work_102 rfl ?_
          refine g_aload_n dX8_work_104 rfl ?_
          refine g_getR dX8_work_105 fX8_11 (by assumption) rfl (by assumption) (by omega) hn ?_
          first | refine g_alen (t := 0) (by decide) dX8_work_108 (by assumption) (by omega) hn ?_ | refine g_alen (t := 2) (by decide) dX8_work_108 (by assumption) (by omega) hn ?_
          refine g_icN_lt (t := 120) dX8_work_109 (by decide) (by omega) (by omega) (fun y => ?_) (fun y => by exfalso; first | omega | exact absurd rfl y | exact absurd y (by decide) | exact y (by decide) | exact absurd y (by assumption) | exact absurd (by assumption) y)
          refine g_iload dX8_work_120 rfl ?_
          refine g_if_ne (t := 140) dX8_work_122 (by decide) (fun x => by exfalso; first | omega | exact absurd rfl x | exact absurd x (by decide) | exact x (by decide) | exact absurd x (by assumption) | exact absurd (by assumption) x) (fun x => ?_)
          refine g_aload_n dX8_work_125 rfl ?_
          refine g_getR dX8_work_126 fX8_11 (by assumption) rfl (by assumption) (by omega) hn ?_
          refine g_iload dX8_work_129 rfl ?_
          refine g_iload dX8_work_131 rfl ?_
          refine g_iast dX8_work_133 (by assumption) rfl (by omega) (by omega) (by omega) hn ?_
          rw [WI_w hne]
          refine g_iincN (c := 1) (ls' := [_, _, _, _, _, _, _, some (.int _), _, _, _, _]) dX8_work_134 rfl (by decide) rfl rfl ?_
          refine g_goto (t := 302) dX8_work_137 (by decide) ?_
          refine g_iincN (c := 1) (ls' := [_, _, _, _, _, _, _, _, _, some (.int _), _, _]) dX8_work_302 rfl (by decide) rfl rfl ?_
          refine g_goto (t := 45) dX8_work_305 (by decide) ?_
          exact ih (i + 1) nx (w + 1) _ (by omega) (by omega) hP _ _
        | 1, _ =>
          refine g_icN_lt (t := 112) dX8_work_99 (by decide) (by omega) (by decide) (fun z => absurd z (Nat.not_lt_zero _)) (fun _ => ?_)
          refine g_iload dX8_work_102 rfl ?_
          refine g_aload_n dX8_work_104 rfl ?_
          refine g_getR dX8_work_105 fX8_11 (by assumption) rfl (by assumption) (by omega) hn ?_
          first | refine g_alen (t := 0) (by decide) dX8_work_108 (by assumption) (by omega) hn ?_ | refine g_alen (t := 2) (by decide) dX8_work_108 (by assumption) (by omega) hn ?_
          refine g_icN_lt (t := 120) dX8_work_109 (by decide) (by omega) (by omega) (fun y => ?_) (fun y => by exfalso; first | omega | exact absurd rfl y | exact absurd y (by decide) | exact y (by decide) | exact absurd y (by assumption) | exact absurd (by assumption) y)
          refine g_iload dX8_work_120 rfl ?_
          refine g_if_ne (t := 140) dX8_work_122 (by decide) (fun x => ?_) (fun x => by exfalso; first | omega | exact absurd rfl x | exact absurd x (by decide) | exact x (by decide) | exact absurd x (by assumption) | exact absurd (by assumption) x)
          refine g_iload dX8_work_140 rfl ?_
          refine g_iconst (v := nI 1) dX8_work_142 (by decide) ?_
          refine g_ic_ne (t := 181) dX8_work_143 (by decide) (fun x => by exfalso; first | omega | exact absurd rfl x | exact absurd x (by decide) | exact x (by decide) | exact absurd x (by assumption) | exact absurd (by assumption) x) (fun x => ?_)
          refine g_aload_n dX8_work_146 rfl ?_
          refine g_getR dX8_work_147 fX8_11 (by assumption) rfl (by assumption) (by omega) hn ?_
          refine g_iload dX8_work_150 rfl ?_
          refine g_iload dX8_work_152 rfl ?_
          have fin : ∀ v, v = wdF (I wd) lw ab → Go O (d + 1) MX8_work 174 [some (.ref s), some (.ref p), some (.int c), some (.int pt), some (.ref wd), some (.int fr), some (.int (nI to)), some (.int (nI w)), some (.int nx), some (.int (nI i)), some (.int (nI 1)), some (.int ab)] [.int v, .int (nI w), .ref sk] (hp u n T (WI I sk s K (nI 0)) J R) P := by
            intro v hv
            rw [hv]
            refine g_iast dX8_work_174 (by assumption) rfl (by omega) (by omega) (by omega) hn ?_
            rw [WI_w hne]
            refine g_iincN (c := 1) (ls' := [_, _, _, _, _, _, _, some (.int _), _, _, _, _]) dX8_work_175 rfl (by decide) rfl rfl ?_
            refine g_goto (t := 302) dX8_work_178 (by decide) ?_
            refine g_iincN (c := 1) (ls' := [_, _, _, _, _, _, _, _, _, some (.int _), _, _]) dX8_work_302 rfl (by decide) rfl rfl ?_
            refine g_goto (t := 45) dX8_work_305 (by decide) ?_
            exact ih (i + 1) nx (w + 1) _ (by omega) (by omega) hP _ _
          refine g_if_lt (t := 173) dX8_work_154 (by decide) (fun c1 => ?_) (fun c1 => ?_)
          · refine g_iconst (v := -1) dX8_work_173 (by decide) ?_
            exact fin _ (by unfold wdF; rw [inR_neg c1]; rfl)
          · refine g_iload dX8_work_157 rfl ?_
            refine g_aload dX8_work_159 rfl ?_
            first | refine g_alen (t := 0) (by decide) dX8_work_161 (by assumption) (by omega) hn ?_ | refine g_alen (t := 2) (by decide) dX8_work_161 (by assumption) (by omega) hn ?_
            refine g_ic_ge (t := 173) dX8_work_162 (by decide) (fun c2 => ?_) (fun c2 => ?_)
            · refine g_iconst (v := -1) dX8_work_173 (by decide) ?_
              exact fin _ (by unfold wdF; rw [inR_ge c2]; rfl)
            · obtain ⟨j, hj, rfl⟩ := inR_ex (inR_t c1 c2) (by omega)
              refine g_aload dX8_work_165 rfl ?_
              refine g_iload dX8_work_167 rfl ?_
              refine g_iald dX8_work_169 (by assumption) rfl hj (by omega) (by omega) hn ?_
              refine g_goto (t := 174) dX8_work_170 (by decide) ?_
              rw [WI_o e3 e4]
              exact fin _ (by unfold wdF; rw [inR_nI hj (by omega), nI_clamp (by omega)]; rfl)
        | 2, _ =>
          refine g_icN_lt (t := 112) dX8_work_99 (by decide) (by omega) (by decide) (fun z => ?_) (fun z => ?_)
          · rw [show w = 0 from Nat.lt_one_iff.mp z] at hP brk ⊢
            exact brk hP
          · replace z : 1 ≤ w := z
            rw [if_neg (show ¬ w = 0 by omega)] at hP
            refine g_iload dX8_work_102 rfl ?_
            refine g_aload_n dX8_work_104 rfl ?_
            refine g_getR dX8_work_105 fX8_11 (by assumption) rfl (by assumption) (by omega) hn ?_
            first | refine g_alen (t := 0) (by decide) dX8_work_108 (by assumption) (by omega) hn ?_ | refine g_alen (t := 2) (by decide) dX8_work_108 (by assumption) (by omega) hn ?_
            refine g_icN_lt (t := 120) dX8_work_109 (by decide) (by omega) (by omega) (fun y => ?_) (fun y => by exfalso; first | omega | exact absurd rfl y | exact absurd y (by decide) | exact y (by decide) | exact absurd y (by assumption) | exact absurd (by assumption) y)
            refine g_iload dX8_work_120 rfl ?_
            refine g_if_ne (t := 140) dX8_work_122 (by decide) (fun x => ?_) (fun x => by exfalso; first | omega | exact absurd rfl x | exact absurd x (by decide) | exact x (by decide) | exact absurd x (by assumption) | exact absurd (by assumption) x)
            refine g_iload dX8_work_140 rfl ?_
            refine g_iconst (v := nI 1) dX8_work_142 (by decide) ?_
            refine g_ic_ne (t := 181) dX8_work_143 (by decide) (fun x => ?_) (fun x => by exfalso; first | omega | exact absurd rfl x | exact absurd x (by decide) | exact x (by decide) | exact absurd x (by assumption) | exact absurd (by assumption) x)
            refine g_iload dX8_work_181 rfl ?_
            refine g_iconst (v := nI 2) dX8_work_183 (by decide) ?_
            refine g_ic_ne (t := 217) dX8_work_184 (by decide) (fun x => by exfalso; first | omega | exact absurd rfl x | exact absurd x (by decide) | exact x (by decide) | exact absurd x (by assumption) | exact absurd (by assumption) x) (fun x => ?_)
            refine g_aload_n dX8_work_187 rfl ?_
            refine g_getR dX8_work_188 fX8_11 (by assumption) rfl (by assumption) (by omega) hn ?_
            refine g_iload dX8_work_191 rfl ?_
            refine g_iconst (v := nI 1) dX8_work_193 (by decide) ?_
            first | refine g_isubN dX8_work_194 (by omega) ?_ | refine g_isub dX8_work_194 ?_
            refine g_aload_n dX8_work_195 rfl ?_
            refine g_getR dX8_work_196 fX8_11 (by assumption) rfl (by assumption) (by omega) hn ?_
            refine g_iload dX8_work_199 rfl ?_
            refine g_iconst (v := nI 1) dX8_work_201 (by decide) ?_
            first | refine g_isubN dX8_work_202 (by omega) ?_ | refine g_isub dX8_work_202 ?_
            refine g_iald dX8_work_203 (by assumption) rfl (by omega) (by omega) (by omega) hn ?_
            rw [WI_k hne]
            refine g_iconst (v := nI 1) dX8_work_204 (by decide) ?_
            refine g_ic_ne (t := 212) dX8_work_205 (by decide) (fun e => ?_) (fun e => ?_)
            · rw [if_neg e] at hP
              refine g_iconst (v := nI 1) dX8_work_212 (by decide) ?_
              refine g_iast dX8_work_213 (by assumption) rfl (by omega) (by omega) (by omega) hn ?_
              rw [WI_w hne]
              refine g_goto (t := 302) dX8_work_214 (by decide) ?_
              refine g_iincN (c := 1) (ls' := [_, _, _, _, _, _, _, _, _, some (.int _), _, _]) dX8_work_302 rfl (by decide) rfl rfl ?_
              refine g_goto (t := 45) dX8_work_305 (by decide) ?_
              exact ih (i + 1) nx w _ (by omega) (by omega) hP _ _
            · rw [if_pos e] at hP
              refine g_iconst (v := nI 0) dX8_work_208 (by decide) ?_
              refine g_goto (t := 213) dX8_work_209 (by decide) ?_
              refine g_iast dX8_work_213 (by assumption) rfl (by omega) (by omega) (by omega) hn ?_
              rw [WI_w hne]
              refine g_goto (t := 302) dX8_work_214 (by decide) ?_
              refine g_iincN (c := 1) (ls' := [_, _, _, _, _, _, _, _, _, some (.int _), _, _]) dX8_work_302 rfl (by decide) rfl rfl ?_
              refine g_goto (t := 45) dX8_work_305 (by decide) ?_
              exact ih (i + 1) nx w _ (by omega) (by omega) hP _ _
        | 3, _ =>
          obtain ⟨X, hX, hP⟩ : ∃ X : Option Int32, X = (if w = 0 then none else if K (w - 1) = nI 1 then wk (I (p + 1)) (wdF (I wd) lw) m (i + 1) ab w K else wk (I (p + 1)) (wdF (I wd) lw) m (i + 1) nx (w - 1) K) ∧ ∀ K', P (some (.int (X.getD (nI 0)))) (hp u n T (WI I sk s K' (bI X.isNone)) J R) := ⟨_, rfl, hP⟩
          refine g_icN_lt (t := 112) dX8_work_99 (by decide) (by omega) (by decide) (fun z => ?_) (fun z => ?_)
          · rw [if_pos (Nat.lt_one_iff.mp z)] at hX
            subst hX
            exact brk hP
          · replace z : 1 ≤ w := z
            rw [if_neg (show ¬ w = 0 by omega)] at hX
            refine g_iload dX8_work_102 rfl ?_
            refine g_aload_n dX8_work_104 rfl ?_
            refine g_getR dX8_work_105 fX8_11 (by assumption) rfl (by assumption) (by omega) hn ?_
            first | refine g_alen (t := 0) (by decide) dX8_work_108 (by assumption) (by omega) hn ?_ | refine g_alen (t := 2) (by decide) dX8_work_108 (by assumption) (by omega) hn ?_
            refine g_icN_lt (t := 120) dX8_work_109 (by decide) (by omega) (by omega) (fun y => ?_) (fun y => by exfalso; first | omega | exact absurd rfl y | exact absurd y (by decide) | exact y (by decide) | exact absurd y (by assumption) | exact absurd (by assumption) y)
            refine g_iload dX8_work_120 rfl ?_
            refine g_if_ne (t := 140) dX8_work_122 (by decide) (fun x => ?_) (fun x => by exfalso; first | omega | exact absurd rfl x | exact absurd x (by decide) | exact x (by decide) | exact absurd x (by assumption) | exact absurd (by assumption) x)
            refine g_iload dX8_work_140 rfl ?_
            refine g_iconst (v := nI 1) dX8_work_142 (by decide) ?_
            refine g_ic_ne (t := 181) dX8_work_143 (by decide) (fun x => ?_) (fun x => by exfalso; first | omega | exact absurd rfl x | exact absurd x (by decide) | exact x (by decide) | exact absurd x (by assumption) | exact absurd (by assumption) x)
            refine g_iload dX8_work_181 rfl ?_
            refine g_iconst (v := nI 2) dX8_work_183 (by decide) ?_
            refine g_ic_ne (t := 217) dX8_work_184 (by decide) (fun x => ?_) (fun x => by exfalso; first | omega | exact absurd rfl x | exact absurd x (by decide) | exact x (by decide) | exact absurd x (by assumption) | exact absurd (by assumption) x)
            refine g_iload dX8_work_217 rfl ?_
            refine g_iconst (v := nI 4) dX8_work_219 (by decide) ?_
            refine g_ic_le (t := 260) dX8_work_220 (by decide) (fun x => ?_) (fun x => by exfalso; first | omega | exact absurd rfl x | exact absurd x (by decide) | exact x (by decide) | exact absurd x (by assumption) | exact absurd (by assumption) x)
            refine g_aload_n dX8_work_260 rfl ?_
            refine g_getR dX8_work_261 fX8_11 (by assumption) rfl (by assumption) (by omega) hn ?_
            refine g_iload dX8_work_264 rfl ?_
            refine g_iconst (v := nI 1) dX8_work_266 (by decide) ?_
            first | refine g_isubN dX8_work_267 (by omega) ?_ | refine g_isub dX8_work_267 ?_
            refine g_iald dX8_work_268 (by assumption) rfl (by omega) (by omega) (by omega) hn ?_
            rw [WI_k hne]
            refine g_iconst (v := nI 1) dX8_work_269 (by decide) ?_
            refine g_ic_ne (t := 277) dX8_work_270 (by decide) (fun e => ?_) (fun e => ?_)
            · rw [if_neg e] at hX
              subst hX
              refine g_iconst (v := nI 0) dX8_work_277 (by decide) ?_
              refine g_iload dX8_work_278 rfl ?_
              refine g_iconst (v := nI 3) dX8_work_280 (by decide) ?_
              refine g_ic_ne (t := 288) dX8_work_281 (by decide) (fun x => by exfalso; first | omega | exact absurd rfl x | exact absurd x (by decide) | exact x (by decide) | exact absurd x (by assumption) | exact absurd (by assumption) x) (fun x => ?_)
              refine g_iconst (v := nI 1) dX8_work_284 (by decide) ?_
              refine g_goto (t := 289) dX8_work_285 (by decide) ?_
              refine g_ic_ne (t := 299) dX8_work_289 (by decide) (fun x => ?_) (fun x => by exfalso; first | omega | exact absurd rfl x | exact absurd x (by decide) | exact x (by decide) | exact absurd x (by assumption) | exact absurd (by assumption) x)
              first | refine g_iincD (ls' := [_, _, _, _, _, _, _, some (.int _), _, _, _, _]) dX8_work_299 (by decide) rfl (by omega) rfl ?_ | refine g_iinc (ls' := [_, _, _, _, _, _, _, some (.int _), _, _, _, _]) dX8_work_299 (by decide) rfl rfl rfl ?_
              refine g_iincN (c := 1) (ls' := [_, _, _, _, _, _, _, _, _, some (.int _), _, _]) dX8_work_302 rfl (by decide) rfl rfl ?_
              refine g_goto (t := 45) dX8_work_305 (by decide) ?_
              exact ih (i + 1) nx (w - 1) _ (by omega) (by omega) hP _ _
            · rw [if_pos e] at hX
              subst hX
              refine g_iconst (v := nI 1) dX8_work_273 (by decide) ?_
              refine g_goto (t := 278) dX8_work_274 (by decide) ?_
              refine g_iload dX8_work_278 rfl ?_
              refine g_iconst (v := nI 3) dX8_work_280 (by decide) ?_
              refine g_ic_ne (t := 288) dX8_work_281 (by decide) (fun x => by exfalso; first | omega | exact absurd rfl x | exact absurd x (by decide) | exact x (by decide) | exact absurd x (by assumption) | exact absurd (by assumption) x) (fun x => ?_)
              refine g_iconst (v := nI 1) dX8_work_284 (by decide) ?_
              refine g_goto (t := 289) dX8_work_285 (by decide) ?_
              refine g_ic_ne (t := 299) dX8_work_289 (by decide) (fun x => by exfalso; first | omega | exact absurd rfl x | exact absurd x (by decide) | exact x (by decide) | exact absurd x (by assumption) | exact absurd (by assumption) x) (fun x => ?_)
              refine g_iload dX8_work_292 rfl ?_
              refine g_istore (ls' := [_, _, _, _, _, _, _, _, some (.int _), _, _, _]) dX8_work_294 (by decide) rfl ?_
              refine g_goto (t := 302) dX8_work_296 (by decide) ?_
              refine g_iincN (c := 1) (ls' := [_, _, _, _, _, _, _, _, _, some (.int _), _, _]) dX8_work_302 rfl (by decide) rfl rfl ?_
              refine g_goto (t := 45) dX8_work_305 (by decide) ?_
              exact ih (i + 1) _ w _ (by omega) (by omega) hP _ _
        | 4, _ =>
          obtain ⟨X, hX, hP⟩ : ∃ X : Option Int32, X = (if w = 0 then none else if K (w - 1) = nI 1 then wk (I (p + 1)) (wdF (I wd) lw) m (i + 1) nx (w - 1) K else wk (I (p + 1)) (wdF (I wd) lw) m (i + 1) ab w K) ∧ ∀ K', P (some (.int (X.getD (nI 0)))) (hp u n T (WI I sk s K' (bI X.isNone)) J R) := ⟨_, rfl, hP⟩
          refine g_icN_lt (t := 112) dX8_work_99 (by decide) (by omega) (by decide) (fun z => ?_) (fun z => ?_)
          · rw [if_pos (Nat.lt_one_iff.mp z)] at hX
            subst hX
            exact brk hP
          · replace z : 1 ≤ w := z
            rw [if_neg (show ¬ w = 0 by omega)] at hX
            refine g_iload dX8_work_102 rfl ?_
            refine g_aload_n dX8_work_104 rfl ?_
            refine g_getR dX8_work_105 fX8_11 (by assumption) rfl (by assumption) (by omega) hn ?_
            first | refine g_alen (t := 0) (by decide) dX8_work_108 (by assumption) (by omega) hn ?_ | refine g_alen (t := 2) (by decide) dX8_work_108 (by assumption) (by omega) hn ?_
            refine g_icN_lt (t := 120) dX8_work_109 (by decide) (by omega) (by omega) (fun y => ?_) (fun y => by exfalso; first | omega | exact absurd rfl y | exact absurd y (by decide) | exact y (by decide) | exact absurd y (by assumption) | exact absurd (by assumption) y)
            refine g_iload dX8_work_120 rfl ?_
            refine g_if_ne (t := 140) dX8_work_122 (by decide) (fun x => ?_) (fun x => by exfalso; first | omega | exact absurd rfl x | exact absurd x (by decide) | exact x (by decide) | exact absurd x (by assumption) | exact absurd (by assumption) x)
            refine g_iload dX8_work_140 rfl ?_
            refine g_iconst (v := nI 1) dX8_work_142 (by decide) ?_
            refine g_ic_ne (t := 181) dX8_work_143 (by decide) (fun x => ?_) (fun x => by exfalso; first | omega | exact absurd rfl x | exact absurd x (by decide) | exact x (by decide) | exact absurd x (by assumption) | exact absurd (by assumption) x)
            refine g_iload dX8_work_181 rfl ?_
            refine g_iconst (v := nI 2) dX8_work_183 (by decide) ?_
            refine g_ic_ne (t := 217) dX8_work_184 (by decide) (fun x => ?_) (fun x => by exfalso; first | omega | exact absurd rfl x | exact absurd x (by decide) | exact x (by decide) | exact absurd x (by assumption) | exact absurd (by assumption) x)
            refine g_iload dX8_work_217 rfl ?_
            refine g_iconst (v := nI 4) dX8_work_219 (by decide) ?_
            refine g_ic_le (t := 260) dX8_work_220 (by decide) (fun x => ?_) (fun x => by exfalso; first | omega | exact absurd rfl x | exact absurd x (by decide) | exact x (by decide) | exact absurd x (by assumption) | exact absurd (by assumption) x)
            refine g_aload_n dX8_work_260 rfl ?_
            refine g_getR dX8_work_261 fX8_11 (by assumption) rfl (by assumption) (by omega) hn ?_
            refine g_iload dX8_work_264 rfl ?_
            refine g_iconst (v := nI 1) dX8_work_266 (by decide) ?_
            first | refine g_isubN dX8_work_267 (by omega) ?_ | refine g_isub dX8_work_267 ?_
            refine g_iald dX8_work_268 (by assumption) rfl (by omega) (by omega) (by omega) hn ?_
            rw [WI_k hne]
            refine g_iconst (v := nI 1) dX8_work_269 (by decide) ?_
            refine g_ic_ne (t := 277) dX8_work_270 (by decide) (fun e => ?_) (fun e => ?_)
            · rw [if_neg e] at hX
              subst hX
              refine g_iconst (v := nI 0) dX8_work_277 (by decide) ?_
              refine g_iload dX8_work_278 rfl ?_
              refine g_iconst (v := nI 3) dX8_work_280 (by decide) ?_
              refine g_ic_ne (t := 288) dX8_work_281 (by decide) (fun x => ?_) (fun x => by exfalso; first | omega | exact absurd rfl x | exact absurd x (by decide) | exact x (by decide) | exact absurd x (by assumption) | exact absurd (by assumption) x)
              refine g_iconst (v := nI 0) dX8_work_288 (by decide) ?_
              refine g_ic_ne (t := 299) dX8_work_289 (by decide) (fun x => by exfalso; first | omega | exact absurd rfl x | exact absurd x (by decide) | exact x (by decide) | exact absurd x (by assumption) | exact absurd (by assumption) x) (fun x => ?_)
              refine g_iload dX8_work_292 rfl ?_
              refine g_istore (ls' := [_, _, _, _, _, _, _, _, some (.int _), _, _, _]) dX8_work_294 (by decide) rfl ?_
              refine g_goto (t := 302) dX8_work_296 (by decide) ?_
              refine g_iincN (c := 1) (ls' := [_, _, _, _, _, _, _, _, _, some (.int _), _, _]) dX8_work_302 rfl (by decide) rfl rfl ?_
              refine g_goto (t := 45) dX8_work_305 (by decide) ?_
              exact ih (i + 1) _ w _ (by omega) (by omega) hP _ _
            · rw [if_pos e] at hX
              subst hX
              refine g_iconst (v := nI 1) dX8_work_273 (by decide) ?_
              refine g_goto (t := 278) dX8_work_274 (by decide) ?_
              refine g_iload dX8_work_278 rfl ?_
              refine g_iconst (v := nI 3) dX8_work_280 (by decide) ?_
              refine g_ic_ne (t := 288) dX8_work_281 (by decide) (fun x => ?_) (fun x => by exfalso; first | omega | exact absurd rfl x | exact absurd x (by decide) | exact x (by decide) | exact absurd x (by assumption) | exact absurd (by assumption) x)
              refine g_iconst (v := nI 0) dX8_work_288 (by decide) ?_
              refine g_ic_ne (t := 299) dX8_work_289 (by decide) (fun x => ?_) (fun x => by exfalso; first | omega | exact absurd rfl x | exact absurd x (by decide) | exact x (by decide) | exact absurd x (by assumption) | exact absurd (by assumption) x)
              first | refine g_iincD (ls' := [_, _, _, _, _, _, _, some (.int _), _, _, _, _]) dX8_work_299 (by decide) rfl (by omega) rfl ?_ | refine g_iinc (ls' := [_, _, _, _, _, _, _, some (.int _), _, _, _, _]) dX8_work_299 (by decide) rfl rfl rfl ?_
              refine g_iincN (c := 1) (ls' := [_, _, _, _, _, _, _, _, _, some (.int _), _, _]) dX8_work_302 rfl (by decide) rfl rfl ?_
              refine g_goto (t := 45) dX8_work_305 (by decide) ?_
              exact ih (i + 1) nx (w - 1) _ (by omega) (by omega) hP _ _
        | k + 5, hk =>
          rw [if_neg (show ¬ k + 5 ≤ 1 by omega), if_neg (show ¬ k + 5 ≤ 4 by omega)]
          obtain ⟨X, hX, hP⟩ : ∃ X : Option Int32, X = (if w < 2 then none else match jo (k + 5) (K (w - 2)) (K (w - 1)) with
            | none => none
            | some v => wk (I (p + 1)) (wdF (I wd) lw) m (i + 1) nx (w - 1) (upK K (w - 2) v)) ∧ ∀ K', P (some (.int (X.getD (nI 0)))) (hp u n T (WI I sk s K' (bI X.isNone)) J R) := ⟨_, rfl, hP⟩
          refine g_icN_lt (t := 112) dX8_work_99 (by decide) (by omega) (by decide) (fun z => ?_) (fun z => ?_)
          · rw [if_pos z] at hX
            subst hX
            exact brk hP
          · rw [if_neg (Nat.not_lt.mpr z)] at hX
            refine g_iload dX8_work_102 rfl ?_
            refine g_aload_n dX8_work_104 rfl ?_
            refine g_getR dX8_work_105 fX8_11 (by assumption) rfl (by assumption) (by omega) hn ?_
            first | refine g_alen (t := 0) (by decide) dX8_work_108 (by assumption) (by omega) hn ?_ | refine g_alen (t := 2) (by decide) dX8_work_108 (by assumption) (by omega) hn ?_
            refine g_icN_lt (t := 120) dX8_work_109 (by decide) (by omega) (by omega) (fun y => ?_) (fun y => by exfalso; first | omega | exact absurd rfl y | exact absurd y (by decide) | exact y (by decide) | exact absurd y (by assumption) | exact absurd (by assumption) y)
            refine g_iload dX8_work_120 rfl ?_
            refine g_if_ne (t := 140) dX8_work_122 (by decide) (fun x => ?_) (fun x => absurd x (nI_ne0 (by omega) (by omega)))
            refine g_iload dX8_work_140 rfl ?_
            refine g_iconst (v := nI 1) dX8_work_142 (by decide) ?_
            refine g_icN_ne (t := 181) dX8_work_143 (by decide) (by omega) (by omega) (fun x => ?_) (fun x => by exfalso; first | omega | exact absurd rfl x | exact absurd x (by decide) | exact x (by decide) | exact absurd x (by assumption) | exact absurd (by assumption) x)
            refine g_iload dX8_work_181 rfl ?_
            refine g_iconst (v := nI 2) dX8_work_183 (by decide) ?_
            refine g_icN_ne (t := 217) dX8_work_184 (by decide) (by omega) (by omega) (fun x => ?_) (fun x => by exfalso; first | omega | exact absurd rfl x | exact absurd x (by decide) | exact x (by decide) | exact absurd x (by assumption) | exact absurd (by assumption) x)
            refine g_iload dX8_work_217 rfl ?_
            refine g_iconst (v := nI 4) dX8_work_219 (by decide) ?_
            refine g_icN_le (t := 260) dX8_work_220 (by decide) (by omega) (by omega) (fun x => by exfalso; first | omega | exact absurd rfl x | exact absurd x (by decide) | exact x (by decide) | exact absurd x (by assumption) | exact absurd (by assumption) x) (fun x => ?_)
            first | refine g_iincD (ls' := [_, _, _, _, _, _, _, some (.int _), _, _, _, _]) dX8_work_223 (by decide) rfl (by omega) rfl ?_ | refine g_iinc (ls' := [_, _, _, _, _, _, _, some (.int _), _, _, _, _]) dX8_work_223 (by decide) rfl rfl rfl ?_
            refine g_aload_n dX8_work_226 rfl ?_
            refine g_getR dX8_work_227 fX8_11 (by assumption) rfl (by assumption) (by omega) hn ?_
            refine g_iload dX8_work_230 rfl ?_
            refine g_iconst (v := nI 1) dX8_work_232 (by decide) ?_
            first | refine g_isubN dX8_work_233 (by omega) ?_ | refine g_isub dX8_work_233 ?_
            refine g_aload_n dX8_work_234 rfl ?_
            refine g_iload dX8_work_235 rfl ?_
            refine g_aload_n dX8_work_237 rfl ?_
            refine g_getR dX8_work_238 fX8_11 (by assumption) rfl (by assumption) (by omega) hn ?_
            refine g_iload dX8_work_241 rfl ?_
            refine g_iconst (v := nI 1) dX8_work_243 (by decide) ?_
            first | refine g_isubN dX8_work_244 (by omega) ?_ | refine g_isub dX8_work_244 ?_
            refine g_iald dX8_work_245 (by assumption) rfl (by omega) (by omega) (by omega) hn ?_
            rw [WI_k hne]
            rw [show w - 1 - 1 = w - 2 by omega]
            refine g_aload_n dX8_work_246 rfl ?_
            refine g_getR dX8_work_247 fX8_11 (by assumption) rfl (by assumption) (by omega) hn ?_
            refine g_iload dX8_work_250 rfl ?_
            refine g_iald dX8_work_252 (by assumption) rfl (by omega) (by omega) (by omega) hn ?_
            rw [WI_k hne]
            refine g_virt (Z := MX8_joined) dX8_work_253 mX8_44.1 mX8_44.2 (Nat.le_of_ble_eq_true rfl) rfl rfl (Nat.le_of_ble_eq_true rfl) (Nat.le_of_ble_eq_true rfl) (by assumption) rfl rfl (by omega) hn (c_joined (s := s) (by assumption) hsn hn WI_b (by omega) hk) ?_
            rintro _ _ ⟨rfl, rfl⟩
            try dsimp only [Option.toList, List.cons_append, List.nil_append]
            unfold joI
            cases hj : jo (k + 5) (K (w - 2)) (K (w - 1)) with
            | none =>
              rw [hj] at hX
              subst hX
              rw [if_pos (show (none : Option Int32).isNone = true from rfl), WI_s]
              refine g_iast dX8_work_256 (by assumption) rfl (by omega) (by omega) (by omega) hn ?_
              rw [WI_w hne]
              refine g_goto (t := 302) dX8_work_257 (by decide) ?_
              refine g_iincN (c := 1) (ls' := [_, _, _, _, _, _, _, _, _, some (.int _), _, _]) dX8_work_302 rfl (by decide) rfl rfl ?_
              refine g_goto (t := 45) dX8_work_305 (by decide) ?_
              exact w_brk hS0 hn (by omega) (by omega) (hP _) _ _
            | some v =>
              rw [hj] at hX
              subst hX
              rw [if_neg (show ¬ (some v).isNone = true from fun h => by cases h)]
              refine g_iast dX8_work_256 (by assumption) rfl (by omega) (by omega) (by omega) hn ?_
              rw [WI_w hne]
              refine g_goto (t := 302) dX8_work_257 (by decide) ?_
              refine g_iincN (c := 1) (ls' := [_, _, _, _, _, _, _, _, _, some (.int _), _, _]) dX8_work_302 rfl (by decide) rfl rfl ?_
              refine g_goto (t := 45) dX8_work_305 (by decide) ?_
              exact ih (i + 1) nx (w - 1) _ (by omega) (by omega) hP _ _
    · rw [if_pos (Int32.not_le.mp z)] at hP
      refine g_goto (t := 302) dX8_work_66 (by decide) ?_
      refine g_iincN (c := 1) (ls' := [_, _, _, _, _, _, _, _, _, some (.int _), _, _]) dX8_work_302 rfl (by decide) rfl rfl ?_
      refine g_goto (t := 45) dX8_work_305 (by decide) ?_
      exact ih (i + 1) nx w K (by omega) hw hP _ _
end WRK
