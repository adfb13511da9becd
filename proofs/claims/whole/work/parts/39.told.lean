/-! a part of a clause; what a law tells; what it bars -/
theorem wk_cg (st : Nat → Int32) (X : Int32 → Int32) : ∀ (m i : Nat) (nx : Int32) (w : Nat) (K K' : Nat → Int32), (∀ j, j < w → K j = K' j) → wk st X m i nx w K = wk st X m i nx w K' := by
  intro m
  induction m with
  | zero =>
    intro i nx w K K' h
    unfold wk
    by_cases hw : w = 0
    · rw [if_pos hw, if_pos hw]
    · rw [if_neg hw, if_neg hw, h (w - 1) (by omega)]
  | succ m ih =>
    intro i nx w K K' h
    have hu : ∀ (j : Nat) (v : Int32), ∀ q, q < j + 1 → (∀ q, q < j → K q = K' q) → upK K j v q = upK K' j v q := by
      intro j v q hq hh
      by_cases e : q = j
      · rw [e, upK_at, upK_at]
      · rw [upK_ne e, upK_ne e]
        exact hh q (by omega)
    unfold wk
    by_cases h1 : nI i < nx
    · rw [if_pos h1, if_pos h1]
      exact ih _ _ _ _ _ h
    · rw [if_neg h1, if_neg h1]
      by_cases h2 : 64 ≤ w
      · rw [if_pos h2, if_pos h2]
      · rw [if_neg h2, if_neg h2]
        match (st i &&& nI 15).toNatClampNeg with
        | 0 => exact ih _ _ _ _ _ (fun j hj => hu w _ j hj h)
        | 1 => exact ih _ _ _ _ _ (fun j hj => hu w _ j hj h)
        | 2 =>
          show (if w = 0 then none else wk st X m (i + 1) nx w (upK K (w - 1) (if K (w - 1) = nI 1 then nI 0 else nI 1))) = (if w = 0 then none else wk st X m (i + 1) nx w (upK K' (w - 1) (if K' (w - 1) = nI 1 then nI 0 else nI 1)))
          by_cases hw : w = 0
          · rw [if_pos hw, if_pos hw]
          · rw [if_neg hw, if_neg hw, h (w - 1) (by omega)]
            exact ih _ _ _ _ _ (fun j hj => hu (w - 1) _ j (by omega) (fun q hq => h q (by omega)))
        | 3 =>
          show (if w = 0 then none else if K (w - 1) = nI 1 then wk st X m (i + 1) (st i >>> (nI 4 &&& 31)) w K else wk st X m (i + 1) nx (w - 1) K) = (if w = 0 then none else if K' (w - 1) = nI 1 then wk st X m (i + 1) (st i >>> (nI 4 &&& 31)) w K' else wk st X m (i + 1) nx (w - 1) K')
          by_cases hw : w = 0
          · rw [if_pos hw, if_pos hw]
          · rw [if_neg hw, if_neg hw, h (w - 1) (by omega)]
            split
            · exact ih _ _ _ _ _ h
            · exact ih _ _ _ _ _ (fun j hj => h j (by omega))
        | 4 =>
          show (if w = 0 then none else if K (w - 1) = nI 1 then wk st X m (i + 1) nx (w - 1) K else wk st X m (i + 1) (st i >>> (nI 4 &&& 31)) w K) = (if w = 0 then none else if K' (w - 1) = nI 1 then wk st X m (i + 1) nx (w - 1) K' else wk st X m (i + 1) (st i >>> (nI 4 &&& 31)) w K')
          by_cases hw : w = 0
          · rw [if_pos hw, if_pos hw]
          · rw [if_neg hw, if_neg hw, h (w - 1) (by omega)]
            split
            · exact ih _ _ _ _ _ (fun j hj => h j (by omega))
            · exact ih _ _ _ _ _ h
        | k + 5 =>
          show (if w < 2 then none else match jo (k + 5) (K (w - 2)) (K (w - 1)) with
            | none => none
            | some v => wk st X m (i + 1) nx (w - 1) (upK K (w - 2) v)) = (if w < 2 then none else match jo (k + 5) (K' (w - 2)) (K' (w - 1)) with
            | none => none
            | some v => wk st X m (i + 1) nx (w - 1) (upK K' (w - 2) v))
          by_cases hw : w < 2
          · rw [if_pos hw, if_pos hw]
          · rw [if_neg hw, if_neg hw, h (w - 1) (by omega), h (w - 2) (by omega)]
            cases jo (k + 5) (K' (w - 2)) (K' (w - 1)) with
            | none => rfl
            | some v => exact ih _ _ _ _ _ (fun j hj => hu (w - 2) _ j (by omega) (fun q hq => h q (by omega)))
/-- what the steps from a up to b (of sc) tell -/
def wo (st : Nat → Int32) (X : Int32 → Int32) (sc a b : Nat) : Option Int32 := wk st X (min sc b - a) a (nI a) 0 (fun _ => 0)
theorem max0 {x : Nat} (h : x < 2 ^ 31) : (if nI 0 < nI x then nI x else nI 0) = nI x := by
  split
  · rfl
  · rename_i z
    rcases Nat.eq_zero_or_pos x with rfl | hp
    · rfl
    · exact absurd (nI_lt hp h) z
theorem minN {x y : Nat} (hx : x < 2 ^ 31) (hy : y < 2 ^ 31) : (if nI y < nI x then nI y else nI x) = nI (min x y) := by
  by_cases h : y < x
  · rw [if_pos (nI_lt h hx), Nat.min_eq_right (by omega)]
  · rw [if_neg (nI_nlt (by omega) hy), Nat.min_eq_left (by omega)]
theorem maxN {x y : Nat} (hx : x < 2 ^ 31) (hy : y < 2 ^ 31) : (if nI x < nI y then nI y else nI x) = nI (max x y) := by
  by_cases h : x < y
  · rw [if_pos (nI_lt h hy), Nat.max_eq_right (by omega)]
  · rw [if_neg (nI_nlt (by omega) hx), Nat.max_eq_left (by omega)]
/-- a program that was read: sc steps, cc clauses, all sound -/
def PrV (n : Nat) (T : Nat → mT) (I : Nat → Nat → Int32) (R : Nat → Nat → Option Nat) (p sc cc : Nat) : Prop := ∃ ls lc, IsP n T R p ls lc ∧ sc ≤ ls ∧ cc * 6 ≤ lc ∧ cc ≤ 12 ∧ I p 2 = nI sc ∧ I p 3 = nI cc ∧ (∀ i, i < sc → ∃ k, k ≤ 12 ∧ I (p + 1) i &&& nI 15 = nI k) ∧ (∀ k, k < cc * 6 → ∃ a, a ≤ 400 ∧ I (p + 2) k = nI a)
/-- part w of clause c as a number -/
def ptN (cl : Nat → Int32) (c w : Nat) : Nat := (cl (c * 6 + w)).toNatClampNeg
/-- what the part w of the clause c tells -/
def woC (st cl : Nat → Int32) (X : Int32 → Int32) (sc c w : Nat) : Option Int32 := wo st X sc (ptN cl c w) (ptN cl c (w + 1))
section TOL
variable {O : mO} {d u n : Nat} {T : Nat → mT} {I : Nat → Nat → Int32} {J : Nat → Nat → Int64} {R : Nat → Nat → Option Nat} {s sk p wd lw q sc cc : Nat}
theorem c_work {c w : Nat} (hS : IsS n T R s sk) (hPv : PrV n T I R p sc cc) (hW : T wd = (0, [lw])) (hwn : wd < n) (hlw : lw ≤ 16) (hn : n ≤ oB) (e0 : p ≠ s) (e00 : p ≠ sk) (e1 : p + 1 ≠ s) (e2 : p + 1 ≠ sk) (e5 : p + 2 ≠ s) (e6 : p + 2 ≠ sk) (e3 : wd ≠ s) (e4 : wd ≠ sk) (hc : c < cc) (hw : w ≤ 4) :
    Rn O (d + 1) MX8_work [.ref s, .ref p, .int (nI c), .int (nI w), .ref wd] (hp u n T I J R) (fun r K' => r = some (.int ((woC (I (p + 1)) (I (p + 2)) (wdF (I wd) lw) sc c w).getD (nI 0))) ∧ ∃ k', K' = hp u n T (WI I sk s k' (bI (woC (I (p + 1)) (I (p + 2)) (wdF (I wd) lw) sc c w).isNone)) J R) := by
  obtain ⟨ls, lc, hP, hsl, hcl, hcc, h2, h3, hst, hpt⟩ := hPv
  obtain ⟨a, ha, ea⟩ := hpt (c * 6 + w) (by omega)
  obtain ⟨b, hb, eb⟩ := hpt (c * 6 + (w + 1)) (by omega)
  have c1 := c_part (O := O) (d := d) (u := u) (I := I) (J := J) (c := c) (w := w) hP hn (by omega) (by omega)
  have c2 := c_part (O := O) (d := d) (u := u) (I := I) (J := J) (c := c) (w := w + 1) hP hn (by omega) (by omega)
  have ep : paF (I (p + 2)) lc (c * 6 + w) = nI a := by unfold paF; rw [if_pos (by omega), ea]
  have eq : paF (I (p + 2)) lc (c * 6 + (w + 1)) = nI b := by unfold paF; rw [if_pos (by omega), eb]
  have na : ptN (I (p + 2)) c w = a := by unfold ptN; rw [ea, nI_clamp (by omega)]
  have nb : ptN (I (p + 2)) c (w + 1) = b := by unfold ptN; rw [eb, nI_clamp (by omega)]
  have hS0 := hS
  have hP0 := hP
  obtain ⟨a0, a1, b0, hsn, hkn, hne⟩ := hS
  obtain ⟨t0, t1, t2, r0, r1, hpn, h400, h72⟩ := hP
  unfold woC
  rw [na, nb]
  show Go O (d + 1) MX8_work 0 [some (.ref s), some (.ref p), some (.int (nI c)), some (.int (nI w)), some (.ref wd), none, none, none, none, none, none, none] [] _ _
  refine g_iconst (v := nI 0) dX8_work_0 (by decide) ?_
  first | refine g_aload_n dX8_work_1 rfl ?_ | refine g_aload_nN dX8_work_1 rfl ?_
  refine g_iload_n dX8_work_2 rfl ?_
  refine g_iload_n dX8_work_3 rfl ?_
  refine g_virt (Z := MX5_part) dX8_work_4 mX8_19.1 mX8_19.2 (Nat.le_of_ble_eq_true rfl) rfl rfl (Nat.le_of_ble_eq_true rfl) (Nat.le_of_ble_eq_true rfl) (by assumption) rfl rfl (by omega) hn (c1) ?_
  rintro _ _ ⟨rfl, rfl⟩
  try dsimp only [Option.toList, List.cons_append, List.nil_append]
  rw [ep]
  refine g_max dX8_work_7 mX8_25 (Nat.le_of_ble_eq_true rfl) (mNo2_h3 rfl) ?_
  rw [max0 (by omega)]
  refine g_istore (ls' := [_, _, _, _, _, some (.int _), _, _, _, _, _, _]) dX8_work_10 (by decide) rfl ?_
  first | refine g_aload_n dX8_work_12 rfl ?_ | refine g_aload_nN dX8_work_12 rfl ?_
  refine g_getI dX8_work_13 fX8_30 (by assumption) rfl (by omega) hn ?_
  rw [h2]
  first | refine g_aload_n dX8_work_16 rfl ?_ | refine g_aload_nN dX8_work_16 rfl ?_
  refine g_iload_n dX8_work_17 rfl ?_
  refine g_iload_n dX8_work_18 rfl ?_
  refine g_iconst (v := nI 1) dX8_work_19 (by decide) ?_
  first | refine g_iaddN dX8_work_20 ?_ | refine g_iadd dX8_work_20 ?_
  refine g_virt (Z := MX5_part) dX8_work_21 mX8_19.1 mX8_19.2 (Nat.le_of_ble_eq_true rfl) rfl rfl (Nat.le_of_ble_eq_true rfl) (Nat.le_of_ble_eq_true rfl) (by assumption) rfl rfl (by omega) hn (c2) ?_
  rintro _ _ ⟨rfl, rfl⟩
  try dsimp only [Option.toList, List.cons_append, List.nil_append]
  rw [eq]
  refine g_min dX8_work_24 mX8_34 (Nat.le_of_ble_eq_true rfl) (mNo2_h3 rfl) ?_
  rw [minN (by omega) (by omega)]
  refine g_istore (ls' := [_, _, _, _, _, _, some (.int _), _, _, _, _, _]) dX8_work_27 (by decide) rfl ?_
  refine g_iconst (v := nI 0) dX8_work_29 (by decide) ?_
  refine g_istore (ls' := [_, _, _, _, _, _, _, some (.int _), _, _, _, _]) dX8_work_30 (by decide) rfl ?_
  refine g_iload dX8_work_32 rfl ?_
  refine g_istore (ls' := [_, _, _, _, _, _, _, _, some (.int _), _, _, _]) dX8_work_34 (by decide) rfl ?_
  first | refine g_aload_n dX8_work_36 rfl ?_ | refine g_aload_nN dX8_work_36 rfl ?_
  refine g_iconst (v := nI 0) dX8_work_37 (by decide) ?_
  refine g_putI (c := (RX8, TX8, 2)) dX8_work_38 fX8_15 (by assumption) rfl rfl rfl rfl (fun h => absurd h (by decide)) (by omega) hn ?_
  rw [WI_0 (sk := sk)]
  refine g_iload dX8_work_41 rfl ?_
  refine g_istore (ls' := [_, _, _, _, _, _, _, _, _, some (.int _), _, _]) dX8_work_43 (by decide) rfl ?_
  have fin : ∀ K', wk (I (p + 1)) (wdF (I wd) lw) (min sc b - a) a (nI a) 0 K' = wo (I (p + 1)) (wdF (I wd) lw) sc a b := fun K' => wk_cg _ _ _ _ _ _ _ _ (fun j hj => absurd hj (Nat.not_lt_zero j))
  by_cases hab : a ≤ min sc b
  · refine w_run hS0 hP0 hW hwn hlw hn (by omega) e1 e2 e3 e4 (fun i hi => hst i (by omega)) (min sc b - a) a (nI a) 0 (I sk) (by omega) (by omega) ?_ none none
    intro K'
    rw [fin]
    exact ⟨rfl, K', rfl⟩
  · refine w_end hS0 hn (by omega) (by omega) (by omega) (by omega) ?_ none none
    have z : min sc b - a = 0 := by omega
    have e : wo (I (p + 1)) (wdF (I wd) lw) sc a b = some (nI 1) := by
      unfold wo
      rw [z]
      rfl
    rw [e]
    exact ⟨rfl, _, rfl⟩
/-- the last of the first c clauses of that kind that holds: its sum -/
def tdF (st cl : Nat → Int32) (X : Int32 → Int32) (sc : Nat) (kind : Int32) : Nat → Option Int32
  | 0 => none
  | c + 1 => if cl (c * 6) = kind ∧ (woC st cl X sc c 4).getD (nI 0) = nI 1 ∧ (woC st cl X sc c 2).isSome = true then woC st cl X sc c 2 else tdF st cl X sc kind c
/-- does one of them bar -/
def brF (st cl : Nat → Int32) (X : Int32 → Int32) (sc : Nat) : Nat → Bool
  | 0 => false
  | c + 1 => brF st cl X sc c || (decide (cl (c * 6) = nI 3) && decide ((woC st cl X sc c 4).getD (nI 0) = nI 1))
theorem WI_WI {K K' : Nat → Int32} {b b' : Int32} (h : s ≠ sk) : WI (WI I sk s K b) sk s K' b' = WI I sk s K' b' := by
  funext a j
  by_cases h1 : a = sk
  · subst h1
    rw [WI_k h, WI_k h]
  · by_cases h2 : a = s
    · subst h2
      by_cases h3 : j = 1
      · subst h3
        rw [WI_b, WI_b]
      · unfold WI
        rw [up2_nk h3, up2_nk h3, up1_na h1, up1_na h1, up2_nk h3, up1_na h1]
    · rw [WI_o h2 h1, WI_o h2 h1, WI_o h2 h1]
theorem PrV_cg {I' : Nat → Nat → Int32} (h0 : I' p = I p) (h1 : I' (p + 1) = I (p + 1)) (h2 : I' (p + 2) = I (p + 2)) (h : PrV n T I R p sc cc) : PrV n T I' R p sc cc := by
  obtain ⟨ls, lc, g⟩ := h
  refine ⟨ls, lc, ?_⟩
  rw [h0, h1, h2]
  exact g
/-- Sums 28 and its stack 29, the Court 30 and its words 31 -/
def IsC (n : Nat) (T : Nat → mT) (R : Nat → Nat → Option Nat) : Prop := (T 28 = (100 + 8, kd8) ∧ T 29 = (0, [64]) ∧ T 30 = (100 + 0, kd0) ∧ T 31 = (0, [9])) ∧ (R 28 0 = some 29 ∧ R 30 0 = some 28 ∧ R 30 1 = some 31) ∧ 32 ≤ n
/-- the ints, but for Sums -/
abbrev W8 (I : Nat → Nat → Int32) (K : Nat → Int32) (b : Int32) : Nat → Nat → Int32 := WI I 29 28 K b
theorem W8_o {a : Nat} {K : Nat → Int32} {b : Int32} (h : a < 28 ∨ 29 < a) : W8 I K b a = I a := WI_o (by omega) (by omega)
theorem W8_W8 {K K' : Nat → Int32} {b b' : Int32} : W8 (W8 I K b) K' b' = W8 I K' b' := WI_WI (by decide)
theorem W8_self : W8 I (I 29) (I 28 1) = I := by
  show WI I 29 28 (I 29) (I 28 1) = I
  funext a j
  by_cases h1 : a = 29
  · subst h1
    rw [WI_k (show (28 : Nat) ≠ 29 by decide)]
  · by_cases h2 : a = 28
    · subst h2
      by_cases h3 : j = 1
      · subst h3
        rw [WI_b]
      · unfold WI
        rw [up2_nk h3, up1_na h1]
    · rw [WI_o h2 h1]
theorem W8_hp : hp u n T I J R = hp u n T (W8 I (I 29) (I 28 1)) J R := by rw [W8_self]
theorem W8_PrV {K : Nat → Int32} {b : Int32} (hq : p + 2 < 28 ∨ 31 < p) (h : PrV n T I R p sc cc) : PrV n T (W8 I K b) R p sc cc := PrV_cg (W8_o (by omega)) (W8_o (by omega)) (W8_o (by omega)) h
theorem IsC_S (h : IsC n T R) : IsS n T R 28 29 := ⟨h.1.1, h.1.2.1, h.2.1.1, by have := h.2.2; omega, by have := h.2.2; omega, by decide⟩
theorem c_work8 {c w : Nat} (hC : IsC n T R) (hPv : PrV n T I R p sc cc) (hW : T wd = (0, [lw])) (hwn : wd < n) (hw31 : 30 < wd) (hlw : lw ≤ 16) (hn : n ≤ oB) (hq : p + 2 < 28 ∨ 31 < p) (hc : c < cc) (hw : w ≤ 4) :
    Rn O (d + 1) MX8_work [.ref 28, .ref p, .int (nI c), .int (nI w), .ref wd] (hp u n T I J R) (fun r K' => r = some (.int ((woC (I (p + 1)) (I (p + 2)) (wdF (I wd) lw) sc c w).getD (nI 0))) ∧ ∃ k', K' = hp u n T (W8 I k' (bI (woC (I (p + 1)) (I (p + 2)) (wdF (I wd) lw) sc c w).isNone)) J R) :=
  c_work (IsC_S hC) hPv hW hwn hlw hn (by omega) (by omega) (by omega) (by omega) (by omega) (by omega) (by omega) (by omega) hc hw
def lsT (k : Nat) : Int32 := ([1, 1, 0] : List Int32).getD k 0
def msT (k : Nat) : Int32 := ([99, 20, 99] : List Int32).getD k 0
def woT (k : Nat) : Int32 := ([5, 10, 10] : List Int32).getD k 0
def clT (k : Nat) (v : Int32) : Int32 := if lsT k < (if v < msT k then v else msT k) then (if v < msT k then v else msT k) else lsT k
/-- what is told: bounded, or what is told without -/
def tdV (k : Nat) (x : Option Int32) : Int32 := match x with
  | none => woT k
  | some v => clT k v
theorem c_told1 {L : Nat} {xs : Nat → Int32} {kd : Nat} (hO : O = mOl L xs) (hC : IsC n T R) (hPv : PrV n T I R p sc cc) (hn : n ≤ oB) (hq : p + 2 < 28 ∨ 31 < p) (hk : kd < 3) :
    Rn O (d + 2) MX0_told [.ref 30, .ref p, .int (nI kd)] (hp u n T I J R) (fun r K' => r = some (.int (tdV kd (tdF (I (p + 1)) (I (p + 2)) (wdF (I 31) 9) sc (nI kd) cc))) ∧ ∃ k' b, K' = hp u n T (W8 I k' b) J R) := by
  have hPv0 := hPv
  obtain ⟨ls, lc, hP, hsl, hcl, hcc, h2, h3, hst, hpt⟩ := hPv
  have c1 := fun (I' : Nat → Nat → Int32) (c : Nat) (h : c ≤ 12) => c_part (O := O) (d := d + 1) (u := u) (I := I') (J := J) (c := c) (w := 0) hP hn h (by decide)
  have c2 := fun (I' : Nat → Nat → Int32) (c w : Nat) (h : PrV n T I' R p sc cc) (hc : c < cc) (hw : w ≤ 4) => c_work8 (O := O) (d := d) (u := u) (I := I') (J := J) (c := c) (w := w) (wd := 31) (lw := 9) hC h hC.1.2.2.2 (by have := hC.2.2; omega) (by decide) (by decide) hn hq hc hw
  obtain ⟨t0, t1, t2, r0, r1, hpn, h400, h72⟩ := hP
  obtain ⟨⟨x28, x29, x30, x31⟩, ⟨y28, y30, y31⟩, h32⟩ := hC
  show Go O (d + 1 + 1) MX0_told 0 [some (.ref 30), some (.ref p), some (.int (nI kd)), none, none, none, none] [] _ _
  refine g_iload_n dX0_told_0 rfl ?_
  refine g_if_lt (t := 9) dX0_told_1 (by decide) (fun z => absurd z (nI_pos (by omega))) (fun z => ?_)
  refine g_iload_n dX0_told_4 rfl ?_
  refine g_iconst (v := nI 2) dX0_told_5 (by decide) ?_
  refine g_icN_le (t := 11) dX0_told_6 (by decide) (by omega) (by omega) (fun z => ?_) (fun z => by exfalso; first | omega | exact absurd rfl z | exact absurd z (by decide) | exact z (by decide) | exact absurd z (by assumption) | exact absurd (by assumption) z)
  first | refine g_aload_n dX0_told_11 rfl ?_ | refine g_aload_nN dX0_told_11 rfl ?_
  refine g_ifnon1 (t := 19) dX0_told_12 (by decide) ?_
  first | refine g_aload_n dX0_told_19 rfl ?_ | refine g_aload_nN dX0_told_19 rfl ?_
  refine g_getI dX0_told_20 fX0_54 (by assumption) rfl (by omega) hn ?_
  rw [h3]
  refine g_istore_n (ls' := [_, _, _, some (.int _), _, _, _]) dX0_told_23 (by decide) rfl ?_
  refine g_iload_n dX0_told_24 rfl ?_
  refine g_iconst (v := nI 1) dX0_told_25 (by decide) ?_
  refine g_isub dX0_told_26 ?_
  refine g_istore (ls' := [_, _, _, _, some (.int _), _, _]) dX0_told_27 (by decide) rfl ?_
  have key : ∀ c, c ≤ cc → ∀ (K : Nat → Int32) (b : Int32) (x5 x6 : Option Value) (P : Option Value → mH → Prop), (∀ k' b', P (some (.int (tdV kd (tdF (I (p + 1)) (I (p + 2)) (wdF (I 31) 9) sc (nI kd) c)))) (hp u n T (W8 I k' b') J R)) → Go O (d + 1 + 1) MX0_told 29 [some (.ref 30), some (.ref p), some (.int (nI kd)), some (.int (nI cc)), some (.int (nI c - nI 1)), x5, x6] [] (hp u n T (W8 I K b) J R) P := by
    intro c
    induction c with
    | zero =>
      intro _ K b x5 x6 P hP
      refine g_iload dX0_told_29 rfl ?_
      refine g_if_lt (t := 128) dX0_told_31 (by decide) (fun z => ?_) (fun z => by exfalso; first | omega | exact absurd rfl z | exact absurd z (by decide) | exact z (by decide) | exact absurd z (by assumption) | exact absurd (by assumption) z)
      refine g_gets (M := MX0_told) dX0_told_128 fX0_88 ?_
      refine g_iload_n dX0_told_131 rfl ?_
      refine g_oald (M := MX0_told) (x := (3, fun j => woT j)) dX0_told_132 (by rw [hO]; rfl) rfl (show kd < 3 from hk) (by decide) ?_
      exact g_ireturn dX0_told_133 rfl (by first | rfl | decide) (hP K b)
    | succ c ih =>
      intro hc K b x5 x6 P hP
      rw [show nI (c + 1) - nI 1 = nI c from nI_pred c]
      have nx : tdF (I (p + 1)) (I (p + 2)) (wdF (I 31) 9) sc (nI kd) (c + 1) = tdF (I (p + 1)) (I (p + 2)) (wdF (I 31) 9) sc (nI kd) c → ∀ (K : Nat → Int32) (b : Int32) (x5 x6 : Option Value), Go O (d + 1 + 1) MX0_told 122 [some (.ref 30), some (.ref p), some (.int (nI kd)), some (.int (nI cc)), some (.int (nI c)), x5, x6] [] (hp u n T (W8 I K b) J R) P := by
        intro e K b x5 x6
        rw [e] at hP
        refine g_iinc (ls' := [_, _, _, _, some (.int _), _, _]) (v := nI c - nI 1) dX0_told_122 (by decide) rfl (by rw [Int32.sub_eq_add_neg]; rfl) rfl ?_
        refine g_goto (t := 29) dX0_told_125 (by decide) ?_
        exact ih (by omega) K b x5 x6 P hP
      refine g_iload dX0_told_29 rfl ?_
      refine g_if_lt (t := 128) dX0_told_31 (by decide) (fun z => absurd z (nI_pos (by omega))) (fun z => ?_)
      first | refine g_aload_n dX0_told_34 rfl ?_ | refine g_aload_nN dX0_told_34 rfl ?_
      refine g_iload dX0_told_35 rfl ?_
      refine g_iconst (v := nI 0) dX0_told_37 (by decide) ?_
      refine g_virt (Z := MX5_part) dX0_told_38 mX0_60.1 mX0_60.2 (Nat.le_of_ble_eq_true rfl) rfl rfl (Nat.le_of_ble_eq_true rfl) (Nat.le_of_ble_eq_true rfl) (by assumption) rfl rfl (by omega) hn (c1 _ c (by omega)) ?_
      rintro _ _ ⟨rfl, rfl⟩
      try dsimp only [Option.toList, List.cons_append, List.nil_append]
      have ep : paF (I (p + 2)) lc (c * 6 + 0) = I (p + 2) (c * 6) := if_pos (by omega)
      rw [W8_o (by omega), ep]
      refine g_iload_n dX0_told_41 rfl ?_
      refine g_ic_ne (t := 49) dX0_told_42 (by decide) (fun e => ?_) (fun e => ?_)
      · refine g_iconst (v := nI 0) dX0_told_49 (by decide) ?_
        refine g_istore (ls' := [_, _, _, _, _, some (.int _), _]) dX0_told_50 (by decide) rfl ?_
        refine g_iload dX0_told_52 rfl ?_
        refine g_if_eq (t := 122) dX0_told_54 (by decide) (fun z => ?_) (fun z => by exfalso; first | omega | exact absurd rfl z | exact absurd z (by decide) | exact z (by decide) | exact absurd z (by assumption) | exact absurd (by assumption) z)
        exact nx (if_neg (fun h => e h.1)) _ _ _ _
      · refine g_iconst (v := nI 1) dX0_told_45 (by decide) ?_
        refine g_goto (t := 50) dX0_told_46 (by decide) ?_
        refine g_istore (ls' := [_, _, _, _, _, some (.int _), _]) dX0_told_50 (by decide) rfl ?_
        refine g_iload dX0_told_52 rfl ?_
        refine g_if_eq (t := 122) dX0_told_54 (by decide) (fun z => by exfalso; first | omega | exact absurd rfl z | exact absurd z (by decide) | exact z (by decide) | exact absurd z (by assumption) | exact absurd (by assumption) z) (fun z => ?_)
        first | refine g_aload_n dX0_told_57 rfl ?_ | refine g_aload_nN dX0_told_57 rfl ?_
        refine g_getR dX0_told_58 fX0_15 (by assumption) rfl (by assumption) (by omega) hn ?_
        first | refine g_aload_n dX0_told_61 rfl ?_ | refine g_aload_nN dX0_told_61 rfl ?_
        refine g_iload dX0_told_62 rfl ?_
        refine g_iconst (v := nI 4) dX0_told_64 (by decide) ?_
        first | refine g_aload_n dX0_told_65 rfl ?_ | refine g_aload_nN dX0_told_65 rfl ?_
        refine g_getR dX0_told_66 fX0_11 (by assumption) rfl (by assumption) (by omega) hn ?_
        refine g_virt (Z := MX8_work) dX0_told_69 mX0_64.1 mX0_64.2 (Nat.le_of_ble_eq_true rfl) rfl rfl (Nat.le_of_ble_eq_true rfl) (Nat.le_of_ble_eq_true rfl) (by assumption) rfl rfl (by omega) hn (c2 _ c 4 (W8_PrV hq hPv0) (by omega) (by decide)) ?_
        rintro _ _ ⟨rfl, K1, rfl⟩
        try dsimp only [Option.toList, List.cons_append, List.nil_append]
        rw [W8_W8, W8_o (by omega), W8_o (by omega), W8_o (by omega)]
        refine g_iconst (v := nI 1) dX0_told_72 (by decide) ?_
        refine g_ic_ne (t := 122) dX0_told_73 (by decide) (fun e1 => ?_) (fun e1 => ?_)
        · exact nx (if_neg (fun h => e1 h.2.1)) _ _ _ _
        · first | refine g_aload_n dX0_told_76 rfl ?_ | refine g_aload_nN dX0_told_76 rfl ?_
          refine g_getR dX0_told_77 fX0_15 (by assumption) rfl (by assumption) (by omega) hn ?_
          first | refine g_aload_n dX0_told_80 rfl ?_ | refine g_aload_nN dX0_told_80 rfl ?_
          refine g_iload dX0_told_81 rfl ?_
          refine g_iconst (v := nI 2) dX0_told_83 (by decide) ?_
          first | refine g_aload_n dX0_told_84 rfl ?_ | refine g_aload_nN dX0_told_84 rfl ?_
          refine g_getR dX0_told_85 fX0_11 (by assumption) rfl (by assumption) (by omega) hn ?_
          refine g_virt (Z := MX8_work) dX0_told_88 mX0_64.1 mX0_64.2 (Nat.le_of_ble_eq_true rfl) rfl rfl (Nat.le_of_ble_eq_true rfl) (Nat.le_of_ble_eq_true rfl) (by assumption) rfl rfl (by omega) hn (c2 _ c 2 (W8_PrV hq hPv0) (by omega) (by decide)) ?_
          rintro _ _ ⟨rfl, K2, rfl⟩
          try dsimp only [Option.toList, List.cons_append, List.nil_append]
          rw [W8_W8, W8_o (by omega), W8_o (by omega), W8_o (by omega)]
          refine g_istore (ls' := [_, _, _, _, _, _, some (.int _)]) dX0_told_91 (by decide) rfl ?_
          first | refine g_aload_n dX0_told_93 rfl ?_ | refine g_aload_nN dX0_told_93 rfl ?_
          refine g_getR dX0_told_94 fX0_15 (by assumption) rfl (by assumption) (by omega) hn ?_
          refine g_getI dX0_told_97 fX0_70 (by assumption) rfl (by omega) hn ?_
          rw [show W8 I K2 (bI (woC (I (p + 1)) (I (p + 2)) (wdF (I 31) 9) sc c 2).isNone) 28 1 = bI (woC (I (p + 1)) (I (p + 2)) (wdF (I 31) 9) sc c 2).isNone from WI_b]
          cases hx : woC (I (p + 1)) (I (p + 2)) (wdF (I 31) 9) sc c 2 with
          | none =>
            refine g_if_ne (t := 122) dX0_told_100 (by decide) (fun z => ?_) (fun z => absurd z (by decide))
            exact nx (if_neg (fun h => by have := h.2.2; rw [hx] at this; cases this)) _ _ _ _
          | some v =>
            refine g_if_ne (t := 122) dX0_told_100 (by decide) (fun z => by exfalso; first | omega | exact absurd rfl z | exact absurd z (by decide) | exact z (by decide) | exact absurd z (by assumption) | exact absurd (by assumption) z) (fun z => ?_)
            have e3 : tdF (I (p + 1)) (I (p + 2)) (wdF (I 31) 9) sc (nI kd) (c + 1) = some v := by
              rw [← hx]
              exact if_pos ⟨e, e1, by rw [hx]; rfl⟩
            rw [e3] at hP
            refine g_gets (M := MX0_told) dX0_told_103 fX0_74 ?_
            refine g_iload_n dX0_told_106 rfl ?_
            refine g_oald (M := MX0_told) (x := (3, fun j => lsT j)) dX0_told_107 (by rw [hO]; rfl) rfl (show kd < 3 from hk) (by decide) ?_
            refine g_gets (M := MX0_told) dX0_told_108 fX0_77 ?_
            refine g_iload_n dX0_told_111 rfl ?_
            refine g_oald (M := MX0_told) (x := (3, fun j => msT j)) dX0_told_112 (by rw [hO]; rfl) rfl (show kd < 3 from hk) (by decide) ?_
            refine g_iload dX0_told_113 rfl ?_
            refine g_min dX0_told_115 mX0_80 (Nat.le_of_ble_eq_true rfl) (mNo2_h3 rfl) ?_
            refine g_max dX0_told_118 mX0_85 (Nat.le_of_ble_eq_true rfl) (mNo2_h3 rfl) ?_
            exact g_ireturn dX0_told_121 rfl (by first | rfl | decide) (hP K2 _)
  rw [W8_hp]
  exact key cc (Nat.le_refl _) _ _ _ _ _ (fun k' b' => ⟨rfl, k', b', rfl⟩)
/-- the words, as they are asked for -/
def wX (l : List Int32) : Int32 → Int32 := fun ab => if inR ab 9 = true then l.getD ab.toNatClampNeg 0 else -1
theorem wX_wr {b : Nat → Int32} {l : List Int32} : wdF (wr9 b l) 9 = wX l := by
  funext ab
  unfold wdF wX
  by_cases h : inR ab 9 = true
  · rw [if_pos h, if_pos h]
    obtain ⟨k, hk, rfl⟩ := inR_ex h (by decide)
    rw [nI_clamp (by omega)]
    unfold wr9
    rw [if_pos hk]
  · rw [if_neg h, if_neg h]
def tdL (I : Nat → Nat → Int32) (lp : Option Nat) (X : Int32 → Int32) (kd : Nat) : Int32 := tdV kd (match lp with
  | none => none
  | some p => tdF (I (p + 1)) (I (p + 2)) X (I p 2).toNatClampNeg (nI kd) (I p 3).toNatClampNeg)
def brL (I : Nat → Nat → Int32) (lp : Option Nat) (X : Int32 → Int32) : Bool := match lp with
  | none => false
  | some p => brF (I (p + 1)) (I (p + 2)) X (I p 2).toNatClampNeg (I p 3).toNatClampNeg
/-- a law that can be asked -/
def LwV (n : Nat) (T : Nat → mT) (I : Nat → Nat → Int32) (R : Nat → Nat → Option Nat) (lp : Option Nat) : Prop := ∀ p, lp = some p → 97 < p ∧ ∃ sc cc, PrV n T I R p sc cc
/-- nothing but Sums has changed -/
def Sx2 (I I' : Nat → Nat → Int32) : Prop := ∀ a, a ≠ 28 → a ≠ 29 → I' a = I a
/-- nothing but Sums and the Court's words -/
def SxC (I I' : Nat → Nat → Int32) : Prop := ∀ a, a ≠ 28 → a ≠ 29 → a ≠ 31 → I' a = I a
theorem SxC.refl (I : Nat → Nat → Int32) : SxC I I := fun _ _ _ _ => rfl
theorem SxC.trans {A B C : Nat → Nat → Int32} (h : SxC A B) (k : SxC B C) : SxC A C := fun a h1 h2 h3 => (k a h1 h2 h3).trans (h a h1 h2 h3)
theorem Sx2.c {A B : Nat → Nat → Int32} (h : Sx2 A B) : SxC A B := fun a h1 h2 _ => h a h1 h2
theorem Sx2_W8 {K : Nat → Int32} {b : Int32} : Sx2 I (W8 I K b) := fun a h1 h2 => WI_o h1 h2
theorem SxC_31 {f : Nat → Int32} : SxC I (up1 I 31 f) := fun a _ _ h3 => up1_na h3
theorem LwV_cg {lp : Option Nat} {I' : Nat → Nat → Int32} (h : ∀ a, 97 < a → I' a = I a) (hl : LwV n T I R lp) : LwV n T I' R lp := by
  intro p hp
  obtain ⟨h1, sc, cc, h2⟩ := hl p hp
  exact ⟨h1, sc, cc, PrV_cg (h _ (by omega)) (h _ (by omega)) (h _ (by omega)) h2⟩
theorem tdL_cg {lp : Option Nat} {I' : Nat → Nat → Int32} {X : Int32 → Int32} {kd : Nat} (hl : LwV n T I R lp) (h : ∀ a, 97 < a → I' a = I a) : tdL I' lp X kd = tdL I lp X kd := by
  unfold tdL
  cases lp with
  | none => rfl
  | some p =>
    have := (hl p rfl).1
    dsimp only
    rw [h p (by omega), h (p + 1) (by omega), h (p + 2) (by omega)]
theorem brL_cg {lp : Option Nat} {I' : Nat → Nat → Int32} {X : Int32 → Int32} (hl : LwV n T I R lp) (h : ∀ a, 97 < a → I' a = I a) : brL I' lp X = brL I lp X := by
  unfold brL
  cases lp with
  | none => rfl
  | some p =>
    have := (hl p rfl).1
    dsimp only
    rw [h p (by omega), h (p + 1) (by omega), h (p + 2) (by omega)]
theorem c_told {L : Nat} {xs : Nat → Int32} {kd : Nat} {lp : Option Nat} (hO : O = mOl L xs) (hC : IsC n T R) (hl : LwV n T I R lp) (hn : n ≤ oB) (hk : kd < 3) :
    Rn O (d + 2) MX0_told [.ref 30, va_rf lp, .int (nI kd)] (hp u n T I J R) (fun r K' => r = some (.int (tdL I lp (wdF (I 31) 9) kd)) ∧ ∃ I', K' = hp u n T I' J R ∧ Sx2 I I') := by
  cases lp with
  | some p =>
    obtain ⟨h97, sc, cc, hPv⟩ := hl p rfl
    have e2 : (I p 2).toNatClampNeg = sc ∧ (I p 3).toNatClampNeg = cc := by
      obtain ⟨ls, lc, hP, hsl, hcl, hcc, h2, h3, -⟩ := hPv
      have := hP.2.2.2.2.2.2.1
      rw [h2, h3]
      exact ⟨nI_clamp (by omega), nI_clamp (by omega)⟩
    refine Rn.mono (c_told1 (d := d) hO hC hPv hn (Or.inr (by omega)) hk) (Nat.le_refl _) ?_
    rintro r K' ⟨h1, k', b, h2⟩
    refine ⟨?_, _, h2, Sx2_W8⟩
    rw [h1]
    unfold tdL
    dsimp only
    rw [e2.1, e2.2]
  | none =>
    obtain ⟨⟨x28, x29, x30, x31⟩, ⟨y28, y30, y31⟩, h32⟩ := hC
    show Go O (d + 2) MX0_told 0 [some (.ref 30), some .null, some (.int (nI kd)), none, none, none, none] [] _ _
    refine g_iload_n dX0_told_0 rfl ?_
    refine g_if_lt (t := 9) dX0_told_1 (by decide) (fun z => absurd z (nI_pos (by omega))) (fun z => ?_)
    refine g_iload_n dX0_told_4 rfl ?_
    refine g_iconst (v := nI 2) dX0_told_5 (by decide) ?_
    refine g_icN_le (t := 11) dX0_told_6 (by decide) (by omega) (by omega) (fun z => ?_) (fun z => by exfalso; first | omega | exact absurd rfl z | exact absurd z (by decide) | exact z (by decide) | exact absurd z (by assumption) | exact absurd (by assumption) z)
    refine g_aload_nN dX0_told_11 rfl ?_
    refine g_ifnon0 dX0_told_12 ?_
    refine g_iconst (v := nI 0) dX0_told_15 (by decide) ?_
    refine g_goto (t := 23) dX0_told_16 (by decide) ?_
    refine g_istore_n (ls' := [_, _, _, some (.int _), _, _, _]) dX0_told_23 (by decide) rfl ?_
    refine g_iload_n dX0_told_24 rfl ?_
    refine g_iconst (v := nI 1) dX0_told_25 (by decide) ?_
    refine g_isub dX0_told_26 ?_
    refine g_istore (ls' := [_, _, _, _, some (.int _), _, _]) dX0_told_27 (by decide) rfl ?_
    refine g_iload dX0_told_29 rfl ?_
    refine g_if_lt (t := 128) dX0_told_31 (by decide) (fun z => ?_) (fun z => by exfalso; first | omega | exact absurd rfl z | exact absurd z (by decide) | exact z (by decide) | exact absurd z (by assumption) | exact absurd (by assumption) z)
    refine g_gets (M := MX0_told) dX0_told_128 fX0_88 ?_
    refine g_iload_n dX0_told_131 rfl ?_
    refine g_oald (M := MX0_told) (x := (3, fun j => woT j)) dX0_told_132 (by rw [hO]; rfl) rfl (show kd < 3 from hk) (by decide) ?_
    exact g_ireturn dX0_told_133 rfl (by first | rfl | decide) ⟨rfl, I, rfl, fun _ _ _ => rfl⟩
theorem c_bars {lp : Option Nat} (hC : IsC n T R) (hl : LwV n T I R lp) (hn : n ≤ oB) :
    Rn O (d + 2) MX0_bars [.ref 30, va_rf lp] (hp u n T I J R) (fun r K' => r = some (.int (bI (brL I lp (wdF (I 31) 9)))) ∧ ∃ I', K' = hp u n T I' J R ∧ Sx2 I I') := by
  cases lp with
  | some p =>
    obtain ⟨h97, sc, cc, hPv⟩ := hl p rfl
    have hPv0 := hPv
    obtain ⟨ls, lc, hP, hsl, hcl, hcc, h2, h3, hst, hpt⟩ := hPv
    have h4 := hP.2.2.2.2.2.2.1
    have e2 : brL I (some p) (wdF (I 31) 9) = brF (I (p + 1)) (I (p + 2)) (wdF (I 31) 9) sc cc := by
      unfold brL
      dsimp only
      rw [h2, h3, nI_clamp (by omega), nI_clamp (by omega)]
    rw [e2]
    have c1 := fun (I' : Nat → Nat → Int32) (c : Nat) (h : c ≤ 12) => c_part (O := O) (d := d + 1) (u := u) (I := I') (J := J) (c := c) (w := 0) hP hn h (by decide)
    have c2 := fun (I' : Nat → Nat → Int32) (c w : Nat) (h : PrV n T I' R p sc cc) (hc : c < cc) (hw : w ≤ 4) => c_work8 (O := O) (d := d) (u := u) (I := I') (J := J) (c := c) (w := w) (wd := 31) (lw := 9) hC h hC.1.2.2.2 (by have := hC.2.2; omega) (by decide) (by decide) hn (Or.inr (by omega)) hc hw
    obtain ⟨t0, t1, t2, r0, r1, hpn, h400, h72⟩ := hP
    obtain ⟨⟨x28, x29, x30, x31⟩, ⟨y28, y30, y31⟩, h32⟩ := hC
    show Go O (d + 1 + 1) MX0_bars 0 [some (.ref 30), some (.ref p), none, none, none] [] _ _
    first | refine g_aload_n dX0_bars_0 rfl ?_ | refine g_aload_nN dX0_bars_0 rfl ?_
    refine g_ifnon1 (t := 8) dX0_bars_1 (by decide) ?_
    first | refine g_aload_n dX0_bars_8 rfl ?_ | refine g_aload_nN dX0_bars_8 rfl ?_
    refine g_getI dX0_bars_9 fX0_54 (by assumption) rfl (by omega) hn ?_
    rw [h3]
    refine g_istore_n (ls' := [_, _, some (.int _), _, _]) dX0_bars_12 (by decide) rfl ?_
    refine g_iconst (v := nI 0) dX0_bars_13 (by decide) ?_
    refine g_istore_n (ls' := [_, _, _, some (.int _), _]) dX0_bars_14 (by decide) rfl ?_
    have key : ∀ m c, c + m = cc → brF (I (p + 1)) (I (p + 2)) (wdF (I 31) 9) sc c = false → ∀ (I1 : Nat → Nat → Int32) (x4 : Option Value), (I1 = I ∨ ∃ K b, I1 = W8 I K b) → Go O (d + 1 + 1) MX0_bars 15 [some (.ref 30), some (.ref p), some (.int (nI cc)), some (.int (nI c)), x4] [] (hp u n T I1 J R) (fun r K' => r = some (.int (bI (brF (I (p + 1)) (I (p + 2)) (wdF (I 31) 9) sc cc))) ∧ ∃ I', K' = hp u n T I' J R ∧ Sx2 I I') := by
      intro m
      induction m with
      | zero =>
        intro c hc hf I1 x4 h1
        have hc' : c = cc := by omega
        subst hc'
        refine g_iload_n dX0_bars_15 rfl ?_
        refine g_iload_n dX0_bars_16 rfl ?_
        refine g_icN_ge (t := 68) dX0_bars_17 (by decide) (by omega) (by omega) (fun z => ?_) (fun z => by exfalso; first | omega | exact absurd rfl z | exact absurd z (by decide) | exact z (by decide) | exact absurd z (by assumption) | exact absurd (by assumption) z)
        refine g_iconst (v := nI 0) dX0_bars_68 (by decide) ?_
        refine g_ireturn dX0_bars_69 rfl (by decide) ⟨by rw [hf]; rfl, I1, rfl, ?_⟩
        rcases h1 with rfl | ⟨K, b, rfl⟩
        · exact fun _ _ _ => rfl
        · exact Sx2_W8
      | succ m ih =>
        intro c hc hf I1 x4 h1
        have o1 : I1 (p + 1) = I (p + 1) ∧ I1 (p + 2) = I (p + 2) ∧ I1 31 = I 31 ∧ PrV n T I1 R p sc cc ∧ ∀ K b, W8 I1 K b = W8 I K b := by
          rcases h1 with rfl | ⟨K, b, rfl⟩
          · exact ⟨rfl, rfl, rfl, hPv0, fun _ _ => rfl⟩
          · exact ⟨W8_o (by omega), W8_o (by omega), W8_o (by omega), W8_PrV (Or.inr (by omega)) hPv0, fun _ _ => W8_W8⟩
        obtain ⟨o1, o2, o3, o4, o5⟩ := o1
        have hF : ∀ x, brF (I (p + 1)) (I (p + 2)) (wdF (I 31) 9) sc (c + 1) = x ↔ (decide (I (p + 2) (c * 6) = nI 3) && decide ((woC (I (p + 1)) (I (p + 2)) (wdF (I 31) 9) sc c 4).getD (nI 0) = nI 1)) = x := by
          intro x
          show (brF _ _ _ _ c || _) = x ↔ _
          rw [hf, Bool.false_or]
        refine g_iload_n dX0_bars_15 rfl ?_
        refine g_iload_n dX0_bars_16 rfl ?_
        refine g_icN_ge (t := 68) dX0_bars_17 (by decide) (by omega) (by omega) (fun z => by exfalso; first | omega | exact absurd rfl z | exact absurd z (by decide) | exact z (by decide) | exact absurd z (by assumption) | exact absurd (by assumption) z) (fun z => ?_)
        first | refine g_aload_n dX0_bars_20 rfl ?_ | refine g_aload_nN dX0_bars_20 rfl ?_
        refine g_iload_n dX0_bars_21 rfl ?_
        refine g_iconst (v := nI 0) dX0_bars_22 (by decide) ?_
        refine g_virt (Z := MX5_part) dX0_bars_23 mX0_60.1 mX0_60.2 (Nat.le_of_ble_eq_true rfl) rfl rfl (Nat.le_of_ble_eq_true rfl) (Nat.le_of_ble_eq_true rfl) (by assumption) rfl rfl (by omega) hn (c1 _ c (by omega)) ?_
        rintro _ _ ⟨rfl, rfl⟩
        try dsimp only [Option.toList, List.cons_append, List.nil_append]
        have ep : paF (I (p + 2)) lc (c * 6 + 0) = I (p + 2) (c * 6) := if_pos (by omega)
        rw [o2, ep]
        refine g_iconst (v := nI 3) dX0_bars_26 (by decide) ?_
        refine g_ic_ne (t := 34) dX0_bars_27 (by decide) (fun e => ?_) (fun e => ?_)
        · refine g_iconst (v := nI 0) dX0_bars_34 (by decide) ?_
          refine g_istore (ls' := [_, _, _, _, some (.int _)]) dX0_bars_35 (by decide) rfl ?_
          refine g_iload dX0_bars_37 rfl ?_
          refine g_if_eq (t := 62) dX0_bars_39 (by decide) (fun z => ?_) (fun z => by exfalso; first | omega | exact absurd rfl z | exact absurd z (by decide) | exact z (by decide) | exact absurd z (by assumption) | exact absurd (by assumption) z)
          refine g_iincN (c := 1) (ls' := [_, _, _, some (.int _), _]) dX0_bars_62 rfl (by decide) rfl rfl ?_
          refine g_goto (t := 15) dX0_bars_65 (by decide) ?_
          exact ih (c + 1) (by omega) ((hF _).mpr (by rw [decide_eq_false e]; rfl)) I1 _ h1
        · refine g_iconst (v := nI 1) dX0_bars_30 (by decide) ?_
          refine g_goto (t := 35) dX0_bars_31 (by decide) ?_
          refine g_istore (ls' := [_, _, _, _, some (.int _)]) dX0_bars_35 (by decide) rfl ?_
          refine g_iload dX0_bars_37 rfl ?_
          refine g_if_eq (t := 62) dX0_bars_39 (by decide) (fun z => by exfalso; first | omega | exact absurd rfl z | exact absurd z (by decide) | exact z (by decide) | exact absurd z (by assumption) | exact absurd (by assumption) z) (fun z => ?_)
          first | refine g_aload_n dX0_bars_42 rfl ?_ | refine g_aload_nN dX0_bars_42 rfl ?_
          refine g_getR dX0_bars_43 fX0_15 (by assumption) rfl (by assumption) (by omega) hn ?_
          first | refine g_aload_n dX0_bars_46 rfl ?_ | refine g_aload_nN dX0_bars_46 rfl ?_
          refine g_iload_n dX0_bars_47 rfl ?_
          refine g_iconst (v := nI 4) dX0_bars_48 (by decide) ?_
          first | refine g_aload_n dX0_bars_49 rfl ?_ | refine g_aload_nN dX0_bars_49 rfl ?_
          refine g_getR dX0_bars_50 fX0_11 (by assumption) rfl (by assumption) (by omega) hn ?_
          refine g_virt (Z := MX8_work) dX0_bars_53 mX0_64.1 mX0_64.2 (Nat.le_of_ble_eq_true rfl) rfl rfl (Nat.le_of_ble_eq_true rfl) (Nat.le_of_ble_eq_true rfl) (by assumption) rfl rfl (by omega) hn (c2 _ c 4 o4 (by omega) (by decide)) ?_
          rintro _ _ ⟨rfl, K1, rfl⟩
          try dsimp only [Option.toList, List.cons_append, List.nil_append]
          rw [o5, o1, o2, o3]
          refine g_iconst (v := nI 1) dX0_bars_56 (by decide) ?_
          refine g_ic_ne (t := 62) dX0_bars_57 (by decide) (fun e1 => ?_) (fun e1 => ?_)
          · refine g_iincN (c := 1) (ls' := [_, _, _, some (.int _), _]) dX0_bars_62 rfl (by decide) rfl rfl ?_
            refine g_goto (t := 15) dX0_bars_65 (by decide) ?_
            exact ih (c + 1) (by omega) ((hF _).mpr (by rw [decide_eq_false e1, Bool.and_false])) _ _ (Or.inr ⟨_, _, rfl⟩)
          · refine g_iconst (v := nI 1) dX0_bars_60 (by decide) ?_
            have ht : brF (I (p + 1)) (I (p + 2)) (wdF (I 31) 9) sc cc = true := by
              have h1 : brF (I (p + 1)) (I (p + 2)) (wdF (I 31) 9) sc (c + 1) = true := (hF _).mpr (by rw [decide_eq_true e, decide_eq_true e1]; rfl)
              have h2 : ∀ j, brF (I (p + 1)) (I (p + 2)) (wdF (I 31) 9) sc (c + 1 + j) = true := by
                intro j
                induction j with
                | zero => exact h1
                | succ j jh =>
                  show (brF _ _ _ _ (c + 1 + j) || _) = true
                  rw [jh, Bool.true_or]
              have := h2 (cc - (c + 1))
              rwa [show c + 1 + (cc - (c + 1)) = cc by omega] at this
            exact g_ireturn dX0_bars_61 rfl (by decide) ⟨by rw [ht]; rfl, _, rfl, Sx2_W8⟩
    exact key cc 0 (by omega) rfl I none (Or.inl rfl)
  | none =>
    obtain ⟨⟨x28, x29, x30, x31⟩, ⟨y28, y30, y31⟩, h32⟩ := hC
    show Go O (d + 2) MX0_bars 0 [some (.ref 30), some .null, none, none, none] [] _ _
    refine g_aload_nN dX0_bars_0 rfl ?_
    refine g_ifnon0 dX0_bars_1 ?_
    refine g_iconst (v := nI 0) dX0_bars_4 (by decide) ?_
    refine g_goto (t := 12) dX0_bars_5 (by decide) ?_
    refine g_istore_n (ls' := [_, _, some (.int _), _, _]) dX0_bars_12 (by decide) rfl ?_
    refine g_iconst (v := nI 0) dX0_bars_13 (by decide) ?_
    refine g_istore_n (ls' := [_, _, _, some (.int _), _]) dX0_bars_14 (by decide) rfl ?_
    refine g_iload_n dX0_bars_15 rfl ?_
    refine g_iload_n dX0_bars_16 rfl ?_
    refine g_icN_ge (t := 68) dX0_bars_17 (by decide) (by omega) (by omega) (fun z => ?_) (fun z => by exfalso; first | omega | exact absurd rfl z | exact absurd z (by decide) | exact z (by decide) | exact absurd z (by assumption) | exact absurd (by assumption) z)
    refine g_iconst (v := nI 0) dX0_bars_68 (by decide) ?_
    exact g_ireturn dX0_bars_69 rfl (by decide) ⟨rfl, I, rfl, fun _ _ _ => rfl⟩
end TOL
