/-! what the codes of both tell -/
theorem nI_15 {x : Nat} (h : x < 2 ^ 31) : nI x &&& nI 15 = nI (x % 16) := by
  apply Int32.toBitVec_inj.mp
  show BitVec.ofNat 32 x &&& 15#32 = BitVec.ofNat 32 (x % 16)
  apply BitVec.eq_of_toNat_eq
  have e15 : (15#32).toNat = 15 := rfl
  rw [BitVec.toNat_and, e15, BitVec.toNat_ofNat, BitVec.toNat_ofNat, Nat.mod_eq_of_lt (by omega), Nat.mod_eq_of_lt (by omega)]
  exact Nat.and_two_pow_sub_one_eq_mod x 4
theorem nI_s4 {x : Nat} (h : x < 2 ^ 31) : nI x >>> (nI 4 &&& 31) = nI (x / 16) := by
  apply Int32.toBitVec_inj.mp
  have h1 : (nI 4 &&& 31).toBitVec.smod 32 = BitVec.ofNat 32 4 := by decide +kernel
  rw [Int32.toBitVec_shiftRight, h1]
  show BitVec.sshiftRight (BitVec.ofNat 32 x) 4 = BitVec.ofNat 32 (x / 16)
  have hm : (BitVec.ofNat 32 x).msb = false := by
    rw [BitVec.msb_eq_decide, BitVec.toNat_ofNat, Nat.mod_eq_of_lt (by omega)]
    exact decide_eq_false (by omega)
  rw [BitVec.sshiftRight_eq_of_msb_false hm]
  apply BitVec.eq_of_toNat_eq
  rw [BitVec.toNat_ushiftRight, BitVec.toNat_ofNat, BitVec.toNat_ofNat, Nat.mod_eq_of_lt (by omega), Nat.mod_eq_of_lt (by omega), Nat.shiftRight_eq_div_pow]
theorem l32_inj {a b : Int32} (h : a.toInt64 = b.toInt64) : a = b := by
  apply Int32.toInt_inj.mp
  have := congrArg Int64.toInt h
  rw [Int32.toInt_toInt64, Int32.toInt_toInt64] at this
  exact this
theorem chk_map (t : Int64) : (chk t).map Int32.toInt64 = if ¬ (-1000000000 ≤ t ∧ t ≤ 1000000000) then none else some t := by
  have e1 : (-1000000000 : Int64).toInt = -1000000000 := by decide +kernel
  have e2 : (1000000000 : Int64).toInt = 1000000000 := by decide +kernel
  unfold chk
  have c1 : (1000000000 < t ∨ t < -1000000000) ↔ (1000000000 < t.toInt ∨ t.toInt < -1000000000) := by
    rw [Int64.lt_iff_toInt_lt, Int64.lt_iff_toInt_lt, e1, e2]
  have c2 : (-1000000000 ≤ t ∧ t ≤ 1000000000) ↔ (-1000000000 ≤ t.toInt ∧ t.toInt ≤ 1000000000) := by
    rw [Int64.le_iff_toInt_le, Int64.le_iff_toInt_le, e1, e2]
  by_cases h : -1000000000 ≤ t.toInt ∧ t.toInt ≤ 1000000000
  · rw [if_neg (fun z => by have := c1.mp z; omega), if_neg (fun z => z (c2.mpr h))]
    show some _ = some _
    congr 1
    apply Int64.toInt_inj.mp
    rw [Int32.toInt_toInt64, Int64.toInt_toInt32]
    exact Int.bmod_eq_of_le (by omega) (by omega)
  · rw [if_pos (c1.mpr (by omega)), if_pos (fun z => h (c2.mp z))]
    rfl
theorem rj_ok {o : Nat} {a b v : Int64} (h1 : rjb o b = false) (h2 : rjv o a b = v) : rj o a b = if ¬ (-1000000000 ≤ v ∧ v ≤ 1000000000) then none else some v := by
  unfold rj
  simp only [h1, h2, Bool.false_eq_true, false_or]
theorem rj_jo {k : Nat} (h1 : 5 ≤ k) (h2 : k ≤ 12) (a b : Int32) : rj (k + 15) a.toInt64 b.toInt64 = (jo k a b).map Int32.toInt64 := by
  have ha1 := Int32.le_toInt a
  have ha2 := Int32.toInt_lt a
  have hb1 := Int32.le_toInt b
  have hb2 := Int32.toInt_lt b
  have e1 : (-1000000000 : Int64).toInt = -1000000000 := by decide +kernel
  have e2 : (1000000000 : Int64).toInt = 1000000000 := by decide +kernel
  have b0 : b.toInt64 = 0 ↔ b = 0 := ⟨fun h => l32_inj (h.trans (show (0 : Int64) = (0 : Int32).toInt64 by decide +kernel)), fun h => by rw [h]; decide +kernel⟩
  have cmp : ∀ p : Bool, (if ¬ ((-1000000000 : Int64) ≤ (if p = true then 1 else 0) ∧ (if p = true then 1 else 0) ≤ (1000000000 : Int64)) then none else some (if p = true then (1 : Int64) else 0)) = (some (bI p)).map Int32.toInt64 := by decide +kernel
  have lt : ∀ x y : Int32, x.toInt64 < y.toInt64 ↔ x < y := fun x y => by rw [Int64.lt_iff_toInt_lt, Int32.toInt_toInt64, Int32.toInt_toInt64, Int32.lt_iff_toInt_lt]
  have hk : k = 5 ∨ k = 6 ∨ k = 7 ∨ k = 8 ∨ k = 9 ∨ k = 10 ∨ k = 11 ∨ k = 12 := by omega
  rcases hk with rfl | rfl | rfl | rfl | rfl | rfl | rfl | rfl
  · show _ = (chk _).map _
    rw [chk_map]
    exact rj_ok rfl rfl
  · show _ = (chk _).map _
    rw [chk_map]
    exact rj_ok rfl rfl
  · show _ = (chk _).map _
    rw [chk_map]
    exact rj_ok rfl rfl
  · by_cases hb : b = 0
    · have hB := b0.mpr hb
      rw [hb] at hB ⊢
      rw [hB]
      rfl
    · have hB : ¬ b.toInt64 = 0 := fun z => hb (b0.mp z)
      have hz : b.toInt ≠ 0 := fun z => hb (Int32.toInt_inj.mp z)
      have rb : rjb (8 + 15) b.toInt64 = false := by
        show (true && decide (b.toInt64 = 0)) = false
        rw [decide_eq_false hB]
        rfl
      have rv : rjv (8 + 15) a.toInt64 b.toInt64 = a.toInt64 / b.toInt64 := if_neg hB
      show _ = (if b = 0 then none else chk (a / b).toInt64).map Int32.toInt64
      rw [rj_ok rb rv, if_neg hb, chk_map]
      have q1 := Int.natAbs_tdiv_le_natAbs a.toInt b.toInt
      have t1 : (a.toInt64 / b.toInt64).toInt = a.toInt.tdiv b.toInt := by
        rw [Int64.toInt_div, Int32.toInt_toInt64, Int32.toInt_toInt64]
        exact Int.bmod_eq_of_le (by omega) (by omega)
      have t2 : (a / b).toInt64.toInt = (a.toInt.tdiv b.toInt).bmod (2 ^ 32) := by
        rw [Int32.toInt_toInt64, Int32.toInt_div]
      by_cases hq : a.toInt.tdiv b.toInt < 2 ^ 31
      · have : a.toInt64 / b.toInt64 = (a / b).toInt64 := by
          apply Int64.toInt_inj.mp
          rw [t1, t2]
          exact (Int.bmod_eq_of_le (by omega) (by omega)).symm
        rw [this]
      · have e3 : a.toInt.tdiv b.toInt = 2 ^ 31 := by omega
        rw [e3] at t1 t2
        rw [if_pos, if_pos]
        · intro z
          have := z.1
          rw [Int64.le_iff_toInt_le, t2, e1] at this
          exact absurd this (by decide)
        · intro z
          have := z.2
          rw [Int64.le_iff_toInt_le, t1, e2] at this
          exact absurd this (by decide)
  · by_cases hb : b = 0
    · have hB := b0.mpr hb
      rw [hb] at hB ⊢
      rw [hB]
      rfl
    · have hB : ¬ b.toInt64 = 0 := fun z => hb (b0.mp z)
      have hz : b.toInt ≠ 0 := fun z => hb (Int32.toInt_inj.mp z)
      have rb : rjb (9 + 15) b.toInt64 = false := by
        show (true && decide (b.toInt64 = 0)) = false
        rw [decide_eq_false hB]
        rfl
      have rv : rjv (9 + 15) a.toInt64 b.toInt64 = a.toInt64 - a.toInt64 / b.toInt64 * b.toInt64 := if_neg hB
      show _ = (if b = 0 then none else chk (a - a / b * b).toInt64).map Int32.toInt64
      rw [rj_ok rb rv, if_neg hb, chk_map]
      have q1 := Int.natAbs_tdiv_le_natAbs a.toInt b.toInt
      have t1 : (a.toInt64 / b.toInt64).toInt = a.toInt.tdiv b.toInt := by
        rw [Int64.toInt_div, Int32.toInt_toInt64, Int32.toInt_toInt64]
        exact Int.bmod_eq_of_le (by omega) (by omega)
      have tm : a.toInt - a.toInt.tdiv b.toInt * b.toInt = a.toInt.tmod b.toInt := by
        rw [Int.tmod_def, Int.mul_comm]
      have ab : (a.toInt.tmod b.toInt).natAbs ≤ a.toInt.natAbs := by rw [Int.natAbs_tmod]; exact Nat.mod_le _ _
      have ab2 : (a.toInt.tmod b.toInt).natAbs < b.toInt.natAbs := by rw [Int.natAbs_tmod]; exact Nat.mod_lt _ (by omega)
      have same : a.toInt64 - a.toInt64 / b.toInt64 * b.toInt64 = (a - a / b * b).toInt64 := by
        apply Int64.toInt_inj.mp
        rw [Int32.toInt_toInt64, Int64.toInt_sub, Int64.toInt_mul, t1, Int32.toInt_toInt64, Int32.toInt_toInt64, Int32.toInt_sub, Int32.toInt_mul, Int32.toInt_div, Int.sub_bmod_bmod, Int.sub_bmod_bmod]
        have r1 : (a.toInt - (a.toInt.tdiv b.toInt).bmod (2 ^ 32) * b.toInt).bmod (2 ^ 32) = (a.toInt - a.toInt.tdiv b.toInt * b.toInt).bmod (2 ^ 32) := by
          rw [← Int.sub_bmod_bmod, Int.bmod_mul_bmod, Int.sub_bmod_bmod]
        rw [r1, tm, Int.bmod_eq_of_le (by omega) (by omega), Int.bmod_eq_of_le (by omega) (by omega)]
      rw [same]
  · have rv : rjv (10 + 15) a.toInt64 b.toInt64 = if decide (a < b) = true then 1 else 0 := by
      show (if a.toInt64 < b.toInt64 then (1 : Int64) else 0) = _
      simp only [(lt a b), decide_eq_true_eq]
    rw [rj_ok rfl rv, cmp]
    rfl
  · have rv : rjv (11 + 15) a.toInt64 b.toInt64 = if decide (b < a) = true then 1 else 0 := by
      show (if b.toInt64 < a.toInt64 then (1 : Int64) else 0) = _
      simp only [(lt b a), decide_eq_true_eq]
    rw [rj_ok rfl rv, cmp]
    rfl
  · have eq : a.toInt64 = b.toInt64 ↔ a = b := ⟨l32_inj, fun h => by rw [h]⟩
    have rv : rjv (12 + 15) a.toInt64 b.toInt64 = if decide (a = b) = true then 1 else 0 := by
      show (if a.toInt64 = b.toInt64 then (1 : Int64) else 0) = _
      simp only [eq, decide_eq_true_eq]
    rw [rj_ok rfl rv, cmp]
    rfl
/-- a step of the class at i: skips tell how many they skip -/
def cEn (i : Nat) (x : Nat × Nat) : Int32 := nI (x.1 + 16 * (if x.1 = 3 ∨ x.1 = 4 then i + 1 + x.2 else x.2))
def AtC (st : Nat → Int32) : Nat → List (Nat × Nat) → Prop
  | _, [] => True
  | i, x :: c => st i = cEn i x ∧ AtC st (i + 1) c
/-- a step of the reference at i -/
def AtM (oc ac : Nat → Nat) : Nat → List (Nat × Nat) → Prop
  | _, [] => True
  | i, x :: c => (oc i = x.1 ∧ ac i = if x.1 = 29 ∨ x.1 = 30 then i + 1 + x.2 else x.2) ∧ AtM oc ac (i + 1) c
theorem AtC_ap {st : Nat → Int32} {e : List (Nat × Nat)} : ∀ (c : List (Nat × Nat)) (i : Nat), AtC st i (c ++ e) ↔ AtC st i c ∧ AtC st (i + c.length) e := by
  intro c
  induction c with
  | nil =>
    intro i
    exact ⟨fun h => ⟨trivial, h⟩, fun h => h.2⟩
  | cons x c ih =>
    intro i
    show (st i = cEn i x ∧ AtC st (i + 1) (c ++ e)) ↔ (st i = cEn i x ∧ AtC st (i + 1) c) ∧ AtC st (i + (c.length + 1)) e
    rw [ih, show i + 1 + c.length = i + (c.length + 1) by omega]
    exact ⟨fun h => ⟨⟨h.1, h.2.1⟩, h.2.2⟩, fun h => ⟨h.1.1, h.1.2, h.2⟩⟩
theorem AtM_ap {oc ac : Nat → Nat} {e : List (Nat × Nat)} : ∀ (c : List (Nat × Nat)) (i : Nat), AtM oc ac i (c ++ e) ↔ AtM oc ac i c ∧ AtM oc ac (i + c.length) e := by
  intro c
  induction c with
  | nil =>
    intro i
    exact ⟨fun h => ⟨trivial, h⟩, fun h => h.2⟩
  | cons x c ih =>
    intro i
    show (_ ∧ AtM oc ac (i + 1) (c ++ e)) ↔ (_ ∧ AtM oc ac (i + 1) c) ∧ AtM oc ac (i + (c.length + 1)) e
    rw [ih, show i + 1 + c.length = i + (c.length + 1) by omega]
    exact ⟨fun h => ⟨⟨h.1, h.2.1⟩, h.2.2⟩, fun h => ⟨h.1.1, h.1.2, h.2⟩⟩
theorem AtC_cg {st st' : Nat → Int32} : ∀ (c : List (Nat × Nat)) (i : Nat), (∀ j, i ≤ j → j < i + c.length → st' j = st j) → AtC st i c → AtC st' i c := by
  intro c
  induction c with
  | nil => intro _ _ _; trivial
  | cons x c ih =>
    intro i h hc
    have hl : (x :: c).length = c.length + 1 := rfl
    exact ⟨(h i (Nat.le_refl i) (by omega)).trans hc.1, ih (i + 1) (fun j h1 h2 => h j (by omega) (by omega)) hc.2⟩
theorem AtM_cg {oc ac oc' ac' : Nat → Nat} : ∀ (c : List (Nat × Nat)) (i : Nat), (∀ j, i ≤ j → j < i + c.length → oc' j = oc j ∧ ac' j = ac j) → AtM oc ac i c → AtM oc' ac' i c := by
  intro c
  induction c with
  | nil => intro _ _ _; trivial
  | cons x c ih =>
    intro i h hc
    have hl : (x :: c).length = c.length + 1 := rfl
    have h0 := h i (Nat.le_refl i) (by omega)
    exact ⟨⟨h0.1.trans hc.1.1, h0.2.trans hc.1.2⟩, ih (i + 1) (fun j h1 h2 => h j (by omega) (by omega)) hc.2⟩
section SEM
variable {st : Nat → Int32} {X : Int32 → Int32} {m i nx w a : Nat} {K : Nat → Int32}
theorem wk_op {x : Nat × Nat} {i : Nat} (h1 : x.1 ≤ 12) (h2 : x.2 ≤ 1000) (hi : i ≤ 1000) : (cEn i x &&& nI 15).toNatClampNeg = x.1 ∧ cEn i x >>> (nI 4 &&& 31) = nI (if x.1 = 3 ∨ x.1 = 4 then i + 1 + x.2 else x.2) := by
  unfold cEn
  have hb : (if x.1 = 3 ∨ x.1 = 4 then i + 1 + x.2 else x.2) ≤ 3000 := by split <;> omega
  generalize (if x.1 = 3 ∨ x.1 = 4 then i + 1 + x.2 else x.2) = y at *
  rw [nI_15 (by omega), nI_s4 (by omega), show (x.1 + 16 * y) % 16 = x.1 by omega, show (x.1 + 16 * y) / 16 = y by omega]
  exact ⟨nI_clamp (by omega), rfl⟩
theorem wk_go {x : Nat × Nat} (hs : st i = cEn i x) (h1 : x.1 ≤ 12) (h2 : x.2 ≤ 1000) (hi : i ≤ 1000) (hn : nx ≤ i) (hw : w ≤ 63) : wk st X (m + 1) i (nI nx) w K = match x.1 with
      | 0 => wk st X m (i + 1) (nI nx) (w + 1) (upK K w (nI (if x.1 = 3 ∨ x.1 = 4 then i + 1 + x.2 else x.2)))
      | 1 => wk st X m (i + 1) (nI nx) (w + 1) (upK K w (X (nI (if x.1 = 3 ∨ x.1 = 4 then i + 1 + x.2 else x.2))))
      | 2 => if w = 0 then none else wk st X m (i + 1) (nI nx) w (upK K (w - 1) (if K (w - 1) = nI 1 then nI 0 else nI 1))
      | 3 => if w = 0 then none else if K (w - 1) = nI 1 then wk st X m (i + 1) (nI (if x.1 = 3 ∨ x.1 = 4 then i + 1 + x.2 else x.2)) w K else wk st X m (i + 1) (nI nx) (w - 1) K
      | 4 => if w = 0 then none else if K (w - 1) = nI 1 then wk st X m (i + 1) (nI nx) (w - 1) K else wk st X m (i + 1) (nI (if x.1 = 3 ∨ x.1 = 4 then i + 1 + x.2 else x.2)) w K
      | k => if w < 2 then none else match jo k (K (w - 2)) (K (w - 1)) with
        | none => none
        | some v => wk st X m (i + 1) (nI nx) (w - 1) (upK K (w - 2) v) := by
  obtain ⟨e1, e2⟩ := wk_op h1 h2 hi
  conv => lhs; unfold wk
  rw [if_neg (fun z => absurd ((nI_ltI (by omega) (by omega)).mp z) (by omega)), if_neg (by omega), hs, e1, e2]
  try rfl
theorem wk_skip (hi : i < nx) (hn : nx ≤ 3000) : wk st X (m + 1) i (nI nx) w K = wk st X m (i + 1) (nI nx) w K := by
  conv => lhs; unfold wk
  rw [if_pos ((nI_ltI (by omega) (by omega)).mpr hi)]
theorem wk_skips : ∀ (l i : Nat), i + l ≤ 3000 → wk st X (l + m) i (nI (i + l)) w K = wk st X m (i + l) (nI (i + l)) w K := by
  intro l
  induction l with
  | zero =>
    intro i _
    rw [Nat.zero_add, Nat.add_zero]
  | succ l ih =>
    intro i h
    rw [show l + 1 + m = (l + m) + 1 by omega, wk_skip (by omega) h, show i + (l + 1) = i + 1 + l by omega]
    exact ih (i + 1) (by omega)
/-- a stretch of the class's steps tells v and needs h places -/
def SgC (X : Int32 → Int32) (c : List (Nat × Nat)) (v : Option Int32) (h : Nat) : Prop :=
  1 ≤ h ∧ ∀ (st : Nat → Int32) (i m nx w : Nat) (K : Nat → Int32), AtC st i c → nx ≤ i → i + c.length ≤ 1000 → w + h ≤ 63 →
    (v = none → wk st X (c.length + m) i (nI nx) w K = none) ∧
    (∀ x, v = some x → ∃ nx' K', nx' ≤ i + c.length ∧ (∀ j, j < w → K' j = K j) ∧ K' w = x ∧ wk st X (c.length + m) i (nI nx) w K = wk st X m (i + c.length) (nI nx') (w + 1) K')
theorem SgC_num (ha : a ≤ 1000) : SgC X [(0, a)] (some (nI a)) 1 := by
  refine ⟨Nat.le_refl 1, fun st i m nx w K hA hn hi hw => ⟨(fun z => by cases z), fun x hx => ?_⟩⟩
  have hi : i + 1 ≤ 1000 := hi
  refine ⟨nx, upK K w (nI a), Nat.le_succ_of_le hn, fun j hj => upK_ne (by omega), by rw [upK_at]; exact Option.some.inj hx, ?_⟩
  show wk st X (1 + m) i (nI nx) w K = _
  rw [Nat.add_comm 1 m, wk_go hA.1 (Nat.zero_le 12) ha (by omega) hn (by omega)]
  rfl
theorem SgC_word (ha : a ≤ 1000) : SgC X [(1, a)] (some (X (nI a))) 1 := by
  refine ⟨Nat.le_refl 1, fun st i m nx w K hA hn hi hw => ⟨(fun z => by cases z), fun x hx => ?_⟩⟩
  have hi : i + 1 ≤ 1000 := hi
  refine ⟨nx, upK K w (X (nI a)), Nat.le_succ_of_le hn, fun j hj => upK_ne (by omega), by rw [upK_at]; exact Option.some.inj hx, ?_⟩
  show wk st X (1 + m) i (nI nx) w K = _
  rw [Nat.add_comm 1 m, wk_go hA.1 (show 1 ≤ 12 by decide) ha (by omega) hn (by omega)]
  rfl
theorem SgC_turn {c : List (Nat × Nat)} {v : Option Int32} {h : Nat} (hc : SgC X c v h) : SgC X (c ++ [(2, 0)]) (v.map fun x => if x = nI 1 then nI 0 else nI 1) h := by
  refine ⟨hc.1, fun st i m nx w K hA hn hi hw => ?_⟩
  have h1 := hc.1
  have hl : (c ++ [(2, 0)]).length = c.length + 1 := by rw [List.length_append]; rfl
  rw [hl] at hi ⊢
  obtain ⟨hA1, hA2, -⟩ := (AtC_ap c i).mp hA
  obtain ⟨r1, r2⟩ := hc.2 st i (1 + m) nx w K hA1 hn (by omega) hw
  rw [show c.length + 1 + m = c.length + (1 + m) by omega]
  cases v with
  | none => exact ⟨fun _ => r1 rfl, fun x hx => by cases hx⟩
  | some y =>
    refine ⟨(fun z => by cases z), fun x hx => ?_⟩
    obtain ⟨nx', K', q1, q2, q3, q4⟩ := r2 y rfl
    refine ⟨nx', upK K' w (if K' w = nI 1 then nI 0 else nI 1), Nat.le_succ_of_le q1, fun j hj => by rw [upK_ne (by omega)]; exact q2 j hj, by rw [upK_at, q3]; exact Option.some.inj hx, ?_⟩
    rw [q4, Nat.add_comm 1 m, wk_go hA2 (show 2 ≤ 12 by decide) (Nat.zero_le _) (by omega) q1 (by omega)]
    show (if w + 1 = 0 then none else wk st X m (i + c.length + 1) (nI nx') (w + 1) (upK K' (w + 1 - 1) (if K' (w + 1 - 1) = nI 1 then nI 0 else nI 1))) = _
    rw [if_neg (by omega), Nat.add_sub_cancel]
    rfl
theorem SgC_join {c e : List (Nat × Nat)} {v y : Option Int32} {h g k : Nat} (hc : SgC X c v h) (he : SgC X e y g) (k1 : 5 ≤ k) (k2 : k ≤ 12) : SgC X (c ++ e ++ [(k, 0)]) (v.bind fun a => y.bind fun b => jo k a b) (h + g) := by
  have h1 := hc.1
  have g1 := he.1
  refine ⟨by omega, fun st i m nx w K hA hn hi hw => ?_⟩
  have hl : (c ++ e ++ [(k, 0)]).length = c.length + e.length + 1 := by rw [List.length_append, List.length_append]; rfl
  rw [hl] at hi ⊢
  obtain ⟨hA, hA3, -⟩ := (AtC_ap (c ++ e) i).mp hA
  obtain ⟨hA1, hA2⟩ := (AtC_ap c i).mp hA
  rw [List.length_append] at hA3
  obtain ⟨r1, r2⟩ := hc.2 st i (e.length + (1 + m)) nx w K hA1 hn (by omega) (by omega)
  rw [show c.length + e.length + 1 + m = c.length + (e.length + (1 + m)) by omega]
  cases v with
  | none => exact ⟨fun _ => r1 rfl, fun x hx => by cases hx⟩
  | some a =>
    obtain ⟨nx', K', q1, q2, q3, q4⟩ := r2 a rfl
    obtain ⟨s1, s2⟩ := he.2 st (i + c.length) (1 + m) nx' (w + 1) K' hA2 q1 (by omega) (by omega)
    rw [q4]
    cases y with
    | none => exact ⟨fun _ => s1 rfl, fun x hx => by cases hx⟩
    | some b =>
      obtain ⟨nz, K2, t1, t2, t3, t4⟩ := s2 b rfl
      have go : wk st X (1 + m) (i + c.length + e.length) (nI nz) (w + 1 + 1) K2 = match jo k (K2 w) (K2 (w + 1)) with
          | none => none
          | some v => wk st X m (i + c.length + e.length + 1) (nI nz) (w + 1) (upK K2 w v) := by
        rw [Nat.add_comm 1 m, wk_go (x := (k, 0)) (by rw [Nat.add_assoc]; exact hA3) k2 (Nat.zero_le _) (by omega) t1 (by omega)]
        have hk : k = 5 ∨ k = 6 ∨ k = 7 ∨ k = 8 ∨ k = 9 ∨ k = 10 ∨ k = 11 ∨ k = 12 := by omega
        rcases hk with rfl | rfl | rfl | rfl | rfl | rfl | rfl | rfl <;> exact if_neg (by omega)
      rw [t4, go, t2 w (by omega), q3, t3]
      show ((jo k a b = none → _) ∧ ∀ x, jo k a b = some x → _)
      cases hj : jo k a b with
      | none => exact ⟨fun _ => rfl, fun x hx => by cases hx⟩
      | some z =>
        refine ⟨(fun z => by cases z), fun x hx => ⟨nz, upK K2 w z, by omega, fun j hj => by rw [upK_ne (by omega), t2 j (by omega)]; exact q2 j hj, by rw [upK_at]; exact Option.some.inj hx, ?_⟩⟩
        rw [show i + c.length + e.length + 1 = i + (c.length + e.length + 1) by omega]
/-- or (s = 3): what is so stays; and (s = 4): what is not so stays -/
theorem SgC_skip {c e : List (Nat × Nat)} {v y : Option Int32} {h g s : Nat} (hc : SgC X c v h) (he : SgC X e y g) (hs : s = 3 ∨ s = 4) : SgC X (c ++ [(s, e.length)] ++ e) (v.bind fun a => if (a = nI 1) = (s = 3) then some a else y) (h + g) := by
  have h1 := hc.1
  have g1 := he.1
  refine ⟨by omega, fun st i m nx w K hA hn hi hw => ?_⟩
  have hl : (c ++ [(s, e.length)] ++ e).length = c.length + 1 + e.length := by rw [List.length_append, List.length_append]; rfl
  rw [hl] at hi ⊢
  obtain ⟨hA, hA2⟩ := (AtC_ap (c ++ [(s, e.length)]) i).mp hA
  obtain ⟨hA1, hA3, -⟩ := (AtC_ap c i).mp hA
  rw [List.length_append] at hA2
  have hA2 : AtC st (i + (c.length + 1)) e := hA2
  obtain ⟨r1, r2⟩ := hc.2 st i (1 + e.length + m) nx w K hA1 hn (by omega) (by omega)
  rw [show c.length + 1 + e.length + m = c.length + (1 + e.length + m) by omega]
  cases v with
  | none => exact ⟨fun _ => r1 rfl, fun x hx => by cases hx⟩
  | some a =>
    obtain ⟨nx', K', q1, q2, q3, q4⟩ := r2 a rfl
    rw [q4]
    have go : wk st X (1 + e.length + m) (i + c.length) (nI nx') (w + 1) K' = if (a = nI 1) = (s = 3) then wk st X m (i + (c.length + 1 + e.length)) (nI (i + (c.length + 1 + e.length))) (w + 1) K' else wk st X (e.length + m) (i + (c.length + 1)) (nI nx') w K' := by
      rw [show 1 + e.length + m = e.length + m + 1 by omega, wk_go (x := (s, e.length)) hA3 (by omega) (show e.length ≤ 1000 by omega) (by omega) q1 (by omega)]
      have sk : wk st X (e.length + m) (i + (c.length + 1)) (nI (i + c.length + 1 + e.length)) (w + 1) K' = wk st X m (i + (c.length + 1 + e.length)) (nI (i + (c.length + 1 + e.length))) (w + 1) K' := by
        have := wk_skips (st := st) (X := X) (m := m) (w := w + 1) (K := K') e.length (i + (c.length + 1)) (by omega)
        rw [show i + c.length + 1 + e.length = i + (c.length + 1) + e.length by omega, this, show i + (c.length + 1) + e.length = i + (c.length + 1 + e.length) by omega]
      by_cases ha : a = nI 1
      · rcases hs with rfl | rfl
        · show (if w + 1 = 0 then none else if K' w = nI 1 then wk st X (e.length + m) (i + (c.length + 1)) (nI (i + c.length + 1 + e.length)) (w + 1) K' else _) = _
          rw [if_neg (by omega), q3, if_pos ha, if_pos (by simp [ha]), sk]
        · show (if w + 1 = 0 then none else if K' w = nI 1 then wk st X (e.length + m) (i + (c.length + 1)) (nI nx') w K' else _) = _
          rw [if_neg (by omega), q3, if_pos ha, if_neg (by simp [ha])]
      · rcases hs with rfl | rfl
        · show (if w + 1 = 0 then none else if K' w = nI 1 then _ else wk st X (e.length + m) (i + (c.length + 1)) (nI nx') w K') = _
          rw [if_neg (by omega), q3, if_neg ha, if_neg (by simp [ha])]
        · show (if w + 1 = 0 then none else if K' w = nI 1 then _ else wk st X (e.length + m) (i + (c.length + 1)) (nI (i + c.length + 1 + e.length)) (w + 1) K') = _
          rw [if_neg (by omega), q3, if_neg ha, if_pos (by simp [ha]), sk]
    rw [go]
    show (((if (a = nI 1) = (s = 3) then some a else y) = none → _) ∧ ∀ x, (if (a = nI 1) = (s = 3) then some a else y) = some x → _)
    by_cases hb : (a = nI 1) = (s = 3)
    · rw [if_pos hb, if_pos hb]
      refine ⟨(fun z => by cases z), fun x hx => ⟨_, K', Nat.le_refl _, q2, by rw [q3]; exact Option.some.inj hx, rfl⟩⟩
    · rw [if_neg hb, if_neg hb]
      obtain ⟨s1, s2⟩ := he.2 st (i + (c.length + 1)) m nx' w K' hA2 (by omega) (by omega) (by omega)
      refine ⟨s1, fun x hx => ?_⟩
      obtain ⟨nz, K2, t1, t2, t3, t4⟩ := s2 x hx
      exact ⟨nz, K2, by omega, fun j hj => (t2 j hj).trans (q2 j hj), t3, by rw [t4, show i + (c.length + 1) + e.length = i + (c.length + 1 + e.length) by omega]⟩
/-- a stretch of the reference's codes tells v and needs h places -/
def SgM (lf : Nat → Nat → Int64) (c : List (Nat × Nat)) (v : Option Int64) (h : Nat) : Prop :=
  1 ≤ h ∧ ∀ (oc ac : Nat → Nat) (last k G q : Nat) (Z : Nat → Int64), AtM oc ac k c → k + c.length ≤ last → q + h ≤ 400 →
    (v = none → rk oc ac lf last (c.length + G) k q Z = some none) ∧
    (∀ x, v = some x → ∃ e Z', (∀ j, j < q → Z' j = Z j) ∧ Z' q = x ∧ rk oc ac lf last (c.length + G) k q Z = rk oc ac lf last (e + G) (k + c.length) (q + 1) Z')
section SEMM
variable {lf : Nat → Nat → Int64}
theorem SgM_leaf {o a : Nat} (ho : o < 20) : SgM lf [(o, a)] (some (lf o a)) 1 := by
  refine ⟨Nat.le_refl 1, fun oc ac last k G q Z hA hl hq => ⟨(fun z => by cases z), fun x hx => ?_⟩⟩
  have hl : k + 1 ≤ last := hl
  obtain ⟨⟨e1, e2⟩, -⟩ := hA
  rw [if_neg (show ¬ (o = 29 ∨ o = 30) by omega)] at e2
  refine ⟨0, upK Z q (lf o a), fun j hj => upK_ne (by omega), by rw [upK_at]; exact Option.some.inj hx, ?_⟩
  show rk oc ac lf last (1 + G) k q Z = _
  rw [Nat.add_comm 1 G]
  conv => lhs; unfold rk
  rw [if_neg (by omega), e1, e2, if_pos ho, if_pos (by omega), Nat.zero_add]
  rfl
theorem SgM_turn {c : List (Nat × Nat)} {v : Option Int64} {h : Nat} (hc : SgM lf c v h) : SgM lf (c ++ [(28, 0)]) (v.map fun x => 1 - x) h := by
  refine ⟨hc.1, fun oc ac last k G q Z hA hl hq => ?_⟩
  have hn : (c ++ [(28, 0)]).length = c.length + 1 := by rw [List.length_append]; rfl
  rw [hn] at hl ⊢
  obtain ⟨hA1, ⟨e1, -⟩, -⟩ := (AtM_ap c k).mp hA
  obtain ⟨r1, r2⟩ := hc.2 oc ac last k (1 + G) q Z hA1 (by omega) hq
  rw [show c.length + 1 + G = c.length + (1 + G) by omega]
  cases v with
  | none => exact ⟨fun _ => r1 rfl, fun x hx => by cases hx⟩
  | some y =>
    refine ⟨(fun z => by cases z), fun x hx => ?_⟩
    obtain ⟨e, Z', q1, q2, q3⟩ := r2 y rfl
    refine ⟨e, upK Z' q (1 - Z' q), fun j hj => by rw [upK_ne (by omega)]; exact q1 j hj, by rw [upK_at, q2]; exact Option.some.inj hx, ?_⟩
    rw [q3, show e + (1 + G) = e + G + 1 by omega]
    conv => lhs; unfold rk
    rw [if_neg (by omega), e1, if_neg (by omega), if_neg (by omega), if_pos rfl, if_neg (by omega), Nat.add_sub_cancel]
    rfl
theorem SgM_join {c e : List (Nat × Nat)} {v y : Option Int64} {h g k : Nat} (hc : SgM lf c v h) (he : SgM lf e y g) (k1 : 20 ≤ k) (k2 : k ≤ 27) : SgM lf (c ++ e ++ [(k, 0)]) (v.bind fun a => y.bind fun b => rj k a b) (h + g) := by
  have h1 := hc.1
  have g1 := he.1
  refine ⟨by omega, fun oc ac last i G q Z hA hl hq => ?_⟩
  have hn : (c ++ e ++ [(k, 0)]).length = c.length + e.length + 1 := by rw [List.length_append, List.length_append]; rfl
  rw [hn] at hl ⊢
  obtain ⟨hA, ⟨e1, -⟩, -⟩ := (AtM_ap (c ++ e) i).mp hA
  obtain ⟨hA1, hA2⟩ := (AtM_ap c i).mp hA
  rw [List.length_append, ← Nat.add_assoc] at e1
  have e1 : oc (i + c.length + e.length) = k := e1
  obtain ⟨r1, r2⟩ := hc.2 oc ac last i (e.length + (1 + G)) q Z hA1 (by omega) (by omega)
  rw [show c.length + e.length + 1 + G = c.length + (e.length + (1 + G)) by omega]
  cases v with
  | none => exact ⟨fun _ => r1 rfl, fun x hx => by cases hx⟩
  | some a =>
    obtain ⟨l, Z', q1, q2, q3⟩ := r2 a rfl
    obtain ⟨s1, s2⟩ := he.2 oc ac last (i + c.length) (l + (1 + G)) (q + 1) Z' hA2 (by omega) (by omega)
    rw [q3, show l + (e.length + (1 + G)) = e.length + (l + (1 + G)) by omega]
    cases y with
    | none => exact ⟨fun _ => s1 rfl, fun x hx => by cases hx⟩
    | some b =>
      obtain ⟨l2, Z2, t1, t2, t3⟩ := s2 b rfl
      rw [t3, show l2 + (l + (1 + G)) = l2 + l + G + 1 by omega]
      have go : rk oc ac lf last (l2 + l + G + 1) (i + c.length + e.length) (q + 1 + 1) Z2 = match rj k a b with
          | none => some none
          | some v => rk oc ac lf last (l2 + l + G) (i + (c.length + e.length + 1)) (q + 1) (upK Z2 q v) := by
        conv => lhs; unfold rk
        rw [if_neg (by omega), e1, if_neg (by omega), if_pos (by omega), if_neg (by omega), show q + 1 + 1 - 2 = q by omega, Nat.add_sub_cancel, t1 q (by omega), q2, t2, show i + c.length + e.length + 1 = i + (c.length + e.length + 1) by omega]
        try rfl
      rw [go]
      show ((rj k a b = none → _) ∧ ∀ x, rj k a b = some x → _)
      cases hj : rj k a b with
      | none => exact ⟨fun _ => rfl, fun x hx => by cases hx⟩
      | some z =>
        exact ⟨(fun z => by cases z), fun x hx => ⟨l2 + l, upK Z2 q z, fun j hj => by rw [upK_ne (by omega), t1 j (by omega)]; exact q1 j hj, by rw [upK_at]; exact Option.some.inj hx, rfl⟩⟩
theorem SgM_skip {c e : List (Nat × Nat)} {v y : Option Int64} {h g s : Nat} (hc : SgM lf c v h) (he : SgM lf e y g) (hs : s = 29 ∨ s = 30) : SgM lf (c ++ [(s, e.length)] ++ e) (v.bind fun a => if a = (if s = 29 then 0 else 1) then some a else y) (h + g) := by
  have h1 := hc.1
  have g1 := he.1
  refine ⟨by omega, fun oc ac last i G q Z hA hl hq => ?_⟩
  have hn : (c ++ [(s, e.length)] ++ e).length = c.length + 1 + e.length := by rw [List.length_append, List.length_append]; rfl
  rw [hn] at hl ⊢
  obtain ⟨hA, hA2⟩ := (AtM_ap (c ++ [(s, e.length)]) i).mp hA
  obtain ⟨hA1, ⟨e1, e2⟩, -⟩ := (AtM_ap c i).mp hA
  rw [List.length_append] at hA2
  have hA2 : AtM oc ac (i + (c.length + 1)) e := hA2
  have e1 : oc (i + c.length) = s := e1
  have e2 : ac (i + c.length) = i + (c.length + 1 + e.length) := e2.trans (by rw [if_pos (show s = 29 ∨ s = 30 from hs)]; show i + c.length + 1 + e.length = _; omega)
  obtain ⟨r1, r2⟩ := hc.2 oc ac last i (1 + e.length + G) q Z hA1 (by omega) (by omega)
  rw [show c.length + 1 + e.length + G = c.length + (1 + e.length + G) by omega]
  cases v with
  | none => exact ⟨fun _ => r1 rfl, fun x hx => by cases hx⟩
  | some a =>
    obtain ⟨l, Z', q1, q2, q3⟩ := r2 a rfl
    have go : rk oc ac lf last (l + (1 + e.length + G)) (i + c.length) (q + 1) Z' = if a = (if s = 29 then 0 else 1) then rk oc ac lf last (l + e.length + G) (i + (c.length + 1 + e.length)) (q + 1) Z' else rk oc ac lf last (e.length + (l + G)) (i + (c.length + 1)) q Z' := by
      rw [show l + (1 + e.length + G) = l + e.length + G + 1 by omega]
      conv => lhs; unfold rk
      rw [if_neg (by omega), e1, e2, if_neg (by omega), if_neg (by omega), if_neg (by omega), if_neg (by omega), Nat.add_sub_cancel, q2, show e.length + (l + G) = l + e.length + G by omega]
      rfl
    rw [q3, go]
    show (((if a = (if s = 29 then 0 else 1) then some a else y) = none → _) ∧ ∀ x, (if a = (if s = 29 then 0 else 1) then some a else y) = some x → _)
    by_cases hb : a = (if s = 29 then 0 else 1)
    · rw [if_pos hb, if_pos hb]
      exact ⟨(fun z => by cases z), fun x hx => ⟨l + e.length, Z', q1, by rw [q2]; exact Option.some.inj hx, rfl⟩⟩
    · rw [if_neg hb, if_neg hb]
      obtain ⟨s1, s2⟩ := he.2 oc ac last (i + (c.length + 1)) (l + G) q Z' hA2 (by omega) (by omega)
      refine ⟨s1, fun x hx => ?_⟩
      obtain ⟨l2, Z2, t1, t2, t3⟩ := s2 x hx
      exact ⟨l2 + l, Z2, fun j hj => (t1 j hj).trans (q1 j hj), t2, by rw [t3, show i + (c.length + 1) + e.length = i + (c.length + 1 + e.length) by omega, show l2 + (l + G) = l2 + l + G by omega]⟩
end SEMM
end SEM
/-- the reference's leaf for the class's word k, of laws, of orders -/
def wdO (md : Bool) (k : Nat) : Nat × Nat := if md = true then (if k < 4 then (k + 1, 0) else if k < 12 then (5, k - 4) else (6, k - 12)) else ([1, 2, 3, 6, 7, 9, 4, 5, 8].getD k 0, 0)
theorem wdO_lt {md : Bool} {k : Nat} (hk : k < (if md = true then 16 else 9)) : (wdO md k).1 < 20 ∧ (wdO md k).1 ≤ (if md = true then 6 else 9) ∧ (wdO md k).2 ≤ 1000 := by
  cases md with
  | true =>
    have : ∀ k, k < 16 → (wdO true k).1 < 20 ∧ (wdO true k).1 ≤ 6 ∧ (wdO true k).2 ≤ 1000 := by decide
    exact this k hk
  | false =>
    have : ∀ k, k < 9 → (wdO false k).1 < 20 ∧ (wdO false k).1 ≤ 9 ∧ (wdO false k).2 ≤ 1000 := by decide
    exact this k hk
/-- the leaves of both are alike -/
def LfR (md : Bool) (X : Int32 → Int32) (lf : Nat → Nat → Int64) : Prop := (∀ a, a ≤ 1000 → lf 0 a = (nI a).toInt64) ∧ ∀ k, k < (if md = true then 16 else 9) → lf (wdO md k).1 (wdO md k).2 = (X (nI k)).toInt64
/-- the codes of a sum (ts false) or of a test (ts true) are alike -/
def Tie (md ts : Bool) (c m : List (Nat × Nat)) (h : Nat) : Prop := ∀ X lf, LfR md X lf → ∃ v, SgC X c v h ∧ SgM lf m (v.map Int32.toInt64) h ∧ (ts = true → ∀ x, v = some x → x = nI 0 ∨ x = nI 1)
theorem Tie_num {md : Bool} {a : Nat} (ha : a ≤ 1000) : Tie md false [(0, a)] [(0, a)] 1 := fun X lf hL => ⟨some (nI a), SgC_num ha, by rw [show (some (nI a)).map Int32.toInt64 = some (lf 0 a) by rw [hL.1 a ha]; rfl]; exact SgM_leaf (by decide), (fun z => by cases z)⟩
theorem Tie_word {md : Bool} {k : Nat} (hk : k < (if md = true then 16 else 9)) : Tie md false [(1, k)] [wdO md k] 1 := fun X lf hL => ⟨some (X (nI k)), SgC_word (by have : (if md = true then 16 else 9) ≤ 16 := (by split <;> decide); omega), by rw [show (some (X (nI k))).map Int32.toInt64 = some (lf (wdO md k).1 (wdO md k).2) by rw [hL.2 k hk]; rfl]; exact SgM_leaf (wdO_lt hk).1, (fun z => by cases z)⟩
theorem Tie_join {md : Bool} {c e m l : List (Nat × Nat)} {h g k : Nat} (h1 : Tie md false c m h) (h2 : Tie md false e l g) (k1 : 5 ≤ k) (k2 : k ≤ 12) : Tie md (decide (10 ≤ k)) (c ++ e ++ [(k, 0)]) (m ++ l ++ [(k + 15, 0)]) (h + g) := by
  intro X lf hL
  obtain ⟨v, a1, a2, -⟩ := h1 X lf hL
  obtain ⟨y, b1, b2, -⟩ := h2 X lf hL
  refine ⟨_, SgC_join a1 b1 k1 k2, ?_, fun hk x hx => ?_⟩
  · have := SgM_join a2 b2 (show 20 ≤ k + 15 by omega) (show k + 15 ≤ 27 by omega)
    have e : ((v.map Int32.toInt64).bind fun a => (y.map Int32.toInt64).bind fun b => rj (k + 15) a b) = (v.bind fun a => y.bind fun b => jo k a b).map Int32.toInt64 := by
      cases v with
      | none => rfl
      | some a =>
        cases y with
        | none => rfl
        | some b => exact rj_jo k1 k2 a b
    rw [e] at this
    exact this
  · cases v with
    | none => cases hx
    | some a =>
      cases y with
      | none => cases hx
      | some b =>
        have hx : jo k a b = some x := hx
        have hk : k = 10 ∨ k = 11 ∨ k = 12 := by have := of_decide_eq_true hk; omega
        have bi : ∀ p : Bool, bI p = nI 0 ∨ bI p = nI 1 := by decide
        rcases hk with rfl | rfl | rfl <;> (have hx := Option.some.inj hx; rw [← hx]; exact bi _)
theorem Tie_turn {md : Bool} {c m : List (Nat × Nat)} {h : Nat} (h1 : Tie md true c m h) : Tie md true (c ++ [(2, 0)]) (m ++ [(28, 0)]) h := by
  intro X lf hL
  obtain ⟨v, a1, a2, a3⟩ := h1 X lf hL
  refine ⟨_, SgC_turn a1, ?_, fun _ x hx => ?_⟩
  · have := SgM_turn a2
    have e : ((v.map Int32.toInt64).map fun x => 1 - x) = (v.map fun x => if x = nI 1 then nI 0 else nI 1).map Int32.toInt64 := by
      cases v with
      | none => rfl
      | some a =>
        rcases a3 rfl a rfl with rfl | rfl <;> decide +kernel
    rw [e] at this
    exact this
  · cases v with
    | none => cases hx
    | some a =>
      have hx : (if a = nI 1 then nI 0 else nI 1) = x := Option.some.inj hx
      rw [← hx]
      split
      · exact Or.inl rfl
      · exact Or.inr rfl
/-- two turns of the reference are none of the class -/
theorem Tie_turn2 {md : Bool} {c m : List (Nat × Nat)} {h : Nat} (h1 : Tie md true c m h) : Tie md true c (m ++ [(28, 0)] ++ [(28, 0)]) h := by
  intro X lf hL
  obtain ⟨v, a1, a2, a3⟩ := h1 X lf hL
  refine ⟨v, a1, ?_, a3⟩
  have := SgM_turn (SgM_turn a2)
  have e : (((v.map Int32.toInt64).map fun x => 1 - x).map fun x => 1 - x) = v.map Int32.toInt64 := by
    cases v with
    | none => rfl
    | some a =>
      rcases a3 rfl a rfl with rfl | rfl <;> decide +kernel
  rw [e] at this
  exact this
theorem Tie_skip {md : Bool} {c e m l : List (Nat × Nat)} {h g s : Nat} (h1 : Tie md true c m h) (h2 : Tie md true e l g) (hs : s = 3 ∨ s = 4) : Tie md true (c ++ [(s, e.length)] ++ e) (m ++ [(33 - s, l.length)] ++ l) (h + g) := by
  intro X lf hL
  obtain ⟨v, a1, a2, a3⟩ := h1 X lf hL
  obtain ⟨y, b1, b2, b3⟩ := h2 X lf hL
  refine ⟨_, SgC_skip a1 b1 hs, ?_, fun _ x hx => ?_⟩
  · have := SgM_skip a2 b2 (s := 33 - s) (by omega)
    have e : ((v.map Int32.toInt64).bind fun a => if a = (if 33 - s = 29 then 0 else 1) then some a else y.map Int32.toInt64) = (v.bind fun a => if (a = nI 1) = (s = 3) then some a else y).map Int32.toInt64 := by
      cases v with
      | none => rfl
      | some a =>
        show (if a.toInt64 = (if 33 - s = 29 then 0 else 1) then some a.toInt64 else y.map Int32.toInt64) = (if (a = nI 1) = (s = 3) then some a else y).map Int32.toInt64
        have n0 : (nI 0).toInt64 = 0 := by decide +kernel
        have n1 : (nI 1).toInt64 = 1 := by decide +kernel
        have n01 : nI 0 ≠ nI 1 := by decide
        have z01 : (0 : Int64) ≠ 1 := by decide
        rcases a3 rfl a rfl with rfl | rfl <;> rcases hs with rfl | rfl
        · rw [n0, if_neg (by decide), if_neg (by simp [n01])]
        · rw [n0, if_pos (by decide), if_pos (by simp [n01])]
          show some (0 : Int64) = some (nI 0).toInt64
          rw [n0]
        · rw [n1, if_pos (by decide), if_pos (by simp)]
          show some (1 : Int64) = some (nI 1).toInt64
          rw [n1]
        · rw [n1, if_neg (by decide), if_neg (by simp)]
    rw [e] at this
    exact this
  · cases v with
    | none => cases hx
    | some a =>
      have hx : (if (a = nI 1) = (s = 3) then some a else y) = some x := hx
      by_cases hb : (a = nI 1) = (s = 3)
      · rw [if_pos hb] at hx
        exact a3 rfl x hx
      · rw [if_neg hb] at hx
        exact b3 rfl x hx
