/-! calls: keep -/
theorem nI_div {a b : Nat} (ha : a < 2 ^ 30) (hb : b < 2 ^ 30) : nI a / nI b = nI (a / b) := by
  apply Int32.toInt_inj.mp
  have := Nat.div_le_self a b
  rw [Int32.toInt_div, nI_toI (by omega), nI_toI (by omega), nI_toI (by omega), ← Int.ofNat_tdiv]
  exact bm32 (Int.natCast_nonneg _) (by omega)
theorem nI_mx {a b : Nat} (ha : a < 2 ^ 30) (hb : b < 2 ^ 30) : (if nI 0 < nI a - nI b then nI a - nI b else nI 0) = nI (a - b) := by
  by_cases h : b ≤ a
  · rw [nI_sub h]
    by_cases e : a - b = 0
    · rw [e]
      split <;> rfl
    · rw [if_pos ((nI_ltI (by omega) (by omega)).mpr (by omega))]
  · have : ¬ nI 0 < nI a - nI b := by
      rw [Int32.lt_iff_toInt_lt, Int32.toInt_sub, nI_toI (by omega), nI_toI (by omega), nI_toI (by omega)]
      have e : ((a : Int) - (b : Int)).bmod (2 ^ 32) = (a : Int) - b := Int.bmod_eq_of_le (by omega) (by omega)
      rw [e]
      omega
    rw [if_neg this, show a - b = 0 by omega]
def popN (b : Nat) : Nat := (onF (nI b) 8).toNatClampNeg
theorem pop_all : ∀ b, b < 256 → onF (nI b) 8 = nI (popN b) ∧ popN b ≤ 8 := by decide +kernel
theorem pop_bc {b : Nat} (h : b < 256) : bcF (nI b) = nI (popN b) := (bits_bc b h).trans (pop_all b h).1
theorem df_all : ∀ a, a < 9 → ∀ b, b < 9 → (0 < nI a - nI b ↔ b < a) ∧ (nI a - nI b = 0 ↔ b = a) := by decide +kernel
theorem kb_tb {s k : Nat} (hk : k < 8) : kb (nI s) k = if s.testBit k = true then nI 1 else nI 0 := by
  rw [kb_eq _ hk, btI_nI, decide_eq_true (show k < 32 by omega), Bool.true_and]
theorem tb_lt {s D i : Nat} (hs : s < 2 ^ D) (hi : s.testBit i = true) : i < D := by
  apply Nat.lt_of_not_le
  intro h
  rw [Nat.testBit_lt_two_pow (Nat.lt_of_lt_of_le hs (Nat.pow_le_pow_right (by decide) h))] at hi
  cases hi
theorem sub_iff {s o : Nat} (hs : s < 256) : nI s &&& (nI o ^^^ -1) = 0 ↔ ∀ i, s.testBit i = true → o.testBit i = true := by
  constructor
  · intro h i hi
    have i8 : i < 8 := tb_lt (D := 8) hs hi
    have := congrArg (fun x => btI x i) h
    rw [btI_and, btI_xor, btI_nI, btI_nI, btI_m1 i (by omega), decide_eq_true (show i < 32 by omega), hi, show btI (0 : Int32) i = false from btI_0 i] at this
    revert this
    cases o.testBit i <;> decide
  · intro h
    apply btI_ext
    intro i hi
    rw [btI_and, btI_xor, btI_nI, btI_nI, btI_m1 i hi, decide_eq_true hi, show btI (0 : Int32) i = false from btI_0 i]
    have := h i
    revert this
    cases s.testBit i <;> cases o.testBit i <;> decide
theorem sub_le {s o : Nat} (h : ∀ i, s.testBit i = true → o.testBit i = true) : s ≤ o := by
  have : s = s &&& o := by
    apply Nat.eq_of_testBit_eq
    intro i
    rw [Nat.testBit_and]
    have := h i
    revert this
    cases s.testBit i <;> cases o.testBit i <;> decide
  rw [this]
  exact Nat.and_le_right
/-- what a set costs -/
def csN (kc : Nat → Nat) (s : Nat) : Nat → Nat
  | 0 => 0
  | k + 1 => csN kc s k + (if s.testBit k = true then kc k else 0)
theorem csN_s (kc : Nat → Nat) (s k : Nat) : csN kc s (k + 1) = csN kc s k + (if s.testBit k = true then kc k else 0) := rfl
theorem csN_cg {kc kc' : Nat → Nat} {s : Nat} : ∀ {k : Nat}, (∀ j, j < k → s.testBit j = true → kc' j = kc j) → csN kc' s k = csN kc s k
  | 0, _ => rfl
  | k + 1, h => by
    have ih := csN_cg (k := k) (fun j hj => h j (by omega))
    rw [csN_s, csN_s, ih]
    by_cases e : s.testBit k = true
    · rw [if_pos e, if_pos e, h k (by omega) e]
    · rw [if_neg e, if_neg e]
theorem csN_le {kc : Nat → Nat} {s B : Nat} (h : ∀ j, kc j ≤ B) : ∀ k, csN kc s k ≤ k * B
  | 0 => Nat.zero_le _
  | k + 1 => by
    have ih := csN_le (s := s) h k
    have := h k
    rw [csN_s, Nat.add_mul, Nat.one_mul]
    split <;> omega
theorem csN_ge {kc : Nat → Nat} {s i : Nat} (hi : s.testBit i = true) : ∀ {k : Nat}, i < k → kc i ≤ csN kc s k
  | 0, h => absurd h (Nat.not_lt_zero i)
  | k + 1, h => by
    rw [csN_s]
    by_cases e : i = k
    · subst e
      rw [if_pos hi]
      omega
    · have := csN_ge (kc := kc) hi (k := k) (by omega)
      omega
theorem csN_hi {kc : Nat → Nat} {s D : Nat} (hs : s < 2 ^ D) : ∀ k, csN kc s (D + k) = csN kc s D
  | 0 => rfl
  | k + 1 => by
    rw [← Nat.add_assoc, csN_s, csN_hi hs k, if_neg (fun z => absurd (tb_lt hs z) (by omega))]
    rfl
/-- the best so far -/
def kpB (o : Nat) (cst : Nat → Nat) (m s : Nat) : Bool := decide (nI s &&& (nI o ^^^ -1) = 0) && decide (cst s ≤ m)
def kpS (o : Nat) (cst : Nat → Nat) (m : Nat) : Nat → Nat × Nat
  | 0 => (0, 0)
  | k + 1 => if kpB o cst m (k + 1) = true ∧ (popN (kpS o cst m k).1 < popN (k + 1) ∨ popN (kpS o cst m k).1 = popN (k + 1) ∧ cst (k + 1) < (kpS o cst m k).2) then (k + 1, cst (k + 1)) else kpS o cst m k
theorem kpS_s (o : Nat) (cst : Nat → Nat) (m k : Nat) : kpS o cst m (k + 1) = if kpB o cst m (k + 1) = true ∧ (popN (kpS o cst m k).1 < popN (k + 1) ∨ popN (kpS o cst m k).1 = popN (k + 1) ∧ cst (k + 1) < (kpS o cst m k).2) then (k + 1, cst (k + 1)) else kpS o cst m k := rfl
theorem kpS_le {o : Nat} {cst : Nat → Nat} {m B : Nat} (hB : ∀ s, cst s ≤ B) : ∀ k, (kpS o cst m k).1 ≤ k ∧ (kpS o cst m k).2 ≤ B
  | 0 => ⟨Nat.le_refl 0, Nat.zero_le B⟩
  | k + 1 => by
    have ih := kpS_le (o := o) (m := m) hB k
    have := hB (k + 1)
    rw [kpS_s]
    split
    · exact ⟨Nat.le_refl _, this⟩
    · exact ⟨by omega, ih.2⟩
theorem kpS_hi {o : Nat} {cst : Nat → Nat} {m : Nat} : ∀ k, o + k < 256 → kpS o cst m (o + k) = kpS o cst m o
  | 0, _ => rfl
  | k + 1, h => by
    rw [← Nat.add_assoc, kpS_s, kpS_hi k (by omega), if_neg]
    intro z
    have z1 := z.1
    unfold kpB at z1
    rw [Bool.and_eq_true] at z1
    have := sub_le ((sub_iff (by omega)).mp (of_decide_eq_true z1.1))
    omega
section KP
variable {O : mO} {L : Nat} {xs : Nat → Int32} {c d u n : Nat} {T : Nat → mT} {I : Nat → Nat → Int32} {J : Nat → Nat → Int64} {R : Nat → Nat → Option Nat} {g V F D S N s k f y m : Nat} {w : Nat → Int32} {K : mH}
/-- one of the family's, who is in -/
def kpO (w : Nat → Int32) (f d : Nat) : Bool := decide (w (42 + d) = nI f) && decide (w (9 + d) ≠ -1)
/-- what it costs to keep one so long -/
def kpC (w : Nat → Int32) (D y d : Nat) : Nat := ((y - nv w (17 + d)) + (laR w D d).toNatClampNeg - 1) / (laR w D d).toNatClampNeg * (prR w D d).toNatClampNeg
def kpK (w : Nat → Int32) (D f y d : Nat) : Nat := if kpO w f d = true then kpC w D y d else 0
def kpR (w : Nat → Int32) (D f y d : Nat) : Nat := if kpO w f d = true then kpC w D y d else 100000000
theorem kpC_le (hy : y ≤ 99) (d : Nat) : kpC w D y d ≤ 20000 := by
  obtain ⟨p, p1, p2, ep⟩ := prR_n w D d
  obtain ⟨l, l1, l2, el⟩ := laR_n w D d
  unfold kpC
  rw [ep, el, nI_clamp (by omega), nI_clamp (by omega)]
  have h1 := Nat.div_le_self (y - nv w (17 + d) + l - 1) l
  have h2 : (y - nv w (17 + d) + l - 1) / l ≤ 118 := by omega
  have := Nat.mul_le_mul h2 p2
  omega
theorem kpK_le (hy : y ≤ 99) (d : Nat) : kpK w D f y d ≤ 20000 := by
  unfold kpK
  split
  · exact kpC_le hy d
  · omega
theorem kpR_le (hy : y ≤ 99) (d : Nat) : kpR w D f y d ≤ 100000000 := by
  have := kpC_le (w := w) (D := D) hy d
  unfold kpR
  split <;> omega
/-- the family's own, as a set -/
theorem kp_own (hG : Gnd n T I R g w V F D S N) (hw : Wf w V F D S N) : lyF (I (g + 3)) (nI f) D &&& afF (I (g + 5)) (nI 0) D = nI (stN (kpO w f) D) := by
  have h8 := hw.1
  obtain ⟨-, q1, q2, q3, q4, q5, q6, q7, -⟩ := id hG
  rw [lyF_st _ _ D h8.2.2.1, afF_st _ _ D h8.2.2.1, st_and]
  congr 1
  apply stN_cg
  intro j hj
  unfold kpO
  rw [q5 j (by omega), q7 j (by omega)]
  congr 1
  rcases hw.2.2.2.1.2.2.2.1 j hj with ⟨z1, z2⟩ | ⟨v, t, z1, z2, z3, z4, z5⟩
  · rw [z1, z2, decide_eq_false (show ¬ ¬ nI 0 ≤ nI 0 from fun z => z (Int32.le_refl _)), decide_eq_false (show ¬ (-1 : Int32) ≠ -1 from fun z => z rfl)]
  · rw [z4, z5, decide_eq_true (nI_ne1 (by omega)), decide_eq_true (nI_ge (by omega) (by omega))]
theorem mx_1 {l : Nat} (h : 1 ≤ l) (h2 : l < 2 ^ 31) : (if nI 1 < nI l then nI l else nI 1) = nI l := by
  by_cases e : l = 1
  · rw [e]
    split <;> rfl
  · rw [if_pos ((nI_ltI (by omega) (by omega)).mpr (by omega))]
theorem c_costOf (hO : O = mOl L xs) (hG : Gnd n T I R g w V F D S N) (hw : Wf w V F D S N) (hn : n ≤ oB) (hk : k < D) (hin : w (9 + k) ≠ -1) (hy : y ≤ 99) : ∃ I', ev O (d + 4) MX4_costOf [.ref g, .int (nI k), .int (nI y)] (hp u n T I J R) = some (some (.int (nI (kpC w D y k))), hp u n T I' J R) ∧ SxC I I' := by
  have h8 := hw.1
  obtain ⟨v, t, h1, h2, h3, h4, h5⟩ := Wf_in hw hk hin
  obtain ⟨p, p1, p2, ep⟩ := prR_n w D k
  obtain ⟨l, l1, l2, el⟩ := laR_n w D k
  obtain ⟨I1, e1, s1⟩ := v_cLasts (d := d) (u := u) (J := J) hO hG hw hn hk
  have hG1 := Gnd_Sx hG s1
  obtain ⟨I2, e2, s2⟩ := v_cPrice (d := d) (u := u) (J := J) hO hG1 hw hn hk
  have f1 := v_cForce (O := O) (d := d + 1) (u := u) (J := J) hG hn
  have f2 := v_cForce (O := O) (d := d + 1) (u := u) (J := J) hG1 hn
  obtain ⟨⟨c1, c2, c3, c4, c5, c6, c7, c8, c9, c10, c11, c12⟩, q1, q2, q3, q4, q5, q6, q7, -⟩ := id hG
  have r5 : rdI O (hp u n T I J R) (g + 5) (nI k) = some (nI t) := by simp (disch := first | assumption | omega) only [ga_g_1, ga_g_2, ga_g_3, ga_g_4, ga_g_5, ga_g_6, ga_g_7, ga_g_8, ga_g_9, ga_g_10, gi_g_11, pi_g_11, gi_g_12, pi_g_12, gi_g_13, pi_g_13, gi_g_14, pi_g_14, gi_g_15, pi_g_15, gi_g_16, pi_g_16, gi_g_17, pi_g_17, ga_g_0, vc_g, rd_g_1, wr_g_1, ln_g_1, rd_g_2, wr_g_2, ln_g_2, rd_g_3, wr_g_3, ln_g_3, rd_g_4, wr_g_4, ln_g_4, rd_g_5, wr_g_5, ln_g_5, rd_g_6, wr_g_6, ln_g_6, rd_g_7, wr_g_7, ln_g_7, rd_g_8, wr_g_8, ln_g_8, rd_g_9, wr_g_9, ln_g_9, rd_g_10, q7 k (by omega), h5]
  have nl : ¬ nI l = 0 := fun z => absurd ((nI_eq (b := 0) (by omega) (by omega)).mp z) (by omega)
  refine ⟨I2, e_X4_costOf (d := d + 3) ?_, s1.tr s2⟩
  unfold F_X4_costOf
  rw [ga_g_5 c2 hn, Option.bind_some, r5, Option.bind_some, vc_g c2 hn, f1, toR_r, Option.bind_some]
  dsimp only
  rw [vc_g c2 hn, e1, el, toI_i, Option.bind_some]
  dsimp only
  rw [mx_1 l1 (by omega), if_neg nl, vc_g c2 hn, f2, toR_r, Option.bind_some]
  dsimp only
  rw [vc_g c2 hn, e2, ep, toI_i, Option.bind_some]
  dsimp only
  rw [nI_mx (by omega) (by omega), nI_add, nI_sub (by omega), nI_div (by omega) (by omega), nI_mul]
  unfold kpC
  rw [nv_n h5 (by omega), ep, el, nI_clamp (by omega), nI_clamp (by omega)]
/-- the class lays the costs -/
theorem c_layC {a2 a4 : Int32} (hO : O = mOl L xs) (hS : St n T R) (hG : Gnd n T I R g w V F D S N) (hw : Wf w V F D S N) (hy : y ≤ 99) : ∃ r, lupF (fun (q : Int32 × mH) => F_X4_kept_l16 O (d + 4) 7 g a2 (nI y) a4 (nI (stN (kpO w f) D)) q.1 q.2) FU (nI 0, hp u n T I J R) = some r ∧ (fun r => ∃ I1, r = hp u n T I1 J R ∧ (∀ a, a ≠ 8 → a ≠ 28 → a ≠ 29 → a ≠ 31 → I1 a = I a) ∧ ∀ j, j < D → I1 8 j = nI (kpK w D f y j)) r := by
  have hn := hS.2.1
  have h8 := hw.1
  have h31 := hG.1.2.2.1
  refine lup_P0 (fun i q => ∃ I1, q = (nI i, hp u n T I1 J R) ∧ (∀ a, a ≠ 8 → a ≠ 28 → a ≠ 29 → a ≠ 31 → I1 a = I a) ∧ ∀ j, j < i → I1 8 j = nI (kpK w D f y j)) _ (N := D) (by omega) ⟨I, rfl, fun _ _ _ _ _ => rfl, fun j hj => absurd hj (Nat.not_lt_zero j)⟩ ?_ ?_
  · intro i q hi ⟨I1, hq, o1, k1⟩
    subst hq
    left
    have hG1 : Gnd n T I1 R g w V F D S N := Gnd_cg hG (fun a ha => o1 a (by omega) (by omega) (by omega) (by omega))
    have z13 : I1 g 13 = nI D := hG1.1.2.2.2.2.2.2.2.2.1
    have c2 := hG1.1.2.1
    have hb := is_st (kpO w f) h8.2.2.1 hi
    have put : ∀ (I2 : Nat → Nat → Int32) (v : Int32), v = nI (kpK w D f y i) → SxC I1 I2 → ∃ s', F_X4_kept_j53 O (d + 4) 7 g a2 (nI y) a4 (nI (stN (kpO w f) D)) (nI i) v (nI i) 8 (hp u n T I2 J R) = some (.inl s') ∧ ∃ I1, s' = (nI (i + 1), hp u n T I1 J R) ∧ (∀ a, a ≠ 8 → a ≠ 28 → a ≠ 29 → a ≠ 31 → I1 a = I a) ∧ ∀ j, j < i + 1 → I1 8 j = nI (kpK w D f y j) := by
      intro I2 v hv hs
      refine ⟨(nI (i + 1), hp u n T (up2 I2 8 i v) J R), ?_, _, rfl, fun a z1 z2 z3 z4 => by rw [up2_off _ _ _ z1, hs a z2 z3 z4]; exact o1 a z1 z2 z3 z4, fun j hj => ?_⟩
      · unfold F_X4_kept_j53
        simp (disch := first | assumption | omega) only [rd_8, wr_8, ln_8, Option.bind_some, toI_i, toJ_j, toV_v, toR_r, up2_at, up2_na, up2_nk, up2_off, nI_add, nI_mul, nI_leI, nI_ltI, nI_eq, bI_eq0]
      · by_cases e : j = i
        · rw [e, up2_at, hv]
        · rw [up2_nk e, hs 8 (by decide) (by decide) (by decide)]
          exact k1 j (by omega)
    dsimp only
    unfold F_X4_kept_l16
    rw [gi_g_13 c2 hn, Option.bind_some, z13, if_neg (nI_ge hi (by omega)), ga_7_0 hS, Option.bind_some]
    cases ho : kpO w f i with
    | true =>
      rw [ho] at hb
      have hin : w (9 + i) ≠ -1 := by
        unfold kpO at ho
        rw [Bool.and_eq_true] at ho
        exact of_decide_eq_true ho.2
      obtain ⟨I2, e2, s2⟩ := c_costOf (d := d) (u := u) (J := J) (y := y) hO hG1 hw hn hi hin hy
      rw [if_pos (of_decide_eq_true hb), e2, toI_i, Option.bind_some]
      exact put I2 _ (by unfold kpK; rw [if_pos ho]) s2
    | false =>
      rw [ho] at hb
      rw [if_neg (of_decide_eq_false hb)]
      exact put I1 (nI 0) (by unfold kpK; rw [ho]; rfl) (SxC.rf I1)
  · intro q ⟨I1, hq, o1, k1⟩
    subst hq
    have hG1 : Gnd n T I1 R g w V F D S N := Gnd_cg hG (fun a ha => o1 a (by omega) (by omega) (by omega) (by omega))
    refine ⟨_, ?_, I1, rfl, o1, k1⟩
    dsimp only
    unfold F_X4_kept_l16
    rw [gi_g_13 hG1.1.2.1 hn, Option.bind_some, hG1.1.2.2.2.2.2.2.2.2.1, if_pos (nI_le (Nat.le_refl D) (by omega))]
/-- a set's costs -/
theorem c_costAll {kc : Nat → Nat} (hS : St n T R) (h8 : D ≤ 8) (hc : ∀ j, j < D → I 8 j = nI (kc j)) (hs : s < 2 ^ D) : ev O (d + 1) MX4_costOfAll [.ref 7, .int (nI s)] (hp u n T I J R) = some (some (.int (nI (csN kc s D))), hp u n T I J R) := by
  refine e_X4_costOfAll ?_
  unfold F_X4_costOfAll
  refine lup_b (fun k => (nI (csN kc s k), nI k)) (nI (csN kc s D)) 8 (by decide) rfl ?_ ?_ rfl
  · intro k hk
    dsimp only
    unfold F_X4_costOfAll_l4
    have e : nI (csN kc s k) + kb (nI s) k * I 8 k = nI (csN kc s (k + 1)) := by
      rw [kb_tb hk, csN_s]
      by_cases hb : s.testBit k = true
      · rw [if_pos hb, if_pos hb, hc k (tb_lt hs hb), nI_mul, nI_add, Nat.one_mul]
      · rw [if_neg hb, if_neg hb, nI_0, Int32.zero_mul, Int32.add_zero, Nat.add_zero]
    unfold kb at e
    rw [if_neg (nI_ge hk (by omega)), ga_7_0 hS, Option.bind_some, rd_8 hS hk, Option.bind_some, e, nI_add]
  · dsimp only
    unfold F_X4_costOfAll_l4
    rw [if_pos (nI_le (Nat.le_refl 8) (by omega)), show csN kc s 8 = csN kc s (D + (8 - D)) by rw [show D + (8 - D) = 8 by omega], csN_hi hs]
/-- the class finds the best -/
theorem c_best {kc : Nat → Nat} {a4 : Int32} (hS : St n T R) (hG : Gnd n T I R g w V F D S N) (hw : Wf w V F D S N) (hf : f < F) (hm : w (33 + f) = nI m) (hm9 : m ≤ 999) (hc : ∀ j, j < D → I 8 j = nI (kc j)) (hB : ∀ j, kc j ≤ 20000) {o : Nat} (ho : o < 2 ^ D) : lupF (fun (q : Int32 × Int32 × Int32 × mH) => F_X4_kept_l69 O (d + 1) 7 g (nI f) a4 (nI o) q.1 q.2.1 q.2.2.1 q.2.2.2) FU (nI 0, nI 0, nI 1, hp u n T I J R) = some (nI (kpS o (fun s => csN kc s D) m o).1, nI (kpS o (fun s => csN kc s D) m o).2, hp u n T I J R) := by
  have hn := hS.2.1
  have h8 := hw.1
  have p2 := pow_lt h8.2.2.1
  have c2 := hG.1.2.1
  have q4 := hG.2.2.2.2.1 f (by omega)
  have B : ∀ s, csN kc s D ≤ 160000 := fun s => by
    have := csN_le (s := s) hB D
    have := Nat.mul_le_mul_right 20000 h8.2.2.1
    omega
  refine lup_0 (fun k => (nI (kpS o (fun s => csN kc s D) m k).1, nI (kpS o (fun s => csN kc s D) m k).2, nI (k + 1), hp u n T I J R)) (N := o) (by omega) rfl ?_ ?_
  · intro k hk
    have le := kpS_le (o := o) (cst := fun s => csN kc s D) (m := m) B k
    have s1 := kpS_s o (fun s => csN kc s D) m k
    dsimp only at s1 ⊢
    have e1 := c_costAll (O := O) (d := d) (u := u) (J := J) (s := k + 1) hS h8.2.2.1 hc (by omega)
    have b1 := B (k + 1)
    have pk := (pop_all (k + 1) (by omega)).2
    have pb := (pop_all (kpS o (fun s => csN kc s D) m k).1 (by omega)).2
    have df := df_all (popN (k + 1)) (by omega) (popN (kpS o (fun s => csN kc s D) m k).1) (by omega)
    have kb := pop_bc (b := (kpS o (fun s => csN kc s D) m k).1) (by omega)
    have r2 : rdI O (hp u n T I J R) (g + 2) (nI f) = some (nI m) := by simp (disch := first | assumption | omega) only [ga_g_1, ga_g_2, ga_g_3, ga_g_4, ga_g_5, ga_g_6, ga_g_7, ga_g_8, ga_g_9, ga_g_10, gi_g_11, pi_g_11, gi_g_12, pi_g_12, gi_g_13, pi_g_13, gi_g_14, pi_g_14, gi_g_15, pi_g_15, gi_g_16, pi_g_16, gi_g_17, pi_g_17, ga_g_0, vc_g, rd_g_1, wr_g_1, ln_g_1, rd_g_2, wr_g_2, ln_g_2, rd_g_3, wr_g_3, ln_g_3, rd_g_4, wr_g_4, ln_g_4, rd_g_5, wr_g_5, ln_g_5, rd_g_6, wr_g_6, ln_g_6, rd_g_7, wr_g_7, ln_g_7, rd_g_8, wr_g_8, ln_g_8, rd_g_9, wr_g_9, ln_g_9, rd_g_10, q4, hm]
    rw [s1]
    clear s1
    have kbT : nI (k + 1) &&& (nI o ^^^ -1) = 0 → csN kc (k + 1) D ≤ m → kpB o (fun s => csN kc s D) m (k + 1) = true := by
      intro hA hC
      unfold kpB
      rw [decide_eq_true hA, decide_eq_true hC]
      rfl
    have kbA : ¬ nI (k + 1) &&& (nI o ^^^ -1) = 0 → ¬ kpB o (fun s => csN kc s D) m (k + 1) = true := by
      intro hA
      unfold kpB
      rw [decide_eq_false hA, Bool.false_and]
      decide
    have kbC : ¬ csN kc (k + 1) D ≤ m → ¬ kpB o (fun s => csN kc s D) m (k + 1) = true := by
      intro hC
      unfold kpB
      rw [decide_eq_false hC, Bool.and_false]
      decide
    generalize kpS o (fun s => csN kc s D) m k = Z at *
    obtain ⟨b, bc⟩ := Z
    dsimp only at *
    unfold F_X4_kept_l69
    rw [if_neg (fun z => absurd ((nI_ltI (by omega) (by omega)).mp z) (by omega)), vc_7 hS, e1, toI_i, Option.bind_some]
    dsimp only
    rw [v_bit, pop_bc (by omega), toI_i, Option.bind_some]
    dsimp only
    rw [v_bit, kb, toI_i, Option.bind_some]
    dsimp only
    rw [nI_add]
    have val : (if 0 < nI (popN (k + 1)) - nI (popN b) then nI 1 else (if nI (popN (k + 1)) - nI (popN b) = 0 then (if nI bc ≤ nI (csN kc (k + 1) D) then nI 0 else nI 1) else nI 0)) = if (popN b < popN (k + 1) ∨ popN b = popN (k + 1) ∧ csN kc (k + 1) D < bc) then nI 1 else nI 0 := by
      by_cases h1 : popN b < popN (k + 1)
      · rw [if_pos (df.1.mpr h1), if_pos (Or.inl h1)]
      · rw [if_neg (fun z => h1 (df.1.mp z))]
        by_cases h2 : popN b = popN (k + 1)
        · rw [if_pos (df.2.mpr h2)]
          by_cases h3 : csN kc (k + 1) D < bc
          · rw [if_neg (nI_ge h3 (by omega)), if_pos (Or.inr ⟨h2, h3⟩)]
          · rw [if_pos (nI_le (by omega) (by omega)), if_neg (by omega)]
        · rw [if_neg (fun z => h2 (df.2.mp z)), if_neg (by omega)]
    by_cases hA : nI (k + 1) &&& (nI o ^^^ -1) = 0
    · rw [if_pos hA, ga_g_2 c2 hn, Option.bind_some, r2, Option.bind_some]
      by_cases hC : csN kc (k + 1) D ≤ m
      · have nC : ¬ nI m < nI (csN kc (k + 1) D) := fun z => absurd ((nI_ltI (by omega) (by omega)).mp z) (by omega)
        rw [if_neg nC, if_neg nC, val]
        by_cases hq : (popN b < popN (k + 1) ∨ popN b = popN (k + 1) ∧ csN kc (k + 1) D < bc)
        · rw [if_pos hq, if_neg (show ¬ nI 1 = 0 by decide), if_neg (show ¬ nI 1 = 0 by decide), if_pos ⟨kbT hA hC, hq⟩]
        · rw [if_neg hq, if_pos (show nI 0 = 0 from rfl), if_pos (show nI 0 = 0 from rfl), if_neg (fun z => hq z.2)]
      · have yC : nI m < nI (csN kc (k + 1) D) := (nI_ltI (by omega) (by omega)).mpr (by omega)
        rw [if_pos yC, if_pos yC, if_neg (fun z => kbC hC z.1)]
    · rw [if_neg hA, if_neg (fun z => kbA hA z.1)]
  · dsimp only
    unfold F_X4_kept_l69
    rw [if_pos ((nI_ltI (by omega) (by omega)).mpr (by omega))]
/-- the reference lays the costs -/
theorem m_layC (hS : St n T R) (h20 : I 69 20 = nI 0) (hw : Wf (I 71) V F D S N) (hy : y ≤ 99) : ∃ I' J', ev O (d + 6) MX11_layCosts [.ref 69, .int (nI f), .int (nI y)] (hp u n T I J R) = some (none, hp u n T I' J' R) ∧ (∀ a, a ≠ 69 → a ≠ 91 → I' a = I a) ∧ (∀ k, k ≠ 34 → k ≠ 38 → I' 69 k = I 69 k) ∧ MJx J J' ∧ ∀ j, j < D → I' 91 j = nI (kpR (I 71) D f y j) := by
  have h8 := hw.1
  have ef : (100000000 : Int32) = nI 100000000 := by decide
  have L1 : ∃ r, lupF (fun (q : Int32 × mH) => F_X11_layCosts_l2 O (d + 5) 69 (nI f) (nI y) q.1 q.2) FU (nI 0, hp u n T I J R) = some r ∧ (fun r => ∃ I' J', r = hp u n T I' J' R ∧ (∀ a, a ≠ 69 → a ≠ 91 → I' a = I a) ∧ (∀ k, k ≠ 34 → k ≠ 38 → I' 69 k = I 69 k) ∧ MJx J J' ∧ ∀ j, j < D → I' 91 j = nI (kpR (I 71) D f y j)) r := by
    refine lup_P0 (fun i q => ∃ I' J', q = (nI i, hp u n T I' J' R) ∧ (∀ a, a ≠ 69 → a ≠ 91 → I' a = I a) ∧ (∀ k, k ≠ 34 → k ≠ 38 → I' 69 k = I 69 k) ∧ MJx J J' ∧ ∀ j, j < i → I' 91 j = nI (kpR (I 71) D f y j)) _ (N := D) (by omega) ⟨I, J, rfl, fun _ _ _ => rfl, fun _ _ _ => rfl, MJx_r J, fun j hj => absurd hj (Nat.not_lt_zero j)⟩ ?_ ?_
    · intro i q hi ⟨I1, J1, hq, o1, o2, o3, k1⟩
      subst hq
      left
      have e71 : up2 I1 91 i (nI 100000000) 71 = I 71 := by rw [up2_off _ _ _ (by decide)]; exact o1 71 (by decide) (by decide)
      have e20 : up2 I1 91 i (nI 100000000) 69 20 = nI 0 := by rw [up2_na (by decide), o2 20 (by decide) (by decide)]; exact h20
      have w2 : I1 71 2 = nI D := by rw [o1 71 (by decide) (by decide)]; exact hw.2.1.2.2.1
      have isI := v_isIn (O := O) (d := d + 5) (u := u) (J := J1) (I := up2 I1 91 i (nI 100000000)) (k := i) hS (by omega)
      rw [e71] at isI
      have start : ∀ z, ((toI (vc O (d + 5) 11 MX11_isIn 69 [.int (nI i)] (hp u n T (up2 I1 91 i (nI 100000000)) J1 R))).bind fun p6 => if p6.1 = 0 then some (.inl ((nI i + nI 1), p6.2)) else (gtA p6.2 69 11 3).bind fun x9 => (rdI O p6.2 x9 ((nI 42) + nI i)).bind fun x10 => if x10 = nI f then (toI (vc O (d + 5) 11 MX11_lastsOf 69 [.int (nI i)] p6.2)).bind fun p13 => (gtA p13.2 69 11 3).bind fun x14 => (rdI O p13.2 x14 ((nI 17) + nI i)).bind fun x15 => if x15 < nI y then (gtA p13.2 69 11 3).bind fun x18 => (rdI O p13.2 x18 ((nI 17) + nI i)).bind fun x19 => if p13.1 = 0 then none else F_X11_layCosts_j85 O (d + 5) 69 (nI f) (nI y) (nI i) ((((nI y - x19) + p13.1) - (nI 1)) / p13.1) p13.2 else F_X11_layCosts_j85 O (d + 5) 69 (nI f) (nI y) (nI i) (nI 0) p13.2 else some (.inl ((nI i + nI 1), p6.2))) = z → F_X11_layCosts_l2 O (d + 5) 69 (nI f) (nI y) (nI i) (hp u n T I1 J1 R) = z := by
        intro z hz
        unfold F_X11_layCosts_l2
        rw [ga_69_3 hS, Option.bind_some, rd_71 hS (by omega), Option.bind_some, w2, if_neg (nI_ge hi (by omega)), ga_69_42 hS, Option.bind_some, ef, wr_91 hS (by omega), Option.bind_some]
        exact hz
      have stay : kpO (I 71) f i = false → ∃ I' J', (nI (i + 1), hp u n T (up2 I1 91 i (nI 100000000)) J1 R) = (nI (i + 1), hp u n T I' J' R) ∧ (∀ a, a ≠ 69 → a ≠ 91 → I' a = I a) ∧ (∀ k, k ≠ 34 → k ≠ 38 → I' 69 k = I 69 k) ∧ MJx J J' ∧ ∀ j, j < i + 1 → I' 91 j = nI (kpR (I 71) D f y j) := by
        intro ho
        refine ⟨_, J1, rfl, fun a z1 z2 => by rw [up2_off _ _ _ z2]; exact o1 a z1 z2, fun k z1 z2 => by rw [up2_na (by decide)]; exact o2 k z1 z2, o3, fun j hj => ?_⟩
        by_cases e : j = i
        · rw [e, up2_at]
          unfold kpR
          rw [ho]
          rfl
        · rw [up2_nk e]
          exact k1 j (by omega)
      by_cases hin : I 71 (9 + i) = -1
      · refine ⟨(nI (i + 1), hp u n T (up2 I1 91 i (nI 100000000)) J1 R), start _ ?_, stay (by unfold kpO; rw [decide_eq_false (show ¬ I 71 (9 + i) ≠ -1 from fun z => z hin), Bool.and_false])⟩
        rw [vc_69 hS, isI, toI_i, Option.bind_some, if_pos (by rw [decide_eq_false (fun z => z hin)]; rfl), nI_add]
      · have r42 : rdI O (hp u n T (up2 I1 91 i (nI 100000000)) J1 R) 71 (nI 42 + nI i) = some (I 71 (42 + i)) := by rw [nI_add, rd_71 hS (by omega), e71]
        by_cases hfa : I 71 (42 + i) = nI f
        · have ho : kpO (I 71) f i = true := by unfold kpO; rw [decide_eq_true hfa, decide_eq_true hin]; rfl
          obtain ⟨v, t, h1, h2, h3, h4, h5⟩ := Wf_in hw hi hin
          obtain ⟨p, p1, p2, ep⟩ := prR_n (I 71) D i
          obtain ⟨l, l1, l2, el⟩ := laR_n (I 71) D i
          obtain ⟨I2, J2, a1, a2⟩ := v_mLasts (O := O) (d := d) (u := u) (J := J1) (I := up2 I1 91 i (nI 100000000)) (k := i) hS e20 (by rw [e71]; exact hw) hi
          have f71 : I2 71 = I 71 := (a2.1 71 (by decide)).trans e71
          obtain ⟨I3, J3, a3, a4⟩ := v_mPrice (O := O) (d := d) (u := u) (J := J2) (I := I2) (k := i) hS (by rw [a2.2.1 20 (by decide) (by decide)]; exact e20) (by rw [f71]; exact hw) hi
          rw [e71, el] at a1
          rw [f71, ep] at a3
          have r17 : rdI O (hp u n T I2 J2 R) 71 (nI 17 + nI i) = some (nI t) := by rw [nI_add, rd_71 hS (by omega), f71, h5]
          have nl : ¬ nI l = 0 := fun z => absurd ((nI_eq (b := 0) (by omega) (by omega)).mp z) (by omega)
          have ec : kpC (I 71) D y i = (y - t + l - 1) / l * p := by
            unfold kpC
            rw [nv_n h5 (by omega), ep, el, nI_clamp (by omega), nI_clamp (by omega)]
          have put : ∀ v, v * nI p = nI (kpC (I 71) D y i) → F_X11_layCosts_j85 O (d + 5) 69 (nI f) (nI y) (nI i) v (hp u n T I2 J2 R) = some (.inl (nI (i + 1), hp u n T (up2 I3 91 i (nI (kpC (I 71) D y i))) J3 R)) := by
            intro v hv
            unfold F_X11_layCosts_j85
            rw [ga_69_42 hS, Option.bind_some, vc_69 hS, a3, toI_i, Option.bind_some]
            dsimp only
            rw [hv, wr_91 hS (by omega), Option.bind_some, nI_add]
          refine ⟨(nI (i + 1), hp u n T (up2 I3 91 i (nI (kpC (I 71) D y i))) J3 R), start _ ?_, _, J3, rfl, fun a z1 z2 => by rw [up2_off _ _ _ z2, a4.1 a z1, a2.1 a z1, up2_off _ _ _ z2]; exact o1 a z1 z2, fun k z1 z2 => by rw [up2_na (by decide), a4.2.1 k z1 z2, a2.2.1 k z1 z2, up2_na (by decide)]; exact o2 k z1 z2, fun a ha => (MJx_SxM a4 a ha).trans ((MJx_SxM a2 a ha).trans (o3 a ha)), fun j hj => ?_⟩
          · rw [vc_69 hS, isI, toI_i, Option.bind_some, if_neg (by rw [decide_eq_true hin]; exact nbt)]
            dsimp only
            rw [ga_69_3 hS, Option.bind_some, r42, Option.bind_some, if_pos hfa, vc_69 hS, a1, toI_i, Option.bind_some]
            dsimp only
            rw [ga_69_3 hS, Option.bind_some, r17, Option.bind_some]
            by_cases hty : t < y
            · rw [if_pos ((nI_ltI (by omega) (by omega)).mpr hty), Option.bind_some, r17, Option.bind_some, if_neg nl]
              refine put _ ?_
              rw [nI_sub (by omega), nI_add, nI_sub (by omega), nI_div (by omega) (by omega), nI_mul, ec]
            · rw [if_neg (fun z => hty ((nI_ltI (by omega) (by omega)).mp z))]
              refine put _ ?_
              rw [nI_mul, ec, show y - t = 0 by omega, Nat.zero_add, Nat.div_eq_of_lt (show l - 1 < l by omega)]
          · by_cases e : j = i
            · rw [e, up2_at]
              unfold kpR
              rw [if_pos ho]
            · rw [up2_nk e, a4.1 91 (by decide), a2.1 91 (by decide), up2_nk e]
              exact k1 j (by omega)
        · refine ⟨(nI (i + 1), hp u n T (up2 I1 91 i (nI 100000000)) J1 R), start _ ?_, stay (by unfold kpO; rw [decide_eq_false hfa, Bool.false_and])⟩
          rw [vc_69 hS, isI, toI_i, Option.bind_some, if_neg (by rw [decide_eq_true hin]; exact nbt)]
          dsimp only
          rw [ga_69_3 hS, Option.bind_some, r42, Option.bind_some, if_neg hfa, nI_add]
    · intro q ⟨I1, J1, hq, o1, o2, o3, k1⟩
      subst hq
      have w2 : I1 71 2 = nI D := by rw [o1 71 (by decide) (by decide)]; exact hw.2.1.2.2.1
      refine ⟨_, ?_, I1, J1, rfl, o1, o2, o3, k1⟩
      dsimp only
      unfold F_X11_layCosts_l2
      rw [ga_69_3 hS, Option.bind_some, rd_71 hS (by omega), Option.bind_some, w2, if_pos (nI_le (Nat.le_refl D) (by omega))]
  obtain ⟨r, e, I', J', hr, h⟩ := L1
  refine ⟨I', J', e_X11_layCosts (d := d + 5) ?_, h⟩
  unfold F_X11_layCosts
  rw [e, hr]
  rfl
theorem m_cost {kr : Nat → Nat} {v1 v3 v4 v5 v6 : Int32} (hS : St n T R) (h2 : I 71 2 = nI D) (h8 : D ≤ 8) (hc : ∀ j, j < D → I 91 j = nI (kr j)) (hs : s < 256) : lupF (fun (q : Int32 × Int32 × mH) => F_X11_keep_l78 O d 69 v1 v3 v4 v5 v6 (nI s) q.1 q.2.1 q.2.2) FU (nI 0, nI 0, hp u n T I J R) = some (nI (csN kr s D), hp u n T I J R) := by
  refine lup_0 (fun k => (nI (csN kr s k), nI k, hp u n T I J R)) (N := D) (by omega) rfl ?_ ?_
  · intro k hk
    dsimp only
    unfold F_X11_keep_l78
    rw [ga_69_3 hS, Option.bind_some, rd_71 hS (by omega), Option.bind_some, h2, if_neg (nI_ge hk (by omega)), v_is, is_all k (by omega) s hs, toI_i, Option.bind_some, csN_s]
    dsimp only
    unfold F_X11_keep_j112
    cases hb : s.testBit k with
    | true => rw [if_neg nbt, ga_69_42 hS, Option.bind_some, rd_91 hS (by omega), Option.bind_some, hc k hk, nI_add, nI_add, if_pos rfl]
    | false => rw [if_pos (show bI false = 0 from rfl), nI_add, nI_add, if_neg (by decide)]
  · dsimp only
    unfold F_X11_keep_l78
    rw [ga_69_3 hS, Option.bind_some, rd_71 hS (by omega), Option.bind_some, h2, if_pos (nI_le (Nat.le_refl D) (by omega))]
theorem kp_rel (h8 : D ≤ 8) (hs : s < 2 ^ D) (hm : m ≤ 999) : (csN (kpR w D f y) s D ≤ m ↔ kpB (stN (kpO w f) D) (fun s => csN (kpK w D f y) s D) m s = true) ∧ (kpB (stN (kpO w f) D) (fun s => csN (kpK w D f y) s D) m s = true → csN (kpR w D f y) s D = csN (kpK w D f y) s D) := by
  have p8 := pow_lt h8
  have si := sub_iff (s := s) (o := stN (kpO w f) D) (by omega)
  have tb : ∀ i, (stN (kpO w f) D).testBit i = (decide (i < D) && kpO w f i) := fun i => stN_bit _ i D
  unfold kpB
  by_cases hA : nI s &&& (nI (stN (kpO w f) D) ^^^ -1) = 0
  · have e : csN (kpR w D f y) s D = csN (kpK w D f y) s D := csN_cg (fun j hj hb => by
      have := si.mp hA j hb
      rw [tb, Bool.and_eq_true] at this
      unfold kpR kpK
      rw [if_pos this.2, if_pos this.2])
    rw [decide_eq_true hA, Bool.true_and, e]
    exact ⟨⟨fun z => decide_eq_true z, fun z => of_decide_eq_true z⟩, fun _ => rfl⟩
  · rw [decide_eq_false hA, Bool.false_and]
    refine ⟨⟨fun z => ?_, fun z => by cases z⟩, fun z => by cases z⟩
    exfalso
    apply hA
    rw [si]
    intro i hi
    have hid := tb_lt hs hi
    rw [tb, decide_eq_true hid, Bool.true_and]
    cases ho : kpO w f i with
    | true => rfl
    | false =>
      have := csN_ge (kc := kpR w D f y) hi hid
      have e : kpR w D f y i = 100000000 := by unfold kpR; rw [ho]; rfl
      omega
/-- the reference finds the best -/
theorem m_best {v3 : Int32} (hS : St n T R) (hw : Wf w V F D S N) (h71 : I 71 = w) (hf : f < F) (hm : w (33 + f) = nI m) (hm9 : m ≤ 999) (hy : y ≤ 99) (hc : ∀ j, j < D → I 91 j = nI (kpR w D f y j)) : lupF (fun (q : Int32 × Int32 × Int32 × Int32 × mH) => F_X11_keep_l59 O d 69 (nI f) v3 q.1 q.2.1 q.2.2.1 q.2.2.2.1 q.2.2.2.2) FU (-1, 100000000, nI 0, nI 0, hp u n T I J R) = some (nI (popN (kpS (stN (kpO w f) D) (fun s => csN (kpK w D f y) s D) m (stN (kpO w f) D)).1), nI (kpS (stN (kpO w f) D) (fun s => csN (kpK w D f y) s D) m (stN (kpO w f) D)).2, nI (kpS (stN (kpO w f) D) (fun s => csN (kpK w D f y) s D) m (stN (kpO w f) D)).1, hp u n T I J R) := by
  have h8 := hw.1
  have p8 := pow_lt h8.2.2.1
  have ol := stN_lt (kpO w f) D
  have h2 : I 71 2 = nI D := by rw [h71]; exact hw.2.1.2.2.1
  have r33 : rdI O (hp u n T I J R) 71 (nI 33 + nI f) = some (nI m) := by rw [nI_add, rd_71 hS (by omega), h71, hm]
  have B : ∀ s, csN (kpK w D f y) s D ≤ 160000 := fun s => by
    have := csN_le (s := s) (kpK_le (w := w) (D := D) (f := f) hy) D
    have := Nat.mul_le_mul_right 20000 h8.2.2.1
    omega
  have BR : ∀ s, csN (kpR w D f y) s D ≤ 800000000 := fun s => by
    have := csN_le (s := s) (kpR_le (w := w) (D := D) (f := f) hy) D
    have := Nat.mul_le_mul_right 100000000 h8.2.2.1
    omega
  obtain ⟨q, hq⟩ : ∃ q, 2 ^ D = q + 1 := ⟨2 ^ D - 1, by omega⟩
  have hi := kpS_hi (o := stN (kpO w f) D) (cst := fun s => csN (kpK w D f y) s D) (m := m) (q - stN (kpO w f) D) (by omega)
  rw [show stN (kpO w f) D + (q - stN (kpO w f) D) = q by omega] at hi
  rw [← hi]
  have kr := fun s (hs : s < 2 ^ D) => kp_rel (w := w) (f := f) (y := y) h8.2.2.1 hs hm9
  generalize stN (kpO w f) D = o at *
  have sh : nI 1 <<< (nI D &&& 31) = nI (q + 1) := by rw [btI_one D (by omega), hq]
  have top : ∀ (a b e : Int32) (s : Nat), s < q + 1 → ∀ z, (if nI m < nI (csN (kpR w D f y) s D) then F_X11_keep_j166 O d 69 (nI f) v3 a b e (nI s) (nI (csN (kpR w D f y) s D)) (hp u n T I J R) else (toI (ev O d MX11_ones [.int (nI s)] (hp u n T I J R))).bind fun p30 => if a < p30.1 then F_X11_keep_j162 O d 69 (nI f) v3 a b e (nI s) (nI (csN (kpR w D f y) s D)) p30.2 else (toI (ev O d MX11_ones [.int (nI s)] p30.2)).bind fun p33 => if (if p33.1 = a then (if b ≤ nI (csN (kpR w D f y) s D) then (nI 0) else (nI 1)) else (nI 0)) = 0 then F_X11_keep_j198 O d 69 (nI f) v3 b (if (if p33.1 = a then (if b ≤ nI (csN (kpR w D f y) s D) then (nI 0) else (nI 1)) else (nI 0)) = 0 then e else nI s) (nI s) (nI (csN (kpR w D f y) s D)) (if p33.1 = a then (if b ≤ nI (csN (kpR w D f y) s D) then (nI 0) else (nI 1)) else (nI 0)) a p33.2 else (toI (ev O d MX11_ones [.int (nI s)] p33.2)).bind fun p39 => F_X11_keep_j198 O d 69 (nI f) v3 b (if (if p33.1 = a then (if b ≤ nI (csN (kpR w D f y) s D) then (nI 0) else (nI 1)) else (nI 0)) = 0 then e else nI s) (nI s) (nI (csN (kpR w D f y) s D)) (if p33.1 = a then (if b ≤ nI (csN (kpR w D f y) s D) then (nI 0) else (nI 1)) else (nI 0)) p39.1 p39.2) = z → F_X11_keep_l59 O d 69 (nI f) v3 a b e (nI s) (hp u n T I J R) = z := by
    intro a b e s hs z hz
    unfold F_X11_keep_l59
    rw [ga_69_3 hS, Option.bind_some, rd_71 hS (by omega), Option.bind_some, h2, sh, if_neg (nI_ge hs (by omega)), m_cost hS h2 h8.2.2.1 hc (by omega), Option.bind_some]
    dsimp only
    rw [ga_69_3 hS, Option.bind_some, r33, Option.bind_some]
    exact hz
  have n1 : ¬ nI 1 = 0 := by decide
  refine lup_0 (fun i => match i with | 0 => (-1, 100000000, nI 0, nI 0, hp u n T I J R) | k + 1 => (nI (popN (kpS o (fun s => csN (kpK w D f y) s D) m k).1), nI (kpS o (fun s => csN (kpK w D f y) s D) m k).2, nI (kpS o (fun s => csN (kpK w D f y) s D) m k).1, nI (k + 1), hp u n T I J R)) (N := q + 1) (by omega) rfl ?_ ?_
  · intro i hi
    cases i with
    | zero =>
      dsimp only
      refine top (-1) 100000000 (nI 0) 0 (by omega) _ ?_
      have z0 : csN (kpR w D f y) 0 D = 0 := by
        have : ∀ k, csN (kpR w D f y) 0 k = 0 := by
          intro k
          induction k with
          | zero => rfl
          | succ k ih => rw [csN_s, ih, Nat.zero_testBit]; rfl
        exact this D
      rw [z0, if_neg (fun z => absurd ((nI_ltI (by omega) (by omega)).mp z) (by omega)), v_ones, toI_i, Option.bind_some]
      dsimp only
      rw [if_pos (by decide)]
      unfold F_X11_keep_j162 F_X11_keep_j167
      rw [if_neg n1, v_ones, toI_i, Option.bind_some]
      unfold F_X11_keep_j198
      dsimp only
      rw [if_neg n1, if_neg n1, (pop_all 0 (by decide)).1, nI_add]
      rfl
    | succ k =>
      dsimp only
      refine top _ _ _ (k + 1) (by omega) _ ?_
      have le := kpS_le (o := o) (cst := fun s => csN (kpK w D f y) s D) (m := m) B k
      obtain ⟨kr1, kr2⟩ := kr (k + 1) (by omega)
      have s1 := kpS_s o (fun s => csN (kpK w D f y) s D) m k
      have b1 := B (k + 1)
      have b2 := BR (k + 1)
      have pk := pop_all (k + 1) (by omega)
      have pb := (pop_all (kpS o (fun s => csN (kpK w D f y) s D) m k).1 (by omega)).2
      rw [s1]
      clear s1
      generalize kpS o (fun s => csN (kpK w D f y) s D) m k = Z at *
      obtain ⟨b, bc⟩ := Z
      dsimp only at *
      by_cases hB : kpB o (fun s => csN (kpK w D f y) s D) m (k + 1) = true
      · have ecc := kr2 hB
        have hle := kr1.mpr hB
        rw [ecc] at hle ⊢
        rw [if_neg (fun z => absurd ((nI_ltI (by omega) (by omega)).mp z) (by omega)), v_ones, pk.1, toI_i, Option.bind_some]
        dsimp only
        by_cases h1 : popN b < popN (k + 1)
        · rw [if_pos ((nI_ltI (by omega) (by omega)).mpr h1), if_pos ⟨hB, Or.inl h1⟩]
          unfold F_X11_keep_j162 F_X11_keep_j167
          rw [if_neg n1, v_ones, pk.1, toI_i, Option.bind_some]
          unfold F_X11_keep_j198
          dsimp only
          rw [if_neg n1, if_neg n1, nI_add]
        · rw [if_neg (fun z => h1 ((nI_ltI (by omega) (by omega)).mp z)), v_ones, pk.1, toI_i, Option.bind_some]
          dsimp only
          by_cases h2' : popN (k + 1) = popN b
          · rw [if_pos (show nI (popN (k + 1)) = nI (popN b) by rw [h2'])]
            by_cases h3 : csN (kpK w D f y) (k + 1) D < bc
            · have n3 : ¬ nI bc ≤ nI (csN (kpK w D f y) (k + 1) D) := nI_ge h3 (by omega)
              rw [if_neg n3, if_neg n1, if_neg n1, v_ones, pk.1, toI_i, Option.bind_some, if_pos ⟨hB, Or.inr ⟨h2'.symm, h3⟩⟩]
              unfold F_X11_keep_j198
              dsimp only
              rw [if_neg n1, nI_add]
            · have y3 : nI bc ≤ nI (csN (kpK w D f y) (k + 1) D) := nI_le (by omega) (by omega)
              rw [if_pos y3, if_pos (show nI 0 = 0 from rfl), if_pos (show nI 0 = 0 from rfl), if_neg (fun z => by have := z.2; omega)]
              unfold F_X11_keep_j198
              rw [if_pos (show nI 0 = 0 from rfl), nI_add]
          · rw [if_neg (fun z => h2' ((nI_eq (by omega) (by omega)).mp z)), if_pos (show nI 0 = 0 from rfl), if_pos (show nI 0 = 0 from rfl), if_neg (fun z => by have := z.2; omega)]
            unfold F_X11_keep_j198
            rw [if_pos (show nI 0 = 0 from rfl), nI_add]
      · rw [if_pos ((nI_ltI (by omega) (by omega)).mpr (Nat.lt_of_not_le (fun z => hB (kr1.mp z)))), if_neg (fun z => hB z.1)]
        unfold F_X11_keep_j166 F_X11_keep_j167 F_X11_keep_j198
        rw [if_pos (show nI 0 = 0 from rfl), if_pos (show nI 0 = 0 from rfl), if_pos (show nI 0 = 0 from rfl), nI_add]
  · dsimp only
    unfold F_X11_keep_l59
    rw [ga_69_3 hS, Option.bind_some, rd_71 hS (by omega), Option.bind_some, h2, sh, if_pos (nI_le (Nat.le_refl _) (by omega))]
theorem b_keep {a1 a2 a3 : Int32} (hO : O = mOl L xs) (hI : Inv c K) : Bo O Inv MX10_keep MX11_keep [.int a1, .int a2, .int a3] c K := by
  obtain ⟨u, n, T, I, J, R, g, h, V, F, D, S, N, x, s, rfl, hI⟩ := hI
  obtain ⟨hS, hn, gg, hh, hG, hH, hw, hgd, hg⟩ := Iv_all hI
  obtain ⟨⟨v5, f4, d8, s8, n6⟩, ⟨w0, w1, w2, w3, w4⟩, hf, hs, hfam, hwi, hsn, hlw⟩ := hw
  obtain ⟨⟨c1, c2, c3, c4, c5, c6, c7, c8, c9, c10, c11, c12⟩, q1, q2, q3, q4, q5, q6, q7, q8, q9, q10, q11, ql⟩ := hgd
  obtain ⟨⟨b1, b2, b3, b4, b5⟩, b6, b7, b8, b9, b10⟩ := hI.2.2.2.2.2.2.2.1
  have hJ := hI.2.2.2.2.2.2.2.2.2
  have hu := hI.2.2.2.2.1
  have hw := hI.2.2.1
  have hgd := hI.2.2.2.1
  have hfa := v_hasFamily (O := O) (d := 199) (u := u) (I := I) (J := J) (v := a1) hG hn c7
  have ifa := v_isFamily (O := O) (d := 198) (u := u) (J := J) (I := up2 I 69 0 (nI 0)) (v := a1) hS (N := F) (by (try simp (disch := omega) only [up2_at, up2_na, up2_nk, up2_off]); exact w1) (by omega)
  have no : F_X10_keep O 199 0 a1 a2 a3 (hp u n T I J R) = some (-1, hp u n T I J R) → F_X11_keep O 199 69 a1 a2 a3 (hp u n T I J R) = some (-1, hp u n T (up2 I 69 0 (nI 0)) J R) → Bo O Inv MX10_keep MX11_keep [.int a1, .int a2, .int a3] c (hp u n T I J R) := fun h1 h2 => Bo_i (u1 := u) (J1 := J) (J2 := J) (e_X10_keep (d := 199) h1) hS (e_X11_keep (d := 199) h2) (Iv_thr hI (nI 0)).e
  cases hb : inR a1 F with
  | false =>
    rw [hb] at hfa ifa
    refine no ?_ ?_
    · unfold F_X10_keep
      rw [gg, Option.bind_some, vc_g hG hn, hfa]
      rfl
    · unfold F_X11_keep
      rw [pi_69_0 hS, Option.bind_some, vc_69 hS, ifa]
      rfl
  | true =>
    obtain ⟨f, hf, rfl⟩ := inR_ex hb (by omega)
    rw [hb] at hfa ifa
    rcases arg_c a2 (lo := 1) (hi := 99) (by decide) (by decide) with ⟨y, y1, y2, rfl⟩ | ⟨hb5, hb2⟩
    · have l1 : ¬ nI y < nI 1 := fun z => absurd ((nI_ltI (by omega) (by omega)).mp z) (by omega)
      have l2 : ¬ nI 99 < nI y := fun z => absurd ((nI_ltI (by omega) (by omega)).mp z) (by omega)
      rcases arg_0 a3 (hi := 2) (by decide) with ⟨o, ho, rfl⟩ | ⟨hb5, hb2⟩
      · obtain ⟨m, hm, em⟩ := hs.2.2.2.2.2.1 f hf
        have own := kp_own (f := f) hgd hw
        have dO := v_deadOf (O := O) (d := 198) (u := u) (I := I) (J := J) (v := nI f) hG hn c9 c10
        have iA := v_inAfter (O := O) (d := 198) (u := u) (I := I) (J := J) (v := nI 0) hG hn c9 c10
        obtain ⟨r1, e1, I1, hr1, o1, k1⟩ := c_layC (d := 194) (u := u) (J := J) (f := f) (y := y) (a2 := nI f) (a4 := nI o) hO hS hgd hw (by omega)
        have hG1 : Gnd n T I1 R g (I 71) V F D S N := Gnd_cg hgd (fun a ha => o1 a (by omega) (by omega) (by omega) (by omega))
        have e2 := c_best (O := O) (d := 197) (u := u) (J := J) (a4 := nI o) hS hG1 hw hf em hm k1 (kpK_le (by omega)) (stN_lt (kpO (I 71) f) D)
        have i71 : up2 I1 69 0 (nI 0) 71 = I 71 := by rw [up2_off _ _ _ (by decide)]; exact o1 71 (by decide) (by decide) (by decide) (by decide)
        obtain ⟨I2, J2, e3, p1, p2, p3, p4⟩ := m_layC (O := O) (d := 193) (u := u) (J := J) (I := up2 I1 69 0 (nI 0)) (f := f) (y := y) hS (by rw [up2_nk (by decide), o1 69 (by decide) (by decide) (by decide) (by decide)]; exact b5) (by rw [i71]; exact hw) (by omega)
        rw [i71] at p4
        have e4 := m_best (O := O) (d := 199) (u := u) (J := J2) (I := I2) (v3 := nI o) hS hw ((p1 71 (by decide) (by decide)).trans i71) hf em hm (by omega) p4
        have ol := stN_lt (kpO (I 71) f) D
        have p8 := pow_lt d8
        have lb := (kpS_le (o := stN (kpO (I 71) f) D) (cst := fun s => csN (kpK (I 71) D f y) s D) (m := m) (B := 160000) (fun s => by
          have := csN_le (s := s) (kpK_le (w := I 71) (D := D) (f := f) (y := y) (by omega)) D
          have := Nat.mul_le_mul_right 20000 d8
          omega) (stN (kpO (I 71) f) D)).1
        generalize kpS (stN (kpO (I 71) f) D) (fun s => csN (kpK (I 71) D f y) s D) m (stN (kpO (I 71) f) D) = Z at e2 e4 lb
        refine Bo_rd (a := if nI o = 0 then nI (popN Z.1) else if nI o = nI 1 then nI Z.2 else nI Z.1) (I1 := I1) (J1 := J) hI (e_X10_keep (d := 199) ?_) (fun a ha => o1 a (by unfold Rlv rl at ha; omega) (by unfold Rlv rl at ha; omega) (by unfold Rlv rl at ha; omega) (by unfold Rlv rl at ha; omega)) (MJx_r J) (e_X11_keep (d := 199) ?_) ((MSx_thr I1 (nI 0)).tr ⟨fun a h1 h2 => p1 a h1 (by omega), fun k hk => p2 k (by omega) (by omega)⟩) p3
        · have ek : ev O 199 MX4_kept [.ref 7, .ref g, .int (nI f), .int (nI y), .int (nI o)] (hp u n T I J R) = some (some (.int (if nI o = 0 then nI (popN Z.1) else if nI o = nI 1 then nI Z.2 else nI Z.1)), hp u n T I1 J R) := by
            refine e_X4_kept (d := 198) ?_
            unfold F_X4_kept
            rw [vc_g hG hn, dO, toI_i, Option.bind_some]
            dsimp only
            rw [vc_g hG hn, iA, toI_i, Option.bind_some]
            dsimp only
            rw [own, e1, hr1, Option.bind_some, e2, Option.bind_some]
            dsimp only
            by_cases h0 : nI o = 0
            · rw [if_pos h0, if_pos h0, v_bit, pop_bc (by omega)]
              rfl
            · rw [if_neg h0, if_neg h0]
          unfold F_X10_keep
          rw [gg, Option.bind_some, vc_g hG hn, hfa, toI_i, Option.bind_some, if_neg nbt, if_neg l1, if_neg l2, if_neg (nI_pos (by omega)), if_pos (nI_le ho (by omega)), ga_0_1 hS, Option.bind_some, gg, Option.bind_some, vc_7 hS, ek]
          rfl
        · have ifa' := v_isFamily (O := O) (d := 198) (u := u) (J := J) (I := up2 I1 69 0 (nI 0)) (v := nI f) hS (N := F) (by rw [i71]; exact w1) (by omega)
          rw [hb] at ifa'
          unfold F_X11_keep
          rw [pi_69_0 hS, Option.bind_some, vc_69 hS, ifa', toI_i, Option.bind_some, if_neg nbt]
          dsimp only
          rw [v_in_1_99, rg_t y1 y2 (by decide), toI_i, Option.bind_some, if_neg nbt]
          dsimp only
          rw [v_in_0_2, rg_t (Nat.zero_le o) ho (by decide), toI_i, Option.bind_some, if_neg nbt]
          dsimp only
          rw [vc_69 hS, e3, toV_v, Option.bind_some, e4, Option.bind_some]
      · refine no ?_ ?_
        · unfold F_X10_keep
          rw [gg, Option.bind_some, vc_g hG hn, hfa, toI_i, Option.bind_some, if_neg nbt, if_neg l1, if_neg l2]
          rcases hb2 with z | ⟨z1, z2, z3⟩
          · rw [if_pos z]
          · rw [if_neg z1, if_neg z2]
        · unfold F_X11_keep
          rw [pi_69_0 hS, Option.bind_some, vc_69 hS, ifa, toI_i, Option.bind_some, if_neg nbt]
          dsimp only
          rw [v_in_1_99, rg_t y1 y2 (by decide), toI_i, Option.bind_some, if_neg nbt]
          dsimp only
          rw [v_in_0_2, hb5]
          rfl
    · refine no ?_ ?_
      · unfold F_X10_keep
        rw [gg, Option.bind_some, vc_g hG hn, hfa, toI_i, Option.bind_some, if_neg nbt]
        rcases hb2 with z | ⟨z1, z2, z3⟩
        · rw [if_pos z]
        · rw [if_neg z1, if_pos z3]
      · unfold F_X11_keep
        rw [pi_69_0 hS, Option.bind_some, vc_69 hS, ifa, toI_i, Option.bind_some, if_neg nbt]
        dsimp only
        rw [v_in_1_99, hb5]
        rfl
end KP
