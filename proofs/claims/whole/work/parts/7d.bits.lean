/-! sets as bits; calls: stranger -/
def btI (x : Int32) (i : Nat) : Bool := x.toBitVec.getLsbD i
theorem btI_ext {x y : Int32} (h : ∀ i, i < 32 → btI x i = btI y i) : x = y := Int32.toBitVec_inj.mp (BitVec.eq_of_getLsbD_eq h)
theorem btI_nI (a i : Nat) : btI (nI a) i = (decide (i < 32) && a.testBit i) := BitVec.getLsbD_ofNat 32 a i
theorem btI_and (x y : Int32) (i : Nat) : btI (x &&& y) i = (btI x i && btI y i) := BitVec.getLsbD_and
theorem btI_or (x y : Int32) (i : Nat) : btI (x ||| y) i = (btI x i || btI y i) := BitVec.getLsbD_or
theorem btI_xor (x y : Int32) (i : Nat) : btI (x ^^^ y) i = (btI x i ^^ btI y i) := BitVec.getLsbD_xor
theorem btI_m1 : ∀ i, i < 32 → btI (-1) i = true := by decide
theorem btI_0 (i : Nat) : btI (nI 0) i = false := by rw [btI_nI, Nat.zero_testBit, Bool.and_false]
theorem btI_one : ∀ k, k < 31 → nI 1 <<< (nI k &&& 31) = nI (2 ^ k) := by decide +kernel
theorem btI_ev : ∀ D, D ≤ 8 → (nI 1 <<< (nI D &&& 31)) - nI 1 = nI (2 ^ D - 1) := by decide +kernel
/-- the set of those below k of whom f holds -/
def stN (f : Nat → Bool) : Nat → Nat
  | 0 => 0
  | k + 1 => stN f k ||| (if f k = true then 2 ^ k else 0)
theorem stN_bit (f : Nat → Bool) (i : Nat) : ∀ k, (stN f k).testBit i = (decide (i < k) && f i)
  | 0 => by
    rw [show stN f 0 = 0 from rfl, Nat.zero_testBit]
    simp
  | k + 1 => by
    rw [show stN f (k + 1) = stN f k ||| (if f k = true then 2 ^ k else 0) from rfl, Nat.testBit_or, stN_bit f i k]
    by_cases h : i = k
    · subst h
      by_cases hf : f i = true
      · rw [if_pos hf, Nat.testBit_two_pow_self, hf]
        simp
      · rw [if_neg hf, Nat.zero_testBit]
        simp [hf]
    · have e : (if f k = true then 2 ^ k else 0).testBit i = false := by
        split
        · exact Nat.testBit_two_pow_of_ne (Ne.symm h)
        · exact Nat.zero_testBit i
      rw [e, Bool.or_false]
      congr 1
      exact decide_eq_decide.mpr (by omega)
theorem stN_lt (f : Nat → Bool) : ∀ k, stN f k < 2 ^ k
  | 0 => Nat.zero_lt_one
  | k + 1 => by
    have h := stN_lt f k
    show stN f k ||| (if f k = true then 2 ^ k else 0) < 2 ^ (k + 1)
    apply Nat.or_lt_two_pow
    · exact Nat.lt_of_lt_of_le h (Nat.pow_le_pow_right (by decide) (Nat.le_succ k))
    · split
      · exact Nat.pow_lt_pow_right (by decide) (Nat.lt_succ_self k)
      · exact Nat.two_pow_pos (k + 1)
theorem stN_cg {f f' : Nat → Bool} : ∀ {k : Nat}, (∀ j, j < k → f' j = f j) → stN f' k = stN f k
  | 0, _ => rfl
  | k + 1, h => by
    show stN f' k ||| (if f' k = true then 2 ^ k else 0) = stN f k ||| (if f k = true then 2 ^ k else 0)
    rw [h k (by omega), stN_cg (fun j hj => h j (by omega))]
theorem stI_bit (f : Nat → Bool) {D i : Nat} (hi : i < 32) : btI (nI (stN f D)) i = (decide (i < D) && f i) := by
  rw [btI_nI, stN_bit, decide_eq_true hi, Bool.true_and]
/-- the reference's way, and the class's, to gather bits -/
theorem stI_s {f : Nat → Bool} {k : Nat} (hk : k < 31) : nI (stN f (k + 1)) = nI (stN f k) ||| (if f k = true then nI 1 <<< (nI k &&& 31) else nI 0) := by
  apply btI_ext
  intro i hi
  rw [btI_nI, btI_or, btI_nI, show stN f (k + 1) = stN f k ||| (if f k = true then 2 ^ k else 0) from rfl, Nat.testBit_or, decide_eq_true hi, Bool.true_and, Bool.true_and]
  congr 1
  split
  · rw [btI_one k hk, btI_nI, decide_eq_true hi, Bool.true_and]
  · rw [btI_0, Nat.zero_testBit]
theorem lyF_st (w : Nat → Int32) (v : Int32) : ∀ k, k ≤ 8 → lyF w v k = nI (stN (fun j => decide (w j = v)) k)
  | 0, _ => rfl
  | k + 1, h => by
    rw [stI_s (by omega), ← lyF_st w v k (by omega)]
    show (if w k = v then lyF w v k ||| _ else lyF w v k) = lyF w v k ||| (if decide (w k = v) = true then _ else nI 0)
    by_cases e : w k = v
    · rw [if_pos e, if_pos (decide_eq_true e)]
    · rw [if_neg e, if_neg (fun z => e (of_decide_eq_true z)), nI_0, Int32.or_zero]
theorem afF_st (w : Nat → Int32) (v : Int32) : ∀ k, k ≤ 8 → afF w v k = nI (stN (fun j => decide (¬ w j ≤ v)) k)
  | 0, _ => rfl
  | k + 1, h => by
    rw [stI_s (by omega), ← afF_st w v k (by omega)]
    show (if w k ≤ v then afF w v k else afF w v k ||| _) = afF w v k ||| (if decide (¬ w k ≤ v) = true then _ else nI 0)
    by_cases e : w k ≤ v
    · rw [if_pos e, if_neg (fun z => absurd e (of_decide_eq_true z)), nI_0, Int32.or_zero]
    · rw [if_neg e, if_pos (decide_eq_true e)]
def allF (p : Nat → Bool) : Nat → Bool
  | 0 => true
  | k + 1 => allF p k && p k
/-- can it be this one, by what was seen -/
def sgF (w : Nat → Int32) (S d : Nat) : Bool := allF (fun j => if w (90 + 2 * j + 1) = nI 1 then decide (w (17 + d) ≤ w (90 + 2 * j)) else decide (¬ w (17 + d) ≤ w (90 + 2 * j))) S
section SG
variable {O : mO} {L : Nat} {xs : Nat → Int32} {c d u n : Nat} {T : Nat → mT} {I : Nat → Nat → Int32} {J : Nat → Nat → Int64} {R : Nat → Nat → Option Nat} {g V F D S N : Nat} {w : Nat → Int32} {K : mH}
theorem v_cStr (hG : Gnd n T I R g w V F D S N) (hw : Wf w V F D S N) (hn : n ≤ oB) : ev O (d + 1) MX2_strangers [.ref g] (hp u n T I J R) = some (some (.int (nI (stN (sgF w S) D))), hp u n T I J R) := by
  have h8 := hw.1
  obtain ⟨⟨c1, c2, c3, c4, c5, c6, c7, c8, c9, c10, c11, c12⟩, q1, q2, q3, q4, q5, q6, q7, q8, q9, -⟩ := id hG
  refine e_X2_strangers ?_
  unfold F_X2_strangers
  rw [gi_g_13 c2 hn, Option.bind_some, c9, btI_ev D (by omega)]
  refine lup_b (fun k => (nI (stN (sgF w k) D), nI k, hp u n T I J R)) (nI (stN (sgF w S) D), hp u n T I J R) S (by omega) ?_ ?_ ?_ rfl
  · have : nI (2 ^ D - 1) = nI (stN (sgF w 0) D) := by
      apply btI_ext
      intro i hi
      rw [stI_bit _ hi, btI_nI, Nat.testBit_two_pow_sub_one, decide_eq_true hi, Bool.true_and]
      show _ = (decide (i < D) && true)
      rw [Bool.and_true]
    rw [this]
  · intro k hk
    dsimp only
    unfold F_X2_strangers_l13
    have iA := v_inAfter (O := O) (d := d) (u := u) (J := J) (I := I) (v := w (90 + 2 * k)) c2 hn c9 c10
    rw [afF_cg (w' := I (g + 5)) (w := fun j => w (17 + j)) (fun j hj => q7 j (by omega)), afF_st _ _ D (by omega)] at iA
    simp (disch := first | assumption | omega) only [ga_g_1, ga_g_2, ga_g_3, ga_g_4, ga_g_5, ga_g_6, ga_g_7, ga_g_8, ga_g_9, ga_g_10, gi_g_11, pi_g_11, gi_g_12, pi_g_12, gi_g_13, pi_g_13, gi_g_14, pi_g_14, gi_g_15, pi_g_15, gi_g_16, pi_g_16, gi_g_17, pi_g_17, ga_g_0, vc_g, rd_g_1, wr_g_1, ln_g_1, rd_g_2, wr_g_2, ln_g_2, rd_g_3, wr_g_3, ln_g_3, rd_g_4, wr_g_4, ln_g_4, rd_g_5, wr_g_5, ln_g_5, rd_g_6, wr_g_6, ln_g_6, rd_g_7, wr_g_7, ln_g_7, rd_g_8, wr_g_8, ln_g_8, rd_g_9, wr_g_9, ln_g_9, rd_g_10, Option.bind_some, toI_i, toJ_j, toV_v, toR_r, up2_at, up2_na, up2_nk, up2_off, nI_add, nI_mul, nI_leI, nI_ltI, nI_eq, bI_eq0, q1, (q9 k (by omega)).1, (q9 k (by omega)).2, iA]
    rw [if_neg (by omega)]
    have key : nI (stN (sgF w k) D) &&& (if w (90 + 2 * k + 1) = nI 1 then nI (2 ^ D - 1) &&& (nI (stN (fun j => decide (¬ w (17 + j) ≤ w (90 + 2 * k))) D) ^^^ -1) else nI (stN (fun j => decide (¬ w (17 + j) ≤ w (90 + 2 * k))) D)) = nI (stN (sgF w (k + 1)) D) := by
      apply btI_ext
      intro i hi
      rw [btI_and, stI_bit _ hi, stI_bit _ hi]
      show (decide (i < D) && sgF w k i && _) = (decide (i < D) && (sgF w k i && (if w (90 + 2 * k + 1) = nI 1 then decide (w (17 + i) ≤ w (90 + 2 * k)) else decide (¬ w (17 + i) ≤ w (90 + 2 * k)))))
      by_cases ho : w (90 + 2 * k + 1) = nI 1
      · rw [if_pos ho, if_pos ho, btI_and, btI_xor, stI_bit _ hi, btI_m1 i hi, btI_nI, Nat.testBit_two_pow_sub_one, decide_eq_true hi]
        by_cases h1 : i < D
        · by_cases h2 : w (17 + i) ≤ w (90 + 2 * k) <;> simp [h1, h2]
        · simp [h1]
      · rw [if_neg ho, if_neg ho, stI_bit _ hi]
        by_cases h1 : i < D <;> simp [h1]
    rw [key]
  · dsimp only
    unfold F_X2_strangers_l13
    simp (disch := first | assumption | omega) only [ga_g_1, ga_g_2, ga_g_3, ga_g_4, ga_g_5, ga_g_6, ga_g_7, ga_g_8, ga_g_9, ga_g_10, gi_g_11, pi_g_11, gi_g_12, pi_g_12, gi_g_13, pi_g_13, gi_g_14, pi_g_14, gi_g_15, pi_g_15, gi_g_16, pi_g_16, gi_g_17, pi_g_17, ga_g_0, vc_g, rd_g_1, wr_g_1, ln_g_1, rd_g_2, wr_g_2, ln_g_2, rd_g_3, wr_g_3, ln_g_3, rd_g_4, wr_g_4, ln_g_4, rd_g_5, wr_g_5, ln_g_5, rd_g_6, wr_g_6, ln_g_6, rd_g_7, wr_g_7, ln_g_7, rd_g_8, wr_g_8, ln_g_8, rd_g_9, wr_g_9, ln_g_9, rd_g_10, Option.bind_some, toI_i, toJ_j, toV_v, toR_r, up2_at, up2_na, up2_nk, up2_off, nI_add, nI_mul, nI_leI, nI_ltI, nI_eq, bI_eq0, q1]
    rw [if_pos (Nat.le_refl S)]
theorem v_outIn {k : Nat} {v : Int32} (hS : St n T R) (hk : k < 8) : ev O (d + 1) MX11_outIn [.ref 69, .int (nI k), .int v] (hp u n T I J R) = some (some (.int (if v < I 71 (17 + k) then nI 0 else nI 1)), hp u n T I J R) := by
  refine e_X11_outIn ?_
  unfold F_X11_outIn
  simp (disch := first | assumption | omega) only [vc_69, gi_69_0, pi_69_0, gi_69_1, pi_69_1, ga_69_2, ga_69_3, ga_69_4, ga_69_5, ga_69_6, ga_69_7, gi_69_8, pi_69_8, ga_69_9, ga_69_10, gi_69_11, pi_69_11, ga_69_12, gi_69_13, pi_69_13, gi_69_14, pi_69_14, gi_69_15, pi_69_15, gi_69_16, pi_69_16, gj_69_17, pj_69_17, gi_69_18, pi_69_18, gi_69_19, pi_69_19, gi_69_20, pi_69_20, gi_69_21, pi_69_21, ga_69_22, gi_69_23, pi_69_23, ga_69_24, ga_69_25, gi_69_26, pi_69_26, ga_69_27, ga_69_28, gi_69_29, pi_69_29, gi_69_30, pi_69_30, ga_69_31, ga_69_32, ga_69_33, gi_69_34, pi_69_34, ga_69_35, ga_69_36, ga_69_37, gi_69_38, pi_69_38, gj_69_39, pj_69_39, gj_69_40, pj_69_40, ga_69_41, ga_69_42, ga_69_43, ga_69_44, ga_69_45, ga_69_46, ga_69_47, gi_69_48, pi_69_48, gi_69_49, pi_69_49, gi_69_50, pi_69_50, gi_69_51, pi_69_51, gj_69_52, pj_69_52, ga_69_53, gi_69_54, pi_69_54, gi_69_55, pi_69_55, rd_71, wr_71, ln_71, Option.bind_some, toI_i, toJ_j, toV_v, toR_r, up2_at, up2_na, up2_nk, up2_off, nI_add, nI_mul, nI_leI, nI_ltI, nI_eq, bI_eq0]
theorem v_mStr (hS : St n T R) (hw : Wf (I 71) V F D S N) : ev O (d + 2) MX11_strangers [.ref 69] (hp u n T I J R) = some (some (.int (nI (stN (sgF (I 71) S) D))), hp u n T I J R) := by
  have h8 := hw.1
  have w2 : I 71 2 = nI D := hw.2.1.2.2.1
  have w3 : I 71 3 = nI S := hw.2.1.2.2.2.1
  have hsn := hw.2.2.2.2.2.2.1
  refine e_X11_strangers ?_
  unfold F_X11_strangers
  refine lup_b (fun k => (nI (stN (sgF (I 71) S) k), nI k, hp u n T I J R)) (nI (stN (sgF (I 71) S) D), hp u n T I J R) D (by omega) rfl ?_ ?_ rfl
  · intro k hk
    dsimp only
    unfold F_X11_strangers_l4
    simp (disch := first | assumption | omega) only [vc_69, gi_69_0, pi_69_0, gi_69_1, pi_69_1, ga_69_2, ga_69_3, ga_69_4, ga_69_5, ga_69_6, ga_69_7, gi_69_8, pi_69_8, ga_69_9, ga_69_10, gi_69_11, pi_69_11, ga_69_12, gi_69_13, pi_69_13, gi_69_14, pi_69_14, gi_69_15, pi_69_15, gi_69_16, pi_69_16, gj_69_17, pj_69_17, gi_69_18, pi_69_18, gi_69_19, pi_69_19, gi_69_20, pi_69_20, gi_69_21, pi_69_21, ga_69_22, gi_69_23, pi_69_23, ga_69_24, ga_69_25, gi_69_26, pi_69_26, ga_69_27, ga_69_28, gi_69_29, pi_69_29, gi_69_30, pi_69_30, ga_69_31, ga_69_32, ga_69_33, gi_69_34, pi_69_34, ga_69_35, ga_69_36, ga_69_37, gi_69_38, pi_69_38, gj_69_39, pj_69_39, gj_69_40, pj_69_40, ga_69_41, ga_69_42, ga_69_43, ga_69_44, ga_69_45, ga_69_46, ga_69_47, gi_69_48, pi_69_48, gi_69_49, pi_69_49, gi_69_50, pi_69_50, gi_69_51, pi_69_51, gj_69_52, pj_69_52, ga_69_53, gi_69_54, pi_69_54, gi_69_55, pi_69_55, rd_71, wr_71, ln_71, Option.bind_some, toI_i, toJ_j, toV_v, toR_r, up2_at, up2_na, up2_nk, up2_off, nI_add, nI_mul, nI_leI, nI_ltI, nI_eq, bI_eq0, w2]
    rw [if_neg (by omega)]
    refine lup_b (fun m => (bI (sgF (I 71) m k), nI m, hp u n T I J R)) (bI (sgF (I 71) S k), hp u n T I J R) S (by omega) rfl ?_ ?_ ?_
    · intro m hm
      obtain ⟨hy, ⟨o, ho, eo⟩⟩ := hsn m hm
      have es : sgF (I 71) (m + 1) k = (sgF (I 71) m k && (if I 71 (90 + 2 * m + 1) = nI 1 then decide (I 71 (17 + k) ≤ I 71 (90 + 2 * m)) else decide (¬ I 71 (17 + k) ≤ I 71 (90 + 2 * m)))) := rfl
      dsimp only
      unfold F_X11_strangers_l19 F_X11_strangers_j72
      simp (disch := first | assumption | omega) only [vc_69, gi_69_0, pi_69_0, gi_69_1, pi_69_1, ga_69_2, ga_69_3, ga_69_4, ga_69_5, ga_69_6, ga_69_7, gi_69_8, pi_69_8, ga_69_9, ga_69_10, gi_69_11, pi_69_11, ga_69_12, gi_69_13, pi_69_13, gi_69_14, pi_69_14, gi_69_15, pi_69_15, gi_69_16, pi_69_16, gj_69_17, pj_69_17, gi_69_18, pi_69_18, gi_69_19, pi_69_19, gi_69_20, pi_69_20, gi_69_21, pi_69_21, ga_69_22, gi_69_23, pi_69_23, ga_69_24, ga_69_25, gi_69_26, pi_69_26, ga_69_27, ga_69_28, gi_69_29, pi_69_29, gi_69_30, pi_69_30, ga_69_31, ga_69_32, ga_69_33, gi_69_34, pi_69_34, ga_69_35, ga_69_36, ga_69_37, gi_69_38, pi_69_38, gj_69_39, pj_69_39, gj_69_40, pj_69_40, ga_69_41, ga_69_42, ga_69_43, ga_69_44, ga_69_45, ga_69_46, ga_69_47, gi_69_48, pi_69_48, gi_69_49, pi_69_49, gi_69_50, pi_69_50, gi_69_51, pi_69_51, gj_69_52, pj_69_52, ga_69_53, gi_69_54, pi_69_54, gi_69_55, pi_69_55, rd_71, wr_71, ln_71, Option.bind_some, toI_i, toJ_j, toV_v, toR_r, up2_at, up2_na, up2_nk, up2_off, nI_add, nI_mul, nI_leI, nI_ltI, nI_eq, bI_eq0, w3, v_outIn, eo]
      rw [if_neg (by omega), es]
      cases hs : sgF (I 71) m k with
      | false => rw [if_pos rfl]; rfl
      | true =>
        rw [if_neg (by decide), Bool.true_and, eo]
        have ho2 : o = 0 ∨ o = 1 := by omega
        by_cases h : I 71 (90 + 2 * m) < I 71 (17 + k)
        · have h' : ¬ I 71 (17 + k) ≤ I 71 (90 + 2 * m) := Int32.not_le.mpr h
          rcases ho2 with rfl | rfl
          · rw [if_pos h, if_pos rfl, if_neg (by decide), decide_eq_true h']
            rfl
          · rw [if_pos h, if_neg (by decide), if_pos rfl, decide_eq_false h']
            rfl
        · have h' : I 71 (17 + k) ≤ I 71 (90 + 2 * m) := Int32.not_lt.mp h
          rcases ho2 with rfl | rfl
          · rw [if_neg h, if_neg (by decide), if_neg (by decide), decide_eq_false (fun z => z h')]
            rfl
          · rw [if_neg h, if_pos rfl, if_pos rfl, decide_eq_true h']
            rfl
    · dsimp only
      unfold F_X11_strangers_l19
      simp (disch := first | assumption | omega) only [vc_69, gi_69_0, pi_69_0, gi_69_1, pi_69_1, ga_69_2, ga_69_3, ga_69_4, ga_69_5, ga_69_6, ga_69_7, gi_69_8, pi_69_8, ga_69_9, ga_69_10, gi_69_11, pi_69_11, ga_69_12, gi_69_13, pi_69_13, gi_69_14, pi_69_14, gi_69_15, pi_69_15, gi_69_16, pi_69_16, gj_69_17, pj_69_17, gi_69_18, pi_69_18, gi_69_19, pi_69_19, gi_69_20, pi_69_20, gi_69_21, pi_69_21, ga_69_22, gi_69_23, pi_69_23, ga_69_24, ga_69_25, gi_69_26, pi_69_26, ga_69_27, ga_69_28, gi_69_29, pi_69_29, gi_69_30, pi_69_30, ga_69_31, ga_69_32, ga_69_33, gi_69_34, pi_69_34, ga_69_35, ga_69_36, ga_69_37, gi_69_38, pi_69_38, gj_69_39, pj_69_39, gj_69_40, pj_69_40, ga_69_41, ga_69_42, ga_69_43, ga_69_44, ga_69_45, ga_69_46, ga_69_47, gi_69_48, pi_69_48, gi_69_49, pi_69_49, gi_69_50, pi_69_50, gi_69_51, pi_69_51, gj_69_52, pj_69_52, ga_69_53, gi_69_54, pi_69_54, gi_69_55, pi_69_55, rd_71, wr_71, ln_71, Option.bind_some, toI_i, toJ_j, toV_v, toR_r, up2_at, up2_na, up2_nk, up2_off, nI_add, nI_mul, nI_leI, nI_ltI, nI_eq, bI_eq0, w3]
      rw [if_pos (Nat.le_refl S)]
    · rw [stI_s (by omega)]
      cases sgF (I 71) S k <;> rfl
  · dsimp only
    unfold F_X11_strangers_l4
    simp (disch := first | assumption | omega) only [vc_69, gi_69_0, pi_69_0, gi_69_1, pi_69_1, ga_69_2, ga_69_3, ga_69_4, ga_69_5, ga_69_6, ga_69_7, gi_69_8, pi_69_8, ga_69_9, ga_69_10, gi_69_11, pi_69_11, ga_69_12, gi_69_13, pi_69_13, gi_69_14, pi_69_14, gi_69_15, pi_69_15, gi_69_16, pi_69_16, gj_69_17, pj_69_17, gi_69_18, pi_69_18, gi_69_19, pi_69_19, gi_69_20, pi_69_20, gi_69_21, pi_69_21, ga_69_22, gi_69_23, pi_69_23, ga_69_24, ga_69_25, gi_69_26, pi_69_26, ga_69_27, ga_69_28, gi_69_29, pi_69_29, gi_69_30, pi_69_30, ga_69_31, ga_69_32, ga_69_33, gi_69_34, pi_69_34, ga_69_35, ga_69_36, ga_69_37, gi_69_38, pi_69_38, gj_69_39, pj_69_39, gj_69_40, pj_69_40, ga_69_41, ga_69_42, ga_69_43, ga_69_44, ga_69_45, ga_69_46, ga_69_47, gi_69_48, pi_69_48, gi_69_49, pi_69_49, gi_69_50, pi_69_50, gi_69_51, pi_69_51, gj_69_52, pj_69_52, ga_69_53, gi_69_54, pi_69_54, gi_69_55, pi_69_55, rd_71, wr_71, ln_71, Option.bind_some, toI_i, toJ_j, toV_v, toR_r, up2_at, up2_na, up2_nk, up2_off, nI_add, nI_mul, nI_leI, nI_ltI, nI_eq, bI_eq0, w2]
    rw [if_pos (Nat.le_refl D)]
theorem b_stranger (hI : Inv c K) : Bo O Inv MX10_stranger MX11_stranger [] c K := by
  obtain ⟨u, n, T, I, J, R, g, h, V, F, D, S, N, x, s, rfl, hI⟩ := hI
  obtain ⟨hS, hn, gg, hh, hG, hH, hw, hgd, hg⟩ := Iv_all hI
  obtain ⟨⟨v5, f4, d8, s8, n6⟩, ⟨w0, w1, w2, w3, w4⟩, hf, hs, hfam, hwi, hsn, hlw⟩ := hw
  obtain ⟨⟨c1, c2, c3, c4, c5, c6, c7, c8, c9, c10, c11, c12⟩, q1, q2, q3, q4, q5, q6, q7, q8, q9, q10, q11, ql⟩ := hgd
  obtain ⟨⟨b1, b2, b3, b4, b5⟩, b6, b7, b8, b9, b10⟩ := hI.2.2.2.2.2.2.2.1
  have hJ := hI.2.2.2.2.2.2.2.2.2
  have hu := hI.2.2.2.2.1
  have hw := hI.2.2.1
  have hgd := hI.2.2.2.1
  have e71 : up2 I 69 0 (nI 0) 71 = I 71 := up2_off _ _ _ (by decide)
  have ms := v_mStr (O := O) (d := 197) (u := u) (J := J) (I := up2 I 69 0 (nI 0)) hS (by rw [e71]; exact hw)
  rw [e71] at ms
  refine Bo_i (u1 := u) (a := nI (stN (sgF (I 71) S) D)) (J1 := J) (J2 := J) (e_X10_stranger (d := 199) (K0 := hp u n T I J R) ?_) hS (e_X11_stranger (d := 199) ?_) (Iv_thr hI (nI 0)).e
  · unfold F_X10_stranger
    rw [gg, Option.bind_some, vc_g hG hn, v_cStr (d := 198) hgd hw hn]
    rfl
  · unfold F_X11_stranger
    rw [pi_69_0 hS, Option.bind_some, vc_69 hS, ms]
    rfl
end SG
