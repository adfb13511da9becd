/-! calls: has, compare -/
section B8
variable {O : mO} {L : Nat} {xs : Nat → Int32} {c d u n : Nat} {T : Nat → mT} {I : Nat → Nat → Int32} {J : Nat → Nat → Int64} {R : Nat → Nat → Option Nat} {g V F D S N : Nat} {w : Nat → Int32} {K : mH}
/-- prices of those of a family who are in, together -/
def biF (w : Nat → Int32) (D : Nat) (f : Int32) : Nat → Int32
  | 0 => nI 0
  | k + 1 => if w (42 + k) = f ∧ w (9 + k) ≠ -1 then biF w D f k + prR w D k else biF w D f k
/-- prices of all who are in, together -/
def cpF (w : Nat → Int32) (D : Nat) : Nat → Int32
  | 0 => nI 0
  | k + 1 => if w (9 + k) ≠ -1 then cpF w D k + prR w D k else cpF w D k
theorem v_cBill {f : Int32} (hO : O = mOl L xs) (hG : Gnd n T I R g w V F D S N) (hw : Wf w V F D S N) (hn : n ≤ oB) : ∃ I', ev O (d + 4) MX2_bill [.ref g, .int f] (hp u n T I J R) = some (some (.int (biF w D f D)), hp u n T I' J R) ∧ SxC I I' := by
  have h8 := hw.1
  have L : ∃ r, lupF (fun (q : Int32 × Int32 × mH) => F_X2_bill_l4 O (d + 3) g f q.1 q.2.1 q.2.2) FU (nI 0, nI 0, hp u n T I J R) = some r ∧ (fun r => ∃ I', r = (biF w D f D, hp u n T I' J R) ∧ SxC I I') r := by
    refine lup_P0 (fun k s => ∃ I', s = (biF w D f k, nI k, hp u n T I' J R) ∧ SxC I I') (fun r => ∃ I', r = (biF w D f D, hp u n T I' J R) ∧ SxC I I') (N := D) (by omega) ⟨I, rfl, SxC.rf I⟩ ?_ ?_
    · intro k s hk ⟨I1, hs, hx⟩
      subst hs
      left
      have hG1 := Gnd_Sx hG hx
      obtain ⟨⟨c1, c2, c3, c4, c5, c6, c7, c8, c9, c10, c11, c12⟩, q1, q2, q3, q4, q5, q6, -⟩ := id hG1
      dsimp only
      unfold F_X2_bill_l4
      have isI := v_cIsIn (O := O) (d := d + 2) (u := u) (I := I1) (J := J) (v := nI k) c2 hn c9 c10
      rw [inR_nI hk (by omega), Bool.true_and, nI_clamp (by omega), q6 k (by omega)] at isI
      obtain ⟨I2, e2, s2⟩ := v_cPrice (d := d) (u := u) (J := J) hO hG1 hw hn hk
      by_cases hf : w (42 + k) = f
      · by_cases hi : w (9 + k) = -1
        · refine ⟨_, ?_, I1, rfl, hx⟩
          simp (disch := first | assumption | omega) only [ga_g_1, ga_g_2, ga_g_3, ga_g_4, ga_g_5, ga_g_6, ga_g_7, ga_g_8, ga_g_9, ga_g_10, gi_g_11, pi_g_11, gi_g_12, pi_g_12, gi_g_13, pi_g_13, gi_g_14, pi_g_14, gi_g_15, pi_g_15, gi_g_16, pi_g_16, gi_g_17, pi_g_17, ga_g_0, vc_g, rd_g_1, wr_g_1, ln_g_1, rd_g_2, wr_g_2, ln_g_2, rd_g_3, wr_g_3, ln_g_3, rd_g_4, wr_g_4, ln_g_4, rd_g_5, wr_g_5, ln_g_5, rd_g_6, wr_g_6, ln_g_6, rd_g_7, wr_g_7, ln_g_7, rd_g_8, wr_g_8, ln_g_8, rd_g_9, wr_g_9, ln_g_9, rd_g_10, Option.bind_some, toI_i, toJ_j, toV_v, toR_r, up2_at, up2_na, up2_nk, up2_off, nI_add, nI_mul, nI_leI, nI_ltI, nI_eq, bI_eq0, c9, q5 k (by omega), isI]
          rw [if_neg (by omega), if_pos hf, if_pos (decide_eq_false (fun z => z hi))]
          conv => rhs; unfold biF
          rw [if_neg (fun z => z.2 hi)]
        · refine ⟨_, ?_, I2, rfl, hx.tr s2⟩
          simp (disch := first | assumption | omega) only [ga_g_1, ga_g_2, ga_g_3, ga_g_4, ga_g_5, ga_g_6, ga_g_7, ga_g_8, ga_g_9, ga_g_10, gi_g_11, pi_g_11, gi_g_12, pi_g_12, gi_g_13, pi_g_13, gi_g_14, pi_g_14, gi_g_15, pi_g_15, gi_g_16, pi_g_16, gi_g_17, pi_g_17, ga_g_0, vc_g, rd_g_1, wr_g_1, ln_g_1, rd_g_2, wr_g_2, ln_g_2, rd_g_3, wr_g_3, ln_g_3, rd_g_4, wr_g_4, ln_g_4, rd_g_5, wr_g_5, ln_g_5, rd_g_6, wr_g_6, ln_g_6, rd_g_7, wr_g_7, ln_g_7, rd_g_8, wr_g_8, ln_g_8, rd_g_9, wr_g_9, ln_g_9, rd_g_10, Option.bind_some, toI_i, toJ_j, toV_v, toR_r, up2_at, up2_na, up2_nk, up2_off, nI_add, nI_mul, nI_leI, nI_ltI, nI_eq, bI_eq0, c9, q5 k (by omega), isI, v_cForce hG1 hn, e2]
          rw [if_neg (by omega), if_pos hf, if_neg (by rw [decide_eq_true hi]; decide)]
          conv => rhs; unfold biF
          rw [if_pos ⟨hf, hi⟩]
      · refine ⟨_, ?_, I1, rfl, hx⟩
        simp (disch := first | assumption | omega) only [ga_g_1, ga_g_2, ga_g_3, ga_g_4, ga_g_5, ga_g_6, ga_g_7, ga_g_8, ga_g_9, ga_g_10, gi_g_11, pi_g_11, gi_g_12, pi_g_12, gi_g_13, pi_g_13, gi_g_14, pi_g_14, gi_g_15, pi_g_15, gi_g_16, pi_g_16, gi_g_17, pi_g_17, ga_g_0, vc_g, rd_g_1, wr_g_1, ln_g_1, rd_g_2, wr_g_2, ln_g_2, rd_g_3, wr_g_3, ln_g_3, rd_g_4, wr_g_4, ln_g_4, rd_g_5, wr_g_5, ln_g_5, rd_g_6, wr_g_6, ln_g_6, rd_g_7, wr_g_7, ln_g_7, rd_g_8, wr_g_8, ln_g_8, rd_g_9, wr_g_9, ln_g_9, rd_g_10, Option.bind_some, toI_i, toJ_j, toV_v, toR_r, up2_at, up2_na, up2_nk, up2_off, nI_add, nI_mul, nI_leI, nI_ltI, nI_eq, bI_eq0, c9, q5 k (by omega), isI]
        rw [if_neg (by omega), if_neg hf]
        conv => rhs; unfold biF
        rw [if_neg (fun z => hf z.1)]
    · intro s ⟨I1, hs, hx⟩
      subst hs
      have hG1 := Gnd_Sx hG hx
      obtain ⟨⟨c1, c2, c3, c4, c5, c6, c7, c8, c9, c10, c11, c12⟩, -⟩ := id hG1
      refine ⟨_, ?_, I1, rfl, hx⟩
      dsimp only
      unfold F_X2_bill_l4
      simp (disch := first | assumption | omega) only [ga_g_1, ga_g_2, ga_g_3, ga_g_4, ga_g_5, ga_g_6, ga_g_7, ga_g_8, ga_g_9, ga_g_10, gi_g_11, pi_g_11, gi_g_12, pi_g_12, gi_g_13, pi_g_13, gi_g_14, pi_g_14, gi_g_15, pi_g_15, gi_g_16, pi_g_16, gi_g_17, pi_g_17, ga_g_0, vc_g, rd_g_1, wr_g_1, ln_g_1, rd_g_2, wr_g_2, ln_g_2, rd_g_3, wr_g_3, ln_g_3, rd_g_4, wr_g_4, ln_g_4, rd_g_5, wr_g_5, ln_g_5, rd_g_6, wr_g_6, ln_g_6, rd_g_7, wr_g_7, ln_g_7, rd_g_8, wr_g_8, ln_g_8, rd_g_9, wr_g_9, ln_g_9, rd_g_10, Option.bind_some, toI_i, toJ_j, toV_v, toR_r, up2_at, up2_na, up2_nk, up2_off, nI_add, nI_mul, nI_leI, nI_ltI, nI_eq, bI_eq0, c9]
      rw [if_pos (Nat.le_refl D)]
  obtain ⟨r, e, I', h1, h2⟩ := L
  refine ⟨I', ?_, h2⟩
  refine e_X2_bill (d := d + 3) ?_
  unfold F_X2_bill
  rw [e, h1]
  rfl
theorem Wf_Sx {I' : Nat → Nat → Int32} {J' : Nat → Nat → Int64} (hw : Wf (I 71) V F D S N) (h : SxM 69 I I' J J') : Wf (I' 71) V F D S N := by
  rw [h.1 71 (by decide)]
  exact hw
theorem v_mBill {f : Int32} (hS : St n T R) (h20 : I 69 20 = nI 0) (hw : Wf (I 71) V F D S N) : ∃ I' J', ev O (d + 6) MX11_billOf [.ref 69, .int f] (hp u n T I J R) = some (some (.int (biF (I 71) D f D)), hp u n T I' J' R) ∧ SxM 69 I I' J J' := by
  have h8 := hw.1
  have L : ∃ r, lupF (fun (q : Int32 × Int32 × mH) => F_X11_billOf_l4 O (d + 5) 69 f q.1 q.2.1 q.2.2) FU (nI 0, nI 0, hp u n T I J R) = some r ∧ (fun r => ∃ I' J', r = (biF (I 71) D f D, hp u n T I' J' R) ∧ SxM 69 I I' J J') r := by
    refine lup_P0 (fun k s => ∃ I' J', s = (biF (I 71) D f k, nI k, hp u n T I' J' R) ∧ SxM 69 I I' J J') (fun r => ∃ I' J', r = (biF (I 71) D f D, hp u n T I' J' R) ∧ SxM 69 I I' J J') (N := D) (by omega) ⟨I, J, rfl, SxM.rf 69 I J⟩ ?_ ?_
    · intro k s hk ⟨I1, J1, hs, hx⟩
      subst hs
      left
      have e71 : I1 71 = I 71 := hx.1 71 (by decide)
      have hw1 := Wf_Sx hw hx
      have w2 : I1 71 2 = nI D := hw1.2.1.2.2.1
      dsimp only
      unfold F_X11_billOf_l4 F_X11_billOf_j44 F_X11_billOf_j45
      obtain ⟨I2, J2, e2, s2⟩ := v_mPrice (O := O) (d := d) (u := u) (J := J1) (I := I1) hS (by rw [hx.2.1 20 (by decide) (by decide)]; exact h20) hw1 hk
      rw [e71] at e2 w2
      by_cases hf : I 71 (42 + k) = f
      · by_cases hi : I 71 (9 + k) = -1
        · refine ⟨_, ?_, I1, J1, rfl, hx⟩
          simp (disch := first | assumption | omega) only [vc_69, gi_69_0, pi_69_0, gi_69_1, pi_69_1, ga_69_2, ga_69_3, ga_69_4, ga_69_5, ga_69_6, ga_69_7, gi_69_8, pi_69_8, ga_69_9, ga_69_10, gi_69_11, pi_69_11, ga_69_12, gi_69_13, pi_69_13, gi_69_14, pi_69_14, gi_69_15, pi_69_15, gi_69_16, pi_69_16, gj_69_17, pj_69_17, gi_69_18, pi_69_18, gi_69_19, pi_69_19, gi_69_20, pi_69_20, gi_69_21, pi_69_21, ga_69_22, gi_69_23, pi_69_23, ga_69_24, ga_69_25, gi_69_26, pi_69_26, ga_69_27, ga_69_28, gi_69_29, pi_69_29, gi_69_30, pi_69_30, ga_69_31, ga_69_32, ga_69_33, gi_69_34, pi_69_34, ga_69_35, ga_69_36, ga_69_37, gi_69_38, pi_69_38, gj_69_39, pj_69_39, gj_69_40, pj_69_40, ga_69_41, ga_69_42, ga_69_43, ga_69_44, ga_69_45, ga_69_46, ga_69_47, gi_69_48, pi_69_48, gi_69_49, pi_69_49, gi_69_50, pi_69_50, gi_69_51, pi_69_51, gj_69_52, pj_69_52, ga_69_53, gi_69_54, pi_69_54, gi_69_55, pi_69_55, rd_70, wr_70, ln_70, rd_71, wr_71, ln_71, rd_74, wr_74, ln_74, rd_75, wr_75, ln_75, v_tell_1, v_tell_2, v_tell_3, v_tell_5, v_tell_6, v_tell0, v_change, v_settled0, Option.bind_some, toI_i, toJ_j, toV_v, toR_r, up2_at, up2_na, up2_nk, up2_off, nI_add, nI_mul, nI_leI, nI_ltI, nI_eq, bI_eq0, e71, w2, v_isIn]
          rw [if_neg (by omega), if_pos hf, if_pos (decide_eq_false (fun z => z hi))]
          conv => rhs; unfold biF
          rw [if_neg (fun z => z.2 hi), nI_0, Int32.add_zero]
        · refine ⟨_, ?_, I2, J2, rfl, hx.trans s2⟩
          simp (disch := first | assumption | omega) only [vc_69, gi_69_0, pi_69_0, gi_69_1, pi_69_1, ga_69_2, ga_69_3, ga_69_4, ga_69_5, ga_69_6, ga_69_7, gi_69_8, pi_69_8, ga_69_9, ga_69_10, gi_69_11, pi_69_11, ga_69_12, gi_69_13, pi_69_13, gi_69_14, pi_69_14, gi_69_15, pi_69_15, gi_69_16, pi_69_16, gj_69_17, pj_69_17, gi_69_18, pi_69_18, gi_69_19, pi_69_19, gi_69_20, pi_69_20, gi_69_21, pi_69_21, ga_69_22, gi_69_23, pi_69_23, ga_69_24, ga_69_25, gi_69_26, pi_69_26, ga_69_27, ga_69_28, gi_69_29, pi_69_29, gi_69_30, pi_69_30, ga_69_31, ga_69_32, ga_69_33, gi_69_34, pi_69_34, ga_69_35, ga_69_36, ga_69_37, gi_69_38, pi_69_38, gj_69_39, pj_69_39, gj_69_40, pj_69_40, ga_69_41, ga_69_42, ga_69_43, ga_69_44, ga_69_45, ga_69_46, ga_69_47, gi_69_48, pi_69_48, gi_69_49, pi_69_49, gi_69_50, pi_69_50, gi_69_51, pi_69_51, gj_69_52, pj_69_52, ga_69_53, gi_69_54, pi_69_54, gi_69_55, pi_69_55, rd_70, wr_70, ln_70, rd_71, wr_71, ln_71, rd_74, wr_74, ln_74, rd_75, wr_75, ln_75, v_tell_1, v_tell_2, v_tell_3, v_tell_5, v_tell_6, v_tell0, v_change, v_settled0, Option.bind_some, toI_i, toJ_j, toV_v, toR_r, up2_at, up2_na, up2_nk, up2_off, nI_add, nI_mul, nI_leI, nI_ltI, nI_eq, bI_eq0, e71, w2, v_isIn, e2]
          rw [if_neg (by omega), if_pos hf, if_neg (by rw [decide_eq_true hi]; decide)]
          conv => rhs; unfold biF
          rw [if_pos ⟨hf, hi⟩]
      · refine ⟨_, ?_, I1, J1, rfl, hx⟩
        simp (disch := first | assumption | omega) only [vc_69, gi_69_0, pi_69_0, gi_69_1, pi_69_1, ga_69_2, ga_69_3, ga_69_4, ga_69_5, ga_69_6, ga_69_7, gi_69_8, pi_69_8, ga_69_9, ga_69_10, gi_69_11, pi_69_11, ga_69_12, gi_69_13, pi_69_13, gi_69_14, pi_69_14, gi_69_15, pi_69_15, gi_69_16, pi_69_16, gj_69_17, pj_69_17, gi_69_18, pi_69_18, gi_69_19, pi_69_19, gi_69_20, pi_69_20, gi_69_21, pi_69_21, ga_69_22, gi_69_23, pi_69_23, ga_69_24, ga_69_25, gi_69_26, pi_69_26, ga_69_27, ga_69_28, gi_69_29, pi_69_29, gi_69_30, pi_69_30, ga_69_31, ga_69_32, ga_69_33, gi_69_34, pi_69_34, ga_69_35, ga_69_36, ga_69_37, gi_69_38, pi_69_38, gj_69_39, pj_69_39, gj_69_40, pj_69_40, ga_69_41, ga_69_42, ga_69_43, ga_69_44, ga_69_45, ga_69_46, ga_69_47, gi_69_48, pi_69_48, gi_69_49, pi_69_49, gi_69_50, pi_69_50, gi_69_51, pi_69_51, gj_69_52, pj_69_52, ga_69_53, gi_69_54, pi_69_54, gi_69_55, pi_69_55, rd_70, wr_70, ln_70, rd_71, wr_71, ln_71, rd_74, wr_74, ln_74, rd_75, wr_75, ln_75, v_tell_1, v_tell_2, v_tell_3, v_tell_5, v_tell_6, v_tell0, v_change, v_settled0, Option.bind_some, toI_i, toJ_j, toV_v, toR_r, up2_at, up2_na, up2_nk, up2_off, nI_add, nI_mul, nI_leI, nI_ltI, nI_eq, bI_eq0, e71, w2, v_isIn]
        rw [if_neg (by omega), if_neg hf]
        conv => rhs; unfold biF
        rw [if_neg (fun z => hf z.1), nI_0, Int32.add_zero]
    · intro s ⟨I1, J1, hs, hx⟩
      subst hs
      have w2 : I1 71 2 = nI D := (Wf_Sx hw hx).2.1.2.2.1
      refine ⟨_, ?_, I1, J1, rfl, hx⟩
      dsimp only
      unfold F_X11_billOf_l4
      simp (disch := first | assumption | omega) only [vc_69, gi_69_0, pi_69_0, gi_69_1, pi_69_1, ga_69_2, ga_69_3, ga_69_4, ga_69_5, ga_69_6, ga_69_7, gi_69_8, pi_69_8, ga_69_9, ga_69_10, gi_69_11, pi_69_11, ga_69_12, gi_69_13, pi_69_13, gi_69_14, pi_69_14, gi_69_15, pi_69_15, gi_69_16, pi_69_16, gj_69_17, pj_69_17, gi_69_18, pi_69_18, gi_69_19, pi_69_19, gi_69_20, pi_69_20, gi_69_21, pi_69_21, ga_69_22, gi_69_23, pi_69_23, ga_69_24, ga_69_25, gi_69_26, pi_69_26, ga_69_27, ga_69_28, gi_69_29, pi_69_29, gi_69_30, pi_69_30, ga_69_31, ga_69_32, ga_69_33, gi_69_34, pi_69_34, ga_69_35, ga_69_36, ga_69_37, gi_69_38, pi_69_38, gj_69_39, pj_69_39, gj_69_40, pj_69_40, ga_69_41, ga_69_42, ga_69_43, ga_69_44, ga_69_45, ga_69_46, ga_69_47, gi_69_48, pi_69_48, gi_69_49, pi_69_49, gi_69_50, pi_69_50, gi_69_51, pi_69_51, gj_69_52, pj_69_52, ga_69_53, gi_69_54, pi_69_54, gi_69_55, pi_69_55, rd_70, wr_70, ln_70, rd_71, wr_71, ln_71, rd_74, wr_74, ln_74, rd_75, wr_75, ln_75, v_tell_1, v_tell_2, v_tell_3, v_tell_5, v_tell_6, v_tell0, v_change, v_settled0, Option.bind_some, toI_i, toJ_j, toV_v, toR_r, up2_at, up2_na, up2_nk, up2_off, nI_add, nI_mul, nI_leI, nI_ltI, nI_eq, bI_eq0, w2]
      rw [if_pos (Nat.le_refl D)]
  obtain ⟨r, e, I', J', h1, h2⟩ := L
  refine ⟨I', J', ?_, h2⟩
  refine e_X11_billOf (d := d + 5) ?_
  unfold F_X11_billOf
  rw [e, h1]
  rfl
theorem b_has {a1 a2 : Int32} (hO : O = mOl L xs) (hI : Inv c K) : Bo O Inv MX10_has MX11_has [.int a1, .int a2] c K := by
  obtain ⟨u, n, T, I, J, R, g, h, V, F, D, S, N, x, s, rfl, hI⟩ := hI
  obtain ⟨hS, hn, gg, hh, hG, hH, hw, hgd, hg⟩ := Iv_all hI
  obtain ⟨⟨v5, f4, d8, s8, n6⟩, ⟨w0, w1, w2, w3, w4⟩, hf, hs, hfam, hwi, hsn, hlw⟩ := hw
  obtain ⟨⟨c1, c2, c3, c4, c5, c6, c7, c8, c9, c10, c11, c12⟩, q1, q2, q3, q4, q5, q6, q7, q8, q9, q10, q11, ql⟩ := hgd
  obtain ⟨⟨b1, b2, b3, b4, b5⟩, b6, b7, b8, b9, b10⟩ := hI.2.2.2.2.2.2.2.1
  have hJ := hI.2.2.2.2.2.2.2.2.2
  have hu := hI.2.2.2.2.1
  have hw := hI.2.2.1
  have hgd := hI.2.2.2.1
  have hd := v_hasFamily (O := O) (d := 199) (u := u) (J := J) (v := a1) hG hn c7
  have id := fun (I1 : Nat → Nat → Int32) (J1 : Nat → Nat → Int64) (e : I1 71 1 = nI F) => v_isFamily (O := O) (d := 198) (u := u) (J := J1) (I := I1) (v := a1) hS e (by omega)
  cases hb : inR a1 F with
  | false =>
    refine Bo_i (u1 := u) (a := -1) (J1 := J) (J2 := J) (e_X10_has (d := 199) (K0 := hp u n T I J R) ?_) hS (e_X11_has (d := 199) ?_) (Iv_thr hI (nI 0)).e
    · unfold F_X10_has
      rw [gg, Option.bind_some, vc_g hG hn, hd, hb]
      rfl
    · unfold F_X11_has
      rw [pi_69_0 hS, Option.bind_some, vc_69 hS, id _ _ (by (try simp (disch := omega) only [up2_at, up2_na, up2_nk, up2_off]); exact w1), hb]
      rfl
  | true =>
    obtain ⟨k, hk, rfl⟩ := inR_ex hb (by omega)
    -- the reference's loop
    have lo : ∀ (I1 : Nat → Nat → Int32) (J1 : Nat → Nat → Int64) (kk : Int32 → Option (Int32 × mH)) (y : Option (Int32 × mH)), I1 71 = I 71 → kk (lyF (fun j => I 71 (42 + j)) (nI k) D) = y → (lupF (fun (q : Int32 × Int32) => F_X11_has_l20 O 199 69 (nI k) a2 (hp u n T (up2 I1 69 0 (nI 0)) J1 R) q.1 q.2) FU (nI 0, nI 0)).bind kk = y := by
      intro I1 J1 kk y e71 hy
      refine lup_b (fun j => (lyF (fun j => I 71 (42 + j)) (nI k) j, nI j)) (lyF (fun j => I 71 (42 + j)) (nI k) D) D (by omega) rfl ?_ ?_ hy
      · intro j hj
        unfold F_X11_has_l20
        simp (disch := first | assumption | omega) only [vc_69, gi_69_0, pi_69_0, gi_69_1, pi_69_1, ga_69_2, ga_69_3, ga_69_4, ga_69_5, ga_69_6, ga_69_7, gi_69_8, pi_69_8, ga_69_9, ga_69_10, gi_69_11, pi_69_11, ga_69_12, gi_69_13, pi_69_13, gi_69_14, pi_69_14, gi_69_15, pi_69_15, gi_69_16, pi_69_16, gj_69_17, pj_69_17, gi_69_18, pi_69_18, gi_69_19, pi_69_19, gi_69_20, pi_69_20, gi_69_21, pi_69_21, ga_69_22, gi_69_23, pi_69_23, ga_69_24, ga_69_25, gi_69_26, pi_69_26, ga_69_27, ga_69_28, gi_69_29, pi_69_29, gi_69_30, pi_69_30, ga_69_31, ga_69_32, ga_69_33, gi_69_34, pi_69_34, ga_69_35, ga_69_36, ga_69_37, gi_69_38, pi_69_38, gj_69_39, pj_69_39, gj_69_40, pj_69_40, ga_69_41, ga_69_42, ga_69_43, ga_69_44, ga_69_45, ga_69_46, ga_69_47, gi_69_48, pi_69_48, gi_69_49, pi_69_49, gi_69_50, pi_69_50, gi_69_51, pi_69_51, gj_69_52, pj_69_52, ga_69_53, gi_69_54, pi_69_54, gi_69_55, pi_69_55, rd_70, wr_70, ln_70, rd_71, wr_71, ln_71, rd_74, wr_74, ln_74, rd_75, wr_75, ln_75, v_tell_1, v_tell_2, v_tell_3, v_tell_5, v_tell_6, v_tell0, v_change, v_settled0, Option.bind_some, toI_i, toJ_j, toV_v, toR_r, up2_at, up2_na, up2_nk, up2_off, nI_add, nI_mul, nI_leI, nI_ltI, nI_eq, bI_eq0, e71, w2]
        rw [if_neg (by omega)]
        show _ = some (Sum.inl ((if _ then _ else _), _))
        split
        · rfl
        · rw [nI_0, Int32.or_zero]
      · unfold F_X11_has_l20
        simp (disch := first | assumption | omega) only [vc_69, gi_69_0, pi_69_0, gi_69_1, pi_69_1, ga_69_2, ga_69_3, ga_69_4, ga_69_5, ga_69_6, ga_69_7, gi_69_8, pi_69_8, ga_69_9, ga_69_10, gi_69_11, pi_69_11, ga_69_12, gi_69_13, pi_69_13, gi_69_14, pi_69_14, gi_69_15, pi_69_15, gi_69_16, pi_69_16, gj_69_17, pj_69_17, gi_69_18, pi_69_18, gi_69_19, pi_69_19, gi_69_20, pi_69_20, gi_69_21, pi_69_21, ga_69_22, gi_69_23, pi_69_23, ga_69_24, ga_69_25, gi_69_26, pi_69_26, ga_69_27, ga_69_28, gi_69_29, pi_69_29, gi_69_30, pi_69_30, ga_69_31, ga_69_32, ga_69_33, gi_69_34, pi_69_34, ga_69_35, ga_69_36, ga_69_37, gi_69_38, pi_69_38, gj_69_39, pj_69_39, gj_69_40, pj_69_40, ga_69_41, ga_69_42, ga_69_43, ga_69_44, ga_69_45, ga_69_46, ga_69_47, gi_69_48, pi_69_48, gi_69_49, pi_69_49, gi_69_50, pi_69_50, gi_69_51, pi_69_51, gj_69_52, pj_69_52, ga_69_53, gi_69_54, pi_69_54, gi_69_55, pi_69_55, rd_70, wr_70, ln_70, rd_71, wr_71, ln_71, rd_74, wr_74, ln_74, rd_75, wr_75, ln_75, v_tell_1, v_tell_2, v_tell_3, v_tell_5, v_tell_6, v_tell0, v_change, v_settled0, Option.bind_some, toI_i, toJ_j, toV_v, toR_r, up2_at, up2_na, up2_nk, up2_off, nI_add, nI_mul, nI_leI, nI_ltI, nI_eq, bI_eq0, e71, w2]
        rw [if_pos (Nat.le_refl D)]
    have run : ∀ (I1 : Nat → Nat → Int32) (y : Option (Int32 × mH)) , I1 71 = I 71 → (if a2 = nI 0 then (gtA (hp u n T (up2 I1 69 0 (nI 0)) J R) 69 11 3).bind fun x12 => (rdI O (hp u n T (up2 I1 69 0 (nI 0)) J R) x12 ((nI 33) + nI k)).bind fun x13 => some (x13, hp u n T (up2 I1 69 0 (nI 0)) J R) else if a2 = nI 1 then (toI (vc O 199 11 MX11_earnsOf 69 [.int (nI k)] (hp u n T (up2 I1 69 0 (nI 0)) J R))).bind fun p15 => some (p15.1, p15.2) else if a2 = nI 2 then some (lyF (fun j => I 71 (42 + j)) (nI k) D, hp u n T (up2 I1 69 0 (nI 0)) J R) else if a2 = nI 3 then (toI (vc O 199 11 MX11_billOf 69 [.int (nI k)] (hp u n T (up2 I1 69 0 (nI 0)) J R))).bind fun p18 => some (p18.1, p18.2) else some ((-1), hp u n T (up2 I1 69 0 (nI 0)) J R)) = y → F_X11_has O 199 69 (nI k) a2 (hp u n T I1 J R) = y := by
      intro I1 y e71 hy
      unfold F_X11_has
      rw [pi_69_0 hS, Option.bind_some, vc_69 hS, id _ _ (by rw [up2_off _ _ _ (by decide), e71]; exact w1), hb, toI_i, Option.bind_some]
      dsimp only
      rw [if_neg (show ¬ bI true = 0 by decide)]
      exact lo I1 J _ y e71 hy
    rcases arg_0 a2 (hi := 3) (by decide) with ⟨o, ho, rfl⟩ | ⟨hb5, -⟩
    · have ho3 : o = 0 ∨ o = 1 ∨ o = 2 ∨ o = 3 := by omega
      rcases ho3 with rfl | rfl | rfl | rfl
      · refine Bo_i (u1 := u) (a := I 71 (33 + k)) (J1 := J) (J2 := J) (e_X10_has (d := 199) (K0 := hp u n T I J R) ?_) hS (e_X11_has (d := 199) (run I _ rfl ?_)) (Iv_thr hI (nI 0)).e
        · unfold F_X10_has
          simp +decide (disch := first | assumption | omega) only [gg, hh, vc_0, ga_0_0, ga_0_1, ga_0_2, ga_0_3, ga_0_4, ga_0_5, ga_0_6, ga_0_7, ga_0_8, ga_0_9, gi_0_12, pi_0_12, gi_0_13, pi_0_13, gi_0_14, pi_0_14, gi_0_15, pi_0_15, gi_0_16, pi_0_16, rd_24, wr_24, ln_24, ga_g_1, ga_g_2, ga_g_3, ga_g_4, ga_g_5, ga_g_6, ga_g_7, ga_g_8, ga_g_9, ga_g_10, gi_g_11, pi_g_11, gi_g_12, pi_g_12, gi_g_13, pi_g_13, gi_g_14, pi_g_14, gi_g_15, pi_g_15, gi_g_16, pi_g_16, gi_g_17, pi_g_17, ga_g_0, vc_g, rd_g_1, wr_g_1, ln_g_1, rd_g_2, wr_g_2, ln_g_2, rd_g_3, wr_g_3, ln_g_3, rd_g_4, wr_g_4, ln_g_4, rd_g_5, wr_g_5, ln_g_5, rd_g_6, wr_g_6, ln_g_6, rd_g_7, wr_g_7, ln_g_7, rd_g_8, wr_g_8, ln_g_8, rd_g_9, wr_g_9, ln_g_9, rd_g_10, vc_h, gi_h_1, pi_h_1, gi_h_2, pi_h_2, v_granted, v_ref_1, v_ref_2, v_ref_3, v_ref_5, v_ref_6, v_hclear, Option.bind_some, toI_i, toJ_j, toV_v, toR_r, up2_at, up2_na, up2_nk, up2_off, nI_add, nI_mul, nI_leI, nI_ltI, nI_eq, bI_eq0, hd, hb, ↓reduceIte, q4 k (by omega)]
        · simp +decide (disch := first | assumption | omega) only [vc_69, gi_69_0, pi_69_0, gi_69_1, pi_69_1, ga_69_2, ga_69_3, ga_69_4, ga_69_5, ga_69_6, ga_69_7, gi_69_8, pi_69_8, ga_69_9, ga_69_10, gi_69_11, pi_69_11, ga_69_12, gi_69_13, pi_69_13, gi_69_14, pi_69_14, gi_69_15, pi_69_15, gi_69_16, pi_69_16, gj_69_17, pj_69_17, gi_69_18, pi_69_18, gi_69_19, pi_69_19, gi_69_20, pi_69_20, gi_69_21, pi_69_21, ga_69_22, gi_69_23, pi_69_23, ga_69_24, ga_69_25, gi_69_26, pi_69_26, ga_69_27, ga_69_28, gi_69_29, pi_69_29, gi_69_30, pi_69_30, ga_69_31, ga_69_32, ga_69_33, gi_69_34, pi_69_34, ga_69_35, ga_69_36, ga_69_37, gi_69_38, pi_69_38, gj_69_39, pj_69_39, gj_69_40, pj_69_40, ga_69_41, ga_69_42, ga_69_43, ga_69_44, ga_69_45, ga_69_46, ga_69_47, gi_69_48, pi_69_48, gi_69_49, pi_69_49, gi_69_50, pi_69_50, gi_69_51, pi_69_51, gj_69_52, pj_69_52, ga_69_53, gi_69_54, pi_69_54, gi_69_55, pi_69_55, rd_70, wr_70, ln_70, rd_71, wr_71, ln_71, rd_74, wr_74, ln_74, rd_75, wr_75, ln_75, v_tell_1, v_tell_2, v_tell_3, v_tell_5, v_tell_6, v_tell0, v_change, v_settled0, Option.bind_some, toI_i, toJ_j, toV_v, toR_r, up2_at, up2_na, up2_nk, up2_off, nI_add, nI_mul, nI_leI, nI_ltI, nI_eq, bI_eq0, ↓reduceIte]
      · obtain ⟨I1, e1, s1⟩ := v_cEarn (d := 196) (u := u) (J := J) hO hgd hw hn hk
        have e71' : I1 71 = I 71 := s1 71 (by decide) (by decide) (by decide)
        have e71 : up2 I1 69 0 (nI 0) 71 = I 71 := by rw [up2_off _ _ _ (by decide), e71']
        obtain ⟨I2, J2, e2, s2⟩ := v_mEarn (O := O) (d := 194) (u := u) (J := J) (I := up2 I1 69 0 (nI 0)) hS (by rw [up2_nk (by decide), s1 69 (by decide) (by decide) (by decide)]; exact b5) (by rw [e71]; exact hw) hk
        rw [e71] at e2
        refine Bo_rd (a := eaR (I 71) k) hI (e_X10_has (d := 199) ?_) (CSx_SxC hg s1) (MJx_r J) (e_X11_has (d := 199) (run I1 _ e71' ?_)) ((MSx_thr I1 (nI 0)).tr (MSx_SxM s2)) (MJx_SxM s2)
        · unfold F_X10_has
          simp +decide (disch := first | assumption | omega) only [gg, hh, vc_0, ga_0_0, ga_0_1, ga_0_2, ga_0_3, ga_0_4, ga_0_5, ga_0_6, ga_0_7, ga_0_8, ga_0_9, gi_0_12, pi_0_12, gi_0_13, pi_0_13, gi_0_14, pi_0_14, gi_0_15, pi_0_15, gi_0_16, pi_0_16, rd_24, wr_24, ln_24, ga_g_1, ga_g_2, ga_g_3, ga_g_4, ga_g_5, ga_g_6, ga_g_7, ga_g_8, ga_g_9, ga_g_10, gi_g_11, pi_g_11, gi_g_12, pi_g_12, gi_g_13, pi_g_13, gi_g_14, pi_g_14, gi_g_15, pi_g_15, gi_g_16, pi_g_16, gi_g_17, pi_g_17, ga_g_0, vc_g, rd_g_1, wr_g_1, ln_g_1, rd_g_2, wr_g_2, ln_g_2, rd_g_3, wr_g_3, ln_g_3, rd_g_4, wr_g_4, ln_g_4, rd_g_5, wr_g_5, ln_g_5, rd_g_6, wr_g_6, ln_g_6, rd_g_7, wr_g_7, ln_g_7, rd_g_8, wr_g_8, ln_g_8, rd_g_9, wr_g_9, ln_g_9, rd_g_10, vc_h, gi_h_1, pi_h_1, gi_h_2, pi_h_2, v_granted, v_ref_1, v_ref_2, v_ref_3, v_ref_5, v_ref_6, v_hclear, Option.bind_some, toI_i, toJ_j, toV_v, toR_r, up2_at, up2_na, up2_nk, up2_off, nI_add, nI_mul, nI_leI, nI_ltI, nI_eq, bI_eq0, hd, hb, ↓reduceIte, e1]
        · simp +decide (disch := first | assumption | omega) only [vc_69, gi_69_0, pi_69_0, gi_69_1, pi_69_1, ga_69_2, ga_69_3, ga_69_4, ga_69_5, ga_69_6, ga_69_7, gi_69_8, pi_69_8, ga_69_9, ga_69_10, gi_69_11, pi_69_11, ga_69_12, gi_69_13, pi_69_13, gi_69_14, pi_69_14, gi_69_15, pi_69_15, gi_69_16, pi_69_16, gj_69_17, pj_69_17, gi_69_18, pi_69_18, gi_69_19, pi_69_19, gi_69_20, pi_69_20, gi_69_21, pi_69_21, ga_69_22, gi_69_23, pi_69_23, ga_69_24, ga_69_25, gi_69_26, pi_69_26, ga_69_27, ga_69_28, gi_69_29, pi_69_29, gi_69_30, pi_69_30, ga_69_31, ga_69_32, ga_69_33, gi_69_34, pi_69_34, ga_69_35, ga_69_36, ga_69_37, gi_69_38, pi_69_38, gj_69_39, pj_69_39, gj_69_40, pj_69_40, ga_69_41, ga_69_42, ga_69_43, ga_69_44, ga_69_45, ga_69_46, ga_69_47, gi_69_48, pi_69_48, gi_69_49, pi_69_49, gi_69_50, pi_69_50, gi_69_51, pi_69_51, gj_69_52, pj_69_52, ga_69_53, gi_69_54, pi_69_54, gi_69_55, pi_69_55, rd_70, wr_70, ln_70, rd_71, wr_71, ln_71, rd_74, wr_74, ln_74, rd_75, wr_75, ln_75, v_tell_1, v_tell_2, v_tell_3, v_tell_5, v_tell_6, v_tell0, v_change, v_settled0, Option.bind_some, toI_i, toJ_j, toV_v, toR_r, up2_at, up2_na, up2_nk, up2_off, nI_add, nI_mul, nI_leI, nI_ltI, nI_eq, bI_eq0, ↓reduceIte, e2]
      · have dO := v_deadOf (O := O) (d := 199) (u := u) (J := J) (v := nI k) hG hn c9 c10
        rw [lyF_cg (w' := I (g + 3)) (w := fun j => I 71 (42 + j)) (fun j hj => q5 j (by omega))] at dO
        refine Bo_i (u1 := u) (a := lyF (fun j => I 71 (42 + j)) (nI k) D) (J1 := J) (J2 := J) (e_X10_has (d := 199) (K0 := hp u n T I J R) ?_) hS (e_X11_has (d := 199) (run I _ rfl ?_)) (Iv_thr hI (nI 0)).e
        · unfold F_X10_has
          simp +decide (disch := first | assumption | omega) only [gg, hh, vc_0, ga_0_0, ga_0_1, ga_0_2, ga_0_3, ga_0_4, ga_0_5, ga_0_6, ga_0_7, ga_0_8, ga_0_9, gi_0_12, pi_0_12, gi_0_13, pi_0_13, gi_0_14, pi_0_14, gi_0_15, pi_0_15, gi_0_16, pi_0_16, rd_24, wr_24, ln_24, ga_g_1, ga_g_2, ga_g_3, ga_g_4, ga_g_5, ga_g_6, ga_g_7, ga_g_8, ga_g_9, ga_g_10, gi_g_11, pi_g_11, gi_g_12, pi_g_12, gi_g_13, pi_g_13, gi_g_14, pi_g_14, gi_g_15, pi_g_15, gi_g_16, pi_g_16, gi_g_17, pi_g_17, ga_g_0, vc_g, rd_g_1, wr_g_1, ln_g_1, rd_g_2, wr_g_2, ln_g_2, rd_g_3, wr_g_3, ln_g_3, rd_g_4, wr_g_4, ln_g_4, rd_g_5, wr_g_5, ln_g_5, rd_g_6, wr_g_6, ln_g_6, rd_g_7, wr_g_7, ln_g_7, rd_g_8, wr_g_8, ln_g_8, rd_g_9, wr_g_9, ln_g_9, rd_g_10, vc_h, gi_h_1, pi_h_1, gi_h_2, pi_h_2, v_granted, v_ref_1, v_ref_2, v_ref_3, v_ref_5, v_ref_6, v_hclear, Option.bind_some, toI_i, toJ_j, toV_v, toR_r, up2_at, up2_na, up2_nk, up2_off, nI_add, nI_mul, nI_leI, nI_ltI, nI_eq, bI_eq0, hd, hb, ↓reduceIte, dO]
        · simp +decide (disch := first | assumption | omega) only [vc_69, gi_69_0, pi_69_0, gi_69_1, pi_69_1, ga_69_2, ga_69_3, ga_69_4, ga_69_5, ga_69_6, ga_69_7, gi_69_8, pi_69_8, ga_69_9, ga_69_10, gi_69_11, pi_69_11, ga_69_12, gi_69_13, pi_69_13, gi_69_14, pi_69_14, gi_69_15, pi_69_15, gi_69_16, pi_69_16, gj_69_17, pj_69_17, gi_69_18, pi_69_18, gi_69_19, pi_69_19, gi_69_20, pi_69_20, gi_69_21, pi_69_21, ga_69_22, gi_69_23, pi_69_23, ga_69_24, ga_69_25, gi_69_26, pi_69_26, ga_69_27, ga_69_28, gi_69_29, pi_69_29, gi_69_30, pi_69_30, ga_69_31, ga_69_32, ga_69_33, gi_69_34, pi_69_34, ga_69_35, ga_69_36, ga_69_37, gi_69_38, pi_69_38, gj_69_39, pj_69_39, gj_69_40, pj_69_40, ga_69_41, ga_69_42, ga_69_43, ga_69_44, ga_69_45, ga_69_46, ga_69_47, gi_69_48, pi_69_48, gi_69_49, pi_69_49, gi_69_50, pi_69_50, gi_69_51, pi_69_51, gj_69_52, pj_69_52, ga_69_53, gi_69_54, pi_69_54, gi_69_55, pi_69_55, rd_70, wr_70, ln_70, rd_71, wr_71, ln_71, rd_74, wr_74, ln_74, rd_75, wr_75, ln_75, v_tell_1, v_tell_2, v_tell_3, v_tell_5, v_tell_6, v_tell0, v_change, v_settled0, Option.bind_some, toI_i, toJ_j, toV_v, toR_r, up2_at, up2_na, up2_nk, up2_off, nI_add, nI_mul, nI_leI, nI_ltI, nI_eq, bI_eq0, ↓reduceIte]
      · obtain ⟨I1, e1, s1⟩ := v_cBill (d := 195) (u := u) (J := J) (f := nI k) hO hgd hw hn
        have e71' : I1 71 = I 71 := s1 71 (by decide) (by decide) (by decide)
        have e71 : up2 I1 69 0 (nI 0) 71 = I 71 := by rw [up2_off _ _ _ (by decide), e71']
        obtain ⟨I2, J2, e2, s2⟩ := v_mBill (O := O) (d := 193) (u := u) (J := J) (I := up2 I1 69 0 (nI 0)) (f := nI k) hS (by rw [up2_nk (by decide), s1 69 (by decide) (by decide) (by decide)]; exact b5) (by rw [e71]; exact hw)
        rw [e71] at e2
        refine Bo_rd (a := biF (I 71) D (nI k) D) hI (e_X10_has (d := 199) ?_) (CSx_SxC hg s1) (MJx_r J) (e_X11_has (d := 199) (run I1 _ e71' ?_)) ((MSx_thr I1 (nI 0)).tr (MSx_SxM s2)) (MJx_SxM s2)
        · unfold F_X10_has
          simp +decide (disch := first | assumption | omega) only [gg, hh, vc_0, ga_0_0, ga_0_1, ga_0_2, ga_0_3, ga_0_4, ga_0_5, ga_0_6, ga_0_7, ga_0_8, ga_0_9, gi_0_12, pi_0_12, gi_0_13, pi_0_13, gi_0_14, pi_0_14, gi_0_15, pi_0_15, gi_0_16, pi_0_16, rd_24, wr_24, ln_24, ga_g_1, ga_g_2, ga_g_3, ga_g_4, ga_g_5, ga_g_6, ga_g_7, ga_g_8, ga_g_9, ga_g_10, gi_g_11, pi_g_11, gi_g_12, pi_g_12, gi_g_13, pi_g_13, gi_g_14, pi_g_14, gi_g_15, pi_g_15, gi_g_16, pi_g_16, gi_g_17, pi_g_17, ga_g_0, vc_g, rd_g_1, wr_g_1, ln_g_1, rd_g_2, wr_g_2, ln_g_2, rd_g_3, wr_g_3, ln_g_3, rd_g_4, wr_g_4, ln_g_4, rd_g_5, wr_g_5, ln_g_5, rd_g_6, wr_g_6, ln_g_6, rd_g_7, wr_g_7, ln_g_7, rd_g_8, wr_g_8, ln_g_8, rd_g_9, wr_g_9, ln_g_9, rd_g_10, vc_h, gi_h_1, pi_h_1, gi_h_2, pi_h_2, v_granted, v_ref_1, v_ref_2, v_ref_3, v_ref_5, v_ref_6, v_hclear, Option.bind_some, toI_i, toJ_j, toV_v, toR_r, up2_at, up2_na, up2_nk, up2_off, nI_add, nI_mul, nI_leI, nI_ltI, nI_eq, bI_eq0, hd, hb, ↓reduceIte, e1]
        · simp +decide (disch := first | assumption | omega) only [vc_69, gi_69_0, pi_69_0, gi_69_1, pi_69_1, ga_69_2, ga_69_3, ga_69_4, ga_69_5, ga_69_6, ga_69_7, gi_69_8, pi_69_8, ga_69_9, ga_69_10, gi_69_11, pi_69_11, ga_69_12, gi_69_13, pi_69_13, gi_69_14, pi_69_14, gi_69_15, pi_69_15, gi_69_16, pi_69_16, gj_69_17, pj_69_17, gi_69_18, pi_69_18, gi_69_19, pi_69_19, gi_69_20, pi_69_20, gi_69_21, pi_69_21, ga_69_22, gi_69_23, pi_69_23, ga_69_24, ga_69_25, gi_69_26, pi_69_26, ga_69_27, ga_69_28, gi_69_29, pi_69_29, gi_69_30, pi_69_30, ga_69_31, ga_69_32, ga_69_33, gi_69_34, pi_69_34, ga_69_35, ga_69_36, ga_69_37, gi_69_38, pi_69_38, gj_69_39, pj_69_39, gj_69_40, pj_69_40, ga_69_41, ga_69_42, ga_69_43, ga_69_44, ga_69_45, ga_69_46, ga_69_47, gi_69_48, pi_69_48, gi_69_49, pi_69_49, gi_69_50, pi_69_50, gi_69_51, pi_69_51, gj_69_52, pj_69_52, ga_69_53, gi_69_54, pi_69_54, gi_69_55, pi_69_55, rd_70, wr_70, ln_70, rd_71, wr_71, ln_71, rd_74, wr_74, ln_74, rd_75, wr_75, ln_75, v_tell_1, v_tell_2, v_tell_3, v_tell_5, v_tell_6, v_tell0, v_change, v_settled0, Option.bind_some, toI_i, toJ_j, toV_v, toR_r, up2_at, up2_na, up2_nk, up2_off, nI_add, nI_mul, nI_leI, nI_ltI, nI_eq, bI_eq0, ↓reduceIte, e2]
    · have hne : ∀ k, k ≤ 3 → ¬ a2 = nI k := by
        intro k hk e
        rw [e, rg_t (Nat.zero_le k) hk (by decide)] at hb5
        cases hb5
      refine Bo_i (u1 := u) (a := -1) (J1 := J) (J2 := J) (e_X10_has (d := 199) (K0 := hp u n T I J R) ?_) hS (e_X11_has (d := 199) (run I _ rfl ?_)) (Iv_thr hI (nI 0)).e
      · unfold F_X10_has
        rw [gg, Option.bind_some, vc_g hG hn, hd, hb, toI_i, Option.bind_some]
        dsimp only
        rw [if_neg (show ¬ bI true = 0 by decide), if_neg (hne 0 (by decide)), if_neg (hne 1 (by decide)), if_neg (hne 2 (by decide)), if_neg (hne 3 (by decide))]
      · rw [if_neg (hne 0 (by decide)), if_neg (hne 1 (by decide)), if_neg (hne 2 (by decide)), if_neg (hne 3 (by decide))]
end B8
