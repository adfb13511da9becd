/-! calls: drawn, feed -/
theorem in_N {v : Int32} {N : Nat} (h : N ≤ 8) : decide ((0 : Int64) ≤ v.toInt64 ∧ v.toInt64 ≤ (nI N).toInt64 - 1) = inR v N := by
  unfold inR
  apply decide_eq_decide.mpr
  have e1 : ((nI N).toInt64 - 1).toInt = (N : Int) - 1 := by
    have : ∀ N, N ≤ 8 → ((nI N).toInt64 - 1).toInt = (N : Int) - 1 := by decide
    exact this N h
  rw [Int64.le_iff_toInt_le, Int64.le_iff_toInt_le, e1, Int32.toInt_toInt64, Int32.lt_iff_toInt_lt, Int32.le_iff_toInt_le, nI_toInt (by omega)]
  show (0 : Int) ≤ _ ∧ _ ↔ ¬ _ < (0 : Int) ∧ _
  omega
theorem in_m1 {v : Int32} : decide ((0 : Int64) ≤ v.toInt64 ∧ v.toInt64 ≤ (-1 : Int32).toInt64 - 1) = inR v 0 := by
  unfold inR
  apply decide_eq_decide.mpr
  have e1 : ((-1 : Int32).toInt64 - 1).toInt = -2 := by decide
  rw [Int64.le_iff_toInt_le, Int64.le_iff_toInt_le, e1, Int32.toInt_toInt64, Int32.lt_iff_toInt_lt, Int32.le_iff_toInt_le, nI_toInt (by omega)]
  show (0 : Int) ≤ _ ∧ _ ↔ ¬ _ < (0 : Int) ∧ _
  omega
section DR
variable {O : mO} {c : Nat} {K : mH}
theorem b_drawn {a1 a2 : Int32} (hI : Inv c K) : Bo O Inv MX10_drawn MX11_drawn [.int a1, .int a2] c K := by
  obtain ⟨u, n, T, I, J, R, g, h, V, F, D, S, N, x, s, rfl, hI⟩ := hI
  obtain ⟨hS, hn, gg, hh, hG, hH, hw, hgd, hg⟩ := Iv_all hI
  obtain ⟨⟨v5, f4, d8, s8, n6⟩, ⟨w0, w1, w2, w3, w4⟩, hf, hs, hfam, hwi, hsn, hlw⟩ := hw
  obtain ⟨⟨c1, c2, c3, c4, c5, c6, c7, c8, c9, c10, c11, c12⟩, q1, q2, q3, q4, q5, q6, q7, q8, q9, q10, q11, ql⟩ := hgd
  obtain ⟨⟨b1, b2, b3, b4, b5⟩, b6, b7, b8, b9, b10⟩ := hI.2.2.2.2.2.2.2.1
  have hJ := hI.2.2.2.2.2.2.2.2.2
  have hu := hI.2.2.2.2.1
  obtain ⟨D', F', hD8, hF4, g13, g12, hcs⟩ := hI.2.2.2.2.2.2.2.2.1
  have hP := St_G43 hS
  have hd := v_hasDead (O := O) (d := 199) (u := u) (J := J) (v := a1) hP hn g13
  have hf := v_hasFamily (O := O) (d := 199) (u := u) (J := J) (v := a1) hP hn g12
  have dD : ∀ (I1 : Nat → Nat → Int32), I1 69 54 = I 69 54 → ev O 199 MX11_in [.long a1.toInt64, .long 0, .long ((I1 69 54).toInt64 - 1)] (hp u n T I1 J R) = some (some (.int (bI (inR a1 D'))), hp u n T I1 J R) := by
    intro I1 e
    rw [evr (k_in a1.toInt64 0 ((I1 69 54).toInt64 - 1)), e]
    rcases hcs with ⟨z1, z2, z3, z4⟩ | ⟨z1, z2, -⟩
    · rw [z3, in_m1, z1]
    · rw [z1, in_N hD8]
  have dF : ∀ (I1 : Nat → Nat → Int32), I1 69 55 = I 69 55 → ev O 199 MX11_in [.long a1.toInt64, .long 0, .long ((I1 69 55).toInt64 - 1)] (hp u n T I1 J R) = some (some (.int (bI (inR a1 F'))), hp u n T I1 J R) := by
    intro I1 e
    rw [evr (k_in a1.toInt64 0 ((I1 69 55).toInt64 - 1)), e]
    rcases hcs with ⟨z1, z2, z3, z4⟩ | ⟨z1, z2, -⟩
    · rw [z4, in_m1, z2]
    · rw [z2, in_N (by omega)]
  have go : ∀ a : Int32, F_X10_drawn O 199 0 a1 a2 (hp u n T I J R) = some (a, hp u n T I J R) → F_X11_drawn O 199 69 a1 a2 (hp u n T I J R) = some (a, hp u n T (up2 I 69 0 (nI 0)) J R) → Bo O Inv MX10_drawn MX11_drawn [.int a1, .int a2] c (hp u n T I J R) := fun a h1 h2 => Bo_i (u1 := u) (J1 := J) (J2 := J) (e_X10_drawn (d := 199) h1) hS (e_X11_drawn (d := 199) h2) (Iv_thr hI (nI 0)).e
  rcases arg_0 a2 (hi := 2) (by decide) with ⟨o, ho, rfl⟩ | ⟨hb, -⟩
  · have ho3 : o = 0 ∨ o = 1 ∨ o = 2 := by omega
    have m54 : up2 I 69 0 (nI 0) 69 54 = I 69 54 := up2_nk (by decide)
    have m55 : up2 I 69 0 (nI 0) 69 55 = I 69 55 := up2_nk (by decide)
    have dD' := dD _ m54
    have dF' := dF _ m55
    rw [m54] at dD'
    rw [m55] at dF'
    rcases ho3 with rfl | rfl | rfl
    · cases hb : inR a1 D' with
      | false =>
        refine go (-100) ?_ ?_
        · unfold F_X10_drawn
          simp +decide (disch := first | assumption | omega) only [vc_0, ga_0_0, ga_0_1, ga_0_2, ga_0_3, ga_0_4, ga_0_5, ga_0_6, ga_0_7, ga_0_8, ga_0_9, gi_0_12, pi_0_12, gi_0_13, pi_0_13, gi_0_14, pi_0_14, gi_0_15, pi_0_15, gi_0_16, pi_0_16, vc_43, ga_43_0, ga_43_1, ga_43_2, ga_43_3, ga_43_4, ga_43_5, ga_43_6, ga_43_7, ga_43_8, ga_43_9, ga_43_10, gi_43_11, pi_43_11, gi_43_12, pi_43_12, gi_43_13, pi_43_13, gi_43_14, pi_43_14, gi_43_15, pi_43_15, gi_43_16, pi_43_16, gi_43_17, pi_43_17, rd_45, wr_45, ln_45, rd_47, wr_47, ln_47, rd_48, wr_48, ln_48, Option.bind_some, toI_i, toJ_j, toV_v, toR_r, up2_at, up2_na, up2_nk, up2_off, nI_add, nI_mul, nI_leI, nI_ltI, nI_eq, bI_eq0, hd, hb, ↓reduceIte]
        · unfold F_X11_drawn F_X11_drawn_j36
          simp +decide (disch := first | assumption | omega) only [vc_69, gi_69_0, pi_69_0, gi_69_1, pi_69_1, ga_69_2, ga_69_3, ga_69_4, ga_69_5, ga_69_6, ga_69_7, gi_69_8, pi_69_8, ga_69_9, ga_69_10, gi_69_11, pi_69_11, ga_69_12, gi_69_13, pi_69_13, gi_69_14, pi_69_14, gi_69_15, pi_69_15, gi_69_16, pi_69_16, gj_69_17, pj_69_17, gi_69_18, pi_69_18, gi_69_19, pi_69_19, gi_69_20, pi_69_20, gi_69_21, pi_69_21, ga_69_22, gi_69_23, pi_69_23, ga_69_24, ga_69_25, gi_69_26, pi_69_26, ga_69_27, ga_69_28, gi_69_29, pi_69_29, gi_69_30, pi_69_30, ga_69_31, ga_69_32, ga_69_33, gi_69_34, pi_69_34, ga_69_35, ga_69_36, ga_69_37, gi_69_38, pi_69_38, gj_69_39, pj_69_39, gj_69_40, pj_69_40, ga_69_41, ga_69_42, ga_69_43, ga_69_44, ga_69_45, ga_69_46, ga_69_47, gi_69_48, pi_69_48, gi_69_49, pi_69_49, gi_69_50, pi_69_50, gi_69_51, pi_69_51, gj_69_52, pj_69_52, ga_69_53, gi_69_54, pi_69_54, gi_69_55, pi_69_55, rd_97, wr_97, ln_97, Option.bind_some, toI_i, toJ_j, toV_v, toR_r, up2_at, up2_na, up2_nk, up2_off, nI_add, nI_mul, nI_leI, nI_ltI, nI_eq, bI_eq0, v_in_0_2, rg_t (show 0 ≤ 0 by decide) (show 0 ≤ 2 by decide) (by decide), dD', hb, ↓reduceIte]
      | true =>
        obtain ⟨k, hk, rfl⟩ := inR_ex hb (by omega)
        rcases hcs with ⟨z1, -⟩ | ⟨z1, z2, z3, z4⟩
        · omega
        refine go (I 97 (3 + k)) ?_ ?_
        · unfold F_X10_drawn
          simp +decide (disch := first | assumption | omega) only [vc_0, ga_0_0, ga_0_1, ga_0_2, ga_0_3, ga_0_4, ga_0_5, ga_0_6, ga_0_7, ga_0_8, ga_0_9, gi_0_12, pi_0_12, gi_0_13, pi_0_13, gi_0_14, pi_0_14, gi_0_15, pi_0_15, gi_0_16, pi_0_16, vc_43, ga_43_0, ga_43_1, ga_43_2, ga_43_3, ga_43_4, ga_43_5, ga_43_6, ga_43_7, ga_43_8, ga_43_9, ga_43_10, gi_43_11, pi_43_11, gi_43_12, pi_43_12, gi_43_13, pi_43_13, gi_43_14, pi_43_14, gi_43_15, pi_43_15, gi_43_16, pi_43_16, gi_43_17, pi_43_17, rd_45, wr_45, ln_45, rd_47, wr_47, ln_47, rd_48, wr_48, ln_48, Option.bind_some, toI_i, toJ_j, toV_v, toR_r, up2_at, up2_na, up2_nk, up2_off, nI_add, nI_mul, nI_leI, nI_ltI, nI_eq, bI_eq0, hd, hb, ↓reduceIte, (z3 k (by omega)).1]
        · unfold F_X11_drawn F_X11_drawn_j36
          simp +decide (disch := first | assumption | omega) only [vc_69, gi_69_0, pi_69_0, gi_69_1, pi_69_1, ga_69_2, ga_69_3, ga_69_4, ga_69_5, ga_69_6, ga_69_7, gi_69_8, pi_69_8, ga_69_9, ga_69_10, gi_69_11, pi_69_11, ga_69_12, gi_69_13, pi_69_13, gi_69_14, pi_69_14, gi_69_15, pi_69_15, gi_69_16, pi_69_16, gj_69_17, pj_69_17, gi_69_18, pi_69_18, gi_69_19, pi_69_19, gi_69_20, pi_69_20, gi_69_21, pi_69_21, ga_69_22, gi_69_23, pi_69_23, ga_69_24, ga_69_25, gi_69_26, pi_69_26, ga_69_27, ga_69_28, gi_69_29, pi_69_29, gi_69_30, pi_69_30, ga_69_31, ga_69_32, ga_69_33, gi_69_34, pi_69_34, ga_69_35, ga_69_36, ga_69_37, gi_69_38, pi_69_38, gj_69_39, pj_69_39, gj_69_40, pj_69_40, ga_69_41, ga_69_42, ga_69_43, ga_69_44, ga_69_45, ga_69_46, ga_69_47, gi_69_48, pi_69_48, gi_69_49, pi_69_49, gi_69_50, pi_69_50, gi_69_51, pi_69_51, gj_69_52, pj_69_52, ga_69_53, gi_69_54, pi_69_54, gi_69_55, pi_69_55, rd_97, wr_97, ln_97, Option.bind_some, toI_i, toJ_j, toV_v, toR_r, up2_at, up2_na, up2_nk, up2_off, nI_add, nI_mul, nI_leI, nI_ltI, nI_eq, bI_eq0, v_in_0_2, rg_t (show 0 ≤ 0 by decide) (show 0 ≤ 2 by decide) (by decide), dD', hb, ↓reduceIte, nI_sub, Nat.reduceSub]
    · cases hb : inR a1 D' with
      | false =>
        refine go (-100) ?_ ?_
        · unfold F_X10_drawn
          simp +decide (disch := first | assumption | omega) only [vc_0, ga_0_0, ga_0_1, ga_0_2, ga_0_3, ga_0_4, ga_0_5, ga_0_6, ga_0_7, ga_0_8, ga_0_9, gi_0_12, pi_0_12, gi_0_13, pi_0_13, gi_0_14, pi_0_14, gi_0_15, pi_0_15, gi_0_16, pi_0_16, vc_43, ga_43_0, ga_43_1, ga_43_2, ga_43_3, ga_43_4, ga_43_5, ga_43_6, ga_43_7, ga_43_8, ga_43_9, ga_43_10, gi_43_11, pi_43_11, gi_43_12, pi_43_12, gi_43_13, pi_43_13, gi_43_14, pi_43_14, gi_43_15, pi_43_15, gi_43_16, pi_43_16, gi_43_17, pi_43_17, rd_45, wr_45, ln_45, rd_47, wr_47, ln_47, rd_48, wr_48, ln_48, Option.bind_some, toI_i, toJ_j, toV_v, toR_r, up2_at, up2_na, up2_nk, up2_off, nI_add, nI_mul, nI_leI, nI_ltI, nI_eq, bI_eq0, hd, hb, ↓reduceIte]
        · unfold F_X11_drawn F_X11_drawn_j36
          simp +decide (disch := first | assumption | omega) only [vc_69, gi_69_0, pi_69_0, gi_69_1, pi_69_1, ga_69_2, ga_69_3, ga_69_4, ga_69_5, ga_69_6, ga_69_7, gi_69_8, pi_69_8, ga_69_9, ga_69_10, gi_69_11, pi_69_11, ga_69_12, gi_69_13, pi_69_13, gi_69_14, pi_69_14, gi_69_15, pi_69_15, gi_69_16, pi_69_16, gj_69_17, pj_69_17, gi_69_18, pi_69_18, gi_69_19, pi_69_19, gi_69_20, pi_69_20, gi_69_21, pi_69_21, ga_69_22, gi_69_23, pi_69_23, ga_69_24, ga_69_25, gi_69_26, pi_69_26, ga_69_27, ga_69_28, gi_69_29, pi_69_29, gi_69_30, pi_69_30, ga_69_31, ga_69_32, ga_69_33, gi_69_34, pi_69_34, ga_69_35, ga_69_36, ga_69_37, gi_69_38, pi_69_38, gj_69_39, pj_69_39, gj_69_40, pj_69_40, ga_69_41, ga_69_42, ga_69_43, ga_69_44, ga_69_45, ga_69_46, ga_69_47, gi_69_48, pi_69_48, gi_69_49, pi_69_49, gi_69_50, pi_69_50, gi_69_51, pi_69_51, gj_69_52, pj_69_52, ga_69_53, gi_69_54, pi_69_54, gi_69_55, pi_69_55, rd_97, wr_97, ln_97, Option.bind_some, toI_i, toJ_j, toV_v, toR_r, up2_at, up2_na, up2_nk, up2_off, nI_add, nI_mul, nI_leI, nI_ltI, nI_eq, bI_eq0, v_in_0_2, rg_t (show 0 ≤ 1 by decide) (show 1 ≤ 2 by decide) (by decide), dD', hb, ↓reduceIte]
      | true =>
        obtain ⟨k, hk, rfl⟩ := inR_ex hb (by omega)
        rcases hcs with ⟨z1, -⟩ | ⟨z1, z2, z3, z4⟩
        · omega
        refine go (I 97 (11 + k)) ?_ ?_
        · unfold F_X10_drawn
          simp +decide (disch := first | assumption | omega) only [vc_0, ga_0_0, ga_0_1, ga_0_2, ga_0_3, ga_0_4, ga_0_5, ga_0_6, ga_0_7, ga_0_8, ga_0_9, gi_0_12, pi_0_12, gi_0_13, pi_0_13, gi_0_14, pi_0_14, gi_0_15, pi_0_15, gi_0_16, pi_0_16, vc_43, ga_43_0, ga_43_1, ga_43_2, ga_43_3, ga_43_4, ga_43_5, ga_43_6, ga_43_7, ga_43_8, ga_43_9, ga_43_10, gi_43_11, pi_43_11, gi_43_12, pi_43_12, gi_43_13, pi_43_13, gi_43_14, pi_43_14, gi_43_15, pi_43_15, gi_43_16, pi_43_16, gi_43_17, pi_43_17, rd_45, wr_45, ln_45, rd_47, wr_47, ln_47, rd_48, wr_48, ln_48, Option.bind_some, toI_i, toJ_j, toV_v, toR_r, up2_at, up2_na, up2_nk, up2_off, nI_add, nI_mul, nI_leI, nI_ltI, nI_eq, bI_eq0, hd, hb, ↓reduceIte, (z3 k (by omega)).2]
        · unfold F_X11_drawn F_X11_drawn_j36
          simp +decide (disch := first | assumption | omega) only [vc_69, gi_69_0, pi_69_0, gi_69_1, pi_69_1, ga_69_2, ga_69_3, ga_69_4, ga_69_5, ga_69_6, ga_69_7, gi_69_8, pi_69_8, ga_69_9, ga_69_10, gi_69_11, pi_69_11, ga_69_12, gi_69_13, pi_69_13, gi_69_14, pi_69_14, gi_69_15, pi_69_15, gi_69_16, pi_69_16, gj_69_17, pj_69_17, gi_69_18, pi_69_18, gi_69_19, pi_69_19, gi_69_20, pi_69_20, gi_69_21, pi_69_21, ga_69_22, gi_69_23, pi_69_23, ga_69_24, ga_69_25, gi_69_26, pi_69_26, ga_69_27, ga_69_28, gi_69_29, pi_69_29, gi_69_30, pi_69_30, ga_69_31, ga_69_32, ga_69_33, gi_69_34, pi_69_34, ga_69_35, ga_69_36, ga_69_37, gi_69_38, pi_69_38, gj_69_39, pj_69_39, gj_69_40, pj_69_40, ga_69_41, ga_69_42, ga_69_43, ga_69_44, ga_69_45, ga_69_46, ga_69_47, gi_69_48, pi_69_48, gi_69_49, pi_69_49, gi_69_50, pi_69_50, gi_69_51, pi_69_51, gj_69_52, pj_69_52, ga_69_53, gi_69_54, pi_69_54, gi_69_55, pi_69_55, rd_97, wr_97, ln_97, Option.bind_some, toI_i, toJ_j, toV_v, toR_r, up2_at, up2_na, up2_nk, up2_off, nI_add, nI_mul, nI_leI, nI_ltI, nI_eq, bI_eq0, v_in_0_2, rg_t (show 0 ≤ 1 by decide) (show 1 ≤ 2 by decide) (by decide), dD', hb, ↓reduceIte, nI_sub, Nat.reduceSub]
    · cases hb : inR a1 F' with
      | false =>
        refine go (-100) ?_ ?_
        · unfold F_X10_drawn
          simp +decide (disch := first | assumption | omega) only [vc_0, ga_0_0, ga_0_1, ga_0_2, ga_0_3, ga_0_4, ga_0_5, ga_0_6, ga_0_7, ga_0_8, ga_0_9, gi_0_12, pi_0_12, gi_0_13, pi_0_13, gi_0_14, pi_0_14, gi_0_15, pi_0_15, gi_0_16, pi_0_16, vc_43, ga_43_0, ga_43_1, ga_43_2, ga_43_3, ga_43_4, ga_43_5, ga_43_6, ga_43_7, ga_43_8, ga_43_9, ga_43_10, gi_43_11, pi_43_11, gi_43_12, pi_43_12, gi_43_13, pi_43_13, gi_43_14, pi_43_14, gi_43_15, pi_43_15, gi_43_16, pi_43_16, gi_43_17, pi_43_17, rd_45, wr_45, ln_45, rd_47, wr_47, ln_47, rd_48, wr_48, ln_48, Option.bind_some, toI_i, toJ_j, toV_v, toR_r, up2_at, up2_na, up2_nk, up2_off, nI_add, nI_mul, nI_leI, nI_ltI, nI_eq, bI_eq0, hf, hb, ↓reduceIte]
        · unfold F_X11_drawn F_X11_drawn_j36
          simp +decide (disch := first | assumption | omega) only [vc_69, gi_69_0, pi_69_0, gi_69_1, pi_69_1, ga_69_2, ga_69_3, ga_69_4, ga_69_5, ga_69_6, ga_69_7, gi_69_8, pi_69_8, ga_69_9, ga_69_10, gi_69_11, pi_69_11, ga_69_12, gi_69_13, pi_69_13, gi_69_14, pi_69_14, gi_69_15, pi_69_15, gi_69_16, pi_69_16, gj_69_17, pj_69_17, gi_69_18, pi_69_18, gi_69_19, pi_69_19, gi_69_20, pi_69_20, gi_69_21, pi_69_21, ga_69_22, gi_69_23, pi_69_23, ga_69_24, ga_69_25, gi_69_26, pi_69_26, ga_69_27, ga_69_28, gi_69_29, pi_69_29, gi_69_30, pi_69_30, ga_69_31, ga_69_32, ga_69_33, gi_69_34, pi_69_34, ga_69_35, ga_69_36, ga_69_37, gi_69_38, pi_69_38, gj_69_39, pj_69_39, gj_69_40, pj_69_40, ga_69_41, ga_69_42, ga_69_43, ga_69_44, ga_69_45, ga_69_46, ga_69_47, gi_69_48, pi_69_48, gi_69_49, pi_69_49, gi_69_50, pi_69_50, gi_69_51, pi_69_51, gj_69_52, pj_69_52, ga_69_53, gi_69_54, pi_69_54, gi_69_55, pi_69_55, rd_97, wr_97, ln_97, Option.bind_some, toI_i, toJ_j, toV_v, toR_r, up2_at, up2_na, up2_nk, up2_off, nI_add, nI_mul, nI_leI, nI_ltI, nI_eq, bI_eq0, v_in_0_2, rg_t (show 0 ≤ 2 by decide) (show 2 ≤ 2 by decide) (by decide), dF', hb, ↓reduceIte]
      | true =>
        obtain ⟨k, hk, rfl⟩ := inR_ex hb (by omega)
        rcases hcs with ⟨z1, z2, -⟩ | ⟨z1, z2, z3, z4⟩
        · omega
        refine go (I 97 (27 + k)) ?_ ?_
        · unfold F_X10_drawn
          simp +decide (disch := first | assumption | omega) only [vc_0, ga_0_0, ga_0_1, ga_0_2, ga_0_3, ga_0_4, ga_0_5, ga_0_6, ga_0_7, ga_0_8, ga_0_9, gi_0_12, pi_0_12, gi_0_13, pi_0_13, gi_0_14, pi_0_14, gi_0_15, pi_0_15, gi_0_16, pi_0_16, vc_43, ga_43_0, ga_43_1, ga_43_2, ga_43_3, ga_43_4, ga_43_5, ga_43_6, ga_43_7, ga_43_8, ga_43_9, ga_43_10, gi_43_11, pi_43_11, gi_43_12, pi_43_12, gi_43_13, pi_43_13, gi_43_14, pi_43_14, gi_43_15, pi_43_15, gi_43_16, pi_43_16, gi_43_17, pi_43_17, rd_45, wr_45, ln_45, rd_47, wr_47, ln_47, rd_48, wr_48, ln_48, Option.bind_some, toI_i, toJ_j, toV_v, toR_r, up2_at, up2_na, up2_nk, up2_off, nI_add, nI_mul, nI_leI, nI_ltI, nI_eq, bI_eq0, hf, hb, ↓reduceIte, z4 k (by omega)]
        · unfold F_X11_drawn F_X11_drawn_j36
          simp +decide (disch := first | assumption | omega) only [vc_69, gi_69_0, pi_69_0, gi_69_1, pi_69_1, ga_69_2, ga_69_3, ga_69_4, ga_69_5, ga_69_6, ga_69_7, gi_69_8, pi_69_8, ga_69_9, ga_69_10, gi_69_11, pi_69_11, ga_69_12, gi_69_13, pi_69_13, gi_69_14, pi_69_14, gi_69_15, pi_69_15, gi_69_16, pi_69_16, gj_69_17, pj_69_17, gi_69_18, pi_69_18, gi_69_19, pi_69_19, gi_69_20, pi_69_20, gi_69_21, pi_69_21, ga_69_22, gi_69_23, pi_69_23, ga_69_24, ga_69_25, gi_69_26, pi_69_26, ga_69_27, ga_69_28, gi_69_29, pi_69_29, gi_69_30, pi_69_30, ga_69_31, ga_69_32, ga_69_33, gi_69_34, pi_69_34, ga_69_35, ga_69_36, ga_69_37, gi_69_38, pi_69_38, gj_69_39, pj_69_39, gj_69_40, pj_69_40, ga_69_41, ga_69_42, ga_69_43, ga_69_44, ga_69_45, ga_69_46, ga_69_47, gi_69_48, pi_69_48, gi_69_49, pi_69_49, gi_69_50, pi_69_50, gi_69_51, pi_69_51, gj_69_52, pj_69_52, ga_69_53, gi_69_54, pi_69_54, gi_69_55, pi_69_55, rd_97, wr_97, ln_97, Option.bind_some, toI_i, toJ_j, toV_v, toR_r, up2_at, up2_na, up2_nk, up2_off, nI_add, nI_mul, nI_leI, nI_ltI, nI_eq, bI_eq0, v_in_0_2, rg_t (show 0 ≤ 2 by decide) (show 2 ≤ 2 by decide) (by decide), dF', hb, ↓reduceIte, nI_sub, Nat.reduceSub]
  · have hne : ∀ k, k ≤ 2 → ¬ a2 = nI k := by
      intro k hk e
      rw [e, rg_t (Nat.zero_le k) hk (by decide)] at hb
      cases hb
    refine go (-100) ?_ ?_
    · unfold F_X10_drawn
      rw [if_neg (show ¬ a2 = 0 from hne 0 (by decide)), if_neg (hne 1 (by decide)), if_neg (hne 2 (by decide))]
    · unfold F_X11_drawn
      rw [pi_69_0 hS, Option.bind_some, v_in_0_2, hb]
      rfl
end DR
