/-! calls: compare, stranger -/
section B9
variable {O : mO} {L : Nat} {xs : Nat → Int32} {c d u n : Nat} {T : Nat → mT} {I : Nat → Nat → Int32} {J : Nat → Nat → Int64} {R : Nat → Nat → Option Nat} {g V F D S N : Nat} {w : Nat → Int32} {K : mH}
/-- another law in force: the row, the ground -/
theorem Wf_force {a : Int32} (hw : Wf w V F D S N) (ha : a = -1 ∨ ∃ l, l < N ∧ a = nI l) : Wf (upK w 5 a) V F D S N := by
  obtain ⟨⟨v5, f4, d8, s8, n6⟩, ⟨w0, w1, w2, w3, w4⟩, hf, hs, hfam, hwi, hsn, hlw⟩ := hw
  exact ⟨⟨v5, f4, d8, s8, n6⟩, ⟨by (try simp (disch := omega) only [upK_at, upK_ne]); exact w0, by (try simp (disch := omega) only [upK_at, upK_ne]); exact w1, by (try simp (disch := omega) only [upK_at, upK_ne]); exact w2, by (try simp (disch := omega) only [upK_at, upK_ne]); exact w3, by (try simp (disch := omega) only [upK_at, upK_ne]); exact w4⟩, by (try simp (disch := omega) only [upK_at, upK_ne]); exact ha, WfS_cg hs d8 f4 (fun i _ _ => by (try simp (disch := omega) only [upK_at, upK_ne])) (fun v hv => by (try simp (disch := omega) only [upK_at, upK_ne])), fun k hk => by (try simp (disch := omega) only [upK_at, upK_ne]); exact hfam k hk, fun d v hd hv => by (try simp (disch := omega) only [upK_at, upK_ne]); exact hwi d v hd hv, fun k hk => by (try simp (disch := omega) only [upK_at, upK_ne]); exact hsn k hk, fun l hl => LwM_cg (fun i hi => by (try simp (disch := omega) only [upK_at, upK_ne])) (by omega) (hlw l hl)⟩
theorem Gnd_force {a : Int32} (hg : Gnd n T I R g w V F D S N) (h97 : g + 10 < 98) : Gnd n T (up2 I g 17 a) R g (upK w 5 a) V F D S N := by
  obtain ⟨⟨c1, c2, c3, c4, c5, c6, c7, c8, c9, c10, c11, c12⟩, q1, q2, q3, q4, q5, q6, q7, q8, q9, q10, q11, ql⟩ := hg
  exact ⟨⟨c1, c2, c3, c4, by (try simp (disch := omega) only [up2_at, up2_na, up2_nk, up2_off]); exact c5, c6, by (try simp (disch := omega) only [up2_at, up2_na, up2_nk, up2_off]); exact c7, c8, by (try simp (disch := omega) only [up2_at, up2_na, up2_nk, up2_off]); exact c9, c10, by (try simp (disch := omega) only [up2_at, up2_na, up2_nk, up2_off]); exact c11, c12⟩, by (try simp (disch := omega) only [up2_at, up2_na, up2_nk, up2_off]); exact q1, by (try simp (disch := omega) only [up2_at, up2_na, up2_nk, up2_off]); (try simp (disch := omega) only [upK_at, upK_ne]), fun k hk => by (try simp (disch := omega) only [up2_at, up2_na, up2_nk, up2_off]); (try simp (disch := omega) only [upK_at, upK_ne]); exact q3 k hk, fun k hk => by (try simp (disch := omega) only [up2_at, up2_na, up2_nk, up2_off]); (try simp (disch := omega) only [upK_at, upK_ne]); exact q4 k hk, fun k hk => by (try simp (disch := omega) only [up2_at, up2_na, up2_nk, up2_off]); (try simp (disch := omega) only [upK_at, upK_ne]); exact q5 k hk, fun k hk => by (try simp (disch := omega) only [up2_at, up2_na, up2_nk, up2_off]); (try simp (disch := omega) only [upK_at, upK_ne]); exact q6 k hk, fun k hk => by (try simp (disch := omega) only [up2_at, up2_na, up2_nk, up2_off]); (try simp (disch := omega) only [upK_at, upK_ne]); exact q7 k hk, fun d v hd hv => by (try simp (disch := omega) only [up2_at, up2_na, up2_nk, up2_off]); (try simp (disch := omega) only [upK_at, upK_ne]); exact q8 d v hd hv, fun k hk => by (try simp (disch := omega) only [up2_at, up2_na, up2_nk, up2_off]); (try simp (disch := omega) only [upK_at, upK_ne]); exact q9 k hk, fun k hk => by (try simp (disch := omega) only [up2_at, up2_na, up2_nk, up2_off]); (try simp (disch := omega) only [upK_at, upK_ne]); exact q10 k hk, fun k hk => by (try simp (disch := omega) only [up2_at, up2_na, up2_nk, up2_off]); (try simp (disch := omega) only [upK_at, upK_ne]); exact q11 k hk, Lws_cg ql (fun i hi => by (try simp (disch := omega) only [upK_at, upK_ne])) (fun a ha => by (try simp (disch := omega) only [up2_at, up2_na, up2_nk, up2_off]))⟩
/-- the price by another law -/
theorem v_cPriceBy {a : Int32} {k : Nat} (hO : O = mOl L xs) (hG : Gnd n T I R g w V F D S N) (hw : Wf w V F D S N) (ha : a = -1 ∨ ∃ l, l < N ∧ a = nI l) (hn : n ≤ oB) (h97 : g + 10 < 98) (hk : k < D) : ∃ I', ev O (d + 3) MX2_told [.ref g, va_rf (if inR a N = true then R (g + 10) a.toNatClampNeg else none), .int (nI 0), .int (nI k)] (hp u n T I J R) = some (some (.int (prR (upK w 5 a) D k)), hp u n T I' J R) ∧ SxC I I' := by
  have hG2 := Gnd_force (a := a) hG h97
  have hw2 := Wf_force hw ha
  have el : lpF (up2 I g 17 a) R g N = if inR a N = true then R (g + 10) a.toNatClampNeg else none := by
    unfold lpF
    rw [up2_at]
  have hl : LwV n T I R (if inR a N = true then R (g + 10) a.toNatClampNeg else none) := by
    rw [← el]
    intro p hp
    obtain ⟨h1, sc, cc, h2⟩ := Lw_V hG2 hw2 p hp
    exact ⟨h1, sc, cc, PrV_cg2 (by (try simp (disch := omega) only [up2_at, up2_na, up2_nk, up2_off])) (by (try simp (disch := omega) only [up2_at, up2_na, up2_nk, up2_off])) (by (try simp (disch := omega) only [up2_at, up2_na, up2_nk, up2_off])) h2⟩
  obtain ⟨r, K', h1, h2, I', h3, h4⟩ := Rn_ev (c_gtold (d := d) (u := u) (J := J) (kd := 0) hO hG.1 hl hn hk (by decide))
  refine ⟨I', ?_, h4⟩
  have e6 : I (g + 4) k = w (9 + k) := hG.2.2.2.2.2.2.1 k (by have := hG.1.2.2.2.2.2.2.2.2.2.1; omega)
  have key := tdL_eq hG2 hw2 (WR_d hG2 hw2 hk (Vo_w hw2 hk)) (kd := 0) (by decide)
  have e1 : tdL (up2 I g 17 a) (lpF (up2 I g 17 a) R g N) (wX (adF (up2 I g 17 a) g V D k F (upK w 5 a (9 + k)))) 0 = tdL I (if inR a N = true then R (g + 10) a.toNatClampNeg else none) (wX (adF I g V D k F (w (9 + k)))) 0 := by
    rw [el]
    have ea : adF (up2 I g 17 a) g V D k F (upK w 5 a (9 + k)) = adF I g V D k F (w (9 + k)) := by
      unfold adF meF
      rw [upK_ne (by omega)]
      (try simp (disch := omega) only [up2_at, up2_na, up2_nk, up2_off])
    rw [ea]
    unfold tdL
    cases hp : (if inR a N = true then R (g + 10) a.toNatClampNeg else none) with
    | none => rfl
    | some p =>
      have hp97 := (hl p hp).1
      dsimp only
      (try simp (disch := omega) only [up2_at, up2_na, up2_nk, up2_off])
  rw [h1, h2, h3, e6, ← e1, key]
  rfl
theorem v_cComp {a : Int32} (hO : O = mOl L xs) (hS : St n T R) (hG : Gnd n T I R g w V F D S N) (hw : Wf w V F D S N) (ha : a = -1 ∨ ∃ l, l < N ∧ a = nI l) (gg : ∀ (u : Nat) (I : Nat → Nat → Int32) (J : Nat → Nat → Int64), gtA (hp u n T I J R) 0 10 10 = some g) (h97 : g + 10 < 98) : ∃ I', F_X10_compare_j18 O (d + 3) 0 a (hp u n T I J R) = some (cpF (upK w 5 a) D D, hp u n T I' J R) ∧ SxC I I' := by
  have h8 := hw.1
  have hn := hS.2.1
  have L : ∃ r, lupF (fun (q : Int32 × Int32 × mH) => F_X10_compare_l32 O (d + 3) 0 (if inR a N = true then R (g + 10) a.toNatClampNeg else none) q.1 q.2.1 q.2.2) FU (nI 0, nI 0, hp u n T I J R) = some r ∧ (fun r => ∃ I', r = (cpF (upK w 5 a) D D, hp u n T I' J R) ∧ SxC I I') r := by
    refine lup_P0 (fun k s => ∃ I', s = (cpF (upK w 5 a) D k, nI k, hp u n T I' J R) ∧ SxC I I') (fun r => ∃ I', r = (cpF (upK w 5 a) D D, hp u n T I' J R) ∧ SxC I I') (N := D) (by omega) ⟨I, rfl, SxC.rf I⟩ ?_ ?_
    · intro k s hk ⟨I1, hs, hx⟩
      subst hs
      left
      have hG1 := Gnd_Sx hG hx
      obtain ⟨⟨c1, c2, c3, c4, c5, c6, c7, c8, c9, c10, c11, c12⟩, q1, q2, q3, q4, q5, q6, -⟩ := id hG1
      dsimp only
      unfold F_X10_compare_l32
      have isI := v_cIsIn (O := O) (d := d + 2) (u := u) (I := I1) (J := J) (v := nI k) c2 hn c9 c10
      rw [inR_nI hk (by omega), Bool.true_and, nI_clamp (by omega), q6 k (by omega)] at isI
      obtain ⟨I2, e2, s2⟩ := v_cPriceBy (d := d) (u := u) (J := J) hO hG1 hw ha hn h97 hk
      by_cases hi : w (9 + k) = -1
      · refine ⟨_, ?_, I1, rfl, hx⟩
        simp (disch := first | assumption | omega) only [gg, ga_g_1, ga_g_2, ga_g_3, ga_g_4, ga_g_5, ga_g_6, ga_g_7, ga_g_8, ga_g_9, ga_g_10, gi_g_11, pi_g_11, gi_g_12, pi_g_12, gi_g_13, pi_g_13, gi_g_14, pi_g_14, gi_g_15, pi_g_15, gi_g_16, pi_g_16, gi_g_17, pi_g_17, ga_g_0, vc_g, rd_g_1, wr_g_1, ln_g_1, rd_g_2, wr_g_2, ln_g_2, rd_g_3, wr_g_3, ln_g_3, rd_g_4, wr_g_4, ln_g_4, rd_g_5, wr_g_5, ln_g_5, rd_g_6, wr_g_6, ln_g_6, rd_g_7, wr_g_7, ln_g_7, rd_g_8, wr_g_8, ln_g_8, rd_g_9, wr_g_9, ln_g_9, rd_g_10, Option.bind_some, toI_i, toJ_j, toV_v, toR_r, up2_at, up2_na, up2_nk, up2_off, nI_add, nI_mul, nI_leI, nI_ltI, nI_eq, bI_eq0, c9, isI]
        rw [if_neg (by omega), if_pos (decide_eq_false (fun z => z hi))]
        conv => rhs; unfold cpF
        rw [if_neg (fun z => z (by rw [upK_ne (by omega)]; exact hi))]
      · refine ⟨_, ?_, I2, rfl, hx.tr s2⟩
        simp (disch := first | assumption | omega) only [gg, ga_g_1, ga_g_2, ga_g_3, ga_g_4, ga_g_5, ga_g_6, ga_g_7, ga_g_8, ga_g_9, ga_g_10, gi_g_11, pi_g_11, gi_g_12, pi_g_12, gi_g_13, pi_g_13, gi_g_14, pi_g_14, gi_g_15, pi_g_15, gi_g_16, pi_g_16, gi_g_17, pi_g_17, ga_g_0, vc_g, rd_g_1, wr_g_1, ln_g_1, rd_g_2, wr_g_2, ln_g_2, rd_g_3, wr_g_3, ln_g_3, rd_g_4, wr_g_4, ln_g_4, rd_g_5, wr_g_5, ln_g_5, rd_g_6, wr_g_6, ln_g_6, rd_g_7, wr_g_7, ln_g_7, rd_g_8, wr_g_8, ln_g_8, rd_g_9, wr_g_9, ln_g_9, rd_g_10, Option.bind_some, toI_i, toJ_j, toV_v, toR_r, up2_at, up2_na, up2_nk, up2_off, nI_add, nI_mul, nI_leI, nI_ltI, nI_eq, bI_eq0, c9, isI, e2]
        rw [if_neg (by omega), if_neg (by rw [decide_eq_true hi]; decide)]
        conv => rhs; unfold cpF
        rw [if_pos (by rw [upK_ne (by omega)]; exact hi)]
    · intro s ⟨I1, hs, hx⟩
      subst hs
      have hG1 := Gnd_Sx hG hx
      obtain ⟨⟨c1, c2, c3, c4, c5, c6, c7, c8, c9, c10, c11, c12⟩, -⟩ := id hG1
      refine ⟨_, ?_, I1, rfl, hx⟩
      dsimp only
      unfold F_X10_compare_l32
      simp (disch := first | assumption | omega) only [gg, ga_g_1, ga_g_2, ga_g_3, ga_g_4, ga_g_5, ga_g_6, ga_g_7, ga_g_8, ga_g_9, ga_g_10, gi_g_11, pi_g_11, gi_g_12, pi_g_12, gi_g_13, pi_g_13, gi_g_14, pi_g_14, gi_g_15, pi_g_15, gi_g_16, pi_g_16, gi_g_17, pi_g_17, ga_g_0, vc_g, rd_g_1, wr_g_1, ln_g_1, rd_g_2, wr_g_2, ln_g_2, rd_g_3, wr_g_3, ln_g_3, rd_g_4, wr_g_4, ln_g_4, rd_g_5, wr_g_5, ln_g_5, rd_g_6, wr_g_6, ln_g_6, rd_g_7, wr_g_7, ln_g_7, rd_g_8, wr_g_8, ln_g_8, rd_g_9, wr_g_9, ln_g_9, rd_g_10, Option.bind_some, toI_i, toJ_j, toV_v, toR_r, up2_at, up2_na, up2_nk, up2_off, nI_add, nI_mul, nI_leI, nI_ltI, nI_eq, bI_eq0, c9]
      rw [if_pos (Nat.le_refl D)]
  obtain ⟨r, e, I', h1, h2⟩ := L
  refine ⟨I', ?_, h2⟩
  obtain ⟨⟨c1, c2, c3, c4, c5, c6, c7, c8, c9, c10, c11, c12⟩, -⟩ := id hG
  unfold F_X10_compare_j18
  simp (disch := first | assumption | omega) only [gg, ga_g_1, ga_g_2, ga_g_3, ga_g_4, ga_g_5, ga_g_6, ga_g_7, ga_g_8, ga_g_9, ga_g_10, gi_g_11, pi_g_11, gi_g_12, pi_g_12, gi_g_13, pi_g_13, gi_g_14, pi_g_14, gi_g_15, pi_g_15, gi_g_16, pi_g_16, gi_g_17, pi_g_17, ga_g_0, vc_g, rd_g_1, wr_g_1, ln_g_1, rd_g_2, wr_g_2, ln_g_2, rd_g_3, wr_g_3, ln_g_3, rd_g_4, wr_g_4, ln_g_4, rd_g_5, wr_g_5, ln_g_5, rd_g_6, wr_g_6, ln_g_6, rd_g_7, wr_g_7, ln_g_7, rd_g_8, wr_g_8, ln_g_8, rd_g_9, wr_g_9, ln_g_9, rd_g_10, Option.bind_some, toI_i, toJ_j, toV_v, toR_r, up2_at, up2_na, up2_nk, up2_off, nI_add, nI_mul, nI_leI, nI_ltI, nI_eq, bI_eq0, v_lawAt c2 hn c11 c12]
  rw [e, h1]
  rfl
theorem v_mComp {v2 : Int32} (hS : St n T R) (h20 : I 69 20 = nI 0) (hw : Wf (I 71) V F D S N) : ∃ I' J', lupF (fun (q : Int32 × Int32 × mH) => F_X11_compare_l34 O (d + 5) 69 v2 q.1 q.2.1 q.2.2) FU (nI 0, nI 0, hp u n T I J R) = some (cpF (I 71) D D, hp u n T I' J' R) ∧ SxM 69 I I' J J' := by
  have h8 := hw.1
  have L : ∃ r, lupF (fun (q : Int32 × Int32 × mH) => F_X11_compare_l34 O (d + 5) 69 v2 q.1 q.2.1 q.2.2) FU (nI 0, nI 0, hp u n T I J R) = some r ∧ (fun r => ∃ I' J', r = (cpF (I 71) D D, hp u n T I' J' R) ∧ SxM 69 I I' J J') r := by
    refine lup_P0 (fun k s => ∃ I' J', s = (cpF (I 71) D k, nI k, hp u n T I' J' R) ∧ SxM 69 I I' J J') (fun r => ∃ I' J', r = (cpF (I 71) D D, hp u n T I' J' R) ∧ SxM 69 I I' J J') (N := D) (by omega) ⟨I, J, rfl, SxM.rf 69 I J⟩ ?_ ?_
    · intro k s hk ⟨I1, J1, hs, hx⟩
      subst hs
      left
      have e71 : I1 71 = I 71 := hx.1 71 (by decide)
      have hw1 := Wf_Sx hw hx
      have w2 : I1 71 2 = nI D := hw1.2.1.2.2.1
      dsimp only
      unfold F_X11_compare_l34 F_X11_compare_j65
      obtain ⟨I2, J2, e2, s2⟩ := v_mPrice (O := O) (d := d) (u := u) (J := J1) (I := I1) hS (by rw [hx.2.1 20 (by decide) (by decide)]; exact h20) hw1 hk
      rw [e71] at e2 w2
      by_cases hi : I 71 (9 + k) = -1
      · refine ⟨_, ?_, I1, J1, rfl, hx⟩
        simp (disch := first | assumption | omega) only [vc_69, gi_69_0, pi_69_0, gi_69_1, pi_69_1, ga_69_2, ga_69_3, ga_69_4, ga_69_5, ga_69_6, ga_69_7, gi_69_8, pi_69_8, ga_69_9, ga_69_10, gi_69_11, pi_69_11, ga_69_12, gi_69_13, pi_69_13, gi_69_14, pi_69_14, gi_69_15, pi_69_15, gi_69_16, pi_69_16, gj_69_17, pj_69_17, gi_69_18, pi_69_18, gi_69_19, pi_69_19, gi_69_20, pi_69_20, gi_69_21, pi_69_21, ga_69_22, gi_69_23, pi_69_23, ga_69_24, ga_69_25, gi_69_26, pi_69_26, ga_69_27, ga_69_28, gi_69_29, pi_69_29, gi_69_30, pi_69_30, ga_69_31, ga_69_32, ga_69_33, gi_69_34, pi_69_34, ga_69_35, ga_69_36, ga_69_37, gi_69_38, pi_69_38, gj_69_39, pj_69_39, gj_69_40, pj_69_40, ga_69_41, ga_69_42, ga_69_43, ga_69_44, ga_69_45, ga_69_46, ga_69_47, gi_69_48, pi_69_48, gi_69_49, pi_69_49, gi_69_50, pi_69_50, gi_69_51, pi_69_51, gj_69_52, pj_69_52, ga_69_53, gi_69_54, pi_69_54, gi_69_55, pi_69_55, rd_70, wr_70, ln_70, rd_71, wr_71, ln_71, rd_74, wr_74, ln_74, rd_75, wr_75, ln_75, v_tell_1, v_tell_2, v_tell_3, v_tell_5, v_tell_6, v_tell0, v_change, v_settled0, Option.bind_some, toI_i, toJ_j, toV_v, toR_r, up2_at, up2_na, up2_nk, up2_off, nI_add, nI_mul, nI_leI, nI_ltI, nI_eq, bI_eq0, e71, w2, v_isIn]
        rw [if_neg (by omega), if_pos (decide_eq_false (fun z => z hi))]
        conv => rhs; unfold cpF
        rw [if_neg (fun z => z hi), nI_0, Int32.add_zero]
      · refine ⟨_, ?_, I2, J2, rfl, hx.trans s2⟩
        simp (disch := first | assumption | omega) only [vc_69, gi_69_0, pi_69_0, gi_69_1, pi_69_1, ga_69_2, ga_69_3, ga_69_4, ga_69_5, ga_69_6, ga_69_7, gi_69_8, pi_69_8, ga_69_9, ga_69_10, gi_69_11, pi_69_11, ga_69_12, gi_69_13, pi_69_13, gi_69_14, pi_69_14, gi_69_15, pi_69_15, gi_69_16, pi_69_16, gj_69_17, pj_69_17, gi_69_18, pi_69_18, gi_69_19, pi_69_19, gi_69_20, pi_69_20, gi_69_21, pi_69_21, ga_69_22, gi_69_23, pi_69_23, ga_69_24, ga_69_25, gi_69_26, pi_69_26, ga_69_27, ga_69_28, gi_69_29, pi_69_29, gi_69_30, pi_69_30, ga_69_31, ga_69_32, ga_69_33, gi_69_34, pi_69_34, ga_69_35, ga_69_36, ga_69_37, gi_69_38, pi_69_38, gj_69_39, pj_69_39, gj_69_40, pj_69_40, ga_69_41, ga_69_42, ga_69_43, ga_69_44, ga_69_45, ga_69_46, ga_69_47, gi_69_48, pi_69_48, gi_69_49, pi_69_49, gi_69_50, pi_69_50, gi_69_51, pi_69_51, gj_69_52, pj_69_52, ga_69_53, gi_69_54, pi_69_54, gi_69_55, pi_69_55, rd_70, wr_70, ln_70, rd_71, wr_71, ln_71, rd_74, wr_74, ln_74, rd_75, wr_75, ln_75, v_tell_1, v_tell_2, v_tell_3, v_tell_5, v_tell_6, v_tell0, v_change, v_settled0, Option.bind_some, toI_i, toJ_j, toV_v, toR_r, up2_at, up2_na, up2_nk, up2_off, nI_add, nI_mul, nI_leI, nI_ltI, nI_eq, bI_eq0, e71, w2, v_isIn, e2]
        rw [if_neg (by omega), if_neg (by rw [decide_eq_true hi]; decide)]
        conv => rhs; unfold cpF
        rw [if_pos hi]
    · intro s ⟨I1, J1, hs, hx⟩
      subst hs
      have w2 : I1 71 2 = nI D := (Wf_Sx hw hx).2.1.2.2.1
      refine ⟨_, ?_, I1, J1, rfl, hx⟩
      dsimp only
      unfold F_X11_compare_l34
      simp (disch := first | assumption | omega) only [vc_69, gi_69_0, pi_69_0, gi_69_1, pi_69_1, ga_69_2, ga_69_3, ga_69_4, ga_69_5, ga_69_6, ga_69_7, gi_69_8, pi_69_8, ga_69_9, ga_69_10, gi_69_11, pi_69_11, ga_69_12, gi_69_13, pi_69_13, gi_69_14, pi_69_14, gi_69_15, pi_69_15, gi_69_16, pi_69_16, gj_69_17, pj_69_17, gi_69_18, pi_69_18, gi_69_19, pi_69_19, gi_69_20, pi_69_20, gi_69_21, pi_69_21, ga_69_22, gi_69_23, pi_69_23, ga_69_24, ga_69_25, gi_69_26, pi_69_26, ga_69_27, ga_69_28, gi_69_29, pi_69_29, gi_69_30, pi_69_30, ga_69_31, ga_69_32, ga_69_33, gi_69_34, pi_69_34, ga_69_35, ga_69_36, ga_69_37, gi_69_38, pi_69_38, gj_69_39, pj_69_39, gj_69_40, pj_69_40, ga_69_41, ga_69_42, ga_69_43, ga_69_44, ga_69_45, ga_69_46, ga_69_47, gi_69_48, pi_69_48, gi_69_49, pi_69_49, gi_69_50, pi_69_50, gi_69_51, pi_69_51, gj_69_52, pj_69_52, ga_69_53, gi_69_54, pi_69_54, gi_69_55, pi_69_55, rd_70, wr_70, ln_70, rd_71, wr_71, ln_71, rd_74, wr_74, ln_74, rd_75, wr_75, ln_75, v_tell_1, v_tell_2, v_tell_3, v_tell_5, v_tell_6, v_tell0, v_change, v_settled0, Option.bind_some, toI_i, toJ_j, toV_v, toR_r, up2_at, up2_na, up2_nk, up2_off, nI_add, nI_mul, nI_leI, nI_ltI, nI_eq, bI_eq0, w2]
      rw [if_pos (Nat.le_refl D)]
  obtain ⟨r, e, I', J', h1, h2⟩ := L
  exact ⟨I', J', by rw [e, h1], h2⟩
theorem b_compare {a1 : Int32} (hO : O = mOl L xs) (hI : Inv c K) : Bo O Inv MX10_compare MX11_compare [.int a1] c K := by
  obtain ⟨u, n, T, I, J, R, g, h, V, F, D, S, N, x, s, rfl, hI⟩ := hI
  obtain ⟨hS, hn, gg, hh, hG, hH, hw, hgd, hg⟩ := Iv_all hI
  obtain ⟨⟨v5, f4, d8, s8, n6⟩, ⟨w0, w1, w2, w3, w4⟩, hf, hs, hfam, hwi, hsn, hlw⟩ := hw
  obtain ⟨⟨c1, c2, c3, c4, c5, c6, c7, c8, c9, c10, c11, c12⟩, q1, q2, q3, q4, q5, q6, q7, q8, q9, q10, q11, ql⟩ := hgd
  obtain ⟨⟨b1, b2, b3, b4, b5⟩, b6, b7, b8, b9, b10⟩ := hI.2.2.2.2.2.2.2.1
  have hJ := hI.2.2.2.2.2.2.2.2.2
  have hu := hI.2.2.2.2.1
  have hw := hI.2.2.1
  have hgd := hI.2.2.2.1
  have hl := v_hasLaw (O := O) (d := 199) (u := u) (J := J) (v := a1) hG hn c11
  have il := fun (I1 : Nat → Nat → Int32) (e : I1 71 4 = nI N) => v_isLaw (O := O) (d := 198) (u := u) (J := J) (I := I1) (v := a1) hS e n6.1
  have yes : F_X10_compare O 199 0 a1 (hp u n T I J R) = F_X10_compare_j18 O 199 0 a1 (hp u n T I J R) → (a1 = -1 ∨ ∃ l, l < N ∧ a1 = nI l) → (decide (a1 = -1) || inR a1 N) = true → Bo O Inv MX10_compare MX11_compare [.int a1] c (hp u n T I J R) := by
    intro h1 h2 h3
    obtain ⟨I1, e1, s1⟩ := v_cComp (d := 196) (u := u) (J := J) hO hS hgd hw h2 gg (by omega)
    have e71' : I1 71 = I 71 := s1 71 (by decide) (by decide) (by decide)
    have e71 : up2 (up2 I1 69 0 (nI 0)) 71 5 a1 71 = upK (I 71) 5 a1 := by rw [up2_self, up2_off _ _ _ (by decide), e71']
    obtain ⟨I2, J2, e2, s2⟩ := v_mComp (O := O) (d := 194) (u := u) (J := J) (v2 := I 71 5) (I := up2 (up2 I1 69 0 (nI 0)) 71 5 a1) hS (by rw [up2_na (by decide), up2_nk (by decide), s1 69 (by decide) (by decide) (by decide)]; exact b5) (by rw [e71]; exact Wf_force hw h2)
    rw [e71] at e2
    refine Bo_rd (a := cpF (upK (I 71) 5 a1) D D) (I2 := up2 I2 71 5 (I 71 5)) hI (e_X10_compare (d := 199) (h1.trans e1)) (CSx_SxC hg s1) (MJx_r J) (e_X11_compare (d := 199) ?_) ?_ (MJx_SxM s2)
    · unfold F_X11_compare
      rw [pi_69_0 hS, Option.bind_some, vc_69 hS, il _ (by (try simp (disch := omega) only [up2_at, up2_na, up2_nk, up2_off]); rw [e71']; exact w4), h3, toI_i, Option.bind_some]
      dsimp only
      rw [if_neg (show ¬ bI true = 0 by decide)]
      simp (disch := first | assumption | omega) only [vc_69, gi_69_0, pi_69_0, gi_69_1, pi_69_1, ga_69_2, ga_69_3, ga_69_4, ga_69_5, ga_69_6, ga_69_7, gi_69_8, pi_69_8, ga_69_9, ga_69_10, gi_69_11, pi_69_11, ga_69_12, gi_69_13, pi_69_13, gi_69_14, pi_69_14, gi_69_15, pi_69_15, gi_69_16, pi_69_16, gj_69_17, pj_69_17, gi_69_18, pi_69_18, gi_69_19, pi_69_19, gi_69_20, pi_69_20, gi_69_21, pi_69_21, ga_69_22, gi_69_23, pi_69_23, ga_69_24, ga_69_25, gi_69_26, pi_69_26, ga_69_27, ga_69_28, gi_69_29, pi_69_29, gi_69_30, pi_69_30, ga_69_31, ga_69_32, ga_69_33, gi_69_34, pi_69_34, ga_69_35, ga_69_36, ga_69_37, gi_69_38, pi_69_38, gj_69_39, pj_69_39, gj_69_40, pj_69_40, ga_69_41, ga_69_42, ga_69_43, ga_69_44, ga_69_45, ga_69_46, ga_69_47, gi_69_48, pi_69_48, gi_69_49, pi_69_49, gi_69_50, pi_69_50, gi_69_51, pi_69_51, gj_69_52, pj_69_52, ga_69_53, gi_69_54, pi_69_54, gi_69_55, pi_69_55, rd_70, wr_70, ln_70, rd_71, wr_71, ln_71, rd_74, wr_74, ln_74, rd_75, wr_75, ln_75, v_tell_1, v_tell_2, v_tell_3, v_tell_5, v_tell_6, v_tell0, v_change, v_settled0, Option.bind_some, toI_i, toJ_j, toV_v, toR_r, up2_at, up2_na, up2_nk, up2_off, nI_add, nI_mul, nI_leI, nI_ltI, nI_eq, bI_eq0, e71']
      rw [e2]
      simp (disch := first | assumption | omega) only [vc_69, gi_69_0, pi_69_0, gi_69_1, pi_69_1, ga_69_2, ga_69_3, ga_69_4, ga_69_5, ga_69_6, ga_69_7, gi_69_8, pi_69_8, ga_69_9, ga_69_10, gi_69_11, pi_69_11, ga_69_12, gi_69_13, pi_69_13, gi_69_14, pi_69_14, gi_69_15, pi_69_15, gi_69_16, pi_69_16, gj_69_17, pj_69_17, gi_69_18, pi_69_18, gi_69_19, pi_69_19, gi_69_20, pi_69_20, gi_69_21, pi_69_21, ga_69_22, gi_69_23, pi_69_23, ga_69_24, ga_69_25, gi_69_26, pi_69_26, ga_69_27, ga_69_28, gi_69_29, pi_69_29, gi_69_30, pi_69_30, ga_69_31, ga_69_32, ga_69_33, gi_69_34, pi_69_34, ga_69_35, ga_69_36, ga_69_37, gi_69_38, pi_69_38, gj_69_39, pj_69_39, gj_69_40, pj_69_40, ga_69_41, ga_69_42, ga_69_43, ga_69_44, ga_69_45, ga_69_46, ga_69_47, gi_69_48, pi_69_48, gi_69_49, pi_69_49, gi_69_50, pi_69_50, gi_69_51, pi_69_51, gj_69_52, pj_69_52, ga_69_53, gi_69_54, pi_69_54, gi_69_55, pi_69_55, rd_70, wr_70, ln_70, rd_71, wr_71, ln_71, rd_74, wr_74, ln_74, rd_75, wr_75, ln_75, v_tell_1, v_tell_2, v_tell_3, v_tell_5, v_tell_6, v_tell0, v_change, v_settled0, Option.bind_some, toI_i, toJ_j, toV_v, toR_r, up2_at, up2_na, up2_nk, up2_off, nI_add, nI_mul, nI_leI, nI_ltI, nI_eq, bI_eq0]
    · refine ⟨fun a ha hb => ?_, fun k hk => ?_⟩
      · by_cases e : a = 71
        · subst e
          rw [up2_self, s2.1 71 (by decide), e71, e71']
          funext j
          unfold upK
          split
          · rename_i e; rw [e]
          · rfl
        · rw [up2_off _ _ _ e, s2.1 a ha, up2_off _ _ _ e, up2_off _ _ _ ha]
      · rw [up2_na (by decide), s2.2.1 k (by omega) (by omega), up2_na (by decide), up2_nk (by omega)]
  by_cases e : a1 = -1
  · refine yes ?_ (Or.inl e) (by rw [decide_eq_true e]; rfl)
    unfold F_X10_compare
    rw [if_pos e]
  · cases hb : inR a1 N with
    | false =>
      refine Bo_i (u1 := u) (a := -1) (J1 := J) (J2 := J) (e_X10_compare (d := 199) (K0 := hp u n T I J R) ?_) hS (e_X11_compare (d := 199) ?_) (Iv_thr hI (nI 0)).e
      · unfold F_X10_compare
        rw [if_neg e]
        simp (disch := first | assumption | omega) only [gg, hh, vc_0, ga_0_0, ga_0_1, ga_0_2, ga_0_3, ga_0_4, ga_0_5, ga_0_6, ga_0_7, ga_0_8, ga_0_9, gi_0_12, pi_0_12, gi_0_13, pi_0_13, gi_0_14, pi_0_14, gi_0_15, pi_0_15, gi_0_16, pi_0_16, rd_24, wr_24, ln_24, ga_g_1, ga_g_2, ga_g_3, ga_g_4, ga_g_5, ga_g_6, ga_g_7, ga_g_8, ga_g_9, ga_g_10, gi_g_11, pi_g_11, gi_g_12, pi_g_12, gi_g_13, pi_g_13, gi_g_14, pi_g_14, gi_g_15, pi_g_15, gi_g_16, pi_g_16, gi_g_17, pi_g_17, ga_g_0, vc_g, rd_g_1, wr_g_1, ln_g_1, rd_g_2, wr_g_2, ln_g_2, rd_g_3, wr_g_3, ln_g_3, rd_g_4, wr_g_4, ln_g_4, rd_g_5, wr_g_5, ln_g_5, rd_g_6, wr_g_6, ln_g_6, rd_g_7, wr_g_7, ln_g_7, rd_g_8, wr_g_8, ln_g_8, rd_g_9, wr_g_9, ln_g_9, rd_g_10, vc_h, gi_h_1, pi_h_1, gi_h_2, pi_h_2, v_granted, v_ref_1, v_ref_2, v_ref_3, v_ref_5, v_ref_6, v_hclear, Option.bind_some, toI_i, toJ_j, toV_v, toR_r, up2_at, up2_na, up2_nk, up2_off, nI_add, nI_mul, nI_leI, nI_ltI, nI_eq, bI_eq0, hl, hb]
        rw [if_pos trivial]
      · unfold F_X11_compare
        rw [pi_69_0 hS, Option.bind_some, vc_69 hS, il _ (by (try simp (disch := omega) only [up2_at, up2_na, up2_nk, up2_off]); exact w4), hb, decide_eq_false e, toI_i, Option.bind_some]
        rfl
    | true =>
      obtain ⟨l, hl6, rfl⟩ := inR_ex hb (by omega)
      refine yes ?_ (Or.inr ⟨l, hl6, rfl⟩) (by rw [hb, Bool.or_true])
      unfold F_X10_compare
      rw [if_neg e]
      simp (disch := first | assumption | omega) only [gg, hh, vc_0, ga_0_0, ga_0_1, ga_0_2, ga_0_3, ga_0_4, ga_0_5, ga_0_6, ga_0_7, ga_0_8, ga_0_9, gi_0_12, pi_0_12, gi_0_13, pi_0_13, gi_0_14, pi_0_14, gi_0_15, pi_0_15, gi_0_16, pi_0_16, rd_24, wr_24, ln_24, ga_g_1, ga_g_2, ga_g_3, ga_g_4, ga_g_5, ga_g_6, ga_g_7, ga_g_8, ga_g_9, ga_g_10, gi_g_11, pi_g_11, gi_g_12, pi_g_12, gi_g_13, pi_g_13, gi_g_14, pi_g_14, gi_g_15, pi_g_15, gi_g_16, pi_g_16, gi_g_17, pi_g_17, ga_g_0, vc_g, rd_g_1, wr_g_1, ln_g_1, rd_g_2, wr_g_2, ln_g_2, rd_g_3, wr_g_3, ln_g_3, rd_g_4, wr_g_4, ln_g_4, rd_g_5, wr_g_5, ln_g_5, rd_g_6, wr_g_6, ln_g_6, rd_g_7, wr_g_7, ln_g_7, rd_g_8, wr_g_8, ln_g_8, rd_g_9, wr_g_9, ln_g_9, rd_g_10, vc_h, gi_h_1, pi_h_1, gi_h_2, pi_h_2, v_granted, v_ref_1, v_ref_2, v_ref_3, v_ref_5, v_ref_6, v_hclear, Option.bind_some, toI_i, toJ_j, toV_v, toR_r, up2_at, up2_na, up2_nk, up2_off, nI_add, nI_mul, nI_leI, nI_ltI, nI_eq, bI_eq0, hl, hb]
      rw [if_neg (by decide)]
end B9
