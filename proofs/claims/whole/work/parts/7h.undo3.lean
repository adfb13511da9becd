/-! calls: undo -/
section UN3
variable {O : mO} {c d u n : Nat} {T : Nat → mT} {I : Nat → Nat → Int32} {J : Nat → Nat → Int64} {R : Nat → Nat → Option Nat} {g h V F D S N x s k y : Nat} {w : Nat → Int32} {K : mH}
/-- a row whose undoable part is another -/
theorem Wf_S {w' z : Nat → Int32} (hw : Wf w V F D S N) (hs : WfS z (fun v => w (37 + v)) V F D) (h1 : ∀ i, 6 ≤ i → i < 37 → w' i = z i) (h2 : ∀ i, i < 6 ∨ 37 ≤ i → w' i = w i) : Wf w' V F D S N := by
  obtain ⟨⟨v5, f4, d8, s8, n6⟩, ⟨w0, w1, w2, w3, w4⟩, hf, hs0, hfam, hwi, hsn, hlw⟩ := hw
  refine ⟨⟨v5, f4, d8, s8, n6⟩, ⟨by rw [h2 0 (by omega)]; exact w0, by rw [h2 1 (by omega)]; exact w1, by rw [h2 2 (by omega)]; exact w2, by rw [h2 3 (by omega)]; exact w3, by rw [h2 4 (by omega)]; exact w4⟩, by rw [h2 5 (by omega)]; exact hf, WfS_cg hs d8 f4 h1 (fun v _ => h2 _ (by omega)), fun k hk => by rw [h2 _ (by omega)]; exact hfam k hk, fun d v hd hv => by rw [h2 _ (by omega)]; exact hwi d v hd hv, fun k hk => by rw [h2 _ (by omega), h2 _ (by omega)]; exact hsn k hk, fun l hl => LwM_cg (fun i hi => h2 i (by omega)) (by omega) (hlw l hl)⟩
/-- a ground whose undoable part is another -/
theorem Gnd_ch {I' : Nat → Nat → Int32} {w' : Nat → Int32} (hG : Gnd n T I R g w V F D S N) (a1 : ∀ k, k ≠ 14 → I' g k = I g k) (a2 : ∀ j, j = 1 ∨ j = 3 ∨ j = 6 ∨ j = 7 ∨ j = 8 → I' (g + j) = I (g + j)) (hw : ∀ i, i < 6 ∨ 37 ≤ i → w' i = w i) (h2 : ∀ k, k < 4 → I' (g + 2) k = w' (33 + k)) (h4 : ∀ k, k < 8 → I' (g + 4) k = w' (9 + k)) (h5 : ∀ k, k < 8 → I' (g + 5) k = w' (17 + k)) (h9 : ∀ k, k < 3 → I' (g + 9) k = w' (6 + k)) (h14 : ∀ k, k < 8 → kb (I' g 14) k = w' (25 + k)) (h98 : ∀ a, 98 ≤ a → I' a = I a) : Gnd n T I' R g w' V F D S N := by
  obtain ⟨⟨c1, c2, c3, c4, c5, c6, c7, c8, c9, c10, c11, c12⟩, q1, q2, q3, q4, q5, q6, q7, q8, q9, q10, q11, ql⟩ := hG
  refine ⟨⟨c1, c2, c3, c4, by rw [a1 _ (by decide)]; exact c5, c6, by rw [a1 _ (by decide)]; exact c7, c8, by rw [a1 _ (by decide)]; exact c9, c10, by rw [a1 _ (by decide)]; exact c11, c12⟩, by rw [a1 _ (by decide)]; exact q1, by rw [a1 _ (by decide), hw _ (by omega)]; exact q2, fun k hk => by rw [a2 1 (by omega), hw _ (by omega)]; exact q3 k hk, h2, fun k hk => by rw [a2 3 (by omega), hw _ (by omega)]; exact q5 k hk, h4, h5, fun d v hd hv => by rw [a2 6 (by omega), hw _ (by omega)]; exact q8 d v hd hv, fun k hk => by rw [a2 7 (by omega), a2 8 (by omega), hw _ (by omega), hw _ (by omega)]; exact q9 k hk, h9, h14, Lws_cg ql (fun i hi => hw i (by omega)) h98⟩
theorem tbI_off {a : Nat} (h1 : a ≠ g) (h2 : a ≠ g + 2) (h4 : a ≠ g + 4) (h5 : a ≠ g + 5) (h9 : a ≠ g + 9) : tbI I g h y a = I a := by
  unfold tbI tbA
  rw [cpI_off h5, cpI_off h4, cpI_off h2, up2_off _ _ _ h1, up2_off _ _ _ h9]
theorem tbI_g {k : Nat} (hk : k ≠ 14) : tbI I g h y g k = I g k := by
  unfold tbI tbA
  rw [cpI_off (by omega), cpI_off (by omega), cpI_off (by omega), up2_nk hk, up2_na (by omega)]
theorem tbI_14 (hgh : g = 32 ∧ h = 26 ∨ g = 58 ∧ h = 56) : tbI I g h y g 14 = I (h + 1) (y * 23 + 2) := by
  unfold tbI tbA
  rw [cpI_off (by omega), cpI_off (by omega), cpI_off (by omega), up2_at, up2_na (by omega)]
theorem tbI_2 (hgh : g = 32 ∧ h = 26 ∨ g = 58 ∧ h = 56) {k : Nat} (hk : k < 4) : tbI I g h y (g + 2) k = I (h + 1) (y * 23 + 3 + k) := by
  unfold tbI tbA
  rw [cpI_off (by omega), cpI_off (by omega), cpI_in (by omega) (by omega), up2_na (by omega), up2_na (by omega), show y * 23 + 3 + (k - 0) = y * 23 + 3 + k by omega]
theorem tbI_4 (hgh : g = 32 ∧ h = 26 ∨ g = 58 ∧ h = 56) {k : Nat} (hk : k < 8) : tbI I g h y (g + 4) k = I (h + 1) (y * 23 + 7 + k) := by
  unfold tbI tbA
  rw [cpI_off (by omega), cpI_in (by omega) (by omega), cpI_off (by omega), up2_na (by omega), up2_na (by omega), show y * 23 + 7 + (k - 0) = y * 23 + 7 + k by omega]
theorem tbI_5 (hgh : g = 32 ∧ h = 26 ∨ g = 58 ∧ h = 56) {k : Nat} (hk : k < 8) : tbI I g h y (g + 5) k = I (h + 1) (y * 23 + 15 + k) := by
  unfold tbI tbA
  rw [cpI_in (by omega) (by omega), cpI_off (by omega), cpI_off (by omega), up2_na (by omega), up2_na (by omega), show y * 23 + 15 + (k - 0) = y * 23 + 15 + k by omega]
theorem tbI_9 {k : Nat} : tbI I g h y (g + 9) k = if k = 0 then I (h + 1) (y * 23 + 1) else I (g + 9) k := by
  unfold tbI tbA
  rw [cpI_off (by omega), cpI_off (by omega), cpI_off (by omega), up2_na (by omega)]
  by_cases e : k = 0
  · rw [e, up2_at, if_pos rfl]
  · rw [up2_nk e, if_neg e]
/-- the class's ground, taken back -/
theorem Gnd_tb {w' z : Nat → Int32} (hG : Gnd n T I R g w V F D S N) (hgh : g = 32 ∧ h = 26 ∨ g = 58 ∧ h = 56) (hs : HsR (I (h + 1)) y z) (h7 : z 7 = w 7) (h8 : z 8 = w 8) (h1 : ∀ i, 6 ≤ i → i < 37 → w' i = z i) (h2 : ∀ i, i < 6 ∨ 37 ≤ i → w' i = w i) : Gnd n T (tbI I g h y) R g w' V F D S N := by
  obtain ⟨s1, s2, s3, s4, s5⟩ := hs
  refine Gnd_ch hG (fun k hk => tbI_g hk) (fun j hj => tbI_off (by omega) (by omega) (by omega) (by omega) (by omega)) h2 (fun k hk => ?_) (fun k hk => ?_) (fun k hk => ?_) (fun k hk => ?_) (fun k hk => ?_) (fun a ha => tbI_off (by omega) (by omega) (by omega) (by omega) (by omega))
  · rw [tbI_2 hgh hk, h1 _ (by omega) (by omega)]
    exact s3 k hk
  · rw [tbI_4 hgh hk, h1 _ (by omega) (by omega)]
    exact s4 k hk
  · rw [tbI_5 hgh hk, h1 _ (by omega) (by omega)]
    exact s5 k hk
  · rw [tbI_9, h1 _ (by omega) (by omega)]
    have q := hG.2.2.2.2.2.2.2.2.2.2.1
    by_cases e : k = 0
    · rw [if_pos e, e]
      exact s1
    · rw [if_neg e, q k hk]
      have : k = 1 ∨ k = 2 := by omega
      rcases this with rfl | rfl
      · exact h7.symm
      · exact h8.symm
  · rw [tbI_14 hgh, h1 _ (by omega) (by omega)]
    exact s2 k hk
/-- one fewer can be undone -/
theorem Und_pop {ih hr u69 u74 u75 w ih' u69' w' : Nat → Int32} (hU : Und ih hr u69 u74 u75 w V F D x (s + 1)) (h8 : D ≤ 8) (h4 : F ≤ 4) (hV : V ≤ 5) (h1 : ih' 1 = nI ((x + 16) % 17)) (h2 : ih' 2 = nI s) (h3 : u69' 8 = nI s) (hw' : ∀ i, i = 7 ∨ i = 8 ∨ (37 ≤ i ∧ i < 42) → w' i = w i) : Und ih' hr u69' u74 u75 w' V F D ((x + 16) % 17) s := by
  obtain ⟨⟨a1, a2, a3, a4, a5⟩, b⟩ := hU
  refine ⟨⟨h1, Nat.mod_lt _ (by decide), h2, by omega, h3⟩, fun j hj => ?_⟩
  obtain ⟨c1, c2, c3, c4, c5, c6⟩ := b (j + 1) (by omega)
  rw [hw' 7 (by omega), hw' 8 (by omega)]
  rw [show ((x + 16) % 17 + 16 - j) % 17 = (x + 16 - (j + 1)) % 17 by omega, show s - 1 - j = s + 1 - 1 - (j + 1) by omega]
  exact ⟨c1, c2, c3, c4, c5, WfS_cg c6 h8 h4 (fun _ _ _ => rfl) (fun v hv => hw' _ (by omega))⟩
theorem b_undo (hI : Inv c K) : Bo O Inv MX10_undo MX11_undo [] c K := by
  obtain ⟨u, n, T, I, J, R, g, h, V, F, D, S, N, x, s, rfl, hI⟩ := hI
  obtain ⟨hS, hn, gg, hh, hG, hH, hw, hgd, hg⟩ := Iv_all hI
  obtain ⟨⟨v5, f4, d8, s8, n6⟩, ⟨w0, w1, w2, w3, w4⟩, hf, hs, hfam, hwi, hsn, hlw⟩ := hw
  obtain ⟨⟨c1, c2, c3, c4, c5, c6, c7, c8, c9, c10, c11, c12⟩, q1, q2, q3, q4, q5, q6, q7, q8, q9, q10, q11, ql⟩ := hgd
  obtain ⟨⟨b1, b2, b3, b4, b5⟩, b6, b7, b8, b9, b10⟩ := hI.2.2.2.2.2.2.2.1
  have hJ := hI.2.2.2.2.2.2.2.2.2
  have hu := hI.2.2.2.2.1
  have hw := hI.2.2.1
  have hgd := hI.2.2.2.1
  obtain ⟨⟨x1, x2, x3, x4, x5⟩, xs⟩ := hu
  have hhn : h < n := by have := hS.1.1; omega
  have gi2 : ∀ (u : Nat) (I : Nat → Nat → Int32) (J : Nat → Nat → Int64), gtI (hp u n T I J R) h 3 2 = some (I h 2) := fun _ _ _ => gtI_hp hH.1 rfl hhn hn
  rcases s with _ | s
  · refine Bo_i (u1 := u) (a := -3) (I1 := up2 (up2 I 0 16 (-3)) 24 2 (I 24 2 + nI 1)) (J1 := J) (J2 := J) (e_X10_undo (d := 199) ?_) hS (e_X11_undo (d := 199) ?_) (Iv_ref hI (-3) (pl := 2) (r := 3) (by omega)).e
    · unfold F_X10_undo
      rw [hh, Option.bind_some, gi2, Option.bind_some, x3, if_pos (by decide)]
      simp (disch := first | assumption | omega) only [gg, hh, vc_0, ga_0_0, ga_0_1, ga_0_2, ga_0_3, ga_0_4, ga_0_5, ga_0_6, ga_0_7, ga_0_8, ga_0_9, gi_0_12, pi_0_12, gi_0_13, pi_0_13, gi_0_14, pi_0_14, gi_0_15, pi_0_15, gi_0_16, pi_0_16, rd_24, wr_24, ln_24, ga_g_1, ga_g_2, ga_g_3, ga_g_4, ga_g_5, ga_g_6, ga_g_7, ga_g_8, ga_g_9, ga_g_10, gi_g_11, pi_g_11, gi_g_12, pi_g_12, gi_g_13, pi_g_13, gi_g_14, pi_g_14, gi_g_15, pi_g_15, gi_g_16, pi_g_16, gi_g_17, pi_g_17, ga_g_0, vc_g, rd_g_1, wr_g_1, ln_g_1, rd_g_2, wr_g_2, ln_g_2, rd_g_3, wr_g_3, ln_g_3, rd_g_4, wr_g_4, ln_g_4, rd_g_5, wr_g_5, ln_g_5, rd_g_6, wr_g_6, ln_g_6, rd_g_7, wr_g_7, ln_g_7, rd_g_8, wr_g_8, ln_g_8, rd_g_9, wr_g_9, ln_g_9, rd_g_10, vc_h, gi_h_1, pi_h_1, gi_h_2, pi_h_2, v_granted, v_ref_1, v_ref_2, v_ref_3, v_ref_5, v_ref_6, v_hclear, Option.bind_some, toI_i, toJ_j, toV_v, toR_r, up2_at, up2_na, up2_nk, up2_off, nI_add, nI_mul, nI_leI, nI_ltI, nI_eq, bI_eq0]
    · unfold F_X11_undo
      rw [pi_69_0 hS, Option.bind_some, gi_69_8 hS, Option.bind_some, up2_nk (by decide), up2_na (by decide), up2_na (by decide), x5, if_pos (by decide)]
      simp (disch := first | assumption | omega) only [vc_69, gi_69_0, pi_69_0, gi_69_1, pi_69_1, ga_69_2, ga_69_3, ga_69_4, ga_69_5, ga_69_6, ga_69_7, gi_69_8, pi_69_8, ga_69_9, ga_69_10, gi_69_11, pi_69_11, ga_69_12, gi_69_13, pi_69_13, gi_69_14, pi_69_14, gi_69_15, pi_69_15, gi_69_16, pi_69_16, gj_69_17, pj_69_17, gi_69_18, pi_69_18, gi_69_19, pi_69_19, gi_69_20, pi_69_20, gi_69_21, pi_69_21, ga_69_22, gi_69_23, pi_69_23, ga_69_24, ga_69_25, gi_69_26, pi_69_26, ga_69_27, ga_69_28, gi_69_29, pi_69_29, gi_69_30, pi_69_30, ga_69_31, ga_69_32, ga_69_33, gi_69_34, pi_69_34, ga_69_35, ga_69_36, ga_69_37, gi_69_38, pi_69_38, gj_69_39, pj_69_39, gj_69_40, pj_69_40, ga_69_41, ga_69_42, ga_69_43, ga_69_44, ga_69_45, ga_69_46, ga_69_47, gi_69_48, pi_69_48, gi_69_49, pi_69_49, gi_69_50, pi_69_50, gi_69_51, pi_69_51, gj_69_52, pj_69_52, ga_69_53, gi_69_54, pi_69_54, gi_69_55, pi_69_55, rd_70, wr_70, ln_70, rd_71, wr_71, ln_71, rd_74, wr_74, ln_74, rd_75, wr_75, ln_75, v_tell_1, v_tell_2, v_tell_3, v_tell_5, v_tell_6, v_tell0, v_change, v_settled0, Option.bind_some, toI_i, toJ_j, toV_v, toR_r, up2_at, up2_na, up2_nk, up2_off, nI_add, nI_mul, nI_leI, nI_ltI, nI_eq, bI_eq0]
  · obtain ⟨y1, ⟨y2v, y2l, y2⟩, y3, y4, y5, y6⟩ := xs 0 (by omega)
    rw [Nat.sub_zero, Nat.sub_zero, Nat.add_sub_cancel] at y1 y3
    rw [Nat.sub_zero, Nat.add_sub_cancel] at y2 y4 y5 y6
    have ne0 : ¬ nI (s + 1) = 0 := fun z => absurd ((nI_eq (a := s + 1) (b := 0) (by omega) (by omega)).mp z) (by omega)
    have tb := evr (c_takeBack (O := O) (d := 199) (u := u) (J := J) hH hG hn x1 x2 x3 (by omega))
    generalize eIt : tbI (up2 (up2 I h 1 (nI ((x + 16) % 17))) h 2 (nI s)) g h ((x + 16) % 17) = It at tb
    have oIt : ∀ a, a ≠ g → a ≠ g + 2 → a ≠ g + 4 → a ≠ g + 5 → a ≠ g + 9 → a ≠ h → It a = I a := fun a z1 z2 z3 z4 z5 z6 => by rw [← eIt, tbI_off z1 z2 z3 z4 z5, up2_off _ _ _ z6, up2_off _ _ _ z6]
    have hI1 : It (h + 1) = I (h + 1) := oIt _ (by omega) (by omega) (by omega) (by omega) (by omega) (by omega)
    rw [hI1, y1, y2] at tb
    have Ih1 : It h 1 = nI ((x + 16) % 17) := by rw [← eIt, tbI_off (by omega) (by omega) (by omega) (by omega) (by omega), up2_nk (by decide), up2_at]
    have Ih2 : It h 2 = nI s := by rw [← eIt, tbI_off (by omega) (by omega) (by omega) (by omega) (by omega), up2_at]
    obtain ⟨Im, em, m1, m2, m3⟩ := v_putBack (O := O) (d := 198) (u := u) (J := J) (I := up2 (up2 (up2 It 0 16 (nI 0)) 69 0 (nI 0)) 69 8 (nI s)) (k := s) hS (by omega)
    have e69 : It 69 = I 69 := oIt _ (by omega) (by omega) (by omega) (by omega) (by omega) (by omega)
    have e71 : It 71 = I 71 := oIt _ (by omega) (by omega) (by omega) (by omega) (by omega) (by omega)
    have e74 : It 74 = I 74 := oIt _ (by omega) (by omega) (by omega) (by omega) (by omega) (by omega)
    have e75 : It 75 = I 75 := oIt _ (by omega) (by omega) (by omega) (by omega) (by omega) (by omega)
    have z1 : ∀ i, 6 ≤ i → i < 37 → Im 71 i = snp (I 74) s i := by
      intro i i1 i2
      have := m2 (i - 6) (by omega)
      rw [show 6 + (i - 6) = i by omega, up2_na (by decide), up2_na (by decide), up2_na (by decide), e74] at this
      exact this
    have z2 : ∀ i, i < 6 ∨ 37 ≤ i → Im 71 i = I 71 i := by
      intro i hi
      rw [m3 i hi, up2_na (by decide), up2_na (by decide), up2_na (by decide), e71]
    have Mo : ∀ a, a ≠ 0 → a ≠ 69 → a ≠ 71 → Im a = It a := fun a a0 a69 a71 => by rw [m1 a a71, up2_off _ _ _ a69, up2_off _ _ _ a69, up2_off _ _ _ a0]
    have M69 : ∀ k, k ≠ 0 → k ≠ 8 → Im 69 k = I 69 k := fun k k0 k8 => by rw [m1 69 (by decide), up2_nk k8, up2_nk k0, up2_na (by decide), e69]
    refine Bo_i (u1 := u) (a := nI y2v) (I1 := up2 It 0 16 (nI 0)) (J1 := J) (I2 := up2 Im 69 1 (nI 0)) (J2 := J) (e_X10_undo (d := 199) ?_) hS (e_X11_undo (d := 199) ?_) ?_
    · unfold F_X10_undo
      rw [hh, Option.bind_some, gi2, Option.bind_some, x3, if_neg ne0, Option.bind_some, gg, Option.bind_some, vc_h hH hn, tb]
      simp (disch := first | assumption | omega) only [gg, hh, vc_0, ga_0_0, ga_0_1, ga_0_2, ga_0_3, ga_0_4, ga_0_5, ga_0_6, ga_0_7, ga_0_8, ga_0_9, gi_0_12, pi_0_12, gi_0_13, pi_0_13, gi_0_14, pi_0_14, gi_0_15, pi_0_15, gi_0_16, pi_0_16, rd_24, wr_24, ln_24, ga_g_1, ga_g_2, ga_g_3, ga_g_4, ga_g_5, ga_g_6, ga_g_7, ga_g_8, ga_g_9, ga_g_10, gi_g_11, pi_g_11, gi_g_12, pi_g_12, gi_g_13, pi_g_13, gi_g_14, pi_g_14, gi_g_15, pi_g_15, gi_g_16, pi_g_16, gi_g_17, pi_g_17, ga_g_0, vc_g, rd_g_1, wr_g_1, ln_g_1, rd_g_2, wr_g_2, ln_g_2, rd_g_3, wr_g_3, ln_g_3, rd_g_4, wr_g_4, ln_g_4, rd_g_5, wr_g_5, ln_g_5, rd_g_6, wr_g_6, ln_g_6, rd_g_7, wr_g_7, ln_g_7, rd_g_8, wr_g_8, ln_g_8, rd_g_9, wr_g_9, ln_g_9, rd_g_10, vc_h, gi_h_1, pi_h_1, gi_h_2, pi_h_2, v_granted, v_ref_1, v_ref_2, v_ref_3, v_ref_5, v_ref_6, v_hclear, Option.bind_some, toI_i, toJ_j, toV_v, toR_r, up2_at, up2_na, up2_nk, up2_off, nI_add, nI_mul, nI_leI, nI_ltI, nI_eq, bI_eq0]
    · unfold F_X11_undo
      have ga : gtA (hp u n T Im J R) 69 11 7 = some 75 := ga_69_7 hS
      rw [pi_69_0 hS, Option.bind_some, gi_69_8 hS, Option.bind_some, up2_nk (by decide), up2_na (by decide), e69, x5, if_neg ne0, Option.bind_some, nI_sub (by omega), Nat.add_sub_cancel, pi_69_8 hS, Option.bind_some, gi_69_8 hS, Option.bind_some, up2_at, vc_69 hS, em, toV_v, Option.bind_some, ga, Option.bind_some, gi_69_8 hS, Option.bind_some, m1 69 (by decide), up2_at]
      have e75' : Im 75 s = nI y2v := by rw [Mo 75 (by decide) (by decide) (by decide), e75]; exact y2
      simp (disch := first | assumption | omega) only [vc_69, gi_69_0, pi_69_0, gi_69_1, pi_69_1, ga_69_2, ga_69_3, ga_69_4, ga_69_5, ga_69_6, ga_69_7, gi_69_8, pi_69_8, ga_69_9, ga_69_10, gi_69_11, pi_69_11, ga_69_12, gi_69_13, pi_69_13, gi_69_14, pi_69_14, gi_69_15, pi_69_15, gi_69_16, pi_69_16, gj_69_17, pj_69_17, gi_69_18, pi_69_18, gi_69_19, pi_69_19, gi_69_20, pi_69_20, gi_69_21, pi_69_21, ga_69_22, gi_69_23, pi_69_23, ga_69_24, ga_69_25, gi_69_26, pi_69_26, ga_69_27, ga_69_28, gi_69_29, pi_69_29, gi_69_30, pi_69_30, ga_69_31, ga_69_32, ga_69_33, gi_69_34, pi_69_34, ga_69_35, ga_69_36, ga_69_37, gi_69_38, pi_69_38, gj_69_39, pj_69_39, gj_69_40, pj_69_40, ga_69_41, ga_69_42, ga_69_43, ga_69_44, ga_69_45, ga_69_46, ga_69_47, gi_69_48, pi_69_48, gi_69_49, pi_69_49, gi_69_50, pi_69_50, gi_69_51, pi_69_51, gj_69_52, pj_69_52, ga_69_53, gi_69_54, pi_69_54, gi_69_55, pi_69_55, rd_70, wr_70, ln_70, rd_71, wr_71, ln_71, rd_74, wr_74, ln_74, rd_75, wr_75, ln_75, v_tell_1, v_tell_2, v_tell_3, v_tell_5, v_tell_6, v_tell0, v_change, v_settled0, Option.bind_some, toI_i, toJ_j, toV_v, toR_r, up2_at, up2_na, up2_nk, up2_off, nI_add, nI_mul, nI_leI, nI_ltI, nI_eq, bI_eq0, e75']
    · refine ⟨g, h, V, F, D, S, N, (x + 16) % 17, s, Iv_ch hI (fun a ha => ?_) ?_ ?_ ?_ ?_ ?_ ?_ ?_ ?_ hJ⟩
      · rw [up2_off _ _ _ (by omega), Mo a (by omega) (by omega) (by omega), oIt a (by omega) (by omega) (by omega) (by omega) (by omega) (by omega)]
      · rw [up2_na (by decide), m1 0 (by decide), up2_na (by decide), up2_na (by decide), up2_nk (by decide), oIt 0 (by omega) (by omega) (by omega) (by omega) (by omega) (by omega)]
      · rw [up2_nk (by decide), M69 13 (by decide) (by decide)]
      · rw [up2_nk (by decide), M69 54 (by decide) (by decide)]
      · rw [up2_nk (by decide), M69 55 (by decide) (by decide)]
      · rw [up2_off _ _ _ (by decide)]
        exact Wf_S hw y6 z1 z2
      · rw [up2_off Im _ _ (show 71 ≠ 69 by decide)]
        have : Gnd n T It R g (Im 71) V F D S N := by
          rw [← eIt]
          refine Gnd_tb (I := up2 (up2 I h 1 (nI ((x + 16) % 17))) h 2 (nI s)) (Gnd_cg hgd (fun a ha => by rw [up2_off _ _ _ (by omega), up2_off _ _ _ (by omega)])) hg (z := snp (I 74) s) ?_ y4 y5 z1 z2
          rw [up2_off _ _ _ (by omega), up2_off _ _ _ (by omega)]
          exact y3
        exact Gnd_cg this (fun a ha => by rw [up2_off _ _ _ (by omega), Mo a (by omega) (by omega) (by omega)])
      · rw [up2_off _ _ _ (by omega), up2_off _ _ _ (by omega), up2_off _ _ _ (show 74 ≠ 69 by decide), up2_off _ _ _ (show 75 ≠ 69 by decide), up2_off _ _ _ (show 71 ≠ 69 by decide), Mo h (by omega) (by omega) (by omega), Mo (h + 1) (by omega) (by omega) (by omega), hI1, Mo 74 (by decide) (by decide) (by decide), e74, Mo 75 (by decide) (by decide) (by decide), e75]
        refine Und_pop ⟨⟨x1, x2, x3, x4, x5⟩, xs⟩ d8 f4 v5 Ih1 Ih2 ?_ (fun i hi => ?_)
        · rw [up2_nk (by decide), m1 69 (by decide), up2_at]
        · rcases hi with rfl | rfl | hi
          · rw [z1 7 (by decide) (by decide)]
            exact y4
          · rw [z1 8 (by decide) (by decide)]
            exact y5
          · exact z2 i (by omega)
      · have o0 : ∀ k, k ≠ 16 → Im 0 k = I 0 k := fun k hk => by rw [m1 0 (by decide), up2_na (by decide), up2_na (by decide), up2_nk hk, oIt 0 (by omega) (by omega) (by omega) (by omega) (by omega) (by omega)]
        have o16 : Im 0 16 = nI 0 := by rw [m1 0 (by decide), up2_na (by decide), up2_na (by decide), up2_at]
        rw [up2_off _ _ _ (show 0 ≠ 69 by decide), up2_off _ _ _ (show 24 ≠ 69 by decide), up2_off _ _ _ (show 70 ≠ 69 by decide), Mo 24 (by decide) (by decide) (by decide), Mo 70 (by decide) (by decide) (by decide), oIt 24 (by omega) (by omega) (by omega) (by omega) (by omega) (by omega), oIt 70 (by omega) (by omega) (by omega) (by omega) (by omega) (by omega)]
        refine ⟨⟨?_, ?_, ?_, ?_, ?_⟩, b6, b7, b8, b9, b10⟩
        · rw [o0 _ (by decide), up2_nk (by decide), M69 _ (by decide) (by decide)]
          exact b1
        · rw [o0 _ (by decide), up2_nk (by decide), M69 _ (by decide) (by decide)]
          exact b2
        · rw [o0 _ (by decide), up2_nk (by decide), M69 _ (by decide) (by decide)]
          exact b3
        · rw [o16, up2_at]
        · rw [up2_nk (by decide), M69 _ (by decide) (by decide)]
          exact b5
end UN3
