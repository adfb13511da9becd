/-! calls: centuries -/
section CE3
variable {O : mO} {L : Nat} {xs : Nat → Int32} {c : Nat} {K : mH}
theorem b_centuries {a1 a2 : Int32} (hO : O = mOl L xs) (hI : Inv c K) : Bo O Inv MX10_centuries MX11_centuries [.int a1, .int a2] c K := by
  obtain ⟨u, n, T, I, J, R, g, h, V, F, D, S, N, x, s, rfl, hI⟩ := hI
  obtain ⟨hS, hn, gg, hh, hG, hH, hw, hgd, hg⟩ := Iv_all hI
  obtain ⟨⟨v5, f4, d8, s8, n6⟩, ⟨w0, w1, w2, w3, w4⟩, hf, hs, hfam, hwi, hsn, hlw⟩ := hw
  obtain ⟨⟨c1, c2, c3, c4, c5, c6, c7, c8, c9, c10, c11, c12⟩, q1, q2, q3, q4, q5, q6, q7, q8, q9, q10, q11, ql⟩ := hgd
  obtain ⟨⟨b1, b2, b3, b4, b5⟩, b6, b7, b8, b9, b10⟩ := hI.2.2.2.2.2.2.2.1
  have hJ := hI.2.2.2.2.2.2.2.2.2
  have hu := hI.2.2.2.2.1
  have hw := hI.2.2.1
  have hgd := hI.2.2.2.1
  have hM := hI.2.2.2.2.2.1
  have hx := hu.1
  have no1 : F_X10_centuries_j22 O 199 0 (hp u n T I J R) = some (-1, hp u n T (up2 (up2 I 0 16 (-1)) 24 0 (I 24 0 + nI 1)) J R) := by
    unfold F_X10_centuries_j22
    simp (disch := first | assumption | omega) only [gg, hh, vc_0, ga_0_0, ga_0_1, ga_0_2, ga_0_3, ga_0_4, ga_0_5, ga_0_6, ga_0_7, ga_0_8, ga_0_9, gi_0_12, pi_0_12, gi_0_13, pi_0_13, gi_0_14, pi_0_14, gi_0_15, pi_0_15, gi_0_16, pi_0_16, rd_24, wr_24, ln_24, ga_g_1, ga_g_2, ga_g_3, ga_g_4, ga_g_5, ga_g_6, ga_g_7, ga_g_8, ga_g_9, ga_g_10, gi_g_11, pi_g_11, gi_g_12, pi_g_12, gi_g_13, pi_g_13, gi_g_14, pi_g_14, gi_g_15, pi_g_15, gi_g_16, pi_g_16, gi_g_17, pi_g_17, ga_g_0, vc_g, rd_g_1, wr_g_1, ln_g_1, rd_g_2, wr_g_2, ln_g_2, rd_g_3, wr_g_3, ln_g_3, rd_g_4, wr_g_4, ln_g_4, rd_g_5, wr_g_5, ln_g_5, rd_g_6, wr_g_6, ln_g_6, rd_g_7, wr_g_7, ln_g_7, rd_g_8, wr_g_8, ln_g_8, rd_g_9, wr_g_9, ln_g_9, rd_g_10, vc_h, gi_h_1, pi_h_1, gi_h_2, pi_h_2, v_granted, v_ref_1, v_ref_2, v_ref_3, v_ref_5, v_ref_6, v_hclear, Option.bind_some, toI_i, toJ_j, toV_v, toR_r, up2_at, up2_na, up2_nk, up2_off, nI_add, nI_mul, nI_leI, nI_ltI, nI_eq, bI_eq0]
  have no : F_X10_centuries O 199 0 a1 a2 (hp u n T I J R) = F_X10_centuries_j22 O 199 0 (hp u n T I J R) → F_X11_centuries O 199 69 a1 a2 (hp u n T (up2 (up2 I 0 16 (-1)) 24 0 (I 24 0 + nI 1)) J R) = F_X11_centuries_j29 O 199 69 (hp u n T (up2 (up2 (up2 I 0 16 (-1)) 24 0 (I 24 0 + nI 1)) 69 0 (nI 0)) J R) → Bo O Inv MX10_centuries MX11_centuries [.int a1, .int a2] c (hp u n T I J R) := by
    intro h1 h2
    refine Bo_i (u1 := u) (a := -1) (I1 := up2 (up2 I 0 16 (-1)) 24 0 (I 24 0 + nI 1)) (J1 := J) (J2 := J) (e_X10_centuries (d := 199) (h1.trans no1)) hS (e_X11_centuries (d := 199) (h2.trans ?_)) (Iv_ref hI (-1) (pl := 0) (r := 1) (by omega)).e
    unfold F_X11_centuries_j29
    simp (disch := first | assumption | omega) only [vc_69, gi_69_0, pi_69_0, gi_69_1, pi_69_1, ga_69_2, ga_69_3, ga_69_4, ga_69_5, ga_69_6, ga_69_7, gi_69_8, pi_69_8, ga_69_9, ga_69_10, gi_69_11, pi_69_11, ga_69_12, gi_69_13, pi_69_13, gi_69_14, pi_69_14, gi_69_15, pi_69_15, gi_69_16, pi_69_16, gj_69_17, pj_69_17, gi_69_18, pi_69_18, gi_69_19, pi_69_19, gi_69_20, pi_69_20, gi_69_21, pi_69_21, ga_69_22, gi_69_23, pi_69_23, ga_69_24, ga_69_25, gi_69_26, pi_69_26, ga_69_27, ga_69_28, gi_69_29, pi_69_29, gi_69_30, pi_69_30, ga_69_31, ga_69_32, ga_69_33, gi_69_34, pi_69_34, ga_69_35, ga_69_36, ga_69_37, gi_69_38, pi_69_38, gj_69_39, pj_69_39, gj_69_40, pj_69_40, ga_69_41, ga_69_42, ga_69_43, ga_69_44, ga_69_45, ga_69_46, ga_69_47, gi_69_48, pi_69_48, gi_69_49, pi_69_49, gi_69_50, pi_69_50, gi_69_51, pi_69_51, gj_69_52, pj_69_52, ga_69_53, gi_69_54, pi_69_54, gi_69_55, pi_69_55, rd_70, wr_70, ln_70, rd_71, wr_71, ln_71, rd_74, wr_74, ln_74, rd_75, wr_75, ln_75, v_tell_1, v_tell_2, v_tell_3, v_tell_5, v_tell_6, v_tell0, v_change, v_settled0, Option.bind_some, toI_i, toJ_j, toV_v, toR_r, up2_at, up2_na, up2_nk, up2_off, nI_add, nI_mul, nI_leI, nI_ltI, nI_eq, bI_eq0]
  have em : (1000000 : Int32) = nI 1000000 := by decide
  rcases arg_0 a1 (hi := 1000000) (by decide) with ⟨k, hk, rfl⟩ | ⟨hb, hb2⟩
  · have nk : ¬ (1000000 : Int32) < nI k := by
      rw [em]
      exact fun z => absurd ((nI_ltI (by omega) (by omega)).mp z) (by omega)
    rcases arg_c a2 (lo := 1) (hi := 60) (by decide) (by decide) with ⟨m, m1, m2, rfl⟩ | ⟨hb, hb2⟩
    · have l1 : ¬ nI m < nI 1 := fun z => absurd ((nI_ltI (by omega) (by omega)).mp z) (by omega)
      by_cases h0 : D = 0
      · refine Bo_i (u1 := u) (a := -3) (I1 := up2 (up2 I 0 16 (-3)) 24 2 (I 24 2 + nI 1)) (J1 := J) (J2 := J) (e_X10_centuries (d := 199) ?_) hS (e_X11_centuries (d := 199) ?_) (Iv_ref hI (-3) (pl := 2) (r := 3) (by omega)).e
        · unfold F_X10_centuries
          rw [if_neg (nI_pos (by omega)), if_neg nk, if_neg l1, if_pos (nI_le m2 (by omega)), gg, Option.bind_some, gi_g_13 hG hn, Option.bind_some, c9, if_pos (by rw [h0]; rfl)]
          simp (disch := first | assumption | omega) only [gg, hh, vc_0, ga_0_0, ga_0_1, ga_0_2, ga_0_3, ga_0_4, ga_0_5, ga_0_6, ga_0_7, ga_0_8, ga_0_9, gi_0_12, pi_0_12, gi_0_13, pi_0_13, gi_0_14, pi_0_14, gi_0_15, pi_0_15, gi_0_16, pi_0_16, rd_24, wr_24, ln_24, ga_g_1, ga_g_2, ga_g_3, ga_g_4, ga_g_5, ga_g_6, ga_g_7, ga_g_8, ga_g_9, ga_g_10, gi_g_11, pi_g_11, gi_g_12, pi_g_12, gi_g_13, pi_g_13, gi_g_14, pi_g_14, gi_g_15, pi_g_15, gi_g_16, pi_g_16, gi_g_17, pi_g_17, ga_g_0, vc_g, rd_g_1, wr_g_1, ln_g_1, rd_g_2, wr_g_2, ln_g_2, rd_g_3, wr_g_3, ln_g_3, rd_g_4, wr_g_4, ln_g_4, rd_g_5, wr_g_5, ln_g_5, rd_g_6, wr_g_6, ln_g_6, rd_g_7, wr_g_7, ln_g_7, rd_g_8, wr_g_8, ln_g_8, rd_g_9, wr_g_9, ln_g_9, rd_g_10, vc_h, gi_h_1, pi_h_1, gi_h_2, pi_h_2, v_granted, v_ref_1, v_ref_2, v_ref_3, v_ref_5, v_ref_6, v_hclear, Option.bind_some, toI_i, toJ_j, toV_v, toR_r, up2_at, up2_na, up2_nk, up2_off, nI_add, nI_mul, nI_leI, nI_ltI, nI_eq, bI_eq0]
        · unfold F_X11_centuries
          rw [pi_69_0 hS, Option.bind_some, v_in_0_1000000, rg_t (Nat.zero_le k) hk (by decide), toI_i, Option.bind_some, if_neg nbt]
          dsimp only
          rw [v_in_1_60, rg_t m1 m2 (by decide), toI_i, Option.bind_some, if_neg nbt]
          dsimp only
          have r2 : up2 (up2 (up2 I 0 16 (-3)) 24 2 (I 24 2 + nI 1)) 69 0 (nI 0) 71 2 = nI D := by (try simp (disch := omega) only [up2_at, up2_na, up2_nk, up2_off]); exact w2
          rw [ga_69_3 hS, Option.bind_some, rd_71 hS (by omega), Option.bind_some, r2, if_pos (by rw [h0]; rfl)]
          simp (disch := first | assumption | omega) only [vc_69, gi_69_0, pi_69_0, gi_69_1, pi_69_1, ga_69_2, ga_69_3, ga_69_4, ga_69_5, ga_69_6, ga_69_7, gi_69_8, pi_69_8, ga_69_9, ga_69_10, gi_69_11, pi_69_11, ga_69_12, gi_69_13, pi_69_13, gi_69_14, pi_69_14, gi_69_15, pi_69_15, gi_69_16, pi_69_16, gj_69_17, pj_69_17, gi_69_18, pi_69_18, gi_69_19, pi_69_19, gi_69_20, pi_69_20, gi_69_21, pi_69_21, ga_69_22, gi_69_23, pi_69_23, ga_69_24, ga_69_25, gi_69_26, pi_69_26, ga_69_27, ga_69_28, gi_69_29, pi_69_29, gi_69_30, pi_69_30, ga_69_31, ga_69_32, ga_69_33, gi_69_34, pi_69_34, ga_69_35, ga_69_36, ga_69_37, gi_69_38, pi_69_38, gj_69_39, pj_69_39, gj_69_40, pj_69_40, ga_69_41, ga_69_42, ga_69_43, ga_69_44, ga_69_45, ga_69_46, ga_69_47, gi_69_48, pi_69_48, gi_69_49, pi_69_49, gi_69_50, pi_69_50, gi_69_51, pi_69_51, gj_69_52, pj_69_52, ga_69_53, gi_69_54, pi_69_54, gi_69_55, pi_69_55, rd_70, wr_70, ln_70, rd_71, wr_71, ln_71, rd_74, wr_74, ln_74, rd_75, wr_75, ln_75, v_tell_1, v_tell_2, v_tell_3, v_tell_5, v_tell_6, v_tell0, v_change, v_settled0, Option.bind_some, toI_i, toJ_j, toV_v, toR_r, up2_at, up2_na, up2_nk, up2_off, nI_add, nI_mul, nI_leI, nI_ltI, nI_eq, bI_eq0]
      · have nD : ¬ nI D = 0 := fun z => h0 ((nI_eq (by omega) (by omega)).mp z)
        have hrg : RfG n T R g := hM.2.2.2 g (by
          rcases hg with ⟨z, -⟩ | ⟨z, -⟩
          · exact Or.inl z
          · exact Or.inr (Or.inl z))
        obtain ⟨Ic, Rc, ec, cp⟩ := v_copy (O := O) (d := 198) (u := u) (J := J) (I := I) (St_G43 hS) hG hn (by omega) hrg
        obtain ⟨o1, o2, a1', a2', a3, a4, a5, a6, a7, a8, a9, rr, rl⟩ := cp
        have hS' := St_R rr (by omega) hS
        have g43 : Gnd n T Ic Rc 43 (I 71) V F D S N := Gnd_B hgd hw (fun _ _ => rfl) (St_C hS') (St_G43 hS') (by decide) (hS'.2.2 (43, 0, 30) (by decide)) o2 a1' a2' a3 a4 a5 a6 a7 a8 a9 rl (fun a ha => o1 a (by omega)) (fun a ha => rr a (by omega))
        have g43' : Gnd n T (up2 Ic 21 0 (nI k)) Rc 43 (I 71) V F D S N := Gnd_cg g43 (fun a ha => up2_off _ _ _ (by omega))
        obtain ⟨y, hy, h6⟩ := hs.1
        obtain ⟨r1, e1, Ix, hr1, gx, ox⟩ := c_cent (d := 195) (u := u) (J := J) hO hS' g43' hw h6 hy (up2_at _ _ _ _) (by omega) (by omega) m2
        have ce := ce_all (V := V) (s := k) hw h6 (by omega) (by omega) (min m (999 - y)) (by omega)
        generalize hce : ceI V F D (I 71) k (min m (999 - y)) = Ce at *
        obtain ⟨t1, t2, t3, t4, t5⟩ := ce
        have x0 : ∀ a, (a < 43 ∨ 53 < a) → a ≠ 21 → a ≠ 28 → a ≠ 29 → a ≠ 31 → Ix a = I a := fun a z1 z2 z3 z4 z5 => by rw [ox a z1 z2 z3 z4 z5, up2_off _ _ _ z2, o1 a (by omega)]
        have b0 : ∀ a, (a < 43 ∨ 53 < a) → a ≠ 0 → a ≠ 69 → a ≠ 21 → a ≠ 28 → a ≠ 29 → a ≠ 31 → up2 (up2 Ix 0 16 (nI 0)) 69 0 (nI 0) a = I a := fun a z1 z6 z7 z2 z3 z4 z5 => by rw [up2_off _ _ _ z7, up2_off _ _ _ z6]; exact x0 a z1 z2 z3 z4 z5
        have b1' : ∀ a, (43 ≤ a ∧ a ≤ 53) → up2 (up2 Ix 0 16 (nI 0)) 69 0 (nI 0) a = Ix a := fun a z1 => by rw [up2_off _ _ _ (by omega), up2_off _ _ _ (by omega)]
        have b2' : ∀ k, k ≠ 0 → up2 (up2 Ix 0 16 (nI 0)) 69 0 (nI 0) 69 k = I 69 k := fun k z => by rw [up2_nk z, up2_na (by decide), x0 69 (by decide) (by decide) (by decide) (by decide) (by decide)]
        have b3' : ∀ k, k ≠ 16 → up2 (up2 Ix 0 16 (nI 0)) 69 0 (nI 0) 0 k = I 0 k := fun k z => by rw [up2_na (by decide), up2_nk z, x0 0 (by decide) (by decide) (by decide) (by decide) (by decide)]
        have b4' : up2 (up2 Ix 0 16 (nI 0)) 69 0 (nI 0) 0 16 = nI 0 := by rw [up2_na (by decide), up2_at]
        generalize hIb : up2 (up2 Ix 0 16 (nI 0)) 69 0 (nI 0) = Ib at *
        have i71 : Ib 71 = I 71 := b0 71 (by decide) (by decide) (by decide) (by decide) (by decide) (by decide) (by decide)
        obtain ⟨Ik, ek, k1, k2, k3⟩ := v_keepAll (O := O) (d := 198) (u := u) (J := J) (I := Ib) (k := 16) hS' (by decide)
        have k71 : Ik 71 = I 71 := (k1 71 (by decide)).trans i71
        obtain ⟨r2, e2, Iy, Jy, hr2, y71, yo⟩ := m_cent (O := O) (d := 193) (u := u) (I := Ik) (J := up2 J 69 52 (nI k).toInt64) (s := k) (m := m) (y := y) hS' (by rw [k1 69 (by decide), b2' 20 (by decide)]; exact b5) (by rw [k71]; exact hw) (by rw [k71]; exact h6) hy (up2_at _ _ _ _) (by omega) (by omega) m2
        rw [k71, hce] at hr2 y71
        obtain ⟨r3, e3, Iz, hr3, z1, z2⟩ := m_lay (O := O) (d := 199) (u := u) (I := Iy) (J := Jy) (o := nI Ce.2.2) hS'
        obtain ⟨Ip, ep, p1, p2, p3⟩ := v_putBack (O := O) (d := 198) (u := u) (J := Jy) (I := up2 (up2 Iz 69 54 (nI D)) 69 55 (nI F)) (k := 16) hS' (by decide)
        have z71 : Iz 71 = Ce.1 := (z1 71 (by decide)).trans y71
        refine Bo_i (u1 := u) (a := nI Ce.2.2) (I1 := up2 Ix 0 16 (nI 0)) (J1 := J) (I2 := up2 Ip 69 1 (nI 0)) (J2 := Jy) (R1 := Rc) (e_X10_centuries (d := 199) ?_) hS' (e_X11_centuries (d := 199) ?_) ?_
        · unfold F_X10_centuries
          rw [if_neg (nI_pos (by omega)), if_neg nk, if_neg l1, if_pos (nI_le m2 (by omega)), gg, Option.bind_some, gi_g_13 hG hn, Option.bind_some, c9, if_neg nD, ga_0_9 hS, Option.bind_some, Option.bind_some, vc_g (St_G43 hS) hn, ec, toV_v, Option.bind_some, ga_0_3 hS', Option.bind_some, pi_21_0 hS', Option.bind_some, e1, hr1, Option.bind_some]
          unfold F_X10_centuries_j130
          dsimp only
          rw [vc_0 hS', v_granted hS']
          rfl
        · unfold F_X11_centuries
          rw [pi_69_0 hS', hIb, Option.bind_some, v_in_0_1000000, rg_t (Nat.zero_le k) hk (by decide), toI_i, Option.bind_some, if_neg nbt]
          dsimp only
          rw [v_in_1_60, rg_t m1 m2 (by decide), toI_i, Option.bind_some, if_neg nbt]
          dsimp only
          rw [ga_69_3 hS', Option.bind_some, rd_71 hS' (by omega), Option.bind_some, i71, w2, if_neg nD, vc_69 hS', ek, toV_v, Option.bind_some, pj_69_52 hS', Option.bind_some, e2, hr2, Option.bind_some]
          unfold F_X11_centuries_j198
          dsimp only
          have q2 : Iz 71 2 = nI D := by rw [z71, t2 2 (by omega)]; exact w2
          have q1' : up2 Iz 69 54 (nI D) 71 1 = nI F := by rw [up2_na (by decide), z71, t2 1 (by omega)]; exact w1
          rw [e3, hr3, Option.bind_some, ga_69_3 hS', Option.bind_some, rd_71 hS' (by omega), Option.bind_some, q2, pi_69_54 hS', Option.bind_some, ga_69_3 hS', Option.bind_some, rd_71 hS' (by omega), Option.bind_some, q1', pi_69_55 hS', Option.bind_some, vc_69 hS', ep, toV_v, Option.bind_some, vc_69 hS', v_tell0 hS' (by omega)]
          rfl
        · have Mk : ∀ a, a ≠ 69 → a ≠ 71 → a ≠ 74 → a ≠ 90 → a ≠ 97 → up2 Ip 69 1 (nI 0) a = Ib a := fun a y1 y2 y3 y4 y5 => by rw [up2_off _ _ _ y1, p1 a y2, up2_off _ _ _ y1, up2_off _ _ _ y1, z1 a y5, yo.1 a y1 y2 y4, k1 a y3]
          have M69 : ∀ k, k ≠ 0 → k ≠ 1 → k ≠ 34 → k ≠ 38 → k ≠ 54 → k ≠ 55 → up2 Ip 69 1 (nI 0) 69 k = I 69 k := fun k y0 y1 y2 y3 y4 y5 => by rw [up2_nk y1, p1 69 (by decide), up2_nk y5, up2_nk y4, z1 69 (by decide), yo.2.1 k y2 y3, k1 69 (by decide)]; exact b2' k y0
          have M691 : up2 Ip 69 1 (nI 0) 69 1 = nI 0 := up2_at _ _ _ _
          have M6954 : up2 Ip 69 1 (nI 0) 69 54 = nI D := by rw [up2_nk (by decide), p1 69 (by decide), up2_nk (by decide), up2_at]
          have M6955 : up2 Ip 69 1 (nI 0) 69 55 = nI F := by rw [up2_nk (by decide), p1 69 (by decide), up2_at]
          have M97 : ∀ j, j < 31 → up2 Ip 69 1 (nI 0) 97 j = Ce.1 (6 + j) := fun j hj => by rw [up2_na (by decide), p1 97 (by decide), up2_na (by decide), up2_na (by decide), z2 j hj, y71]
          have M74 : ∀ j, j < 496 → up2 Ip 69 1 (nI 0) 74 j = I 74 j := fun j hj => by rw [up2_na (by decide), p1 74 (by decide), up2_na (by decide), up2_na (by decide), z1 74 (by decide), yo.1 74 (by decide) (by decide) (by decide), k3 j (by omega), b0 74 (by decide) (by decide) (by decide) (by decide) (by decide) (by decide) (by decide)]
          have M71 : up2 Ip 69 1 (nI 0) 71 = I 71 := by
            rw [up2_off _ _ _ (by decide)]
            funext j
            by_cases hj : 6 ≤ j ∧ j < 37
            · obtain ⟨i, rfl⟩ : ∃ i, j = 6 + i := ⟨j - 6, by omega⟩
              rw [p2 i (by omega), up2_na (by decide), up2_na (by decide), z1 74 (by decide), yo.1 74 (by decide) (by decide) (by decide), k2 i (by omega), i71]
            · rw [p3 j (by omega), up2_na (by decide), up2_na (by decide), z71]
              exact t2 j (by omega)
          generalize up2 Ip 69 1 (nI 0) = I3 at Mk M69 M691 M6954 M6955 M97 M74 M71 ⊢
          have Mo : ∀ a, (a < 43 ∨ 53 < a) → a ≠ 0 → a ≠ 69 → a ≠ 71 → a ≠ 74 → a ≠ 90 → a ≠ 97 → a ≠ 21 → a ≠ 28 → a ≠ 29 → a ≠ 31 → I3 a = I a := fun a y1 y2 y3 y4 y5 y6 y7 y8 y9 y10 y11 => (Mk a y3 y4 y5 y6 y7).trans (b0 a y1 y2 y3 y8 y9 y10 y11)
          have MX : ∀ a, (43 ≤ a ∧ a ≤ 53) → I3 a = Ix a := fun a y1 => (Mk a (by omega) (by omega) (by omega) (by omega) (by omega)).trans (b1' a y1)
          have M0 : ∀ k, k ≠ 16 → I3 0 k = I 0 k := fun k hk => by rw [Mk 0 (by decide) (by decide) (by decide) (by decide) (by decide)]; exact b3' k hk
          have M016 : I3 0 16 = nI 0 := by rw [Mk 0 (by decide) (by decide) (by decide) (by decide) (by decide)]; exact b4'
          obtain ⟨⟨s1, s2, s3⟩, s4, s5, s6, s7, s8, s9, s10, s11, s12⟩ := hI
          refine ⟨g, h, V, F, D, S, N, x, s, ⟨hS', by omega, by omega⟩, GH_R rr (by omega) s4, by rw [M71]; exact hw, ?_, ?_, Imgs_R rr hS' (by omega) s8 (fun a ha => Mo a (by omega) (by omega) (by omega) (by omega) (by omega) (by omega) (by omega) (by omega) (by omega) (by omega) (by omega)) (Or.inl rfl), ?_, ?_, ?_, ?_⟩
          · rw [M71]
            exact Gnd_R rr hS' (by decide) hgd hw (by omega) (by omega) (fun a ha => Mo a (by omega) (by omega) (by omega) (by omega) (by omega) (by omega) (by omega) (by omega) (by omega) (by omega) (by omega))
          · refine Und_74 s7 ?_ ?_ ?_ (M69 8 (by decide) (by decide) (by decide) (by decide) (by decide) (by decide)) M74 (fun j _ => ?_) M71 d8 f4
            · rw [Mo h (by omega) (by omega) (by omega) (by omega) (by omega) (by omega) (by omega) (by omega) (by omega) (by omega) (by omega)]
            · rw [Mo h (by omega) (by omega) (by omega) (by omega) (by omega) (by omega) (by omega) (by omega) (by omega) (by omega) (by omega)]
            · exact Mo (h + 1) (by omega) (by omega) (by omega) (by omega) (by omega) (by omega) (by omega) (by omega) (by omega) (by omega) (by omega)
            · rw [Mo 75 (by omega) (by omega) (by omega) (by omega) (by omega) (by omega) (by omega) (by omega) (by omega) (by omega) (by omega)]
          · unfold Tap at s9 ⊢
            rw [Mo 23 (by omega) (by omega) (by omega) (by omega) (by omega) (by omega) (by omega) (by omega) (by omega) (by omega) (by omega), Mo 78 (by omega) (by omega) (by omega) (by omega) (by omega) (by omega) (by omega) (by omega) (by omega) (by omega) (by omega), M0 12 (by decide), M69 13 (by decide) (by decide) (by decide) (by decide) (by decide) (by decide)]
            exact s9
          · rw [Mo 24 (by omega) (by omega) (by omega) (by omega) (by omega) (by omega) (by omega) (by omega) (by omega) (by omega) (by omega), Mo 70 (by omega) (by omega) (by omega) (by omega) (by omega) (by omega) (by omega) (by omega) (by omega) (by omega) (by omega)]
            refine ⟨⟨?_, ?_, ?_, ?_, ?_⟩, b6, b7, b8, b9, b10⟩
            · rw [M0 _ (by decide), M69 _ (by decide) (by decide) (by decide) (by decide) (by decide) (by decide)]
              exact b1
            · rw [M0 _ (by decide), M69 _ (by decide) (by decide) (by decide) (by decide) (by decide) (by decide)]
              exact b2
            · rw [M0 _ (by decide), M69 _ (by decide) (by decide) (by decide) (by decide) (by decide) (by decide)]
              exact b3
            · rw [M016, M691]
            · rw [M69 _ (by decide) (by decide) (by decide) (by decide) (by decide) (by decide)]
              exact b5
          · obtain ⟨⟨-, -, -, -, d5, -, d7, -, d9, -, d11, -⟩, e1', e2', e3', e4', e5', e6', e7', -⟩ := id gx
            refine ⟨D, F, d8, f4, by rw [MX 43 (by omega)]; exact d9, by rw [MX 43 (by omega)]; exact d7, Or.inr ⟨M6954, M6955, fun k hk => ⟨?_, ?_⟩, fun k hk => ?_⟩⟩
            · rw [MX 47 (by omega), M97 _ (by omega), show 6 + (3 + k) = 9 + k by omega]
              exact e6' k hk
            · rw [MX 48 (by omega), M97 _ (by omega), show 6 + (11 + k) = 17 + k by omega]
              exact e7' k hk
            · rw [MX 45 (by omega), M97 _ (by omega), show 6 + (27 + k) = 33 + k by omega]
              exact e4' k hk
          · exact Cns_J s12 (fun a ha => (yo.2.2 a ha).trans (up2_off _ _ _ (by omega)))
    · refine no ?_ ?_
      · unfold F_X10_centuries
        rw [if_neg (nI_pos (by omega)), if_neg nk]
        rcases hb2 with z | ⟨y1, y2, y3⟩
        · rw [if_pos z]
        · rw [if_neg y1, if_neg y2]
      · unfold F_X11_centuries
        rw [pi_69_0 hS, Option.bind_some, v_in_0_1000000, rg_t (Nat.zero_le k) hk (by decide), toI_i, Option.bind_some, if_neg nbt]
        dsimp only
        rw [v_in_1_60, hb, toI_i, Option.bind_some, if_pos (by rfl)]
  · refine no ?_ ?_
    · unfold F_X10_centuries
      rcases hb2 with z | ⟨y1, y2, y3⟩
      · rw [if_pos z]
      · rw [if_neg y1, if_pos (by rw [em]; exact y3)]
    · unfold F_X11_centuries
      rw [pi_69_0 hS, Option.bind_some, v_in_0_1000000, hb, toI_i, Option.bind_some, if_pos (by rfl)]
end CE3
