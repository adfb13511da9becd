/-! calls: terms, count -/
section B5
variable {O : mO} {c : Nat} {K : mH}
def hiT (k : Nat) : Nat := ([999, 10, 9] : List Nat).getD k 0
theorem rd_s1 {L : Nat} {xs : Nat → Int32} {k : Nat} (K : mH) (hk : k < 3) : rdI (mOl L xs) K (oB + 1) (nI k) = some (nI (hiT k)) := by
  match k, hk with
  | 0, _ => rfl
  | 1, _ => rfl
  | 2, _ => rfl
theorem ln_s1 {L : Nat} {xs : Nat → Int32} (K : mH) : lnA (mOl L xs) K (oB + 1) = some (nI 3) := rfl
theorem b_terms {L : Nat} {xs : Nat → Int32} {a1 a2 : Int32} (hO : O = mOl L xs) (hI : Inv c K) : Bo O Inv MX10_terms MX11_terms [.int a1, .int a2] c K := by
  subst hO
  obtain ⟨u, n, T, I, J, R, g, h, V, F, D, S, N, x, s, rfl, hI⟩ := hI
  obtain ⟨hS, hn, gg, hh, hG, hH, hw, hgd, hg⟩ := Iv_all hI
  obtain ⟨⟨v5, f4, d8, s8, n6⟩, ⟨w0, w1, w2, w3, w4⟩, hf, hs, hfam, hwi, hsn, hlw⟩ := hw
  obtain ⟨⟨c1, c2, c3, c4, c5, c6, c7, c8, c9, c10, c11, c12⟩, q1, q2, q3, q4, q5, q6, q7, q8, q9, q10, q11, ql⟩ := hgd
  obtain ⟨⟨b1, b2, b3, b4, b5⟩, b6, b7, b8, b9, b10⟩ := hI.2.2.2.2.2.2.2.1
  have hJ := hI.2.2.2.2.2.2.2.2.2
  have hu := hI.2.2.2.2.1
  have no : F_X10_terms_j25 (mOl L xs) 199 0 (hp u n T I J R) = some (-1, hp u n T (up2 (up2 I 0 16 (-1)) 24 0 (I 24 0 + nI 1)) J R) := by
    unfold F_X10_terms_j25
    simp (disch := first | assumption | omega) only [gg, hh, vc_0, ga_0_0, ga_0_1, ga_0_2, ga_0_3, ga_0_4, ga_0_5, ga_0_6, ga_0_7, ga_0_8, ga_0_9, gi_0_12, pi_0_12, gi_0_13, pi_0_13, gi_0_14, pi_0_14, gi_0_15, pi_0_15, gi_0_16, pi_0_16, rd_24, wr_24, ln_24, ga_g_1, ga_g_2, ga_g_3, ga_g_4, ga_g_5, ga_g_6, ga_g_7, ga_g_8, ga_g_9, ga_g_10, gi_g_11, pi_g_11, gi_g_12, pi_g_12, gi_g_13, pi_g_13, gi_g_14, pi_g_14, gi_g_15, pi_g_15, gi_g_16, pi_g_16, gi_g_17, pi_g_17, ga_g_0, vc_g, rd_g_1, wr_g_1, ln_g_1, rd_g_2, wr_g_2, ln_g_2, rd_g_3, wr_g_3, ln_g_3, rd_g_4, wr_g_4, ln_g_4, rd_g_5, wr_g_5, ln_g_5, rd_g_6, wr_g_6, ln_g_6, rd_g_7, wr_g_7, ln_g_7, rd_g_8, wr_g_8, ln_g_8, rd_g_9, wr_g_9, ln_g_9, rd_g_10, vc_h, gi_h_1, pi_h_1, gi_h_2, pi_h_2, v_granted, v_ref_1, v_ref_2, v_ref_3, v_ref_5, v_ref_6, v_hclear, Option.bind_some, toI_i, toJ_j, toV_v, toR_r, up2_at, up2_na, up2_nk, up2_off, nI_add, nI_mul, nI_leI, nI_ltI, nI_eq, bI_eq0]
  have nm : ∀ I1 : Nat → Nat → Int32, F_X11_terms_j60 (mOl L xs) 199 69 a1 a2 0 (hp u n T I1 J R) = some (-1, hp u n T (up2 (up2 I1 69 1 (-1)) 70 1 (I1 70 1 + nI 1)) J R) := by
    intro I1
    unfold F_X11_terms_j60
    simp (disch := first | assumption | omega) only [vc_69, gi_69_0, pi_69_0, gi_69_1, pi_69_1, ga_69_2, ga_69_3, ga_69_4, ga_69_5, ga_69_6, ga_69_7, gi_69_8, pi_69_8, ga_69_9, ga_69_10, gi_69_11, pi_69_11, ga_69_12, gi_69_13, pi_69_13, gi_69_14, pi_69_14, gi_69_15, pi_69_15, gi_69_16, pi_69_16, gj_69_17, pj_69_17, gi_69_18, pi_69_18, gi_69_19, pi_69_19, gi_69_20, pi_69_20, gi_69_21, pi_69_21, ga_69_22, gi_69_23, pi_69_23, ga_69_24, ga_69_25, gi_69_26, pi_69_26, ga_69_27, ga_69_28, gi_69_29, pi_69_29, gi_69_30, pi_69_30, ga_69_31, ga_69_32, ga_69_33, gi_69_34, pi_69_34, ga_69_35, ga_69_36, ga_69_37, gi_69_38, pi_69_38, gj_69_39, pj_69_39, gj_69_40, pj_69_40, ga_69_41, ga_69_42, ga_69_43, ga_69_44, ga_69_45, ga_69_46, ga_69_47, gi_69_48, pi_69_48, gi_69_49, pi_69_49, gi_69_50, pi_69_50, gi_69_51, pi_69_51, gj_69_52, pj_69_52, ga_69_53, gi_69_54, pi_69_54, gi_69_55, pi_69_55, rd_70, wr_70, ln_70, rd_71, wr_71, ln_71, rd_74, wr_74, ln_74, rd_75, wr_75, ln_75, v_tell_1, v_tell_2, v_tell_3, v_tell_5, v_tell_6, v_tell0, v_change, v_settled0, Option.bind_some, toI_i, toJ_j, toV_v, toR_r, up2_at, up2_na, up2_nk, up2_off, nI_add, nI_mul, nI_leI, nI_ltI, nI_eq, bI_eq0]
    rw [if_pos trivial]
  have bad : F_X10_terms (mOl L xs) 199 0 a1 a2 (hp u n T I J R) = F_X10_terms_j25 (mOl L xs) 199 0 (hp u n T I J R) → (∀ I1 : Nat → Nat → Int32, F_X11_terms (mOl L xs) 199 69 a1 a2 (hp u n T I1 J R) = F_X11_terms_j60 (mOl L xs) 199 69 a1 a2 0 (hp u n T (up2 I1 69 0 (nI 0)) J R)) → Bo (mOl L xs) Inv MX10_terms MX11_terms [.int a1, .int a2] c (hp u n T I J R) := by
    intro h1 h2
    refine Bo_i (u1 := u) (J1 := J) (J2 := J) (e_X10_terms (d := 199) (h1.trans no)) hS (e_X11_terms (d := 199) ?_) (Iv_ref hI (-1) (Or.inl ⟨rfl, rfl⟩)).e
    rw [h2, nm]
    (try simp (disch := omega) only [up2_at, up2_na, up2_nk, up2_off])
  rcases arg_0 a1 (hi := 2) (by decide) with ⟨k, hk, rfl⟩ | ⟨hb, hb2⟩
  · have h3 : hiT k < 2 ^ 31 := by
      have : ∀ k, k ≤ 2 → hiT k < 2 ^ 31 := by decide
      exact this k hk
    have jj : ∀ I1 : Nat → Nat → Int32, F_X11_terms (mOl L xs) 199 69 (nI k) a2 (hp u n T I1 J R) = F_X11_terms_j60 (mOl L xs) 199 69 (nI k) a2 (bI (rg a2 0 (hiT k))) (hp u n T (up2 I1 69 0 (nI 0)) J R) := by
      intro I1
      unfold F_X11_terms
      have hk3 : k = 0 ∨ k = 1 ∨ k = 2 := by omega
      rcases hk3 with rfl | rfl | rfl
      · simp (disch := first | assumption | omega) only [vc_69, gi_69_0, pi_69_0, gi_69_1, pi_69_1, ga_69_2, ga_69_3, ga_69_4, ga_69_5, ga_69_6, ga_69_7, gi_69_8, pi_69_8, ga_69_9, ga_69_10, gi_69_11, pi_69_11, ga_69_12, gi_69_13, pi_69_13, gi_69_14, pi_69_14, gi_69_15, pi_69_15, gi_69_16, pi_69_16, gj_69_17, pj_69_17, gi_69_18, pi_69_18, gi_69_19, pi_69_19, gi_69_20, pi_69_20, gi_69_21, pi_69_21, ga_69_22, gi_69_23, pi_69_23, ga_69_24, ga_69_25, gi_69_26, pi_69_26, ga_69_27, ga_69_28, gi_69_29, pi_69_29, gi_69_30, pi_69_30, ga_69_31, ga_69_32, ga_69_33, gi_69_34, pi_69_34, ga_69_35, ga_69_36, ga_69_37, gi_69_38, pi_69_38, gj_69_39, pj_69_39, gj_69_40, pj_69_40, ga_69_41, ga_69_42, ga_69_43, ga_69_44, ga_69_45, ga_69_46, ga_69_47, gi_69_48, pi_69_48, gi_69_49, pi_69_49, gi_69_50, pi_69_50, gi_69_51, pi_69_51, gj_69_52, pj_69_52, ga_69_53, gi_69_54, pi_69_54, gi_69_55, pi_69_55, rd_70, wr_70, ln_70, rd_71, wr_71, ln_71, rd_74, wr_74, ln_74, rd_75, wr_75, ln_75, v_tell_1, v_tell_2, v_tell_3, v_tell_5, v_tell_6, v_tell0, v_change, v_settled0, Option.bind_some, toI_i, toJ_j, toV_v, toR_r, up2_at, up2_na, up2_nk, up2_off, nI_add, nI_mul, nI_leI, nI_ltI, nI_eq, bI_eq0, v_in_0_999]
        rw [if_pos (by decide)]
        rfl
      · simp (disch := first | assumption | omega) only [vc_69, gi_69_0, pi_69_0, gi_69_1, pi_69_1, ga_69_2, ga_69_3, ga_69_4, ga_69_5, ga_69_6, ga_69_7, gi_69_8, pi_69_8, ga_69_9, ga_69_10, gi_69_11, pi_69_11, ga_69_12, gi_69_13, pi_69_13, gi_69_14, pi_69_14, gi_69_15, pi_69_15, gi_69_16, pi_69_16, gj_69_17, pj_69_17, gi_69_18, pi_69_18, gi_69_19, pi_69_19, gi_69_20, pi_69_20, gi_69_21, pi_69_21, ga_69_22, gi_69_23, pi_69_23, ga_69_24, ga_69_25, gi_69_26, pi_69_26, ga_69_27, ga_69_28, gi_69_29, pi_69_29, gi_69_30, pi_69_30, ga_69_31, ga_69_32, ga_69_33, gi_69_34, pi_69_34, ga_69_35, ga_69_36, ga_69_37, gi_69_38, pi_69_38, gj_69_39, pj_69_39, gj_69_40, pj_69_40, ga_69_41, ga_69_42, ga_69_43, ga_69_44, ga_69_45, ga_69_46, ga_69_47, gi_69_48, pi_69_48, gi_69_49, pi_69_49, gi_69_50, pi_69_50, gi_69_51, pi_69_51, gj_69_52, pj_69_52, ga_69_53, gi_69_54, pi_69_54, gi_69_55, pi_69_55, rd_70, wr_70, ln_70, rd_71, wr_71, ln_71, rd_74, wr_74, ln_74, rd_75, wr_75, ln_75, v_tell_1, v_tell_2, v_tell_3, v_tell_5, v_tell_6, v_tell0, v_change, v_settled0, Option.bind_some, toI_i, toJ_j, toV_v, toR_r, up2_at, up2_na, up2_nk, up2_off, nI_add, nI_mul, nI_leI, nI_ltI, nI_eq, bI_eq0, v_in_0_10]
        rw [if_neg (by decide), if_pos trivial]
        rfl
      · simp (disch := first | assumption | omega) only [vc_69, gi_69_0, pi_69_0, gi_69_1, pi_69_1, ga_69_2, ga_69_3, ga_69_4, ga_69_5, ga_69_6, ga_69_7, gi_69_8, pi_69_8, ga_69_9, ga_69_10, gi_69_11, pi_69_11, ga_69_12, gi_69_13, pi_69_13, gi_69_14, pi_69_14, gi_69_15, pi_69_15, gi_69_16, pi_69_16, gj_69_17, pj_69_17, gi_69_18, pi_69_18, gi_69_19, pi_69_19, gi_69_20, pi_69_20, gi_69_21, pi_69_21, ga_69_22, gi_69_23, pi_69_23, ga_69_24, ga_69_25, gi_69_26, pi_69_26, ga_69_27, ga_69_28, gi_69_29, pi_69_29, gi_69_30, pi_69_30, ga_69_31, ga_69_32, ga_69_33, gi_69_34, pi_69_34, ga_69_35, ga_69_36, ga_69_37, gi_69_38, pi_69_38, gj_69_39, pj_69_39, gj_69_40, pj_69_40, ga_69_41, ga_69_42, ga_69_43, ga_69_44, ga_69_45, ga_69_46, ga_69_47, gi_69_48, pi_69_48, gi_69_49, pi_69_49, gi_69_50, pi_69_50, gi_69_51, pi_69_51, gj_69_52, pj_69_52, ga_69_53, gi_69_54, pi_69_54, gi_69_55, pi_69_55, rd_70, wr_70, ln_70, rd_71, wr_71, ln_71, rd_74, wr_74, ln_74, rd_75, wr_75, ln_75, v_tell_1, v_tell_2, v_tell_3, v_tell_5, v_tell_6, v_tell0, v_change, v_settled0, Option.bind_some, toI_i, toJ_j, toV_v, toR_r, up2_at, up2_na, up2_nk, up2_off, nI_add, nI_mul, nI_leI, nI_ltI, nI_eq, bI_eq0, v_in_0_9]
        rw [if_neg (by decide), if_neg (by decide), if_pos trivial]
        show F_X11_terms_j60 _ _ _ _ _ (if rg a2 0 9 = false then _ else _) _ = F_X11_terms_j60 _ _ _ _ _ (bI (rg a2 0 9)) _
        cases rg a2 0 9 <;> rfl
    rcases arg_0 a2 (hi := hiT k) h3 with ⟨b, hb, rfl⟩ | ⟨hb, hb2⟩
    · refine Bo_i (u1 := u) (a := I 71 (6 + k)) (I1 := up2 (up2 (up2 I (g + 9) k (nI b)) h 2 (nI 0)) 0 16 (nI 0)) (J1 := J) (I2 := up2 (up2 (up2 (up2 (up2 (up2 (up2 I (g + 9) k (nI b)) h 2 (nI 0)) 0 16 (nI 0)) 69 0 (nI 0)) 69 8 (nI 0)) 71 (6 + k) (nI b)) 69 1 (nI 0)) (J2 := J) (e_X10_terms (d := 199) ?_) hS (e_X11_terms (d := 199) ?_) ?_
      · unfold F_X10_terms
        rw [if_neg (nI_pos (by omega)), ln_s1, Option.bind_some, if_neg (nI_ge (by omega) (by omega)), if_neg (nI_pos (by omega)), rd_s1 _ (by omega), Option.bind_some, if_pos (nI_le hb h3)]
        simp (disch := first | assumption | omega) only [gg, hh, vc_0, ga_0_0, ga_0_1, ga_0_2, ga_0_3, ga_0_4, ga_0_5, ga_0_6, ga_0_7, ga_0_8, ga_0_9, gi_0_12, pi_0_12, gi_0_13, pi_0_13, gi_0_14, pi_0_14, gi_0_15, pi_0_15, gi_0_16, pi_0_16, rd_24, wr_24, ln_24, ga_g_1, ga_g_2, ga_g_3, ga_g_4, ga_g_5, ga_g_6, ga_g_7, ga_g_8, ga_g_9, ga_g_10, gi_g_11, pi_g_11, gi_g_12, pi_g_12, gi_g_13, pi_g_13, gi_g_14, pi_g_14, gi_g_15, pi_g_15, gi_g_16, pi_g_16, gi_g_17, pi_g_17, ga_g_0, vc_g, rd_g_1, wr_g_1, ln_g_1, rd_g_2, wr_g_2, ln_g_2, rd_g_3, wr_g_3, ln_g_3, rd_g_4, wr_g_4, ln_g_4, rd_g_5, wr_g_5, ln_g_5, rd_g_6, wr_g_6, ln_g_6, rd_g_7, wr_g_7, ln_g_7, rd_g_8, wr_g_8, ln_g_8, rd_g_9, wr_g_9, ln_g_9, rd_g_10, vc_h, gi_h_1, pi_h_1, gi_h_2, pi_h_2, v_granted, v_ref_1, v_ref_2, v_ref_3, v_ref_5, v_ref_6, v_hclear, Option.bind_some, toI_i, toJ_j, toV_v, toR_r, up2_at, up2_na, up2_nk, up2_off, nI_add, nI_mul, nI_leI, nI_ltI, nI_eq, bI_eq0, q10 k (by omega)]
      · rw [jj]
        unfold F_X11_terms_j60
        rw [rg_t (Nat.zero_le b) hb h3]
        simp (disch := first | assumption | omega) only [vc_69, gi_69_0, pi_69_0, gi_69_1, pi_69_1, ga_69_2, ga_69_3, ga_69_4, ga_69_5, ga_69_6, ga_69_7, gi_69_8, pi_69_8, ga_69_9, ga_69_10, gi_69_11, pi_69_11, ga_69_12, gi_69_13, pi_69_13, gi_69_14, pi_69_14, gi_69_15, pi_69_15, gi_69_16, pi_69_16, gj_69_17, pj_69_17, gi_69_18, pi_69_18, gi_69_19, pi_69_19, gi_69_20, pi_69_20, gi_69_21, pi_69_21, ga_69_22, gi_69_23, pi_69_23, ga_69_24, ga_69_25, gi_69_26, pi_69_26, ga_69_27, ga_69_28, gi_69_29, pi_69_29, gi_69_30, pi_69_30, ga_69_31, ga_69_32, ga_69_33, gi_69_34, pi_69_34, ga_69_35, ga_69_36, ga_69_37, gi_69_38, pi_69_38, gj_69_39, pj_69_39, gj_69_40, pj_69_40, ga_69_41, ga_69_42, ga_69_43, ga_69_44, ga_69_45, ga_69_46, ga_69_47, gi_69_48, pi_69_48, gi_69_49, pi_69_49, gi_69_50, pi_69_50, gi_69_51, pi_69_51, gj_69_52, pj_69_52, ga_69_53, gi_69_54, pi_69_54, gi_69_55, pi_69_55, rd_70, wr_70, ln_70, rd_71, wr_71, ln_71, rd_74, wr_74, ln_74, rd_75, wr_75, ln_75, v_tell_1, v_tell_2, v_tell_3, v_tell_5, v_tell_6, v_tell0, v_change, v_settled0, Option.bind_some, toI_i, toJ_j, toV_v, toR_r, up2_at, up2_na, up2_nk, up2_off, nI_add, nI_mul, nI_leI, nI_ltI, nI_eq, bI_eq0]
        rw [if_neg (by decide)]
      · have hx := hu.1
        refine (Iv_ch hI (x' := x) (s' := 0) (fun a ha => by (try simp (disch := omega) only [up2_at, up2_na, up2_nk, up2_off])) (by (try simp (disch := omega) only [up2_at, up2_na, up2_nk, up2_off])) (by (try simp (disch := omega) only [up2_at, up2_na, up2_nk, up2_off])) (by (try simp (disch := omega) only [up2_at, up2_na, up2_nk, up2_off])) (by (try simp (disch := omega) only [up2_at, up2_na, up2_nk, up2_off])) ⟨⟨v5, f4, d8, s8, n6⟩, ⟨by (try simp (disch := omega) only [up2_at, up2_na, up2_nk, up2_off]); exact w0, by (try simp (disch := omega) only [up2_at, up2_na, up2_nk, up2_off]); exact w1, by (try simp (disch := omega) only [up2_at, up2_na, up2_nk, up2_off]); exact w2, by (try simp (disch := omega) only [up2_at, up2_na, up2_nk, up2_off]); exact w3, by (try simp (disch := omega) only [up2_at, up2_na, up2_nk, up2_off]); exact w4⟩, by (try simp (disch := omega) only [up2_at, up2_na, up2_nk, up2_off]); exact hf, ?_, fun k hk => by (try simp (disch := omega) only [up2_at, up2_na, up2_nk, up2_off]); exact hfam k hk, fun d v hd hv => by (try simp (disch := omega) only [up2_at, up2_na, up2_nk, up2_off]); exact hwi d v hd hv, fun k hk => by (try simp (disch := omega) only [up2_at, up2_na, up2_nk, up2_off]); exact hsn k hk, fun l hl => LwM_cg (fun i hi => by (try simp (disch := omega) only [up2_at, up2_na, up2_nk, up2_off])) (by omega) (hlw l hl)⟩ ⟨⟨c1, c2, c3, c4, by (try simp (disch := omega) only [up2_at, up2_na, up2_nk, up2_off]); exact c5, c6, by (try simp (disch := omega) only [up2_at, up2_na, up2_nk, up2_off]); exact c7, c8, by (try simp (disch := omega) only [up2_at, up2_na, up2_nk, up2_off]); exact c9, c10, by (try simp (disch := omega) only [up2_at, up2_na, up2_nk, up2_off]); exact c11, c12⟩, by (try simp (disch := omega) only [up2_at, up2_na, up2_nk, up2_off]); exact q1, by (try simp (disch := omega) only [up2_at, up2_na, up2_nk, up2_off]); exact q2, fun k hk => by (try simp (disch := omega) only [up2_at, up2_na, up2_nk, up2_off]); exact q3 k hk, fun k hk => by (try simp (disch := omega) only [up2_at, up2_na, up2_nk, up2_off]); exact q4 k hk, fun k hk => by (try simp (disch := omega) only [up2_at, up2_na, up2_nk, up2_off]); exact q5 k hk, fun k hk => by (try simp (disch := omega) only [up2_at, up2_na, up2_nk, up2_off]); exact q6 k hk, fun k hk => by (try simp (disch := omega) only [up2_at, up2_na, up2_nk, up2_off]); exact q7 k hk, fun d v hd hv => by (try simp (disch := omega) only [up2_at, up2_na, up2_nk, up2_off]); exact q8 d v hd hv, fun k hk => by (try simp (disch := omega) only [up2_at, up2_na, up2_nk, up2_off]); exact q9 k hk, ?_, fun k hk => by (try simp (disch := omega) only [up2_at, up2_na, up2_nk, up2_off]); exact q11 k hk, Lws_cg ql (fun i hi => by (try simp (disch := omega) only [up2_at, up2_na, up2_nk, up2_off])) (fun a ha => by (try simp (disch := omega) only [up2_at, up2_na, up2_nk, up2_off]))⟩ (Und_0 (by (try simp (disch := omega) only [up2_at, up2_na, up2_nk, up2_off]); exact hx.1) hx.2.1 (by (try simp (disch := omega) only [up2_at, up2_na, up2_nk, up2_off])) (by (try simp (disch := omega) only [up2_at, up2_na, up2_nk, up2_off]))) ⟨⟨by (try simp (disch := omega) only [up2_at, up2_na, up2_nk, up2_off]); exact b1, by (try simp (disch := omega) only [up2_at, up2_na, up2_nk, up2_off]); exact b2, by (try simp (disch := omega) only [up2_at, up2_na, up2_nk, up2_off]); exact b3, by (try simp (disch := omega) only [up2_at, up2_na, up2_nk, up2_off]), by (try simp (disch := omega) only [up2_at, up2_na, up2_nk, up2_off]); exact b5⟩, by (try simp (disch := omega) only [up2_at, up2_na, up2_nk, up2_off]); exact b6, by (try simp (disch := omega) only [up2_at, up2_na, up2_nk, up2_off]); exact b7, by (try simp (disch := omega) only [up2_at, up2_na, up2_nk, up2_off]); exact b8, by (try simp (disch := omega) only [up2_at, up2_na, up2_nk, up2_off]); exact b9, by (try simp (disch := omega) only [up2_at, up2_na, up2_nk, up2_off]); exact b10⟩ hJ).e
        · obtain ⟨s1, s2, s3, s4, s5, s6, s7⟩ := hs
          have hk3 : k = 0 ∨ k = 1 ∨ k = 2 := by omega
          refine ⟨?_, ?_, ?_, fun k hk => by (try simp (disch := omega) only [up2_at, up2_na, up2_nk, up2_off]); exact s4 k hk, fun k hk => by (try simp (disch := omega) only [up2_at, up2_na, up2_nk, up2_off]); exact s5 k hk, fun k hk => by (try simp (disch := omega) only [up2_at, up2_na, up2_nk, up2_off]); exact s6 k hk, fun v hv => by rw [cnt_cg (w := fun j => I 71 (9 + j)) (fun j hj => by (try simp (disch := omega) only [up2_at, up2_na, up2_nk, up2_off]))]; (try simp (disch := omega) only [up2_at, up2_na, up2_nk, up2_off]); exact s7 v hv⟩
          · rcases hk3 with rfl | rfl | rfl
            · (try simp (disch := omega) only [up2_at, up2_na, up2_nk, up2_off])
              exact ⟨b, hb, rfl⟩
            · (try simp (disch := omega) only [up2_at, up2_na, up2_nk, up2_off])
              exact s1
            · (try simp (disch := omega) only [up2_at, up2_na, up2_nk, up2_off])
              exact s1
          · rcases hk3 with rfl | rfl | rfl
            · (try simp (disch := omega) only [up2_at, up2_na, up2_nk, up2_off])
              exact s2
            · (try simp (disch := omega) only [up2_at, up2_na, up2_nk, up2_off])
              exact ⟨b, hb, rfl⟩
            · (try simp (disch := omega) only [up2_at, up2_na, up2_nk, up2_off])
              exact s2
          · rcases hk3 with rfl | rfl | rfl
            · (try simp (disch := omega) only [up2_at, up2_na, up2_nk, up2_off])
              exact s3
            · (try simp (disch := omega) only [up2_at, up2_na, up2_nk, up2_off])
              exact s3
            · (try simp (disch := omega) only [up2_at, up2_na, up2_nk, up2_off])
              exact ⟨b, hb, rfl⟩
        · intro j hj
          by_cases e : j = k
          · subst e
            (try simp (disch := omega) only [up2_at, up2_na, up2_nk, up2_off])
          · (try simp (disch := omega) only [up2_at, up2_na, up2_nk, up2_off])
            exact q10 j hj
    · refine bad ?_ ?_
      · unfold F_X10_terms
        rw [if_neg (nI_pos (by omega)), ln_s1, Option.bind_some, if_neg (nI_ge (by omega) (by omega)), rd_s1 _ (by omega), Option.bind_some]
        rcases hb2 with hb2 | ⟨h1, h2, h3⟩
        · rw [if_pos hb2]
        · rw [if_neg h1, if_neg h2]
      · intro I1
        rw [jj, hb]
        rfl
  · refine bad ?_ ?_
    · unfold F_X10_terms
      rw [ln_s1, Option.bind_some]
      rcases hb2 with hb2 | ⟨h1, h2, h3⟩
      · rw [if_pos hb2]
      · rw [if_neg h1, if_pos (show nI 3 ≤ a1 from Int32.le_iff_toInt_le.mpr (by have := Int32.lt_iff_toInt_lt.mp h3; rw [nI_toInt (by decide)] at this ⊢; omega))]
    · intro I1
      have hne : ∀ k, k ≤ 2 → ¬ a1 = nI k := by
        intro k hk e
        rw [e, rg_t (Nat.zero_le k) hk (by decide)] at hb
        cases hb
      unfold F_X11_terms F_X11_terms_j59
      simp (disch := first | assumption | omega) only [vc_69, gi_69_0, pi_69_0, gi_69_1, pi_69_1, ga_69_2, ga_69_3, ga_69_4, ga_69_5, ga_69_6, ga_69_7, gi_69_8, pi_69_8, ga_69_9, ga_69_10, gi_69_11, pi_69_11, ga_69_12, gi_69_13, pi_69_13, gi_69_14, pi_69_14, gi_69_15, pi_69_15, gi_69_16, pi_69_16, gj_69_17, pj_69_17, gi_69_18, pi_69_18, gi_69_19, pi_69_19, gi_69_20, pi_69_20, gi_69_21, pi_69_21, ga_69_22, gi_69_23, pi_69_23, ga_69_24, ga_69_25, gi_69_26, pi_69_26, ga_69_27, ga_69_28, gi_69_29, pi_69_29, gi_69_30, pi_69_30, ga_69_31, ga_69_32, ga_69_33, gi_69_34, pi_69_34, ga_69_35, ga_69_36, ga_69_37, gi_69_38, pi_69_38, gj_69_39, pj_69_39, gj_69_40, pj_69_40, ga_69_41, ga_69_42, ga_69_43, ga_69_44, ga_69_45, ga_69_46, ga_69_47, gi_69_48, pi_69_48, gi_69_49, pi_69_49, gi_69_50, pi_69_50, gi_69_51, pi_69_51, gj_69_52, pj_69_52, ga_69_53, gi_69_54, pi_69_54, gi_69_55, pi_69_55, rd_70, wr_70, ln_70, rd_71, wr_71, ln_71, rd_74, wr_74, ln_74, rd_75, wr_75, ln_75, v_tell_1, v_tell_2, v_tell_3, v_tell_5, v_tell_6, v_tell0, v_change, v_settled0, Option.bind_some, toI_i, toJ_j, toV_v, toR_r, up2_at, up2_na, up2_nk, up2_off, nI_add, nI_mul, nI_leI, nI_ltI, nI_eq, bI_eq0]
      rw [if_neg (show ¬ a1 = 0 from hne 0 (by decide)), if_neg (hne 1 (by decide)), if_neg (hne 2 (by decide))]
      rfl
/-- how many are in -/
theorem cnt_in {w : Nat → Int32} : ∀ {D : Nat}, cnt w (-1) D ≤ D
  | 0 => Nat.le_refl 0
  | D + 1 => by
    have := cnt_in (w := w) (D := D)
    unfold cnt
    split <;> omega
theorem cnt_s (w : Nat → Int32) (v : Int32) (k : Nat) : cnt w v (k + 1) = if w k = v then cnt w v k + 1 else cnt w v k := rfl
theorem v_insideNow {u n : Nat} {T : Nat → mT} {I : Nat → Nat → Int32} {J : Nat → Nat → Int64} {R : Nat → Nat → Option Nat} {D d : Nat} (hS : St n T R) (hD : I 71 2 = nI D) (h8 : D ≤ 8) : ev O (d + 1) MX11_insideNow [.ref 69] (hp u n T I J R) = some (some (.int (nI (D - cnt (fun j => I 71 (9 + j)) (-1) D))), hp u n T I J R) := by
  refine e_X11_insideNow ?_
  unfold F_X11_insideNow
  refine lup_b (fun k => (nI (k - cnt (fun j => I 71 (9 + j)) (-1) k), nI k, hp u n T I J R)) (nI (D - cnt (fun j => I 71 (9 + j)) (-1) D), hp u n T I J R) D (by omega) rfl ?_ ?_ rfl
  · intro k hk
    unfold F_X11_insideNow_l4
    simp (disch := first | assumption | omega) only [vc_69, gi_69_0, pi_69_0, gi_69_1, pi_69_1, ga_69_2, ga_69_3, ga_69_4, ga_69_5, ga_69_6, ga_69_7, gi_69_8, pi_69_8, ga_69_9, ga_69_10, gi_69_11, pi_69_11, ga_69_12, gi_69_13, pi_69_13, gi_69_14, pi_69_14, gi_69_15, pi_69_15, gi_69_16, pi_69_16, gj_69_17, pj_69_17, gi_69_18, pi_69_18, gi_69_19, pi_69_19, gi_69_20, pi_69_20, gi_69_21, pi_69_21, ga_69_22, gi_69_23, pi_69_23, ga_69_24, ga_69_25, gi_69_26, pi_69_26, ga_69_27, ga_69_28, gi_69_29, pi_69_29, gi_69_30, pi_69_30, ga_69_31, ga_69_32, ga_69_33, gi_69_34, pi_69_34, ga_69_35, ga_69_36, ga_69_37, gi_69_38, pi_69_38, gj_69_39, pj_69_39, gj_69_40, pj_69_40, ga_69_41, ga_69_42, ga_69_43, ga_69_44, ga_69_45, ga_69_46, ga_69_47, gi_69_48, pi_69_48, gi_69_49, pi_69_49, gi_69_50, pi_69_50, gi_69_51, pi_69_51, gj_69_52, pj_69_52, ga_69_53, gi_69_54, pi_69_54, gi_69_55, pi_69_55, rd_70, wr_70, ln_70, rd_71, wr_71, ln_71, rd_74, wr_74, ln_74, rd_75, wr_75, ln_75, v_tell_1, v_tell_2, v_tell_3, v_tell_5, v_tell_6, v_tell0, v_change, v_settled0, Option.bind_some, toI_i, toJ_j, toV_v, toR_r, up2_at, up2_na, up2_nk, up2_off, nI_add, nI_mul, nI_leI, nI_ltI, nI_eq, bI_eq0, hD, v_isIn]
    rw [if_neg (by omega)]
    have hc := cnt_in (w := fun j => I 71 (9 + j)) (D := k)
    rw [cnt_s]
    by_cases e : I 71 (9 + k) = -1
    · rw [if_pos e, if_pos (decide_eq_false (fun z => z e)), nI_add]
      rw [show k - cnt (fun j => I 71 (9 + j)) (-1) k + 0 = k + 1 - (cnt (fun j => I 71 (9 + j)) (-1) k + 1) by omega]
    · rw [if_neg e, if_neg (by rw [decide_eq_true e]; decide), nI_add]
      rw [show k - cnt (fun j => I 71 (9 + j)) (-1) k + 1 = k + 1 - (cnt (fun j => I 71 (9 + j)) (-1) k) by omega]
  · unfold F_X11_insideNow_l4
    simp (disch := first | assumption | omega) only [vc_69, gi_69_0, pi_69_0, gi_69_1, pi_69_1, ga_69_2, ga_69_3, ga_69_4, ga_69_5, ga_69_6, ga_69_7, gi_69_8, pi_69_8, ga_69_9, ga_69_10, gi_69_11, pi_69_11, ga_69_12, gi_69_13, pi_69_13, gi_69_14, pi_69_14, gi_69_15, pi_69_15, gi_69_16, pi_69_16, gj_69_17, pj_69_17, gi_69_18, pi_69_18, gi_69_19, pi_69_19, gi_69_20, pi_69_20, gi_69_21, pi_69_21, ga_69_22, gi_69_23, pi_69_23, ga_69_24, ga_69_25, gi_69_26, pi_69_26, ga_69_27, ga_69_28, gi_69_29, pi_69_29, gi_69_30, pi_69_30, ga_69_31, ga_69_32, ga_69_33, gi_69_34, pi_69_34, ga_69_35, ga_69_36, ga_69_37, gi_69_38, pi_69_38, gj_69_39, pj_69_39, gj_69_40, pj_69_40, ga_69_41, ga_69_42, ga_69_43, ga_69_44, ga_69_45, ga_69_46, ga_69_47, gi_69_48, pi_69_48, gi_69_49, pi_69_49, gi_69_50, pi_69_50, gi_69_51, pi_69_51, gj_69_52, pj_69_52, ga_69_53, gi_69_54, pi_69_54, gi_69_55, pi_69_55, rd_70, wr_70, ln_70, rd_71, wr_71, ln_71, rd_74, wr_74, ln_74, rd_75, wr_75, ln_75, v_tell_1, v_tell_2, v_tell_3, v_tell_5, v_tell_6, v_tell0, v_change, v_settled0, Option.bind_some, toI_i, toJ_j, toV_v, toR_r, up2_at, up2_na, up2_nk, up2_off, nI_add, nI_mul, nI_leI, nI_ltI, nI_eq, bI_eq0, hD]
    rw [if_pos (Nat.le_refl D)]
end B5
