/-! calls: back -/
section BK
variable {O : mO} {c d u n : Nat} {T : Nat → mT} {I I' : Nat → Nat → Int32} {J : Nat → Nat → Int64} {R R' : Nat → Nat → Option Nat} {g h p V F D S N x s k : Nat} {w w' : Nat → Int32} {K : mH}
theorem RfL_10 : ∀ p ∈ RfL, p.1 ≠ 42 ∧ p.1 ≠ 53 ∧ p.1 ≠ 68 := by decide
theorem St_R (hr : RdG g R R') (hg : g = 32 ∨ g = 43 ∨ g = 58) (hS : St n T R) : St n T R' := by
  refine ⟨hS.1, hS.2.1, fun p hp => ?_⟩
  have := RfL_10 p hp
  rw [hr p.1 (by omega)]
  exact hS.2.2 p hp
theorem GH_R {g0 : Nat} (hr : RdG g0 R R') (hg : g0 = 32 ∨ g0 = 43 ∨ g0 = 58) (hG : GH R g h) : GH R' g h := by
  unfold GH at hG ⊢
  rw [hr 54 (by omega), hr 0 (by omega)]
  exact hG
/-- a ground that is not changed, where another's laws lead elsewhere -/
theorem Gnd_R {g0 : Nat} (hr : RdG g0 R R') (hS : St n T R') (h0 : g0 + 10 < 98) (hG : Gnd n T I R p w V F D S N) (hw : Wf w V F D S N) (hp : p ≠ g0) (hpa : p ≠ g0 + 10) (hI : ∀ a, (p ≤ a ∧ a ≤ p + 10) ∨ 98 ≤ a → I' a = I a) : Gnd n T I' R' p w V F D S N := by
  refine Gnd_B hG hw (fun _ _ => rfl) (St_C hS) (IsG_R hr hG.1.2.1 hpa) hG.1.2.2.1 (by rw [hr p hpa]; exact hG.1.2.2.2.1) (fun k _ _ => by rw [hI p (by omega)]) (fun k _ => by rw [hI _ (by omega)]) (fun k _ => by rw [hI _ (by omega)]) (fun k _ => by rw [hI _ (by omega)]) (fun k _ => by rw [hI _ (by omega)]) (fun k _ => by rw [hI _ (by omega)]) (fun k _ => by rw [hI _ (by omega)]) (fun k _ => by rw [hI _ (by omega)]) (fun k _ => by rw [hI _ (by omega)]) (fun k _ => by rw [hI _ (by omega)]) (fun l _ => by rw [hr (p + 10) (by omega)]) (fun a ha => hI a (by omega)) (fun a ha => hr a (by omega))
theorem Imgs_R {g0 : Nat} (hr : RdG g0 R R') (hS : St n T R') (h0 : g0 = 32 ∨ g0 = 43 ∨ g0 = 58) (hM : Imgs n T I R) (hI : ∀ a, a = 72 ∨ a = 73 ∨ 98 ≤ a → I' a = I a) (hg : g0 = 43 ∨ RfG n T R' g0) : Imgs n T I' R' := by
  have r25 : R' 25 = R 25 := hr 25 (by omega)
  have one : ∀ k, Img n T I R k → Img n T I' R' k := by
    intro k hk
    unfold Img at hk ⊢
    rw [r25, hI 72 (by omega), hI 73 (by omega)]
    rcases hk with hk | ⟨h1, p, V, F, D, S, N, h2, h3, h4, h5⟩
    · exact Or.inl hk
    · exact Or.inr ⟨h1, p, V, F, D, S, N, h2, h3, Gnd_R hr hS (by omega) h4 h5 (by omega) (by omega) (fun a ha => hI a (by omega)), h5⟩
  have big : ∀ k q, Img n T I R k → R 25 k = some q → 97 < q := by
    intro k q hk hq
    rcases hk with ⟨-, z⟩ | ⟨-, p, V, F, D, S, N, h2, h3, -⟩
    · rw [z] at hq
      cases hq
    · rw [h2] at hq
      cases hq
      exact h3
  refine ⟨one 0 hM.1, one 1 hM.2.1, by rw [r25]; exact hM.2.2.1, fun q hq => ?_⟩
  rw [r25] at hq
  by_cases e : q = g0
  · subst e
    rcases hg with z | z
    · exfalso
      rcases hq with z' | z' | z' | z'
      · omega
      · omega
      · have := big 0 q hM.1 z'
        omega
      · have := big 1 q hM.2.1 z'
        omega
    · exact z
  · intro l hl
    rw [hr (q + 10) (by omega)]
    exact hM.2.2.2 q hq l hl
theorem b_back {a1 : Int32} (hI : Inv c K) : Bo O Inv MX10_back MX11_back [.int a1] c K := by
  obtain ⟨u, n, T, I, J, R, g, h, V, F, D, S, N, x, s, rfl, hI⟩ := hI
  obtain ⟨hS, hn, gg, hh, hG, hH, hw, hgd, hg⟩ := Iv_all hI
  obtain ⟨⟨v5, f4, d8, s8, n6⟩, ⟨w0, w1, w2, w3, w4⟩, hf, hs, hfam, hwi, hsn, hlw⟩ := hw
  obtain ⟨⟨c1, c2, c3, c4, c5, c6, c7, c8, c9, c10, c11, c12⟩, q1, q2, q3, q4, q5, q6, q7, q8, q9, q10, q11, ql⟩ := hgd
  obtain ⟨⟨b1, b2, b3, b4, b5⟩, b6, b7, b8, b9, b10⟩ := hI.2.2.2.2.2.2.2.1
  have hJ := hI.2.2.2.2.2.2.2.2.2
  have hu := hI.2.2.2.2.1
  have hw := hI.2.2.1
  have hgd := hI.2.2.2.1
  have hM := hI.2.2.2.2.2.1
  have hx := hu.1
  have no1 : F_X10_back_j9 O 199 0 (hp u n T I J R) = some (-1, hp u n T (up2 (up2 I 0 16 (-1)) 24 0 (I 24 0 + nI 1)) J R) := by
    unfold F_X10_back_j9
    simp (disch := first | assumption | omega) only [gg, hh, vc_0, ga_0_0, ga_0_1, ga_0_2, ga_0_3, ga_0_4, ga_0_5, ga_0_6, ga_0_7, ga_0_8, ga_0_9, gi_0_12, pi_0_12, gi_0_13, pi_0_13, gi_0_14, pi_0_14, gi_0_15, pi_0_15, gi_0_16, pi_0_16, rd_24, wr_24, ln_24, ga_g_1, ga_g_2, ga_g_3, ga_g_4, ga_g_5, ga_g_6, ga_g_7, ga_g_8, ga_g_9, ga_g_10, gi_g_11, pi_g_11, gi_g_12, pi_g_12, gi_g_13, pi_g_13, gi_g_14, pi_g_14, gi_g_15, pi_g_15, gi_g_16, pi_g_16, gi_g_17, pi_g_17, ga_g_0, vc_g, rd_g_1, wr_g_1, ln_g_1, rd_g_2, wr_g_2, ln_g_2, rd_g_3, wr_g_3, ln_g_3, rd_g_4, wr_g_4, ln_g_4, rd_g_5, wr_g_5, ln_g_5, rd_g_6, wr_g_6, ln_g_6, rd_g_7, wr_g_7, ln_g_7, rd_g_8, wr_g_8, ln_g_8, rd_g_9, wr_g_9, ln_g_9, rd_g_10, vc_h, gi_h_1, pi_h_1, gi_h_2, pi_h_2, v_granted, v_ref_1, v_ref_2, v_ref_3, v_ref_5, v_ref_6, v_hclear, Option.bind_some, toI_i, toJ_j, toV_v, toR_r, up2_at, up2_na, up2_nk, up2_off, nI_add, nI_mul, nI_leI, nI_ltI, nI_eq, bI_eq0]
  rcases arg_0 a1 (hi := 1) (by decide) with ⟨k, hk, rfl⟩ | ⟨hb, hb2⟩
  · have hIk : Img n T I R k := by
      have : k = 0 ∨ k = 1 := by omega
      rcases this with rfl | rfl
      · exact hM.1
      · exact hM.2.1
    have lt2 : nI k < nI 2 := (nI_ltI (by omega) (by omega)).mpr (by omega)
    rcases hIk with ⟨i0, r0⟩ | ⟨i1, p, V2, F2, D2, S2, N2, r1, p97, gp, wp⟩
    · refine Bo_i (u1 := u) (a := -2) (I1 := up2 (up2 I 0 16 (-2)) 24 1 (I 24 1 + nI 1)) (J1 := J) (J2 := J) (e_X10_back (d := 199) ?_) hS (e_X11_back (d := 199) ?_) (Iv_ref hI (-2) (pl := 1) (r := 2) (by omega)).e
      · unfold F_X10_back
        rw [if_neg (nI_pos (by omega)), if_pos lt2, ga_0_7 hS, Option.bind_some, rd_25 hS (by omega), Option.bind_some, r0, if_pos rfl]
        simp (disch := first | assumption | omega) only [gg, hh, vc_0, ga_0_0, ga_0_1, ga_0_2, ga_0_3, ga_0_4, ga_0_5, ga_0_6, ga_0_7, ga_0_8, ga_0_9, gi_0_12, pi_0_12, gi_0_13, pi_0_13, gi_0_14, pi_0_14, gi_0_15, pi_0_15, gi_0_16, pi_0_16, rd_24, wr_24, ln_24, ga_g_1, ga_g_2, ga_g_3, ga_g_4, ga_g_5, ga_g_6, ga_g_7, ga_g_8, ga_g_9, ga_g_10, gi_g_11, pi_g_11, gi_g_12, pi_g_12, gi_g_13, pi_g_13, gi_g_14, pi_g_14, gi_g_15, pi_g_15, gi_g_16, pi_g_16, gi_g_17, pi_g_17, ga_g_0, vc_g, rd_g_1, wr_g_1, ln_g_1, rd_g_2, wr_g_2, ln_g_2, rd_g_3, wr_g_3, ln_g_3, rd_g_4, wr_g_4, ln_g_4, rd_g_5, wr_g_5, ln_g_5, rd_g_6, wr_g_6, ln_g_6, rd_g_7, wr_g_7, ln_g_7, rd_g_8, wr_g_8, ln_g_8, rd_g_9, wr_g_9, ln_g_9, rd_g_10, vc_h, gi_h_1, pi_h_1, gi_h_2, pi_h_2, v_granted, v_ref_1, v_ref_2, v_ref_3, v_ref_5, v_ref_6, v_hclear, Option.bind_some, toI_i, toJ_j, toV_v, toR_r, up2_at, up2_na, up2_nk, up2_off, nI_add, nI_mul, nI_leI, nI_ltI, nI_eq, bI_eq0]
      · unfold F_X11_back
        rw [pi_69_0 hS, Option.bind_some, v_in_0_1, rg_t (Nat.zero_le k) hk (by decide), toI_i, Option.bind_some, if_neg nbt]
        dsimp only
        rw [ga_69_5 hS, Option.bind_some, rd_73 hS (by omega), Option.bind_some, up2_na (by decide), up2_na (by decide), up2_na (by decide), i0, if_pos (by decide)]
        simp (disch := first | assumption | omega) only [vc_69, gi_69_0, pi_69_0, gi_69_1, pi_69_1, ga_69_2, ga_69_3, ga_69_4, ga_69_5, ga_69_6, ga_69_7, gi_69_8, pi_69_8, ga_69_9, ga_69_10, gi_69_11, pi_69_11, ga_69_12, gi_69_13, pi_69_13, gi_69_14, pi_69_14, gi_69_15, pi_69_15, gi_69_16, pi_69_16, gj_69_17, pj_69_17, gi_69_18, pi_69_18, gi_69_19, pi_69_19, gi_69_20, pi_69_20, gi_69_21, pi_69_21, ga_69_22, gi_69_23, pi_69_23, ga_69_24, ga_69_25, gi_69_26, pi_69_26, ga_69_27, ga_69_28, gi_69_29, pi_69_29, gi_69_30, pi_69_30, ga_69_31, ga_69_32, ga_69_33, gi_69_34, pi_69_34, ga_69_35, ga_69_36, ga_69_37, gi_69_38, pi_69_38, gj_69_39, pj_69_39, gj_69_40, pj_69_40, ga_69_41, ga_69_42, ga_69_43, ga_69_44, ga_69_45, ga_69_46, ga_69_47, gi_69_48, pi_69_48, gi_69_49, pi_69_49, gi_69_50, pi_69_50, gi_69_51, pi_69_51, gj_69_52, pj_69_52, ga_69_53, gi_69_54, pi_69_54, gi_69_55, pi_69_55, rd_70, wr_70, ln_70, rd_71, wr_71, ln_71, rd_74, wr_74, ln_74, rd_75, wr_75, ln_75, v_tell_1, v_tell_2, v_tell_3, v_tell_5, v_tell_6, v_tell0, v_change, v_settled0, Option.bind_some, toI_i, toJ_j, toV_v, toR_r, up2_at, up2_na, up2_nk, up2_off, nI_add, nI_mul, nI_leI, nI_ltI, nI_eq, bI_eq0]
    · have hrp : RfG n T R p := hM.2.2.2 p (by
        have : k = 0 ∨ k = 1 := by omega
        rcases this with rfl | rfl
        · exact Or.inr (Or.inr (Or.inl r1))
        · exact Or.inr (Or.inr (Or.inr r1)))
      obtain ⟨Ic, Rc, ec, cp⟩ := v_copy (O := O) (d := 198) (u := u) (J := J) (I := I) hG gp.1.2.1 hn (by omega) hrp
      obtain ⟨o1, o2, a1', a2, a3, a4, a5, a6, a7, a8, a9, rr, rl⟩ := cp
      have hS' := St_R rr (by omega) hS
      have hH' : IsH n T Rc h := by
        unfold IsH at hH ⊢
        rw [rr h (by omega)]
        exact hH
      have gh' := GH_R rr (by omega) hI.2.1
      have hh' := ga_hi hS' gh'.2.2
      have L1 : ∃ r, lupF (fun (q : Int32 × mH) => F_X11_back_l39 O 199 69 (nI k) q.1 q.2) FU (nI 0, hp u n T (up2 (up2 (up2 Ic h 2 (nI 0)) 0 16 (nI 0)) 69 0 (nI 0)) J Rc) = some r ∧ (fun r => ∃ I2, r = hp u n T I2 J Rc ∧ (∀ a, a ≠ 71 → I2 a = up2 (up2 (up2 Ic h 2 (nI 0)) 0 16 (nI 0)) 69 0 (nI 0) a) ∧ ∀ j, j < 5510 → I2 71 j = I 72 (5510 * k + j)) r := by
        refine lup_P0 (fun m s => ∃ I2, s = (nI m, hp u n T I2 J Rc) ∧ (∀ a, a ≠ 71 → I2 a = up2 (up2 (up2 Ic h 2 (nI 0)) 0 16 (nI 0)) 69 0 (nI 0) a) ∧ ∀ j, j < m → I2 71 j = I 72 (5510 * k + j)) _ (N := 5510) (by omega) ⟨_, rfl, fun _ _ => rfl, fun j hj => absurd hj (Nat.not_lt_zero j)⟩ ?_ ?_
        · intro m s hm ⟨I2, hs, b1, b2⟩
          subst hs
          left
          have e72 : I2 72 = I 72 := by rw [b1 72 (by decide), up2_off _ _ _ (by decide), up2_off _ _ _ (by decide), up2_off _ _ _ (by omega), o1 72 (by omega)]
          refine ⟨(nI (m + 1), hp u n T (up2 I2 71 m (I 72 (5510 * k + m))) J Rc), ?_, _, rfl, fun a ha => by rw [up2_off _ _ _ ha]; exact b1 a ha, fun j hj => ?_⟩
          · dsimp only
            unfold F_X11_back_l39
            rw [if_neg (nI_ge hm (by omega))]
            have e72' : I2 72 (5510 * k + m) = I 72 (5510 * k + m) := by rw [e72]
            simp (disch := first | assumption | omega) only [vc_69, gi_69_0, pi_69_0, gi_69_1, pi_69_1, ga_69_2, ga_69_3, ga_69_4, ga_69_5, ga_69_6, ga_69_7, gi_69_8, pi_69_8, ga_69_9, ga_69_10, gi_69_11, pi_69_11, ga_69_12, gi_69_13, pi_69_13, gi_69_14, pi_69_14, gi_69_15, pi_69_15, gi_69_16, pi_69_16, gj_69_17, pj_69_17, gi_69_18, pi_69_18, gi_69_19, pi_69_19, gi_69_20, pi_69_20, gi_69_21, pi_69_21, ga_69_22, gi_69_23, pi_69_23, ga_69_24, ga_69_25, gi_69_26, pi_69_26, ga_69_27, ga_69_28, gi_69_29, pi_69_29, gi_69_30, pi_69_30, ga_69_31, ga_69_32, ga_69_33, gi_69_34, pi_69_34, ga_69_35, ga_69_36, ga_69_37, gi_69_38, pi_69_38, gj_69_39, pj_69_39, gj_69_40, pj_69_40, ga_69_41, ga_69_42, ga_69_43, ga_69_44, ga_69_45, ga_69_46, ga_69_47, gi_69_48, pi_69_48, gi_69_49, pi_69_49, gi_69_50, pi_69_50, gi_69_51, pi_69_51, gj_69_52, pj_69_52, ga_69_53, gi_69_54, pi_69_54, gi_69_55, pi_69_55, rd_71, wr_71, ln_71, rd_72, wr_72, ln_72, Option.bind_some, toI_i, toJ_j, toV_v, toR_r, up2_at, up2_na, up2_nk, up2_off, nI_add, nI_mul, nI_leI, nI_ltI, nI_eq, bI_eq0, e72']
          · by_cases e : j = m
            · rw [e, up2_at]
            · rw [up2_nk e]
              exact b2 j (by omega)
        · intro s ⟨I2, hs, b1, b2⟩
          subst hs
          refine ⟨_, ?_, I2, rfl, b1, b2⟩
          dsimp only
          unfold F_X11_back_l39
          rw [if_pos (nI_le (Nat.le_refl 5510) (by omega))]
      obtain ⟨r, eL, I2, hr2, t1, t2⟩ := L1
      refine Bo_i (u1 := u) (a := nI 0) (I1 := up2 (up2 Ic h 2 (nI 0)) 0 16 (nI 0)) (J1 := J) (I2 := up2 (up2 I2 69 8 (nI 0)) 69 1 (nI 0)) (J2 := J) (R1 := Rc) (e_X10_back (d := 199) ?_) hS' (e_X11_back (d := 199) ?_) ?_
      · unfold F_X10_back
        rw [if_neg (nI_pos (by omega)), if_pos lt2, ga_0_7 hS, Option.bind_some, rd_25 hS (by omega), Option.bind_some, r1, if_neg (by simp), gg, Option.bind_some, vc_g hG hn, show va_rf (some p) = Value.ref p from rfl, ec, toV_v, Option.bind_some, hh', Option.bind_some, vc_h hH' hn, v_hclear hH' hn, toV_v, Option.bind_some, vc_0 hS', v_granted hS']
        rfl
      · unfold F_X11_back
        rw [pi_69_0 hS', Option.bind_some, v_in_0_1, rg_t (Nat.zero_le k) hk (by decide), toI_i, Option.bind_some, if_neg nbt]
        dsimp only
        rw [ga_69_5 hS', Option.bind_some, rd_73 hS' (by omega), Option.bind_some, up2_na (by decide), up2_na (by decide), up2_na (by omega), o1 73 (by omega), i1, if_neg (by decide), eL, hr2, Option.bind_some, vc_69 hS', v_settled0 (d := 198) hS' (by decide)]
        rfl
      · have Mo : ∀ a, a ≠ 0 → a ≠ 69 → a ≠ 71 → a ≠ h → up2 (up2 I2 69 8 (nI 0)) 69 1 (nI 0) a = Ic a := fun a z1 z2 z3 z4 => by rw [up2_off _ _ _ z2, up2_off _ _ _ z2, t1 a z3, up2_off _ _ _ z2, up2_off _ _ _ z1, up2_off _ _ _ z4]
        have Mc : ∀ a, a ≠ 0 → a ≠ 69 → a ≠ 71 → a ≠ h → (a < g ∨ g + 10 < a) → up2 (up2 I2 69 8 (nI 0)) 69 1 (nI 0) a = I a := fun a z1 z2 z3 z4 z5 => (Mo a z1 z2 z3 z4).trans (o1 a z5)
        have M71 : up2 (up2 I2 69 8 (nI 0)) 69 1 (nI 0) 71 = I2 71 := by rw [up2_off _ _ _ (by decide), up2_off _ _ _ (by decide)]
        have M0 : ∀ k, k ≠ 16 → up2 (up2 I2 69 8 (nI 0)) 69 1 (nI 0) 0 k = I 0 k := fun k hk => by rw [up2_na (by decide), up2_na (by decide), t1 0 (by decide), up2_na (by decide), up2_nk hk, up2_na (by omega), o1 0 (by omega)]
        have M016 : up2 (up2 I2 69 8 (nI 0)) 69 1 (nI 0) 0 16 = nI 0 := by rw [up2_na (by decide), up2_na (by decide), t1 0 (by decide), up2_na (by decide), up2_at]
        have M69 : ∀ k, k ≠ 0 → k ≠ 1 → k ≠ 8 → up2 (up2 I2 69 8 (nI 0)) 69 1 (nI 0) 69 k = I 69 k := fun k z0 z1 z8 => by rw [up2_nk z1, up2_nk z8, t1 69 (by decide), up2_nk z0, up2_na (by decide), up2_na (by omega), o1 69 (by omega)]
        have M691 : up2 (up2 I2 69 8 (nI 0)) 69 1 (nI 0) 69 1 = nI 0 := up2_at _ _ _ _
        have M698 : up2 (up2 I2 69 8 (nI 0)) 69 1 (nI 0) 69 8 = nI 0 := by rw [up2_nk (by decide), up2_at]
        have Mh : ∀ k, k ≠ 2 → up2 (up2 I2 69 8 (nI 0)) 69 1 (nI 0) h k = I h k := fun k hk => by rw [up2_na (by omega), up2_na (by omega), t1 h (by omega), up2_na (by omega), up2_na (by omega), up2_nk hk, o1 h (by omega)]
        have Mh2 : up2 (up2 I2 69 8 (nI 0)) 69 1 (nI 0) h 2 = nI 0 := by rw [up2_na (by omega), up2_na (by omega), t1 h (by omega), up2_na (by omega), up2_na (by omega), up2_at]
        generalize up2 (up2 I2 69 8 (nI 0)) 69 1 (nI 0) = I3 at Mo Mc M71 M0 M016 M69 M691 M698 Mh Mh2 ⊢
        have row : ∀ i, i < 5510 → I3 71 i = (fun i => I 72 (5510 * k + i)) i := fun i hi => by rw [M71]; exact t2 i hi
        obtain ⟨⟨s1, s2, s3⟩, s4, s5, s6, s7, s8, s9, s10, s11, s12⟩ := hI
        refine ⟨g, h, V2, F2, D2, S2, N2, x, 0, ⟨hS', by omega, by omega⟩, gh', Wf_B row wp, ?_, Und_0 ((Mh 1 (by decide)).trans hx.1) hx.2.1 Mh2 M698, Imgs_R rr hS' (by omega) s8 (fun a ha => Mc a (by omega) (by omega) (by omega) (by omega) (by omega)) (Or.inr (fun l hl => by rw [rl l hl]; exact hrp l hl)), ?_, ?_, Drn_cg s11 (Mc _ (by decide) (by decide) (by decide) (by omega) (by omega)) (Mc _ (by decide) (by decide) (by decide) (by omega) (by omega)) (Mc _ (by decide) (by decide) (by decide) (by omega) (by omega)) (Mc _ (by decide) (by decide) (by decide) (by omega) (by omega)) (Mc _ (by decide) (by decide) (by decide) (by omega) (by omega)) (M69 _ (by decide) (by decide) (by decide)) (M69 _ (by decide) (by decide) (by decide)), s12⟩
        · have r : ∀ j, 0 ≤ j → j ≤ 10 → I3 (g + j) = Ic (g + j) := fun j _ hj => Mo _ (by omega) (by omega) (by omega) (by omega)
          refine Gnd_B gp wp row (St_C hS') (IsG_R rr hG (by omega)) (by omega) (by rw [rr g (by omega)]; exact c4) (fun k z1 z2 => by rw [Mo g (by omega) (by omega) (by omega) (by omega)]; exact o2 k z1 z2) (fun k hk => by rw [r 1 (by omega) (by omega)]; exact a1' k hk) (fun k hk => by rw [r 2 (by omega) (by omega)]; exact a2 k hk) (fun k hk => by rw [r 3 (by omega) (by omega)]; exact a3 k hk) (fun k hk => by rw [r 4 (by omega) (by omega)]; exact a4 k hk) (fun k hk => by rw [r 5 (by omega) (by omega)]; exact a5 k hk) (fun k hk => by rw [r 6 (by omega) (by omega)]; exact a6 k hk) (fun k hk => by rw [r 7 (by omega) (by omega)]; exact a7 k hk) (fun k hk => by rw [r 8 (by omega) (by omega)]; exact a8 k hk) (fun k hk => by rw [r 9 (by omega) (by omega)]; exact a9 k hk) rl (fun a ha => Mc a (by omega) (by omega) (by omega) (by omega) (by omega)) (fun a ha => rr a (by omega))
        · unfold Tap at s9 ⊢
          rw [Mc 23 (by decide) (by decide) (by decide) (by omega) (by omega), Mc 78 (by decide) (by decide) (by decide) (by omega) (by omega), M0 12 (by decide), M69 13 (by decide) (by decide) (by decide)]
          exact s9
        · rw [Mc 24 (by decide) (by decide) (by decide) (by omega) (by omega), Mc 70 (by decide) (by decide) (by decide) (by omega) (by omega)]
          refine ⟨⟨?_, ?_, ?_, ?_, ?_⟩, b6, b7, b8, b9, b10⟩
          · rw [M0 _ (by decide), M69 _ (by decide) (by decide) (by decide)]
            exact b1
          · rw [M0 _ (by decide), M69 _ (by decide) (by decide) (by decide)]
            exact b2
          · rw [M0 _ (by decide), M69 _ (by decide) (by decide) (by decide)]
            exact b3
          · rw [M016, M691]
          · rw [M69 _ (by decide) (by decide) (by decide)]
            exact b5
  · refine Bo_i (u1 := u) (a := -1) (I1 := up2 (up2 I 0 16 (-1)) 24 0 (I 24 0 + nI 1)) (J1 := J) (J2 := J) (e_X10_back (d := 199) ?_) hS (e_X11_back (d := 199) ?_) (Iv_ref hI (-1) (pl := 0) (r := 1) (by omega)).e
    · unfold F_X10_back
      rcases hb2 with z | ⟨z1, z2, z3⟩
      · rw [if_pos z]
        exact no1
      · have n2 : ¬ a1 < nI 2 := by
          rw [Int32.lt_iff_toInt_lt] at z3 ⊢
          have e1 : (nI 1).toInt = 1 := by decide
          have e2 : (nI 2).toInt = 2 := by decide
          omega
        rw [if_neg z1, if_neg n2]
        exact no1
    · unfold F_X11_back
      rw [pi_69_0 hS, Option.bind_some, v_in_0_1, hb, toI_i, Option.bind_some, if_pos (by rfl)]
      simp (disch := first | assumption | omega) only [vc_69, gi_69_0, pi_69_0, gi_69_1, pi_69_1, ga_69_2, ga_69_3, ga_69_4, ga_69_5, ga_69_6, ga_69_7, gi_69_8, pi_69_8, ga_69_9, ga_69_10, gi_69_11, pi_69_11, ga_69_12, gi_69_13, pi_69_13, gi_69_14, pi_69_14, gi_69_15, pi_69_15, gi_69_16, pi_69_16, gj_69_17, pj_69_17, gi_69_18, pi_69_18, gi_69_19, pi_69_19, gi_69_20, pi_69_20, gi_69_21, pi_69_21, ga_69_22, gi_69_23, pi_69_23, ga_69_24, ga_69_25, gi_69_26, pi_69_26, ga_69_27, ga_69_28, gi_69_29, pi_69_29, gi_69_30, pi_69_30, ga_69_31, ga_69_32, ga_69_33, gi_69_34, pi_69_34, ga_69_35, ga_69_36, ga_69_37, gi_69_38, pi_69_38, gj_69_39, pj_69_39, gj_69_40, pj_69_40, ga_69_41, ga_69_42, ga_69_43, ga_69_44, ga_69_45, ga_69_46, ga_69_47, gi_69_48, pi_69_48, gi_69_49, pi_69_49, gi_69_50, pi_69_50, gi_69_51, pi_69_51, gj_69_52, pj_69_52, ga_69_53, gi_69_54, pi_69_54, gi_69_55, pi_69_55, rd_70, wr_70, ln_70, rd_71, wr_71, ln_71, rd_74, wr_74, ln_74, rd_75, wr_75, ln_75, v_tell_1, v_tell_2, v_tell_3, v_tell_5, v_tell_6, v_tell0, v_change, v_settled0, Option.bind_some, toI_i, toJ_j, toV_v, toR_r, up2_at, up2_na, up2_nk, up2_off, nI_add, nI_mul, nI_leI, nI_ltI, nI_eq, bI_eq0]
end BK
