/-! calls: image, done -/
section IM2
variable {O : mO} {c d u n : Nat} {T : Nat → mT} {I : Nat → Nat → Int32} {J : Nat → Nat → Int64} {R : Nat → Nat → Option Nat} {g h p q V F D S N x s k : Nat} {w w' : Nat → Int32} {K : mH}
theorem ig_T {b : Nat} (hb : b < n) : iT2 (va_up T n (100 + 2, kd2)) (n + 1) b = T b := by
  rw [iT2_lo (by omega), tu_ne _ _ (by omega)]
theorem ig_I {b : Nat} (hb : b < n) : iI2 (up1 I n zI) n (n + 1) b = I b := by
  unfold iI2
  simp (disch := omega) only [up2_off, up1_ne]
theorem ig_J {b : Nat} (hb : b < n) : iJ2 (up1 J n zJ) (n + 1) b = J b := by
  unfold iJ2
  simp (disch := omega) only [up1_ne]
theorem ig_R {b : Nat} (hb : b < n) : iR2 (up1 R n zR) n (n + 1) 30 b = R b := by
  unfold iR2
  simp (disch := omega) only [up2_off, up1_ne]
theorem ig_G : IsG (n + 11) (iT2 (va_up T n (100 + 2, kd2)) (n + 1)) (iR2 (up1 R n zR) n (n + 1) 30) n ∧ iR2 (up1 R n zR) n (n + 1) 30 n 0 = some 30 := by
  refine ⟨⟨⟨?_, by omega⟩, ⟨?_, ?_, ?_, ?_, ?_, ?_, ?_, ?_, ?_, ?_⟩, ?_⟩, ?_⟩
  all_goals (try unfold iT2)
  all_goals (try (simp (disch := omega) only [tu_ne, tu_at]; done))
  · unfold iR2
    refine ⟨?_, ?_, ?_, ?_, ?_, ?_, ?_, ?_, ?_, ?_⟩
    all_goals first
      | (simp (disch := omega) only [up2_at, up2_na, up2_nk, up2_off, up1_ne]; done)
      | (simp (disch := omega) only [up2_at, up2_na, up2_nk, up2_off, up1_ne]; rfl)
  · unfold iR2
    simp (disch := omega) only [up2_at, up2_na, up2_nk, up2_off, up1_ne]
theorem IsG_o {n' : Nat} {T' : Nat → mT} {R' : Nat → Nat → Option Nat} (hG : IsG n T R p) (hle : n ≤ n') (hT : ∀ a, a < n → T' a = T a) (hR : R' p = R p) : IsG n' T' R' p := by
  have gn := hG.1.2
  unfold IsG at hG ⊢
  rw [hR, hT p (by omega), hT (p + 1) (by omega), hT (p + 2) (by omega), hT (p + 3) (by omega), hT (p + 4) (by omega), hT (p + 5) (by omega), hT (p + 6) (by omega), hT (p + 7) (by omega), hT (p + 8) (by omega), hT (p + 9) (by omega), hT (p + 10) (by omega)]
  obtain ⟨⟨y1, y2⟩, y3⟩ := hG
  exact ⟨⟨y1, by omega⟩, y3⟩
theorem St_o {n' : Nat} {T' : Nat → mT} {R' : Nat → Nat → Option Nat} (hS : St n T R) (hle : n ≤ n') (hB : n' ≤ oB) (hT : ∀ a, a < n → T' a = T a) (hR : ∀ a, a < 98 → a ≠ 25 → a ≠ 42 → a ≠ 53 → a ≠ 68 → R' a = R a) : St n' T' R' := by
  have n98 := hS.1.1
  refine ⟨⟨by omega, fun a ha => by rw [hT a (by omega)]; exact hS.1.2 a ha⟩, hB, fun q hq => ?_⟩
  obtain ⟨z1, z2, z3, z4, z5⟩ := RfL_25 q hq
  rw [hR q.1 z1 z2 z3 z4 z5]
  exact hS.2.2 q hq
theorem b_image {a1 : Int32} (hc : c < 512) (hI : Inv c K) : Bo O Inv MX10_image MX11_image [.int a1] c K := by
  obtain ⟨u, n, T, I, J, R, g, h, V, F, D, S, N, x, s, rfl, hI⟩ := hI
  obtain ⟨hS, hn, gg, hh, hG, hH, hw, hgd, hg⟩ := Iv_all hI
  obtain ⟨⟨v5, f4, d8, s8, n6⟩, ⟨w0, w1, w2, w3, w4⟩, hf, hs, hfam, hwi, hsn, hlw⟩ := hw
  obtain ⟨⟨c1, c2, c3, c4, c5, c6, c7, c8, c9, c10, c11, c12⟩, q1, q2, q3, q4, q5, q6, q7, q8, q9, q10, q11, ql⟩ := hgd
  obtain ⟨⟨b1, b2, b3, b4, b5⟩, b6, b7, b8, b9, b10⟩ := hI.2.2.2.2.2.2.2.1
  have hJ := hI.2.2.2.2.2.2.2.2.2
  have hu := hI.2.2.2.2.1
  have hw := hI.2.2.1
  have hgd := hI.2.2.2.1
  have hM := hI.2.2.2.2.2.1
  have hx := hu.1
  have gh := hI.2.1
  have nb := hI.1.2.1
  have ub := hI.1.2.2
  have n98 : 98 ≤ n := hS.1.1
  have oBe : oB = 1000000 := rfl
  have no1 : F_X10_image_j9 O 199 0 (hp u n T I J R) = some (-1, hp u n T (up2 (up2 I 0 16 (-1)) 24 0 (I 24 0 + nI 1)) J R) := by
    unfold F_X10_image_j9
    simp (disch := first | assumption | omega) only [gg, hh, vc_0, ga_0_0, ga_0_1, ga_0_2, ga_0_3, ga_0_4, ga_0_5, ga_0_6, ga_0_7, ga_0_8, ga_0_9, gi_0_12, pi_0_12, gi_0_13, pi_0_13, gi_0_14, pi_0_14, gi_0_15, pi_0_15, gi_0_16, pi_0_16, rd_24, wr_24, ln_24, ga_g_1, ga_g_2, ga_g_3, ga_g_4, ga_g_5, ga_g_6, ga_g_7, ga_g_8, ga_g_9, ga_g_10, gi_g_11, pi_g_11, gi_g_12, pi_g_12, gi_g_13, pi_g_13, gi_g_14, pi_g_14, gi_g_15, pi_g_15, gi_g_16, pi_g_16, gi_g_17, pi_g_17, ga_g_0, vc_g, rd_g_1, wr_g_1, ln_g_1, rd_g_2, wr_g_2, ln_g_2, rd_g_3, wr_g_3, ln_g_3, rd_g_4, wr_g_4, ln_g_4, rd_g_5, wr_g_5, ln_g_5, rd_g_6, wr_g_6, ln_g_6, rd_g_7, wr_g_7, ln_g_7, rd_g_8, wr_g_8, ln_g_8, rd_g_9, wr_g_9, ln_g_9, rd_g_10, vc_h, gi_h_1, pi_h_1, gi_h_2, pi_h_2, v_granted, v_ref_1, v_ref_2, v_ref_3, v_ref_5, v_ref_6, v_hclear, Option.bind_some, toI_i, toJ_j, toV_v, toR_r, up2_at, up2_na, up2_nk, up2_off, nI_add, nI_mul, nI_leI, nI_ltI, nI_eq, bI_eq0]
  rcases arg_0 a1 (hi := 1) (by decide) with ⟨k, hk, rfl⟩ | ⟨hb, hb2⟩
  · have hIk : Img n T I R k := by
      have : k = 0 ∨ k = 1 := by omega
      rcases this with rfl | rfl
      · exact hM.1
      · exact hM.2.1
    have lt2 : nI k < nI 2 := (nI_ltI (by omega) (by omega)).mpr (by omega)
    have hrg : RfG n T R g := hM.2.2.2 g (by
      rcases hg with ⟨z, -⟩ | ⟨z, -⟩
      · exact Or.inl z
      · exact Or.inr (Or.inl z))
    have fin : ∀ (p n' u' : Nat) (T' : Nat → mT) (I1 : Nat → Nat → Int32) (J1 : Nat → Nat → Int64) (R1 : Nat → Nat → Option Nat), n ≤ n' → n' ≤ n + 11 → u' ≤ u + 116 → (∀ a, a < n → T' a = T a) → 97 < p → (∀ k2, k2 ≤ 1 → k2 ≠ k → R 25 k2 ≠ some p) → (p + 11 ≤ n → IsG n T R p) → (p < n → p + 11 ≤ n) → IsG n' T' R1 p → R1 p 0 = some 30 → (∀ a, a < n → a ≠ 25 → R1 a = R a) → R1 25 k = some p → (∀ j, j ≠ k → R1 25 j = R 25 j) → (∀ a, a < n → I1 a = I a) → (∀ a, a < n → J1 a = J a) → (∀ y, F_X10_image_j48 O 199 0 (some p) (hp u' n' T' I1 J1 R1) = y → F_X10_image O 199 0 (nI k) (hp u n T I J R) = y) → Bo O Inv MX10_image MX11_image [.int (nI k)] c (hp u n T I J R) := by
      intro p n' u' T' I1 J1 R1 hle hnn huu hT hp97 hpd hpo hpp hGp hp30 hR1 hR25 hR25o hI1 hJ1 hrun
      have hB : n' ≤ oB := by omega
      have hpn := hGp.1.2
      have hS1 : St n' T' R1 := St_o hS hle hB hT (fun a a1 a2 _ _ _ => hR1 a (by omega) a2)
      have hGg : IsG n' T' R1 g := IsG_o hG hle hT (hR1 g (by omega) (by omega))
      have hrg1 : RfG n' T' R1 g := by
        intro l hl
        rw [hR1 (g + 10) (by omega) (by omega)]
        rcases hrg l hl with z | ⟨q, z1, z2, z3, z4⟩
        · exact Or.inl z
        · exact Or.inr ⟨q, z1, by omega, z3, by rw [hT q z2]; exact z4⟩
      obtain ⟨Ic, Rc, ec, cp⟩ := v_copy (O := O) (d := 198) (u := u') (J := J1) (I := I1) hGp hGg hB (by omega) hrg1
      obtain ⟨o1, o2, a1', a2, a3, a4, a5, a6, a7, a8, a9, rr, rl⟩ := cp
      have hRc : ∀ a, a < n → a ≠ 25 → a ≠ p + 10 → Rc a = R a := fun a z1 z2 z3 => (rr a z3).trans (hR1 a z1 z2)
      have hS' : St n' T' Rc := St_o hS hle hB hT (fun a z1 z2 _ _ _ => hRc a (by omega) z2 (by omega))
      have hIc : ∀ a, a < n → (a < p ∨ p + 10 < a) → Ic a = I a := fun a z1 z2 => (o1 a z2).trans (hI1 a z1)
      obtain ⟨r, eL, I2, hr2, t1, t2, t3⟩ := m_img (O := O) (d := 199) (u := u') (J := J1) (I := up2 (up2 Ic 0 16 (nI 0)) 69 0 (nI 0)) hS' hk
      have i71 : up2 (up2 Ic 0 16 (nI 0)) 69 0 (nI 0) 71 = I 71 := by rw [up2_off _ _ _ (by decide), up2_off _ _ _ (by decide), hIc 71 (by omega) (by omega)]
      rw [i71] at t2
      refine Bo_of (u := u') (n := n') (T := T') (I := up2 Ic 0 16 (nI 0)) (J := J1) (R := Rc) (a := nI 0) (K2 := hp u' n' T' (up2 (up2 I2 73 k (nI 1)) 69 1 (nI 0)) J1 Rc) (e_X10_image (d := 199) (hrun _ ?_)) hS' (e_X11_image (d := 199) ?_) ?_
      · unfold F_X10_image_j48
        rw [ga_gr hS1 (by rw [hR1 0 (by omega) (by decide)]; exact gh.2.1), Option.bind_some, Option.bind_some, vc_g hGp hB, ec, toV_v, Option.bind_some, vc_0 hS', v_granted hS']
        rfl
      · unfold F_X11_image
        rw [pi_69_0 hS', Option.bind_some, v_in_0_1, rg_t (Nat.zero_le k) hk (by decide), toI_i, Option.bind_some, if_neg nbt]
        dsimp only
        rw [eL, hr2, Option.bind_some, ga_69_5 hS', Option.bind_some, wr_73 hS' (by omega), Option.bind_some, show vp_nar .boolean (nI 1) = nI 1 by decide, vc_69 hS', v_tell0 hS' (by decide)]
        rfl
      · have Mo : ∀ a, a ≠ 0 → a ≠ 69 → a ≠ 72 → a ≠ 73 → up2 (up2 I2 73 k (nI 1)) 69 1 (nI 0) a = Ic a := fun a z0 z1 z2 z3 => by rw [up2_off _ _ _ z1, up2_off _ _ _ z3, t1 a z2, up2_off _ _ _ z1, up2_off _ _ _ z0]
        have ic0 : Ic 0 = I 0 := hIc 0 (by omega) (by omega)
        have ic69 : Ic 69 = I 69 := hIc 69 (by omega) (by omega)
        have ic72 : Ic 72 = I 72 := hIc 72 (by omega) (by omega)
        have ic73 : Ic 73 = I 73 := hIc 73 (by omega) (by omega)
        refine ⟨u', n', T', _, J1, Rc, g, h, V, F, D, S, N, x, s, rfl, Iv_img (k := k) (p := p) hI hk hle (by omega) (by omega) hB hT hp97 hpd hpn hpo hpp hRc (by rw [rr 25 (by omega)]; exact hR25) (fun j hj => by rw [rr 25 (by omega)]; exact hR25o j hj) ?_ (fun a z0 z1 z2 z3 z4 z5 => by rw [Mo a z2 z3 z4 z5]; exact hIc a z0 z1) (fun j hj => ?_) ?_ (fun j j0 j1 => ?_) (up2_at _ _ _ _) ?_ (fun j hj => ?_) (fun j hj => ?_) (fun j hj => ?_) ?_ (Cns_J hJ (fun a ha => hJ1 a (by omega)))⟩
        · intro l hl
          rw [rl l hl]
          exact hrg1 l hl
        · rw [up2_na (by decide), up2_na (by decide), t1 0 (by decide), up2_na (by decide), up2_nk hj, ic0]
        · rw [up2_na (by decide), up2_na (by decide), t1 0 (by decide), up2_na (by decide), up2_at]
        · rw [up2_nk j1, up2_na (by decide), t1 69 (by decide), up2_nk j0, up2_na (by decide), ic69]
        · rw [up2_na (by decide), up2_at]
        · rw [up2_na (by decide), up2_nk hj, t1 73 (by decide), up2_na (by decide), up2_na (by decide), ic73]
        · rw [up2_na (by decide), up2_na (by decide)]
          exact t2 j hj
        · rw [up2_na (by decide), up2_na (by decide), t3 j hj, up2_na (by decide), up2_na (by decide), ic72]
        · have hg1 : Gnd n' T' I1 R1 g (I 71) V F D S N := Gnd_X hgd hle hT (fun a z1 z2 => hI1 a (by omega)) (fun a z1 z2 => hR1 a (by omega) (by omega)) (fun a z1 z2 => hR1 a (by omega) (by omega)) (fun q ls lc hq hqp => by
            have qn : q + 3 ≤ n := hqp.2.2.2.2.2.1
            exact ⟨⟨hI1 q (by omega), hI1 _ (by omega), hI1 _ (by omega)⟩, hR1 q (by omega) (by omega)⟩)
          have hPq : ∀ q ls lc, 97 < q → IsP n' T' R1 q ls lc → (up2 (up2 I2 73 k (nI 1)) 69 1 (nI 0) q = I1 q ∧ up2 (up2 I2 73 k (nI 1)) 69 1 (nI 0) (q + 1) = I1 (q + 1) ∧ up2 (up2 I2 73 k (nI 1)) 69 1 (nI 0) (q + 2) = I1 (q + 2)) ∧ Rc q = R1 q := by
            intro q ls lc hq hqp
            have dj := dis_GP hGp hqp
            exact ⟨⟨(Mo q (by omega) (by omega) (by omega) (by omega)).trans (o1 q (by omega)), (Mo _ (by omega) (by omega) (by omega) (by omega)).trans (o1 _ (by omega)), (Mo _ (by omega) (by omega) (by omega) (by omega)).trans (o1 _ (by omega))⟩, rr q (by omega)⟩
          have Mp : ∀ j, j ≤ 10 → up2 (up2 I2 73 k (nI 1)) 69 1 (nI 0) (p + j) = Ic (p + j) := fun j hj => Mo _ (by omega) (by omega) (by omega) (by omega)
          obtain ⟨⟨c1, c2, c3, c4, c5, c6, c7, c8, c9, c10, c11, c12⟩, q1, q2, q3, q4, q5, q6, q7, q8, q9, q10, q11, ql⟩ := hg1
          refine ⟨⟨St_C hS', IsG_o hGp (Nat.le_refl _) (fun _ _ => rfl) (rr p (by omega)), by omega, by rw [rr p (by omega)]; exact hp30, by rw [Mo p (by omega) (by omega) (by omega) (by omega), o2 _ (by decide) (by decide)]; exact c5, c6, by rw [Mo p (by omega) (by omega) (by omega) (by omega), o2 _ (by decide) (by decide)]; exact c7, c8, by rw [Mo p (by omega) (by omega) (by omega) (by omega), o2 _ (by decide) (by decide)]; exact c9, c10, by rw [Mo p (by omega) (by omega) (by omega) (by omega), o2 _ (by decide) (by decide)]; exact c11, c12⟩, by rw [Mo p (by omega) (by omega) (by omega) (by omega), o2 _ (by decide) (by decide)]; exact q1, by rw [Mo p (by omega) (by omega) (by omega) (by omega), o2 _ (by decide) (by decide)]; exact q2, fun k hk => by rw [Mp 1 (by decide), a1' k hk]; exact q3 k hk, fun k hk => by rw [Mp 2 (by decide), a2 k hk]; exact q4 k hk, fun k hk => by rw [Mp 3 (by decide), a3 k hk]; exact q5 k hk, fun k hk => by rw [Mp 4 (by decide), a4 k hk]; exact q6 k hk, fun k hk => by rw [Mp 5 (by decide), a5 k hk]; exact q7 k hk, fun d v hd hv => by rw [Mp 6 (by decide), a6 _ (by omega)]; exact q8 d v hd hv, fun k hk => by rw [Mp 7 (by decide), Mp 8 (by decide), a7 k hk, a8 k hk]; exact q9 k hk, fun k hk => by rw [Mp 9 (by decide), a9 k hk]; exact q10 k hk, fun k hk => by rw [Mo p (by omega) (by omega) (by omega) (by omega), o2 14 (by decide) (by decide)]; exact q11 k hk, fun l hl => ?_⟩
          obtain ⟨q, sc, cc, z1, z2, z3, z4⟩ := ql l hl
          obtain ⟨ls, lc, z3a, z3b⟩ := z3
          obtain ⟨⟨p0, p1, p2⟩, pr⟩ := hPq q ls lc z2 z3a
          refine ⟨q, sc, cc, by rw [rl l (by omega)]; exact z1, z2, ⟨ls, lc, ?_, by rw [p0, p1, p2]; exact z3b⟩, by unfold LwEq at z4 ⊢; rw [p0, p1, p2]; exact z4⟩
          unfold IsP at z3a ⊢
          rw [pr]
          exact z3a
    rcases hIk with ⟨i0, r0⟩ | ⟨i1, p, V2, F2, D2, S2, N2, r1, p97, gp, wp⟩
    · have e3 := i_2 (O := O) (d := 198) (u := u + 18) (n := n + 1) (T := va_up T n (100 + 2, kd2)) (I := up1 I n zI) (J := up1 J n zJ) (R := up1 R n zR) (a := n) (a1 := 30) (tu_at _ _ _) (by omega) (by omega)
      have gi := ig_G (n := n) (T := T) (R := R)
      have t0 : va_up T n (100 + 2, kd2) 0 = (100 + 10, kd10) := by rw [tu_ne _ _ (by omega)]; exact hS.1.2 0 (by decide)
      have tg : va_up T n (100 + 2, kd2) g = (100 + 2, kd2) := by rw [tu_ne _ _ (by omega)]; exact hG.1.1
      have r0' : up1 R n zR 0 10 = some g := by rw [up1_ne _ _ (by omega)]; exact gh.2.1
      have rg' : up1 R n zR g 0 = some 30 := by rw [up1_ne _ _ (by omega)]; exact c4
      have s0 : iT2 (va_up T n (100 + 2, kd2)) (n + 1) 0 = (100 + 10, kd10) := by rw [ig_T (by omega)]; exact hS.1.2 0 (by decide)
      have s25 : iT2 (va_up T n (100 + 2, kd2)) (n + 1) 25 = (4, [2]) := by rw [ig_T (by omega)]; exact hS.1.2 25 (by decide)
      have q7' : iR2 (up1 R n zR) n (n + 1) 30 0 7 = some 25 := by rw [ig_R (by omega)]; exact hS.2.2 (0, 7, 25) (by decide)
      refine fin n (n + 11) (u + 18 + 98) (iT2 (va_up T n (100 + 2, kd2)) (n + 1)) (iI2 (up1 I n zI) n (n + 1)) (iJ2 (up1 J n zJ) (n + 1)) (up2 (iR2 (up1 R n zR) n (n + 1) 30) 25 k (some n)) (by omega) (by omega) (by omega) (fun a ha => ig_T ha) (by omega) ?_ (fun z => by omega) (fun z => by omega) (IsG_o gi.1 (Nat.le_refl _) (fun _ _ => rfl) (up2_off _ _ _ (by omega))) (by rw [up2_na (by omega)]; exact gi.2) (fun a z1 z2 => by rw [up2_off _ _ _ z2]; exact ig_R z1) (up2_at _ _ _ _) (fun j hj => by rw [up2_nk hj, ig_R (by omega)]) (fun a ha => ig_I ha) (fun a ha => ig_J ha) ?_
      · intro k2 hk2 hne e
        have hI2 : Img n T I R k2 := by
          have : k2 = 0 ∨ k2 = 1 := by omega
          rcases this with rfl | rfl
          · exact hM.1
          · exact hM.2.1
        rcases hI2 with ⟨-, z⟩ | ⟨-, p2, V2, F2, D2, S2, N2, z2, z3, z4, -⟩
        · rw [z] at e
          cases e
        · rw [z2] at e
          cases e
          have := z4.1.2.1.1.2
          omega
      · intro y hy
        unfold F_X10_image
        rw [if_neg (nI_pos (by omega)), if_pos lt2, ga_0_7 hS, Option.bind_some, rd_25 hS (by omega), Option.bind_some, r0, if_pos rfl, nwO_2 (by omega), Option.bind_some]
        dsimp only
        rw [gtA_hp (ks := kd10) t0 (by rfl) (by omega) (by omega) r0', Option.bind_some, gtA_hp (ks := kd2) tg (by rfl) (by omega) (by omega) rg', Option.bind_some, e3, toV_v, Option.bind_some, gtA_hp (ks := kd10) s0 (by rfl) (by omega) (by omega) q7', Option.bind_some, wrR4_hp s25 (by omega) (by omega) (by decide) (by omega) (by omega) gi.1.1.1, Option.bind_some]
        exact hy
    · refine fin p n u T I J R (Nat.le_refl n) (by omega) (by omega) (fun _ _ => rfl) p97 ?_ (fun _ => gp.1.2.1) (fun _ => gp.1.2.1.1.2) gp.1.2.1 gp.1.2.2.2.1 (fun _ _ _ => rfl) r1 (fun _ _ => rfl) (fun _ _ => rfl) (fun _ _ => rfl) ?_
      · intro k2 hk2 hne e
        have : (k = 0 ∧ k2 = 1) ∨ (k = 1 ∧ k2 = 0) := by omega
        rcases this with ⟨rfl, rfl⟩ | ⟨rfl, rfl⟩
        · exact hM.2.2.1 p r1 e
        · exact hM.2.2.1 p e r1
      · intro y hy
        unfold F_X10_image
        rw [if_neg (nI_pos (by omega)), if_pos lt2, ga_0_7 hS, Option.bind_some, rd_25 hS (by omega), Option.bind_some, r1, if_neg (by simp)]
        exact hy
  · refine Bo_i (u1 := u) (a := -1) (I1 := up2 (up2 I 0 16 (-1)) 24 0 (I 24 0 + nI 1)) (J1 := J) (J2 := J) (e_X10_image (d := 199) ?_) hS (e_X11_image (d := 199) ?_) (Iv_ref hI (-1) (pl := 0) (r := 1) (by omega)).e
    · unfold F_X10_image
      rcases hb2 with z | ⟨z1, z2, z3⟩
      · rw [if_pos z]
        exact no1
      · have n2 : ¬ a1 < nI 2 := by
          rw [Int32.lt_iff_toInt_lt] at z3 ⊢
          have e1 : (nI 1).toInt = 1 := by decide
          have e2 : (nI 2).toInt = 2 := by decide
          omega
        rw [if_neg z1, if_neg n2]
        exact no1
    · unfold F_X11_image
      rw [pi_69_0 hS, Option.bind_some, v_in_0_1, hb, toI_i, Option.bind_some, if_pos (by rfl)]
      simp (disch := first | assumption | omega) only [vc_69, gi_69_0, pi_69_0, gi_69_1, pi_69_1, ga_69_2, ga_69_3, ga_69_4, ga_69_5, ga_69_6, ga_69_7, gi_69_8, pi_69_8, ga_69_9, ga_69_10, gi_69_11, pi_69_11, ga_69_12, gi_69_13, pi_69_13, gi_69_14, pi_69_14, gi_69_15, pi_69_15, gi_69_16, pi_69_16, gj_69_17, pj_69_17, gi_69_18, pi_69_18, gi_69_19, pi_69_19, gi_69_20, pi_69_20, gi_69_21, pi_69_21, ga_69_22, gi_69_23, pi_69_23, ga_69_24, ga_69_25, gi_69_26, pi_69_26, ga_69_27, ga_69_28, gi_69_29, pi_69_29, gi_69_30, pi_69_30, ga_69_31, ga_69_32, ga_69_33, gi_69_34, pi_69_34, ga_69_35, ga_69_36, ga_69_37, gi_69_38, pi_69_38, gj_69_39, pj_69_39, gj_69_40, pj_69_40, ga_69_41, ga_69_42, ga_69_43, ga_69_44, ga_69_45, ga_69_46, ga_69_47, gi_69_48, pi_69_48, gi_69_49, pi_69_49, gi_69_50, pi_69_50, gi_69_51, pi_69_51, gj_69_52, pj_69_52, ga_69_53, gi_69_54, pi_69_54, gi_69_55, pi_69_55, rd_70, wr_70, ln_70, rd_71, wr_71, ln_71, rd_74, wr_74, ln_74, rd_75, wr_75, ln_75, v_tell_1, v_tell_2, v_tell_3, v_tell_5, v_tell_6, v_tell0, v_change, v_settled0, Option.bind_some, toI_i, toJ_j, toV_v, toR_r, up2_at, up2_na, up2_nk, up2_off, nI_add, nI_mul, nI_leI, nI_ltI, nI_eq, bI_eq0]
end IM2
