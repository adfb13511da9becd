/-! calls: law, done -/
theorem ClL_cg (I I' : Nat → Nat → Int32) (c s : Nat) (x : CL) (h : ClL I c s x) (h1 : ∀ i, i < 8 * (c + 1) → I' 79 i = I 79 i) (h2 : ∀ i, i < s + lnM x → I' 80 i = I 80 i ∧ I' 81 i = I 81 i) : ClL I' c s x := by
  obtain ⟨a1, a2, a3, a4, a5, a6⟩ := h
  refine ⟨(h1 _ (by omega)).trans a1, (h1 _ (by omega)).trans a2, (h1 _ (by omega)).trans a3, (h1 _ (by omega)).trans a4, (h1 _ (by omega)).trans a5, AtH_cg _ _ (fun j _ hj => h2 j ?_) a6⟩
  rw [List.length_append] at hj
  show j < s + (x.2.2.2.1.length + x.2.2.2.2.2.1.length + x.2.2.2.2.2.2.2.length)
  omega
section LW2
variable {O : mO} {c d u n : Nat} {T : Nat → mT} {I : Nat → Nat → Int32} {J : Nat → Nat → Int64} {R : Nat → Nat → Option Nat} {g h p q V F D S N x s k : Nat} {w w' : Nat → Int32} {K : mH} {b : Nat → Nat} {t : Nat}
theorem m_textL (hS : St n T R) (hb : ∀ k, b k ≤ 255) (ht : t ≤ 400) (hT : ∀ k, k < t → I 78 k = nI (b k)) (h13 : I 69 13 = nI t) (hC : Cns J) {r : Nat ⊕ List CL} (hr : gX false (fT b t) 12 0 0 = some r) : ∃ I1 J1 I2 J2 I3 J3 I4 J4, ev O 199 MX11_beginText [.ref 69, .int (nI 0)] (hp u n T I J R) = some (none, hp u n T I1 J1 R) ∧ ev O 199 MX11_readLaw [.ref 69] (hp u n T I1 J1 R) = some (none, hp u n T I2 J2 R) ∧ lupF (fun (q : mH) => F_X11_law_l37 O 199 69 q) FU (hp u n T I2 J2 R) = some (hp u n T I3 J3 R) ∧ ev O 199 MX11_endText [.ref 69] (hp u n T I3 J3 R) = some (none, hp u n T I4 J4 R) ∧ (∀ j, r = .inl j → MBb (plN b t j) I4) ∧ (∀ L, r = .inr L → I4 69 19 = nI 0 ∧ I4 69 18 = -1 ∧ I4 69 21 = nI L.length ∧ I4 69 23 = nI (lnL L).2 ∧ TxM ClL I4 0 0 L) ∧ (∀ a, a ≠ 69 → a ≠ 80 → a ≠ 81 → a ≠ 82 → a ≠ 83 → a ≠ 79 → I4 a = I a) ∧ (∀ k, Mf k = false → k ≠ 21 → k ≠ 20 → k ≠ 13 → I4 69 k = I 69 k) ∧ (∀ a, a ≠ 69 → J4 a = J a) ∧ I4 69 20 = nI 0 ∧ I4 69 13 = nI 0 := by
  obtain ⟨I1, J1, a1, a2, a3, a4, a5, a6, a7⟩ := m_begin (O := O) (d := 195) (u := u) (md := false) hS hb ht hT h13 hC
  obtain ⟨I2, J2, I3, J3, I4, J4, b1, b2, b3, b4, b5, ⟨b6, b7, b8, b9, b10⟩, b11, b12⟩ := m_loopT (O := O) (D := 197) (u := u) (md := false) (cl := 79) (M := MX11_readLaw) (Q := ClL) hS hb ht ⟨by decide, by decide, by decide⟩ (fun c s0 k q I J r hc hH h21 hq hg => m_readLaw (O := O) (d := 189) (u := u) hS hb ht hc hH h21 hq hg) (fun s0 k q I J hH h21 => m_readLaw12 (O := O) (d := 189) (u := u) hS hb ht hH h21) ClL_cg 12 0 0 0 0 FU I1 J1 r rfl a2 a3 (by decide) (by unfold FU; decide) hr
  refine ⟨I1, J1, I2, J2, I3, J3, I4, J4, a1, b1, b2, b3, b4, fun L e => ?_, fun a h1 h2 h3 h4 h5 h6 => by rw [b6 a h1 h2 h3 h4 h5 h6, a4 a h1], fun k hk h1 h2 h3 => by rw [b7 k hk h1 h2 h3, a5 k hk h1 h2], fun a ha => by rw [b8 a ha, a6 a ha], b11, b12⟩
  obtain ⟨o1, o2, o3, o4, o5, o6⟩ := b5 L e
  rw [Nat.zero_add] at o3 o4
  exact ⟨o1, o2, o3, o4, o5⟩
/-- the law comes into the row: its clauses, its codes -/
theorem m_lwA (hS : St n T R) {A cc : Nat} (hc : cc ≤ 12) (hA : A + 900 ≤ 5510) (h21 : I 69 21 = nI cc) : ∃ r, lupF (fun (q : Int32 × mH) => F_X11_law_l110 O d 69 (nI A) q.1 q.2) FU (nI 0, hp u n T I J R) = some r ∧ (fun r => ∃ I2, r = hp u n T I2 J R ∧ (∀ a, a ≠ 71 → I2 a = I a) ∧ (∀ j, j < 8 * cc → I2 71 (A + 2 + j) = I 79 j) ∧ ∀ j, j < A + 2 ∨ A + 2 + 8 * cc ≤ j → I2 71 j = I 71 j) r := by
  refine lup_P0 (fun m s => ∃ I2, s = (nI m, hp u n T I2 J R) ∧ (∀ a, a ≠ 71 → I2 a = I a) ∧ (∀ j, j < m → I2 71 (A + 2 + j) = I 79 j) ∧ ∀ j, j < A + 2 ∨ A + 2 + 8 * cc ≤ j → I2 71 j = I 71 j) _ (N := 8 * cc) (by omega) ⟨_, rfl, fun _ _ => rfl, fun j hj => absurd hj (Nat.not_lt_zero j), fun _ _ => rfl⟩ ?_ ?_
  · intro m s hm ⟨I2, hs, b1, b2, b3⟩
    subst hs
    left
    refine ⟨(nI (m + 1), hp u n T (up2 I2 71 (A + 2 + m) (I 79 m)) J R), ?_, _, rfl, fun a ha => by rw [up2_off _ _ _ ha]; exact b1 a ha, fun j hj => ?_, fun j hj => by rw [up2_nk (by omega)]; exact b3 j hj⟩
    · dsimp only
      unfold F_X11_law_l110
      rw [gi_69_21 hS, Option.bind_some, b1 69 (by decide), h21, nI_mul, if_neg (nI_ge hm (by omega)), ga_69_3 hS, Option.bind_some, ga_69_22 hS, Option.bind_some, rd_79 hS (by omega), Option.bind_some, b1 79 (by decide), nI_add, nI_add, wr_71 hS (by omega), Option.bind_some, nI_add]
    · by_cases e : j = m
      · rw [e, up2_at]
      · rw [up2_nk (by omega)]
        exact b2 j (by omega)
  · intro s ⟨I2, hs, b1, b2, b3⟩
    subst hs
    refine ⟨_, ?_, I2, rfl, b1, b2, b3⟩
    dsimp only
    unfold F_X11_law_l110
    rw [gi_69_21 hS, Option.bind_some, b1 69 (by decide), h21, nI_mul, if_pos (nI_le (Nat.le_refl _) (by omega))]
theorem m_lwB (hS : St n T R) {A nc : Nat} (hc : nc ≤ 400) (hA : A + 900 ≤ 5510) (h23 : I 69 23 = nI nc) : ∃ r, lupF (fun (q : Int32 × mH) => F_X11_law_l145 O d 69 (nI A) q.1 q.2) FU (nI 0, hp u n T I J R) = some r ∧ (fun r => ∃ I2, r = hp u n T I2 J R ∧ (∀ a, a ≠ 71 → I2 a = I a) ∧ (∀ j, j < nc → I2 71 (A + 98 + 2 * j) = I 80 j ∧ I2 71 (A + 98 + 2 * j + 1) = I 81 j) ∧ ∀ j, j < A + 98 ∨ A + 98 + 2 * nc ≤ j → I2 71 j = I 71 j) r := by
  refine lup_P0 (fun m s => ∃ I2, s = (nI m, hp u n T I2 J R) ∧ (∀ a, a ≠ 71 → I2 a = I a) ∧ (∀ j, j < m → I2 71 (A + 98 + 2 * j) = I 80 j ∧ I2 71 (A + 98 + 2 * j + 1) = I 81 j) ∧ ∀ j, j < A + 98 ∨ A + 98 + 2 * nc ≤ j → I2 71 j = I 71 j) _ (N := nc) (by omega) ⟨_, rfl, fun _ _ => rfl, fun j hj => absurd hj (Nat.not_lt_zero j), fun _ _ => rfl⟩ ?_ ?_
  · intro m s hm ⟨I2, hs, b1, b2, b3⟩
    subst hs
    left
    refine ⟨(nI (m + 1), hp u n T (up2 (up2 I2 71 (A + 98 + 2 * m) (I 80 m)) 71 (A + 98 + 2 * m + 1) (I 81 m)) J R), ?_, _, rfl, fun a ha => by rw [up2_off _ _ _ ha, up2_off _ _ _ ha]; exact b1 a ha, fun j hj => ?_, fun j hj => by rw [up2_nk (by omega), up2_nk (by omega)]; exact b3 j hj⟩
    · dsimp only
      unfold F_X11_law_l145
      rw [gi_69_23 hS, Option.bind_some, b1 69 (by decide), h23, if_neg (nI_ge hm (by omega)), ga_69_3 hS, Option.bind_some, ga_69_24 hS, Option.bind_some, rd_80 hS (by omega), Option.bind_some, b1 80 (by decide), nI_mul, nI_add, nI_add, wr_71 hS (by omega), Option.bind_some, ga_69_3 hS, Option.bind_some, ga_69_25 hS, Option.bind_some, rd_81 hS (by omega), Option.bind_some, up2_na (by decide), b1 81 (by decide), nI_add, wr_71 hS (by omega), Option.bind_some, nI_add]
    · by_cases e : j = m
      · rw [e, up2_nk (by omega), up2_at, up2_at]
        exact ⟨rfl, rfl⟩
      · rw [up2_nk (by omega), up2_nk (by omega), up2_nk (by omega), up2_nk (by omega)]
        exact b2 j (by omega)
  · intro s ⟨I2, hs, b1, b2, b3⟩
    subst hs
    refine ⟨_, ?_, I2, rfl, b1, b2, b3⟩
    dsimp only
    unfold F_X11_law_l145
    rw [gi_69_23 hS, Option.bind_some, b1 69 (by decide), h23, if_pos (nI_le (Nat.le_refl _) (by omega))]
theorem tape_b (h23 : ∀ k, k < t → I 23 k &&& 255 = I 78 k ∧ Nn (I 78 k) 255) : ∃ b : Nat → Nat, (∀ k, b k ≤ 255) ∧ (∀ k, k < t → I 78 k = nI (b k)) ∧ ∀ k, k < t → I 23 k &&& 255 = nI (b k) := by
  refine ⟨fun k => if k < t ∧ (I 78 k).toNatClampNeg ≤ 255 then (I 78 k).toNatClampNeg else 0, fun k => ?_, fun k hk => ?_, fun k hk => ?_⟩
  · show (if k < t ∧ (I 78 k).toNatClampNeg ≤ 255 then (I 78 k).toNatClampNeg else 0) ≤ 255
    split
    · rename_i z
      exact z.2
    · omega
  · obtain ⟨a, ha, e⟩ := (h23 k hk).2
    show I 78 k = nI (if k < t ∧ (I 78 k).toNatClampNeg ≤ 255 then (I 78 k).toNatClampNeg else 0)
    rw [e, cl_nI (by omega), if_pos ⟨hk, ha⟩]
  · obtain ⟨a, ha, e⟩ := (h23 k hk).2
    show I 23 k &&& 255 = nI (if k < t ∧ (I 78 k).toNatClampNeg ≤ 255 then (I 78 k).toNatClampNeg else 0)
    rw [(h23 k hk).1, e, cl_nI (by omega), if_pos ⟨hk, ha⟩]
theorem b_law (hc : c < 512) (hI : Inv c K) : Bo O Inv MX10_law MX11_law [] c K := by
  obtain ⟨u, n, T, I, J, R, g, h, V, F, D, S, N, x, s, rfl, hI⟩ := hI
  obtain ⟨hS, hn, gg, hh, hG, hH, hw, hgd, hg⟩ := Iv_all hI
  obtain ⟨⟨v5, f4, d8, s8, n6⟩, ⟨w0, w1, w2, w3, w4⟩, hf, hs, hfam, hwi, hsn, hlw⟩ := hw
  obtain ⟨⟨c1, c2, c3, c4, c5, c6, c7, c8, c9, c10, c11, c12⟩, q1, q2, q3, q4, q5, q6, q7, q8, q9, q10, q11, ql⟩ := hgd
  obtain ⟨⟨b1, b2, b3, b4, b5⟩, b6, b7, b8, b9, b10⟩ := hI.2.2.2.2.2.2.2.1
  have hJ := hI.2.2.2.2.2.2.2.2.2
  have hu := hI.2.2.2.2.1
  have hw := hI.2.2.1
  have hgd := hI.2.2.2.1
  have gh := hI.2.1
  have nb := hI.1.2.1
  have ub := hI.1.2.2
  have n98 : 98 ≤ n := hS.1.1
  have oBe : oB = 1000000 := rfl
  obtain ⟨t, ht, t1, t2, t3⟩ := hI.2.2.2.2.2.2.1
  obtain ⟨b, hb, b78, b23⟩ := tape_b t3
  have tk : ∀ {I : Nat → Nat → Int32}, ev O 199 MX10_takeTape [.ref 0] (hp u n T I J R) = some (some (.int (I 0 12)), hp u n T (up2 I 0 12 (nI 0)) J R) := v_takeTape (d := 198) hS
  have i1g : up2 I 0 12 (nI 0) g 16 = nI N := by rw [up2_na (by omega)]; exact c11
  by_cases h6 : N = 6
  · refine Bo_i (u1 := u) (a := -5) (I1 := up2 (up2 (up2 I 0 12 (nI 0)) 0 16 (-5)) 24 3 (I 24 3 + nI 1)) (J1 := J) (J2 := J) (I2 := up2 (up2 (up2 (up2 (up2 (up2 (up2 I 0 12 (nI 0)) 0 16 (-5)) 24 3 (I 24 3 + nI 1)) 69 0 (nI 0)) 69 13 (nI 0)) 69 1 (-5)) 70 5 (I 70 5 + nI 1)) (e_X10_law (d := 199) ?_) hS (e_X11_law (d := 199) ?_) (IvW.e (Iv_txt hI (fun a ha => ?_) ?_ ?_ ?_ ?_ ?_ ?_ hJ))
    · unfold F_X10_law
      rw [vc_0 hS, tk, toI_i, Option.bind_some]
      dsimp only
      rw [gg, Option.bind_some, gi_g_16 hG hn, Option.bind_some, i1g, h6, if_neg (by decide), vc_0 hS, v_refused hS (pl := 3) (by decide) (by decide), toI_i, Option.bind_some]
      dsimp only
      rw [up2_na (by decide)]
    · unfold F_X11_law
      rw [pi_69_0 hS, Option.bind_some, ga_69_3 hS, Option.bind_some, rd_71 hS (by decide), Option.bind_some, up2_na (by decide), up2_na (by decide), up2_na (by decide), up2_na (by decide), w4, h6, if_pos rfl, pi_69_13 hS, Option.bind_some, vc_69 hS, v_tell_5 hS, toI_i, Option.bind_some]
      dsimp only
      rw [up2_na (by decide), up2_na (by decide), up2_na (by decide), up2_na (by decide), up2_na (by decide)]
    · unfold rl at ha
      rw [up2_off _ _ _ (by omega), up2_off _ _ _ (by omega), up2_off _ _ _ (by omega), up2_off _ _ _ (by omega), up2_off _ _ _ (by omega), up2_off _ _ _ (by omega), up2_off _ _ _ (by omega)]
    all_goals (try (simp (disch := omega) only [up2_at, up2_na, up2_nk]; done))
    · refine ⟨⟨?_, ?_, ?_, ?_, ?_⟩, ?_, ?_, ?_, ?_, ?_⟩
      all_goals simp (disch := omega) only [up2_at, up2_na, up2_nk]
      all_goals first
        | exact b1
        | exact b2
        | exact b3
        | exact b5
        | exact b6
        | exact b7
        | exact b8
        | exact b10
        | rw [b9]
  · have hN : N < 6 := by have := c12; omega
    have hr0 : ∃ r, gX false (fT b t) 12 0 0 = some r ∧ ((∃ j, r = .inl j) ∨ ∃ L, r = .inr L ∧ L.length ≤ 12 ∧ (∀ x, x ∈ L → ClO false x) ∧ (lnL L).1 ≤ 400 ∧ (lnL L).2 ≤ 400) := by
      have tl := tkN_le (b := b) (t := t)
      rcases gX_ok (md := false) (T := tkN b t) (f := fT b t) (by omega) (fun k => fT_lt) 12 0 0 (Nat.zero_le _) (by decide) with ⟨j, e, _⟩ | ⟨L, e, l1, l2, l3, l4, l5⟩
      · exact ⟨_, e, Or.inl ⟨j, rfl⟩⟩
      · exact ⟨_, e, Or.inr ⟨L, rfl, l2, l3, by omega, by omega⟩⟩
    obtain ⟨r, hr, hr2⟩ := hr0
    obtain ⟨v, I2, e2, f2, f3, f4⟩ := c_readText (O := O) (u := u) (J := J) (d := 12) (md := false) (I := up2 I 0 12 (nI 0)) hS hb ht (fun k hk => by rw [up2_na (by decide)]; exact b23 k hk) hr
    have e2 : ev O 199 MX6_readText [.ref 1, .ref 23, .int (nI t), .int (nI 0)] (hp u n T (up2 I 0 12 (nI 0)) J R) = some (some (.int v), hp u n T I2 J R) := e2
    have I2o : ∀ a, 6 < a → I2 a = I a := fun a ha => by rw [f2 a (by omega) (by omega) (by omega) (by omega) (by omega) (by omega), up2_off _ _ _ (by omega)]
    have I20 : I2 0 = up2 I 0 12 (nI 0) 0 := f2 0 (by decide) (by decide) (by decide) (by decide) (by decide) (by decide)
    have hd : ∀ {y}, (if v = 0 then (toI (ev O 199 MX10_refused [.ref 0, .int (-6)] (hp u n T (up2 I2 0 13 (I2 1 6)) J R))).bind fun p26 => some (p26.1, p26.2) else (toR (ev O 199 MX5_trimmed [.ref 2] (hp u n T (up2 I2 0 13 (I2 1 6)) J R))).bind fun p18 => (wrR p18.2 (g + 10) (nI N) p18.1).bind fun K19 => (gtA K19 0 10 10).bind fun x20 => (gtI K19 x20 2 16).bind fun x21 => (ptI K19 x20 2 16 (x21 + (nI 1))).bind fun K22 => (gtA K22 0 10 10).bind fun x23 => (gtI K22 x23 2 16).bind fun x24 => (toI (vc O 199 10 MX10_granted 0 [.int (x24 - (nI 1))] K22)).bind fun p25 => some (p25.1, p25.2)) = y → F_X10_law O 199 0 (hp u n T I J R) = y := by
      intro y e
      have gN : up2 I2 0 13 (I2 1 6) g 16 = nI N := by rw [up2_na (by omega), I2o g (by omega)]; exact c11
      unfold F_X10_law
      rw [vc_0 hS, tk, toI_i, Option.bind_some]
      dsimp only
      rw [gg, Option.bind_some, gi_g_16 hG hn, Option.bind_some, i1g, if_pos ((nI_ltI (by omega) (by omega)).mpr hN), ga_0_0 hS, Option.bind_some, ga_0_5 hS, Option.bind_some, vc_1 hS, t1, e2, toI_i, Option.bind_some]
      dsimp only
      rw [ga_0_0 hS, Option.bind_some, gi_1_6 hS, Option.bind_some, pi_0_13 hS, Option.bind_some, vc_0 hS, gg, Option.bind_some, ga_g_10 hG hn, Option.bind_some, Option.bind_some, gi_g_16 hG hn, Option.bind_some, gN, ga_0_0 hS, Option.bind_some, ga_1_0 hS, Option.bind_some, vc_2 hS]
      exact e
    rcases hr2 with ⟨j, rfl⟩ | ⟨L, rfl, l2, l3, l4, l5⟩
    · -- a fault
      obtain ⟨v0, v6⟩ := f3 j rfl
      let Ic : Nat → Nat → Int32 := up2 (up2 (up2 I2 0 13 (I2 1 6)) 0 16 (-6)) 24 4 (up2 I2 0 13 (I2 1 6) 24 4 + nI 1)
      have Ico : ∀ a, 6 < a → a ≠ 24 → Ic a = I a := fun a h1 h2 => by
        show up2 (up2 (up2 I2 0 13 (I2 1 6)) 0 16 (-6)) 24 4 (up2 I2 0 13 (I2 1 6) 24 4 + nI 1) a = I a
        rw [up2_off _ _ _ h2, up2_off _ _ _ (by omega), up2_off _ _ _ (by omega), I2o a h1]
      have i24 : up2 I2 0 13 (I2 1 6) 24 = I 24 := by rw [up2_off _ _ _ (by decide), I2o 24 (by decide)]
      obtain ⟨I3, J3, I4, J4, I5, J5, I6, J6, m1, m2, m3, m4, m5, m6, m7, m8, m9, m10, m11⟩ := m_textL (O := O) (u := u) (I := up2 Ic 69 0 (nI 0)) (J := J) hS hb ht (fun k hk => by rw [up2_na (by decide), Ico 78 (by decide) (by decide)]; exact b78 k hk) (by rw [up2_nk (by decide), Ico 69 (by decide) (by decide)]; exact t2) hJ hr
      obtain ⟨z1, z2⟩ := m5 j rfl
      have f0 : ∀ k, k ≠ 12 → k ≠ 13 → k ≠ 16 → I6 0 k = I 0 k := fun k h1 h2 h3 => by
        rw [m7 0 (by decide) (by decide) (by decide) (by decide) (by decide) (by decide), up2_na (by decide)]
        show up2 (up2 (up2 I2 0 13 (I2 1 6)) 0 16 (-6)) 24 4 (up2 I2 0 13 (I2 1 6) 24 4 + nI 1) 0 k = I 0 k
        rw [up2_na (by decide), up2_nk h3, up2_nk h2, I20, up2_nk h1]
      have f012 : I6 0 12 = nI 0 := by
        rw [m7 0 (by decide) (by decide) (by decide) (by decide) (by decide) (by decide), up2_na (by decide)]
        show up2 (up2 (up2 I2 0 13 (I2 1 6)) 0 16 (-6)) 24 4 (up2 I2 0 13 (I2 1 6) 24 4 + nI 1) 0 12 = nI 0
        rw [up2_na (by decide), up2_nk (by decide), up2_nk (by decide), I20, up2_at]
      have f013 : I6 0 13 = nI (plN b t j) := by
        rw [m7 0 (by decide) (by decide) (by decide) (by decide) (by decide) (by decide), up2_na (by decide)]
        show up2 (up2 (up2 I2 0 13 (I2 1 6)) 0 16 (-6)) 24 4 (up2 I2 0 13 (I2 1 6) 24 4 + nI 1) 0 13 = _
        rw [up2_na (by decide), up2_nk (by decide), up2_at, v6]
      have f016 : I6 0 16 = -6 := by
        rw [m7 0 (by decide) (by decide) (by decide) (by decide) (by decide) (by decide), up2_na (by decide)]
        show up2 (up2 (up2 I2 0 13 (I2 1 6)) 0 16 (-6)) 24 4 (up2 I2 0 13 (I2 1 6) 24 4 + nI 1) 0 16 = -6
        rw [up2_na (by decide), up2_at]
      have f24 : ∀ k, I6 24 k = if k = 4 then I 24 4 + nI 1 else I 24 k := fun k => by
        rw [m7 24 (by decide) (by decide) (by decide) (by decide) (by decide) (by decide), up2_na (by decide)]
        show up2 (up2 (up2 I2 0 13 (I2 1 6)) 0 16 (-6)) 24 4 (up2 I2 0 13 (I2 1 6) 24 4 + nI 1) 24 k = _
        by_cases e : k = 4
        · rw [e, up2_at, i24, if_pos rfl]
        · rw [up2_nk e, up2_off _ _ _ (by decide), i24, if_neg e]
      have f70 : I6 70 = I 70 := by
        rw [m7 70 (by decide) (by decide) (by decide) (by decide) (by decide) (by decide), up2_off _ _ _ (by decide), Ico 70 (by decide) (by decide)]
      have f69 : ∀ k, Mf k = false → k ≠ 21 → k ≠ 20 → k ≠ 13 → k ≠ 0 → I6 69 k = I 69 k := fun k h1 h2 h3 h4 h5 => by
        rw [m8 k h1 h2 h3 h4, up2_nk h5, Ico 69 (by decide) (by decide)]
      refine Bo_i (u1 := u) (a := -6) (I1 := Ic) (J1 := J) (J2 := J6) (I2 := up2 (up2 I6 69 1 (-6)) 70 6 (I6 70 6 + nI 1)) (e_X10_law (d := 199) (hd ?_)) hS (e_X11_law (d := 199) ?_) (IvW.e (Iv_txt hI (fun a ha => ?_) ?_ ?_ ?_ ?_ ?_ ?_ (Cns_cg hJ m9)))
      · rw [v0, if_pos (show nI 0 = 0 from rfl), v_refused hS (pl := 4) (by decide) (by decide), toI_i, Option.bind_some]
      · unfold F_X11_law F_X11_law_j64
        rw [pi_69_0 hS, Option.bind_some, ga_69_3 hS, Option.bind_some, rd_71 hS (by decide), Option.bind_some, up2_na (by decide), Ico 71 (by decide) (by decide), w4, if_neg (fun z => h6 ((nI_eq (by omega) (by omega)).mp z)), vc_69 hS, m1, toV_v, Option.bind_some, vc_69 hS, m2, toV_v, Option.bind_some, m3, Option.bind_some, vc_69 hS, m4, toV_v, Option.bind_some, gi_69_19 hS, Option.bind_some, z1, if_neg (show ¬ nI 1 = 0 by decide), vc_69 hS, v_tell_6 hS, toI_i, Option.bind_some]
      · unfold rl at ha
        rw [up2_off _ _ _ (by omega), up2_off _ _ _ (by omega), m7 a (by omega) (by omega) (by omega) (by omega) (by omega) (by omega), up2_off _ _ _ (by omega), Ico a (by omega) (by omega)]
      · rw [up2_na (by decide), up2_na (by decide), f012]
      · rw [up2_na (by decide), up2_nk (by decide), f69 8 (by decide) (by decide) (by decide) (by decide) (by decide)]
      · rw [up2_na (by decide), up2_nk (by decide), m11]
      · rw [up2_na (by decide), up2_nk (by decide), f69 54 (by decide) (by decide) (by decide) (by decide) (by decide)]
      · rw [up2_na (by decide), up2_nk (by decide), f69 55 (by decide) (by decide) (by decide) (by decide) (by decide)]
      · have g69 : ∀ k, k ≠ 1 → up2 (up2 I6 69 1 (-6)) 70 6 (I6 70 6 + nI 1) 69 k = I6 69 k := fun k hk => by rw [up2_na (by decide), up2_nk hk]
        have g0 : up2 (up2 I6 69 1 (-6)) 70 6 (I6 70 6 + nI 1) 0 = I6 0 := by rw [up2_off _ _ _ (by decide), up2_off _ _ _ (by decide)]
        have g24 : up2 (up2 I6 69 1 (-6)) 70 6 (I6 70 6 + nI 1) 24 = I6 24 := by rw [up2_off _ _ _ (by decide), up2_off _ _ _ (by decide)]
        have g70 : ∀ k, k ≠ 6 → up2 (up2 I6 69 1 (-6)) 70 6 (I6 70 6 + nI 1) 70 k = I 70 k := fun k hk => by rw [up2_nk hk, up2_off _ _ _ (by decide), f70]
        refine ⟨⟨?_, ?_, ?_, ?_, ?_⟩, ?_, ?_, ?_, ?_, ?_⟩
        · rw [g0, g69 18 (by decide), f013, z2]
        · rw [g0, g69 50 (by decide), f0 14 (by decide) (by decide) (by decide), f69 50 (by decide) (by decide) (by decide) (by decide) (by decide)]
          exact b2
        · rw [g0, g69 11 (by decide), f0 15 (by decide) (by decide) (by decide), f69 11 (by decide) (by decide) (by decide) (by decide) (by decide)]
          exact b3
        · rw [g0, f016, up2_na (by decide), up2_at]
        · rw [g69 20 (by decide), m10]
        · rw [g24, g70 1 (by decide), f24 0, if_neg (by decide)]
          exact b6
        · rw [g24, g70 2 (by decide), f24 1, if_neg (by decide)]
          exact b7
        · rw [g24, g70 3 (by decide), f24 2, if_neg (by decide)]
          exact b8
        · rw [g24, g70 5 (by decide), f24 3, if_neg (by decide)]
          exact b9
        · rw [g24, f24 4, if_pos rfl, up2_at, f70, b10]
    · -- the law stands
      obtain ⟨vE, v6, v22, v23, vT⟩ := f4 L rfl
      have x22 : up2 I2 0 13 (I2 1 6) 2 2 = nI (lnL L).1 := by rw [up2_na (by decide)]; exact v22
      have x23 : up2 I2 0 13 (I2 1 6) 2 3 = nI L.length := by rw [up2_na (by decide)]; exact v23
      obtain ⟨T', It, Jt, Rt, tr, lo, hP, p2, p3, p4, p5⟩ := c_trim (O := O) (d := 197) (u := u) (J := J) hS (by omega) x22 x23 l4 l2
      have hTl : ∀ a, a < n → T' a = T a := fun a ha => (lo a ha).1
      have hSt : St (n + 3) T' Rt := St_o hS (by omega) (by omega) hTl (fun a ha _ _ _ _ => (lo a (by omega)).2.2.2)
      have hGt : IsG (n + 3) T' Rt g := IsG_o hG (by omega) hTl (lo g (by omega)).2.2.2
      let Rn' : Nat → Nat → Option Nat := up2 Rt (g + 10) N (some n)
      have Rlo : ∀ a, a < n → a ≠ g + 10 → Rn' a = R a := fun a h1 h2 => by
        show up2 Rt (g + 10) N (some n) a = R a
        rw [up2_off _ _ _ h2, (lo a h1).2.2.2]
      have hSn : St (n + 3) T' Rn' := St_o hS (by omega) (by omega) hTl (fun a h1 h2 h3 h4 h5 => Rlo a (by omega) (by omega))
      have hGn : IsG (n + 3) T' Rn' g := IsG_o hG (by omega) hTl (Rlo g (by omega) (by omega))
      have Ilo : ∀ a, a < n → 6 < a → It a = I a := fun a h1 h2 => by rw [(lo a h1).2.1, up2_off _ _ _ (by omega), I2o a h2]
      let Ic : Nat → Nat → Int32 := up2 (up2 It g 16 (nI (N + 1))) 0 16 (nI 0)
      have Ico : ∀ a, a < n → 6 < a → a ≠ g → Ic a = I a := fun a h1 h2 h3 => by
        show up2 (up2 It g 16 (nI (N + 1))) 0 16 (nI 0) a = I a
        rw [up2_off _ _ _ (by omega), up2_off _ _ _ h3, Ilo a h1 h2]
      have Icp : ∀ a, n ≤ a → Ic a = It a := fun a h1 => by
        show up2 (up2 It g 16 (nI (N + 1))) 0 16 (nI 0) a = It a
        rw [up2_off _ _ _ (by omega), up2_off _ _ _ (by omega)]
      have J3e : ∀ a, a < n → Jt a = J a := fun a ha => (lo a ha).2.2.1
      have hJt : Cns Jt := by
        unfold Cns
        rw [J3e 84 (by omega), J3e 85 (by omega), J3e 86 (by omega), J3e 95 (by omega)]
        exact hJ
      obtain ⟨I3, J3, I4, J4, I5, J5, I6, J6, m1, m2, m3, m4, m5, m6, m7, m8, m9, m10, m11⟩ := m_textL (O := O) (u := u + 4 + (lnL L).1 + L.length * 6) (n := n + 3) (T := T') (R := Rn') (I := up2 Ic 69 0 (nI 0)) (J := Jt) hSn hb ht (fun k hk => by rw [up2_na (by decide), Ico 78 (by omega) (by decide) (by omega)]; exact b78 k hk) (by rw [up2_nk (by decide), Ico 69 (by omega) (by decide) (by omega)]; exact t2) hJt hr
      obtain ⟨z1, z2, z3, z4, z5⟩ := m6 L rfl
      have i671 : I6 71 = I 71 := by rw [m7 71 (by decide) (by decide) (by decide) (by decide) (by decide) (by decide), up2_off _ _ _ (by decide), Ico 71 (by omega) (by decide) (by omega)]
      have A5 : 110 + 900 * N + 900 ≤ 5510 := by omega
      obtain ⟨rA, eA, I7, rfl, k1, k2, k3⟩ := m_lwA (O := O) (d := 199) (u := u + 4 + (lnL L).1 + L.length * 6) (J := J6) (I := up2 I6 71 (110 + 900 * N + 1) (nI L.length)) (A := 110 + 900 * N) hSn l2 A5 (by rw [up2_na (by decide)]; exact z3)
      obtain ⟨rB, eB, I8, rfl, n1, n2, n3⟩ := m_lwB (O := O) (d := 199) (u := u + 4 + (lnL L).1 + L.length * 6) (J := J6) (I := I7) (A := 110 + 900 * N) hSn l5 A5 (by rw [k1 69 (by decide), up2_na (by decide)]; exact z4)
      have r4 : I8 71 4 = nI N := by rw [n3 4 (by omega), k3 4 (by omega), up2_nk (by omega), i671]; exact w4
      let I9 : Nat → Nat → Int32 := up2 (up2 I8 71 4 (nI (N + 1))) 69 1 (nI 0)
      have o8 : ∀ a, a ≠ 71 → I8 a = I6 a := fun a ha => by rw [n1 a ha, k1 a ha, up2_off _ _ _ ha]
      have o9 : ∀ a, a ≠ 69 → a ≠ 71 → I9 a = I6 a := fun a h1 h2 => by
        show up2 (up2 I8 71 4 (nI (N + 1))) 69 1 (nI 0) a = _
        rw [up2_off _ _ _ h1, up2_off _ _ _ h2, o8 a h2]
      have o969 : ∀ k, k ≠ 1 → I9 69 k = I6 69 k := fun k hk => by
        show up2 (up2 I8 71 4 (nI (N + 1))) 69 1 (nI 0) 69 k = _
        rw [up2_nk hk, up2_off _ _ _ (by decide), o8 69 (by decide)]
      have r9 : ∀ i, i ≠ 4 → I9 71 i = I8 71 i := fun i hi => by
        show up2 (up2 I8 71 4 (nI (N + 1))) 69 1 (nI 0) 71 i = _
        rw [up2_na (by decide), up2_nk hi]
      have f69 : ∀ k, Mf k = false → k ≠ 21 → k ≠ 20 → k ≠ 13 → k ≠ 0 → I6 69 k = I 69 k := fun k h1 h2 h3 h4 h5 => by
        rw [m8 k h1 h2 h3 h4, up2_nk h5, Ico 69 (by omega) (by decide) (by omega)]
      have f6o : ∀ a, a ≠ 69 → a ≠ 80 → a ≠ 81 → a ≠ 82 → a ≠ 83 → a ≠ 79 → I6 a = Ic a := fun a h1 h2 h3 h4 h5 h6 => by rw [m7 a h1 h2 h3 h4 h5 h6, up2_off _ _ _ h1]
      have i0 : It 0 = up2 I2 0 13 (I2 1 6) 0 := (lo 0 (by omega)).2.1
      have f0 : ∀ k, k ≠ 12 → k ≠ 13 → k ≠ 16 → I9 0 k = I 0 k := fun k h1 h2 h3 => by
        rw [o9 0 (by decide) (by decide), f6o 0 (by decide) (by decide) (by decide) (by decide) (by decide) (by decide)]
        show up2 (up2 It g 16 (nI (N + 1))) 0 16 (nI 0) 0 k = I 0 k
        rw [up2_nk h3, up2_na (by omega), i0, up2_nk h2, I20, up2_nk h1]
      have f012 : I9 0 12 = nI 0 := by
        rw [o9 0 (by decide) (by decide), f6o 0 (by decide) (by decide) (by decide) (by decide) (by decide) (by decide)]
        show up2 (up2 It g 16 (nI (N + 1))) 0 16 (nI 0) 0 12 = nI 0
        rw [up2_nk (by decide), up2_na (by omega), i0, up2_nk (by decide), I20, up2_at]
      have f013 : I9 0 13 = -1 := by
        rw [o9 0 (by decide) (by decide), f6o 0 (by decide) (by decide) (by decide) (by decide) (by decide) (by decide)]
        show up2 (up2 It g 16 (nI (N + 1))) 0 16 (nI 0) 0 13 = -1
        rw [up2_nk (by decide), up2_na (by omega), i0, up2_at, v6]
      have f016 : I9 0 16 = nI 0 := by
        rw [o9 0 (by decide) (by decide), f6o 0 (by decide) (by decide) (by decide) (by decide) (by decide) (by decide)]
        exact up2_at _ _ _ _
      have f24 : I9 24 = I 24 := by
        rw [o9 24 (by decide) (by decide), f6o 24 (by decide) (by decide) (by decide) (by decide) (by decide) (by decide), Ico 24 (by omega) (by decide) (by omega)]
      have f70 : I9 70 = I 70 := by
        rw [o9 70 (by decide) (by decide), f6o 70 (by decide) (by decide) (by decide) (by decide) (by decide) (by decide), Ico 70 (by omega) (by decide) (by omega)]
      have pP : ∀ a, n ≤ a → I9 a = It a := fun a ha => by rw [o9 a (by omega) (by omega), f6o a (by omega) (by omega) (by omega) (by omega) (by omega) (by omega), Icp a ha]
      have hNw : NwL I2 I6 I9 (I9 71) L n (110 + 900 * N) := by
        refine ⟨⟨vT, z5, l3, l2, l4, l5⟩, ⟨by rw [pP n (Nat.le_refl n)]; exact p2, by rw [pP n (Nat.le_refl n)]; exact p3, fun i hi => by rw [pP (n + 1) (by omega), p4 i hi, up2_na (by decide)], fun i hi => by rw [pP (n + 2) (by omega), p5 i hi, up2_na (by decide)]⟩, ?_, fun i hi => ?_, fun i hi => ?_⟩
        · rw [r9 _ (by omega), n3 _ (by omega), k3 _ (by omega), up2_at]
        · rw [r9 _ (by omega), n3 _ (by omega), k2 i hi, up2_na (by decide)]
        · rw [r9 _ (by omega), r9 _ (by omega), (n2 i hi).1, (n2 i hi).2, k1 80 (by decide), k1 81 (by decide), up2_na (by decide), up2_na (by decide)]
          exact ⟨rfl, rfl⟩
      have hPr : PrV (n + 3) T' I9 Rn' n (lnL L).1 L.length := by
        refine ⟨(lnL L).1, L.length * 6, ?_, Nat.le_refl _, Nat.le_refl _, l2, by rw [pP n (Nat.le_refl n)]; exact p2, by rw [pP n (Nat.le_refl n)]; exact p3, fun i hi => ?_, fun i hi => ?_⟩
        · unfold IsP at hP ⊢
          rw [show Rn' n = Rt n from up2_off _ _ _ (by omega)]
          exact hP
        · obtain ⟨y, y1, y2, y3⟩ := TxC_st L 0 0 vT l3 i (Nat.zero_le i) (by omega)
          refine ⟨y.1, y1, ?_⟩
          rw [pP (n + 1) (by omega), p4 i hi, up2_na (by decide), y3]
          unfold cEn
          rw [nI_15 (by split <;> omega)]
          exact congrArg nI (by omega)
        · obtain ⟨y, s', r', e1, e2', e3, e4, e5⟩ := both_get L 0 0 0 vT z5 (i / 6) (by omega)
          rw [Nat.zero_add] at e2' e4
          have hO := l3 y e1
          obtain ⟨a1, a2, a3, a4, a5, a6, a7⟩ := e2'
          have ln : lnC y = y.2.2.1.length + y.2.2.2.2.1.length + y.2.2.2.2.2.2.1.length := rfl
          rw [pP (n + 2) (by omega), p5 i hi, up2_na (by decide)]
          have h1 := hO.1
          have h20 := hO.2.2.1
          rcases (show i = i / 6 * 6 ∨ i = i / 6 * 6 + 1 ∨ i = i / 6 * 6 + 2 ∨ i = i / 6 * 6 + 3 ∨ i = i / 6 * 6 + 4 ∨ i = i / 6 * 6 + 5 by omega) with z | z | z | z | z | z <;> rw [z]
          · exact ⟨_, by omega, a1⟩
          · exact ⟨_, by omega, a2⟩
          · exact ⟨_, by omega, a3⟩
          · exact ⟨_, by omega, a4⟩
          · exact ⟨_, by omega, a5⟩
          · exact ⟨_, by omega, a6⟩
      refine Bo_of (u := u + 4 + (lnL L).1 + L.length * 6) (n := n + 3) (T := T') (I := Ic) (J := Jt) (R := Rn') (a := nI N) (K2 := hp (u + 4 + (lnL L).1 + L.length * 6) (n + 3) T' I9 J6 Rn') (e_X10_law (d := 199) (hd ?_)) hSn (e_X11_law (d := 199) ?_) ⟨_, n + 3, T', I9, J6, Rn', g, h, V, F, D, S, N + 1, x, s, rfl, Iv_law (sc := (lnL L).1) (cc := L.length) hI hN (by omega) (by omega) hTl Rlo (up2_at _ _ _ _) (fun j hj => ?_) (fun a h1 h2 h3 h4 h5 h6 h7 h8 h9 h10 h11 h12 => ?_) ?_ (fun j hj => ?_) (fun i h1 h2 => ?_) ?_ hPr (NwL_M hNw) (NwL_E hNw) f012 ?_ ?_ ?_ ?_ ?_ (Cns_cg hJt m9)⟩
      · have gR : Rn' 0 10 = some g := by rw [Rlo 0 (by omega) (by omega)]; exact gh.2.1
        have g16 : It g 16 = nI N := by rw [Ilo g (by omega) (by omega)]; exact c11
        rw [vE, if_neg (show ¬ nI 1 = 0 by decide), tr, toR_r, Option.bind_some]
        dsimp only
        rw [wrR_hp hGt.2.1.2.2.2.2.2.2.2.2.2 (by omega) (by omega) (by decide) hN (Or.inr ⟨n, rfl, by omega, by omega, hP.1⟩), Option.bind_some, ga_gr hSn gR, Option.bind_some, gi_g_16 hGn (by omega), Option.bind_some, g16, nI_add, pi_g_16 hGn (by omega), Option.bind_some, ga_gr hSn gR, Option.bind_some, gi_g_16 hGn (by omega), Option.bind_some, up2_at, nI_sub (by omega), Nat.add_sub_cancel, vc_0 hSn, v_granted hSn, toI_i, Option.bind_some]
      · unfold F_X11_law F_X11_law_j64
        rw [pi_69_0 hSn, Option.bind_some, ga_69_3 hSn, Option.bind_some, rd_71 hSn (by decide), Option.bind_some, up2_na (by decide), Ico 71 (by omega) (by decide) (by omega), w4, if_neg (fun z => h6 ((nI_eq (by omega) (by omega)).mp z)), vc_69 hSn, m1, toV_v, Option.bind_some, vc_69 hSn, m2, toV_v, Option.bind_some, m3, Option.bind_some, vc_69 hSn, m4, toV_v, Option.bind_some, gi_69_19 hSn, Option.bind_some, z1, if_pos (show nI 0 = 0 from rfl), ga_69_3 hSn, Option.bind_some, rd_71 hSn (by decide), Option.bind_some, i671, w4, Option.bind_some, gi_69_21 hSn, Option.bind_some, z3, nI_mul, nI_add, nI_add, wr_71 hSn (by omega), Option.bind_some, eA, Option.bind_some, eB, Option.bind_some, ga_69_3 hSn, Option.bind_some, rd_71 hSn (by decide), Option.bind_some, r4, nI_add, wr_71 hSn (by decide), Option.bind_some, ga_69_3 hSn, Option.bind_some, rd_71 hSn (by decide), Option.bind_some, up2_at, nI_sub (by omega), Nat.add_sub_cancel, vc_69 hSn, v_tell0 hSn (by omega), toI_i, Option.bind_some]
      · show up2 Rt (g + 10) N (some n) (g + 10) j = R (g + 10) j
        rw [up2_nk hj, (lo (g + 10) (by omega)).2.2.2]
      · rw [o9 a h4 h6, f6o a h4 h8 h9 h10 h11 h7, Ico a h1 h2 h12]
      · rw [o9 g (by omega) (by omega), f6o g (by omega) (by omega) (by omega) (by omega) (by omega) (by omega)]
        show up2 (up2 It g 16 (nI (N + 1))) 0 16 (nI 0) g 16 = _
        rw [up2_na (by omega), up2_at]
      · rw [o9 g (by omega) (by omega), f6o g (by omega) (by omega) (by omega) (by omega) (by omega) (by omega)]
        show up2 (up2 It g 16 (nI (N + 1))) 0 16 (nI 0) g j = _
        rw [up2_na (by omega), up2_nk hj, Ilo g (by omega) (by omega)]
      · rw [r9 i h1, n3 i (by omega), k3 i (by omega), up2_nk (by omega), i671]
      · show up2 (up2 I8 71 4 (nI (N + 1))) 69 1 (nI 0) 71 4 = _
        rw [up2_na (by decide), up2_at]
      · rw [o969 8 (by decide), f69 8 (by decide) (by decide) (by decide) (by decide) (by decide)]
      · rw [o969 13 (by decide), m11]
      · rw [o969 54 (by decide), f69 54 (by decide) (by decide) (by decide) (by decide) (by decide)]
      · rw [o969 55 (by decide), f69 55 (by decide) (by decide) (by decide) (by decide) (by decide)]
      · refine ⟨⟨?_, ?_, ?_, ?_, ?_⟩, ?_⟩
        · rw [f013, o969 18 (by decide), z2]
        · rw [f0 14 (by decide) (by decide) (by decide), o969 50 (by decide), f69 50 (by decide) (by decide) (by decide) (by decide) (by decide)]
          exact b2
        · rw [f0 15 (by decide) (by decide) (by decide), o969 11 (by decide), f69 11 (by decide) (by decide) (by decide) (by decide) (by decide)]
          exact b3
        · rw [f016]
          exact (up2_at _ _ _ _).symm
        · rw [o969 20 (by decide), m10]
        · rw [f24, f70]
          exact ⟨b6, b7, b8, b9, b10⟩
end LW2
