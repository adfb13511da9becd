/-! calls: orders -/
section OR2
variable {O : mO} {Lx : Nat} {xs : Nat → Int32} {c : Nat} {K : mH}
theorem b_orders (hO : O = mOl Lx xs) (hI : Inv c K) : Bo O Inv MX10_orders MX11_orders [] c K := by
  obtain ⟨u, n, T, I, J, R, g, h, V, F, D, S, N, x, s, rfl, hI⟩ := hI
  obtain ⟨hS, hn, gg, hh, hG, hH, hw, hgd, hg⟩ := Iv_all hI
  obtain ⟨⟨v5, f4, d8, s8, n6⟩, ⟨w0, w1, w2, w3, w4⟩, hf, hs, hfam, hwi, hsn, hlw⟩ := hw
  obtain ⟨⟨c1, c2, c3, c4, c5, c6, c7, c8, c9, c10, c11, c12⟩, q1, q2, q3, q4, q5, q6, q7, q8, q9, q10, q11, ql⟩ := hgd
  obtain ⟨⟨b1, b2, b3, b4, b5⟩, b6, b7, b8, b9, b10⟩ := hI.2.2.2.2.2.2.2.1
  have hJ := hI.2.2.2.2.2.2.2.2.2
  have hu := hI.2.2.2.2.1
  have hw := hI.2.2.1
  have hgd := hI.2.2.2.1
  have gh := hI.2.1
  have hIm := hI.2.2.2.2.2.1
  have n98 : 98 ≤ n := hS.1.1
  have nb := hI.1.2.1
  have ub := hI.1.2.2
  obtain ⟨t, ht, t1, t2, t3⟩ := hI.2.2.2.2.2.2.1
  obtain ⟨b, hb, b78, b23⟩ := tape_b t3
  obtain ⟨U, hCh, hMh, hUo⟩ := Und_to hu d8 f4
  have hr0 : ∃ r, gX true (fT b t) 12 0 0 = some r ∧ ((∃ j, r = .inl j) ∨ ∃ L, r = .inr L ∧ L.length ≤ 12 ∧ (∀ x, x ∈ L → ClO true x) ∧ (lnL L).1 ≤ 400 ∧ (lnL L).2 ≤ 400) := by
    have tl := tkN_le (b := b) (t := t)
    rcases gX_ok (md := true) (T := tkN b t) (f := fT b t) (by omega) (fun k => fT_lt) 12 0 0 (Nat.zero_le _) (by decide) with ⟨j, e, _⟩ | ⟨L, e, l1, l2, l3, l4, l5⟩
    · exact ⟨_, e, Or.inl ⟨j, rfl⟩⟩
    · exact ⟨_, e, Or.inr ⟨L, rfl, l2, l3, by omega, by omega⟩⟩
  obtain ⟨r, hr, hr2⟩ := hr0
  obtain ⟨v, I2, e2, f2, f3, f4'⟩ := c_readText (O := O) (u := u) (J := J) (d := 12) (md := true) (I := up2 (up2 I 0 12 (nI 0)) 0 14 (-1)) hS hb ht (fun k hk => by rw [up2_na (by decide), up2_na (by decide)]; exact b23 k hk) hr
  have e2 : ev O 199 MX6_readText [.ref 1, .ref 23, .int (nI t), .int (nI 1)] (hp u n T (up2 (up2 I 0 12 (nI 0)) 0 14 (-1)) J R) = some (some (.int v), hp u n T I2 J R) := e2
  have I2o : ∀ a, 6 < a → I2 a = I a := fun a ha => by rw [f2 a (by omega) (by omega) (by omega) (by omega) (by omega) (by omega), up2_off _ _ _ (by omega), up2_off _ _ _ (by omega)]
  have I20 : I2 0 = up2 (up2 I 0 12 (nI 0)) 0 14 (-1) 0 := f2 0 (by decide) (by decide) (by decide) (by decide) (by decide) (by decide)
  have tk : ev O 199 MX10_takeTape [.ref 0] (hp u n T I J R) = some (some (.int (I 0 12)), hp u n T (up2 I 0 12 (nI 0)) J R) := v_takeTape (d := 198) hS
  let I3 : Nat → Nat → Int32 := up2 I2 0 13 (I2 1 6)
  have I3o : ∀ a, 6 < a → I3 a = I a := fun a ha => by
    show up2 I2 0 13 (I2 1 6) a = _
    rw [up2_off _ _ _ (by omega), I2o a ha]
  have I30 : ∀ k, k ≠ 12 → k ≠ 13 → k ≠ 14 → I3 0 k = I 0 k := fun k h1 h2 h3 => by
    show up2 I2 0 13 (I2 1 6) 0 k = _
    rw [up2_nk h2, I20, up2_nk h3, up2_nk h1]
  have I312 : I3 0 12 = nI 0 := by
    show up2 I2 0 13 (I2 1 6) 0 12 = _
    rw [up2_nk (by decide), I20, up2_nk (by decide), up2_at]
  have I314 : I3 0 14 = -1 := by
    show up2 I2 0 13 (I2 1 6) 0 14 = _
    rw [up2_nk (by decide), I20, up2_at]
  have I313 : I3 0 13 = I2 1 6 := up2_at _ _ _ _
  have hd : ∀ {y}, (if v = 0 then (toI (ev O 199 MX10_refused [.ref 0, .int (-6)] (hp u n T I3 J R))).bind fun p37 => some (p37.1, p37.2) else (toV (ev O 199 MX9_begin [.ref 54, .ref g, .ref h] (hp u n T I3 J R))).bind fun K13 => (gtA K13 0 10 8).bind fun x14 => (gtA K13 0 10 0).bind fun x15 => (gtA K13 x15 6 0).bind fun x16 => (toI (vc O 199 9 MX9_carryOut x14 [.ref x16] K13)).bind fun p17 => (ptI p17.2 0 10 14 p17.1).bind fun K18 => (gtI K18 0 10 14).bind fun x19 => if x19 = (-1) then (gtA K18 0 10 10).bind fun x21 => (gtA K18 0 10 11).bind fun x22 => (gtA K18 0 10 8).bind fun x23 => (gtA K18 x23 9 2).bind fun x24 => (ptA K18 0 10 10 x24).bind fun K25 => (gtA K25 0 10 8).bind fun x26 => (gtA K25 x26 9 3).bind fun x27 => (ptA K25 0 10 11 x27).bind fun K28 => (gtA K28 0 10 8).bind fun x29 => (ptA K28 x29 9 2 x21).bind fun K30 => (gtA K30 0 10 8).bind fun x31 => (ptA K30 x31 9 3 x22).bind fun K32 => (gtA K32 0 10 8).bind fun x33 => (gtI K32 x33 9 4).bind fun x34 => (toI (vc O 199 10 MX10_granted 0 [.int x34] K32)).bind fun p35 => some (p35.1, p35.2) else (toI (vc O 199 10 MX10_refused 0 [.int (-3)] K18)).bind fun p36 => some (p36.1, p36.2)) = y → F_X10_orders O 199 0 (hp u n T I J R) = y := by
    intro y e
    unfold F_X10_orders
    rw [vc_0 hS, tk, toI_i, Option.bind_some]
    dsimp only
    rw [pi_0_14 hS, Option.bind_some, ga_0_0 hS, Option.bind_some, ga_0_5 hS, Option.bind_some, vc_1 hS, t1, e2, toI_i, Option.bind_some]
    dsimp only
    rw [ga_0_0 hS, Option.bind_some, gi_1_6 hS, Option.bind_some, pi_0_13 hS, Option.bind_some, vc_0 hS, ga_0_8 hS, Option.bind_some, gg, Option.bind_some, hh, Option.bind_some, vc_54 hS]
    exact e
  rcases hr2 with ⟨j, rfl⟩ | ⟨L, rfl, l2, l3, l4, l5⟩
  · -- a fault
    obtain ⟨v0, v6⟩ := f3 j rfl
    let Ic : Nat → Nat → Int32 := up2 (up2 I3 0 16 (-6)) 24 4 (I3 24 4 + nI 1)
    have Ico : ∀ a, 6 < a → a ≠ 24 → Ic a = I a := fun a h1 h2 => by
      show up2 (up2 I3 0 16 (-6)) 24 4 (I3 24 4 + nI 1) a = I a
      rw [up2_off _ _ _ h2, up2_off _ _ _ (by omega), I3o a h1]
    have i24 : I3 24 = I 24 := I3o 24 (by decide)
    let I0 : Nat → Nat → Int32 := up2 (up2 Ic 69 0 (nI 0)) 69 50 (-1)
    have o0 : ∀ a, a ≠ 69 → I0 a = Ic a := fun a ha => by
      show up2 (up2 Ic 69 0 (nI 0)) 69 50 (-1) a = _
      rw [up2_off _ _ _ ha, up2_off _ _ _ ha]
    have p0 : ∀ k, k ≠ 0 → k ≠ 50 → I0 69 k = I 69 k := fun k k1 k2 => by
      show up2 (up2 Ic 69 0 (nI 0)) 69 50 (-1) 69 k = _
      rw [up2_nk k2, up2_nk k1, Ico 69 (by decide) (by decide)]
    obtain ⟨I4, J4, I5, J5, I6, J6, I7, J7, m1, m2, m3, m4, m5, m6, m7, m8, m9, m10, m11⟩ := m_textO (O := O) (u := u) (I := I0) (J := J) hS hb ht (fun k hk => by rw [o0 78 (by decide), Ico 78 (by decide) (by decide)]; exact b78 k hk) (by rw [p0 13 (by decide) (by decide)]; exact t2) hJ hr
    obtain ⟨z1, z2⟩ := m5 j rfl
    have f7 : ∀ a, a ≠ 69 → a ≠ 80 → a ≠ 81 → a ≠ 82 → a ≠ 83 → a ≠ 96 → I7 a = Ic a := fun a h1 h2 h3 h4 h5 h6 => by rw [m7 a h1 h2 h3 h4 h5 h6, o0 a h1]
    have f70 : I7 70 = I 70 := by rw [f7 70 (by decide) (by decide) (by decide) (by decide) (by decide) (by decide), Ico 70 (by decide) (by decide)]
    have f69 : ∀ k, Mf k = false → k ≠ 21 → k ≠ 20 → k ≠ 13 → k ≠ 0 → k ≠ 50 → I7 69 k = I 69 k := fun k h1 h2 h3 h4 h5 h6 => by rw [m8 k h1 h2 h3 h4, p0 k h5 h6]
    have f50 : I7 69 50 = -1 := by
      rw [m8 50 (by decide) (by decide) (by decide) (by decide)]
      exact up2_at _ _ _ _
    have c0 : ∀ k, k ≠ 16 → I7 0 k = I3 0 k := fun k hk => by
      rw [f7 0 (by decide) (by decide) (by decide) (by decide) (by decide) (by decide)]
      show up2 (up2 I3 0 16 (-6)) 24 4 (I3 24 4 + nI 1) 0 k = _
      rw [up2_na (by decide), up2_nk hk]
    have f016 : I7 0 16 = -6 := by
      rw [f7 0 (by decide) (by decide) (by decide) (by decide) (by decide) (by decide)]
      show up2 (up2 I3 0 16 (-6)) 24 4 (I3 24 4 + nI 1) 0 16 = -6
      rw [up2_na (by decide), up2_at]
    have f24 : ∀ k, I7 24 k = if k = 4 then I 24 4 + nI 1 else I 24 k := fun k => by
      rw [f7 24 (by decide) (by decide) (by decide) (by decide) (by decide) (by decide)]
      show up2 (up2 I3 0 16 (-6)) 24 4 (I3 24 4 + nI 1) 24 k = _
      by_cases e : k = 4
      · rw [e, up2_at, i24, if_pos rfl]
      · rw [up2_nk e, up2_off _ _ _ (by decide), i24, if_neg e]
    refine Bo_i (u1 := u) (a := -6) (I1 := Ic) (J1 := J) (J2 := J7) (I2 := up2 (up2 I7 69 1 (-6)) 70 6 (I7 70 6 + nI 1)) (e_X10_orders (d := 199) (hd ?_)) hS (e_X11_orders (d := 199) ?_) (IvW.e (Iv_txt hI (fun a ha => ?_) ?_ ?_ ?_ ?_ ?_ ?_ (Cns_cg hJ m9)))
    · rw [v0, if_pos (show nI 0 = 0 from rfl), v_refused hS (pl := 4) (by decide) (by decide), toI_i, Option.bind_some]
    · unfold F_X11_orders F_X11_orders_j46
      rw [pi_69_0 hS, Option.bind_some, pi_69_50 hS, Option.bind_some, vc_69 hS, m1, toV_v, Option.bind_some, vc_69 hS, m2, toV_v, Option.bind_some, m3, Option.bind_some, vc_69 hS, m4, toV_v, Option.bind_some, gi_69_19 hS, Option.bind_some, z1, if_neg (show ¬ nI 1 = 0 by decide), vc_69 hS, v_tell_6 hS, toI_i, Option.bind_some]
    · unfold rl at ha
      rw [up2_off _ _ _ (by omega), up2_off _ _ _ (by omega), f7 a (by omega) (by omega) (by omega) (by omega) (by omega) (by omega), Ico a (by omega) (by omega)]
    · rw [up2_na (by decide), up2_na (by decide), c0 12 (by decide), I312]
    · rw [up2_na (by decide), up2_nk (by decide), f69 8 (by decide) (by decide) (by decide) (by decide) (by decide) (by decide)]
    · rw [up2_na (by decide), up2_nk (by decide), m11]
    · rw [up2_na (by decide), up2_nk (by decide), f69 54 (by decide) (by decide) (by decide) (by decide) (by decide) (by decide)]
    · rw [up2_na (by decide), up2_nk (by decide), f69 55 (by decide) (by decide) (by decide) (by decide) (by decide) (by decide)]
    · have g69 : ∀ k, k ≠ 1 → up2 (up2 I7 69 1 (-6)) 70 6 (I7 70 6 + nI 1) 69 k = I7 69 k := fun k hk => by rw [up2_na (by decide), up2_nk hk]
      have g0 : up2 (up2 I7 69 1 (-6)) 70 6 (I7 70 6 + nI 1) 0 = I7 0 := by rw [up2_off _ _ _ (by decide), up2_off _ _ _ (by decide)]
      have g24 : up2 (up2 I7 69 1 (-6)) 70 6 (I7 70 6 + nI 1) 24 = I7 24 := by rw [up2_off _ _ _ (by decide), up2_off _ _ _ (by decide)]
      have g70 : ∀ k, k ≠ 6 → up2 (up2 I7 69 1 (-6)) 70 6 (I7 70 6 + nI 1) 70 k = I 70 k := fun k hk => by rw [up2_nk hk, up2_off _ _ _ (by decide), f70]
      refine ⟨⟨?_, ?_, ?_, ?_, ?_⟩, ?_, ?_, ?_, ?_, ?_⟩
      · rw [g0, g69 18 (by decide), c0 13 (by decide), I313, v6, z2]
      · rw [g0, g69 50 (by decide), c0 14 (by decide), I314, f50]
      · rw [g0, g69 11 (by decide), c0 15 (by decide), I30 15 (by decide) (by decide) (by decide), f69 11 (by decide) (by decide) (by decide) (by decide) (by decide) (by decide)]
        exact b3
      · rw [g0, f016, up2_na (by decide), up2_at]
      · rw [g69 20 (by decide), m10]
      · rw [g24, g70 1 (by decide), f24 0, if_neg (by decide)]
        exact b6
      · rw [g24, g70 2 (by decide), f24 1, if_neg (by decide)]
        exact b7
      · rw [g24, g70 3 (by decide), f24 2, if_neg (by decide)]
        exact b8
      · rw [g24, g70 5 (by decide), f24 3, if_neg (by decide)]
        exact b9
      · rw [g24, f24 4, if_pos rfl, up2_at, f70, b10]
  · -- the orders are tried
    obtain ⟨vE, v6, v22, v23, vT⟩ := f4' L rfl
    obtain ⟨g2, h2, hr2, hr3, hgh⟩ : ∃ g2 h2, R 54 2 = some g2 ∧ R 54 3 = some h2 ∧ (g2 = 32 ∧ h2 = 26 ∧ g = 58 ∧ h = 56 ∨ g2 = 58 ∧ h2 = 56 ∧ g = 32 ∧ h = 26) := by
      rcases gh.1 with ⟨q1, q2, q3, q4⟩ | ⟨q1, q2, q3, q4⟩
      · exact ⟨58, 56, q3, q4, Or.inr ⟨rfl, rfl, q1, q2⟩⟩
      · exact ⟨32, 26, q3, q4, Or.inl ⟨rfl, rfl, q1, q2⟩⟩
    have hrf : RfG n T R g := hIm.2.2.2 g (by omega)
    have hG3 : Gnd n T I3 R g (I 71) V F D S N := Gnd_cg hgd (fun a ha => I3o a (by omega))
    have hCh3 : CHi (I3 h) (I3 (h + 1)) U s x := by rw [I3o h (by omega), I3o (h + 1) (by omega)]; exact hCh
    obtain ⟨I5, Rb, eb, rr, rl', fr5, oc5⟩ := c_begin (O := O) (d := 197) (u := u) (J := J) (I := I3) (w := I 71) hS hgh hr2 hr3 hG3 hw hrf hCh3 hUo
    have hgh2 : g2 = 32 ∧ h2 = 26 ∨ g2 = 58 ∧ h2 = 56 := by omega
    have hSb : St n T Rb := St_R rr (by omega) hS
    have rb54 : Rb 54 = R 54 := rr 54 (by omega)
    have rb0 : Rb 0 = R 0 := rr 0 (by omega)
    have i53 : I5 3 = I2 3 := by
      rw [fr5.1 3 (by omega) (by omega) (by omega) (by decide) (by decide) (by decide) (by decide) (by decide)]
      exact up2_off _ _ _ (by decide)
    have i54' : I5 4 = I2 4 := by
      rw [fr5.1 4 (by omega) (by omega) (by omega) (by decide) (by decide) (by decide) (by decide) (by decide)]
      exact up2_off _ _ _ (by decide)
    have i52 : I5 2 = I2 2 := by
      rw [fr5.1 2 (by omega) (by omega) (by omega) (by decide) (by decide) (by decide) (by decide) (by decide)]
      exact up2_off _ _ _ (by decide)
    have hT5 : TxC I5 0 0 L := TxC_cg i53 i54' L 0 0 vT
    have hP5 : PrV n T I5 Rb 2 (lnL L).1 L.length := PrV_2 hSb hT5 l3 (by rw [i52]; exact v22) (by rw [i52]; exact v23) l4 l2
    obtain ⟨I6, fr6, ca1, ca2⟩ := c_carryOut (O := O) (d := 188) (u := u) (J := J) hO hSb (by rw [rb54]; exact hr2) (by rw [rb54]; exact hr3) hgh2 hT5 l3 hP5 l4 l2 oc5
    have I6o : ∀ a, 6 < a → (a < g2 ∨ g2 + 10 < a) → a ≠ h2 → a ≠ h2 + 1 → a ≠ 28 → a ≠ 29 → a ≠ 31 → a ≠ 54 → a ≠ 55 → I6 a = I a := fun a q0 q1 q2 q3 q4 q5 q6 q7 q8 => by rw [fr6.1 a q1 q2 q3 q4 q5 q6 q7 q8, fr5.1 a q1 q2 q3 q4 q5 q6 q7 q8, I3o a q0]
    have I60 : I6 0 = I3 0 := by rw [fr6.1 0 (by omega) (by omega) (by omega) (by decide) (by decide) (by decide) (by decide) (by decide), fr5.1 0 (by omega) (by omega) (by omega) (by decide) (by decide) (by decide) (by decide) (by decide)]
    have gg' : ∀ (u : Nat) (I : Nat → Nat → Int32) (J : Nat → Nat → Int64), gtA (hp u n T I J Rb) 0 10 10 = some g := ga_gr hSb (by rw [rb0]; exact gh.2.1)
    have hh' : ∀ (u : Nat) (I : Nat → Nat → Int32) (J : Nat → Nat → Int64), gtA (hp u n T I J Rb) 0 10 11 = some h := ga_hi hSb (by rw [rb0]; exact gh.2.2)
    have hd2 : ∀ {w17 : Int32} {y}, ev O 199 MX9_carryOut [.ref 54, .ref 2] (hp u n T I5 J Rb) = some (some (.int w17), hp u n T I6 J Rb) → (if w17 = (-1) then (ptA (hp u n T (up2 I6 0 14 w17) J Rb) 0 10 10 g2).bind fun K25 => (gtA K25 0 10 8).bind fun x26 => (gtA K25 x26 9 3).bind fun x27 => (ptA K25 0 10 11 x27).bind fun K28 => (gtA K28 0 10 8).bind fun x29 => (ptA K28 x29 9 2 g).bind fun K30 => (gtA K30 0 10 8).bind fun x31 => (ptA K30 x31 9 3 h).bind fun K32 => (gtA K32 0 10 8).bind fun x33 => (gtI K32 x33 9 4).bind fun x34 => (toI (vc O 199 10 MX10_granted 0 [.int x34] K32)).bind fun p35 => some (p35.1, p35.2) else (toI (ev O 199 MX10_refused [.ref 0, .int (-3)] (hp u n T (up2 I6 0 14 w17) J Rb))).bind fun p36 => some (p36.1, p36.2)) = y → F_X10_orders O 199 0 (hp u n T I J R) = y := by
      intro w17 y ec e
      apply hd
      rw [vE, if_neg (show ¬ nI 1 = 0 by decide), eb, toV_v, Option.bind_some, ga_0_8 hSb, Option.bind_some, ga_0_0 hSb, Option.bind_some, ga_1_0 hSb, Option.bind_some, vc_54 hSb, ec, toI_i, Option.bind_some]
      dsimp only
      rw [pi_0_14 hSb, Option.bind_some, gi_0_14 hSb, Option.bind_some, up2_at, gg', Option.bind_some, hh', Option.bind_some, ga_0_8 hSb, Option.bind_some, ga_tg hSb (by rw [rb54]; exact hr2), Option.bind_some, vc_0 hSb]
      exact e
    have hMh' : ∀ {Ic : Nat → Nat → Int32}, Ic 69 = I 69 → Ic 74 = I 74 → Ic 75 = I 75 → MHi (Ic 69) (Ic 74) (Ic 75) U s := fun q1 q2 q3 => by rw [q1, q2, q3]; exact hMh
    cases ho : oAl (oStp O 188 V F D S N) L 0 (I 71, 0, -1, U, s, x) with
    | inl j =>
      -- one cannot be
      have ec := ca1 j ho
      let Ic : Nat → Nat → Int32 := up2 (up2 (up2 I6 0 14 (nI j)) 0 16 (-3)) 24 2 (up2 I6 0 14 (nI j) 24 2 + nI 1)
      have Ico : ∀ a, 6 < a → (a < g2 ∨ g2 + 10 < a) → a ≠ h2 → a ≠ h2 + 1 → a ≠ 24 → a ≠ 28 → a ≠ 29 → a ≠ 31 → a ≠ 54 → a ≠ 55 → Ic a = I a := fun a q0 q1 q2 q3 q9 q4 q5 q6 q7 q8 => by
        show up2 (up2 (up2 I6 0 14 (nI j)) 0 16 (-3)) 24 2 (up2 I6 0 14 (nI j) 24 2 + nI 1) a = _
        rw [up2_off _ _ _ q9, up2_off _ _ _ (by omega), up2_off _ _ _ (by omega), I6o a q0 q1 q2 q3 q4 q5 q6 q7 q8]
      have ic : ∀ a, 68 < a → Ic a = I a := fun a ha => Ico a (by omega) (by omega) (by omega) (by omega) (by omega) (by omega) (by omega) (by omega) (by omega) (by omega)
      have i624 : I6 24 = I 24 := I6o 24 (by decide) (by omega) (by omega) (by omega) (by decide) (by decide) (by decide) (by decide) (by decide)
      have jlt : j < 12 := by
        have : ∀ (L : List CL) (c : Nat) (z : OS), oAl (oStp O 188 V F D S N) L c z = .inl j → j < c + L.length := by
          intro L
          induction L with
          | nil => exact fun c z q => by cases q
          | cons y L ih =>
            intro c z q
            have q : (match oTm (oStp O 188 V F D S N y) y.2.1 z with | none => Sum.inl c | some z' => oAl (oStp O 188 V F D S N) L (c + 1) z') = .inl j := q
            cases e : oTm (oStp O 188 V F D S N y) y.2.1 z with
            | none =>
              rw [e] at q
              cases q
              show j < j + (L.length + 1)
              omega
            | some z1 =>
              rw [e] at q
              have := ih (c + 1) z1 q
              show j < c + (L.length + 1)
              omega
        have := this L 0 _ ho
        omega
      obtain ⟨I9, J9, ok, cj, fl, -⟩ := m_ordersG (O := O) (u := u) (n := n) (T := T) (R := Rb) (I := Ic) (J := J) (U := U) (sx := s) (xx := x) (V := V) (F := F) (D := D) (S := S) (N := N) hO hSb hb ht (fun k hk => by rw [ic 78 (by decide)]; exact b78 k hk) (by rw [ic 69 (by decide)]; exact t2) hJ hr l2 l3 l4 l5 (by rw [ic 71 (by decide)]; exact hw) (hMh' (ic 69 (by decide)) (ic 74 (by decide)) (ic 75 (by decide)))
      rw [ic 71 (by decide)] at fl
      obtain ⟨g1, k1, k50, k71, kM, k70⟩ := fl j ho
      obtain ⟨okA, ⟨ok11, ok54, ok55⟩, ok18, ok20, ok13⟩ := ok
      have K9 : ∀ a, a < 69 → I9 a = Ic a := fun a ha => okA a (by omega) (by omega) (by omega) (by omega) (by omega) (by omega) (by omega) (by omega) (by omega) (by omega) (by omega) (by omega) (by omega)
      have K9b : ∀ a, a = 72 ∨ a = 73 ∨ a = 78 ∨ 97 ≤ a → I9 a = I a := fun a ha => by rw [okA a (by omega) (by omega) (by omega) (by omega) (by omega) (by omega) (by omega) (by omega) (by omega) (by omega) (by omega) (by omega) (by omega), ic a (by omega)]
      have c0 : ∀ k, k ≠ 14 → k ≠ 16 → I9 0 k = I3 0 k := fun k h1 h2 => by
        rw [K9 0 (by decide)]
        show up2 (up2 (up2 I6 0 14 (nI j)) 0 16 (-3)) 24 2 (up2 I6 0 14 (nI j) 24 2 + nI 1) 0 k = _
        rw [up2_na (by decide), up2_nk h2, up2_nk h1, I60]
      have c014 : I9 0 14 = nI j := by
        rw [K9 0 (by decide)]
        show up2 (up2 (up2 I6 0 14 (nI j)) 0 16 (-3)) 24 2 (up2 I6 0 14 (nI j) 24 2 + nI 1) 0 14 = _
        rw [up2_na (by decide), up2_nk (by decide), up2_at]
      have c016 : I9 0 16 = -3 := by
        rw [K9 0 (by decide)]
        show up2 (up2 (up2 I6 0 14 (nI j)) 0 16 (-3)) 24 2 (up2 I6 0 14 (nI j) 24 2 + nI 1) 0 16 = _
        rw [up2_na (by decide), up2_at]
      have c24 : ∀ k, I9 24 k = if k = 2 then I 24 2 + nI 1 else I 24 k := fun k => by
        rw [K9 24 (by decide)]
        show up2 (up2 (up2 I6 0 14 (nI j)) 0 16 (-3)) 24 2 (up2 I6 0 14 (nI j) 24 2 + nI 1) 24 k = _
        by_cases e : k = 2
        · rw [e, up2_at, up2_na (by decide), i624, if_pos rfl]
        · rw [up2_nk e, up2_off _ _ _ (by decide), up2_off _ _ _ (by decide), i624, if_neg e]
      have h70 : ∀ k, I9 70 k = if k = 3 then I 70 3 + nI 1 else I 70 k := fun k => by rw [k70 k, ic 70 (by decide)]
      refine Bo_i (u1 := u) (n1 := n) (T1 := T) (a := -3) (I1 := Ic) (J1 := J) (I2 := I9) (J2 := J9) (R1 := Rb) (e_X10_orders (d := 199) (hd2 ec ?_)) hSb (e_X11_orders (d := 199) g1) ⟨g, h, V, F, D, S, N, x, s, ⟨hSb, by omega, Nat.le_trans ub (Nat.add_le_add_left (Nat.mul_le_mul_left 600 (Nat.le_succ c)) 60000)⟩, GH_R rr (by omega) gh, by rw [k71]; exact hw, ?_, ?_, ?_, ⟨0, by decide, by rw [c0 12 (by decide) (by decide)]; exact I312, ok13, fun k hk => absurd hk (Nat.not_lt_zero k)⟩, ?_, ?_, cj⟩
      · rw [if_neg (nI_ne1 (by omega)), v_refused hSb (pl := 2) (by decide) (by decide), toI_i, Option.bind_some]
      · rw [k71]
        refine Gnd_R rr hSb (by omega) hgd hw (by omega) (by omega) (fun a ha => ?_)
        by_cases ha2 : a < 69
        · rw [K9 a ha2, Ico a (by omega) (by omega) (by omega) (by omega) (by omega) (by omega) (by omega) (by omega) (by omega) (by omega)]
        · exact K9b a (by omega)
      · refine Und_of ?_ kM (by rw [k71]; exact hUo) d8 f4
        rw [K9 h (by omega), K9 (h + 1) (by omega), Ico h (by omega) (by omega) (by omega) (by omega) (by omega) (by omega) (by omega) (by omega) (by omega) (by omega), Ico (h + 1) (by omega) (by omega) (by omega) (by omega) (by omega) (by omega) (by omega) (by omega) (by omega) (by omega)]
        exact hCh
      · refine Imgs_R rr hSb (by omega) hIm (fun a ha => K9b a (by omega)) (Or.inr (fun l hl => ?_))
        rw [rl' l hl]
        exact hrf l hl
      · refine ⟨⟨?_, by rw [c014, k50], ?_, by rw [c016, k1], ok20⟩, ?_, ?_, ?_, ?_, ?_⟩
        · rw [c0 13 (by decide) (by decide), I313, v6, ok18]
        · rw [c0 15 (by decide) (by decide), I30 15 (by decide) (by decide) (by decide), ok11, ic 69 (by decide)]
          exact b3
        · rw [c24 0, h70 1, if_neg (by decide), if_neg (by decide)]
          exact b6
        · rw [c24 1, h70 2, if_neg (by decide), if_neg (by decide)]
          exact b7
        · rw [c24 2, h70 3, if_pos rfl, if_pos rfl, b8]
        · rw [c24 3, h70 5, if_neg (by decide), if_neg (by decide)]
          exact b9
        · rw [c24 4, h70 6, if_neg (by decide), if_neg (by decide)]
          exact b10
      · have d43 : ∀ a, 43 ≤ a → a ≤ 53 → I9 a = I a := fun a q1 q2 => by rw [K9 a (by omega), Ico a (by omega) (by omega) (by omega) (by omega) (by omega) (by omega) (by omega) (by omega) (by omega) (by omega)]
        exact Drn_cg hI.2.2.2.2.2.2.2.2.1 (d43 43 (by omega) (by omega)) (d43 47 (by omega) (by omega)) (d43 48 (by omega) (by omega)) (d43 45 (by omega) (by omega)) (K9b 97 (by omega)) (by rw [ok54, ic 69 (by decide)]) (by rw [ok55, ic 69 (by decide)])
    | inr z' =>
      obtain ⟨ec, oc6⟩ := ca2 z' ho
      obtain ⟨hG6, hW6, hK6, h64, h65, hC6, hU6⟩ := oc6
      let Rn' : Nat → Nat → Option Nat := up2 (up2 (up2 (up2 Rb 0 10 (some g2)) 0 11 (some h2)) 54 2 (some g)) 54 3 (some h)
      have Rno : ∀ a, a ≠ 0 → a ≠ 54 → Rn' a = Rb a := fun a q1 q2 => by
        show up2 (up2 (up2 (up2 Rb 0 10 (some g2)) 0 11 (some h2)) 54 2 (some g)) 54 3 (some h) a = _
        rw [up2_off _ _ _ q2, up2_off _ _ _ q2, up2_off _ _ _ q1, up2_off _ _ _ q1]
      have Rn0 : ∀ k, k ≠ 10 → k ≠ 11 → Rn' 0 k = Rb 0 k := fun k q1 q2 => by
        show up2 (up2 (up2 (up2 Rb 0 10 (some g2)) 0 11 (some h2)) 54 2 (some g)) 54 3 (some h) 0 k = _
        rw [up2_na (by decide), up2_na (by decide), up2_nk q2, up2_nk q1]
      have Rn54 : ∀ k, k ≠ 2 → k ≠ 3 → Rn' 54 k = Rb 54 k := fun k q1 q2 => by
        show up2 (up2 (up2 (up2 Rb 0 10 (some g2)) 0 11 (some h2)) 54 2 (some g)) 54 3 (some h) 54 k = _
        rw [up2_nk q2, up2_nk q1, up2_na (by decide), up2_na (by decide)]
      have hSn : St n T Rn' := by
        refine ⟨hSb.1, hSb.2.1, fun p hp' => ?_⟩
        obtain ⟨q1, q2⟩ := RfL_sw p hp'
        have q3 := hSb.2.2 p hp'
        by_cases p0 : p.1 = 0
        · rw [p0] at q3 ⊢
          rw [Rn0 _ (fun q => q1 ⟨p0, Or.inl q⟩) (fun q => q1 ⟨p0, Or.inr q⟩)]
          exact q3
        · by_cases p54 : p.1 = 54
          · rw [p54] at q3 ⊢
            rw [Rn54 _ (fun q => q2 ⟨p54, Or.inl q⟩) (fun q => q2 ⟨p54, Or.inr q⟩)]
            exact q3
          · rw [Rno _ p0 p54]
            exact q3
      let Ic : Nat → Nat → Int32 := up2 (up2 I6 0 14 (-1)) 0 16 (nI 0)
      have Ico : ∀ a, a ≠ 0 → Ic a = I6 a := fun a ha => by
        show up2 (up2 I6 0 14 (-1)) 0 16 (nI 0) a = _
        rw [up2_off _ _ _ ha, up2_off _ _ _ ha]
      have ic : ∀ a, 68 < a → Ic a = I a := fun a ha => by rw [Ico a (by omega), I6o a (by omega) (by omega) (by omega) (by omega) (by omega) (by omega) (by omega) (by omega) (by omega)]
      obtain ⟨I9, J9, ok, cj, -, su⟩ := m_ordersG (O := O) (u := u) (n := n) (T := T) (R := Rn') (I := Ic) (J := J) (U := U) (sx := s) (xx := x) (V := V) (F := F) (D := D) (S := S) (N := N) hO hSn hb ht (fun k hk => by rw [ic 78 (by decide)]; exact b78 k hk) (by rw [ic 69 (by decide)]; exact t2) hJ hr l2 l3 l4 l5 (by rw [ic 71 (by decide)]; exact hw) (hMh' (ic 69 (by decide)) (ic 74 (by decide)) (ic 75 (by decide)))
      rw [ic 71 (by decide)] at su
      obtain ⟨g1, k1, k50, k71, kM, k70⟩ := su z' ho
      obtain ⟨okA, ⟨ok11, ok54, ok55⟩, ok18, ok20, ok13⟩ := ok
      have K9 : ∀ a, a < 69 → I9 a = Ic a := fun a ha => okA a (by omega) (by omega) (by omega) (by omega) (by omega) (by omega) (by omega) (by omega) (by omega) (by omega) (by omega) (by omega) (by omega)
      have K9b : ∀ a, a = 72 ∨ a = 73 ∨ a = 78 ∨ 97 ≤ a → I9 a = I a := fun a ha => by rw [okA a (by omega) (by omega) (by omega) (by omega) (by omega) (by omega) (by omega) (by omega) (by omega) (by omega) (by omega) (by omega) (by omega), ic a (by omega)]
      have K9c : ∀ a, 98 ≤ a → I9 a = I6 a := fun a ha => by rw [okA a (by omega) (by omega) (by omega) (by omega) (by omega) (by omega) (by omega) (by omega) (by omega) (by omega) (by omega) (by omega) (by omega), Ico a (by omega)]
      have c0 : ∀ k, k ≠ 14 → k ≠ 16 → I9 0 k = I3 0 k := fun k h1 h2 => by
        rw [K9 0 (by decide)]
        show up2 (up2 I6 0 14 (-1)) 0 16 (nI 0) 0 k = _
        rw [up2_nk h2, up2_nk h1, I60]
      have c014 : I9 0 14 = -1 := by
        rw [K9 0 (by decide)]
        show up2 (up2 I6 0 14 (-1)) 0 16 (nI 0) 0 14 = _
        rw [up2_nk (by decide), up2_at]
      have c016 : I9 0 16 = nI 0 := by
        rw [K9 0 (by decide)]
        exact up2_at _ _ _ _
      have c24 : I9 24 = I 24 := by rw [K9 24 (by decide), Ico 24 (by decide), I6o 24 (by decide) (by omega) (by omega) (by omega) (by decide) (by decide) (by decide) (by decide) (by decide)]
      have h70 : I9 70 = I 70 := by rw [k70, ic 70 (by decide)]
      have hImb : Imgs n T I Rb := Imgs_R rr hSb (by omega) hIm (fun a ha => rfl) (Or.inr (fun l hl => by rw [rl' l hl]; exact hrf l hl))
      refine Bo_i (u1 := u) (n1 := n) (T1 := T) (a := nI z'.2.1) (I1 := Ic) (J1 := J) (I2 := I9) (J2 := J9) (R1 := Rn') (e_X10_orders (d := 199) (hd2 ec ?_)) hSn (e_X11_orders (d := 199) g1) ⟨g2, h2, V, F, D, S, N, z'.2.2.2.2.2, z'.2.2.2.2.1, ⟨hSn, by omega, Nat.le_trans ub (Nat.add_le_add_left (Nat.mul_le_mul_left 600 (Nat.le_succ c)) 60000)⟩, ⟨?_, ?_, ?_⟩, by rw [k71]; exact hW6, ?_, ?_, Imgs_X hImb Rno (fun a ha => K9b a (by omega)), ⟨0, by decide, by rw [c0 12 (by decide) (by decide)]; exact I312, ok13, fun k hk => absurd hk (Nat.not_lt_zero k)⟩, ?_, ?_, cj⟩
      · have T0 : T 0 = (100 + 10, kd10) := hSb.1.2 0 (by decide)
        have T54 : T 54 = (100 + 9, kd9) := hSb.1.2 54 (by decide)
        have hn' := hSb.2.1
        have a8 : ∀ {Q : Nat → Nat → Option Nat} {I : Nat → Nat → Int32}, Q 0 8 = some 54 → gtA (hp u n T I J Q) 0 10 8 = some 54 := fun q => gtA_hp (ks := kd10) T0 rfl (by omega) hn' q
        have r08 : Rb 0 8 = some 54 := hSb.2.2 (0, 8, 54) (by decide)
        rw [if_pos rfl, ptA_hp (ks := kd10) T0 rfl (by omega) hn', Option.bind_some, a8 (by rw [up2_nk (by decide)]; exact r08), Option.bind_some, gtA_hp (ks := kd9) (b := h2) T54 rfl (by omega) hn' (by rw [up2_na (by decide), rb54]; exact hr3), Option.bind_some, ptA_hp (ks := kd10) T0 rfl (by omega) hn', Option.bind_some, a8 (by rw [up2_nk (by decide), up2_nk (by decide)]; exact r08), Option.bind_some, ptA_hp (ks := kd9) T54 rfl (by omega) hn', Option.bind_some, a8 (by rw [up2_na (by decide), up2_nk (by decide), up2_nk (by decide)]; exact r08), Option.bind_some, ptA_hp (ks := kd9) T54 rfl (by omega) hn', Option.bind_some, ga_0_8 hSn, Option.bind_some, gi_54_4 hSn, Option.bind_some, up2_na (by decide), h64, vc_0 hSn, v_granted hSn, toI_i, Option.bind_some]
      · have q2 : Rn' 54 2 = some g := by
          show up2 (up2 (up2 (up2 Rb 0 10 (some g2)) 0 11 (some h2)) 54 2 (some g)) 54 3 (some h) 54 2 = _
          rw [up2_nk (by decide), up2_at]
        have q3 : Rn' 54 3 = some h := up2_at _ _ _ _
        rcases hgh with ⟨y1, y2, y3, y4⟩ | ⟨y1, y2, y3, y4⟩
        · exact Or.inl ⟨y1, y2, by rw [q2, y3], by rw [q3, y4]⟩
        · exact Or.inr ⟨y1, y2, by rw [q2, y3], by rw [q3, y4]⟩
      · show up2 (up2 (up2 (up2 Rb 0 10 (some g2)) 0 11 (some h2)) 54 2 (some g)) 54 3 (some h) 0 10 = _
        rw [up2_na (by decide), up2_na (by decide), up2_nk (by decide), up2_at]
      · show up2 (up2 (up2 (up2 Rb 0 10 (some g2)) 0 11 (some h2)) 54 2 (some g)) 54 3 (some h) 0 11 = _
        rw [up2_na (by decide), up2_na (by decide), up2_at]
      · rw [k71]
        exact Gnd_X hG6 (Nat.le_refl n) (fun _ _ => rfl) (fun a a1 a2 => by rw [K9 a (by omega), Ico a (by omega)]) (fun a a1 a2 => Rno a (by omega) (by omega)) (fun a a1 a2 => Rno a (by omega) (by omega)) (fun q ls lc hq hqp => ⟨⟨K9c q (by omega), K9c _ (by omega), K9c _ (by omega)⟩, Rno q (by omega) (by omega)⟩)
      · refine Und_of ?_ kM (by rw [k71]; exact hU6) d8 f4
        rw [K9 h2 (by omega), K9 (h2 + 1) (by omega), Ico h2 (by omega), Ico (h2 + 1) (by omega)]
        exact hC6
      · refine ⟨⟨?_, by rw [c014, k50], ?_, by rw [c016, k1], ok20⟩, ?_⟩
        · rw [c0 13 (by decide) (by decide), I313, v6, ok18]
        · rw [c0 15 (by decide) (by decide), I30 15 (by decide) (by decide) (by decide), ok11, ic 69 (by decide)]
          exact b3
        · rw [c24, h70]
          exact ⟨b6, b7, b8, b9, b10⟩
      · have d43 : ∀ a, 43 ≤ a → a ≤ 53 → I9 a = I a := fun a q1 q2 => by rw [K9 a (by omega), Ico a (by omega), I6o a (by omega) (by omega) (by omega) (by omega) (by omega) (by omega) (by omega) (by omega) (by omega)]
        exact Drn_cg hI.2.2.2.2.2.2.2.2.1 (d43 43 (by omega) (by omega)) (d43 47 (by omega) (by omega)) (d43 48 (by omega) (by omega)) (d43 45 (by omega) (by omega)) (K9b 97 (by omega)) (by rw [ok54, ic 69 (by decide)]) (by rw [ok55, ic 69 (by decide)])
end OR2
