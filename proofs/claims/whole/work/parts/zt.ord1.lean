/-! calls: orders, of the reference, and what the class's end needs -/
theorem TxM_any {I : Nat → Nat → Int32} : ∀ (L : List CL) (c s : Nat), TxM (fun _ _ _ _ => True) I c s L
  | [], _, _ => trivial
  | x :: L, c, s => ⟨trivial, TxM_any L (c + 1) (s + lnM x)⟩
theorem PrV_2 {n : Nat} {T : Nat → mT} {R : Nat → Nat → Option Nat} {I : Nat → Nat → Int32} {L : List CL} {md : Bool} (hS : St n T R) (hT : TxC I 0 0 L) (hL : ∀ x, x ∈ L → ClO md x) (h2 : I 2 2 = nI (lnL L).1) (h3 : I 2 3 = nI L.length) (l4 : (lnL L).1 ≤ 400) (l12 : L.length ≤ 12) : PrV n T I R 2 (lnL L).1 L.length := by
  have n98 := hS.1.1
  refine ⟨400, 72, ⟨hS.1.2 2 (by decide), hS.1.2 3 (by decide), hS.1.2 4 (by decide), hS.2.2 (2, 0, 3) (by decide), hS.2.2 (2, 1, 4) (by decide), by omega, by decide, by decide⟩, l4, by omega, l12, h2, h3, fun i hi => ?_, fun i hi => ?_⟩
  · obtain ⟨y, y1, y2, y3⟩ := TxC_st L 0 0 hT hL i (Nat.zero_le i) (by omega)
    refine ⟨y.1, y1, ?_⟩
    rw [show I (2 + 1) i = cEn i y from y3]
    unfold cEn
    rw [nI_15 (by split <;> omega)]
    exact congrArg nI (by omega)
  · obtain ⟨y, s', r', e1, e2', e3, e4, e5⟩ := both_get L 0 0 0 hT (TxM_any (I := I) L 0 0) (i / 6) (by omega)
    rw [Nat.zero_add] at e2' e4
    have hO := hL y e1
    obtain ⟨a1, a2, a3, a4, a5, a6, a7⟩ := e2'
    have ln : lnC y = y.2.2.1.length + y.2.2.2.2.1.length + y.2.2.2.2.2.2.1.length := rfl
    have h1 := hO.1
    have h20 := hO.2.2.1
    show ∃ a, a ≤ 400 ∧ I 4 i = nI a
    rcases (show i = i / 6 * 6 ∨ i = i / 6 * 6 + 1 ∨ i = i / 6 * 6 + 2 ∨ i = i / 6 * 6 + 3 ∨ i = i / 6 * 6 + 4 ∨ i = i / 6 * 6 + 5 by omega) with z | z | z | z | z | z <;> rw [z]
    · exact ⟨_, by omega, a1⟩
    · exact ⟨_, by omega, a2⟩
    · exact ⟨_, by omega, a3⟩
    · exact ⟨_, by omega, a4⟩
    · exact ⟨_, by omega, a5⟩
    · exact ⟨_, by omega, a6⟩
theorem lnL_le {L : List CL} : ∀ x, x ∈ L → lnC x ≤ (lnL L).1 := by
  induction L with
  | nil =>
    intro x hx
    cases hx
  | cons y L ih =>
    intro x hx
    show lnC x ≤ lnC y + (lnL L).1
    rcases List.mem_cons.mp hx with z | z
    · rw [z]
      omega
    · have := ih x z
      omega
theorem RfL_sw : ∀ p ∈ RfL, ¬ (p.1 = 0 ∧ (p.2.1 = 10 ∨ p.2.1 = 11)) ∧ ¬ (p.1 = 54 ∧ (p.2.1 = 2 ∨ p.2.1 = 3)) := by decide
section OR1
variable {O : mO} {Lx : Nat} {xs : Nat → Int32} {u n : Nat} {T : Nat → mT} {I : Nat → Nat → Int32} {J : Nat → Nat → Int64} {R R' : Nat → Nat → Option Nat} {V F D S N : Nat} {b : Nat → Nat} {t : Nat}
theorem Imgs_X {I' : Nat → Nat → Int32} (hM : Imgs n T I R) (hR : ∀ a, a ≠ 0 → a ≠ 54 → R' a = R a) (hI : ∀ a, a = 72 ∨ a = 73 ∨ 98 ≤ a → I' a = I a) : Imgs n T I' R' := by
  obtain ⟨m0, m1, m2, m3⟩ := hM
  have im : ∀ k, Img n T I R k → Img n T I' R' k := by
    intro k hk
    unfold Img at hk ⊢
    rw [hI 73 (by omega), hI 72 (by omega), hR 25 (by decide) (by decide)]
    rcases hk with z | ⟨z1, p, V2, F2, D2, S2, N2, z2, z3, z4, z5⟩
    · exact Or.inl z
    · exact Or.inr ⟨z1, p, V2, F2, D2, S2, N2, z2, z3, Gnd_X z4 (Nat.le_refl n) (fun _ _ => rfl) (fun a a1 a2 => hI a (by omega)) (fun a a1 a2 => hR a (by omega) (by omega)) (fun a a1 a2 => hR a (by omega) (by omega)) (fun q ls lc hq hqp => ⟨⟨hI q (by omega), hI _ (by omega), hI _ (by omega)⟩, hR q (by omega) (by omega)⟩), z5⟩
  refine ⟨im 0 m0, im 1 m1, by rw [hR 25 (by decide) (by decide)]; exact m2, fun a ha l hl => ?_⟩
  rw [hR 25 (by decide) (by decide)] at ha
  have := m3 a ha l hl
  have a31 : 31 < a := by
    rcases ha with z | z | z | z
    · omega
    · omega
    · rcases m0 with ⟨-, q⟩ | ⟨-, p, _, _, _, _, _, q, q3, _⟩
      · rw [q] at z
        cases z
      · rw [q] at z
        cases z
        omega
    · rcases m1 with ⟨-, q⟩ | ⟨-, p, _, _, _, _, _, q, q3, _⟩
      · rw [q] at z
        cases z
      · rw [q] at z
        cases z
        omega
  have ne : a + 10 ≠ 54 := by
    rcases ha with z | z | z | z
    · omega
    · omega
    · rcases m0 with ⟨-, q⟩ | ⟨-, p, _, _, _, _, _, q, q3, _⟩
      · rw [q] at z
        cases z
      · rw [q] at z
        cases z
        omega
    · rcases m1 with ⟨-, q⟩ | ⟨-, p, _, _, _, _, _, q, q3, _⟩
      · rw [q] at z
        cases z
      · rw [q] at z
        cases z
        omega
  rw [hR (a + 10) (by omega) ne]
  exact this
/-- what the reference's orders leave as they are -/
def OKe (I I' : Nat → Nat → Int32) : Prop := (∀ a, a ≠ 69 → a ≠ 70 → a ≠ 71 → a ≠ 74 → a ≠ 75 → a ≠ 76 → a ≠ 77 → a ≠ 80 → a ≠ 81 → a ≠ 82 → a ≠ 83 → a ≠ 90 → a ≠ 96 → I' a = I a) ∧ (I' 69 11 = I 69 11 ∧ I' 69 54 = I 69 54 ∧ I' 69 55 = I 69 55) ∧ I' 69 18 = -1 ∧ I' 69 20 = nI 0 ∧ I' 69 13 = nI 0
theorem m_ordersG (hO : O = mOl Lx xs) (hS : St n T R) (hb : ∀ k, b k ≤ 255) (ht : t ≤ 400) (hT : ∀ k, k < t → I 78 k = nI (b k)) (h13 : I 69 13 = nI t) (hC : Cns J) {L : List CL} (hr : gX true (fT b t) 12 0 0 = some (.inr L)) (l12 : L.length ≤ 12) (hL : ∀ x, x ∈ L → ClO true x) (l4 : (lnL L).1 ≤ 400) (l5 : (lnL L).2 ≤ 400) (hw : Wf (I 71) V F D S N) {U : Nat → Nat × (Nat → Int32)} {sx xx : Nat} (hM : MHi (I 69) (I 74) (I 75) U sx) : ∃ I' J', OKe I I' ∧ Cns J' ∧ (∀ j, oAl (oStp O 188 V F D S N) L 0 (I 71, 0, -1, U, sx, xx) = .inl j → F_X11_orders O 199 69 (hp u n T I J R) = some (-3, hp u n T I' J' R) ∧ I' 69 1 = -3 ∧ I' 69 50 = nI j ∧ I' 71 = I 71 ∧ MHi (I' 69) (I' 74) (I' 75) U sx ∧ ∀ k, I' 70 k = if k = 3 then I 70 3 + nI 1 else I 70 k) ∧ ∀ z', oAl (oStp O 188 V F D S N) L 0 (I 71, 0, -1, U, sx, xx) = .inr z' → F_X11_orders O 199 69 (hp u n T I J R) = some (nI z'.2.1, hp u n T I' J' R) ∧ I' 69 1 = nI 0 ∧ I' 69 50 = -1 ∧ I' 71 = z'.1 ∧ MHi (I' 69) (I' 74) (I' 75) z'.2.2.2.1 z'.2.2.2.2.1 ∧ I' 70 = I 70 := by
  let I0 : Nat → Nat → Int32 := up2 (up2 I 69 0 (nI 0)) 69 50 (-1)
  have o0 : ∀ a, a ≠ 69 → I0 a = I a := fun a ha => by
    show up2 (up2 I 69 0 (nI 0)) 69 50 (-1) a = _
    rw [up2_off _ _ _ ha, up2_off _ _ _ ha]
  have p0 : ∀ k, k ≠ 0 → k ≠ 50 → I0 69 k = I 69 k := fun k k1 k2 => by
    show up2 (up2 I 69 0 (nI 0)) 69 50 (-1) 69 k = _
    rw [up2_nk k2, up2_nk k1]
  have p50 : I0 69 50 = -1 := up2_at _ _ _ _
  obtain ⟨I1, J1, I2, J2, I3, J3, I4, J4, m1, m2, m3, m4, m5, m6, m7, m8, m9, m10, m11⟩ := m_textO (O := O) (u := u) (I := I0) (J := J) hS hb ht (fun k hk => by rw [o0 78 (by decide)]; exact hT k hk) (by rw [p0 13 (by decide) (by decide)]; exact h13) hC hr
  obtain ⟨z1, z2, z3, z4, z5⟩ := m6 L rfl
  obtain ⟨I5, e5, k1, k2, k3⟩ := v_keepAll (O := O) (d := 198) (u := u) (J := J4) (I := I4) (k := 17) hS (by decide)
  obtain ⟨I6, e6, k4, k5⟩ := m_keep (O := O) (d := 199) (u := u) (J := J4) (I := I5) (v1 := I5 69 8) hS
  obtain ⟨I7, e7, k6, k7⟩ := m_keep2 (O := O) (d := 199) (u := u) (J := J4) (I := I6) (v1 := I5 69 8) hS
  let I8 : Nat → Nat → Int32 := up2 (up2 I7 69 48 (nI 0)) 69 49 (-1)
  have o8 : ∀ a, a ≠ 69 → I8 a = I7 a := fun a ha => by
    show up2 (up2 I7 69 48 (nI 0)) 69 49 (-1) a = _
    rw [up2_off _ _ _ ha, up2_off _ _ _ ha]
  have p8 : ∀ k, k ≠ 48 → k ≠ 49 → I8 69 k = I4 69 k := fun k h1 h2 => by
    show up2 (up2 I7 69 48 (nI 0)) 69 49 (-1) 69 k = _
    rw [up2_nk h2, up2_nk h1, k6 69 (by decide), k4 69 (by decide), k1 69 (by decide)]
  have e48 : I8 69 48 = nI 0 := by
    show up2 (up2 I7 69 48 (nI 0)) 69 49 (-1) 69 48 = _
    rw [up2_nk (by decide), up2_at]
  have e49 : I8 69 49 = -1 := up2_at _ _ _ _
  have q8 : ∀ a, a ≠ 69 → a ≠ 74 → a ≠ 76 → a ≠ 77 → I8 a = I4 a := fun a h1 h2 h3 h4 => by rw [o8 a h1, k6 a h4, k4 a h3, k1 a h2]
  have i71 : I8 71 = I 71 := by rw [q8 71 (by decide) (by decide) (by decide) (by decide), m7 71 (by decide) (by decide) (by decide) (by decide) (by decide) (by decide), o0 71 (by decide)]
  have i474 : I4 74 = I 74 := by rw [m7 74 (by decide) (by decide) (by decide) (by decide) (by decide) (by decide), o0 74 (by decide)]
  have i475 : I4 75 = I 75 := by rw [m7 75 (by decide) (by decide) (by decide) (by decide) (by decide) (by decide), o0 75 (by decide)]
  have i874 : ∀ j, j < 496 → I8 74 j = I 74 j := fun j hj => by rw [o8 74 (by decide), k6 74 (by decide), k4 74 (by decide), k3 j (by omega), i474]
  have s17 : ∀ i, i < 31 → I8 74 (527 + i) = I 71 (6 + i) := fun i hi => by
    rw [o8 74 (by decide), k6 74 (by decide), k4 74 (by decide)]
    have := k2 i hi
    rw [this, m7 71 (by decide) (by decide) (by decide) (by decide) (by decide) (by decide), o0 71 (by decide)]
  have i875 : I8 75 = I 75 := by rw [q8 75 (by decide) (by decide) (by decide) (by decide), i475]
  have i876 : ∀ j, j < 496 → I8 76 j = I 74 j := fun j hj => by rw [o8 76 (by decide), k6 76 (by decide), k5 j hj, k3 j (by omega), i474]
  have i877 : ∀ j, j < 16 → I8 77 j = I 75 j := fun j hj => by rw [o8 77 (by decide), k7 j hj, k4 75 (by decide), k1 75 (by decide), i475]
  have f4 : ∀ k, Mf k = false → k ≠ 21 → k ≠ 20 → k ≠ 13 → k ≠ 0 → k ≠ 50 → I4 69 k = I 69 k := fun k h1 h2 h3 h4 h5 h6 => by rw [m8 k h1 h2 h3 h4, p0 k h5 h6]
  have f8 : I8 69 8 = I 69 8 := by rw [p8 8 (by decide) (by decide), f4 8 (by decide) (by decide) (by decide) (by decide) (by decide) (by decide)]
  have e450 : I4 69 50 = -1 := by rw [m8 50 (by decide) (by decide) (by decide) (by decide), p50]
  have i870 : I8 70 = I 70 := by rw [q8 70 (by decide) (by decide) (by decide) (by decide), m7 70 (by decide) (by decide) (by decide) (by decide) (by decide) (by decide), o0 70 (by decide)]
  have hM8 : MHi (I8 69) (I8 74) (I8 75) U sx := by
    obtain ⟨g1, g2, g3⟩ := hM
    refine ⟨by rw [f8]; exact g1, g2, fun j hj => ⟨by rw [i875]; exact (g3 j hj).1, fun i hi => by rw [i874 _ (by omega)]; exact (g3 j hj).2 i hi⟩⟩
  have hz : OMl V F D S N (I 71) I8 I8 J4 (I 71, 0, -1, U, sx, xx) := ⟨⟨fun _ _ _ _ _ _ => rfl, fun _ _ _ _ _ _ _ _ => rfl, by rw [p8 20 (by decide) (by decide)]; exact m10, fun _ _ => rfl, Cns_cg hC m9⟩, i71, hw, Kp.rf _, e48, e49, hM8⟩
  have hT8 : TxM ClR I8 0 0 L := by
    have : ∀ (L : List CL) (c s : Nat), TxM ClR I4 c s L → TxM ClR I8 c s L := by
      intro L
      induction L with
      | nil => exact fun _ _ _ => trivial
      | cons y L ih => exact fun c s h => ⟨ClR_cg I4 I8 c s y h.1 (fun i _ => by rw [q8 96 (by decide) (by decide) (by decide) (by decide)]) (fun i _ => by rw [q8 80 (by decide) (by decide) (by decide) (by decide), q8 81 (by decide) (by decide) (by decide) (by decide)]; exact ⟨rfl, rfl⟩), ih _ _ h.2⟩
    exact this L 0 0 z5
  have hCo : OCo I8 (lnL L).2 := ⟨l5, fun k hk => TxR_co L 0 0 hT8 hL (by omega) k (Nat.zero_le k) (by omega)⟩
  obtain ⟨I9, J9, f1, f2⟩ := m_oall (O := O) (d := 188) (u := u) (hv := I5 69 8) (cc := L.length) hO hS (by rw [p8 21 (by decide) (by decide)]; exact z3) l12 hCo L 0 0 I8 J4 _ FU (by omega) (by unfold FU; omega) hT8 (fun x hx => ⟨hL x hx, Nat.le_trans (lnL_le x hx) l4⟩) (by omega) hz
  have had : I5 69 8 = I 69 8 := by rw [k1 69 (by decide), f4 8 (by decide) (by decide) (by decide) (by decide) (by decide) (by decide)]
  have hd : ∀ {r43 : mH ⊕ (Int32 × mH)} {y}, lupF (fun (q : Int32 × mH) => F_X11_orders_l140 O 199 69 (I5 69 8) q.1 q.2) FU (nI 0, hp u n T I8 J4 R) = some r43 → (match r43 with | .inl r44 => (gtI r44 69 11 48).bind fun x45 => (toI (vc O 199 11 MX11_tell 69 [.int x45] r44)).bind fun p46 => some (p46.1, p46.2) | .inr r44 => some r44) = y → F_X11_orders O 199 69 (hp u n T I J R) = y := by
    intro r43 y e1 e2
    unfold F_X11_orders F_X11_orders_j46
    rw [pi_69_0 hS, Option.bind_some, pi_69_50 hS, Option.bind_some, vc_69 hS, m1, toV_v, Option.bind_some, vc_69 hS, m2, toV_v, Option.bind_some, m3, Option.bind_some, vc_69 hS, m4, toV_v, Option.bind_some, gi_69_19 hS, Option.bind_some, z1, if_pos (show nI 0 = 0 from rfl), vc_69 hS, e5, toV_v, Option.bind_some, gi_69_8 hS, Option.bind_some, e6, Option.bind_some, e7, Option.bind_some, pi_69_48 hS, Option.bind_some, pi_69_49 hS, Option.bind_some, e1, Option.bind_some]
    exact e2
  have base : ∀ a, a ≠ 69 → a ≠ 71 → a ≠ 74 → a ≠ 76 → a ≠ 77 → a ≠ 80 → a ≠ 81 → a ≠ 82 → a ≠ 83 → a ≠ 96 → I8 a = I a := fun a h1 _ h3 h4 h5 h6 h7 h8 h9 h10 => by rw [q8 a h1 h3 h4 h5, m7 a h1 h6 h7 h8 h9 h10, o0 a h1]
  have b69 : ∀ k, Mf k = false → k ≠ 21 → k ≠ 20 → k ≠ 13 → k ≠ 0 → k ≠ 50 → k ≠ 48 → k ≠ 49 → I8 69 k = I 69 k := fun k h1 h2 h3 h4 h5 h6 h7 h8 => by rw [p8 k h7 h8, f4 k h1 h2 h3 h4 h5 h6]
  cases ho : oAl (oStp O 188 V F D S N) L 0 (I 71, 0, -1, U, sx, xx) with
  | inl j =>
    obtain ⟨g1, h1, h2, h3, h4, h5, h6, h7, h8, h9, h10, h11, h12⟩ := f1 j ho
    refine ⟨I9, J9, ⟨fun a a1 a2 a3 a4 a5 a6 a7 a8 a9 a10 a11 a12 a13 => by rw [h1 a a1 a2 a3 a4 a5 a12, base a a1 a3 a4 a6 a7 a8 a9 a10 a11 a13], ⟨?_, ?_, ?_⟩, ?_, h3, ?_⟩, h12, fun j' e => ?_, (fun z' e => by cases e)⟩
    · rw [h2 11 (by decide) (by decide) (by decide) (by decide) (by decide) (by decide) (by decide) (by decide) (by decide), b69 11 (by decide) (by decide) (by decide) (by decide) (by decide) (by decide) (by decide) (by decide)]
    · rw [h2 54 (by decide) (by decide) (by decide) (by decide) (by decide) (by decide) (by decide) (by decide) (by decide), b69 54 (by decide) (by decide) (by decide) (by decide) (by decide) (by decide) (by decide) (by decide)]
    · rw [h2 55 (by decide) (by decide) (by decide) (by decide) (by decide) (by decide) (by decide) (by decide) (by decide), b69 55 (by decide) (by decide) (by decide) (by decide) (by decide) (by decide) (by decide) (by decide)]
    · rw [h2 18 (by decide) (by decide) (by decide) (by decide) (by decide) (by decide) (by decide) (by decide) (by decide), p8 18 (by decide) (by decide), z2]
    · rw [h2 13 (by decide) (by decide) (by decide) (by decide) (by decide) (by decide) (by decide) (by decide) (by decide), p8 13 (by decide) (by decide), m11]
    · cases e
      refine ⟨hd g1 rfl, h4, h5, ?_, ?_, fun k => by rw [h11 k, i870]⟩
      · funext i
        by_cases hi : i < 6 ∨ 37 ≤ i
        · exact h8 i hi
        · have := h7 (i - 6) (by omega)
          rw [show 6 + (i - 6) = i by omega, s17 (i - 6) (by omega), show 6 + (i - 6) = i by omega] at this
          exact this
      · obtain ⟨y1, y2, y3⟩ := hM
        exact ⟨by rw [h6, had]; exact y1, y2, fun j hj => ⟨by rw [h10 _ (by omega), i877 _ (by omega)]; exact (y3 j hj).1, fun i hi => by rw [h9 _ (by omega), i876 _ (by omega)]; exact (y3 j hj).2 i hi⟩⟩
  | inr z' =>
    obtain ⟨g1, ⟨h1, h2, h3, h4, h5⟩, h6, h7, h8, h9, h10, h11, h12, h13'⟩ := f2 z' ho
    have dn : z'.2.1 ≤ 0 + 20 * L.length := oAl_dn L 0 _ z' (fun x hx => (hL x hx).2.2.1) ho
    refine ⟨up2 I9 69 1 (nI 0), J9, ⟨fun a a1 a2 a3 a4 a5 a6 a7 a8 a9 a10 a11 a12 a13 => by rw [up2_off _ _ _ a1, h1 a a1 a3 a4 a5 a12, base a a1 a3 a4 a6 a7 a8 a9 a10 a11 a13], ⟨?_, ?_, ?_⟩, ?_, by rw [up2_nk (by decide)]; exact h3, ?_⟩, h5, (fun j' e => by cases e), fun z2' e => ?_⟩
    · rw [up2_nk (by decide), h2 11 (by decide) (by decide) (by decide) (by decide) (by decide) (by decide) (by decide), b69 11 (by decide) (by decide) (by decide) (by decide) (by decide) (by decide) (by decide) (by decide)]
    · rw [up2_nk (by decide), h2 54 (by decide) (by decide) (by decide) (by decide) (by decide) (by decide) (by decide), b69 54 (by decide) (by decide) (by decide) (by decide) (by decide) (by decide) (by decide) (by decide)]
    · rw [up2_nk (by decide), h2 55 (by decide) (by decide) (by decide) (by decide) (by decide) (by decide) (by decide), b69 55 (by decide) (by decide) (by decide) (by decide) (by decide) (by decide) (by decide) (by decide)]
    · rw [up2_nk (by decide), h2 18 (by decide) (by decide) (by decide) (by decide) (by decide) (by decide) (by decide), p8 18 (by decide) (by decide), z2]
    · rw [up2_nk (by decide), h2 13 (by decide) (by decide) (by decide) (by decide) (by decide) (by decide) (by decide), p8 13 (by decide) (by decide), m11]
    · cases e
      refine ⟨hd g1 ?_, up2_at _ _ _ _, ?_, by rw [up2_off _ _ _ (by decide)]; exact h6, ⟨by rw [up2_nk (by decide)]; exact h11, h12, by rw [up2_off _ _ _ (by decide), up2_off _ _ _ (by decide)]; exact h13'⟩, ?_⟩
      · dsimp only
        rw [gi_69_48 hS, Option.bind_some, h9, vc_69 hS, v_tell0 hS (by omega), toI_i, Option.bind_some]
      · rw [up2_nk (by decide), h2 50 (by decide) (by decide) (by decide) (by decide) (by decide) (by decide) (by decide), p8 50 (by decide) (by decide), e450]
      · rw [up2_off _ _ _ (by decide), h1 70 (by decide) (by decide) (by decide) (by decide) (by decide), i870]
end OR1
