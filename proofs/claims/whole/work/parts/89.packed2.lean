/-! calls: packed, done -/
section PK2
variable {O : mO} {L : Nat} {xs : Nat → Int32} {c d u n : Nat} {T : Nat → mT} {I : Nat → Nat → Int32} {J : Nat → Nat → Int64} {R : Nat → Nat → Option Nat} {g V F D S N s k p : Nat} {w : Nat → Int32} {K : mH}
theorem c_pack {o : Int32} (hS : St n T R) (hG : Gnd n T I R g w V F D S N) (hw : Wf w V F D S N) (ha : ∀ j, j < D → w (9 + j) ≠ -1 → I 9 j = nI (pkA w V D j)) : lupF (fun (q : Int32 × Int32 × mH) => F_X4_packing_l44 O (d + 4) 7 g o q.1 q.2.1 q.2.2) FU (-1, nI 0, hp u n T I J R) = some (oI (pkS (pkO w V D) (2 ^ V)), hp u n T I J R) := by
  have hn := hS.2.1
  have h8 := hw.1
  have c2 := hG.1.2.1
  have z11 : I g 11 = nI V := hG.1.2.2.2.2.1
  have p5 : 2 ^ V ≤ 32 := Nat.pow_le_pow_right (n := 2) (by decide) h8.1
  refine lup_0 (fun s => (oI (pkS (pkO w V D) s), nI s, hp u n T I J R)) (N := 2 ^ V) (by omega) rfl (fun s hs => ?_) ?_
  · obtain ⟨r, er, hr⟩ := c_can (O := O) (d := d) (u := u) (J := J) hS hG hw ha hs
    have hb : r = bI (pkO w V D s) := by
      have pi := pk_iff hw hs
      rcases hr with ⟨r1, r2⟩ | ⟨r1, r2⟩
      · rw [r1, pi.mp r2]
        rfl
      · rw [r1]
        cases hx : pkO w V D s with
        | true => exact absurd (pi.mpr hx) r2
        | false => rfl
    rw [hb] at er
    dsimp only
    unfold F_X4_packing_l44
    rw [gi_g_11 c2 hn, Option.bind_some, z11, btI_one V (by omega), if_neg (nI_ge hs (by omega))]
    cases hx : pkS (pkO w V D) s with
    | none =>
      rw [if_pos (show oI none = -1 from rfl), pkS_n hx]
      unfold F_X4_packing_j72 F_X4_packing_j77
      rw [if_neg (show ¬ nI 1 = 0 by decide), vc_7 hS, er, toI_i, Option.bind_some]
      dsimp only
      rw [nI_add]
      cases pkO w V D s with
      | true => rw [if_neg nbt, if_pos rfl]; rfl
      | false => rw [if_pos (show bI false = 0 from rfl), if_neg (by decide)]
    | some b =>
      have bl := pkS_lt _ _ _ hx
      have ps := (pop_all s (by omega)).2
      have pb := (pop_all b (by omega)).2
      rw [if_neg (show ¬ oI (some b) = -1 from nI_ne1 (by omega)), v_bit, pop_bc (by omega), toI_i, Option.bind_some]
      dsimp only
      rw [v_bit, show oI (some b) = nI b from rfl, pop_bc (by omega), toI_i, Option.bind_some, pkS_y hx]
      dsimp only
      by_cases hp : popN s < popN b
      · rw [if_neg (show ¬ nI (popN b) ≤ nI (popN s) from nI_ge hp (by omega)), if_neg (show ¬ nI 1 = 0 by decide), vc_7 hS, er, toI_i, Option.bind_some]
        dsimp only
        rw [nI_add]
        cases pkO w V D s with
        | true => rw [if_neg nbt, if_pos ⟨rfl, hp⟩]; rfl
        | false => rw [if_pos (show bI false = 0 from rfl), if_neg (fun z => by cases z.1)]; rfl
      · rw [if_pos (show nI (popN b) ≤ nI (popN s) from nI_le (by omega) (by omega)), if_pos (show nI 0 = 0 from rfl), if_neg (fun z => hp z.2), nI_add]
        rfl
  · dsimp only
    unfold F_X4_packing_l44
    rw [gi_g_11 c2 hn, Option.bind_some, z11, btI_one V (by omega), if_pos (nI_le (Nat.le_refl _) (by omega))]
theorem shl_all : ∀ b, b < 4 → ∀ v, v < 5 → nI b <<< ((nI 2 * nI v) &&& 31) = nI (b * 4 ^ v) := by decide +kernel
theorem m_free {a1 a2 a3 : Int32} (hS : St n T R) (hw : Wf (I 71) V F D S N) (hs : s < 2 ^ V) : lupF (fun (q : Int32 × Int32 × mH) => F_X11_packed_l50 O d 69 a1 a2 a3 (nI s) q.1 q.2.1 q.2.2) FU (nI 0, nI 0, hp u n T I J R) = some (nI (pkR (I 71) V s), hp u n T I J R) := by
  have h8 := hw.1
  have p5 : 2 ^ V ≤ 32 := Nat.pow_le_pow_right (n := 2) (by decide) h8.1
  refine lup_0 (fun v => (nI (csN (fun v => pkB (I 71) v * 4 ^ v) s v), nI v, hp u n T I J R)) (N := V) (by omega) rfl (fun v hv => ?_) ?_
  · obtain ⟨b1, b2⟩ := pkB_n hw hv
    dsimp only
    unfold F_X11_packed_l50
    rw [ga_69_3 hS, Option.bind_some, rd_71 hS (by omega), Option.bind_some, hw.2.1.1, if_neg (nI_ge hv (by omega)), v_is, is_all v (by omega) s (by omega), toI_i, Option.bind_some, csN_s]
    dsimp only
    unfold F_X11_packed_j92
    cases hb : s.testBit v with
    | true => rw [if_neg nbt, ga_69_3 hS, Option.bind_some, nI_add, rd_71 hS (by omega), Option.bind_some, b1, shl_all _ (by omega) v (by omega), nI_add, nI_add, if_pos rfl]
    | false => rw [if_pos (show bI false = 0 from rfl), nI_add, nI_add, if_neg (by decide)]
  · dsimp only
    unfold F_X11_packed_l50
    rw [ga_69_3 hS, Option.bind_some, rd_71 hS (by omega), Option.bind_some, hw.2.1.1, if_pos (nI_le (Nat.le_refl V) (by omega))]
    rfl
def pkW (o : Nat) (Z : Option Nat) : Int32 := match Z with
  | none => -1
  | some b => if nI o = 0 then nI (popN b) else nI b
theorem pkW_s (o b : Nat) : pkW o (some b) = if nI o = 0 then nI (popN b) else nI b := rfl
def pkM (o : Option Nat) : Int32 × Int32 := match o with
  | none => (100000000, -1)
  | some b => (nI (popN b), nI b)
theorem m_pack {o : Int32} (hS : St n T R) (hw : Wf (I 71) V F D S N) (ht : TbR I (I 71) V D true 0) : lupF (fun (q : Int32 × Int32 × Int32 × mH) => F_X11_packed_l31 O d 69 o q.1 q.2.1 q.2.2.1 q.2.2.2) FU (100000000, -1, nI 0, hp u n T I J R) = some ((pkM (pkS (pkO (I 71) V D) (2 ^ V))).1, (pkM (pkS (pkO (I 71) V D) (2 ^ V))).2, hp u n T I J R) := by
  have h8 := hw.1
  have p5 : 2 ^ V ≤ 32 := Nat.pow_le_pow_right (n := 2) (by decide) h8.1
  have n1 : ¬ nI 1 = 0 := by decide
  refine lup_0 (fun s => ((pkM (pkS (pkO (I 71) V D) s)).1, (pkM (pkS (pkO (I 71) V D) s)).2, nI s, hp u n T I J R)) (N := 2 ^ V) (by omega) rfl (fun s hs => ?_) ?_
  · obtain ⟨f1, f2⟩ := fr_bl (b := pkB (I 71)) h8.1 hs (fun v hv => (pkB_n hw hv).2)
    have tb := ht 0 (pkR (I 71) V s) (Nat.le_refl 0) (Nat.zero_le D) f1
    rw [Nat.mul_zero, Nat.zero_add] at tb
    have f1' : pkR (I 71) V s < 1024 := f1
    have bd := bsT_bd (w := I 71) (V := V) (all := true) h8.2.2.1 0 (pkR (I 71) V s)
    have on := oI_n (bd.mono (by decide))
    have ps := pop_all s (by omega)
    dsimp only
    unfold F_X11_packed_l31
    rw [ga_69_3 hS, Option.bind_some, rd_71 hS (by omega), Option.bind_some, hw.2.1.1, btI_one V (by omega), if_neg (nI_ge hs (by omega)), m_free hS hw hs, Option.bind_some]
    dsimp only
    rw [ga_69_43 hS, Option.bind_some, rd_92 hS (by omega), Option.bind_some, tb]
    cases hk : pkO (I 71) V D s with
    | false =>
      have e : bsT (I 71) V D true 0 (pkR (I 71) V s) = none := by
        unfold pkO at hk
        revert hk
        cases bsT (I 71) V D true 0 (pkR (I 71) V s) <;> simp
      have st : pkS (pkO (I 71) V D) (s + 1) = pkS (pkO (I 71) V D) s := by
        cases hx : pkS (pkO (I 71) V D) s with
        | none => rw [pkS_n hx, hk, if_neg (by decide)]
        | some b => rw [pkS_y hx, hk, if_neg (fun z => by cases z.1)]
      rw [if_pos (on.mpr e), st]
      unfold F_X11_packed_j125 F_X11_packed_j126
      rw [if_pos (show nI 0 = 0 from rfl), if_pos (show nI 0 = 0 from rfl), nI_add]
    | true =>
      have e : ¬ bsT (I 71) V D true 0 (pkR (I 71) V s) = none := by
        unfold pkO at hk
        intro z
        rw [z] at hk
        cases hk
      rw [if_neg (fun z => e (on.mp z)), v_ones, ps.1, toI_i, Option.bind_some]
      dsimp only
      have up : ∀ a b : Int32, ¬ a ≤ nI (popN s) → pkS (pkO (I 71) V D) (s + 1) = some s → (if (if a ≤ nI (popN s) then nI 0 else nI 1) = 0 then some (Sum.inl (a, (if (if a ≤ nI (popN s) then nI 0 else nI 1) = 0 then b else nI s), nI s + nI 1, hp u n T I J R)) else (toI (ev O d MX11_ones [.int (nI s)] (hp u n T I J R))).bind fun p30 => some (.inl (p30.1, (if (if a ≤ nI (popN s) then nI 0 else nI 1) = 0 then b else nI s), nI s + nI 1, p30.2))) = some (Sum.inl (β := Int32 × Int32 × mH) ((pkM (pkS (pkO (I 71) V D) (s + 1))).1, (pkM (pkS (pkO (I 71) V D) (s + 1))).2, nI (s + 1), hp u n T I J R)) := by
        intro a b hab hst
        rw [if_neg hab, if_neg n1, if_neg n1, v_ones, ps.1, toI_i, Option.bind_some, hst, nI_add]
        rfl
      cases hx : pkS (pkO (I 71) V D) s with
      | none =>
        refine up _ _ ?_ (by rw [pkS_n hx, hk, if_pos rfl])
        show ¬ (100000000 : Int32) ≤ nI (popN s)
        rw [show (100000000 : Int32) = nI 100000000 by decide]
        exact nI_ge (by omega) (by omega)
      | some b =>
        have bl := pkS_lt _ _ _ hx
        have pb := (pop_all b (by omega)).2
        by_cases hp : popN s < popN b
        · refine up _ _ ?_ (by rw [pkS_y hx, hk, if_pos ⟨rfl, hp⟩])
          exact nI_ge hp (by omega)
        · have le : (pkM (some b)).1 ≤ nI (popN s) := nI_le (by omega) (by omega)
          rw [if_pos le, if_pos (show nI 0 = 0 from rfl), if_pos (show nI 0 = 0 from rfl), pkS_y hx, if_neg (fun z => hp z.2), nI_add]
  · dsimp only
    unfold F_X11_packed_l31
    rw [ga_69_3 hS, Option.bind_some, rd_71 hS (by omega), Option.bind_some, hw.2.1.1, btI_one V (by omega), if_pos (nI_le (Nat.le_refl _) (by omega))]
theorem b_packed {a1 : Int32} (hI : Inv c K) : Bo O Inv MX10_packed MX11_packed [.int a1] c K := by
  obtain ⟨u, n, T, I, J, R, g, h, V, F, D, S, N, x, s, rfl, hI⟩ := hI
  obtain ⟨hS, hn, gg, hh, hG, hH, hw, hgd, hg⟩ := Iv_all hI
  obtain ⟨⟨v5, f4, d8, s8, n6⟩, ⟨w0, w1, w2, w3, w4⟩, hf, hs, hfam, hwi, hsn, hlw⟩ := hw
  obtain ⟨⟨c1, c2, c3, c4, c5, c6, c7, c8, c9, c10, c11, c12⟩, q1, q2, q3, q4, q5, q6, q7, q8, q9, q10, q11, ql⟩ := hgd
  obtain ⟨⟨b1, b2, b3, b4, b5⟩, b6, b7, b8, b9, b10⟩ := hI.2.2.2.2.2.2.2.1
  have hJ := hI.2.2.2.2.2.2.2.2.2
  have hu := hI.2.2.2.2.1
  have hw := hI.2.2.1
  have hgd := hI.2.2.2.1
  have no : F_X10_packed O 199 0 a1 (hp u n T I J R) = some (-1, hp u n T I J R) → F_X11_packed O 199 69 a1 (hp u n T I J R) = some (-1, hp u n T (up2 I 69 0 (nI 0)) J R) → Bo O Inv MX10_packed MX11_packed [.int a1] c (hp u n T I J R) := fun h1 h2 => Bo_i (u1 := u) (J1 := J) (J2 := J) (e_X10_packed (d := 199) h1) hS (e_X11_packed (d := 199) h2) (Iv_thr hI (nI 0)).e
  rcases arg_0 a1 (hi := 1) (by decide) with ⟨o, ho, rfl⟩ | ⟨hb5, hb2⟩
  · obtain ⟨r1, e1, I1, hr1, o1, k1⟩ := c_layA (O := O) (d := 194) (u := u) (J := J) (o := nI o) hS hgd hw
    have hG1 : Gnd n T I1 R g (I 71) V F D S N := Gnd_cg hgd (fun a ha => o1 a (by omega) (by omega) (by omega) (by omega))
    have e2 := c_pack (O := O) (d := 194) (u := u) (J := J) (o := nI o) hS hG1 hw k1
    have i71 : up2 I1 69 0 (nI 0) 71 = I 71 := by rw [up2_off _ _ _ (by decide)]; exact o1 71 (by decide) (by decide) (by decide) (by decide)
    obtain ⟨I2, J2, e3, p1, p2, p3, p4, p5⟩ := m_layBest (O := O) (d := 192) (u := u) (J := J) (I := up2 I1 69 0 (nI 0)) true hS (by rw [up2_nk (by decide), o1 69 (by decide) (by decide) (by decide) (by decide)]; exact b5) (by rw [i71]; exact hw)
    have j71 : I2 71 = I 71 := (p1 71 (by decide) (by decide) (by decide)).trans i71
    rw [i71] at p5
    have e4 := m_pack (O := O) (d := 199) (u := u) (J := J2) (I := I2) (o := nI o) hS (by rw [j71]; exact hw) (by rw [j71]; exact p5)
    rw [j71] at e4
    have lt := pkS_lt (pkO (I 71) V D) (2 ^ V)
    have pw : 2 ^ V ≤ 32 := Nat.pow_le_pow_right (n := 2) (by decide) v5
    generalize pkS (pkO (I 71) V D) (2 ^ V) = Z at e2 e4 lt
    refine Bo_rd (a := pkW o Z) (I1 := I1) (J1 := J) hI (e_X10_packed (d := 199) ?_) (fun a ha => o1 a (by unfold Rlv rl at ha; omega) (by unfold Rlv rl at ha; omega) (by unfold Rlv rl at ha; omega) (by unfold Rlv rl at ha; omega)) (MJx_r J) (e_X11_packed (d := 199) ?_) ((MSx_thr I1 (nI 0)).tr ⟨fun a h1 h2 => p1 a h1 (by omega) (by omega), fun k hk => p2 k (by omega) (by omega)⟩) p3
    · have ek : ev O 199 MX4_packing [.ref 7, .ref g, .int (nI o)] (hp u n T I J R) = some (some (.int (pkW o Z)), hp u n T I1 J R) := by
        refine e_X4_packing (d := 198) ?_
        unfold F_X4_packing
        rw [e1, hr1, Option.bind_some, e2, Option.bind_some]
        dsimp only
        cases Z with
        | none =>
          rw [if_pos (show oI none = -1 from rfl)]
          rfl
        | some b =>
          have := lt b rfl
          rw [if_neg (show ¬ oI (some b) = -1 from nI_ne1 (by omega)), pkW_s]
          by_cases h0 : nI o = 0
          · rw [if_pos h0, if_pos h0, v_bit, show oI (some b) = nI b from rfl, pop_bc (by omega)]
            rfl
          · rw [if_neg h0, if_neg h0]
            rfl
      unfold F_X10_packed
      rw [if_neg (nI_pos (by omega)), if_pos (nI_le ho (by omega)), ga_0_1 hS, Option.bind_some, gg, Option.bind_some, vc_7 hS, ek]
      rfl
    · unfold F_X11_packed
      rw [pi_69_0 hS, Option.bind_some, v_in_0_1, rg_t (Nat.zero_le o) ho (by decide), toI_i, Option.bind_some, if_neg nbt]
      dsimp only
      rw [vc_69 hS, show nI 1 = bI true from rfl, e3, toV_v, Option.bind_some, e4, Option.bind_some]
      dsimp only
      cases Z with
      | none => rw [if_pos (show (pkM none).2 = -1 from rfl)]; rfl
      | some b =>
        have := lt b rfl
        rw [if_neg (show ¬ (pkM (some b)).2 = -1 from nI_ne1 (by omega)), pkW_s]
        have : o = 0 ∨ o = 1 := by omega
        rcases this with rfl | rfl
        · rw [if_neg (show ¬ nI 0 = bI true by decide), if_pos (show nI 0 = 0 from rfl)]
          rfl
        · rw [if_pos (show nI 1 = bI true from rfl), if_neg (show ¬ nI 1 = 0 by decide)]
          rfl
  · refine no ?_ ?_
    · unfold F_X10_packed
      rcases hb2 with z | ⟨z1, z2, z3⟩
      · rw [if_pos z]
      · rw [if_neg z1, if_neg z2]
    · unfold F_X11_packed
      rw [pi_69_0 hS, Option.bind_some, v_in_0_1, hb5]
      rfl
end PK2
