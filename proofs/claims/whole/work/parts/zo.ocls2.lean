/-! orders: the class carries them out, turn by turn -/
section OCD
variable {O : mO} {L : Nat} {xs : Nat → Int32} {d u n : Nat} {T : Nat → mT} {I : Nat → Nat → Int32} {J : Nat → Nat → Int64} {R : Nat → Nat → Option Nat} {g2 h2 V F D S N sc cc c s i : Nat} {w0 : Nat → Int32} {x : CL} {z : OS}
theorem OCl_cg {I' : Nat → Nat → Int32} (h : OCl n T R g2 h2 V F D S N w0 I z) (hgh : g2 = 32 ∧ h2 = 26 ∨ g2 = 58 ∧ h2 = 56) (ho : ∀ a, a ≠ 28 → a ≠ 29 → a ≠ 55 → I' a = I a) : OCl n T R g2 h2 V F D S N w0 I' z := by
  obtain ⟨h1, h2', h3, h4, h5, h6, h7⟩ := h
  exact ⟨Gnd_cg h1 (fun a ha => ho a (by omega) (by omega) (by omega)), h2', h3, by rw [ho 54 (by decide) (by decide) (by decide)]; exact h4, by rw [ho 54 (by decide) (by decide) (by decide)]; exact h5, by rw [ho h2 (by omega) (by omega) (by omega), ho (h2 + 1) (by omega) (by omega) (by omega)]; exact h6, h7⟩
/-- kind, sums, act -/
theorem c_canDo (hO : O = mOl L xs) (hS : St n T R) (hr2 : R 54 2 = some g2) (hr3 : R 54 3 = some h2) (hgh : g2 = 32 ∧ h2 = 26 ∨ g2 = 58 ∧ h2 = 56) (hx : OTx n T R I sc cc c s x) (hz : OCl n T R g2 h2 V F D S N w0 I z) (h55 : ∀ i, i < 16 → I 55 i = oW z.1 D F z.2.1 z.2.2.1 i) : ∃ I' v, OFr g2 h2 I I' ∧ ev O (d + 10) MX9_canDo [.ref 54, .ref 2, .int (nI c)] (hp u n T I J R) = some (some (.int v), hp u n T I' J R) ∧ (oCan O d V F D S N x z = none → v = nI 0) ∧ ∀ z', oCan O d V F D S N x z = some z' → v = nI 1 ∧ OCl n T R g2 h2 V F D S N w0 I' z' := by
  have hn := hS.2.1
  have cc12 : c < 12 := by
    obtain ⟨ls, lc, hP, h1, h2', h3, -⟩ := hx.1
    have := hx.2.1
    omega
  have hX : wdF (I 55) 16 = oX z.1 D F z.2.1 z.2.2.1 := wdF_cg h55
  have lfx : ∃ lf, LfR true (oX z.1 D F z.2.1 z.2.2.1) lf := ⟨lfF true (fun _ => 0) (fun j => if j = 1 then (z.1 6).toInt64 else if j = 2 then (nI z.2.1).toInt64 else if j = 3 then z.2.2.1.toInt64 else (nI (D - cnt (fun j => z.1 (9 + j)) (-1) D)).toInt64) z.1 D F, oX_lf rfl rfl rfl rfl⟩
  obtain ⟨-, v2, v3, k0, k1⟩ := OTx_v hx lfx
  have hk3 : x.1 ≤ 3 := hx.2.2.2.1.1
  have oE : oCan O d V F D S N x z = (vOf (oX z.1 D F z.2.1 z.2.2.1) x.2.2.1).bind fun a => (vOf (oX z.1 D F z.2.1 z.2.2.1) x.2.2.2.2.1).bind fun b => oDo O d V F D S N x z a b := rfl
  rw [oE]
  generalize oX z.1 D F z.2.1 z.2.2.1 = X at *
  obtain ⟨Ka, w1⟩ := v_work (O := O) (d := d + 8) (u := u) (J := J) (k := 2) hS hx.1 hx.2.1 (by decide)
  rw [hX, v2] at w1
  have hd : ∀ {y : Int32 × mH}, (if bI (vOf X x.2.2.1).isNone = 0 then (toI (ev O (d + 9) MX8_work [.ref 28, .ref 2, .int (nI c), .int (nI 3), .ref 55] (hp u n T (WI I 29 28 Ka (bI (vOf X x.2.2.1).isNone)) J R))).bind fun p10 => (gtA p10.2 54 9 0).bind fun x11 => (gtI p10.2 x11 8 1).bind fun x12 => if x12 = 0 then (gtA p10.2 54 9 2).bind fun x14 => (gtA p10.2 54 9 3).bind fun x15 => (toI (ev O (d + 9) MX10_act [.ref x14, .ref x15, .int (nI x.1), .int ((vOf X x.2.2.1).getD (nI 0)), .int p10.1] p10.2)).bind fun p16 => if 0 ≤ p16.1 then (gtI p16.2 54 9 4).bind fun x18 => (ptI p16.2 54 9 4 (x18 + (nI 1))).bind fun K19 => if nI x.1 = 0 then F_X9_canDo_j112 O (d + 9) p16.1 54 K19 else (gtI K19 54 9 5).bind fun x22 => F_X9_canDo_j112 O (d + 9) x22 54 K19 else some ((nI 0), p16.2) else some ((nI 0), p10.2) else some ((nI 0), hp u n T (WI I 29 28 Ka (bI (vOf X x.2.2.1).isNone)) J R)) = some y → ev O (d + 10) MX9_canDo [.ref 54, .ref 2, .int (nI c)] (hp u n T I J R) = some (some (.int y.1), y.2) := by
    intro y e
    refine e_X9_canDo ?_
    have kp := v_part (O := O) (d := d + 9) (u := u) (I := I) (J := J) (k := 0) hS cc12 (by decide)
    rw [show I 4 (c * 6 + 0) = nI x.1 from k0] at kp
    unfold F_X9_canDo
    rw [vc_2 hS, kp, toI_i, Option.bind_some]
    dsimp only
    rw [ga_54_0 hS, Option.bind_some, ga_54_1 hS, Option.bind_some, vc_28 hS, w1, toI_i, Option.bind_some]
    dsimp only
    rw [ga_54_0 hS, Option.bind_some, gi_28_1 hS, Option.bind_some, WI_28, Option.bind_some, ga_54_1 hS, Option.bind_some, vc_28 hS]
    exact e
  have oI3 : ∀ a, a ≠ 28 → a ≠ 29 → a ≠ 55 → WI I 29 28 Ka (bI (vOf X x.2.2.1).isNone) a = I a := fun a h1 h2 _ => WI_off h1 h2
  have fr3 : OFr g2 h2 I (WI I 29 28 Ka (bI (vOf X x.2.2.1).isNone)) := ⟨fun a _ _ _ h4 h5 _ _ _ => WI_off h4 h5, fun k _ _ => by rw [WI_off (by decide) (by decide)]⟩
  have hx3 : OTx n T R (WI I 29 28 Ka (bI (vOf X x.2.2.1).isNone)) sc cc c s x := OTx_cg hx (WI_off (by decide) (by decide)) (WI_off (by decide) (by decide)) (WI_off (by decide) (by decide))
  have hz3 := OCl_cg hz hgh oI3
  have i553 : WI I 29 28 Ka (bI (vOf X x.2.2.1).isNone) 55 = I 55 := WI_off (by decide) (by decide)
  have i33 : WI I 29 28 Ka (bI (vOf X x.2.2.1).isNone) 3 = I 3 := WI_off (by decide) (by decide)
  have i43 : WI I 29 28 Ka (bI (vOf X x.2.2.1).isNone) 4 = I 4 := WI_off (by decide) (by decide)
  generalize WI I 29 28 Ka (bI (vOf X x.2.2.1).isNone) = I3 at *
  cases e1 : vOf X x.2.2.1 with
  | none =>
    rw [e1] at hd
    exact ⟨I3, nI 0, fr3, hd (y := (nI 0, hp u n T I3 J R)) (by rw [if_neg (show ¬ bI (none : Option Int32).isNone = 0 by decide)]), fun _ => rfl, (fun z' q => by cases q)⟩
  | some a =>
    rw [e1] at hd
    obtain ⟨Kb, w2⟩ := v_work (O := O) (d := d + 8) (u := u) (J := J) (k := 3) hS hx3.1 hx3.2.1 (by decide)
    rw [i553, i33, i43, hX, v3] at w2
    have oI4 : ∀ a, a ≠ 28 → a ≠ 29 → a ≠ 55 → WI I3 29 28 Kb (bI (vOf X x.2.2.2.2.1).isNone) a = I3 a := fun a h1 h2 _ => WI_off h1 h2
    have fr4 : OFr g2 h2 I3 (WI I3 29 28 Kb (bI (vOf X x.2.2.2.2.1).isNone)) := ⟨fun a _ _ _ h4 h5 _ _ _ => WI_off h4 h5, fun k _ _ => by rw [WI_off (by decide) (by decide)]⟩
    have hz4 := OCl_cg hz3 hgh oI4
    have b4 : WI I3 29 28 Kb (bI (vOf X x.2.2.2.2.1).isNone) 28 1 = bI (vOf X x.2.2.2.2.1).isNone := WI_28
    generalize WI I3 29 28 Kb (bI (vOf X x.2.2.2.2.1).isNone) = I4 at *
    have hd2 : ∀ {y : Int32 × mH}, (if bI (vOf X x.2.2.2.2.1).isNone = 0 then (toI (ev O (d + 9) MX10_act [.ref g2, .ref h2, .int (nI x.1), .int a, .int ((vOf X x.2.2.2.2.1).getD (nI 0))] (hp u n T I4 J R))).bind fun p16 => if 0 ≤ p16.1 then (gtI p16.2 54 9 4).bind fun x18 => (ptI p16.2 54 9 4 (x18 + (nI 1))).bind fun K19 => if nI x.1 = 0 then F_X9_canDo_j112 O (d + 9) p16.1 54 K19 else (gtI K19 54 9 5).bind fun x22 => F_X9_canDo_j112 O (d + 9) x22 54 K19 else some ((nI 0), p16.2) else some ((nI 0), hp u n T I4 J R)) = some y → ev O (d + 10) MX9_canDo [.ref 54, .ref 2, .int (nI c)] (hp u n T I J R) = some (some (.int y.1), y.2) := by
      intro y e
      apply hd
      rw [if_pos (show bI (some a).isNone = 0 from rfl), w2, toI_i, Option.bind_some]
      dsimp only
      rw [ga_54_0 hS, Option.bind_some, gi_28_1 hS, Option.bind_some, b4, ga_tg hS hr2, Option.bind_some, ga_th hS hr3, Option.bind_some]
      exact e
    cases e2 : vOf X x.2.2.2.2.1 with
    | none =>
      rw [e2] at hd2
      exact ⟨I4, nI 0, fr3.trans fr4, hd2 (y := (nI 0, hp u n T I4 J R)) (by rw [if_neg (show ¬ bI (none : Option Int32).isNone = 0 by decide)]), fun _ => rfl, (fun z' q => by cases q)⟩
    | some b =>
      rw [e2] at hd2
      obtain ⟨hG, hW, hK, h4, h5, hCh, hU⟩ := hz4
      obtain ⟨⟨aw, ak, ar⟩, aC, -⟩ := oAct_s (O := O) (d := d) (S := S) (N := N) (kk := x.1) (a := a) (b := b) hO hW hk3
      rw [Option.bind_some, Option.bind_some]
      unfold oDo
      generalize oAct O d z.1 V F D S N x.1 a b = p at aw ak ar aC ⊢
      obtain ⟨c1, c2, c3, c4, c5⟩ := hCh
      have hH : IsH n T R h2 := by
        rcases hgh with ⟨-, e⟩ | ⟨-, e⟩ <;> rw [e]
        · exact St_H26 hS
        · exact St_H56 hS
      obtain ⟨I5, ea, ga, oa, sa, fa⟩ := v_act (O := O) (d := d + 8) (u := u) (J := J) (I := I4) (kk := x.1) (a := a) (b := b) (M := acM x.1) (as := acA x.1 a b) (ret := p.1) (w' := p.2) hH hG hn hgh c1 c2 c3 c4 (by
        rcases (show x.1 = 0 ∨ x.1 = 1 ∨ x.1 = 2 ∨ x.1 = 3 by omega) with e | e | e | e <;> rw [e]
        · exact Or.inl ⟨rfl, rfl, rfl⟩
        · exact Or.inr (Or.inl ⟨rfl, rfl, rfl⟩)
        · exact Or.inr (Or.inr (Or.inl ⟨rfl, rfl, rfl⟩))
        · exact Or.inr (Or.inr (Or.inr ⟨rfl, rfl, rfl⟩))) (by
        rcases ar with h | ⟨h | h, -⟩
        · exact Or.inl h
        · rw [h]
          exact Or.inr (by decide)
        · rw [h]
          exact Or.inr (by decide)) (fun I' hG' => by
        obtain ⟨I1, q1, q2, q3⟩ := aC u n T I' J R g2 hS hG' (by omega)
        exact ⟨I1, ev_up q1 5, q2, q3⟩)
      have i54 : I5 54 = I4 54 := oa 54 (by omega) (by omega) (by omega) (by decide) (by decide) (by decide)
      have fr5 : OFr g2 h2 I4 I5 := ⟨fun a h1 h2 h3 h4 h5 h6 _ _ => oa a h1 h2 h3 h4 h5 h6, fun k _ _ => by rw [i54]⟩
      by_cases hp0 : 0 ≤ p.1
      · have hlt : ¬ p.1 < 0 := Int32.not_lt.mpr hp0
        rcases fa with ⟨y1, -⟩ | ⟨-, y1, y2, y3, y4⟩
        · exact absurd y1 hlt
        let la' : Int32 := if x.1 = 0 then p.1 else z.2.2.1
        let I6 : Nat → Nat → Int32 := up2 (up2 I5 54 4 (nI (z.2.1 + 1))) 54 5 la'
        have o6 : ∀ a, a ≠ 54 → I6 a = I5 a := fun a ha => by
          show up2 (up2 I5 54 4 (nI (z.2.1 + 1))) 54 5 la' a = _
          rw [up2_off _ _ _ ha, up2_off _ _ _ ha]
        refine ⟨I6, nI 1, fr3.trans (fr4.trans (fr5.trans ⟨fun a _ _ _ _ _ _ h7 _ => o6 a h7, fun k h1 h2 => ?_⟩)), hd2 (y := (nI 1, hp u n T I6 J R)) ?_, ?_⟩
        · show up2 (up2 I5 54 4 (nI (z.2.1 + 1))) 54 5 la' 54 k = _
          rw [up2_nk h2, up2_nk h1]
        · rw [if_pos (show bI (some b).isNone = 0 from rfl), show (some b).getD (nI 0) = b from rfl, ea, toI_i, Option.bind_some]
          dsimp only
          rw [if_pos hp0, gi_54_4 hS, Option.bind_some, i54, h4, nI_add, pi_54_4 hS, Option.bind_some]
          unfold F_X9_canDo_j112
          by_cases k00 : x.1 = 0
          · rw [if_pos (show nI x.1 = 0 by rw [k00]; rfl), pi_54_5 hS, Option.bind_some]
            show some (nI 1, hp u n T (up2 (up2 I5 54 4 (nI (z.2.1 + 1))) 54 5 p.1) J R) = some (nI 1, hp u n T (up2 (up2 I5 54 4 (nI (z.2.1 + 1))) 54 5 (if x.1 = 0 then p.1 else z.2.2.1)) J R)
            rw [if_pos k00]
          · rw [if_neg (show ¬ nI x.1 = 0 from fun q => k00 ((nI_eq (b := 0) (by omega) (by omega)).mp q)), gi_54_5 hS, Option.bind_some, up2_nk (by decide), i54, h5, pi_54_5 hS, Option.bind_some]
            show some (nI 1, hp u n T (up2 (up2 I5 54 4 (nI (z.2.1 + 1))) 54 5 z.2.2.1) J R) = some (nI 1, hp u n T (up2 (up2 I5 54 4 (nI (z.2.1 + 1))) 54 5 (if x.1 = 0 then p.1 else z.2.2.1)) J R)
            rw [if_neg k00]
        · rw [if_pos hp0]
          refine ⟨(fun q => by cases q), fun z' q => ?_⟩
          cases q
          refine ⟨rfl, Gnd_cg ga (fun a ha => o6 a (by omega)), aw, hK.trans ak, ?_, up2_at _ _ _ _, ?_, UOk_push hU hW hk3 ak⟩
          · show up2 (up2 I5 54 4 (nI (z.2.1 + 1))) 54 5 la' 54 4 = _
            rw [up2_nk (by decide), up2_at]
          · rw [o6 h2 (by omega), o6 (h2 + 1) (by omega)]
            exact CHi_push ⟨c1, c2, c3, c4, c5⟩ y1 y2 sa y3 y4
      · refine ⟨I5, nI 0, fr3.trans (fr4.trans fr5), hd2 (y := (nI 0, hp u n T I5 J R)) ?_, ?_⟩
        · rw [if_pos (show bI (some b).isNone = 0 from rfl), show (some b).getD (nI 0) = b from rfl, ea, toI_i, Option.bind_some]
          dsimp only
          rw [if_neg hp0]
        · rw [if_neg hp0]
          exact ⟨fun _ => rfl, (fun z' q => by cases q)⟩
theorem c_oturn (hO : O = mOl L xs) (hS : St n T R) (hr2 : R 54 2 = some g2) (hr3 : R 54 3 = some h2) (hgh : g2 = 32 ∧ h2 = 26 ∨ g2 = 58 ∧ h2 = 56) (hx : OTx n T R I sc cc c s x) (hz : OCl n T R g2 h2 V F D S N w0 I z) (hi : i < x.2.1) : ∃ I', OFr g2 h2 I I' ∧ (oStp O d V F D S N x z = none → F_X9_carryOut_l12 O (d + 10) 54 2 (nI c) (nI i) (hp u n T I J R) = some (.inr (.inr (nI c, hp u n T I' J R)))) ∧ ∀ z', oStp O d V F D S N x z = some z' → F_X9_carryOut_l12 O (d + 10) 54 2 (nI c) (nI i) (hp u n T I J R) = some (.inl (nI (i + 1), hp u n T I' J R)) ∧ OCl n T R g2 h2 V F D S N w0 I' z' := by
  have hn := hS.2.1
  have cc12 : c < 12 := by
    obtain ⟨ls, lc, hP, h1, h2', h3, -⟩ := hx.1
    have := hx.2.1
    omega
  have t20 := hx.2.2.2.1.2.2.1
  obtain ⟨hG, hW, hK, h4, h5, hCh, hU⟩ := id hz
  obtain ⟨I1, s1, s2, s3⟩ := c_setWords (O := O) (d := d + 8) (u := u) (J := J) hS hr2 (by omega) hG h4 h5
  have hz1 := OCl_cg hz hgh (fun a _ _ h => s2 a h)
  have hx1 : OTx n T R I1 sc cc c s x := OTx_cg hx (s2 2 (by decide)) (s2 3 (by decide)) (s2 4 (by decide))
  have fr1 : OFr g2 h2 I I1 := ⟨fun a _ _ _ _ _ _ _ h8 => s2 a h8, fun k _ _ => by rw [s2 54 (by decide)]⟩
  have hX : wdF (I1 55) 16 = oX z.1 D F z.2.1 z.2.2.1 := wdF_cg s3
  have lfx : ∃ lf, LfR true (oX z.1 D F z.2.1 z.2.2.1) lf := ⟨lfF true (fun _ => 0) (fun j => if j = 1 then (z.1 6).toInt64 else if j = 2 then (nI z.2.1).toInt64 else if j = 3 then z.2.2.1.toInt64 else (nI (D - cnt (fun j => z.1 (9 + j)) (-1) D)).toInt64) z.1 D F, oX_lf rfl rfl rfl rfl⟩
  obtain ⟨v1, -, -, -, k1⟩ := OTx_v hx1 lfx
  obtain ⟨Ka, w1⟩ := v_work (O := O) (d := d + 9) (u := u) (J := J) (k := 4) hS hx1.1 hx1.2.1 (by decide)
  rw [hX, v1] at w1
  have oI2 : ∀ a, a ≠ 28 → a ≠ 29 → a ≠ 55 → WI I1 29 28 Ka (bI (vOf (oX z.1 D F z.2.1 z.2.2.1) x.2.2.2.2.2.2.1).isNone) a = I1 a := fun a h1 h2 _ => WI_off h1 h2
  have fr2 : OFr g2 h2 I1 (WI I1 29 28 Ka (bI (vOf (oX z.1 D F z.2.1 z.2.2.1) x.2.2.2.2.2.2.1).isNone)) := ⟨fun a _ _ _ h4 h5 _ _ _ => WI_off h4 h5, fun k _ _ => by rw [WI_off (by decide) (by decide)]⟩
  have hx2 : OTx n T R (WI I1 29 28 Ka (bI (vOf (oX z.1 D F z.2.1 z.2.2.1) x.2.2.2.2.2.2.1).isNone)) sc cc c s x := OTx_cg hx1 (WI_off (by decide) (by decide)) (WI_off (by decide) (by decide)) (WI_off (by decide) (by decide))
  have hz2 := OCl_cg hz1 hgh oI2
  have i55 : ∀ i, i < 16 → WI I1 29 28 Ka (bI (vOf (oX z.1 D F z.2.1 z.2.2.1) x.2.2.2.2.2.2.1).isNone) 55 i = oW z.1 D F z.2.1 z.2.2.1 i := fun i hi => by rw [WI_off (by decide) (by decide)]; exact s3 i hi
  generalize WI I1 29 28 Ka (bI (vOf (oX z.1 D F z.2.1 z.2.2.1) x.2.2.2.2.2.2.1).isNone) = I2 at *
  have hd : ∀ {y}, (if (if (vOf (oX z.1 D F z.2.1 z.2.2.1) x.2.2.2.2.2.2.1).getD (nI 0) = nI 1 then nI 1 else nI 0) = 0 then some (.inl (nI (i + 1), hp u n T I2 J R)) else (toI (ev O (d + 10) MX9_canDo [.ref 54, .ref 2, .int (nI c)] (hp u n T I2 J R))).bind fun p11 => if p11.1 = 0 then some (.inr (.inr (nI c, p11.2))) else some (.inl (nI (i + 1), p11.2))) = y → F_X9_carryOut_l12 O (d + 10) 54 2 (nI c) (nI i) (hp u n T I J R) = y := by
    intro y e
    have kp := v_part (O := O) (d := d + 10) (u := u) (I := I) (J := J) (k := 1) hS cc12 (by decide)
    have k1' : I 4 (c * 6 + 1) = nI x.2.1 := by rw [← s2 4 (by decide)]; exact k1
    rw [k1'] at kp
    unfold F_X9_carryOut_l12
    rw [vc_2 hS, kp, toI_i, Option.bind_some]
    dsimp only
    rw [if_neg (nI_ge hi (by omega)), vc_54 hS, s1, toV_v, Option.bind_some, ga_54_0 hS, Option.bind_some, ga_54_1 hS, Option.bind_some, vc_28 hS, w1, toI_i, Option.bind_some, nI_add, vc_54 hS]
    exact e
  unfold oStp
  by_cases ht : (vOf (oX z.1 D F z.2.1 z.2.2.1) x.2.2.2.2.2.2.1).getD (nI 0) = nI 1
  · rw [if_pos ht] at hd ⊢
    obtain ⟨I3, v, f1, f2, f3, f4⟩ := c_canDo (O := O) (d := d) (u := u) (J := J) hO hS hr2 hr3 hgh hx2 hz2 i55
    have hd3 : ∀ {y}, (if v = 0 then some (.inr (.inr (nI c, hp u n T I3 J R))) else some (.inl (nI (i + 1), hp u n T I3 J R))) = y → F_X9_carryOut_l12 O (d + 10) 54 2 (nI c) (nI i) (hp u n T I J R) = y := by
      intro y e
      apply hd
      rw [if_neg (show ¬ nI 1 = 0 by decide), f2, toI_i, Option.bind_some]
      exact e
    refine ⟨I3, fr1.trans (fr2.trans f1), fun q => hd3 (by rw [f3 q, if_pos (show nI 0 = 0 from rfl)]), fun z' q => ?_⟩
    obtain ⟨f5, f6⟩ := f4 z' q
    exact ⟨hd3 (by rw [f5, if_neg (show ¬ nI 1 = 0 by decide)]), f6⟩
  · rw [if_neg ht] at hd ⊢
    refine ⟨I2, fr1.trans fr2, (fun q => by cases q), fun z' q => ?_⟩
    cases q
    exact ⟨hd (by rw [if_pos (show nI 0 = 0 from rfl)]), hz2⟩
end OCD
