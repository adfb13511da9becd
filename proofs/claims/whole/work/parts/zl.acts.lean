/-! an act of orders: of the class upon any ground, of the reference -/
def acM (kk : Nat) : mM := if kk = 0 then MX2_renewFor else if kk = 1 then MX2_lodgeIn else if kk = 2 then MX2_knockBy else MX2_passYear
def acN (kk : Nat) : mM := if kk = 0 then MX11_renewNow else if kk = 1 then MX11_lodgeNow else if kk = 2 then MX11_knockNow else MX11_passNow
def acA (kk : Nat) (a b : Int32) : List Value := if kk = 0 then [.int a] else if kk = 1 then [.int a, .int b] else if kk = 2 then [.int a] else []
def MNx (I I2 : Nat → Nat → Int32) (J J2 : Nat → Nat → Int64) (s k : Nat) (ret : Int32) (w' : Nat → Int32) : Prop := MNw I I2 J J2 s k ret w' ∧ (∀ a, a ≠ 69 → a ≠ 71 → a ≠ 74 → a ≠ 75 → a ≠ 90 → I2 a = I a) ∧ ∀ k, k ≠ 8 → k ≠ 34 → k ≠ 38 → I2 69 k = I 69 k
/-- what an act is, upon the row w -/
def ActS (O : mO) (d : Nat) (w : Nat → Int32) (V F D S N kk : Nat) (a b ret : Int32) (w' : Nat → Int32) : Prop := (Wf w' V F D S N ∧ Kp w w' ∧ ((∃ m, m < 2 ^ 31 ∧ ret = nI m) ∨ (ret = -2 ∨ ret = -3) ∧ w' = w)) ∧
  (∀ (u n : Nat) (T : Nat → mT) (I : Nat → Nat → Int32) (J : Nat → Nat → Int64) (R : Nat → Nat → Option Nat) (g : Nat), St n T R → Gnd n T I R g w V F D S N → g + 10 < 98 → ∃ I1, ev O (d + 3) (acM kk) (.ref g :: acA kk a b) (hp u n T I J R) = some (some (.int ret), hp u n T I1 J R) ∧ Gnd n T I1 R g w' V F D S N ∧ CAo g I I1) ∧
  ∀ (u n : Nat) (T : Nat → mT) (I : Nat → Nat → Int32) (J : Nat → Nat → Int64) (R : Nat → Nat → Option Nat) (s : Nat), St n T R → I 71 = w → I 69 20 = nI 0 → I 69 8 = nI s → s ≤ 16 → ∃ I2 J2, ev O (d + 7) (acN kk) (.ref 69 :: acA kk a b) (hp u n T I J R) = some (some (.int ret), hp u n T I2 J2 R) ∧ MNx I I2 J J2 s kk ret w'
section ACS
variable {O : mO} {d V F D S N : Nat} {w : Nat → Int32} {a b : Int32}
theorem MNx_no {I I2 : Nat → Nat → Int32} {J J2 : Nat → Nat → Int64} {s k : Nat} {ret : Int32} (h : SxM 69 I I2 J J2) (hr : ret < 0) (hw : I 71 = w) : MNx I I2 J J2 s k ret w := by
  refine ⟨by rw [← hw]; exact MNw_no h hr, fun a h1 _ _ _ _ => h.1 a h1, fun k _ h1 h2 => h.2.1 k h1 h2⟩
theorem act_kn (hw : Wf w V F D S N) : ∃ ret w', ActS O d w V F D S N 2 a b ret w' := by
  obtain ⟨⟨v5, f4, d8, s8, n6⟩, ⟨w0, w1, w2, w3, w4⟩, -⟩ := id hw
  cases hb : inR a D with
  | false =>
    refine ⟨-2, w, ⟨hw, Kp.rf _, Or.inr ⟨Or.inl rfl, rfl⟩⟩, fun u n T I J R g hS hG hg => ?_, fun u n T I J R s hS i71 h20 h8 hs => ?_⟩
    · refine ⟨I, e_X2_knockBy (d := d + 2) ?_, hG, fun _ _ _ _ _ => rfl⟩
      unfold F_X2_knockBy
      rw [vc_g hG.1.2.1 hS.2.1, v_hasDead hG.1.2.1 hS.2.1 hG.1.2.2.2.2.2.2.2.2.1, hb]
      rfl
    · refine ⟨I, J, e_X11_knockNow (d := d + 6) ?_, MNx_no (SxM.rf 69 I J) (by decide) i71⟩
      unfold F_X11_knockNow
      rw [vc_69 hS, v_isDead (d := d + 5) hS (by rw [i71]; exact w2) (by omega), hb]
      rfl
  | true =>
    obtain ⟨k, hk, rfl⟩ := inR_ex hb (by omega)
    by_cases ho : knOk w k = true
    · refine ⟨nI (knT w k), knW w k, ⟨(Wf_knW hw hk ho).1, (Wf_knW hw hk ho).2, Or.inl ⟨_, by unfold knT; omega, rfl⟩⟩, fun u n T I J R g hS hG hg => ?_, fun u n T I J R s hS i71 h20 h8 hs => ?_⟩
      · have := c_kn (O := O) (d := d + 1) (u := u) (J := J) hG hw hS.2.1 hg hk
        rw [if_pos ho, if_pos ho] at this
        exact this
      · have hwa : Wf (I 71) V F D S N := by rw [i71]; exact hw
        have ck := m_canKn (O := O) (d := d + 5) (u := u) (J := J) (I := I) hS hwa hk
        rw [i71] at ck
        have isd := v_isDead (O := O) (d := d + 5) (u := u) (J := J) (I := I) (v := nI k) hS (by rw [i71]; exact w2) (by omega)
        rw [hb] at isd
        obtain ⟨Ib, er, rm⟩ := v_remember (O := O) (d := d + 4) (u := u) (J := J) (I := I) (s := s) (k := 2) hS h8 hs
        have b71 : Ib 71 = w := by rw [rm.1 71 (by decide) (by decide) (by decide)]; exact i71
        obtain ⟨I2, e2, m1, m2⟩ := m_kn (O := O) (d := d + 5) (u := u) (J := J) (I := Ib) hS (by rw [b71]; exact hw) hk (by rw [b71]; exact ho)
        rw [b71] at m1
        refine ⟨I2, J, e_X11_knockNow (d := d + 6) ?_, ⟨m1, fun a h1 h2 h3 h4 _ => by rw [m2 a h2, rm.1 a h1 h3 h4], fun j hj => by rw [m2 69 (by decide), rm.2.1 j (by omega)], MJx_r J, Or.inr ⟨nI_le (Nat.zero_le _) (by unfold knT; omega), _, Ib, rfl, rfl, rfl, rfl, rm, by rw [m2 69 (by decide)], m2 74 (by decide), m2 75 (by decide)⟩⟩, fun a h1 h2 h3 h4 _ => by rw [m2 a h2, rm.1 a h1 h3 h4], fun j h1 _ _ => by rw [m2 69 (by decide), rm.2.1 j h1]⟩
        unfold F_X11_knockNow
        rw [vc_69 hS, isd, toI_i, Option.bind_some, if_neg nbt, vc_69 hS, ck, toI_i, Option.bind_some, if_neg (by rw [ho]; exact nbt), vc_69 hS, er, toV_v, Option.bind_some, vc_69 hS, e2, toV_v, Option.bind_some]
        have r17 : I2 71 (17 + k) = nI (knT w k) := by rw [m1]; exact upK_at _ _ _
        simp (disch := first | assumption | omega) only [vc_69, gi_69_0, pi_69_0, gi_69_1, pi_69_1, ga_69_2, ga_69_3, ga_69_4, ga_69_5, ga_69_6, ga_69_7, gi_69_8, pi_69_8, ga_69_9, ga_69_10, gi_69_11, pi_69_11, ga_69_12, gi_69_13, pi_69_13, gi_69_14, pi_69_14, gi_69_15, pi_69_15, gi_69_16, pi_69_16, gj_69_17, pj_69_17, gi_69_18, pi_69_18, gi_69_19, pi_69_19, gi_69_20, pi_69_20, gi_69_21, pi_69_21, ga_69_22, gi_69_23, pi_69_23, ga_69_24, ga_69_25, gi_69_26, pi_69_26, ga_69_27, ga_69_28, gi_69_29, pi_69_29, gi_69_30, pi_69_30, ga_69_31, ga_69_32, ga_69_33, gi_69_34, pi_69_34, ga_69_35, ga_69_36, ga_69_37, gi_69_38, pi_69_38, gj_69_39, pj_69_39, gj_69_40, pj_69_40, ga_69_41, ga_69_42, ga_69_43, ga_69_44, ga_69_45, ga_69_46, ga_69_47, gi_69_48, pi_69_48, gi_69_49, pi_69_49, gi_69_50, pi_69_50, gi_69_51, pi_69_51, gj_69_52, pj_69_52, ga_69_53, gi_69_54, pi_69_54, gi_69_55, pi_69_55, rd_70, wr_70, ln_70, rd_71, wr_71, ln_71, rd_74, wr_74, ln_74, rd_75, wr_75, ln_75, v_tell_1, v_tell_2, v_tell_3, v_tell_5, v_tell_6, v_tell0, v_change, v_settled0, Option.bind_some, toI_i, toJ_j, toV_v, toR_r, up2_at, up2_na, up2_nk, up2_off, nI_add, nI_mul, nI_leI, nI_ltI, nI_eq, bI_eq0, r17]
    · refine ⟨-3, w, ⟨hw, Kp.rf _, Or.inr ⟨Or.inr rfl, rfl⟩⟩, fun u n T I J R g hS hG hg => ?_, fun u n T I J R s hS i71 h20 h8 hs => ?_⟩
      · have := c_kn (O := O) (d := d + 1) (u := u) (J := J) hG hw hS.2.1 hg hk
        rw [if_neg ho, if_neg ho] at this
        exact this
      · have hwa : Wf (I 71) V F D S N := by rw [i71]; exact hw
        have ck := m_canKn (O := O) (d := d + 5) (u := u) (J := J) (I := I) hS hwa hk
        rw [i71] at ck
        have isd := v_isDead (O := O) (d := d + 5) (u := u) (J := J) (I := I) (v := nI k) hS (by rw [i71]; exact w2) (by omega)
        rw [hb] at isd
        refine ⟨I, J, e_X11_knockNow (d := d + 6) ?_, MNx_no (SxM.rf 69 I J) (by decide) i71⟩
        unfold F_X11_knockNow
        rw [vc_69 hS, isd, toI_i, Option.bind_some, if_neg nbt, vc_69 hS, ck, toI_i, Option.bind_some, if_pos (by rw [Bool.eq_false_iff.mpr ho]; rfl)]
theorem act_lo (hw : Wf w V F D S N) : ∃ ret w', ActS O d w V F D S N 1 a b ret w' := by
  obtain ⟨⟨v5, f4, d8, s8, n6⟩, ⟨w0, w1, w2, w3, w4⟩, -⟩ := id hw
  have no : ∀ (hb : inR a D = false ∨ inR a D = true ∧ inR b V = false), ∃ ret w', ActS O d w V F D S N 1 a b ret w' := by
    intro hb
    refine ⟨-2, w, ⟨hw, Kp.rf _, Or.inr ⟨Or.inl rfl, rfl⟩⟩, fun u n T I J R g hS hG hg => ?_, fun u n T I J R s hS i71 h20 h8 hs => ?_⟩
    · refine ⟨I, e_X2_lodgeIn (d := d + 2) ?_, hG, fun _ _ _ _ _ => rfl⟩
      unfold F_X2_lodgeIn
      rw [vc_g hG.1.2.1 hS.2.1, v_hasDead hG.1.2.1 hS.2.1 hG.1.2.2.2.2.2.2.2.2.1]
      rcases hb with hb | ⟨hb, hb2⟩
      · rw [hb]
        rfl
      · rw [hb, toI_i, Option.bind_some, if_neg nbt, vc_g hG.1.2.1 hS.2.1, v_hasVault hG.1.2.1 hS.2.1 hG.1.2.2.2.2.1, hb2]
        rfl
    · refine ⟨I, J, e_X11_lodgeNow (d := d + 6) ?_, MNx_no (SxM.rf 69 I J) (by decide) i71⟩
      unfold F_X11_lodgeNow
      rw [vc_69 hS, v_isDead (d := d + 5) hS (by rw [i71]; exact w2) (by omega)]
      rcases hb with hb | ⟨hb, hb2⟩
      · rw [hb]
        rfl
      · rw [hb, toI_i, Option.bind_some, if_neg nbt, vc_69 hS, v_isVault (d := d + 5) hS (by rw [i71]; exact w0) (by omega), hb2]
        rfl
  cases hb : inR a D with
  | false => exact no (Or.inl hb)
  | true =>
    cases hb2 : inR b V with
    | false => exact no (Or.inr ⟨hb, hb2⟩)
    | true =>
      obtain ⟨k, hk, rfl⟩ := inR_ex hb (by omega)
      obtain ⟨v, hv, rfl⟩ := inR_ex hb2 (by omega)
      obtain ⟨bb, eb1, eb2, eb3, eb4⟩ := Wf_bd hw hv
      have eb : nv w (37 + v) = bb := nv_n eb1 (by omega)
      have rl : loR w D v < 2 ^ 31 := by unfold loR; omega
      by_cases ho : loOk w D k v = true
      · refine ⟨nI (loR w D v), loW w k v, ⟨(Wf_loW hw hk hv ho).1, (Wf_loW hw hk hv ho).2, Or.inl ⟨_, rl, rfl⟩⟩, fun u n T I J R g hS hG hg => ?_, fun u n T I J R s hS i71 h20 h8 hs => ?_⟩
        · have := c_lo (O := O) (d := d) (u := u) (J := J) hS hG hw hS.2.1 hg hk hv
          rw [if_pos ho, if_pos ho] at this
          exact this
        · have hwa : Wf (I 71) V F D S N := by rw [i71]; exact hw
          obtain ⟨I3, J3, ck, s3⟩ := m_canLo (O := O) (d := d) (u := u) (J := J) (I := I) hS h20 hwa hk hv
          rw [i71] at ck
          have k71 : I3 71 = w := by rw [s3.1 71 (by decide)]; exact i71
          have isd := v_isDead (O := O) (d := d + 5) (u := u) (J := J) (I := I) (v := nI k) hS (by rw [i71]; exact w2) (by omega)
          rw [hb] at isd
          have isv := v_isVault (O := O) (d := d + 5) (u := u) (J := J) (I := I) (v := nI v) hS (by rw [i71]; exact w0) (by omega)
          rw [hb2] at isv
          obtain ⟨Ib, er, rm⟩ := v_remember (O := O) (d := d + 4) (u := u) (J := J3) (I := I3) (s := s) (k := 1) hS (by rw [s3.2.1 8 (by decide) (by decide)]; exact h8) hs
          have b71 : Ib 71 = w := by rw [rm.1 71 (by decide) (by decide) (by decide)]; exact k71
          obtain ⟨I2, e2, m1, m2⟩ := m_lo (O := O) (d := d + 5) (u := u) (J := J3) (I := Ib) hS (by rw [b71]; exact hw) hk hv
          rw [b71] at m1
          refine ⟨I2, J3, e_X11_lodgeNow (d := d + 6) ?_, ⟨m1, fun a h1 h2 h3 h4 _ => by rw [m2 a h2, rm.1 a h1 h3 h4, s3.1 a h1], fun j hj => by rw [m2 69 (by decide), rm.2.1 j (by omega), s3.2.1 j (by omega) (by omega)], MJx_SxM s3, Or.inr ⟨nI_le (Nat.zero_le _) rl, I3, Ib, s3.1 71 (by decide), s3.2.1 8 (by decide) (by decide), s3.1 74 (by decide), s3.1 75 (by decide), rm, by rw [m2 69 (by decide)], m2 74 (by decide), m2 75 (by decide)⟩⟩, fun a h1 h2 h3 h4 _ => by rw [m2 a h2, rm.1 a h1 h3 h4, s3.1 a h1], fun j h1 h2 h3 => by rw [m2 69 (by decide), rm.2.1 j h1, s3.2.1 j h2 h3]⟩
          unfold F_X11_lodgeNow
          have fr := v_freeIn (O := O) (d := d + 5) (u := u) (J := J3) (I := I2) (k := v) (D := D) hS (by rw [m1]; unfold loW; (try simp (disch := omega) only [upK_at, upK_ne]); exact w2) (by omega) (by omega)
          obtain ⟨hne, hc, -⟩ := loOk_t ho
          rw [m1, cnt_lo hk (by omega) hne, show loW w k v (37 + v) = nI bb by unfold loW; (try simp (disch := omega) only [upK_at, upK_ne]); exact eb1, nI_sub (by omega), show bb - (cnt (fun j => w (9 + j)) (nI v) D + 1) = loR w D v by unfold loR; rw [eb]] at fr
          rw [vc_69 hS, isd, toI_i, Option.bind_some, if_neg nbt, vc_69 hS, isv, toI_i, Option.bind_some, if_neg nbt, vc_69 hS, ck, toI_i, Option.bind_some, if_neg (by rw [ho]; exact nbt), vc_69 hS, er, toV_v, Option.bind_some, vc_69 hS, e2, toV_v, Option.bind_some, vc_69 hS, fr]
          rfl
      · refine ⟨-3, w, ⟨hw, Kp.rf _, Or.inr ⟨Or.inr rfl, rfl⟩⟩, fun u n T I J R g hS hG hg => ?_, fun u n T I J R s hS i71 h20 h8 hs => ?_⟩
        · have := c_lo (O := O) (d := d) (u := u) (J := J) hS hG hw hS.2.1 hg hk hv
          rw [if_neg ho, if_neg ho] at this
          exact this
        · have hwa : Wf (I 71) V F D S N := by rw [i71]; exact hw
          obtain ⟨I3, J3, ck, s3⟩ := m_canLo (O := O) (d := d) (u := u) (J := J) (I := I) hS h20 hwa hk hv
          rw [i71] at ck
          have isd := v_isDead (O := O) (d := d + 5) (u := u) (J := J) (I := I) (v := nI k) hS (by rw [i71]; exact w2) (by omega)
          rw [hb] at isd
          have isv := v_isVault (O := O) (d := d + 5) (u := u) (J := J) (I := I) (v := nI v) hS (by rw [i71]; exact w0) (by omega)
          rw [hb2] at isv
          refine ⟨I3, J3, e_X11_lodgeNow (d := d + 6) ?_, MNx_no s3 (by decide) i71⟩
          unfold F_X11_lodgeNow
          rw [vc_69 hS, isd, toI_i, Option.bind_some, if_neg nbt, vc_69 hS, isv, toI_i, Option.bind_some, if_neg nbt, vc_69 hS, ck, toI_i, Option.bind_some, if_pos (by rw [Bool.eq_false_iff.mpr ho]; rfl)]
theorem act_re {L : Nat} {xs : Nat → Int32} (hO : O = mOl L xs) (hw : Wf w V F D S N) : ∃ ret w', ActS O d w V F D S N 0 a b ret w' := by
  obtain ⟨⟨v5, f4, d8, s8, n6⟩, ⟨w0, w1, w2, w3, w4⟩, -⟩ := id hw
  cases hb : inR a D with
  | false =>
    refine ⟨-2, w, ⟨hw, Kp.rf _, Or.inr ⟨Or.inl rfl, rfl⟩⟩, fun u n T I J R g hS hG hg => ?_, fun u n T I J R s hS i71 h20 h8 hs => ?_⟩
    · refine ⟨I, e_X2_renewFor (d := d + 2) ?_, hG, fun _ _ _ _ _ => rfl⟩
      unfold F_X2_renewFor
      rw [vc_g hG.1.2.1 hS.2.1, v_hasDead hG.1.2.1 hS.2.1 hG.1.2.2.2.2.2.2.2.2.1, hb]
      rfl
    · refine ⟨I, J, e_X11_renewNow (d := d + 6) ?_, MNx_no (SxM.rf 69 I J) (by decide) i71⟩
      unfold F_X11_renewNow
      rw [vc_69 hS, v_isDead (d := d + 5) hS (by rw [i71]; exact w2) (by omega), hb]
      rfl
  | true =>
    obtain ⟨k, hk, rfl⟩ := inR_ex hb (by omega)
    obtain ⟨p, p1, p2, ep⟩ := prR_n w D k
    by_cases ho : reOk w D k = true
    · refine ⟨prR w D k, reW w D k, ⟨(Wf_reW hw hk ho).1, (Wf_reW hw hk ho).2, Or.inl ⟨p, by omega, ep⟩⟩, fun u n T I J R g hS hG hg => ?_, fun u n T I J R s hS i71 h20 h8 hs => ?_⟩
      · have := c_re (O := O) (d := d) (u := u) (J := J) hO hS hG hw hS.2.1 hg hk
        rw [if_pos ho, if_pos ho] at this
        exact this
      · have hwa : Wf (I 71) V F D S N := by rw [i71]; exact hw
        obtain ⟨I3, J3, ck, s3⟩ := m_canRe (O := O) (d := d) (u := u) (J := J) (I := I) hS h20 hwa hk
        rw [i71] at ck
        have k71 : I3 71 = w := by rw [s3.1 71 (by decide)]; exact i71
        have isd := v_isDead (O := O) (d := d + 5) (u := u) (J := J) (I := I) (v := nI k) hS (by rw [i71]; exact w2) (by omega)
        rw [hb] at isd
        obtain ⟨Ib, er, rm⟩ := v_remember (O := O) (d := d + 4) (u := u) (J := J3) (I := I3) (s := s) (k := 0) hS (by rw [s3.2.1 8 (by decide) (by decide)]; exact h8) hs
        have b71 : Ib 71 = w := by rw [rm.1 71 (by decide) (by decide) (by decide)]; exact k71
        obtain ⟨I2, J2, e2, m1, m2, m3, m4, -⟩ := m_re (O := O) (d := d) (u := u) (J := J3) (I := Ib) hS (by rw [rm.2.1 20 (by decide), s3.2.1 20 (by decide) (by decide)]; exact h20) (by rw [b71]; exact hw) hk (by rw [b71]; exact ho)
        rw [b71] at m1 e2
        refine ⟨I2, J2, e_X11_renewNow (d := d + 6) ?_, ⟨m1, fun a h1 h2 h3 h4 _ => by rw [m2 a h1 h2, rm.1 a h1 h3 h4, s3.1 a h1], fun j hj => by rw [m3 j (by omega) (by omega), rm.2.1 j (by omega), s3.2.1 j (by omega) (by omega)], fun a ha => (m4 a ha).trans (MJx_SxM s3 a ha), Or.inr ⟨by rw [ep]; exact nI_le (Nat.zero_le _) (by omega), I3, Ib, s3.1 71 (by decide), s3.2.1 8 (by decide) (by decide), s3.1 74 (by decide), s3.1 75 (by decide), rm, m3 8 (by decide) (by decide), m2 74 (by decide) (by decide), m2 75 (by decide) (by decide)⟩⟩, fun a h1 h2 h3 h4 _ => by rw [m2 a h1 h2, rm.1 a h1 h3 h4, s3.1 a h1], fun j h1 h2 h3 => by rw [m3 j h2 h3, rm.2.1 j h1, s3.2.1 j h2 h3]⟩
        unfold F_X11_renewNow
        rw [vc_69 hS, isd, toI_i, Option.bind_some, if_neg nbt, vc_69 hS, ck, toI_i, Option.bind_some, if_neg (by rw [ho]; exact nbt), vc_69 hS, er, toV_v, Option.bind_some, vc_69 hS, e2]
        rfl
    · refine ⟨-3, w, ⟨hw, Kp.rf _, Or.inr ⟨Or.inr rfl, rfl⟩⟩, fun u n T I J R g hS hG hg => ?_, fun u n T I J R s hS i71 h20 h8 hs => ?_⟩
      · have := c_re (O := O) (d := d) (u := u) (J := J) hO hS hG hw hS.2.1 hg hk
        rw [if_neg ho, if_neg ho] at this
        exact this
      · have hwa : Wf (I 71) V F D S N := by rw [i71]; exact hw
        obtain ⟨I3, J3, ck, s3⟩ := m_canRe (O := O) (d := d) (u := u) (J := J) (I := I) hS h20 hwa hk
        rw [i71] at ck
        have isd := v_isDead (O := O) (d := d + 5) (u := u) (J := J) (I := I) (v := nI k) hS (by rw [i71]; exact w2) (by omega)
        rw [hb] at isd
        refine ⟨I3, J3, e_X11_renewNow (d := d + 6) ?_, MNx_no s3 (by decide) i71⟩
        unfold F_X11_renewNow
        rw [vc_69 hS, isd, toI_i, Option.bind_some, if_neg nbt, vc_69 hS, ck, toI_i, Option.bind_some, if_pos (by rw [Bool.eq_false_iff.mpr ho]; rfl)]
theorem act_pa {L : Nat} {xs : Nat → Int32} (hO : O = mOl L xs) (hw : Wf w V F D S N) : ∃ ret w', ActS O d w V F D S N 3 a b ret w' := by
  obtain ⟨⟨v5, f4, d8, s8, n6⟩, ⟨w0, w1, w2, w3, w4⟩, -, hs, -⟩ := id hw
  obtain ⟨y, hy, h6⟩ := hs.1
  by_cases ho : y < 999
  · refine ⟨nI (y + 1), paW w F D, ⟨(Wf_paW hw h6 ho).1, (Wf_paW hw h6 ho).2, Or.inl ⟨_, by omega, rfl⟩⟩, fun u n T I J R g hS hG hg => ?_, fun u n T I J R s hS i71 h20 h8 hs => ?_⟩
    · have := c_pa (O := O) (d := d) (u := u) (J := J) hO hS hG hw hS.2.1 hg h6 hy
      rw [if_pos ho, if_pos ho] at this
      exact this
    · obtain ⟨Ib, er, rm⟩ := v_remember (O := O) (d := d + 4) (u := u) (J := J) (I := I) (s := s) (k := 3) hS h8 hs
      have b71 : Ib 71 = w := by rw [rm.1 71 (by decide) (by decide) (by decide)]; exact i71
      obtain ⟨I2, J2, e2, m1, m2, m3, m4, -⟩ := m_pa (O := O) (d := d) (u := u) (J := J) (I := Ib) hS (by rw [rm.2.1 20 (by decide)]; exact h20) (by rw [b71]; exact hw)
      rw [b71] at m1
      refine ⟨I2, J2, e_X11_passNow (d := d + 6) ?_, ⟨m1, fun a h1 h2 h3 h4 h5 => by rw [m2 a h1 h2 (by omega), rm.1 a h1 h3 h4], fun j hj => by rw [m3 j (by omega) (by omega), rm.2.1 j (by omega)], m4, Or.inr ⟨nI_le (Nat.zero_le _) (by omega), _, Ib, rfl, rfl, rfl, rfl, rm, m3 8 (by decide) (by decide), m2 74 (by decide) (by decide) (by decide), m2 75 (by decide) (by decide) (by decide)⟩⟩, fun a h1 h2 h3 h4 h5 => by rw [m2 a h1 h2 h5, rm.1 a h1 h3 h4], fun j h1 h2 h3 => by rw [m3 j h2 h3, rm.2.1 j h1]⟩
      unfold F_X11_passNow
      have v6 : I2 71 6 = nI (y + 1) := by rw [m1]; unfold paW; rw [upK_at, h6, nI_add]
      rw [ga_69_3 hS, Option.bind_some, rd_71 hS (by decide), Option.bind_some, i71, h6, if_neg (fun z => absurd ((nI_eq (by omega) (by omega)).mp z) (by omega)), vc_69 hS, er, toV_v, Option.bind_some, vc_69 hS, e2, toI_i, Option.bind_some]
      dsimp only
      rw [ga_69_3 hS, Option.bind_some, rd_71 hS (by decide), Option.bind_some, v6]
  · refine ⟨-3, w, ⟨hw, Kp.rf _, Or.inr ⟨Or.inr rfl, rfl⟩⟩, fun u n T I J R g hS hG hg => ?_, fun u n T I J R s hS i71 h20 h8 hs => ?_⟩
    · have := c_pa (O := O) (d := d) (u := u) (J := J) hO hS hG hw hS.2.1 hg h6 hy
      rw [if_neg ho, if_neg ho] at this
      exact this
    · refine ⟨I, J, e_X11_passNow (d := d + 6) ?_, MNx_no (SxM.rf 69 I J) (by decide) i71⟩
      unfold F_X11_passNow
      rw [ga_69_3 hS, Option.bind_some, rd_71 hS (by decide), Option.bind_some, i71, h6, if_pos (by rw [show y = 999 by omega])]
theorem act_all {L : Nat} {xs : Nat → Int32} (hO : O = mOl L xs) (hw : Wf w V F D S N) {kk : Nat} (hk : kk ≤ 3) : ∃ ret w', ActS O d w V F D S N kk a b ret w' := by
  rcases (show kk = 0 ∨ kk = 1 ∨ kk = 2 ∨ kk = 3 by omega) with e | e | e | e <;> subst e
  · exact act_re hO hw
  · exact act_lo hw
  · exact act_kn hw
  · exact act_pa hO hw
end ACS
