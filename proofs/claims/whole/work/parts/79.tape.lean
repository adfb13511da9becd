/-! calls: feed -/
/-- the i-th byte of a number, as the class keeps it, as the reference keeps it -/
def byC (v : Int32) (i : Nat) : Int32 := vp_nar .byte (v.toUInt32 >>> ((nI (24 - 8 * i)).toUInt32 &&& Int32.toUInt32 31)).toInt32.toInt8.toInt32
def byM (v : Int32) (i : Nat) : Int32 := (v >>> (nI (24 - 8 * i) &&& 31)) &&& nI 255
theorem bit255 : ∀ i, i < 32 → (255#32).getLsbD i = decide (i < 8) := by decide
theorem by_sh (x : BitVec 32) (s : Nat) (hs : s ≤ 24) : BitVec.signExtend 32 (BitVec.setWidth 8 (x >>> s)) &&& 255#32 = BitVec.sshiftRight x s &&& 255#32 := by
  apply BitVec.eq_of_getLsbD_eq
  intro i hi
  rw [BitVec.getLsbD_and, BitVec.getLsbD_and, bit255 i hi]
  by_cases h : i < 8
  · rw [decide_eq_true h, Bool.and_true, Bool.and_true, BitVec.getLsbD_signExtend, BitVec.getLsbD_sshiftRight]
    have h1 : ¬ 32 ≤ i := by omega
    have h2 : s + i < 32 := by omega
    simp [h, hi, h1, h2, BitVec.getLsbD_setWidth, BitVec.getLsbD_ushiftRight]
  · rw [decide_eq_false h, Bool.and_false, Bool.and_false]
theorem by_eq (v : Int32) {i : Nat} (h : i < 4) : byC v i &&& 255 = byM v i := by
  have h4 : i = 0 ∨ i = 1 ∨ i = 2 ∨ i = 3 := by omega
  unfold byC byM
  rw [pk_vb]
  apply Int32.toBitVec_inj.mp
  have key : ∀ s : Nat, s ≤ 24 → (nI s &&& 31).toBitVec.smod 32 = BitVec.ofNat 32 s → ((nI s).toUInt32 &&& Int32.toUInt32 31).toBitVec % 32 = BitVec.ofNat 32 s → ((v.toUInt32 >>> ((nI s).toUInt32 &&& Int32.toUInt32 31)).toInt32.toInt8.toInt32 &&& 255).toBitVec = (v >>> (nI s &&& 31) &&& nI 255).toBitVec := by
    intro s hs h1 h2
    have e1 : (v >>> (nI s &&& 31)).toBitVec = v.toBitVec.sshiftRight s := by
      rw [Int32.toBitVec_shiftRight, h1]
      show BitVec.sshiftRight v.toBitVec (BitVec.ofNat 32 s).toNat = _
      rw [BitVec.toNat_ofNat, Nat.mod_eq_of_lt (by omega)]
    have e2 : (v.toUInt32 >>> ((nI s).toUInt32 &&& Int32.toUInt32 31)).toBitVec = v.toBitVec >>> s := by
      rw [UInt32.toBitVec_shiftRight, h2]
      show v.toBitVec >>> (BitVec.ofNat 32 s).toNat = _
      rw [BitVec.toNat_ofNat, Nat.mod_eq_of_lt (by omega)]
    show BitVec.signExtend 32 (BitVec.signExtend 8 (v.toUInt32 >>> ((nI s).toUInt32 &&& Int32.toUInt32 31)).toBitVec) &&& 255#32 = (v >>> (nI s &&& 31)).toBitVec &&& 255#32
    rw [e1, e2, BitVec.signExtend_eq_setWidth_of_le (v.toBitVec >>> s) (show 8 ≤ 32 by decide)]
    exact by_sh _ s hs
  rcases h4 with rfl | rfl | rfl | rfl
  · exact key 24 (by decide) (by decide +kernel) (by decide +kernel)
  · exact key 16 (by decide) (by decide +kernel) (by decide +kernel)
  · exact key 8 (by decide) (by decide +kernel) (by decide +kernel)
  · exact key 0 (by decide) (by decide +kernel) (by decide +kernel)
theorem Nn_255 (x : Int32) : Nn (x &&& nI 255) 255 := by
  refine ⟨(x.toBitVec &&& 255#32).toNat, ?_, ?_⟩
  · rw [BitVec.toNat_and]
    exact Nat.and_le_right
  · apply Int32.toBitVec_inj.mp
    show x.toBitVec &&& 255#32 = BitVec.ofNat 32 _
    rw [BitVec.ofNat_toNat, BitVec.setWidth_eq]
def shF (i : Nat) : Int32 := if i < 4 then nI (24 - 8 * i) else -8
theorem shF_s {i : Nat} (h : i < 4) : nI (24 - 8 * i) + (-8) = shF (i + 1) := by
  have : ∀ i, i < 4 → nI (24 - 8 * i) + (-8) = shF (i + 1) := by decide
  exact this i h
section FD
variable {O : mO} {c d u n : Nat} {T : Nat → mT} {I : Nat → Nat → Int32} {J : Nat → Nat → Int64} {R : Nat → Nat → Option Nat} {t : Nat} {v : Int32} {K : mH}
/-- what a tape is after bytes came behind it -/
def TpA (I I' : Nat → Nat → Int32) (o a fl t m : Nat) (b : Nat → Int32) : Prop := I' o fl = nI (t + m) ∧ (∀ x, x ≠ o → x ≠ a → I' x = I x) ∧ (∀ j, j ≠ fl → I' o j = I o j) ∧ (∀ j, j < t → I' a j = I a j) ∧ ∀ i, i < m → I' a (t + i) = b i
theorem v_putB (hS : St n T R) (h0 : I 0 12 = nI t) (ht : t + 4 ≤ 400) : ∃ I', ev O (d + 1) MX10_putBytes [.ref 0, .int v] (hp u n T I J R) = some (none, hp u n T I' J R) ∧ TpA I I' 0 23 12 t 4 (byC v) := by
  have L : ∃ r, lupF (fun (q : Int32 × mH) => F_X10_putBytes_l3 O d 0 v q.1 q.2) FU (nI 24, hp u n T I J R) = some r ∧ (fun r => ∃ I', r = hp u n T I' J R ∧ TpA I I' 0 23 12 t 4 (byC v)) r := by
    refine lup_P0 (fun i s => ∃ I', s = (shF i, hp u n T I' J R) ∧ TpA I I' 0 23 12 t i (byC v)) (fun r => ∃ I', r = hp u n T I' J R ∧ TpA I I' 0 23 12 t 4 (byC v)) (N := 4) (by omega) ⟨I, rfl, h0, fun _ _ _ => rfl, fun _ _ => rfl, fun _ _ => rfl, fun i hi => absurd hi (Nat.not_lt_zero i)⟩ ?_ ?_
    · intro i s hi ⟨I1, hs, a1, a2, a3, a4, a5⟩
      subst hs
      left
      refine ⟨(shF (i + 1), hp u n T (up2 (up2 I1 23 (t + i) (byC v i)) 0 12 (nI (t + (i + 1)))) J R), ?_, _, rfl, by (try simp (disch := omega) only [up2_at, up2_na, up2_nk, up2_off]), fun x h1 h2 => by rw [up2_off _ _ _ h1, up2_off _ _ _ h2]; exact a2 x h1 h2, fun j hj => by rw [up2_nk hj, up2_na (by decide)]; exact a3 j hj, fun j hj => by rw [up2_na (by decide), up2_nk (by omega)]; exact a4 j hj, fun j hj => ?_⟩
      · dsimp only
        unfold F_X10_putBytes_l3
        rw [show shF i = nI (24 - 8 * i) from if_pos hi, if_neg (nI_pos (by omega)), shF_s hi]
        simp (disch := first | assumption | omega) only [vc_0, ga_0_0, ga_0_1, ga_0_2, ga_0_3, ga_0_4, ga_0_5, ga_0_6, ga_0_7, ga_0_8, ga_0_9, gi_0_12, pi_0_12, gi_0_13, pi_0_13, gi_0_14, pi_0_14, gi_0_15, pi_0_15, gi_0_16, pi_0_16, rd_23, wr_23, ln_23, Option.bind_some, toI_i, toJ_j, toV_v, toR_r, up2_at, up2_na, up2_nk, up2_off, nI_add, nI_mul, nI_leI, nI_ltI, nI_eq, bI_eq0, a1]
        rw [if_neg (by omega)]
        rfl
      · by_cases e : j = i
        · subst e
          rw [up2_na (by decide), up2_at]
        · rw [up2_na (by decide), up2_nk (by omega)]
          exact a5 j (by omega)
    · intro s ⟨I1, hs, h1⟩
      subst hs
      refine ⟨_, ?_, I1, rfl, h1⟩
      dsimp only
      unfold F_X10_putBytes_l3
      rw [if_pos (by decide)]
  obtain ⟨r, e, I', h1, h2⟩ := L
  refine ⟨I', e_X10_putBytes ?_, h2⟩
  unfold F_X10_putBytes
  rw [e, h1]
  rfl
theorem v_four (hS : St n T R) (h0 : I 69 13 = nI t) (ht : t + 4 ≤ 400) : ∃ I', ev O (d + 1) MX11_four [.ref 69, .int v] (hp u n T I J R) = some (none, hp u n T I' J R) ∧ TpA I I' 69 78 13 t 4 (byM v) := by
  have L : ∃ r, lupF (fun (q : Int32 × mH) => F_X11_four_l3 O d 69 v q.1 q.2) FU (nI 24, hp u n T I J R) = some r ∧ (fun r => ∃ I', r = hp u n T I' J R ∧ TpA I I' 69 78 13 t 4 (byM v)) r := by
    refine lup_P0 (fun i s => ∃ I', s = (shF i, hp u n T I' J R) ∧ TpA I I' 69 78 13 t i (byM v)) (fun r => ∃ I', r = hp u n T I' J R ∧ TpA I I' 69 78 13 t 4 (byM v)) (N := 4) (by omega) ⟨I, rfl, h0, fun _ _ _ => rfl, fun _ _ => rfl, fun _ _ => rfl, fun i hi => absurd hi (Nat.not_lt_zero i)⟩ ?_ ?_
    · intro i s hi ⟨I1, hs, a1, a2, a3, a4, a5⟩
      subst hs
      left
      refine ⟨(shF (i + 1), hp u n T (up2 (up2 I1 78 (t + i) (byM v i)) 69 13 (nI (t + (i + 1)))) J R), ?_, _, rfl, by (try simp (disch := omega) only [up2_at, up2_na, up2_nk, up2_off]), fun x h1 h2 => by rw [up2_off _ _ _ h1, up2_off _ _ _ h2]; exact a2 x h1 h2, fun j hj => by rw [up2_nk hj, up2_na (by decide)]; exact a3 j hj, fun j hj => by rw [up2_na (by decide), up2_nk (by omega)]; exact a4 j hj, fun j hj => ?_⟩
      · dsimp only
        unfold F_X11_four_l3
        rw [show shF i = nI (24 - 8 * i) from if_pos hi, if_neg (nI_pos (by omega)), shF_s hi]
        simp (disch := first | assumption | omega) only [vc_69, gi_69_0, pi_69_0, gi_69_1, pi_69_1, ga_69_2, ga_69_3, ga_69_4, ga_69_5, ga_69_6, ga_69_7, gi_69_8, pi_69_8, ga_69_9, ga_69_10, gi_69_11, pi_69_11, ga_69_12, gi_69_13, pi_69_13, gi_69_14, pi_69_14, gi_69_15, pi_69_15, gi_69_16, pi_69_16, gj_69_17, pj_69_17, gi_69_18, pi_69_18, gi_69_19, pi_69_19, gi_69_20, pi_69_20, gi_69_21, pi_69_21, ga_69_22, gi_69_23, pi_69_23, ga_69_24, ga_69_25, gi_69_26, pi_69_26, ga_69_27, ga_69_28, gi_69_29, pi_69_29, gi_69_30, pi_69_30, ga_69_31, ga_69_32, ga_69_33, gi_69_34, pi_69_34, ga_69_35, ga_69_36, ga_69_37, gi_69_38, pi_69_38, gj_69_39, pj_69_39, gj_69_40, pj_69_40, ga_69_41, ga_69_42, ga_69_43, ga_69_44, ga_69_45, ga_69_46, ga_69_47, gi_69_48, pi_69_48, gi_69_49, pi_69_49, gi_69_50, pi_69_50, gi_69_51, pi_69_51, gj_69_52, pj_69_52, ga_69_53, gi_69_54, pi_69_54, gi_69_55, pi_69_55, rd_78, wr_78, ln_78, Option.bind_some, toI_i, toJ_j, toV_v, toR_r, up2_at, up2_na, up2_nk, up2_off, nI_add, nI_mul, nI_leI, nI_ltI, nI_eq, bI_eq0, a1]
        rfl
      · by_cases e : j = i
        · subst e
          rw [up2_na (by decide), up2_at]
        · rw [up2_na (by decide), up2_nk (by omega)]
          exact a5 j (by omega)
    · intro s ⟨I1, hs, h1⟩
      subst hs
      refine ⟨_, ?_, I1, rfl, h1⟩
      dsimp only
      unfold F_X11_four_l3
      rw [if_pos (by decide)]
  obtain ⟨r, e, I', h1, h2⟩ := L
  refine ⟨I', e_X11_four ?_, h2⟩
  unfold F_X11_four
  rw [e, h1]
  rfl
theorem TpA.tr {I I1 I2 : Nat → Nat → Int32} {o a fl t m k : Nat} {b b' : Nat → Int32} (h1 : TpA I I1 o a fl t m b) (h2 : TpA I1 I2 o a fl (t + m) k b') : TpA I I2 o a fl t (m + k) (fun i => if i < m then b i else b' (i - m)) := by
  obtain ⟨a1, a2, a3, a4, a5⟩ := h1
  obtain ⟨c1, c2, c3, c4, c5⟩ := h2
  refine ⟨by rw [c1, Nat.add_assoc], fun x p q => (c2 x p q).trans (a2 x p q), fun j hj => (c3 j hj).trans (a3 j hj), fun j hj => (c4 j (by omega)).trans (a4 j hj), fun i hi => ?_⟩
  dsimp only
  by_cases h : i < m
  · rw [if_pos h, c4 _ (by omega)]
    exact a5 i h
  · rw [if_neg h]
    have := c5 (i - m) (by omega)
    rw [show t + m + (i - m) = t + i by omega] at this
    exact this
theorem b_feed {a1 a2 a3 a4 a5 : Int32} (hI : Inv c K) : Bo O Inv MX10_feed MX11_feed [.int a1, .int a2, .int a3, .int a4, .int a5] c K := by
  obtain ⟨u, n, T, I, J, R, g, h, V, F, D, S, N, x, s, rfl, hI⟩ := hI
  obtain ⟨hS, hn, gg, hh, hG, hH, hw, hgd, hg⟩ := Iv_all hI
  obtain ⟨⟨v5, f4, d8, s8, n6⟩, ⟨w0, w1, w2, w3, w4⟩, hf, hs, hfam, hwi, hsn, hlw⟩ := hw
  obtain ⟨⟨c1, c2, c3, c4, c5, c6, c7, c8, c9, c10, c11, c12⟩, q1, q2, q3, q4, q5, q6, q7, q8, q9, q10, q11, ql⟩ := hgd
  obtain ⟨⟨b1, b2, b3, b4, b5⟩, b6, b7, b8, b9, b10⟩ := hI.2.2.2.2.2.2.2.1
  have hJ := hI.2.2.2.2.2.2.2.2.2
  have hu := hI.2.2.2.2.1
  obtain ⟨t, ht, t1, t2, t3⟩ := hI.2.2.2.2.2.2.1
  by_cases h38 : t ≤ 380
  · obtain ⟨I1, e1, p1⟩ := v_putB (O := O) (d := 198) (u := u) (J := J) (v := a1) hS t1 (by omega)
    obtain ⟨I2, e2, p2⟩ := v_putB (O := O) (d := 198) (u := u) (J := J) (v := a2) hS p1.1 (by omega)
    obtain ⟨I3, e3, p3⟩ := v_putB (O := O) (d := 198) (u := u) (J := J) (v := a3) hS p2.1 (by omega)
    obtain ⟨I4, e4, p4⟩ := v_putB (O := O) (d := 198) (u := u) (J := J) (v := a4) hS p3.1 (by omega)
    obtain ⟨I5, e5, p5⟩ := v_putB (O := O) (d := 198) (u := u) (J := J) (v := a5) hS p4.1 (by omega)
    have i69 : ∀ x, x ≠ 0 → x ≠ 23 → I5 x = I x := fun x h1 h2 => by rw [p5.2.1 x h1 h2, p4.2.1 x h1 h2, p3.2.1 x h1 h2, p2.2.1 x h1 h2, p1.2.1 x h1 h2]
    have m0 : up2 I5 69 0 (nI 0) 69 13 = nI t := by rw [up2_nk (by decide), i69 69 (by decide) (by decide)]; exact t2
    obtain ⟨M1, f1, r1⟩ := v_four (O := O) (d := 198) (u := u) (J := J) (v := a1) hS m0 (by omega)
    obtain ⟨M2, f2, r2⟩ := v_four (O := O) (d := 198) (u := u) (J := J) (v := a2) hS r1.1 (by omega)
    obtain ⟨M3, f3, r3⟩ := v_four (O := O) (d := 198) (u := u) (J := J) (v := a3) hS r2.1 (by omega)
    obtain ⟨M4, f4', r4⟩ := v_four (O := O) (d := 198) (u := u) (J := J) (v := a4) hS r3.1 (by omega)
    obtain ⟨M5, f5, r5⟩ := v_four (O := O) (d := 198) (u := u) (J := J) (v := a5) hS r4.1 (by omega)
    have P := (((p1.tr p2).tr p3).tr p4).tr p5
    have Q := (((r1.tr r2).tr r3).tr r4).tr r5
    have eb : ∀ i, i < 4 + 4 + 4 + 4 + 4 → (fun i => if i < 4 + 4 + 4 + 4 then (fun i => if i < 4 + 4 + 4 then (fun i => if i < 4 + 4 then (fun i => if i < 4 then byC a1 i else byC a2 (i - 4)) i else byC a3 (i - (4 + 4))) i else byC a4 (i - (4 + 4 + 4))) i else byC a5 (i - (4 + 4 + 4 + 4))) i &&& 255 = (fun i => if i < 4 + 4 + 4 + 4 then (fun i => if i < 4 + 4 + 4 then (fun i => if i < 4 + 4 then (fun i => if i < 4 then byM a1 i else byM a2 (i - 4)) i else byM a3 (i - (4 + 4))) i else byM a4 (i - (4 + 4 + 4))) i else byM a5 (i - (4 + 4 + 4 + 4))) i ∧ Nn ((fun i => if i < 4 + 4 + 4 + 4 then (fun i => if i < 4 + 4 + 4 then (fun i => if i < 4 + 4 then (fun i => if i < 4 then byM a1 i else byM a2 (i - 4)) i else byM a3 (i - (4 + 4))) i else byM a4 (i - (4 + 4 + 4))) i else byM a5 (i - (4 + 4 + 4 + 4))) i) 255 := by
      intro i hi
      dsimp only
      by_cases h1 : i < 4 + 4 + 4 + 4
      · rw [if_pos h1, if_pos h1]
        by_cases h2 : i < 4 + 4 + 4
        · rw [if_pos h2, if_pos h2]
          by_cases h3 : i < 4 + 4
          · rw [if_pos h3, if_pos h3]
            by_cases h4 : i < 4
            · rw [if_pos h4, if_pos h4]
              exact ⟨by_eq _ h4, Nn_255 _⟩
            · rw [if_neg h4, if_neg h4]
              exact ⟨by_eq _ (by omega), Nn_255 _⟩
          · rw [if_neg h3, if_neg h3]
            exact ⟨by_eq _ (by omega), Nn_255 _⟩
        · rw [if_neg h2, if_neg h2]
          exact ⟨by_eq _ (by omega), Nn_255 _⟩
      · rw [if_neg h1, if_neg h1]
        exact ⟨by_eq _ (by omega), Nn_255 _⟩
    obtain ⟨P1, P2, P3, P4, P5⟩ := P
    obtain ⟨Q1, Q2, Q3, Q4, Q5⟩ := Q
    have n69 : ∀ j, j ≠ 13 → j ≠ 0 → M5 69 j = I 69 j := fun j h1 h2 => by rw [Q3 j h1, up2_nk h2, i69 69 (by decide) (by decide)]
    have n0 : ∀ j, j ≠ 12 → M5 0 j = I 0 j := fun j h1 => by rw [Q2 0 (by decide) (by decide), up2_off _ _ _ (by decide), P3 j h1]
    have nx : ∀ x, x ≠ 0 → x ≠ 23 → x ≠ 69 → x ≠ 78 → M5 x = I x := fun x h1 h2 h3 h4 => by rw [Q2 x h3 h4, up2_off _ _ _ h3, i69 x h1 h2]
    refine Bo_i (u1 := u) (a := nI (t + (4 + 4 + 4 + 4 + 4))) (I1 := I5) (J1 := J) (I2 := M5) (J2 := J) (e_X10_feed (d := 199) ?_) hS (e_X11_feed (d := 199) ?_) ?_
    · unfold F_X10_feed
      rw [gi_0_12 hS, Option.bind_some, t1, if_pos (nI_le h38 (by omega)), vc_0 hS, e1, toV_v, Option.bind_some, vc_0 hS, e2, toV_v, Option.bind_some, vc_0 hS, e3, toV_v, Option.bind_some, vc_0 hS, e4, toV_v, Option.bind_some, vc_0 hS, e5, toV_v, Option.bind_some, gi_0_12 hS, Option.bind_some, P1]
    · unfold F_X11_feed
      rw [pi_69_0 hS, Option.bind_some, gi_69_13 hS, Option.bind_some, m0, nI_add, if_pos (nI_le (by omega) (by omega)), vc_69 hS, f1, toV_v, Option.bind_some, vc_69 hS, f2, toV_v, Option.bind_some, vc_69 hS, f3, toV_v, Option.bind_some, vc_69 hS, f4', toV_v, Option.bind_some, vc_69 hS, f5, toV_v, Option.bind_some, gi_69_13 hS, Option.bind_some, Q1]
    · obtain ⟨⟨z1, z2, z3⟩, z4, z5, z6, z7, z8, z9, z10, z11, z12⟩ := hI
      refine IvW.e (g := g) (h := h) (V := V) (F := F) (D := D) (S := S) (N := N) (x := x) (s := s) ⟨⟨z1, by omega, by omega⟩, z4, by rw [nx 71 (by decide) (by decide) (by decide) (by decide)]; exact z5, by rw [nx 71 (by decide) (by decide) (by decide) (by decide)]; exact Gnd_cg z6 (fun a ha => nx a (by omega) (by omega) (by omega) (by omega)), ?_, Img_cg z8 (fun a ha => nx a (by omega) (by omega) (by omega) (by omega)), ⟨t + (4 + 4 + 4 + 4 + 4), by omega, ?_, Q1, fun k hk => ?_⟩, ?_, Drn_cg z11 (nx _ (by decide) (by decide) (by decide) (by decide)) (nx _ (by decide) (by decide) (by decide) (by decide)) (nx _ (by decide) (by decide) (by decide) (by decide)) (nx _ (by decide) (by decide) (by decide) (by decide)) (nx _ (by decide) (by decide) (by decide) (by decide)) (n69 54 (by decide) (by decide)) (n69 55 (by decide) (by decide)), hJ⟩
      · unfold Und at z7 ⊢
        rw [nx h (by omega) (by omega) (by omega) (by omega), nx (h + 1) (by omega) (by omega) (by omega) (by omega), nx 74 (by decide) (by decide) (by decide) (by decide), nx 75 (by decide) (by decide) (by decide) (by decide), nx 71 (by decide) (by decide) (by decide) (by decide), n69 8 (by decide) (by decide)]
        exact z7
      · rw [Q2 0 (by decide) (by decide), up2_off _ _ _ (by decide)]
        exact P1
      · rw [Q2 23 (by decide) (by decide), up2_off _ _ _ (by decide)]
        by_cases h : k < t
        · rw [P4 k h, Q4 k h, up2_off _ _ _ (by decide), i69 78 (by decide) (by decide)]
          exact t3 k h
        · have hp := P5 (k - t) (by omega)
          have hq := Q5 (k - t) (by omega)
          rw [show t + (k - t) = k by omega] at hp hq
          rw [hp, hq]
          exact eb (k - t) (by omega)
      · unfold Sml
        rw [n0 13 (by decide), n0 14 (by decide), n0 15 (by decide), n0 16 (by decide), n69 18 (by decide) (by decide), n69 50 (by decide) (by decide), n69 11 (by decide) (by decide), n69 1 (by decide) (by decide), n69 20 (by decide) (by decide), nx 24 (by decide) (by decide) (by decide) (by decide), nx 70 (by decide) (by decide) (by decide) (by decide)]
        exact ⟨⟨b1, b2, b3, b4, b5⟩, b6, b7, b8, b9, b10⟩
  · refine Bo_i (u1 := u) (a := -1) (J1 := J) (J2 := J) (e_X10_feed (d := 199) (K0 := hp u n T I J R) ?_) hS (e_X11_feed (d := 199) ?_) (Iv_thr hI (nI 0)).e
    · unfold F_X10_feed
      rw [gi_0_12 hS, Option.bind_some, t1, if_neg (nI_ge (by omega) (by omega))]
    · unfold F_X11_feed
      rw [pi_69_0 hS, Option.bind_some, gi_69_13 hS, Option.bind_some, up2_nk (by decide), t2, nI_add, if_neg (nI_ge (by omega) (by omega))]
end FD
