/-! acts: how both do one, and the call knock -/
section AC
variable {O : mO} {c d u n : Nat} {T : Nat → mT} {I : Nat → Nat → Int32} {J : Nat → Nat → Int64} {R : Nat → Nat → Option Nat} {g h V F D S N x s k : Nat} {w w' : Nat → Int32} {K : mH} {ret : Int32}
theorem kb_eq (y : Int32) {j : Nat} (hj : j < 8) : kb y j = if btI y j = true then nI 1 else nI 0 := by
  have e1 : ∀ j, j < 8 → ((nI j &&& 31).toBitVec.smod 32#32).toNat = j := by decide +kernel
  have e2 : (y >>> (nI j &&& 31)).toBitVec = y.toBitVec.sshiftRight j := by
    rw [Int32.toBitVec_shiftRight]
    show y.toBitVec.sshiftRight ((nI j &&& 31).toBitVec.smod 32#32).toNat = _
    rw [e1 j hj]
  have e3 : btI (y >>> (nI j &&& 31)) 0 = btI y j := by
    unfold btI
    rw [e2, BitVec.getLsbD_sshiftRight]
    simp
    omega
  unfold kb
  apply btI_ext
  intro i hi
  rw [btI_and]
  by_cases h0 : i = 0
  · subst h0
    rw [e3]
    cases btI y j <;> decide
  · have e5 : ∀ i, i < 32 → i ≠ 0 → btI (nI 1) i = false := by decide +kernel
    have e4 := e5 i hi h0
    rw [e4, Bool.and_false]
    split
    · exact e4.symm
    · exact (btI_0 i).symm
theorem kb_set (y : Int32) {j k : Nat} (hj : j < 8) (hk : k < 8) : kb (y ||| (nI 1 <<< (nI k &&& 31))) j = if j = k then nI 1 else kb y j := by
  rw [kb_eq _ hj, kb_eq _ hj, btI_or, btI_one k (by omega), btI_nI, decide_eq_true (show j < 32 by omega), Bool.true_and]
  by_cases e : j = k
  · rw [if_pos e, e, Nat.testBit_two_pow_self, Bool.or_true, if_pos rfl]
  · rw [if_neg e, Nat.testBit_two_pow_of_ne (Ne.symm e), Bool.or_false]
/-- what may not change -/
def Kp (w w' : Nat → Int32) : Prop := ∀ i, i < 6 ∨ i = 7 ∨ i = 8 ∨ 37 ≤ i → w' i = w i
theorem Kp.rf (w : Nat → Int32) : Kp w w := fun _ _ => rfl
/-- the class did it, upon the ground g -/
def CAo (g : Nat) (I I1 : Nat → Nat → Int32) : Prop := ∀ a, (a < g ∨ g + 10 < a) → a ≠ 28 → a ≠ 29 → a ≠ 31 → I1 a = I a
theorem CAo_Sx {I1 : Nat → Nat → Int32} (h : SxC I I1) : CAo g I I1 := fun a _ h1 h2 h3 => h a h1 h2 h3
/-- the class did it, with what can be undone -/
def AcC (n : Nat) (T : Nat → mT) (R : Nat → Nat → Option Nat) (g h : Nat) (w : Nat → Int32) (V F D S N x s k : Nat) (I I1 : Nat → Nat → Int32) (ret : Int32) (w' : Nat → Int32) : Prop :=
  Gnd n T I1 R g w' V F D S N ∧ (∀ a, (a < g ∨ g + 10 < a) → a ≠ h → a ≠ h + 1 → a ≠ 28 → a ≠ 29 → a ≠ 31 → I1 a = I a) ∧ (∀ y, y < 17 → y ≠ x → ∀ i, i < 23 → I1 (h + 1) (y * 23 + i) = I (h + 1) (y * 23 + i)) ∧ ((ret < 0 ∧ I1 h = I h) ∨ (0 ≤ ret ∧ I1 h 1 = nI ((x + 1) % 17) ∧ I1 h 2 = nI (min 16 (s + 1)) ∧ HsR (I1 (h + 1)) x w ∧ I1 (h + 1) (x * 23) = nI k))
/-- the reference did it -/
def MNw (I I2 : Nat → Nat → Int32) (J J2 : Nat → Nat → Int64) (s k : Nat) (ret : Int32) (w' : Nat → Int32) : Prop :=
  I2 71 = w' ∧ (∀ a, a ≠ 69 → a ≠ 71 → a ≠ 74 → a ≠ 75 → (a < 76 ∨ a = 78 ∨ 97 ≤ a) → I2 a = I a) ∧ (∀ k, k = 1 ∨ k = 11 ∨ k = 13 ∨ k = 18 ∨ k = 20 ∨ k = 50 ∨ k = 54 ∨ k = 55 → I2 69 k = I 69 k) ∧ MJx J J2 ∧ ((ret < 0 ∧ I2 69 8 = I 69 8 ∧ I2 74 = I 74 ∧ I2 75 = I 75) ∨ (0 ≤ ret ∧ ∃ Ia Ib, Ia 71 = I 71 ∧ Ia 69 8 = I 69 8 ∧ Ia 74 = I 74 ∧ Ia 75 = I 75 ∧ RmA Ia Ib s k ∧ I2 69 8 = Ib 69 8 ∧ I2 74 = Ib 74 ∧ I2 75 = Ib 75))
theorem MNw_no {I2 : Nat → Nat → Int32} {J2 : Nat → Nat → Int64} (h : SxM 69 I I2 J J2) (hr : ret < 0) : MNw I I2 J J2 s k ret (I 71) :=
  ⟨h.1 71 (by decide), fun a h1 _ _ _ _ => h.1 a h1, fun k hk => h.2.1 k (by omega) (by omega), MJx_SxM h, Or.inl ⟨hr, h.2.1 8 (by decide) (by decide), h.1 74 (by decide), h.1 75 (by decide)⟩⟩
theorem v_ans0 {m : Nat} (hS : St n T R) (hm : m < 2 ^ 31) : ev O (d + 1) MX10_answered [.ref 0, .int (nI m)] (hp u n T I J R) = some (some (.int (nI m)), hp u n T (up2 I 0 16 (nI 0)) J R) := by
  refine e_X10_answered ?_
  unfold F_X10_answered
  rw [if_pos (show (0 : Int32) ≤ nI m from nI_le (Nat.zero_le m) hm), vc_0 hS, v_granted hS]
  rfl
theorem v_ansN {pl : Nat} (hS : St n T R) (hr : ¬ 0 ≤ ret) (hf : ev O (d + 1) MX10_refused [.ref 0, .int ret] (hp u n T I J R) = some (some (.int ret), hp u n T (up2 (up2 I 0 16 ret) 24 pl (I 24 pl + nI 1)) J R)) : ev O (d + 2) MX10_answered [.ref 0, .int ret] (hp u n T I J R) = some (some (.int ret), hp u n T (up2 (up2 I 0 16 ret) 24 pl (I 24 pl + nI 1)) J R) := by
  refine e_X10_answered (d := d + 1) ?_
  unfold F_X10_answered
  rw [if_neg hr, vc_0 hS, hf]
  rfl
/-- granted or refused -/
def Rt (ret : Int32) : Prop := (∃ m, m < 2 ^ 31 ∧ ret = nI m) ∨ ret < 0
/-- the class's act: prepare, do, commit -/
theorem v_act {kk : Nat} {a b : Int32} {M : mM} {as : List Value} (hH : IsH n T R h) (hG : Gnd n T I R g w V F D S N) (hn : n ≤ oB) (hgh : g = 32 ∧ h = 26 ∨ g = 58 ∧ h = 56) (hx : I h 1 = nI x) (h17 : x < 17) (hs : I h 2 = nI s) (h16 : s ≤ 16) (hM : (kk = 0 ∧ M = MX2_renewFor ∧ as = [.int a]) ∨ (kk = 1 ∧ M = MX2_lodgeIn ∧ as = [.int a, .int b]) ∨ (kk = 2 ∧ M = MX2_knockBy ∧ as = [.int a]) ∨ (kk = 3 ∧ M = MX2_passYear ∧ as = [])) (hret : Rt ret)
    (hd : ∀ I', Gnd n T I' R g w V F D S N → ∃ I1, ev O d M (.ref g :: as) (hp u n T I' J R) = some (some (.int ret), hp u n T I1 J R) ∧ Gnd n T I1 R g w' V F D S N ∧ CAo g I' I1) : ∃ I1, ev O (d + 1) MX10_act [.ref g, .ref h, .int (nI kk), .int a, .int b] (hp u n T I J R) = some (some (.int ret), hp u n T I1 J R) ∧ AcC n T R g h w V F D S N x s kk I I1 ret w' := by
  have hGg : IsG n T R g := hG.1.2.1
  have g0 : Gnd n T (prI I g h x (nI kk)) R g w V F D S N := by
    refine Gnd_cg hG ?_
    intro e he
    refine prI_off ?_
    omega
  obtain ⟨I1, e1, g1, o1⟩ := hd _ g0
  have ph : ∀ a, a ≠ h + 1 → (a < g ∨ g + 10 < a) → a ≠ 28 → a ≠ 29 → a ≠ 31 → I1 a = I a := fun a ha hb h1 h2 h3 => (o1 a hb h1 h2 h3).trans (prI_off ha)
  have ph1 : I1 (h + 1) = prI I g h x (nI kk) (h + 1) := o1 _ (by omega) (by omega) (by omega) (by omega)
  have ihh : I1 h = I h := ph h (by omega) (by omega) (by omega) (by omega) (by omega)
  have go : ∀ I2, F_X10_act_j70 O d h ret (hp u n T I1 J R) = some (ret, hp u n T I2 J R) → ev O (d + 1) MX10_act [.ref g, .ref h, .int (nI kk), .int a, .int b] (hp u n T I J R) = some (some (.int ret), hp u n T I2 J R) := by
    intro I2 hj
    refine e_X10_act ?_
    unfold F_X10_act
    rw [vc_h hH hn, v_prepare hH hGg hn hx h17, toV_v, Option.bind_some]
    rcases hM with ⟨rfl, rfl, rfl⟩ | ⟨rfl, rfl, rfl⟩ | ⟨rfl, rfl, rfl⟩ | ⟨rfl, rfl, rfl⟩
    · rw [if_pos rfl, vc_g hGg hn, e1, toI_i, Option.bind_some]
      exact hj
    · rw [if_neg (by decide), if_pos rfl, vc_g hGg hn, e1, toI_i, Option.bind_some]
      exact hj
    · rw [if_neg (by decide), if_neg (by decide), if_pos rfl, vc_g hGg hn, e1, toI_i, Option.bind_some]
      exact hj
    · rw [if_neg (by decide), if_neg (by decide), if_neg (by decide), vc_g hGg hn, e1, toI_i, Option.bind_some]
      exact hj
  rcases hret with ⟨m, hm, rfl⟩ | hneg
  · refine ⟨up2 (up2 I1 h 1 (nI ((x + 1) % 17))) h 2 (nI (min 16 (s + 1))), go _ ?_, ?_⟩
    · unfold F_X10_act_j70
      rw [if_neg (nI_pos hm), vc_h hH hn, v_commit hH hn (by rw [ihh]; exact hx) h17 (by rw [ihh]; exact hs) h16]
      rfl
    · refine ⟨Gnd_cg g1 (fun a ha => by rw [up2_off _ _ _ (by omega), up2_off _ _ _ (by omega)]), fun a a1 a2 a3 a4 a5 a6 => by rw [up2_off _ _ _ a2, up2_off _ _ _ a2]; exact ph a a3 a1 a4 a5 a6, fun y hy hne i hi => by rw [up2_na (by omega), up2_na (by omega), ph1]; exact prI_slot hne i hi, Or.inr ⟨nI_le (Nat.zero_le m) hm, by rw [up2_nk (by decide), up2_at], up2_at _ _ _ _, ?_, ?_⟩⟩
      · rw [up2_off _ _ _ (by omega), up2_off _ _ _ (by omega), ph1]
        exact prI_HsR hG (by omega)
      · rw [up2_off _ _ _ (by omega), up2_off _ _ _ (by omega), ph1]
        exact prI_kind
  · refine ⟨I1, go _ ?_, g1, fun a a1 a2 a3 a4 a5 a6 => ph a a3 a1 a4 a5 a6, fun y hy hne i hi => by rw [ph1]; exact prI_slot hne i hi, Or.inl ⟨hneg, ihh⟩⟩
    unfold F_X10_act_j70
    rw [if_pos hneg]
/-- both did it -/
theorem Bo_act {Mc Mm : mM} {as : List Value} (hI : IvW c u n T I J R g h V F D S N x s) (hk : k ≤ 3) (hret : (∃ m, m < 2 ^ 31 ∧ ret = nI m) ∨ (ret = -2 ∨ ret = -3) ∧ w' = I 71) (hwf : Wf w' V F D S N) (hkp : Kp (I 71) w')
    (h1 : ∃ I1, AcC n T R g h (I 71) V F D S N x s k I I1 ret w' ∧ ∀ Ia, ev O 199 MX10_answered [.ref 0, .int ret] (hp u n T I1 J R) = some (some (.int ret), hp u n T Ia J R) → ev O 200 Mc (.ref 0 :: as) (hp u n T I J R) = some (some (.int ret), hp u n T Ia J R))
    (h2 : ∀ Ia, Ia 71 = I 71 → Ia 69 = I 69 → ∃ I2 J2, MNw (up2 Ia 69 0 (nI 0)) I2 J J2 s k ret w' ∧ ∀ It, ev O 199 MX11_tell [.ref 69, .int ret] (hp u n T I2 J2 R) = some (some (.int ret), hp u n T It J2 R) → ev O 200 Mm (.ref 69 :: as) (hp u n T Ia J R) = some (some (.int ret), hp u n T It J2 R)) : Bo O Inv Mc Mm as c (hp u n T I J R) := by
  have hg := Iv_g hI
  have hS := hI.1.1
  have hw := hI.2.2.1
  have hu := hI.2.2.2.2.1
  have hx := hu.1
  have hJ := hI.2.2.2.2.2.2.2.2.2
  obtain ⟨⟨b1, b2, b3, b4, b5⟩, b6, b7, b8, b9, b10⟩ := hI.2.2.2.2.2.2.2.1
  obtain ⟨I1, ⟨g1, o1, s1, a1⟩, k1⟩ := h1
  have d8 := hw.1.2.2.1
  have f4 := hw.1.2.1
  have v5 := hw.1.1
  have i0 : I1 0 = I 0 := o1 0 (by omega) (by omega) (by omega) (by decide) (by decide) (by decide)
  have i24 : I1 24 = I 24 := o1 24 (by omega) (by omega) (by omega) (by decide) (by decide) (by decide)
  have i69 : I1 69 = I 69 := o1 69 (by omega) (by omega) (by omega) (by decide) (by decide) (by decide)
  have i70 : I1 70 = I 70 := o1 70 (by omega) (by omega) (by omega) (by decide) (by decide) (by decide)
  have i71 : I1 71 = I 71 := o1 71 (by omega) (by omega) (by omega) (by decide) (by decide) (by decide)
  have i74 : I1 74 = I 74 := o1 74 (by omega) (by omega) (by omega) (by decide) (by decide) (by decide)
  have i75 : I1 75 = I 75 := o1 75 (by omega) (by omega) (by omega) (by decide) (by decide) (by decide)
  rcases hret with ⟨m, hm, rfl⟩ | ⟨hr, rfl⟩
  · have nn : ¬ nI m < 0 := nI_pos hm
    have ka := k1 _ (v_ans0 (d := 198) hS hm)
    obtain ⟨I2, J2, ⟨m1, m2, m3, m4, m5⟩, k2⟩ := h2 (up2 I1 0 16 (nI 0)) (by rw [up2_off _ _ _ (by decide)]; exact i71) (by rw [up2_off _ _ _ (by decide)]; exact i69)
    have kb := k2 _ (v_tell0 hS hm)
    rcases a1 with ⟨z, -⟩ | ⟨-, y1, y2, y3, y4⟩
    · exact absurd z nn
    rcases m5 with ⟨z, -⟩ | ⟨-, Ia, Ib, z1, z2, z3, z4, z5, z6, z7, z8⟩
    · exact absurd z nn
    rw [up2_off _ _ _ (by decide), up2_off _ _ _ (by decide)] at z1 z3 z4
    have Mo : ∀ a, a ≠ 0 → a ≠ 69 → a ≠ 71 → a ≠ 74 → a ≠ 75 → (a < 76 ∨ a = 78 ∨ 97 ≤ a) → I2 a = I1 a := fun a q0 q1 q2 q3 q4 q5 => by rw [m2 a q1 q2 q3 q4 q5, up2_off _ _ _ q1, up2_off _ _ _ q0]
    have M0 : I2 0 = up2 I1 0 16 (nI 0) 0 := by rw [m2 0 (by decide) (by decide) (by decide) (by decide) (by decide), up2_off _ _ _ (by decide)]
    have M69 : ∀ k, k = 1 ∨ k = 11 ∨ k = 13 ∨ k = 18 ∨ k = 20 ∨ k = 50 ∨ k = 54 ∨ k = 55 → I2 69 k = I 69 k := fun k hk => by rw [m3 k hk, up2_nk (by omega), up2_na (by decide), i69]
    refine Bo_i ka hS kb ⟨g, h, V, F, D, S, N, (x + 1) % 17, min 16 (s + 1), Iv_ch hI (fun a ha => ?_) ?_ ?_ ?_ ?_ ?_ ?_ ?_ ?_ (Cns_J hJ m4)⟩
    · rw [up2_off _ _ _ (by omega), Mo a (by omega) (by omega) (by omega) (by omega) (by omega) (by omega), o1 a (by omega) (by omega) (by omega) (by omega) (by omega) (by omega)]
    · rw [up2_na (by decide), M0, up2_nk (by decide), i0]
    · rw [up2_nk (by decide), M69 13 (by omega)]
    · rw [up2_nk (by decide), M69 54 (by omega)]
    · rw [up2_nk (by decide), M69 55 (by omega)]
    · rw [up2_off _ _ _ (by decide), m1]
      exact hwf
    · rw [up2_off I2 _ _ (show 71 ≠ 69 by decide), m1]
      exact Gnd_cg g1 (fun a ha => by rw [up2_off _ _ _ (by omega), Mo a (by omega) (by omega) (by omega) (by omega) (by omega) (by omega)])
    · rw [up2_off _ _ _ (by omega), up2_off _ _ _ (by omega), up2_off _ _ _ (show 71 ≠ 69 by decide), m1, Mo h (by omega) (by omega) (by omega) (by omega) (by omega) (by omega), Mo (h + 1) (by omega) (by omega) (by omega) (by omega) (by omega) (by omega)]
      refine Und_push2 (I := Ia) (I' := Ib) (I2 := up2 I2 69 1 (nI 0)) (k := k) (ih := I h) (hr := I (h + 1)) ?_ d8 f4 y1 y2 s1 y4 hk ?_ ?_ z5 ?_ ?_ ?_ ?_ v5
      · rw [z1, z3, z4, i71, i74, i75]
        obtain ⟨⟨x1, x2, x3, x4, x5⟩, xs⟩ := hu
        refine ⟨⟨x1, x2, x3, x4, ?_⟩, xs⟩
        rw [z2, up2_nk (by decide), up2_na (by decide), i69]
        exact x5
      · rw [z1, i71]
        exact y3
      · rw [z1, i71]
        exact hw.2.2.2.1
      · rw [up2_nk (by decide)]
        exact z6
      · rw [up2_off _ _ _ (by decide)]
        exact z7
      · rw [up2_off _ _ _ (by decide)]
        exact z8
      · intro i hi
        rw [z1, i71]
        exact hkp i (by omega)
    · rw [up2_off _ _ _ (show 0 ≠ 69 by decide), up2_off _ _ _ (show 24 ≠ 69 by decide), up2_off _ _ _ (show 70 ≠ 69 by decide), M0, Mo 24 (by decide) (by decide) (by decide) (by decide) (by decide) (by decide), Mo 70 (by decide) (by decide) (by decide) (by decide) (by decide) (by decide), i24, i70]
      refine ⟨⟨?_, ?_, ?_, ?_, ?_⟩, b6, b7, b8, b9, b10⟩
      · rw [up2_nk (by decide), up2_nk (by decide), M69 _ (by omega), i0]
        exact b1
      · rw [up2_nk (by decide), up2_nk (by decide), M69 _ (by omega), i0]
        exact b2
      · rw [up2_nk (by decide), up2_nk (by decide), M69 _ (by omega), i0]
        exact b3
      · rw [up2_at, up2_at]
      · rw [up2_nk (by decide), M69 _ (by omega)]
        exact b5
  · have go : ∀ (pl r : Nat), ret = -nI r → 0 < r → r < 7 → ((pl = 0 ∧ r = 1) ∨ (pl = 1 ∧ r = 2) ∨ (pl = 2 ∧ r = 3) ∨ (pl = 3 ∧ r = 5) ∨ (pl = 4 ∧ r = 6)) → ev O 198 MX10_refused [.ref 0, .int ret] (hp u n T I1 J R) = some (some (.int ret), hp u n T (up2 (up2 I1 0 16 ret) 24 pl (I1 24 pl + nI 1)) J R) → Bo O Inv Mc Mm as c (hp u n T I J R) := by
      intro pl r er r0 r7 hpl hf
      have lt : ret < 0 := by
        rw [er]
        exact nI_neg_lt r0 r7
      have ka := k1 _ (v_ansN (d := 197) hS (Int32.not_le.mpr lt) hf)
      obtain ⟨I2, J2, ⟨m1, m2, m3, m4, m5⟩, k2⟩ := h2 (up2 (up2 I1 0 16 ret) 24 pl (I1 24 pl + nI 1)) (by rw [up2_off _ _ _ (by decide), up2_off _ _ _ (by decide)]; exact i71) (by rw [up2_off _ _ _ (by decide), up2_off _ _ _ (by decide)]; exact i69)
      have kb := k2 _ (v_tellN hS er r0 r7)
      have y1 : I1 h = I h := by
        rcases a1 with ⟨-, y1⟩ | ⟨z, -⟩
        · exact y1
        · exact absurd z (Int32.not_le.mpr lt)
      obtain ⟨-, z2, z3, z4⟩ := m5.resolve_right (fun z => absurd z.1 (Int32.not_le.mpr lt))
      rw [up2_nk (by decide), up2_na (by decide), up2_na (by decide), i69] at z2
      rw [up2_off _ _ _ (by decide), up2_off _ _ _ (by decide), up2_off _ _ _ (by decide)] at z3 z4
      have Mo : ∀ a, a ≠ 0 → a ≠ 24 → a ≠ 69 → a ≠ 71 → a ≠ 74 → a ≠ 75 → (a < 76 ∨ a = 78 ∨ 97 ≤ a) → I2 a = I1 a := fun a q0 q24 q1 q2 q3 q4 q5 => by rw [m2 a q1 q2 q3 q4 q5, up2_off _ _ _ q1, up2_off _ _ _ q24, up2_off _ _ _ q0]
      have M0 : I2 0 = up2 I1 0 16 ret 0 := by rw [m2 0 (by decide) (by decide) (by decide) (by decide) (by decide), up2_off _ _ _ (by decide), up2_off _ _ _ (by decide)]
      have M24 : I2 24 = up2 (up2 I1 0 16 ret) 24 pl (I1 24 pl + nI 1) 24 := by rw [m2 24 (by decide) (by decide) (by decide) (by decide) (by decide), up2_off _ _ _ (by decide)]
      have M70 : I2 70 = I 70 := by rw [Mo 70 (by decide) (by decide) (by decide) (by decide) (by decide) (by decide) (by decide), i70]
      have M69 : ∀ k, k = 1 ∨ k = 11 ∨ k = 13 ∨ k = 18 ∨ k = 20 ∨ k = 50 ∨ k = 54 ∨ k = 55 → I2 69 k = I 69 k := fun k hk => by rw [m3 k hk, up2_nk (by omega), up2_na (by decide), up2_na (by decide), i69]
      refine Bo_i ka hS kb ⟨g, h, V, F, D, S, N, x, s, Iv_ch hI (fun a ha => ?_) ?_ ?_ ?_ ?_ ?_ ?_ ?_ ?_ (Cns_J hJ m4)⟩
      · rw [up2_off _ _ _ (by omega), up2_off _ _ _ (by omega), Mo a (by omega) (by omega) (by omega) (by omega) (by omega) (by omega) (by omega), o1 a (by omega) (by omega) (by omega) (by omega) (by omega) (by omega)]
      · rw [up2_na (by decide), up2_na (by decide), M0, up2_nk (by decide), i0]
      · rw [up2_na (by decide), up2_nk (by decide), M69 13 (by omega)]
      · rw [up2_na (by decide), up2_nk (by decide), M69 54 (by omega)]
      · rw [up2_na (by decide), up2_nk (by decide), M69 55 (by omega)]
      · rw [up2_off _ _ _ (by decide), up2_off _ _ _ (by decide), m1]
        exact hw
      · rw [up2_off _ _ _ (show 71 ≠ 70 by decide), up2_off I2 _ _ (show 71 ≠ 69 by decide), m1]
        exact Gnd_cg g1 (fun a ha => by rw [up2_off _ _ _ (by omega), up2_off _ _ _ (by omega), Mo a (by omega) (by omega) (by omega) (by omega) (by omega) (by omega) (by omega)])
      · rw [up2_off _ _ _ (show h ≠ 70 by omega), up2_off _ _ _ (show h ≠ 69 by omega), up2_off _ _ _ (show h + 1 ≠ 70 by omega), up2_off _ _ _ (show h + 1 ≠ 69 by omega), up2_off _ _ _ (show 71 ≠ 70 by decide), up2_off _ _ _ (show 71 ≠ 69 by decide), up2_off _ _ _ (show 74 ≠ 70 by decide), up2_off _ _ _ (show 74 ≠ 69 by decide), up2_off _ _ _ (show 75 ≠ 70 by decide), up2_off _ _ _ (show 75 ≠ 69 by decide), up2_off _ _ _ (show 69 ≠ 70 by decide), m1, z3, z4, i74, i75, Mo h (by omega) (by omega) (by omega) (by omega) (by omega) (by omega) (by omega), Mo (h + 1) (by omega) (by omega) (by omega) (by omega) (by omega) (by omega) (by omega), y1]
        have U2 := Und_slot hu (hr' := I1 (h + 1)) s1
        exact Und_cg U2 rfl rfl rfl (by rw [up2_nk (by decide)]; exact z2) rfl rfl (fun _ _ => rfl) d8 f4 v5
      · have e70 : ∀ j, up2 (up2 I2 69 1 ret) 70 r (I2 70 r + nI 1) 70 j = if j = r then I 70 r + nI 1 else I 70 j := by
          intro j
          rw [M70]
          by_cases e : j = r
          · rw [e, up2_at, if_pos rfl]
          · rw [up2_nk e, up2_na (by decide), M70, if_neg e]
        have e24 : ∀ j, up2 (up2 I2 69 1 ret) 70 r (I2 70 r + nI 1) 24 j = if j = pl then I 24 pl + nI 1 else I 24 j := by
          intro j
          rw [up2_na (by decide), up2_na (by decide), M24, i24]
          by_cases e : j = pl
          · rw [e, up2_at, if_pos rfl]
          · rw [up2_nk e, up2_na (by decide), i24, if_neg e]
        refine ⟨⟨?_, ?_, ?_, ?_, ?_⟩, ?_⟩
        · rw [up2_na (by decide), up2_na (by decide), up2_na (by decide), up2_nk (by decide), M0, up2_nk (by decide), M69 _ (by omega), i0]
          exact b1
        · rw [up2_na (by decide), up2_na (by decide), up2_na (by decide), up2_nk (by decide), M0, up2_nk (by decide), M69 _ (by omega), i0]
          exact b2
        · rw [up2_na (by decide), up2_na (by decide), up2_na (by decide), up2_nk (by decide), M0, up2_nk (by decide), M69 _ (by omega), i0]
          exact b3
        · rw [up2_na (by decide), up2_na (by decide), up2_na (by decide), up2_at, M0, up2_at]
        · rw [up2_na (by decide), up2_nk (by decide), M69 _ (by omega)]
          exact b5
        · simp only [e70, e24]
          rcases hpl with ⟨rfl, rfl⟩ | ⟨rfl, rfl⟩ | ⟨rfl, rfl⟩ | ⟨rfl, rfl⟩ | ⟨rfl, rfl⟩ <;> simp [b6, b7, b8, b9, b10]
    rcases hr with rfl | rfl
    · exact go 1 2 (by decide) (by decide) (by decide) (by omega) (v_ref_2 (d := 197) hS)
    · exact go 2 3 (by decide) (by decide) (by decide) (by omega) (v_ref_3 (d := 197) hS)
end AC
