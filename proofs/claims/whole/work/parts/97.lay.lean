/-! rows, columns and costs are laid -/
theorem smI_app (f : Nat → Int) (a : Nat) : ∀ b, smI f (a + b) = smI f a + smI (fun i => f (a + i)) b
  | 0 => by
    show smI f a = smI f a + 0
    omega
  | b + 1 => by
    rw [← Nat.add_assoc, smI_s, smI_s, smI_app f a b]
    omega
theorem smI_c (x : Int) : ∀ n : Nat, smI (fun _ => x) n = (n : Int) * x
  | 0 => by
    show 0 = ((0 : Nat) : Int) * x
    simp
  | n + 1 => by
    rw [smI_s, smI_c x n, Int.natCast_add, Int.add_mul]
    simp
/-- the wishes, who is out, the free beds -/
def rmI (w : Nat → Int32) (d v : Nat) : Nat := nv w (50 + 5 * d + v) % 10
def rmB (w : Nat → Int32) (D v : Nat) : Nat := pkB w v - cnt (fun j => w (9 + j)) (nI v) D
theorem rmI_le (w : Nat → Int32) (d v : Nat) : rmI w d v ≤ 9 := by
  unfold rmI
  omega
/-- what the rows' laying leaves -/
def SR (w : Nat → Int32) (D : Nat) (I : Nat → Nat → Int32) (J : Nat → Nat → Int64) : Prop :=
  (I 10 10 = nI (rnB (bsL w false) D)) ∧
  (∀ k, k < D → I 11 k = if bsL w false k = true then nI 100 else -1) ∧
  (∀ k, k < D → bsL w false k = true → I 12 (rnB (bsL w false) k + 1) = nI k) ∧
  (∀ i, 1 ≤ i → i ≤ rnB (bsL w false) D → (J 14 i).toInt = 0)
theorem SR.r {w : Nat → Int32} {D : Nat} {I : Nat → Nat → Int32} {J : Nat → Nat → Int64} (h : SR w D I J) : I 10 10 = nI (rnB (bsL w false) D) := h.1
theorem SR.v {w : Nat → Int32} {D : Nat} {I : Nat → Nat → Int32} {J : Nat → Nat → Int64} (h : SR w D I J) : ∀ k, k < D → I 11 k = if bsL w false k = true then nI 100 else -1 := h.2.1
theorem SR.d {w : Nat → Int32} {D : Nat} {I : Nat → Nat → Int32} {J : Nat → Nat → Int64} (h : SR w D I J) : ∀ k, k < D → bsL w false k = true → I 12 (rnB (bsL w false) k + 1) = nI k := h.2.2.1
theorem SR.u {w : Nat → Int32} {D : Nat} {I : Nat → Nat → Int32} {J : Nat → Nat → Int64} (h : SR w D I J) : ∀ i, 1 ≤ i → i ≤ rnB (bsL w false) D → (J 14 i).toInt = 0 := h.2.2.2
section LAY
variable {O : mO} {d u n : Nat} {T : Nat → mT} {I : Nat → Nat → Int32} {J : Nat → Nat → Int64} {R : Nat → Nat → Option Nat} {g V F D S N c r : Nat} {w : Nat → Int32}
theorem ot_t (w : Nat → Int32) (k : Nat) : bsL w false k = decide (w (9 + k) = -1) := by
  unfold bsL
  by_cases h : w (9 + k) = -1
  · rw [decide_eq_true h, decide_eq_false (fun z => z h)]
    rfl
  · rw [decide_eq_false h, decide_eq_true h]
    rfl
theorem c_rows (hS : St n T R) (hG : Gnd n T I R g w V F D S N) (hw : Wf w V F D S N) : ∃ z, lupF (fun (q : Int32 × mH) => F_X7_setRows_l7 O (d + 2) 10 g q.1 q.2) FU (nI 0, hp u n T (up2 I 10 10 (nI 0)) J R) = some z ∧ (fun z => ∃ I1 J1, z = hp u n T I1 J1 R ∧ (∀ a, a ≠ 10 → a ≠ 11 → a ≠ 12 → I1 a = I a) ∧ (∀ a, a ≠ 14 → J1 a = J a) ∧ SR w D I1 J1) z := by
  have hn := hS.2.1
  have h8 := hw.1
  have h31 := hG.1.2.2.1
  refine lup_P0 (fun k z => ∃ I1 J1, z = (nI k, hp u n T I1 J1 R) ∧ (∀ a, a ≠ 10 → a ≠ 11 → a ≠ 12 → I1 a = I a) ∧ (∀ a, a ≠ 14 → J1 a = J a) ∧ SR w k I1 J1) _ (N := D) (by omega) ⟨_, J, rfl, fun a h1 _ _ => up2_off _ _ _ h1, fun _ _ => rfl, up2_at _ _ _ _, fun k hk => absurd hk (Nat.not_lt_zero k), fun k hk => absurd hk (Nat.not_lt_zero k), fun i i1 i2 => by have : rnB (bsL w false) 0 = 0 := rfl; omega⟩ ?_ ?_
  · intro k z hk ⟨I1, J1, hz, o1, o2, s⟩
    subst hz
    left
    have hG1 : Gnd n T I1 R g w V F D S N := Gnd_cg hG (fun a ha => o1 a (by omega) (by omega) (by omega))
    have hG2 : Gnd n T (up2 I1 11 k (-1)) R g w V F D S N := Gnd_cg hG1 (fun a ha => up2_off _ _ _ (by omega))
    have c2 := hG1.1.2.1
    have z13 : I1 g 13 = nI D := hG1.1.2.2.2.2.2.2.2.2.1
    have isO := v_cIsOut (O := O) (d := d + 1) (u := u) (I := up2 I1 11 k (-1)) (J := J1) (v := nI k) c2 hn hG2.1.2.2.2.2.2.2.2.2.1 h8.2.2.1
    rw [inR_nI hk (by omega), Bool.true_and, nI_clamp (by omega), hG2.2.2.2.2.2.2.1 k (by omega), ← ot_t] at isO
    have rb := rnB_le (ot := bsL w false) k
    have start : ∀ z, (if bI (bsL w false k) = 0 then some (.inl ((nI k + nI 1), hp u n T (up2 I1 11 k (-1)) J1 R)) else (gtA (hp u n T (up2 I1 11 k (-1)) J1 R) 10 7 0).bind fun x9 => (wrI (hp u n T (up2 I1 11 k (-1)) J1 R) x9 (nI k) (nI 100)).bind fun K10 => (gtI K10 10 7 10).bind fun x11 => (ptI K10 10 7 10 (x11 + (nI 1))).bind fun K12 => (gtA K12 10 7 1).bind fun x13 => (gtI K12 10 7 10).bind fun x14 => (wrI K12 x13 x14 (nI k)).bind fun K15 => (gtA K15 10 7 3).bind fun x16 => (gtI K15 10 7 10).bind fun x17 => (wrJ K15 x16 x17 0).bind fun K18 => some (.inl ((nI k + nI 1), K18))) = z → F_X7_setRows_l7 O (d + 2) 10 g (nI k) (hp u n T I1 J1 R) = z := by
      intro z hz
      unfold F_X7_setRows_l7
      rw [gi_g_13 c2 hn, Option.bind_some, z13, if_neg (nI_ge hk (by omega)), ga_10_0 hS, Option.bind_some, wr_11 hS (by omega), Option.bind_some, vc_g c2 hn, isO, toI_i, Option.bind_some]
      exact hz
    cases ho : bsL w false k with
    | false =>
      refine ⟨(nI (k + 1), hp u n T (up2 I1 11 k (-1)) J1 R), start _ ?_, _, J1, rfl, fun a h1 h2 h3 => by rw [up2_off _ _ _ h2]; exact o1 a h1 h2 h3, o2, ?_, fun j hj => ?_, fun j hj hjo => ?_, fun i i1 i2 => ?_⟩
      · rw [ho, if_pos (show bI false = 0 from rfl), nI_add]
      · rw [up2_na (by decide), rnB_s, ho, if_neg (by decide), Nat.add_zero]
        exact s.r
      · by_cases e : j = k
        · rw [e, up2_at, ho]
          rfl
        · rw [up2_nk e]
          exact s.v j (by omega)
      · have e : j ≠ k := fun e => by rw [e, ho] at hjo; cases hjo
        rw [up2_na (by decide)]
        exact s.d j (by omega) hjo
      · rw [rnB_s, ho, if_neg (by decide), Nat.add_zero] at i2
        exact s.u i i1 i2
    | true =>
      have er : rnB (bsL w false) (k + 1) = rnB (bsL w false) k + 1 := by rw [rnB_s, ho, if_pos rfl]
      refine ⟨(nI (k + 1), hp u n T (up2 (up2 (up2 (up2 I1 11 k (-1)) 11 k (nI 100)) 10 10 (nI (rnB (bsL w false) k + 1))) 12 (rnB (bsL w false) k + 1) (nI k)) (up2 J1 14 (rnB (bsL w false) k + 1) 0) R), start _ ?_, _, _, rfl, fun a h1 h2 h3 => by rw [up2_off _ _ _ h3, up2_off _ _ _ h1, up2_off _ _ _ h2, up2_off _ _ _ h2]; exact o1 a h1 h2 h3, fun a ha => by rw [up2_off _ _ _ ha]; exact o2 a ha, ?_, fun j hj => ?_, fun j hj hjo => ?_, fun i i1 i2 => ?_⟩
      · have e10 : up2 (up2 I1 11 k (-1)) 11 k (nI 100) 10 10 = nI (rnB (bsL w false) k) := by rw [up2_na (by decide), up2_na (by decide)]; exact s.r
        rw [ho, if_neg nbt, ga_10_0 hS, Option.bind_some, wr_11 hS (by omega), Option.bind_some, gi_10_10 hS, Option.bind_some, e10, nI_add, pi_10_10 hS, Option.bind_some, ga_10_1 hS, Option.bind_some, gi_10_10 hS, Option.bind_some, up2_at, wr_12 hS (by omega), Option.bind_some, ga_10_3 hS, Option.bind_some, gi_10_10 hS, Option.bind_some, up2_na (by decide), up2_at, wr_14 hS (by omega), Option.bind_some, nI_add]
      · rw [up2_na (by decide), up2_at, er]
      · rw [up2_na (by decide), up2_na (by decide)]
        by_cases e : j = k
        · rw [e, up2_at, ho]
          rfl
        · rw [up2_nk e, up2_nk e]
          exact s.v j (by omega)
      · by_cases e : j = k
        · rw [e, up2_at]
        · have m := rnB_mono (ot := bsL w false) (show j + 1 ≤ k by omega)
          rw [rnB_s, hjo, if_pos rfl] at m
          rw [up2_nk (by omega), up2_na (by decide), up2_na (by decide), up2_na (by decide)]
          exact s.d j (by omega) hjo
      · rw [er] at i2
        by_cases e : i = rnB (bsL w false) k + 1
        · rw [e, up2_at]
          rfl
        · rw [up2_nk e]
          exact s.u i i1 (by omega)
  · intro z ⟨I1, J1, hz, o1, o2, s⟩
    subst hz
    have hG1 : Gnd n T I1 R g w V F D S N := Gnd_cg hG (fun a ha => o1 a (by omega) (by omega) (by omega))
    refine ⟨_, ?_, I1, J1, rfl, o1, o2, s⟩
    dsimp only
    unfold F_X7_setRows_l7
    rw [gi_g_13 hG1.1.2.1 hn, Option.bind_some, hG1.1.2.2.2.2.2.2.2.2.1, if_pos (nI_le (Nat.le_refl D) (by omega))]
theorem i64_n {k : Nat} (h : k < 2 ^ 31) : (nI k).toInt64.toInt = (k : Int) := by rw [Int32.toInt_toInt64, nI_toI h]
theorem j_mul {x y : Int64} (h1 : -4611686018427387904 ≤ x.toInt * y.toInt) (h2 : x.toInt * y.toInt ≤ 4611686018427387904) : (x * y).toInt = x.toInt * y.toInt := by
  rw [Int64.toInt_mul]
  exact Int.bmod_eq_of_le (by omega) (by omega)
/-- one row's costs -/
theorem c_costs {i k Pn : Nat} {P : Int64} (hS : St n T R) (hG : Gnd n T I R g w V F D S N) (hw : Wf w V F D S N) (hi : i ≤ 8) (h12 : I 12 i = nI k) (hk : k < D) (hP : P.toInt = (Pn : Int)) (hPn : Pn ≤ 1679616) : ∃ I' J', ev O (d + 4) MX7_setCosts [.ref 10, .ref g, .int (nI i), .long P] (hp u n T I J R) = some (none, hp u n T I' J' R) ∧ SxC I I' ∧ (∀ a, a ≠ 13 → J' a = J a) ∧ (∀ v, v < V → rmC J' i v = cstV (bsB w D) (rmI w) k v Pn) ∧ rmC J' i 5 = ((5 * Pn : Nat) : Int) ∧ (∀ q, q < i * 6 ∨ i * 6 + 6 ≤ q → J' 13 q = J 13 q) := by
  have hn := hS.2.1
  have h8 := hw.1
  have h31 := hG.1.2.2.1
  have LL : ∃ z, lupF (fun (q : Int32 × mH) => F_X7_setCosts_l11 O (d + 3) 10 g (nI i) P (nI k) q.1 q.2) FU (nI 0, hp u n T I J R) = some z ∧ (fun z => ∃ I1 J1, z = hp u n T I1 J1 R ∧ SxC I I1 ∧ (∀ a, a ≠ 13 → J1 a = J a) ∧ (∀ v, v < V → rmC J1 i v = cstV (bsB w D) (rmI w) k v Pn) ∧ (∀ q, q < i * 6 ∨ i * 6 + 5 ≤ q → J1 13 q = J 13 q)) z := by
    refine lup_P0 (fun v z => ∃ I1 J1, z = (nI v, hp u n T I1 J1 R) ∧ SxC I I1 ∧ (∀ a, a ≠ 13 → J1 a = J a) ∧ (∀ q, q < v → rmC J1 i q = cstV (bsB w D) (rmI w) k q Pn) ∧ (∀ q, q < i * 6 ∨ i * 6 + 5 ≤ q → J1 13 q = J 13 q)) _ (N := V) (by omega) ⟨I, J, rfl, SxC.rf I, fun _ _ => rfl, fun q hq => absurd hq (Nat.not_lt_zero q), fun _ _ => rfl⟩ ?_ ?_
    · intro v z hv ⟨I1, J1, hz, s1, o2, c1, c2'⟩
      subst hz
      left
      have hG1 := Gnd_Sx hG s1
      obtain ⟨⟨x1, c2, x3, x4, x5, x6, x7, x8, x9, x10, x11, x12⟩, q1, q2, q3, q4, q5, q6, q7, q8, -⟩ := id hG1
      have wo := v_wishOf (O := O) (d := d + 2) (u := u) (I := I1) (J := J1) (e := nI k) (v := nI v) c2 hn x5 x6 x9 x10
      obtain ⟨⟨y, y1, y2⟩, -⟩ := hw.2.2.2.2.2.1 k v (by omega) (by omega)
      have ey : rmI w k v = y := by unfold rmI; rw [nv_n y2 (by omega), Nat.mod_eq_of_lt (by omega)]
      rw [inR_nI hk (by omega), inR_nI hv (by omega), if_pos (by rfl), nI_clamp (by omega), nI_clamp (by omega), show k * 5 + v = 5 * k + v by omega, q8 k v (by omega) (by omega), y2] at wo
      obtain ⟨I2, e2, s2⟩ := v_cBar (O := O) (d := d) (u := u) (J := J1) hG1 hw hn hk hv
      generalize hval : (if bI (bsB w D k v) = 0 then ((P * (nI v).toInt64) - ((268435456) + ((2097152) * (nI y).toInt64))) else (1099511627776 : Int64)) = val
      have evl : val.toInt = cstV (bsB w D) (rmI w) k v Pn := by
        rw [← hval]
        unfold cstV
        cases hb : bsB w D k v with
        | true =>
          rw [if_neg nbt, if_pos rfl]
          decide
        | false =>
          have pv : Pn * v ≤ 1679616 * 5 := Nat.mul_le_mul hPn (by omega)
          have m1 : (P * (nI v).toInt64).toInt = ((v * Pn : Nat) : Int) := by
            have e : P.toInt * (nI v).toInt64.toInt = ((v * Pn : Nat) : Int) := by rw [hP, i64_n (by omega), ← Int.natCast_mul, Nat.mul_comm]
            rw [j_mul (by rw [e]; omega) (by rw [e]; rw [Nat.mul_comm]; omega), e]
          have c1 : (268435456 : Int64).toInt = 268435456 := by decide
          have c2 : (2097152 : Int64).toInt = 2097152 := by decide
          have m2 : ((2097152 : Int64) * (nI y).toInt64).toInt = 2097152 * (y : Int) := by
            rw [j_mul (by rw [c2, i64_n (by omega)]; omega) (by rw [c2, i64_n (by omega)]; omega), c2, i64_n (by omega)]
          have m3 : ((268435456 : Int64) + 2097152 * (nI y).toInt64).toInt = 268435456 + 2097152 * (y : Int) := by
            rw [j_add (by rw [c1, m2]; omega) (by rw [c1, m2]; omega), c1, m2]
          rw [if_pos (show bI false = 0 from rfl), if_neg (by decide), ey]
          rw [Nat.mul_comm] at pv
          rw [j_sub (by rw [m1, m3]; omega) (by rw [m1, m3]; omega), m1, m3]
      refine ⟨(nI (v + 1), hp u n T I2 (up2 J1 13 (i * 6 + v) val) R), ?_, I2, _, rfl, s1.tr s2, fun a ha => by rw [up2_off _ _ _ ha]; exact o2 a ha, fun q hq => ?_, fun q hq => by rw [up2_nk (by omega)]; exact c2' q hq⟩
      · dsimp only
        unfold F_X7_setCosts_l11
        rw [gi_g_11 c2 hn, Option.bind_some, x5, if_neg (nI_ge hv (by omega)), vc_g c2 hn, wo, toI_i, Option.bind_some]
        dsimp only
        rw [ga_10_2 hS, Option.bind_some, vc_g c2 hn, e2, toI_i, Option.bind_some]
        dsimp only
        rw [show baR w D k (nI v) = bsB w D k v from rfl, hval, nI_mul, nI_add, wr_13 hS (by omega), Option.bind_some, nI_add]
      · unfold rmC
        by_cases e : q = v
        · rw [e, up2_at]
          exact evl
        · rw [up2_nk (by omega)]
          exact c1 q (by omega)
    · intro z ⟨I1, J1, hz, s1, o2, c1, c2'⟩
      subst hz
      have hG1 := Gnd_Sx hG s1
      refine ⟨_, ?_, I1, J1, rfl, s1, o2, c1, c2'⟩
      dsimp only
      unfold F_X7_setCosts_l11
      rw [gi_g_11 hG1.1.2.1 hn, Option.bind_some, hG1.1.2.2.2.2.1, if_pos (nI_le (Nat.le_refl V) (by omega))]
  obtain ⟨z, e, I1, J1, hz, s1, o2, c1, c2'⟩ := LL
  have p5 : (P * 5).toInt = ((5 * Pn : Nat) : Int) := by
    have e5 : (5 : Int64).toInt = 5 := by decide
    rw [j_mul (by rw [hP, e5]; omega) (by rw [hP, e5]; omega), hP, e5, Int.natCast_mul, Int.mul_comm]
    rfl
  refine ⟨I1, up2 J1 13 (i * 6 + 5) (P * 5), e_X7_setCosts (d := d + 3) ?_, s1, fun a ha => by rw [up2_off _ _ _ ha]; exact o2 a ha, fun v hv => ?_, ?_, fun q hq => by rw [up2_nk (by omega)]; exact c2' q (by omega)⟩
  · unfold F_X7_setCosts
    rw [ga_10_1 hS, Option.bind_some, rd_12 hS (by omega), Option.bind_some, h12, e, hz, Option.bind_some, ga_10_2 hS, Option.bind_some, nI_mul, nI_add, wr_13 hS (by omega), Option.bind_some]
  · unfold rmC
    rw [up2_nk (by omega)]
    exact c1 v hv
  · unfold rmC
    rw [up2_at]
    exact p5
/-- rows and costs -/
theorem c_setRows (hS : St n T R) (hG : Gnd n T I R g w V F D S N) (hw : Wf w V F D S N) : ∃ I' J', ev O (d + 6) MX7_setRows [.ref 10, .ref g] (hp u n T I J R) = some (none, hp u n T I' J' R) ∧ (∀ a, a ≠ 10 → a ≠ 11 → a ≠ 12 → a ≠ 28 → a ≠ 29 → a ≠ 31 → I' a = I a) ∧ (∀ a, a ≠ 13 → a ≠ 14 → J' a = J a) ∧ SR w D I' J' ∧ ∀ k, k < D → bsL w false k = true → (∀ v, v < V → rmC J' (rnB (bsL w false) k + 1) v = cstV (bsB w D) (rmI w) k v (6 ^ rnF (bsL w false) (D - (k + 1)) (k + 1))) ∧ rmC J' (rnB (bsL w false) k + 1) 5 = ((5 * 6 ^ rnF (bsL w false) (D - (k + 1)) (k + 1) : Nat) : Int) := by
  have hn := hS.2.1
  have h8 := hw.1
  have h31 := hG.1.2.2.1
  obtain ⟨z1, e1, I1, J1, hz1, o1, o2, s⟩ := c_rows (O := O) (d := d + 3) (u := u) (J := J) hS hG hw
  have hG1 : Gnd n T I1 R g w V F D S N := Gnd_cg hG (fun a ha => o1 a (by omega) (by omega) (by omega))
  have rD := rnB_le (ot := bsL w false) D
  have pw : ∀ q, q ≤ 8 → 6 ^ q ≤ 1679616 := fun q hq => Nat.le_trans (Nat.pow_le_pow_right (by decide) hq) (by decide)
  have LL : ∃ z, lupF (fun (q : Int64 × Int32 × mH) => F_X7_setRows_l82 O (d + 5) 10 g q.1 q.2.1 q.2.2) FU (1, nI (rnB (bsL w false) D), hp u n T I1 J1 R) = some z ∧ (fun z => ∃ I2 J2, z = hp u n T I2 J2 R ∧ SxC I1 I2 ∧ (∀ a, a ≠ 13 → J2 a = J1 a) ∧ ∀ k, k < D → bsL w false k = true → (∀ v, v < V → rmC J2 (rnB (bsL w false) k + 1) v = cstV (bsB w D) (rmI w) k v (6 ^ rnF (bsL w false) (D - (k + 1)) (k + 1))) ∧ rmC J2 (rnB (bsL w false) k + 1) 5 = ((5 * 6 ^ rnF (bsL w false) (D - (k + 1)) (k + 1) : Nat) : Int)) z := by
    refine lup_P0 (fun m z => ∃ I2 J2 P, z = (P, nI (rnB (bsL w false) D - m), hp u n T I2 J2 R) ∧ P.toInt = ((6 ^ m : Nat) : Int) ∧ SxC I1 I2 ∧ (∀ a, a ≠ 13 → J2 a = J1 a) ∧ ∀ k, k < D → bsL w false k = true → rnB (bsL w false) D < rnB (bsL w false) k + 1 + m → (∀ v, v < V → rmC J2 (rnB (bsL w false) k + 1) v = cstV (bsB w D) (rmI w) k v (6 ^ rnF (bsL w false) (D - (k + 1)) (k + 1))) ∧ rmC J2 (rnB (bsL w false) k + 1) 5 = ((5 * 6 ^ rnF (bsL w false) (D - (k + 1)) (k + 1) : Nat) : Int)) _ (N := rnB (bsL w false) D) (by omega) ⟨I1, J1, 1, rfl, by decide, SxC.rf I1, fun _ _ => rfl, fun k hk ho h => ?_⟩ ?_ ?_
    · have m := rnB_mono (ot := bsL w false) (show k + 1 ≤ D by omega)
      rw [rnB_s, ho, if_pos rfl] at m
      omega
    · intro m z hm ⟨I2, J2, P, hz, hP, s2, j2, c2⟩
      subst hz
      left
      have hG2 := Gnd_Sx hG1 s2
      -- who has this row
      obtain ⟨k, k1, k2, k3⟩ : ∃ k, k < D ∧ bsL w false k = true ∧ rnB (bsL w false) k + 1 = rnB (bsL w false) D - m := by
        have : ∀ D i, 1 ≤ i → i ≤ rnB (bsL w false) D → ∃ k, k < D ∧ bsL w false k = true ∧ rnB (bsL w false) k + 1 = i := by
          intro D
          induction D with
          | zero =>
            intro i i1 i2
            have : rnB (bsL w false) 0 = 0 := rfl
            omega
          | succ D ih =>
            intro i i1 i2
            by_cases hl : i ≤ rnB (bsL w false) D
            · obtain ⟨k, g1, g2, g3⟩ := ih i i1 hl
              exact ⟨k, by omega, g2, g3⟩
            · rw [rnB_s] at i2
              by_cases e : bsL w false D = true
              · rw [if_pos e] at i2
                exact ⟨D, by omega, e, by omega⟩
              · rw [if_neg e] at i2
                omega
        exact this D _ (by omega) (by omega)
      have rf : rnF (bsL w false) (D - (k + 1)) (k + 1) = m := by
        have e := rnB_F (ot := bsL w false) (D - (k + 1)) (k + 1)
        rw [rnB_s, k2, if_pos rfl, show k + 1 + (D - (k + 1)) = D by omega] at e
        omega
      obtain ⟨I3, J3, e3, s3, j3, c3, c4, c5⟩ := c_costs (O := O) (d := d + 1) (u := u) (J := J2) (I := I2) (i := rnB (bsL w false) D - m) (k := k) hS hG2 hw (by omega) (by rw [s2 12 (by decide) (by decide) (by decide), ← k3]; exact s.d k k1 k2) k1 hP (pw m (by omega))
      have p6 : (P * 6).toInt = ((6 ^ (m + 1) : Nat) : Int) := by
        have e6 : (6 : Int64).toInt = 6 := by decide
        have := pw m (by omega)
        rw [j_mul (by rw [hP, e6]; omega) (by rw [hP, e6]; omega), hP, e6, Nat.pow_succ, Int.natCast_mul]
        rfl
      refine ⟨(P * 6, nI (rnB (bsL w false) D - (m + 1)), hp u n T I3 J3 R), ?_, I3, J3, P * 6, rfl, p6, s2.tr s3, fun a ha => (j3 a ha).trans (j2 a ha), fun q q1 q2 q3 => ?_⟩
      · dsimp only
        unfold F_X7_setRows_l82
        rw [if_neg (fun z => absurd ((nI_ltI (by omega) (by omega)).mp z) (by omega)), vc_10 hS, e3, toV_v, Option.bind_some, nI_m1 (by omega), show rnB (bsL w false) D - m - 1 = rnB (bsL w false) D - (m + 1) by omega]
      · by_cases e : q = k
        · subst e
          rw [k3, rf]
          exact ⟨c3, c4⟩
        · -- another row
          have ne : rnB (bsL w false) q + 1 ≠ rnB (bsL w false) D - m := by
            intro z
            rw [← k3] at z
            rcases Nat.lt_or_ge q k with lt | ge
            · have mm := rnB_mono (ot := bsL w false) (show q + 1 ≤ k by omega)
              rw [rnB_s, q2, if_pos rfl] at mm
              omega
            · have mm := rnB_mono (ot := bsL w false) (show k + 1 ≤ q by omega)
              rw [rnB_s, k2, if_pos rfl] at mm
              omega
          obtain ⟨d1, d2⟩ := c2 q q1 q2 (by omega)
          have same : ∀ v, v ≤ 5 → rmC J3 (rnB (bsL w false) q + 1) v = rmC J2 (rnB (bsL w false) q + 1) v := fun v hv => by unfold rmC; rw [c5 _ (by omega)]
          exact ⟨fun v hv => by rw [same v (by omega)]; exact d1 v hv, by rw [same 5 (by omega)]; exact d2⟩
    · intro z ⟨I2, J2, P, hz, hP, s2, j2, c2⟩
      subst hz
      refine ⟨_, ?_, I2, J2, rfl, s2, j2, fun k hk ho => c2 k hk ho (by omega)⟩
      dsimp only
      unfold F_X7_setRows_l82
      rw [if_pos ((nI_ltI (by omega) (by omega)).mpr (by omega))]
  obtain ⟨z2, e2, I2, J2, hz2, s2, j2, c2⟩ := LL
  refine ⟨I2, J2, e_X7_setRows (d := d + 5) ?_, fun a h1 h2 h3 h4 h5 h6 => (s2 a h4 h5 h6).trans (o1 a h1 h2 h3), fun a h1 h2 => (j2 a h1).trans (o2 a h2), ⟨by rw [s2 10 (by decide) (by decide) (by decide)]; exact s.r, by rw [s2 11 (by decide) (by decide) (by decide)]; exact s.v, by rw [s2 12 (by decide) (by decide) (by decide)]; exact s.d, by rw [j2 14 (by decide)]; exact s.u⟩, c2⟩
  unfold F_X7_setRows
  rw [pi_10_10 hS, Option.bind_some, e1, hz1, Option.bind_some, gi_10_10 hS, Option.bind_some, s.r, e2, hz2]
  rfl
end LAY
