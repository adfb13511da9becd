/-! calls: look -/
/-- how many of those below k -/
def ctF (f : Nat → Bool) : Nat → Nat
  | 0 => 0
  | k + 1 => ctF f k + (if f k = true then 1 else 0)
theorem ctF_le (f : Nat → Bool) : ∀ k, ctF f k ≤ k
  | 0 => Nat.le_refl 0
  | k + 1 => by
    have := ctF_le f k
    show ctF f k + (if f k = true then 1 else 0) ≤ k + 1
    split <;> omega
theorem ctF_cnt (f : Nat → Bool) : ∀ k, cnt (fun j => bI (f j)) (nI 1) k = ctF f k
  | 0 => rfl
  | k + 1 => by
    rw [cnt_s, ctF_cnt f k]
    show _ = ctF f k + (if f k = true then 1 else 0)
    cases f k with
    | false => rfl
    | true => rfl
theorem ctF_split (f h : Nat → Bool) : ∀ k, ctF (fun j => f j && h j) k + ctF (fun j => f j && !h j) k = ctF f k
  | 0 => rfl
  | k + 1 => by
    have ih := ctF_split f h k
    show ctF (fun j => f j && h j) k + (if (f k && h k) = true then 1 else 0) + (ctF (fun j => f j && !h j) k + (if (f k && !h k) = true then 1 else 0)) = ctF f k + (if f k = true then 1 else 0)
    cases f k <;> cases h k <;> simp <;> omega
theorem stI_ly (f : Nat → Bool) {D : Nat} (h : D ≤ 8) : nI (stN f D) = lyF (fun j => bI (f j)) (nI 1) D := by
  rw [lyF_st _ _ D h]
  congr 1
  apply stN_cg
  intro j _
  cases f j <;> rfl
theorem st_bc (f : Nat → Bool) {D : Nat} (h : D ≤ 8) : bcF (nI (stN f D)) = nI (ctF f D) := by
  rw [stI_ly f h, lyF_bc _ _ h, ctF_cnt]
theorem st_on (f : Nat → Bool) {D : Nat} (h : D ≤ 8) : onF (nI (stN f D)) 8 = nI (ctF f D) := by
  rw [stI_ly f h, lyF_on _ _ h, ctF_cnt]
theorem st_and (f h : Nat → Bool) (D : Nat) : nI (stN f D) &&& nI (stN h D) = nI (stN (fun j => f j && h j) D) := by
  apply btI_ext
  intro i hi
  rw [btI_and, stI_bit _ hi, stI_bit _ hi, stI_bit _ hi]
  cases decide (i < D) <;> simp
theorem is_all : ∀ k, k < 8 → ∀ b, b < 256 → decide ((nI b >>> (nI k &&& 31)) &&& nI 1 = nI 1) = b.testBit k := by decide +kernel
theorem is_st (f : Nat → Bool) {D k : Nat} (h : D ≤ 8) (hk : k < D) : decide ((nI (stN f D) >>> (nI k &&& 31)) &&& nI 1 = nI 1) = f k := by
  have h1 := stN_lt f D
  have h2 := pow_lt h
  rw [is_all k (by omega) _ (by omega), stN_bit, decide_eq_true hk, Bool.true_and]
/-- one is in so many years on -/
def inY (w : Nat → Int32) (y d : Nat) : Bool := decide (¬ w (17 + d) ≤ nI y)
/-- the more of both, so many years on -/
def moF (w : Nat → Int32) (S D y : Nat) : Nat := if ctF (fun j => sgF w S j && inY w y j) D < ctF (fun j => sgF w S j && !inY w y j) D then ctF (fun j => sgF w S j && !inY w y j) D else ctF (fun j => sgF w S j && inY w y j) D
def moP (w : Nat → Int32) (S D y : Nat) : Int32 := nI (moF w S D y)
theorem moF_le (w : Nat → Int32) (S D y : Nat) : moF w S D y ≤ ctF (sgF w S) D := by
  have := ctF_split (sgF w S) (inY w y) D
  unfold moF
  split <;> omega
section LK
variable {O : mO} {L : Nat} {xs : Nat → Int32} {c d u n : Nat} {T : Nat → mT} {I : Nat → Nat → Int32} {J : Nat → Nat → Int64} {R : Nat → Nat → Option Nat} {g V F D S N : Nat} {w : Nat → Int32} {K : mH} {o : Int32}
/-- what look() answers -/
def lkA (w : Nat → Int32) (S D : Nat) (o : Int32) : Int32 := if stN (sgF w S) D = 0 then -1 else if o = 0 then (mnF (moP w S D) 99).1 else (mnF (moP w S D) 99).2
theorem v_cLook (hS : St n T R) (hG : Gnd n T I R g w V F D S N) (hw : Wf w V F D S N) : ev O (d + 2) MX4_bestLook [.ref 7, .ref g, .int o] (hp u n T I J R) = some (some (.int (lkA w S D o)), hp u n T I J R) := by
  have h8 := hw.1
  have hn := hS.2.1
  have hd : D ≤ 8 := by omega
  obtain ⟨⟨c1, c2, c3, c4, c5, c6, c7, c8, c9, c10, c11, c12⟩, q1, q2, q3, q4, q5, q6, q7, -⟩ := id hG
  have hlt := stN_lt (sgF w S) D
  have hpw := pow_lt hd
  have hcl := ctF_le (sgF w S) D
  refine e_X4_bestLook (d := d + 1) ?_
  unfold F_X4_bestLook lkA
  rw [vc_g c2 hn, v_cStr (d := d) hG hw hn, toI_i, Option.bind_some]
  dsimp only
  by_cases h0 : stN (sgF w S) D = 0
  · rw [if_pos (by rw [h0]; rfl), if_pos h0]
  · rw [if_neg (nI_ne0 (by omega) (by omega)), if_neg h0, v_bit, toI_i, Option.bind_some, st_bc _ hd]
    dsimp only
    rw [nI_add]
    refine lup_b (fun k => (if k = 0 then nI 0 else (mnF (moP w S D) (k - 1)).1, if k = 0 then nI (ctF (sgF w S) D + 1) else (mnF (moP w S D) (k - 1)).2, nI k, hp u n T I J R)) ((mnF (moP w S D) 99).1, (mnF (moP w S D) 99).2, hp u n T I J R) 100 (by omega) rfl ?_ ?_ rfl
    · intro k hk
      have iA := v_inAfter (O := O) (d := d + 1) (u := u) (J := J) (I := I) (v := nI k) c2 hn c9 c10
      rw [afF_cg (w' := I (g + 5)) (w := fun j => w (17 + j)) (fun j hj => q7 j (by omega)), afF_st _ _ D (by omega)] at iA
      have hsp := ctF_split (sgF w S) (inY w k) D
      have hmo : (if nI (ctF (fun j => sgF w S j && inY w k j) D) < nI (ctF (sgF w S) D) - nI (ctF (fun j => sgF w S j && inY w k j) D) then nI (ctF (sgF w S) D) - nI (ctF (fun j => sgF w S j && inY w k j) D) else nI (ctF (fun j => sgF w S j && inY w k j) D)) = moP w S D k := by
        rw [nI_sub (by omega), show ctF (sgF w S) D - ctF (fun j => sgF w S j && inY w k j) D = ctF (fun j => sgF w S j && !inY w k j) D by omega]
        unfold moP moF
        by_cases h : ctF (fun j => sgF w S j && inY w k j) D < ctF (fun j => sgF w S j && !inY w k j) D
        · rw [if_pos h, if_pos (nI_lt h (by omega))]
        · rw [if_neg h, if_neg (nI_nlt (by omega) (by omega))]
      dsimp only
      unfold F_X4_bestLook_l29
      rw [if_neg (nI_nlt (by omega) (by omega)), vc_g c2 hn, iA, toI_i, Option.bind_some]
      dsimp only
      rw [st_and, v_bit, toI_i, Option.bind_some, st_bc _ hd]
      dsimp only
      rw [show (fun j => sgF w S j && decide (¬ w (17 + j) ≤ nI k)) = (fun j => sgF w S j && inY w k j) from rfl, hmo, nI_add, if_neg (Nat.succ_ne_zero k), if_neg (Nat.succ_ne_zero k), Nat.add_sub_cancel]
      by_cases hk0 : k = 0
      · subst hk0
        have hml := moF_le w S D 0
        have hle : ¬ nI (ctF (sgF w S) D + 1) ≤ moP w S D 0 := nI_ge (show moF w S D 0 < ctF (sgF w S) D + 1 by omega) (by omega)
        rw [if_pos rfl, if_neg hle, if_neg hle]
        rfl
      · obtain ⟨q, rfl⟩ : ∃ q, k = q + 1 := ⟨k - 1, by omega⟩
        rw [if_neg hk0, if_neg hk0, Nat.add_sub_cancel, mnF_s]
        by_cases h : (mnF (moP w S D) q).2 ≤ moP w S D (q + 1)
        · rw [if_pos h, if_pos h, if_pos h]
        · rw [if_neg h, if_neg h, if_neg h]
    · dsimp only
      unfold F_X4_bestLook_l29
      rw [if_pos (by decide)]
      rfl
theorem v_mLook (hS : St n T R) (hw : Wf (I 71) V F D S N) (h0 : ¬ stN (sgF (I 71) S) D = 0) {a1 : Int32} : lupF (fun (q : Int32 × Int32 × Int32 × mH) => F_X11_look_l36 O (d + 1) 69 a1 (nI (stN (sgF (I 71) S) D)) q.1 q.2.1 q.2.2.1 q.2.2.2) FU (100000000, -1, nI 0, hp u n T I J R) = some ((mnF (moP (I 71) S D) 99).2, (mnF (moP (I 71) S D) 99).1, hp u n T I J R) := by
  have h8 := hw.1
  have hd : D ≤ 8 := by omega
  have w2 : I 71 2 = nI D := hw.2.1.2.2.1
  have hcl := ctF_le (sgF (I 71) S) D
  refine lup_0 (fun k => (if k = 0 then 100000000 else (mnF (moP (I 71) S D) (k - 1)).2, if k = 0 then -1 else (mnF (moP (I 71) S D) (k - 1)).1, nI k, hp u n T I J R)) (N := 100) (by omega) rfl ?_ ?_
  · intro k hk
    have hsp := ctF_split (sgF (I 71) S) (inY (I 71) k) D
    dsimp only
    unfold F_X11_look_l36
    rw [if_neg (nI_nlt (by omega) (by omega))]
    refine lup_b (fun j => (nI (ctF (fun j => sgF (I 71) S j && !inY (I 71) k j) j), nI j, hp u n T I J R)) (nI (ctF (fun j => sgF (I 71) S j && !inY (I 71) k j) D), hp u n T I J R) D (by omega) rfl ?_ ?_ ?_
    · intro j hj
      have hct := ctF_le (fun j => sgF (I 71) S j && !inY (I 71) k j) j
      dsimp only
      unfold F_X11_look_l49 F_X11_look_j83
      rw [ga_69_3 hS, Option.bind_some, rd_71 hS (by omega), Option.bind_some, w2, if_neg (nI_ge hj (by omega)), v_is, toI_i, Option.bind_some, is_st _ hd hj]
      dsimp only
      cases hs : sgF (I 71) S j with
      | false =>
        rw [if_pos (show bI false = 0 from rfl), nI_add, nI_add]
        show _ = some (Sum.inl (nI (ctF (fun j => sgF (I 71) S j && !inY (I 71) k j) j + (if (sgF (I 71) S j && !inY (I 71) k j) = true then 1 else 0)), _))
        rw [hs, Bool.false_and, if_neg (by decide)]
      | true =>
        rw [if_neg (show ¬ bI true = 0 by decide), vc_69 hS, v_outIn hS (by omega), toI_i, Option.bind_some]
        dsimp only
        show _ = some (Sum.inl (nI (ctF (fun j => sgF (I 71) S j && !inY (I 71) k j) j + (if (sgF (I 71) S j && !inY (I 71) k j) = true then 1 else 0)), _))
        rw [hs, Bool.true_and, nI_add]
        unfold inY
        by_cases h : nI k < I 71 (17 + j)
        · rw [if_pos h, nI_add, decide_eq_true (Int32.not_le.mpr h), if_neg (by decide)]
        · rw [if_neg h, nI_add, decide_eq_false (fun z => z (Int32.not_lt.mp h)), if_pos (show (!false) = true from rfl)]
    · dsimp only
      unfold F_X11_look_l49
      rw [ga_69_3 hS, Option.bind_some, rd_71 hS (by omega), Option.bind_some, w2, if_pos (nI_le (Nat.le_refl D) (by omega))]
    · dsimp only
      rw [v_ones, toI_i, Option.bind_some, st_on _ hd]
      dsimp only
      rw [nI_sub (by omega), show ctF (sgF (I 71) S) D - ctF (fun j => sgF (I 71) S j && !inY (I 71) k j) D = ctF (fun j => sgF (I 71) S j && inY (I 71) k j) D by omega]
      have fin : ∀ x : Int32, x = moP (I 71) S D k → F_X11_look_j116 O (d + 1) 69 a1 (nI (stN (sgF (I 71) S) D)) (if k = 0 then 100000000 else (mnF (moP (I 71) S D) (k - 1)).2) (if k = 0 then -1 else (mnF (moP (I 71) S D) (k - 1)).1) (nI k) x (hp u n T I J R) = some (Sum.inl (if k + 1 = 0 then 100000000 else (mnF (moP (I 71) S D) (k + 1 - 1)).2, if k + 1 = 0 then -1 else (mnF (moP (I 71) S D) (k + 1 - 1)).1, nI (k + 1), hp u n T I J R)) := by
        intro x hx
        unfold F_X11_look_j116
        rw [hx, nI_add, if_neg (Nat.succ_ne_zero k), if_neg (Nat.succ_ne_zero k), Nat.add_sub_cancel]
        by_cases hk0 : k = 0
        · subst hk0
          have hml := moF_le (I 71) S D 0
          have hle : ¬ (100000000 : Int32) ≤ moP (I 71) S D 0 := by
            rw [show (100000000 : Int32) = nI 100000000 by decide +kernel]
            exact nI_ge (show moF (I 71) S D 0 < 100000000 by omega) (by omega)
          rw [if_pos rfl, if_pos rfl, if_neg hle, if_neg hle]
          rfl
        · obtain ⟨q, rfl⟩ : ∃ q, k = q + 1 := ⟨k - 1, by omega⟩
          rw [if_neg hk0, if_neg hk0, Nat.add_sub_cancel, mnF_s]
          by_cases h : (mnF (moP (I 71) S D) q).2 ≤ moP (I 71) S D (q + 1)
          · rw [if_pos h, if_pos h, if_pos h]
          · rw [if_neg h, if_neg h, if_neg h]
      by_cases h : ctF (fun j => sgF (I 71) S j && !inY (I 71) k j) D ≤ ctF (fun j => sgF (I 71) S j && inY (I 71) k j) D
      · rw [if_pos (nI_le h (by omega)), v_ones, toI_i, Option.bind_some, st_on _ hd]
        dsimp only
        rw [nI_sub (by omega), show ctF (sgF (I 71) S) D - ctF (fun j => sgF (I 71) S j && !inY (I 71) k j) D = ctF (fun j => sgF (I 71) S j && inY (I 71) k j) D by omega]
        exact fin _ (by unfold moP moF; rw [if_neg (by omega)])
      · rw [if_neg (nI_ge (by omega) (by omega))]
        exact fin _ (by unfold moP moF; rw [if_pos (by omega)])
  · dsimp only
    unfold F_X11_look_l36
    rw [if_pos (by decide)]
    rfl
theorem b_look {a1 : Int32} (hI : Inv c K) : Bo O Inv MX10_look MX11_look [.int a1] c K := by
  obtain ⟨u, n, T, I, J, R, g, h, V, F, D, S, N, x, s, rfl, hI⟩ := hI
  obtain ⟨hS, hn, gg, hh, hG, hH, hw, hgd, hg⟩ := Iv_all hI
  obtain ⟨⟨v5, f4, d8, s8, n6⟩, ⟨w0, w1, w2, w3, w4⟩, hf, hs, hfam, hwi, hsn, hlw⟩ := hw
  obtain ⟨⟨c1, c2, c3, c4, c5, c6, c7, c8, c9, c10, c11, c12⟩, q1, q2, q3, q4, q5, q6, q7, q8, q9, q10, q11, ql⟩ := hgd
  obtain ⟨⟨b1, b2, b3, b4, b5⟩, b6, b7, b8, b9, b10⟩ := hI.2.2.2.2.2.2.2.1
  have hJ := hI.2.2.2.2.2.2.2.2.2
  have hu := hI.2.2.2.2.1
  have hw := hI.2.2.1
  have hgd := hI.2.2.2.1
  have e71 : up2 I 69 0 (nI 0) 71 = I 71 := up2_off _ _ _ (by decide)
  have ms := v_mStr (O := O) (d := 197) (u := u) (J := J) (I := up2 I 69 0 (nI 0)) hS (by rw [e71]; exact hw)
  rw [e71] at ms
  have hlt := stN_lt (sgF (I 71) S) D
  have hpw := pow_lt d8
  rcases arg_0 a1 (hi := 1) (by decide) with ⟨o, ho, rfl⟩ | ⟨hb, hb2⟩
  · refine Bo_i (u1 := u) (a := lkA (I 71) S D (nI o)) (J1 := J) (J2 := J) (e_X10_look (d := 199) (K0 := hp u n T I J R) ?_) hS (e_X11_look (d := 199) ?_) (Iv_thr hI (nI 0)).e
    · unfold F_X10_look
      rw [if_neg (nI_pos (by omega)), if_pos (nI_le ho (by omega)), ga_0_1 hS, Option.bind_some, gg, Option.bind_some, vc_7 hS, v_cLook (d := 197) hS hgd hw]
      rfl
    · unfold F_X11_look
      rw [pi_69_0 hS, Option.bind_some, vc_69 hS, ms, toI_i, Option.bind_some]
      dsimp only
      rw [v_in_0_1, rg_t (Nat.zero_le o) ho (by decide), toI_i, Option.bind_some]
      dsimp only
      rw [if_neg (show ¬ bI true = 0 by decide)]
      unfold lkA
      by_cases h0 : stN (sgF (I 71) S) D = 0
      · rw [if_pos (by rw [h0]; rfl), if_pos h0]
      · have ml := v_mLook (O := O) (d := 198) (u := u) (J := J) (I := up2 I 69 0 (nI 0)) (D := D) (S := S) (a1 := nI o) hS (by rw [e71]; exact hw) (by rw [e71]; exact h0)
        rw [e71] at ml
        rw [if_neg (nI_ne0 (by omega) (by omega)), if_neg h0, ml]
        rfl
  · refine Bo_i (u1 := u) (a := -1) (J1 := J) (J2 := J) (e_X10_look (d := 199) (K0 := hp u n T I J R) ?_) hS (e_X11_look (d := 199) ?_) (Iv_thr hI (nI 0)).e
    · unfold F_X10_look
      rcases hb2 with z | ⟨z1, z2, z3⟩
      · rw [if_pos z]
      · rw [if_neg z1, if_neg z2]
    · unfold F_X11_look
      rw [pi_69_0 hS, Option.bind_some, vc_69 hS, ms, toI_i, Option.bind_some]
      dsimp only
      rw [v_in_0_1, hb]
      rfl
end LK
