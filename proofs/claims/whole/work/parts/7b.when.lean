/-! calls: when -/
theorem soR_cg {w w' : Nat → Int32} {lb : Nat} (ht : ∀ i, 110 ≤ i → w' i = w i) (hl : 110 ≤ lb) (S : Nat → Int64) (c : Nat) : soR w' lb S c = soR w lb S c := by
  unfold soR
  rw [teR_cg ht hl, ht _ (by omega), rkS_cg ht hl, nv_cg ht (by omega), nv_cg ht (by omega)]
theorem teF_cg {w w' : Nat → Int32} {lb : Nat} (ht : ∀ i, 110 ≤ i → w' i = w i) (hl : 110 ≤ lb) (S : Nat → Int64) (head : Int32) (x : Int64) : ∀ c, teF w' lb S head x c = teF w lb S head x c
  | 0 => rfl
  | c + 1 => by
    unfold teF
    rw [soR_cg ht hl, ht _ (by omega), teF_cg ht hl S head x c]
theorem telR_cg {w w' : Nat → Int32} (ht : ∀ i, 110 ≤ i → w' i = w i) (h5 : w' 5 = w 5) (S : Nat → Int64) (head : Int32) (x : Int64) : telR w' S head x = telR w S head x := by
  unfold telR nv
  rw [h5, ht _ (by omega), teF_cg ht (by omega)]
theorem wiF_le {v : Int64} {lo hi : Int32} (h : lo ≤ hi) : wiF v lo hi ≤ hi := by
  unfold wiF
  split
  · exact h
  · rename_i h1
    split
    · exact Int32.le_refl hi
    · rename_i h2
      have e1 : ¬ v.toInt < lo.toInt := by
        intro z
        apply h1
        rw [Int64.lt_iff_toInt_lt, Int32.toInt_toInt64]
        exact z
      have e2 : ¬ hi.toInt < v.toInt := by
        intro z
        apply h2
        rw [Int64.lt_iff_toInt_lt, Int32.toInt_toInt64]
        exact z
      have e3 := lo.le_toInt
      have e4 := hi.toInt_lt
      rw [Int32.le_iff_toInt_le]
      rw [show v = (Int64.ofInt v.toInt) from (Int64.ofInt_toInt v).symm]
      have : (Int64.ofInt v.toInt).toInt32.toInt = v.toInt := by
        rw [Int64.ofInt_toInt, Int64.toInt_toInt32]
        have : Int32.size = 4294967296 := rfl
        rw [Int.bmod_eq_of_le (by omega) (by omega)]
      rw [this]
      omega
/-- so many years on -/
def yrW (w : Nat → Int32) (k : Nat) (y : Int32) : Nat → Int32 := upK (upK w (17 + k) (w (17 + k) - y)) 6 (w 6 + y)
def pyF (w : Nat → Int32) (D k y : Nat) : Int32 := prR (yrW w k (nI y)) D k
/-- the cheapest year up to here, and its price -/
def mnF (p : Nat → Int32) : Nat → Int32 × Int32
  | 0 => (nI 0, p 0)
  | i + 1 => if (mnF p i).2 ≤ p (i + 1) then mnF p i else (nI (i + 1), p (i + 1))
section WH
variable {O : mO} {L : Nat} {xs : Nat → Int32} {c d u n : Nat} {T : Nat → mT} {I : Nat → Nat → Int32} {J : Nat → Nat → Int64} {R : Nat → Nat → Option Nat} {g V F D S N k t : Nat} {w : Nat → Int32} {K : mH}
theorem WR_y (hg : Gnd n T I R g w V F D S N) (hw : Wf w V F D S N) (hk : k < D) (y : Int32) : WR (wX (mvL (adF I g V D k F (w (9 + k))) y)) (sdW (yrW w k y) D k (w (9 + k))) := by
  have hv := Vo_w hw hk
  obtain ⟨⟨v5, f4, d8, s8, n6⟩, -, -, -, hfam, -⟩ := hw
  obtain ⟨⟨c1, c2, c3, c4, c5, c6, c7, c8, c9, c10, c11, c12⟩, q1, q2, q3, q4, q5, q6, q7, q8, q9, q10, q11, ql⟩ := hg
  obtain ⟨f, hf, ef⟩ := hfam k hk
  have y1 : ∀ j, j ≠ 6 → j ≠ 17 + k → yrW w k y j = w j := fun j h1 h2 => by
    unfold yrW
    rw [upK_ne h1, upK_ne h2]
  have efv : nv (yrW w k y) (42 + k) = f := by
    unfold nv
    rw [y1 _ (by omega) (by omega), ef, nI_clamp (by omega)]
  have me : meF I g F (I (g + 3) k) = w (33 + f) := by
    unfold meF
    rw [q5 k (by omega), ef, if_pos (inR_nI hf (by omega)), nI_clamp (by omega), q4 f (by omega)]
  have hget : ∀ j, j < 9 → wX (mvL (adF I g V D k F (w (9 + k))) y) (nI j) = (mvL (adF I g V D k F (w (9 + k))) y).getD j 0 := by
    intro j hj
    unfold wX
    rw [if_pos (inR_nI hj (by omega)), nI_clamp (by omega)]
  unfold WR
  rw [hget 0 (by decide), hget 1 (by decide), hget 2 (by decide), hget 3 (by decide), hget 4 (by decide), hget 5 (by decide), hget 6 (by decide), hget 7 (by decide), hget 8 (by decide)]
  have ec : cnt (I (g + 4)) (w (9 + k)) D = cnt (fun j => yrW w k y (9 + j)) (w (9 + k)) D := cnt_cg (fun j hj => by rw [q6 j (by omega), y1 _ (by omega) (by omega)])
  have y2 := q10 2 (by decide)
  have y0 := q10 0 (by decide)
  generalize hvv : w (9 + k) = v at *
  refine ⟨rfl, ?_, ?_, ?_, ?_, ?_, ?_, ?_, ?_⟩
  · show (yrW w k y (42 + k)).toInt64 = (I (g + 3) k).toInt64
    rw [q5 k (by omega), y1 _ (by omega) (by omega)]
  · show v.toInt64 = (if inR v V = true then v else -1).toInt64
    rcases hv with rfl | ⟨v', hv', rfl⟩
    · split <;> rfl
    · rw [if_pos (inR_nI hv' (by omega))]
  · show (yrW w k y (17 + k)).toInt64 = (I (g + 5) k - y).toInt64
    unfold yrW
    rw [upK_ne (by omega), upK_at, q7 k (by omega)]
  · show (yrW w k y (33 + nv (yrW w k y) (42 + k))).toInt64 = (meF I g F (I (g + 3) k)).toInt64
    rw [me, efv, y1 _ (by omega) (by omega)]
  · show (if v = -1 then (-1 : Int64) else (yrW w k y (37 + v.toNatClampNeg)).toInt64) = (if inR v V = true then I (g + 1) v.toNatClampNeg else -1).toInt64
    rcases hv with rfl | ⟨v', hv', rfl⟩
    · rw [if_pos rfl, if_neg (fun q => absurd (of_decide_eq_true q).1 (fun k => k (by decide)))]
      rfl
    · rw [if_neg (nI_ne1 (by omega)), if_pos (inR_nI hv' (by omega)), nI_clamp (by omega), q3 v' (by omega), y1 _ (by omega) (by omega)]
  · show (if v = -1 then (-1 : Int64) else (yrW w k y (37 + v.toNatClampNeg) - nI (cnt (fun j => yrW w k y (9 + j)) v D)).toInt64) = (if inR v V = true then I (g + 1) v.toNatClampNeg - nI (cnt (I (g + 4)) v D) else -1).toInt64
    rcases hv with rfl | ⟨v', hv', rfl⟩
    · rw [if_pos rfl, if_neg (fun q => absurd (of_decide_eq_true q).1 (fun k => k (by decide)))]
      rfl
    · rw [if_neg (nI_ne1 (by omega)), if_pos (inR_nI hv' (by omega)), nI_clamp (by omega), q3 v' (by omega), ec, y1 _ (by omega) (by omega)]
  · show (yrW w k y 6).toInt64 = (I (g + 9) 0 + y).toInt64
    unfold yrW
    rw [upK_at, y0]
  · show (yrW w k y 8).toInt64 = (I (g + 9) 2).toInt64
    rw [y2, y1 _ (by omega) (by omega)]
theorem v_cAfter {y : Nat} (hO : O = mOl L xs) (hG : Gnd n T I R g w V F D S N) (hw : Wf w V F D S N) (hn : n ≤ oB) (hk : k < D) : ∃ I', ev O (d + 3) MX2_pricedAfter [.ref g, .int (nI k), .int (nI y)] (hp u n T I J R) = some (some (.int (pyF w D k y)), hp u n T I' J R) ∧ SxC I I' := by
  have h8 := hw.1
  obtain ⟨r, K', h1, h2, I', h3, h4⟩ := Rn_ev (c_pricedAfter (d := d) (u := u) (J := J) (y := nI y) hO hG.1 (Lw_V hG hw) hn hk)
  refine ⟨I', ?_, h4⟩
  have e6 : I (g + 4) k = w (9 + k) := hG.2.2.2.2.2.2.1 k (by omega)
  have e9 : yrW w k (nI y) (9 + k) = w (9 + k) := by unfold yrW; (try simp (disch := omega) only [upK_at, upK_ne])
  rw [h1, h2, h3, e6, tdL_eq hG hw (WR_y hG hw hk (nI y)) (by decide)]
  unfold pyF prR
  rw [e9, telR_cg (w := w) (w' := yrW w k (nI y)) (fun i hi => by unfold yrW; (try simp (disch := omega) only [upK_at, upK_ne])) (by unfold yrW; (try simp (disch := omega) only [upK_at, upK_ne]))]
  rfl
theorem v_mPriceY {y : Nat} (hS : St n T R) (h20 : I 69 20 = nI 0) (hw : Wf w V F D S N) (hk : k < D) (h71 : I 71 = yrW w k (nI y)) : ∃ I' J', ev O (d + 5) MX11_pricedAt [.ref 69, .int (nI k)] (hp u n T I J R) = some (some (.int (pyF w D k y)), hp u n T I' J' R) ∧ SxM 69 I I' J J' := by
  obtain ⟨f, hf, ef⟩ := hw.2.2.2.2.1 k hk
  have h5 := hw.1
  have hL : MdL n T I R 69 D F := ⟨St_M hS, h20, by show I 71 2 = _; rw [h71]; unfold yrW; (try simp (disch := omega) only [upK_at, upK_ne]); exact hw.2.1.2.2.1, hw.1.2.2.1, by show I 71 1 = _; rw [h71]; unfold yrW; (try simp (disch := omega) only [upK_at, upK_ne]); exact hw.2.1.2.1, hw.1.2.1⟩
  have hc : FcM (I 71) := by
    rw [h71]
    rcases hw.2.2.1 with z | ⟨l, hl, z⟩
    · exact Or.inl (by unfold yrW; (try simp (disch := omega) only [upK_at, upK_ne]); exact z)
    · exact Or.inr ⟨l, by omega, by unfold yrW; (try simp (disch := omega) only [upK_at, upK_ne]); exact z, LwM_cg (fun i hi => by unfold yrW; (try simp (disch := omega) only [upK_at, upK_ne])) (by omega) (hw.2.2.2.2.2.2.2 l hl)⟩
  obtain ⟨r, K', h1, h2, I', J', h3, h4⟩ := Rn_ev (k_pricedAt (O := O) (d := d) (u := u) (J := J) (k := k) (f := f) hL hS.2.1 hc (by omega) (by omega) (by show I 71 (42 + k) = _; rw [h71]; unfold yrW; (try simp (disch := omega) only [upK_at, upK_ne]); exact ef) (by show VoK (I 71 (9 + k)); rw [h71]; unfold yrW; (try simp (disch := omega) only [upK_at, upK_ne]); exact Vo_K h5.1 (Vo_w hw hk)))
  refine ⟨I', J', ?_, h4⟩
  rw [h1, h2, h3]
  show some (some (Value.int (prR (I 71) D k)), _) = _
  rw [h71]
  rfl
theorem mnF_s (p : Nat → Int32) (i : Nat) : mnF p (i + 1) = if (mnF p i).2 ≤ p (i + 1) then mnF p i else (nI (i + 1), p (i + 1)) := rfl
theorem v_cCheap {o : Int32} (hO : O = mOl L xs) (hG : Gnd n T I R g w V F D S N) (hw : Wf w V F D S N) (hn : n ≤ oB) (hk : k < D) (ht : w (17 + k) = nI t) (h1t : 1 ≤ t) (ht99 : t ≤ 99) : ∃ I', ev O (d + 4) MX4_cheapestYear [.ref 7, .ref g, .int (nI k), .int o] (hp u n T I J R) = some (some (.int (if o = 0 then (mnF (pyF w D k) (t - 1)).1 else (mnF (pyF w D k) (t - 1)).2)), hp u n T I' J R) ∧ SxC I I' := by
  have h8 := hw.1
  obtain ⟨I0, e0, s0⟩ := v_cAfter (d := d) (u := u) (J := J) (y := 0) hO hG hw hn hk
  have LL : ∃ r, lupF (fun (q : Int32 × Int32 × Int32 × mH) => F_X4_cheapestYear_l14 O (d + 3) g (nI k) o q.1 q.2.1 q.2.2.1 q.2.2.2) FU (nI 0, pyF w D k 0, nI 1, hp u n T I0 J R) = some r ∧ (fun r => ∃ I', r = ((mnF (pyF w D k) (t - 1)).1, (mnF (pyF w D k) (t - 1)).2, hp u n T I' J R) ∧ SxC I I') r := by
    refine lup_P0 (fun i s => ∃ I', s = ((mnF (pyF w D k) i).1, (mnF (pyF w D k) i).2, nI (i + 1), hp u n T I' J R) ∧ SxC I I') _ (N := t - 1) (by omega) ⟨I0, rfl, s0⟩ ?_ ?_
    · intro i s hi ⟨I1, hs, hx⟩
      subst hs
      left
      have hG1 := Gnd_Sx hG hx
      obtain ⟨⟨c1, c2, c3, c4, c5, c6, c7, c8, c9, c10, c11, c12⟩, q1, q2, q3, q4, q5, q6, q7, -⟩ := id hG1
      obtain ⟨I2, e2, s2⟩ := v_cAfter (d := d) (u := u) (J := J) (y := i + 1) hO hG1 hw hn hk
      refine ⟨_, ?_, I2, rfl, hx.tr s2⟩
      dsimp only
      unfold F_X4_cheapestYear_l14
      simp (disch := first | assumption | omega) only [ga_g_1, ga_g_2, ga_g_3, ga_g_4, ga_g_5, ga_g_6, ga_g_7, ga_g_8, ga_g_9, ga_g_10, gi_g_11, pi_g_11, gi_g_12, pi_g_12, gi_g_13, pi_g_13, gi_g_14, pi_g_14, gi_g_15, pi_g_15, gi_g_16, pi_g_16, gi_g_17, pi_g_17, ga_g_0, vc_g, rd_g_1, wr_g_1, ln_g_1, rd_g_2, wr_g_2, ln_g_2, rd_g_3, wr_g_3, ln_g_3, rd_g_4, wr_g_4, ln_g_4, rd_g_5, wr_g_5, ln_g_5, rd_g_6, wr_g_6, ln_g_6, rd_g_7, wr_g_7, ln_g_7, rd_g_8, wr_g_8, ln_g_8, rd_g_9, wr_g_9, ln_g_9, rd_g_10, Option.bind_some, toI_i, toJ_j, toV_v, toR_r, up2_at, up2_na, up2_nk, up2_off, nI_add, nI_mul, nI_leI, nI_ltI, nI_eq, bI_eq0, q7 k (by omega), ht, e2]
      rw [if_neg (by omega), mnF_s]
      by_cases h : (mnF (pyF w D k) i).2 ≤ pyF w D k (i + 1)
      · rw [if_pos h, if_pos h, if_pos h]
      · rw [if_neg h, if_neg h, if_neg h]
    · intro s ⟨I1, hs, hx⟩
      subst hs
      have hG1 := Gnd_Sx hG hx
      obtain ⟨⟨c1, c2, c3, c4, c5, c6, c7, c8, c9, c10, c11, c12⟩, q1, q2, q3, q4, q5, q6, q7, -⟩ := id hG1
      refine ⟨_, ?_, I1, rfl, hx⟩
      dsimp only
      unfold F_X4_cheapestYear_l14
      simp (disch := first | assumption | omega) only [ga_g_1, ga_g_2, ga_g_3, ga_g_4, ga_g_5, ga_g_6, ga_g_7, ga_g_8, ga_g_9, ga_g_10, gi_g_11, pi_g_11, gi_g_12, pi_g_12, gi_g_13, pi_g_13, gi_g_14, pi_g_14, gi_g_15, pi_g_15, gi_g_16, pi_g_16, gi_g_17, pi_g_17, ga_g_0, vc_g, rd_g_1, wr_g_1, ln_g_1, rd_g_2, wr_g_2, ln_g_2, rd_g_3, wr_g_3, ln_g_3, rd_g_4, wr_g_4, ln_g_4, rd_g_5, wr_g_5, ln_g_5, rd_g_6, wr_g_6, ln_g_6, rd_g_7, wr_g_7, ln_g_7, rd_g_8, wr_g_8, ln_g_8, rd_g_9, wr_g_9, ln_g_9, rd_g_10, Option.bind_some, toI_i, toJ_j, toV_v, toR_r, up2_at, up2_na, up2_nk, up2_off, nI_add, nI_mul, nI_leI, nI_ltI, nI_eq, bI_eq0, q7 k (by omega), ht]
      rw [if_pos (by omega)]
  obtain ⟨r, e, I', h1, h2⟩ := LL
  refine ⟨I', ?_, h2⟩
  refine e_X4_cheapestYear (d := d + 3) ?_
  unfold F_X4_cheapestYear
  obtain ⟨⟨c1, c2, -⟩, -⟩ := id hG
  rw [vc_g c2 hn, e0, toI_i, Option.bind_some]
  dsimp only
  rw [e, h1]
  rfl
theorem v_mWhen {o : Int32} (hS : St n T R) (h20 : I 69 20 = nI 0) (hw : Wf (I 71) V F D S N) (hk : k < D) (ht : I 71 (17 + k) = nI t) (h1t : 1 ≤ t) (ht99 : t ≤ 99) : ∃ r, lupF (fun (q : Int32 × Int32 × Int32 × mH) => F_X11_when_l63 O (d + 5) 69 (nI k) o (nI t) (I 71 6) q.1 q.2.1 q.2.2.1 q.2.2.2) FU (100000000, -1, nI 0, hp u n T I J R) = some r ∧ (fun r => ∃ I' J', r = ((mnF (pyF (I 71) D k) (t - 1)).2, (mnF (pyF (I 71) D k) (t - 1)).1, hp u n T I' J' R) ∧ (∀ a, a ≠ 69 → a ≠ 71 → I' a = I a) ∧ (∀ j, j ≠ 6 → j ≠ 17 + k → I' 71 j = I 71 j) ∧ (∀ j, j ≠ 34 → j ≠ 38 → I' 69 j = I 69 j) ∧ MJx J J') r := by
  have h8 := hw.1
  refine lup_P0 (fun i s => ∃ I' J' a b, s = (a, b, nI i, hp u n T I' J' R) ∧ ((i = 0 ∧ a = 100000000) ∨ (1 ≤ i ∧ a = (mnF (pyF (I 71) D k) (i - 1)).2 ∧ b = (mnF (pyF (I 71) D k) (i - 1)).1)) ∧ (∀ a, a ≠ 69 → a ≠ 71 → I' a = I a) ∧ (∀ j, j ≠ 6 → j ≠ 17 + k → I' 71 j = I 71 j) ∧ (∀ j, j ≠ 34 → j ≠ 38 → I' 69 j = I 69 j) ∧ MJx J J') _ (N := t) (by omega) ⟨I, J, _, _, rfl, Or.inl ⟨rfl, rfl⟩, fun _ _ _ => rfl, fun _ _ _ => rfl, fun _ _ _ => rfl, MJx_r J⟩ ?_ ?_
  · intro i s hi ⟨I1, J1, a, b, hs, hab, m1, m2, m3, m4⟩
    subst hs
    left
    have e71 : up2 (up2 I1 71 (17 + k) (nI t - nI i)) 71 6 (I 71 6 + nI i) 71 = yrW (I 71) k (nI i) := by
      rw [up2_self, up2_self]
      unfold yrW
      funext j
      unfold upK
      by_cases h6 : j = 6
      · rw [if_pos h6, if_pos h6]
      · rw [if_neg h6, if_neg h6]
        by_cases h17 : j = 17 + k
        · rw [if_pos h17, if_pos h17, ht]
        · rw [if_neg h17, if_neg h17, m2 j h6 h17]
    obtain ⟨I2, J2, e2, s2⟩ := v_mPriceY (O := O) (d := d) (u := u) (J := J1) (I := up2 (up2 I1 71 (17 + k) (nI t - nI i)) 71 6 (I 71 6 + nI i)) (y := i) hS (by rw [up2_na (by decide), up2_na (by decide), m3 20 (by decide) (by decide)]; exact h20) hw hk e71
    refine ⟨((if a ≤ pyF (I 71) D k i then a else pyF (I 71) D k i), (if a ≤ pyF (I 71) D k i then b else nI i), nI (i + 1), hp u n T I2 J2 R), ?_, I2, J2, _, _, rfl, ?_, fun x h1 h2 => ?_, fun j h1 h2 => ?_, fun j h1 h2 => ?_, fun x hx => ?_⟩
    · dsimp only
      unfold F_X11_when_l63
      rw [if_neg (nI_ge hi (by omega))]
      simp (disch := first | assumption | omega) only [vc_69, gi_69_0, pi_69_0, gi_69_1, pi_69_1, ga_69_2, ga_69_3, ga_69_4, ga_69_5, ga_69_6, ga_69_7, gi_69_8, pi_69_8, ga_69_9, ga_69_10, gi_69_11, pi_69_11, ga_69_12, gi_69_13, pi_69_13, gi_69_14, pi_69_14, gi_69_15, pi_69_15, gi_69_16, pi_69_16, gj_69_17, pj_69_17, gi_69_18, pi_69_18, gi_69_19, pi_69_19, gi_69_20, pi_69_20, gi_69_21, pi_69_21, ga_69_22, gi_69_23, pi_69_23, ga_69_24, ga_69_25, gi_69_26, pi_69_26, ga_69_27, ga_69_28, gi_69_29, pi_69_29, gi_69_30, pi_69_30, ga_69_31, ga_69_32, ga_69_33, gi_69_34, pi_69_34, ga_69_35, ga_69_36, ga_69_37, gi_69_38, pi_69_38, gj_69_39, pj_69_39, gj_69_40, pj_69_40, ga_69_41, ga_69_42, ga_69_43, ga_69_44, ga_69_45, ga_69_46, ga_69_47, gi_69_48, pi_69_48, gi_69_49, pi_69_49, gi_69_50, pi_69_50, gi_69_51, pi_69_51, gj_69_52, pj_69_52, ga_69_53, gi_69_54, pi_69_54, gi_69_55, pi_69_55, rd_71, wr_71, ln_71, Option.bind_some, toI_i, toJ_j, toV_v, toR_r, up2_at, up2_na, up2_nk, up2_off, nI_add, nI_mul, nI_leI, nI_ltI, nI_eq, bI_eq0, e2]
    · right
      refine ⟨by omega, ?_⟩
      rcases hab with ⟨z1, z2⟩ | ⟨z1, z2, z3⟩
      · have hle : ¬ a ≤ pyF (I 71) D k i := by
          rw [z2]
          intro z
          have := Int32.le_trans z (show pyF (I 71) D k i ≤ nI 99 from wiF_le (by decide))
          exact absurd this (by decide)
        rw [if_neg hle, if_neg hle]
        subst z1
        exact ⟨rfl, rfl⟩
      · obtain ⟨q, rfl⟩ : ∃ q, i = q + 1 := ⟨i - 1, by omega⟩
        rw [z2, z3, show q + 1 - 1 = q by omega, show q + 1 + 1 - 1 = q + 1 by omega, mnF_s]
        by_cases h : (mnF (pyF (I 71) D k) q).2 ≤ pyF (I 71) D k (q + 1)
        · rw [if_pos h, if_pos h, if_pos h]
          exact ⟨rfl, rfl⟩
        · rw [if_neg h, if_neg h, if_neg h]
          exact ⟨rfl, rfl⟩
    · rw [s2.1 x h1, up2_off _ _ _ h2, up2_off _ _ _ h2]
      exact m1 x h1 h2
    · rw [s2.1 71 (by decide), up2_nk h1, up2_nk h2]
      exact m2 j h1 h2
    · rw [s2.2.1 j h1 h2, up2_na (by decide), up2_na (by decide)]
      exact m3 j h1 h2
    · rw [MJx_SxM s2 x hx]
      exact m4 x hx
  · intro s ⟨I1, J1, a, b, hs, hab, m1, m2, m3, m4⟩
    subst hs
    rcases hab with ⟨z1, z2⟩ | ⟨z1, z2, z3⟩
    · omega
    · refine ⟨_, ?_, I1, J1, rfl, m1, m2, m3, m4⟩
      dsimp only
      unfold F_X11_when_l63
      rw [if_pos (nI_le (Nat.le_refl t) (by omega)), z2, z3]
theorem b_when {a1 a2 : Int32} (hO : O = mOl L xs) (hI : Inv c K) : Bo O Inv MX10_when MX11_when [.int a1, .int a2] c K := by
  obtain ⟨u, n, T, I, J, R, g, h, V, F, D, S, N, x, s, rfl, hI⟩ := hI
  obtain ⟨hS, hn, gg, hh, hG, hH, hw, hgd, hg⟩ := Iv_all hI
  obtain ⟨⟨v5, f4, d8, s8, n6⟩, ⟨w0, w1, w2, w3, w4⟩, hf, hs, hfam, hwi, hsn, hlw⟩ := hw
  obtain ⟨⟨c1, c2, c3, c4, c5, c6, c7, c8, c9, c10, c11, c12⟩, q1, q2, q3, q4, q5, q6, q7, q8, q9, q10, q11, ql⟩ := hgd
  obtain ⟨⟨b1, b2, b3, b4, b5⟩, b6, b7, b8, b9, b10⟩ := hI.2.2.2.2.2.2.2.1
  have hJ := hI.2.2.2.2.2.2.2.2.2
  have hu := hI.2.2.2.2.1
  have hw := hI.2.2.1
  have hgd := hI.2.2.2.1
  have isI := v_cIsIn (O := O) (d := 198) (u := u) (I := I) (J := J) (v := a1) hG hn c9 c10
  have id := fun (I1 : Nat → Nat → Int32) (J1 : Nat → Nat → Int64) (e : I1 71 2 = nI D) => v_isDead (O := O) (d := 198) (u := u) (J := J1) (I := I1) (v := a1) hS e (by omega)
  have no : F_X10_when O 199 0 a1 a2 (hp u n T I J R) = some (-1, hp u n T I J R) → F_X11_when O 199 69 a1 a2 (hp u n T I J R) = some (-1, hp u n T (up2 I 69 0 (nI 0)) J R) → Bo O Inv MX10_when MX11_when [.int a1, .int a2] c (hp u n T I J R) := fun h1 h2 => Bo_i (u1 := u) (J1 := J) (J2 := J) (e_X10_when (d := 199) h1) hS (e_X11_when (d := 199) h2) (Iv_thr hI (nI 0)).e
  cases hb : inR a1 D with
  | false =>
    rw [hb, Bool.false_and] at isI
    refine no ?_ ?_
    · unfold F_X10_when
      rw [gg, Option.bind_some, vc_g hG hn, isI]
      rfl
    · unfold F_X11_when
      rw [pi_69_0 hS, Option.bind_some, vc_69 hS, id _ _ (by (try simp (disch := omega) only [up2_at, up2_na, up2_nk, up2_off]); exact w2), hb]
      rfl
  | true =>
    obtain ⟨k, hk, rfl⟩ := inR_ex hb (by omega)
    rw [hb, Bool.true_and, nI_clamp (by omega), q6 k (by omega)] at isI
    rcases arg_0 a2 (hi := 1) (by decide) with ⟨o, ho, rfl⟩ | ⟨hb5, hb2⟩
    · rcases hs.2.2.2.1 k hk with ⟨z1, z2⟩ | ⟨v, t, z1, z2, z3, z4, z5⟩
      · rw [decide_eq_false (fun z => z z1)] at isI
        refine no ?_ ?_
        · unfold F_X10_when
          rw [gg, Option.bind_some, vc_g hG hn, isI]
          rfl
        · unfold F_X11_when
          rw [pi_69_0 hS, Option.bind_some, vc_69 hS, id _ _ (by (try simp (disch := omega) only [up2_at, up2_na, up2_nk, up2_off]); exact w2), hb, toI_i, Option.bind_some]
          dsimp only
          rw [if_neg (show ¬ bI true = 0 by decide), v_in_0_1, rg_t (Nat.zero_le o) ho (by decide), toI_i, Option.bind_some]
          dsimp only
          rw [if_neg (show ¬ bI true = 0 by decide), vc_69 hS, v_isIn hS (by omega), up2_na (by decide), decide_eq_false (fun z => z z1)]
          rfl
      · have hne : I 71 (9 + k) ≠ -1 := by rw [z4]; exact nI_ne1 (by omega)
        rw [decide_eq_true hne] at isI
        obtain ⟨I1, e1, s1⟩ := v_cCheap (d := 195) (u := u) (J := J) (o := nI o) hO hgd hw hn hk z5 z2 z3
        have e71' : I1 71 = I 71 := s1 71 (by decide) (by decide) (by decide)
        have e71 : up2 I1 69 0 (nI 0) 71 = I 71 := by rw [up2_off _ _ _ (by decide), e71']
        obtain ⟨r2, e2, I2, J2, rfl, m1, m2, m3, m4⟩ := v_mWhen (O := O) (d := 194) (u := u) (J := J) (I := up2 I1 69 0 (nI 0)) (o := nI o) hS (by rw [up2_nk (by decide), s1 69 (by decide) (by decide) (by decide)]; exact b5) (by rw [e71]; exact hw) hk (by rw [e71]; exact z5) z2 z3
        rw [e71] at e2 m2
        refine Bo_rd (a := if nI o = 0 then (mnF (pyF (I 71) D k) (t - 1)).1 else (mnF (pyF (I 71) D k) (t - 1)).2) (I2 := up2 (up2 I2 71 (17 + k) (nI t)) 71 6 (I 71 6)) hI (e_X10_when (d := 199) ?_) (CSx_SxC hg s1) (MJx_r J) (e_X11_when (d := 199) ?_) ?_ m4
        · unfold F_X10_when
          rw [gg, Option.bind_some, vc_g hG hn, isI, toI_i, Option.bind_some]
          dsimp only
          rw [if_neg (show ¬ bI true = 0 by decide), if_neg (nI_pos (by omega)), if_pos (nI_le ho (by omega)), ga_0_1 hS, Option.bind_some, gg, Option.bind_some, vc_7 hS, e1]
          rfl
        · unfold F_X11_when
          rw [pi_69_0 hS, Option.bind_some, vc_69 hS, id _ _ (by rw [e71]; exact w2), hb, toI_i, Option.bind_some]
          dsimp only
          rw [if_neg (show ¬ bI true = 0 by decide), v_in_0_1, rg_t (Nat.zero_le o) ho (by decide), toI_i, Option.bind_some]
          dsimp only
          rw [if_neg (show ¬ bI true = 0 by decide), vc_69 hS, v_isIn hS (by omega), e71, decide_eq_true hne, toI_i, Option.bind_some]
          dsimp only
          rw [if_neg (show ¬ bI true = 0 by decide)]
          simp (disch := first | assumption | omega) only [vc_69, gi_69_0, pi_69_0, gi_69_1, pi_69_1, ga_69_2, ga_69_3, ga_69_4, ga_69_5, ga_69_6, ga_69_7, gi_69_8, pi_69_8, ga_69_9, ga_69_10, gi_69_11, pi_69_11, ga_69_12, gi_69_13, pi_69_13, gi_69_14, pi_69_14, gi_69_15, pi_69_15, gi_69_16, pi_69_16, gj_69_17, pj_69_17, gi_69_18, pi_69_18, gi_69_19, pi_69_19, gi_69_20, pi_69_20, gi_69_21, pi_69_21, ga_69_22, gi_69_23, pi_69_23, ga_69_24, ga_69_25, gi_69_26, pi_69_26, ga_69_27, ga_69_28, gi_69_29, pi_69_29, gi_69_30, pi_69_30, ga_69_31, ga_69_32, ga_69_33, gi_69_34, pi_69_34, ga_69_35, ga_69_36, ga_69_37, gi_69_38, pi_69_38, gj_69_39, pj_69_39, gj_69_40, pj_69_40, ga_69_41, ga_69_42, ga_69_43, ga_69_44, ga_69_45, ga_69_46, ga_69_47, gi_69_48, pi_69_48, gi_69_49, pi_69_49, gi_69_50, pi_69_50, gi_69_51, pi_69_51, gj_69_52, pj_69_52, ga_69_53, gi_69_54, pi_69_54, gi_69_55, pi_69_55, rd_71, wr_71, ln_71, Option.bind_some, toI_i, toJ_j, toV_v, toR_r, up2_at, up2_na, up2_nk, up2_off, nI_add, nI_mul, nI_leI, nI_ltI, nI_eq, bI_eq0, e71', z5, e2]
        · refine ⟨fun a ha hb => ?_, fun j hj => ?_⟩
          · by_cases e : a = 71
            · subst e
              rw [up2_self, up2_self, e71']
              funext j
              unfold upK
              by_cases h6 : j = 6
              · rw [if_pos h6, h6]
              · rw [if_neg h6]
                by_cases h17 : j = 17 + k
                · rw [if_pos h17, h17, z5]
                · rw [if_neg h17]
                  exact m2 j h6 h17
            · rw [up2_off _ _ _ e, up2_off _ _ _ e, m1 a ha e, up2_off _ _ _ ha]
          · rw [up2_na (by decide), up2_na (by decide), m3 j (by omega) (by omega), up2_nk (by omega)]
    · refine no ?_ ?_
      · unfold F_X10_when
        rw [gg, Option.bind_some, vc_g hG hn, isI, toI_i, Option.bind_some]
        dsimp only
        rcases hb2 with z | ⟨z1, z2, z3⟩
        · rw [if_pos z]
          split <;> rfl
        · rw [if_neg z1, if_neg z2]
          split <;> rfl
      · unfold F_X11_when
        rw [pi_69_0 hS, Option.bind_some, vc_69 hS, id _ _ (by (try simp (disch := omega) only [up2_at, up2_na, up2_nk, up2_off]); exact w2), hb, toI_i, Option.bind_some]
        dsimp only
        rw [if_neg (show ¬ bI true = 0 by decide), v_in_0_1, hb5]
        rfl
end WH
