/-! acts: lodge -/
section LO
variable {O : mO} {L : Nat} {xs : Nat → Int32} {c d u n : Nat} {T : Nat → mT} {I : Nat → Nat → Int32} {J : Nat → Nat → Int64} {R : Nat → Nat → Option Nat} {g h V F D S N x s k v : Nat} {w w' : Nat → Int32} {K : mH} {ret : Int32}
theorem ga_g0 (hG : Gnd n T I R g w V F D S N) (hn : n ≤ oB) (u : Nat) (I' : Nat → Nat → Int32) (J : Nat → Nat → Int64) : gtA (hp u n T I' J R) g 2 0 = some 30 := gtA_hp hG.1.2.1.1.1 rfl (by have := hG.1.2.1.1.2; omega) hn hG.1.2.2.2.1
theorem v_askD {v : Int32} (hG : Gnd n T I R g w V F D S N) (hn : n ≤ oB) (hk : k < D) : ∃ I1, ev O (d + 2) MX0_askOfDead [.ref 30, .ref g, .int (nI k), .int v] (hp u n T I J R) = some (none, hp u n T I1 J R) ∧ SxC I I1 ∧ wdF (I1 31) 9 = wX (adF I g V D k F v) := by
  obtain ⟨r, K', h1, h2, b, h3⟩ := Rn_ev (c_askD (O := O) (d := d) (u := u) (J := J) (v := v) hG.1 hn hk)
  exact ⟨_, by rw [h1, h2, h3], SxC_up, wX_up⟩
theorem v_askF {f : Int32} (hG : Gnd n T I R g w V F D S N) (hn : n ≤ oB) : ∃ I1, ev O (d + 1) MX0_askOfFamily [.ref 30, .ref g, .int f] (hp u n T I J R) = some (none, hp u n T I1 J R) ∧ SxC I I1 ∧ wdF (I1 31) 9 = wX (afL I g F f) := by
  obtain ⟨r, K', h1, h2, b, h3⟩ := Rn_ev (c_askF (O := O) (d := d) (u := u) (J := J) (f := f) hG.1 hn)
  exact ⟨_, by rw [h1, h2, h3], SxC_up, wX_up⟩
theorem v_toldX {kd : Nat} {I1 : Nat → Nat → Int32} {X : Int32 → Int32} (hO : O = mOl L xs) (hG : Gnd n T I R g w V F D S N) (hw : Wf w V F D S N) (hn : n ≤ oB) (hk : kd < 3) (h1 : SxC I I1) (hX : wdF (I1 31) 9 = X) : ∃ I2, ev O (d + 2) MX0_told [.ref 30, va_rf (lpF I R g N), .int (nI kd)] (hp u n T I1 J R) = some (some (.int (tdL I (lpF I R g N) X kd)), hp u n T I2 J R) ∧ SxC I I2 ∧ wdF (I2 31) 9 = X := by
  obtain ⟨r, K', e1, e2, I2, e3, e4, e5⟩ := Rn_ev (c_toldX (d := d) (u := u) (J := J) (kd := kd) hO hG.1.1 (Lw_V hG hw) hn hk h1 hX)
  exact ⟨I2, by rw [e1, e2, e3], e4, e5⟩
theorem v_barsX {I1 : Nat → Nat → Int32} {X : Int32 → Int32} (hG : Gnd n T I R g w V F D S N) (hw : Wf w V F D S N) (hn : n ≤ oB) (h1 : SxC I I1) (hX : wdF (I1 31) 9 = X) : ∃ I2, ev O (d + 2) MX0_bars [.ref 30, va_rf (lpF I R g N)] (hp u n T I1 J R) = some (some (.int (bI (brL I (lpF I R g N) X))), hp u n T I2 J R) ∧ SxC I I2 := by
  obtain ⟨r, K', e1, e2, I2, e3, e4⟩ := Rn_ev (c_barsX (O := O) (d := d) (u := u) (J := J) hG.1.1 (Lw_V hG hw) hn h1 hX)
  exact ⟨I2, by rw [e1, e2, e3], e4⟩
theorem v_forceX {I1 : Nat → Nat → Int32} (hG : Gnd n T I R g w V F D S N) (hn : n ≤ oB) (h1 : SxC I I1) : ev O (d + 2) MX2_inForce [.ref g] (hp u n T I1 J R) = some (some (va_rf (lpF I R g N)), hp u n T I1 J R) := evr (c_inF hG.1 hn h1)
theorem cnt_1 {w w' : Nat → Int32} {v : Int32} {k : Nat} (hv : w' k = v) (hv' : w k ≠ v) : ∀ {D : Nat}, (∀ j, j < D → j ≠ k → w' j = w j) → cnt w' v D = cnt w v D + (if k < D then 1 else 0)
  | 0, _ => rfl
  | D + 1, h => by
    rw [cnt_s, cnt_s, cnt_1 hv hv' (fun j hj hne => h j (by omega) hne)]
    by_cases e : D = k
    · subst e
      rw [if_pos hv, if_neg hv', if_neg (by omega), if_pos (by omega)]
    · rw [h D (by omega) e]
      by_cases e1 : k < D
      · rw [if_pos e1, if_pos (show k < D + 1 by omega)]
        split <;> omega
      · rw [if_neg e1, if_neg (show ¬ k < D + 1 by omega)]
        simp only [Nat.add_zero]
theorem cnt_2 {w w' : Nat → Int32} {v : Int32} {k : Nat} (hv : w' k ≠ v) : ∀ {D : Nat}, (∀ j, j < D → j ≠ k → w' j = w j) → cnt w' v D ≤ cnt w v D
  | 0, _ => Nat.le_refl 0
  | D + 1, h => by
    have ih := cnt_2 (w := w) hv (D := D) (fun j hj hne => h j (by omega) hne)
    rw [cnt_s, cnt_s]
    by_cases e : D = k
    · subst e
      rw [if_neg hv]
      split <;> omega
    · rw [h D (by omega) e]
      split <;> omega
theorem Wf_bd (hw : Wf w V F D S N) (hv : v < V) : ∃ b, w (37 + v) = nI b ∧ 1 ≤ b ∧ b ≤ 3 ∧ cnt (fun j => w (9 + j)) (nI v) D ≤ b := hw.2.2.2.1.2.2.2.2.2.2 v hv
def loOk (w : Nat → Int32) (D k v : Nat) : Bool := decide (w (9 + k) ≠ nI v) && (decide (cnt (fun j => w (9 + j)) (nI v) D < nv w (37 + v)) && !(baR w D k (nI v)))
def loT (w : Nat → Int32) (k : Nat) : Int32 := if w (9 + k) = -1 then nI 1 else w (17 + k)
def loW (w : Nat → Int32) (k v : Nat) : Nat → Int32 := upK (upK w (17 + k) (loT w k)) (9 + k) (nI v)
def loR (w : Nat → Int32) (D v : Nat) : Nat := nv w (37 + v) - (cnt (fun j => w (9 + j)) (nI v) D + 1)
theorem loOk_t (ho : loOk w D k v = true) : w (9 + k) ≠ nI v ∧ cnt (fun j => w (9 + j)) (nI v) D < nv w (37 + v) ∧ baR w D k (nI v) = false := by
  unfold loOk at ho
  rw [Bool.and_eq_true, Bool.and_eq_true] at ho
  exact ⟨of_decide_eq_true ho.1, of_decide_eq_true ho.2.1, by have := ho.2.2; revert this; cases baR w D k (nI v) <;> simp⟩
theorem cnt_lo (hk : k < D) (h8 : D ≤ 8) (hne : w (9 + k) ≠ nI v) : cnt (fun j => loW w k v (9 + j)) (nI v) D = cnt (fun j => w (9 + j)) (nI v) D + 1 := by
  rw [cnt_1 (w := fun j => w (9 + j)) (w' := fun j => loW w k v (9 + j)) (k := k) (upK_at _ _ _) hne (fun j hj hn => by unfold loW; rw [upK_ne (by omega), upK_ne (by omega)]), if_pos hk]
theorem Wf_loW (hw : Wf w V F D S N) (hk : k < D) (hv : v < V) (ho : loOk w D k v = true) : Wf (loW w k v) V F D S N ∧ Kp w (loW w k v) := by
  have h8 := hw.1
  obtain ⟨hne, hc, -⟩ := loOk_t ho
  obtain ⟨a1, a2, a3, a4, a5, a6, a7⟩ := hw.2.2.2.1
  refine ⟨Wf_S hw (z := loW w k v) ⟨?_, ?_, ?_, fun j hj => ?_, fun j hj => ?_, fun j hj => ?_, fun v' hv' => ?_⟩ (fun _ _ _ => rfl) (fun i hi => ?_), fun i hi => ?_⟩
  · unfold loW; (try simp (disch := omega) only [upK_at, upK_ne]); exact a1
  · unfold loW; (try simp (disch := omega) only [upK_at, upK_ne]); exact a2
  · unfold loW; (try simp (disch := omega) only [upK_at, upK_ne]); exact a3
  · unfold loW
    by_cases e : j = k
    · subst e
      right
      rw [upK_at, upK_ne (by omega), upK_at]
      unfold loT
      by_cases hi : w (9 + j) = -1
      · rw [if_pos hi]
        exact ⟨v, 1, hv, Nat.le_refl 1, by decide, rfl, rfl⟩
      · rw [if_neg hi]
        obtain ⟨v2, t, h1, h2, h3, h4, h5⟩ := Wf_in hw hk hi
        exact ⟨v, t, hv, h2, h3, rfl, h5⟩
    · rw [upK_ne (show 9 + j ≠ 9 + k by omega), upK_ne (show 9 + j ≠ 17 + k by omega), upK_ne (show 17 + j ≠ 9 + k by omega), upK_ne (show 17 + j ≠ 17 + k by omega)]
      exact a4 j hj
  · unfold loW; (try simp (disch := omega) only [upK_at, upK_ne]); exact a5 j hj
  · unfold loW; (try simp (disch := omega) only [upK_at, upK_ne]); exact a6 j hj
  · obtain ⟨b, e1, e2, e3, e4⟩ := a7 v' hv'
    refine ⟨b, e1, e2, e3, ?_⟩
    by_cases e : v' = v
    · subst e
      rw [nv_n e1 (by omega)] at hc
      rw [cnt_lo hk (by omega) hne]
      omega
    · refine Nat.le_trans (cnt_2 (w := fun j => w (9 + j)) (k := k) ?_ (fun j hj hn => by unfold loW; rw [upK_ne (by omega), upK_ne (by omega)])) e4
      unfold loW
      rw [upK_at]
      exact fun z => e ((nI_eq (by omega) (by omega)).mp z).symm
  · unfold loW; (try simp (disch := omega) only [upK_at, upK_ne])
  · unfold loW; (try simp (disch := omega) only [upK_at, upK_ne])
theorem c_lo (hS : St n T R) (hG : Gnd n T I R g w V F D S N) (hw : Wf w V F D S N) (hn : n ≤ oB) (h98 : g + 10 < 98) (hk : k < D) (hv : v < V) : ∃ I1, ev O (d + 3) MX2_lodgeIn [.ref g, .int (nI k), .int (nI v)] (hp u n T I J R) = some (some (.int (if loOk w D k v = true then nI (loR w D v) else -3)), hp u n T I1 J R) ∧ Gnd n T I1 R g (if loOk w D k v = true then loW w k v else w) V F D S N ∧ CAo g I I1 := by
  have h8 := hw.1
  obtain ⟨⟨c1, c2, c3, c4, c5, c6, c7, c8, c9, c10, c11, c12⟩, q1, q2, q3, q4, q5, q6, q7, q8, q9, q10, q11, ql⟩ := id hG
  obtain ⟨b, e1, e2, e3, e4⟩ := Wf_bd hw hv
  have eb : nv w (37 + v) = b := nv_n e1 (by omega)
  have hd := v_hasDead (O := O) (d := d + 2) (u := u) (J := J) (v := nI k) c2 hn c9
  rw [inR_nI hk (by omega)] at hd
  have hvv := v_hasVault (O := O) (d := d + 2) (u := u) (J := J) (v := nI v) c2 hn c5
  rw [inR_nI hv (by omega)] at hvv
  have fb := v_freeBeds (O := O) (d := d + 1) (u := u) (J := J) (v := nI v) c2 hn c5 c6 c9 c10
  rw [inR_nI hv (by omega), if_pos rfl, nI_clamp (by omega), q3 v (by omega), cnt_cg (w := fun j => w (9 + j)) (fun j hj => q6 j (by omega)), e1, nI_sub e4] at fb
  have start : ∀ y, (if w (9 + k) = nI v then some (-3, hp u n T I J R) else (toI (vc O (d + 2) 2 MX2_freeBeds g [.int (nI v)] (hp u n T I J R))).bind fun p8 => if nI 1 ≤ p8.1 then (gtA p8.2 g 2 0).bind fun x10 => (toV (vc O (d + 2) 0 MX0_askOfDead x10 [.ref g, .int (nI k), .int (nI v)] p8.2)).bind fun K11 => (gtA K11 g 2 0).bind fun x12 => (toR (vc O (d + 2) 2 MX2_inForce g [] K11)).bind fun p13 => (toI (vc O (d + 2) 0 MX0_bars x12 [va_rf p13.1] p13.2)).bind fun p14 => if p14.1 = 0 then (toI (vc O (d + 2) 2 MX2_isOut g [.int (nI k)] p14.2)).bind fun p16 => if p16.1 = 0 then F_X2_lodgeIn_j83 O (d + 2) g (nI k) (nI v) p16.2 else (gtA p16.2 g 2 5).bind fun x22 => (wrI p16.2 x22 (nI k) (nI 1)).bind fun K23 => F_X2_lodgeIn_j83 O (d + 2) g (nI k) (nI v) K23 else some (-3, p14.2) else some (-3, p8.2)) = y → F_X2_lodgeIn O (d + 2) g (nI k) (nI v) (hp u n T I J R) = y := by
    intro y hy
    unfold F_X2_lodgeIn
    rw [vc_g c2 hn, hd, toI_i, Option.bind_some, if_neg nbt, vc_g c2 hn, hvv, toI_i, Option.bind_some, if_neg nbt, ga_g_4 c2 hn, Option.bind_some]
    rw [show rdI O (hp u n T I J R) (g + 4) (nI k) = some (w (9 + k)) by simp (disch := first | assumption | omega) only [ga_g_1, ga_g_2, ga_g_3, ga_g_4, ga_g_5, ga_g_6, ga_g_7, ga_g_8, ga_g_9, ga_g_10, gi_g_11, pi_g_11, gi_g_12, pi_g_12, gi_g_13, pi_g_13, gi_g_14, pi_g_14, gi_g_15, pi_g_15, gi_g_16, pi_g_16, gi_g_17, pi_g_17, ga_g_0, vc_g, rd_g_1, wr_g_1, ln_g_1, rd_g_2, wr_g_2, ln_g_2, rd_g_3, wr_g_3, ln_g_3, rd_g_4, wr_g_4, ln_g_4, rd_g_5, wr_g_5, ln_g_5, rd_g_6, wr_g_6, ln_g_6, rd_g_7, wr_g_7, ln_g_7, rd_g_8, wr_g_8, ln_g_8, rd_g_9, wr_g_9, ln_g_9, rd_g_10, q6 k (by omega)], Option.bind_some]
    exact hy
  by_cases hsame : w (9 + k) = nI v
  · have ho : loOk w D k v = false := by unfold loOk; rw [decide_eq_false (fun z => z hsame)]; rfl
    refine ⟨I, e_X2_lodgeIn (d := d + 2) (start _ ?_), by rw [if_neg (by rw [ho]; decide)]; exact hG, fun _ _ _ _ _ => rfl⟩
    rw [if_pos hsame, ho]
    rfl
  by_cases hfr : cnt (fun j => w (9 + j)) (nI v) D < b
  · obtain ⟨I1, a1, a2, a3⟩ := v_askD (O := O) (d := d) (u := u) (J := J) (v := nI v) hG hn hk
    obtain ⟨I2, a4, a5⟩ := v_barsX (O := O) (d := d) (u := u) (J := J) hG hw hn a2 a3
    rw [brL_eq hG hw (WR_d hG hw hk (Or.inr ⟨v, hv, rfl⟩)), show decide (telR w (sdW w D k (nI v)) (nI 3) 0 = 1) = baR w D k (nI v) from rfl] at a4
    have hG2 := Gnd_Sx hG a5
    obtain ⟨⟨-, -, -, -, c5', -, c7', -, c9', -, c11', -⟩, q1', q2', q3', q4', q5', q6', q7', q8', q9', q10', q11', ql'⟩ := id hG2
    have isO := v_cIsOut (O := O) (d := d + 1) (u := u) (I := I2) (J := J) (v := nI k) c2 hn c9' c10
    rw [inR_nI hk (by omega), Bool.true_and, nI_clamp (by omega), q6' k (by omega)] at isO
    have le1 : nI 1 ≤ nI (b - cnt (fun j => w (9 + j)) (nI v) D) := nI_le (by omega) (by omega)
    have start2 : ∀ y, (if bI (baR w D k (nI v)) = 0 then (toI (vc O (d + 2) 2 MX2_isOut g [.int (nI k)] (hp u n T I2 J R))).bind fun p16 => if p16.1 = 0 then F_X2_lodgeIn_j83 O (d + 2) g (nI k) (nI v) p16.2 else (gtA p16.2 g 2 5).bind fun x22 => (wrI p16.2 x22 (nI k) (nI 1)).bind fun K23 => F_X2_lodgeIn_j83 O (d + 2) g (nI k) (nI v) K23 else some (-3, hp u n T I2 J R)) = y → F_X2_lodgeIn O (d + 2) g (nI k) (nI v) (hp u n T I J R) = y := by
      intro y hy
      apply start
      rw [if_neg hsame, vc_g c2 hn, fb, toI_i, Option.bind_some, if_pos le1, ga_g0 hG hn, Option.bind_some, vc_30 hS, a1, toV_v, Option.bind_some, ga_g0 hG hn, Option.bind_some, vc_g c2 hn, v_forceX hG hn a2, toR_r, Option.bind_some, vc_30 hS, a4, toI_i, Option.bind_some]
      exact hy
    cases hba : baR w D k (nI v) with
    | true =>
      have ho : loOk w D k v = false := by unfold loOk; rw [hba, Bool.not_true, Bool.and_false, Bool.and_false]
      refine ⟨I2, e_X2_lodgeIn (d := d + 2) (start2 _ ?_), by rw [if_neg (by rw [ho]; decide)]; exact hG2, CAo_Sx a5⟩
      rw [hba, if_neg nbt, ho]
      rfl
    | false =>
      have ho : loOk w D k v = true := by unfold loOk; rw [hba, eb, decide_eq_true hsame, decide_eq_true hfr]; rfl
      have fin : ∀ I3, I3 (g + 5) k = loT w k → (∀ j, j ≠ k → I3 (g + 5) j = I2 (g + 5) j) → (∀ a, a ≠ g + 5 → I3 a = I2 a) → F_X2_lodgeIn_j83 O (d + 2) g (nI k) (nI v) (hp u n T I3 J R) = some (nI (loR w D v), hp u n T (up2 I3 (g + 4) k (nI v)) J R) ∧ Gnd n T (up2 I3 (g + 4) k (nI v)) R g (loW w k v) V F D S N := by
        intro I3 z1 z2 z3
        have hG3 : Gnd n T (up2 I3 (g + 4) k (nI v)) R g (loW w k v) V F D S N := by
          refine Gnd_ch hG2 (fun j hj => by rw [up2_na (by omega), z3 g (by omega)]) (fun j hj => by rw [up2_off _ _ _ (by omega), z3 _ (by omega)]) (fun i hi => by unfold loW; (try simp (disch := omega) only [upK_at, upK_ne])) (fun j hj => by unfold loW; rw [up2_na (by omega), z3 _ (by omega)]; (try simp (disch := omega) only [upK_at, upK_ne]); exact q4' j hj) (fun j hj => ?_) (fun j hj => ?_) (fun j hj => by unfold loW; rw [up2_na (by omega), z3 _ (by omega)]; (try simp (disch := omega) only [upK_at, upK_ne]); exact q10' j hj) (fun j hj => by unfold loW; rw [up2_na (by omega), z3 _ (by omega)]; (try simp (disch := omega) only [upK_at, upK_ne]); exact q11' j hj) (fun a ha => by rw [up2_off _ _ _ (by omega), z3 a (by omega)])
          · unfold loW
            by_cases e : j = k
            · rw [e, up2_at, upK_at]
            · rw [up2_nk e, z3 _ (by omega), upK_ne (by omega), upK_ne (by omega)]
              exact q6' j hj
          · unfold loW
            by_cases e : j = k
            · rw [e, up2_na (by omega), z1, upK_ne (by omega), upK_at]
            · rw [up2_na (by omega), z2 j e, upK_ne (by omega), upK_ne (by omega)]
              exact q7' j hj
        refine ⟨?_, hG3⟩
        obtain ⟨⟨-, -, -, -, d5, -, d7, -, d9, -, d11, -⟩, r1, r2, r3, r4, r5, r6, -⟩ := id hG3
        have fb' := v_freeBeds (O := O) (d := d + 1) (u := u) (J := J) (v := nI v) c2 hn d5 c6 d9 c10
        rw [inR_nI hv (by omega), if_pos rfl, nI_clamp (by omega), r3 v (by omega), cnt_cg (w := fun j => loW w k v (9 + j)) (fun j hj => r6 j (by omega)), cnt_lo hk (by omega) hsame, show loW w k v (37 + v) = nI b by unfold loW; (try simp (disch := omega) only [upK_at, upK_ne]); exact e1, nI_sub (by omega), show b - (cnt (fun j => w (9 + j)) (nI v) D + 1) = loR w D v by unfold loR; rw [eb]] at fb'
        unfold F_X2_lodgeIn_j83
        rw [ga_g_4 c2 hn, Option.bind_some, show wrI (hp u n T I3 J R) (g + 4) (nI k) (nI v) = some (hp u n T (up2 I3 (g + 4) k (nI v)) J R) by simp (disch := first | assumption | omega) only [ga_g_1, ga_g_2, ga_g_3, ga_g_4, ga_g_5, ga_g_6, ga_g_7, ga_g_8, ga_g_9, ga_g_10, gi_g_11, pi_g_11, gi_g_12, pi_g_12, gi_g_13, pi_g_13, gi_g_14, pi_g_14, gi_g_15, pi_g_15, gi_g_16, pi_g_16, gi_g_17, pi_g_17, ga_g_0, vc_g, rd_g_1, wr_g_1, ln_g_1, rd_g_2, wr_g_2, ln_g_2, rd_g_3, wr_g_3, ln_g_3, rd_g_4, wr_g_4, ln_g_4, rd_g_5, wr_g_5, ln_g_5, rd_g_6, wr_g_6, ln_g_6, rd_g_7, wr_g_7, ln_g_7, rd_g_8, wr_g_8, ln_g_8, rd_g_9, wr_g_9, ln_g_9, rd_g_10], Option.bind_some, vc_g c2 hn, fb']
        rfl
      by_cases hi : w (9 + k) = -1
      · obtain ⟨f1, f2⟩ := fin (up2 I2 (g + 5) k (nI 1)) (by rw [up2_at]; unfold loT; rw [if_pos hi]) (fun j hj => up2_nk hj) (fun a ha => up2_off _ _ _ ha)
        refine ⟨_, e_X2_lodgeIn (d := d + 2) (start2 _ ?_), by rw [if_pos ho]; exact f2, fun a ha z1 z2 z3 => by rw [up2_off _ _ _ (by omega), up2_off _ _ _ (by omega)]; exact a5 a z1 z2 z3⟩
        rw [hba, if_pos (by rfl), vc_g c2 hn, isO, toI_i, Option.bind_some, decide_eq_true hi, if_neg nbt]
        rw [ga_g_5 c2 hn, Option.bind_some, show wrI (hp u n T I2 J R) (g + 5) (nI k) (nI 1) = some (hp u n T (up2 I2 (g + 5) k (nI 1)) J R) by simp (disch := first | assumption | omega) only [ga_g_1, ga_g_2, ga_g_3, ga_g_4, ga_g_5, ga_g_6, ga_g_7, ga_g_8, ga_g_9, ga_g_10, gi_g_11, pi_g_11, gi_g_12, pi_g_12, gi_g_13, pi_g_13, gi_g_14, pi_g_14, gi_g_15, pi_g_15, gi_g_16, pi_g_16, gi_g_17, pi_g_17, ga_g_0, vc_g, rd_g_1, wr_g_1, ln_g_1, rd_g_2, wr_g_2, ln_g_2, rd_g_3, wr_g_3, ln_g_3, rd_g_4, wr_g_4, ln_g_4, rd_g_5, wr_g_5, ln_g_5, rd_g_6, wr_g_6, ln_g_6, rd_g_7, wr_g_7, ln_g_7, rd_g_8, wr_g_8, ln_g_8, rd_g_9, wr_g_9, ln_g_9, rd_g_10], Option.bind_some, f1, if_pos ho]
      · obtain ⟨f1, f2⟩ := fin I2 (by unfold loT; rw [if_neg hi]; exact q7' k (by omega)) (fun j hj => rfl) (fun a ha => rfl)
        refine ⟨_, e_X2_lodgeIn (d := d + 2) (start2 _ ?_), by rw [if_pos ho]; exact f2, fun a ha z1 z2 z3 => by rw [up2_off _ _ _ (by omega)]; exact a5 a z1 z2 z3⟩
        rw [hba, if_pos (by rfl), vc_g c2 hn, isO, toI_i, Option.bind_some, decide_eq_false hi, if_pos (by rfl), f1, if_pos ho]
  · have ho : loOk w D k v = false := by unfold loOk; rw [eb, decide_eq_false hfr, Bool.false_and, Bool.and_false]
    refine ⟨I, e_X2_lodgeIn (d := d + 2) (start _ ?_), by rw [if_neg (by rw [ho]; decide)]; exact hG, fun _ _ _ _ _ => rfl⟩
    rw [if_neg hsame, vc_g c2 hn, fb, toI_i, Option.bind_some, show b - cnt (fun j => w (9 + j)) (nI v) D = 0 by omega, if_neg (show ¬ nI 1 ≤ nI 0 by decide), ho]
    rfl
/-- the reference -/
theorem m_canLo (hS : St n T R) (h20 : I 69 20 = nI 0) (hw : Wf (I 71) V F D S N) (hk : k < D) (hv : v < V) : ∃ I' J', ev O (d + 6) MX11_canLodge [.ref 69, .int (nI k), .int (nI v)] (hp u n T I J R) = some (some (.int (bI (loOk (I 71) D k v))), hp u n T I' J' R) ∧ SxM 69 I I' J J' := by
  have h8 := hw.1
  have w2 := hw.2.1.2.2.1
  obtain ⟨b, e1, e2, e3, e4⟩ := Wf_bd hw hv
  have eb : nv (I 71) (37 + v) = b := nv_n e1 (by omega)
  have fr := v_freeIn (O := O) (d := d + 4) (u := u) (J := J) (I := I) (k := v) hS w2 (by omega) (by omega)
  rw [e1, nI_sub e4] at fr
  have start : ∀ y, (if I 71 (9 + k) = nI v then some (nI 0, hp u n T I J R) else if nI (b - cnt (fun j => I 71 (9 + j)) (nI v) D) ≤ 0 then some (nI 0, hp u n T I J R) else (toI (vc O (d + 5) 11 MX11_isBarred 69 [.int (nI k), .int (nI v)] (hp u n T I J R))).bind fun p8 => (zz (if p8.1 = 0 then nI 1 else nI 0)).bind fun z10 => some (z10, p8.2)) = y → F_X11_canLodge O (d + 5) 69 (nI k) (nI v) (hp u n T I J R) = y := by
    intro y hy
    unfold F_X11_canLodge
    rw [ga_69_3 hS, Option.bind_some, show rdI O (hp u n T I J R) 71 (nI 9 + nI k) = some (I 71 (9 + k)) by simp (disch := first | assumption | omega) only [vc_69, gi_69_0, pi_69_0, gi_69_1, pi_69_1, ga_69_2, ga_69_3, ga_69_4, ga_69_5, ga_69_6, ga_69_7, gi_69_8, pi_69_8, ga_69_9, ga_69_10, gi_69_11, pi_69_11, ga_69_12, gi_69_13, pi_69_13, gi_69_14, pi_69_14, gi_69_15, pi_69_15, gi_69_16, pi_69_16, gj_69_17, pj_69_17, gi_69_18, pi_69_18, gi_69_19, pi_69_19, gi_69_20, pi_69_20, gi_69_21, pi_69_21, ga_69_22, gi_69_23, pi_69_23, ga_69_24, ga_69_25, gi_69_26, pi_69_26, ga_69_27, ga_69_28, gi_69_29, pi_69_29, gi_69_30, pi_69_30, ga_69_31, ga_69_32, ga_69_33, gi_69_34, pi_69_34, ga_69_35, ga_69_36, ga_69_37, gi_69_38, pi_69_38, gj_69_39, pj_69_39, gj_69_40, pj_69_40, ga_69_41, ga_69_42, ga_69_43, ga_69_44, ga_69_45, ga_69_46, ga_69_47, gi_69_48, pi_69_48, gi_69_49, pi_69_49, gi_69_50, pi_69_50, gi_69_51, pi_69_51, gj_69_52, pj_69_52, ga_69_53, gi_69_54, pi_69_54, gi_69_55, pi_69_55, rd_70, wr_70, ln_70, rd_71, wr_71, ln_71, rd_74, wr_74, ln_74, rd_75, wr_75, ln_75, v_tell_1, v_tell_2, v_tell_3, v_tell_5, v_tell_6, v_tell0, v_change, v_settled0, Option.bind_some, toI_i, toJ_j, toV_v, toR_r, up2_at, up2_na, up2_nk, up2_off, nI_add, nI_mul, nI_leI, nI_ltI, nI_eq, bI_eq0], Option.bind_some]
    by_cases hsame : I 71 (9 + k) = nI v
    · rw [if_pos hsame]
      rw [if_pos hsame] at hy
      exact hy
    · rw [if_neg hsame]
      rw [if_neg hsame] at hy
      rw [vc_69 hS, fr, toI_i, Option.bind_some]
      exact hy
  by_cases hsame : I 71 (9 + k) = nI v
  · have ho : loOk (I 71) D k v = false := by unfold loOk; rw [decide_eq_false (fun z => z hsame)]; rfl
    refine ⟨I, J, e_X11_canLodge (d := d + 5) (start _ ?_), SxM.rf 69 I J⟩
    rw [if_pos hsame, ho]
    rfl
  by_cases hfr : cnt (fun j => I 71 (9 + j)) (nI v) D < b
  · obtain ⟨I1, J1, a1, a2⟩ := v_mBar (O := O) (d := d) (u := u) (J := J) hS h20 hw hk hv
    have ho : loOk (I 71) D k v = !(baR (I 71) D k (nI v)) := by unfold loOk; rw [eb, decide_eq_true hsame, decide_eq_true hfr]; rfl
    refine ⟨I1, J1, e_X11_canLodge (d := d + 5) (start _ ?_), a2⟩
    have lt : ¬ nI (b - cnt (fun j => I 71 (9 + j)) (nI v) D) ≤ 0 := nI_ge (show 0 < _ by omega) (by omega)
    rw [if_neg hsame, if_neg lt, vc_69 hS, a1, toI_i, Option.bind_some, ho]
    cases baR (I 71) D k (nI v) <;> rfl
  · have ho : loOk (I 71) D k v = false := by unfold loOk; rw [eb, decide_eq_false hfr, Bool.false_and, Bool.and_false]
    refine ⟨I, J, e_X11_canLodge (d := d + 5) (start _ ?_), SxM.rf 69 I J⟩
    rw [if_neg hsame, show b - cnt (fun j => I 71 (9 + j)) (nI v) D = 0 by omega, if_pos (by decide), ho]
    rfl
theorem m_lo (hS : St n T R) (hw : Wf (I 71) V F D S N) (hk : k < D) (hv : v < V) : ∃ I', ev O (d + 1) MX11_lodgeIt [.ref 69, .int (nI k), .int (nI v)] (hp u n T I J R) = some (none, hp u n T I' J R) ∧ I' 71 = loW (I 71) k v ∧ ∀ a, a ≠ 71 → I' a = I a := by
  have h8 := hw.1
  refine ⟨up2 (up2 I 71 (17 + k) (loT (I 71) k)) 71 (9 + k) (nI v), e_X11_lodgeIt ?_, ?_, fun a ha => by rw [up2_off _ _ _ ha, up2_off _ _ _ ha]⟩
  · unfold F_X11_lodgeIt F_X11_lodgeIt_j29
    rw [ga_69_3 hS, Option.bind_some, vc_69 hS, v_isIn hS (by omega), toI_i, Option.bind_some]
    unfold loT
    by_cases hi : I 71 (9 + k) = -1
    · rw [if_pos (by rw [decide_eq_false (fun z => z hi)]; rfl), if_pos hi]
      simp (disch := first | assumption | omega) only [vc_69, gi_69_0, pi_69_0, gi_69_1, pi_69_1, ga_69_2, ga_69_3, ga_69_4, ga_69_5, ga_69_6, ga_69_7, gi_69_8, pi_69_8, ga_69_9, ga_69_10, gi_69_11, pi_69_11, ga_69_12, gi_69_13, pi_69_13, gi_69_14, pi_69_14, gi_69_15, pi_69_15, gi_69_16, pi_69_16, gj_69_17, pj_69_17, gi_69_18, pi_69_18, gi_69_19, pi_69_19, gi_69_20, pi_69_20, gi_69_21, pi_69_21, ga_69_22, gi_69_23, pi_69_23, ga_69_24, ga_69_25, gi_69_26, pi_69_26, ga_69_27, ga_69_28, gi_69_29, pi_69_29, gi_69_30, pi_69_30, ga_69_31, ga_69_32, ga_69_33, gi_69_34, pi_69_34, ga_69_35, ga_69_36, ga_69_37, gi_69_38, pi_69_38, gj_69_39, pj_69_39, gj_69_40, pj_69_40, ga_69_41, ga_69_42, ga_69_43, ga_69_44, ga_69_45, ga_69_46, ga_69_47, gi_69_48, pi_69_48, gi_69_49, pi_69_49, gi_69_50, pi_69_50, gi_69_51, pi_69_51, gj_69_52, pj_69_52, ga_69_53, gi_69_54, pi_69_54, gi_69_55, pi_69_55, rd_70, wr_70, ln_70, rd_71, wr_71, ln_71, rd_74, wr_74, ln_74, rd_75, wr_75, ln_75, v_tell_1, v_tell_2, v_tell_3, v_tell_5, v_tell_6, v_tell0, v_change, v_settled0, Option.bind_some, toI_i, toJ_j, toV_v, toR_r, up2_at, up2_na, up2_nk, up2_off, nI_add, nI_mul, nI_leI, nI_ltI, nI_eq, bI_eq0]
    · rw [if_neg (by rw [decide_eq_true hi]; exact nbt), if_neg hi]
      simp (disch := first | assumption | omega) only [vc_69, gi_69_0, pi_69_0, gi_69_1, pi_69_1, ga_69_2, ga_69_3, ga_69_4, ga_69_5, ga_69_6, ga_69_7, gi_69_8, pi_69_8, ga_69_9, ga_69_10, gi_69_11, pi_69_11, ga_69_12, gi_69_13, pi_69_13, gi_69_14, pi_69_14, gi_69_15, pi_69_15, gi_69_16, pi_69_16, gj_69_17, pj_69_17, gi_69_18, pi_69_18, gi_69_19, pi_69_19, gi_69_20, pi_69_20, gi_69_21, pi_69_21, ga_69_22, gi_69_23, pi_69_23, ga_69_24, ga_69_25, gi_69_26, pi_69_26, ga_69_27, ga_69_28, gi_69_29, pi_69_29, gi_69_30, pi_69_30, ga_69_31, ga_69_32, ga_69_33, gi_69_34, pi_69_34, ga_69_35, ga_69_36, ga_69_37, gi_69_38, pi_69_38, gj_69_39, pj_69_39, gj_69_40, pj_69_40, ga_69_41, ga_69_42, ga_69_43, ga_69_44, ga_69_45, ga_69_46, ga_69_47, gi_69_48, pi_69_48, gi_69_49, pi_69_49, gi_69_50, pi_69_50, gi_69_51, pi_69_51, gj_69_52, pj_69_52, ga_69_53, gi_69_54, pi_69_54, gi_69_55, pi_69_55, rd_70, wr_70, ln_70, rd_71, wr_71, ln_71, rd_74, wr_74, ln_74, rd_75, wr_75, ln_75, v_tell_1, v_tell_2, v_tell_3, v_tell_5, v_tell_6, v_tell0, v_change, v_settled0, Option.bind_some, toI_i, toJ_j, toV_v, toR_r, up2_at, up2_na, up2_nk, up2_off, nI_add, nI_mul, nI_leI, nI_ltI, nI_eq, bI_eq0]
  · rw [up2_self, up2_self]
    rfl
theorem b_lodge {a1 a2 : Int32} (hI : Inv c K) : Bo O Inv MX10_lodge MX11_lodge [.int a1, .int a2] c K := by
  obtain ⟨u, n, T, I, J, R, g, h, V, F, D, S, N, x, s, rfl, hI⟩ := hI
  obtain ⟨hS, hn, gg, hh, hG, hH, hw, hgd, hg⟩ := Iv_all hI
  obtain ⟨⟨v5, f4, d8, s8, n6⟩, ⟨w0, w1, w2, w3, w4⟩, hf, hs, hfam, hwi, hsn, hlw⟩ := hw
  obtain ⟨⟨c1, c2, c3, c4, c5, c6, c7, c8, c9, c10, c11, c12⟩, q1, q2, q3, q4, q5, q6, q7, q8, q9, q10, q11, ql⟩ := hgd
  obtain ⟨⟨b1, b2, b3, b4, b5⟩, b6, b7, b8, b9, b10⟩ := hI.2.2.2.2.2.2.2.1
  have hJ := hI.2.2.2.2.2.2.2.2.2
  have hu := hI.2.2.2.2.1
  have hw := hI.2.2.1
  have hgd := hI.2.2.2.1
  have hx := hu.1
  have no : ∀ (hb : inR a1 D = false ∨ inR a1 D = true ∧ inR a2 V = false), Bo O Inv MX10_lodge MX11_lodge [.int a1, .int a2] c (hp u n T I J R) := by
    intro hb
    refine Bo_act (ret := -2) (w' := I 71) (k := 1) hI (by decide) (Or.inr ⟨Or.inl rfl, rfl⟩) hw (Kp.rf _) ?_ ?_
    · obtain ⟨I1, e1, a1'⟩ := v_act (O := O) (d := 198) (u := u) (J := J) (kk := 1) (a := a1) (b := a2) (ret := -2) (w' := I 71) hH hgd hn hg hx.1 hx.2.1 hx.2.2.1 hx.2.2.2.1 (Or.inr (Or.inl ⟨rfl, rfl, rfl⟩)) (Or.inr (by decide)) (fun I' hG' => by
        refine ⟨I', e_X2_lodgeIn (d := 197) ?_, hG', fun _ _ _ _ _ => rfl⟩
        unfold F_X2_lodgeIn
        rw [vc_g hG hn, v_hasDead hG hn hG'.1.2.2.2.2.2.2.2.2.1]
        rcases hb with hb | ⟨hb, hb2⟩
        · rw [hb]
          rfl
        · rw [hb, toI_i, Option.bind_some, if_neg nbt, vc_g hG hn, v_hasVault hG hn hG'.1.2.2.2.2.1, hb2]
          rfl)
      refine ⟨I1, a1', fun Ia ha => e_X10_lodge (d := 199) ?_⟩
      unfold F_X10_lodge
      rw [gg, Option.bind_some, hh, Option.bind_some, e1, toI_i, Option.bind_some, vc_0 hS, ha]
      rfl
    · intro Ia i71 i69
      refine ⟨up2 Ia 69 0 (nI 0), J, ?_, fun It ht => e_X11_lodge (d := 199) ?_⟩
      · have := MNw_no (s := s) (k := 1) (ret := -2) (SxM.rf 69 (up2 Ia 69 0 (nI 0)) J) (by decide)
        rw [up2_off _ _ _ (by decide), i71] at this
        exact this
      · unfold F_X11_lodge
        have e : ev O 199 MX11_lodgeNow [.ref 69, .int a1, .int a2] (hp u n T (up2 Ia 69 0 (nI 0)) J R) = some (some (.int (-2)), hp u n T (up2 Ia 69 0 (nI 0)) J R) := by
          refine e_X11_lodgeNow (d := 198) ?_
          unfold F_X11_lodgeNow
          rw [vc_69 hS, v_isDead (d := 197) hS (by rw [up2_na (by decide), i71]; exact w2) (by omega)]
          rcases hb with hb | ⟨hb, hb2⟩
          · rw [hb]
            rfl
          · rw [hb, toI_i, Option.bind_some, if_neg nbt, vc_69 hS, v_isVault (d := 197) hS (by rw [up2_na (by decide), i71]; exact w0) (by omega), hb2]
            rfl
        rw [pi_69_0 hS, Option.bind_some, vc_69 hS, e, toI_i, Option.bind_some, vc_69 hS, ht]
        rfl
  cases hb : inR a1 D with
  | false => exact no (Or.inl hb)
  | true =>
    cases hb2 : inR a2 V with
    | false => exact no (Or.inr ⟨hb, hb2⟩)
    | true =>
      obtain ⟨k, hk, rfl⟩ := inR_ex hb (by omega)
      obtain ⟨v, hv, rfl⟩ := inR_ex hb2 (by omega)
      obtain ⟨bb, eb1, eb2, eb3, eb4⟩ := Wf_bd hw hv
      have eb : nv (I 71) (37 + v) = bb := nv_n eb1 (by omega)
      have rl : loR (I 71) D v < 2 ^ 31 := by unfold loR; omega
      refine Bo_act (ret := if loOk (I 71) D k v = true then nI (loR (I 71) D v) else -3) (w' := if loOk (I 71) D k v = true then loW (I 71) k v else I 71) (k := 1) hI (by decide) ?_ ?_ ?_ ?_ ?_
      · by_cases ho : loOk (I 71) D k v = true
        · rw [if_pos ho, if_pos ho]
          exact Or.inl ⟨_, rl, rfl⟩
        · rw [if_neg ho, if_neg ho]
          exact Or.inr ⟨Or.inr rfl, rfl⟩
      · by_cases ho : loOk (I 71) D k v = true
        · rw [if_pos ho]
          exact (Wf_loW hw hk hv ho).1
        · rw [if_neg ho]
          exact hw
      · by_cases ho : loOk (I 71) D k v = true
        · rw [if_pos ho]
          exact (Wf_loW hw hk hv ho).2
        · rw [if_neg ho]
          exact Kp.rf _
      · obtain ⟨I1, e1, a1'⟩ := v_act (O := O) (d := 198) (u := u) (J := J) (kk := 1) (a := nI k) (b := nI v) (ret := if loOk (I 71) D k v = true then nI (loR (I 71) D v) else -3) (w' := if loOk (I 71) D k v = true then loW (I 71) k v else I 71) hH hgd hn hg hx.1 hx.2.1 hx.2.2.1 hx.2.2.2.1 (Or.inr (Or.inl ⟨rfl, rfl, rfl⟩)) (by
            by_cases ho : loOk (I 71) D k v = true
            · rw [if_pos ho]
              exact Or.inl ⟨_, rl, rfl⟩
            · rw [if_neg ho]
              exact Or.inr (by decide)) (fun I' hG' => c_lo (d := 195) hS hG' hw hn (by omega) hk hv)
        refine ⟨I1, a1', fun Ia ha => e_X10_lodge (d := 199) ?_⟩
        unfold F_X10_lodge
        rw [gg, Option.bind_some, hh, Option.bind_some, e1, toI_i, Option.bind_some, vc_0 hS, ha]
        rfl
      · intro Ia i71 i69
        have j71 : up2 Ia 69 0 (nI 0) 71 = I 71 := by rw [up2_off _ _ _ (by decide), i71]
        have hwa : Wf (up2 Ia 69 0 (nI 0) 71) V F D S N := by rw [j71]; exact hw
        obtain ⟨I3, J3, ck, s3⟩ := m_canLo (O := O) (d := 192) (u := u) (J := J) (I := up2 Ia 69 0 (nI 0)) hS (by rw [up2_nk (by decide), i69]; exact b5) hwa hk hv
        rw [j71] at ck
        have k71 : I3 71 = I 71 := by rw [s3.1 71 (by decide)]; exact j71
        have isd := v_isDead (O := O) (d := 197) (u := u) (J := J) (I := up2 Ia 69 0 (nI 0)) (v := nI k) hS (by rw [j71]; exact w2) (by omega)
        rw [hb] at isd
        have isv := v_isVault (O := O) (d := 197) (u := u) (J := J) (I := up2 Ia 69 0 (nI 0)) (v := nI v) hS (by rw [j71]; exact w0) (by omega)
        rw [hb2] at isv
        by_cases ho : loOk (I 71) D k v = true
        · rw [if_pos ho, if_pos ho]
          obtain ⟨Ib, er, rm⟩ := v_remember (O := O) (d := 196) (u := u) (J := J3) (I := I3) (s := s) (k := 1) hS (by rw [s3.2.1 8 (by decide) (by decide), up2_nk (by decide), i69]; exact hx.2.2.2.2) hx.2.2.2.1
          have b71 : Ib 71 = I 71 := by rw [rm.1 71 (by decide) (by decide) (by decide)]; exact k71
          obtain ⟨I2, e2, m1, m2⟩ := m_lo (O := O) (d := 197) (u := u) (J := J3) (I := Ib) hS (by rw [b71]; exact hw) hk hv
          rw [b71] at m1
          refine ⟨I2, J3, ⟨m1, fun a h1 h2 h3 h4 _ => by rw [m2 a h2, rm.1 a h1 h3 h4, s3.1 a h1], fun j hj => by rw [m2 69 (by decide), rm.2.1 j (by omega), s3.2.1 j (by omega) (by omega)], MJx_SxM s3, Or.inr ⟨nI_le (Nat.zero_le _) rl, I3, Ib, s3.1 71 (by decide), s3.2.1 8 (by decide) (by decide), s3.1 74 (by decide), s3.1 75 (by decide), rm, by rw [m2 69 (by decide)], m2 74 (by decide), m2 75 (by decide)⟩⟩, fun It ht => e_X11_lodge (d := 199) ?_⟩
          have e : ev O 199 MX11_lodgeNow [.ref 69, .int (nI k), .int (nI v)] (hp u n T (up2 Ia 69 0 (nI 0)) J R) = some (some (.int (nI (loR (I 71) D v))), hp u n T I2 J3 R) := by
            refine e_X11_lodgeNow (d := 198) ?_
            unfold F_X11_lodgeNow
            have fr := v_freeIn (O := O) (d := 197) (u := u) (J := J3) (I := I2) (k := v) (D := D) hS (by rw [m1]; unfold loW; (try simp (disch := omega) only [upK_at, upK_ne]); exact w2) (by omega) (by omega)
            obtain ⟨hne, hc, -⟩ := loOk_t ho
            rw [m1, cnt_lo hk (by omega) hne, show loW (I 71) k v (37 + v) = nI bb by unfold loW; (try simp (disch := omega) only [upK_at, upK_ne]); exact eb1, nI_sub (by omega), show bb - (cnt (fun j => I 71 (9 + j)) (nI v) D + 1) = loR (I 71) D v by unfold loR; rw [eb]] at fr
            rw [vc_69 hS, isd, toI_i, Option.bind_some, if_neg nbt, vc_69 hS, isv, toI_i, Option.bind_some, if_neg nbt, vc_69 hS, ck, toI_i, Option.bind_some, if_neg (by rw [ho]; exact nbt), vc_69 hS, er, toV_v, Option.bind_some, vc_69 hS, e2, toV_v, Option.bind_some, vc_69 hS, fr]
            rfl
          unfold F_X11_lodge
          rw [pi_69_0 hS, Option.bind_some, vc_69 hS, e, toI_i, Option.bind_some, vc_69 hS, ht]
          rfl
        · rw [if_neg ho, if_neg ho]
          refine ⟨I3, J3, ?_, fun It ht => e_X11_lodge (d := 199) ?_⟩
          · have := MNw_no (s := s) (k := 1) (ret := -3) s3 (by decide)
            rw [j71] at this
            exact this
          · unfold F_X11_lodge
            have e : ev O 199 MX11_lodgeNow [.ref 69, .int (nI k), .int (nI v)] (hp u n T (up2 Ia 69 0 (nI 0)) J R) = some (some (.int (-3)), hp u n T I3 J3 R) := by
              refine e_X11_lodgeNow (d := 198) ?_
              unfold F_X11_lodgeNow
              rw [vc_69 hS, isd, toI_i, Option.bind_some, if_neg nbt, vc_69 hS, isv, toI_i, Option.bind_some, if_neg nbt, vc_69 hS, ck, toI_i, Option.bind_some, if_pos (by rw [Bool.eq_false_iff.mpr ho]; rfl)]
            rw [pi_69_0 hS, Option.bind_some, vc_69 hS, e, toI_i, Option.bind_some, vc_69 hS, ht]
            rfl
end LO
