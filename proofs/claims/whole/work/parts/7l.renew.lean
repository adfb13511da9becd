/-! acts: renew -/
theorem wiF_ge {v : Int64} {lo hi : Int32} (h : lo ≤ hi) : lo ≤ wiF v lo hi := by
  unfold wiF
  split
  · exact Int32.le_refl lo
  · rename_i h1
    split
    · exact h
    · rename_i h2
      have e1 : ¬ v.toInt < lo.toInt := by
        intro z
        apply h1
        rw [Int64.lt_iff_toInt_lt, Int32.toInt_toInt64]
        exact z
      have e2 : ¬ hi.toInt < v.toInt := by
        intro z
        apply h2
        rw [Int64.lt_iff_toInt_lt, Int32.toInt_toInt64]
        exact z
      have e3 := lo.le_toInt
      have e4 := hi.toInt_lt
      rw [Int32.le_iff_toInt_le]
      have : v.toInt32.toInt = v.toInt := by
        rw [Int64.toInt_toInt32]
        have : Int32.size = 4294967296 := rfl
        rw [Int.bmod_eq_of_le (by omega) (by omega)]
      rw [this]
      omega
theorem wi_rg (v : Int64) {lo hi : Nat} (h : lo ≤ hi) (hh : hi < 2 ^ 31) : ∃ m, lo ≤ m ∧ m ≤ hi ∧ wiF v (nI lo) (nI hi) = nI m := by
  rcases arg_c (wiF v (nI lo) (nI hi)) h hh with z | ⟨-, z | ⟨-, z, -⟩⟩
  · exact z
  · exact absurd z (Int32.not_lt.mpr (wiF_ge (nI_le h hh)))
  · exact absurd (wiF_le (nI_le h hh)) z
section RE
variable {O : mO} {L : Nat} {xs : Nat → Int32} {c d u n : Nat} {T : Nat → mT} {I : Nat → Nat → Int32} {J : Nat → Nat → Int64} {R : Nat → Nat → Option Nat} {g h V F D S N x s k v : Nat} {w w' : Nat → Int32} {K : mH} {ret : Int32}
theorem prR_n (w : Nat → Int32) (D k : Nat) : ∃ m, 1 ≤ m ∧ m ≤ 99 ∧ prR w D k = nI m := wi_rg _ (by decide) (by decide)
theorem laR_n (w : Nat → Int32) (D k : Nat) : ∃ m, 1 ≤ m ∧ m ≤ 20 ∧ laR w D k = nI m := wi_rg _ (by decide) (by decide)
theorem eaR_n (w : Nat → Int32) (f : Nat) : ∃ m, m ≤ 99 ∧ eaR w f = nI m := by
  obtain ⟨m, -, h1, h2⟩ := wi_rg (telR w (sfW w f) (nI 2) 10) (lo := 0) (hi := 99) (by decide) (by decide)
  exact ⟨m, h1, h2⟩
def reOk (w : Nat → Int32) (D k : Nat) : Bool := decide (w (9 + k) ≠ -1) && decide (prR w D k ≤ w (33 + nv w (42 + k)))
def reW (w : Nat → Int32) (D k : Nat) : Nat → Int32 := upK (upK w (33 + nv w (42 + k)) (w (33 + nv w (42 + k)) - prR w D k)) (17 + k) (if w (17 + k) + laR w D k < nI 99 then w (17 + k) + laR w D k else nI 99)
/-- all that is known of one who can renew -/
theorem re_all (hw : Wf w V F D S N) (hk : k < D) : ∃ f m p l, f < F ∧ w (42 + k) = nI f ∧ nv w (42 + k) = f ∧ m ≤ 999 ∧ w (33 + f) = nI m ∧ 1 ≤ p ∧ p ≤ 99 ∧ prR w D k = nI p ∧ 1 ≤ l ∧ l ≤ 20 ∧ laR w D k = nI l := by
  have h8 := hw.1
  obtain ⟨f, hf, ef⟩ := hw.2.2.2.2.1 k hk
  obtain ⟨m, hm, em⟩ := hw.2.2.2.1.2.2.2.2.2.1 f hf
  obtain ⟨p, p1, p2, ep⟩ := prR_n w D k
  obtain ⟨l, l1, l2, el⟩ := laR_n w D k
  exact ⟨f, m, p, l, hf, ef, nv_n ef (by omega), hm, em, p1, p2, ep, l1, l2, el⟩
theorem Wf_reW (hw : Wf w V F D S N) (hk : k < D) (ho : reOk w D k = true) : Wf (reW w D k) V F D S N ∧ Kp w (reW w D k) := by
  have h8 := hw.1
  obtain ⟨f, m, p, l, hf, ef, ev', hm, em, p1, p2, ep, l1, l2, el⟩ := re_all hw hk
  unfold reOk at ho
  rw [Bool.and_eq_true, ev', ep, em] at ho
  have hin : w (9 + k) ≠ -1 := of_decide_eq_true ho.1
  have hle := (nI_leI (by omega) (by omega)).mp (of_decide_eq_true ho.2)
  obtain ⟨v, t, h1, h2, h3, h4, h5⟩ := Wf_in hw hk hin
  have er : reW w D k = upK (upK w (33 + f) (nI (m - p))) (17 + k) (nI (min (t + l) 99)) := by
    unfold reW
    rw [ev', ep, em, el, h5, nI_sub hle, nI_add, mi_n (by omega) (by omega)]
  rw [er]
  refine ⟨Wf_S hw (z := upK (upK w (33 + f) (nI (m - p))) (17 + k) (nI (min (t + l) 99))) ?_ (fun _ _ _ => rfl) (fun i hi => ?_), fun i hi => ?_⟩
  · exact WfS_t (WfS_pu hw.2.2.2.1 (by omega) (by omega) hf (by omega)) (by omega) hk (by (try simp (disch := omega) only [upK_at, upK_ne]); exact hin) (by omega) (by omega)
  · (try simp (disch := omega) only [upK_at, upK_ne])
  · (try simp (disch := omega) only [upK_at, upK_ne])
theorem c_re (hO : O = mOl L xs) (hS : St n T R) (hG : Gnd n T I R g w V F D S N) (hw : Wf w V F D S N) (hn : n ≤ oB) (h98 : g + 10 < 98) (hk : k < D) : ∃ I1, ev O (d + 3) MX2_renewFor [.ref g, .int (nI k)] (hp u n T I J R) = some (some (.int (if reOk w D k = true then prR w D k else -3)), hp u n T I1 J R) ∧ Gnd n T I1 R g (if reOk w D k = true then reW w D k else w) V F D S N ∧ CAo g I I1 := by
  have h8 := hw.1
  obtain ⟨⟨c1, c2, c3, c4, c5, c6, c7, c8, c9, c10, c11, c12⟩, q1, q2, q3, q4, q5, q6, q7, q8, q9, q10, q11, ql⟩ := id hG
  obtain ⟨f, m, p, l, hf, ef, ev', hm, em, p1, p2, ep, l1, l2, el⟩ := re_all hw hk
  have hd := v_hasDead (O := O) (d := d + 2) (u := u) (J := J) (v := nI k) c2 hn c9
  rw [inR_nI hk (by omega)] at hd
  have hfa := v_hasFamily (O := O) (d := d + 2) (u := u) (J := J) (v := nI f) c2 hn c7
  rw [inR_nI hf (by omega)] at hfa
  have isI := v_cIsIn (O := O) (d := d + 1) (u := u) (I := I) (J := J) (v := nI k) c2 hn c9 c10
  rw [inR_nI hk (by omega), Bool.true_and, nI_clamp (by omega), q6 k (by omega)] at isI
  have r3 : rdI O (hp u n T I J R) (g + 3) (nI k) = some (nI f) := by simp (disch := first | assumption | omega) only [ga_g_1, ga_g_2, ga_g_3, ga_g_4, ga_g_5, ga_g_6, ga_g_7, ga_g_8, ga_g_9, ga_g_10, gi_g_11, pi_g_11, gi_g_12, pi_g_12, gi_g_13, pi_g_13, gi_g_14, pi_g_14, gi_g_15, pi_g_15, gi_g_16, pi_g_16, gi_g_17, pi_g_17, ga_g_0, vc_g, rd_g_1, wr_g_1, ln_g_1, rd_g_2, wr_g_2, ln_g_2, rd_g_3, wr_g_3, ln_g_3, rd_g_4, wr_g_4, ln_g_4, rd_g_5, wr_g_5, ln_g_5, rd_g_6, wr_g_6, ln_g_6, rd_g_7, wr_g_7, ln_g_7, rd_g_8, wr_g_8, ln_g_8, rd_g_9, wr_g_9, ln_g_9, rd_g_10, q5 k (by omega), ef]
  by_cases hi : w (9 + k) = -1
  · have ho : reOk w D k = false := by unfold reOk; rw [decide_eq_false (fun z => z hi)]; rfl
    refine ⟨I, e_X2_renewFor (d := d + 2) ?_, by rw [if_neg (by rw [ho]; decide)]; exact hG, fun _ _ _ _ _ => rfl⟩
    unfold F_X2_renewFor
    rw [vc_g c2 hn, hd, toI_i, Option.bind_some, if_neg nbt, ga_g_3 c2 hn, Option.bind_some, r3, Option.bind_some, vc_g c2 hn, isI, toI_i, Option.bind_some, if_pos (by rw [decide_eq_false (fun z => z hi)]; rfl), ho]
    rfl
  · obtain ⟨v, t, h1, h2, h3, h4, h5⟩ := Wf_in hw hk hi
    have r4 : rdI O (hp u n T I J R) (g + 4) (nI k) = some (w (9 + k)) := by simp (disch := first | assumption | omega) only [ga_g_1, ga_g_2, ga_g_3, ga_g_4, ga_g_5, ga_g_6, ga_g_7, ga_g_8, ga_g_9, ga_g_10, gi_g_11, pi_g_11, gi_g_12, pi_g_12, gi_g_13, pi_g_13, gi_g_14, pi_g_14, gi_g_15, pi_g_15, gi_g_16, pi_g_16, gi_g_17, pi_g_17, ga_g_0, vc_g, rd_g_1, wr_g_1, ln_g_1, rd_g_2, wr_g_2, ln_g_2, rd_g_3, wr_g_3, ln_g_3, rd_g_4, wr_g_4, ln_g_4, rd_g_5, wr_g_5, ln_g_5, rd_g_6, wr_g_6, ln_g_6, rd_g_7, wr_g_7, ln_g_7, rd_g_8, wr_g_8, ln_g_8, rd_g_9, wr_g_9, ln_g_9, rd_g_10, q6 k (by omega)]
    obtain ⟨I1, a1, a2, a3⟩ := v_askD (O := O) (d := d) (u := u) (J := J) (v := w (9 + k)) hG hn hk
    obtain ⟨I2, a4, a5, a6⟩ := v_toldX (d := d) (u := u) (J := J) (kd := 0) hO hG hw hn (by decide) a2 a3
    obtain ⟨I3, a7, a8, a9⟩ := v_toldX (d := d) (u := u) (J := J) (kd := 1) hO hG hw hn (by decide) a5 a6
    rw [tdL_eq hG hw (WR_d hG hw hk (Vo_w hw hk)) (by decide)] at a4 a7
    rw [show wiF (telR w (sdW w D k (w (9 + k))) (nI 0) (woT 0).toInt64) (lsT 0) (msT 0) = prR w D k from rfl, ep] at a4
    rw [show wiF (telR w (sdW w D k (w (9 + k))) (nI 1) (woT 1).toInt64) (lsT 1) (msT 1) = laR w D k from rfl, el] at a7
    have hG3 := Gnd_Sx hG a8
    obtain ⟨⟨-, -, -, -, c5', -, c7', -, c9', -, c11', -⟩, q1', q2', q3', q4', q5', q6', q7', q8', q9', q10', q11', ql'⟩ := id hG3
    have s2 : rdI O (hp u n T I3 J R) (g + 2) (nI f) = some (nI m) := by simp (disch := first | assumption | omega) only [ga_g_1, ga_g_2, ga_g_3, ga_g_4, ga_g_5, ga_g_6, ga_g_7, ga_g_8, ga_g_9, ga_g_10, gi_g_11, pi_g_11, gi_g_12, pi_g_12, gi_g_13, pi_g_13, gi_g_14, pi_g_14, gi_g_15, pi_g_15, gi_g_16, pi_g_16, gi_g_17, pi_g_17, ga_g_0, vc_g, rd_g_1, wr_g_1, ln_g_1, rd_g_2, wr_g_2, ln_g_2, rd_g_3, wr_g_3, ln_g_3, rd_g_4, wr_g_4, ln_g_4, rd_g_5, wr_g_5, ln_g_5, rd_g_6, wr_g_6, ln_g_6, rd_g_7, wr_g_7, ln_g_7, rd_g_8, wr_g_8, ln_g_8, rd_g_9, wr_g_9, ln_g_9, rd_g_10, q4' f (by omega), em]
    have start : ∀ y, (if nI p ≤ nI m then (gtA (hp u n T I3 J R) g 2 2).bind fun x22 => (rdI O (hp u n T I3 J R) x22 (nI f)).bind fun x23 => (wrI (hp u n T I3 J R) x22 (nI f) (x23 - nI p)).bind fun K24 => (gtA K24 g 2 5).bind fun x25 => (gtA K24 g 2 5).bind fun x26 => (rdI O K24 x26 (nI k)).bind fun x27 => (wrI K24 x25 (nI k) (if (x27 + nI l) < (nI 99) then (x27 + nI l) else (nI 99))).bind fun K28 => some (nI p, K28) else some (-3, hp u n T I3 J R)) = y → F_X2_renewFor O (d + 2) g (nI k) (hp u n T I J R) = y := by
      intro y hy
      unfold F_X2_renewFor
      rw [vc_g c2 hn, hd, toI_i, Option.bind_some, if_neg nbt, ga_g_3 c2 hn, Option.bind_some, r3, Option.bind_some, vc_g c2 hn, isI, toI_i, Option.bind_some, if_neg (by rw [decide_eq_true hi]; exact nbt), vc_g c2 hn, hfa, toI_i, Option.bind_some, if_neg nbt, ga_g0 hG hn, Option.bind_some, ga_g_4 c2 hn, Option.bind_some, r4, Option.bind_some, vc_30 hS, a1, toV_v, Option.bind_some, ga_g0 hG hn, Option.bind_some, vc_g c2 hn, v_forceX hG hn a2, toR_r, Option.bind_some, vc_30 hS, a4, toI_i, Option.bind_some, ga_g0 hG hn, Option.bind_some, vc_g c2 hn, v_forceX hG hn a5, toR_r, Option.bind_some, vc_30 hS, a7, toI_i, Option.bind_some, ga_g_2 c2 hn, Option.bind_some, s2, Option.bind_some]
      rw [ga_g_2 c2 hn] at hy
      exact hy
    by_cases hle : p ≤ m
    · have ho : reOk w D k = true := by unfold reOk; rw [ev', ep, em, decide_eq_true hi, decide_eq_true (nI_le hle (by omega))]; rfl
      have er : reW w D k = upK (upK w (33 + f) (nI (m - p))) (17 + k) (nI (min (t + l) 99)) := by
        unfold reW
        rw [ev', ep, em, el, h5, nI_sub hle, nI_add, mi_n (by omega) (by omega)]
      refine ⟨up2 (up2 I3 (g + 2) f (nI (m - p))) (g + 5) k (nI (min (t + l) 99)), e_X2_renewFor (d := d + 2) (start _ ?_), ?_, fun a ha z1 z2 z3 => by rw [up2_off _ _ _ (by omega), up2_off _ _ _ (by omega)]; exact a8 a z1 z2 z3⟩
      · rw [if_pos (nI_le hle (by omega)), if_pos ho, ep, ga_g_2 c2 hn, Option.bind_some, s2, Option.bind_some]
        simp (disch := first | assumption | omega) only [ga_g_1, ga_g_2, ga_g_3, ga_g_4, ga_g_5, ga_g_6, ga_g_7, ga_g_8, ga_g_9, ga_g_10, gi_g_11, pi_g_11, gi_g_12, pi_g_12, gi_g_13, pi_g_13, gi_g_14, pi_g_14, gi_g_15, pi_g_15, gi_g_16, pi_g_16, gi_g_17, pi_g_17, ga_g_0, vc_g, rd_g_1, wr_g_1, ln_g_1, rd_g_2, wr_g_2, ln_g_2, rd_g_3, wr_g_3, ln_g_3, rd_g_4, wr_g_4, ln_g_4, rd_g_5, wr_g_5, ln_g_5, rd_g_6, wr_g_6, ln_g_6, rd_g_7, wr_g_7, ln_g_7, rd_g_8, wr_g_8, ln_g_8, rd_g_9, wr_g_9, ln_g_9, rd_g_10, Option.bind_some, toI_i, toJ_j, toV_v, toR_r, up2_at, up2_na, up2_nk, up2_off, nI_add, nI_mul, nI_leI, nI_ltI, nI_eq, bI_eq0, nI_sub, q7' k (by omega), h5]
        rw [mi_m]
      · rw [if_pos ho, er]
        refine Gnd_ch hG3 (fun j hj => by rw [up2_na (by omega), up2_na (by omega)]) (fun j hj => by rw [up2_off _ _ _ (by omega), up2_off _ _ _ (by omega)]) (fun i hi => by (try simp (disch := omega) only [upK_at, upK_ne])) (fun j hj => ?_) (fun j hj => by (try simp (disch := omega) only [up2_at, up2_na, up2_nk, up2_off]); (try simp (disch := omega) only [upK_at, upK_ne]); exact q6' j hj) (fun j hj => ?_) (fun j hj => by (try simp (disch := omega) only [up2_at, up2_na, up2_nk, up2_off]); (try simp (disch := omega) only [upK_at, upK_ne]); exact q10' j hj) (fun j hj => by (try simp (disch := omega) only [up2_at, up2_na, up2_nk, up2_off]); (try simp (disch := omega) only [upK_at, upK_ne]); exact q11' j hj) (fun a ha => by rw [up2_off _ _ _ (by omega), up2_off _ _ _ (by omega)])
        · by_cases e : j = f
          · rw [e, up2_na (by omega), up2_at, upK_ne (by omega), upK_at]
          · rw [up2_na (by omega), up2_nk e, upK_ne (by omega), upK_ne (by omega)]
            exact q4' j hj
        · by_cases e : j = k
          · rw [e, up2_at, upK_at]
          · rw [up2_nk e, up2_na (by omega), upK_ne (by omega), upK_ne (by omega)]
            exact q7' j hj
    · have hn' : ¬ nI p ≤ nI m := fun z => hle ((nI_leI (by omega) (by omega)).mp z)
      have ho : reOk w D k = false := by unfold reOk; rw [ev', ep, em, decide_eq_false hn', Bool.and_false]
      refine ⟨I3, e_X2_renewFor (d := d + 2) (start _ ?_), by rw [if_neg (by rw [ho]; decide)]; exact hG3, CAo_Sx a8⟩
      rw [if_neg hn', ho]
      rfl
/-- the reference -/
theorem m_canRe (hS : St n T R) (h20 : I 69 20 = nI 0) (hw : Wf (I 71) V F D S N) (hk : k < D) : ∃ I' J', ev O (d + 6) MX11_canRenew [.ref 69, .int (nI k)] (hp u n T I J R) = some (some (.int (bI (reOk (I 71) D k))), hp u n T I' J' R) ∧ SxM 69 I I' J J' := by
  have h8 := hw.1
  obtain ⟨f, m, p, l, hf, ef, ev', hm, em, p1, p2, ep, l1, l2, el⟩ := re_all hw hk
  by_cases hi : I 71 (9 + k) = -1
  · have ho : reOk (I 71) D k = false := by unfold reOk; rw [decide_eq_false (fun z => z hi)]; rfl
    refine ⟨I, J, e_X11_canRenew (d := d + 5) ?_, SxM.rf 69 I J⟩
    unfold F_X11_canRenew
    rw [vc_69 hS, v_isIn hS (by omega), toI_i, Option.bind_some, if_pos (by rw [decide_eq_false (fun z => z hi)]; rfl), ho]
    rfl
  · obtain ⟨I1, J1, a1, a2⟩ := v_mPrice (O := O) (d := d) (u := u) (J := J) hS h20 hw hk
    have ho : reOk (I 71) D k = decide (nI p ≤ nI m) := by unfold reOk; rw [ev', ep, em, decide_eq_true hi]; rfl
    refine ⟨I1, J1, e_X11_canRenew (d := d + 5) ?_, a2⟩
    unfold F_X11_canRenew
    rw [vc_69 hS, v_isIn hS (by omega), toI_i, Option.bind_some, if_neg (by rw [decide_eq_true hi]; exact nbt), ga_69_3 hS, Option.bind_some, Option.bind_some, show rdI O (hp u n T I J R) 71 (nI 42 + nI k) = some (nI f) by simp (disch := first | assumption | omega) only [vc_69, gi_69_0, pi_69_0, gi_69_1, pi_69_1, ga_69_2, ga_69_3, ga_69_4, ga_69_5, ga_69_6, ga_69_7, gi_69_8, pi_69_8, ga_69_9, ga_69_10, gi_69_11, pi_69_11, ga_69_12, gi_69_13, pi_69_13, gi_69_14, pi_69_14, gi_69_15, pi_69_15, gi_69_16, pi_69_16, gj_69_17, pj_69_17, gi_69_18, pi_69_18, gi_69_19, pi_69_19, gi_69_20, pi_69_20, gi_69_21, pi_69_21, ga_69_22, gi_69_23, pi_69_23, ga_69_24, ga_69_25, gi_69_26, pi_69_26, ga_69_27, ga_69_28, gi_69_29, pi_69_29, gi_69_30, pi_69_30, ga_69_31, ga_69_32, ga_69_33, gi_69_34, pi_69_34, ga_69_35, ga_69_36, ga_69_37, gi_69_38, pi_69_38, gj_69_39, pj_69_39, gj_69_40, pj_69_40, ga_69_41, ga_69_42, ga_69_43, ga_69_44, ga_69_45, ga_69_46, ga_69_47, gi_69_48, pi_69_48, gi_69_49, pi_69_49, gi_69_50, pi_69_50, gi_69_51, pi_69_51, gj_69_52, pj_69_52, ga_69_53, gi_69_54, pi_69_54, gi_69_55, pi_69_55, rd_70, wr_70, ln_70, rd_71, wr_71, ln_71, rd_74, wr_74, ln_74, rd_75, wr_75, ln_75, v_tell_1, v_tell_2, v_tell_3, v_tell_5, v_tell_6, v_tell0, v_change, v_settled0, Option.bind_some, toI_i, toJ_j, toV_v, toR_r, up2_at, up2_na, up2_nk, up2_off, nI_add, nI_mul, nI_leI, nI_ltI, nI_eq, bI_eq0, ef], Option.bind_some, show rdI O (hp u n T I J R) 71 (nI 33 + nI f) = some (nI m) by simp (disch := first | assumption | omega) only [vc_69, gi_69_0, pi_69_0, gi_69_1, pi_69_1, ga_69_2, ga_69_3, ga_69_4, ga_69_5, ga_69_6, ga_69_7, gi_69_8, pi_69_8, ga_69_9, ga_69_10, gi_69_11, pi_69_11, ga_69_12, gi_69_13, pi_69_13, gi_69_14, pi_69_14, gi_69_15, pi_69_15, gi_69_16, pi_69_16, gj_69_17, pj_69_17, gi_69_18, pi_69_18, gi_69_19, pi_69_19, gi_69_20, pi_69_20, gi_69_21, pi_69_21, ga_69_22, gi_69_23, pi_69_23, ga_69_24, ga_69_25, gi_69_26, pi_69_26, ga_69_27, ga_69_28, gi_69_29, pi_69_29, gi_69_30, pi_69_30, ga_69_31, ga_69_32, ga_69_33, gi_69_34, pi_69_34, ga_69_35, ga_69_36, ga_69_37, gi_69_38, pi_69_38, gj_69_39, pj_69_39, gj_69_40, pj_69_40, ga_69_41, ga_69_42, ga_69_43, ga_69_44, ga_69_45, ga_69_46, ga_69_47, gi_69_48, pi_69_48, gi_69_49, pi_69_49, gi_69_50, pi_69_50, gi_69_51, pi_69_51, gj_69_52, pj_69_52, ga_69_53, gi_69_54, pi_69_54, gi_69_55, pi_69_55, rd_70, wr_70, ln_70, rd_71, wr_71, ln_71, rd_74, wr_74, ln_74, rd_75, wr_75, ln_75, v_tell_1, v_tell_2, v_tell_3, v_tell_5, v_tell_6, v_tell0, v_change, v_settled0, Option.bind_some, toI_i, toJ_j, toV_v, toR_r, up2_at, up2_na, up2_nk, up2_off, nI_add, nI_mul, nI_leI, nI_ltI, nI_eq, bI_eq0, em], Option.bind_some, vc_69 hS, a1, ep, toI_i, Option.bind_some, ho]
    by_cases hle : nI p ≤ nI m
    · rw [if_neg (Int32.not_lt.mpr hle), decide_eq_true hle]
      rfl
    · rw [if_pos (Int32.not_le.mp hle), decide_eq_false hle]
      rfl
def JkM (J J2 : Nat → Nat → Int64) : Prop := ∀ k, k ≠ 39 → k ≠ 40 → J2 69 k = J 69 k
theorem m_re (hS : St n T R) (h20 : I 69 20 = nI 0) (hw : Wf (I 71) V F D S N) (hk : k < D) (ho : reOk (I 71) D k = true) : ∃ I' J', ev O (d + 6) MX11_renewIt [.ref 69, .int (nI k)] (hp u n T I J R) = some (some (.int (prR (I 71) D k)), hp u n T I' J' R) ∧ I' 71 = reW (I 71) D k ∧ (∀ a, a ≠ 69 → a ≠ 71 → I' a = I a) ∧ (∀ k, k ≠ 34 → k ≠ 38 → I' 69 k = I 69 k) ∧ MJx J J' ∧ JkM J J' := by
  have h8 := hw.1
  obtain ⟨f, m, p, l, hf, ef, ev', hm, em, p1, p2, ep, l1, l2, el⟩ := re_all hw hk
  unfold reOk at ho
  rw [Bool.and_eq_true, ev', ep, em] at ho
  obtain ⟨v, t, h1, h2, h3, h4, h5⟩ := Wf_in hw hk (of_decide_eq_true ho.1)
  have hle := (nI_leI (by omega) (by omega)).mp (of_decide_eq_true ho.2)
  obtain ⟨I1, J1, a1, a2⟩ := v_mPrice (O := O) (d := d) (u := u) (J := J) hS h20 hw hk
  have e1 : I1 71 = I 71 := a2.1 71 (by decide)
  obtain ⟨I2, J2, a3, a4⟩ := v_mLasts (O := O) (d := d) (u := u) (J := J1) (I := I1) (k := k) hS (by rw [a2.2.1 20 (by decide) (by decide)]; exact h20) (by rw [e1]; exact hw) hk
  rw [e1, el] at a3
  have e2 : I2 71 = I 71 := (a4.1 71 (by decide)).trans e1
  have er : reW (I 71) D k = upK (upK (I 71) (33 + f) (nI (m - p))) (17 + k) (nI (min (t + l) 99)) := by
    unfold reW
    rw [ev', ep, em, el, h5, nI_sub hle, nI_add, mi_n (by omega) (by omega)]
  refine ⟨up2 (up2 I2 71 (33 + f) (nI (m - p))) 71 (17 + k) (nI (min (t + l) 99)), J2, e_X11_renewIt (d := d + 5) ?_, ?_, fun a z1 z2 => by rw [up2_off _ _ _ z2, up2_off _ _ _ z2, a4.1 a z1, a2.1 a z1], fun j z1 z2 => by rw [up2_na (by decide), up2_na (by decide), a4.2.1 j z1 z2, a2.2.1 j z1 z2], fun a ha => (MJx_SxM a4 a ha).trans (MJx_SxM a2 a ha), fun j z1 z2 => (a4.2.2.2 j z1 z2).trans (a2.2.2.2 j z1 z2)⟩
  · unfold F_X11_renewIt
    rw [vc_69 hS, a1, ep, toI_i, Option.bind_some, vc_69 hS, a3, toI_i, Option.bind_some]
    have f2 : I2 71 (42 + k) = nI f := by rw [e2]; exact ef
    have m2 : I2 71 (33 + f) = nI m := by rw [e2]; exact em
    have t2 : I2 71 (17 + k) = nI t := by rw [e2]; exact h5
    simp (disch := first | assumption | omega) only [vc_69, gi_69_0, pi_69_0, gi_69_1, pi_69_1, ga_69_2, ga_69_3, ga_69_4, ga_69_5, ga_69_6, ga_69_7, gi_69_8, pi_69_8, ga_69_9, ga_69_10, gi_69_11, pi_69_11, ga_69_12, gi_69_13, pi_69_13, gi_69_14, pi_69_14, gi_69_15, pi_69_15, gi_69_16, pi_69_16, gj_69_17, pj_69_17, gi_69_18, pi_69_18, gi_69_19, pi_69_19, gi_69_20, pi_69_20, gi_69_21, pi_69_21, ga_69_22, gi_69_23, pi_69_23, ga_69_24, ga_69_25, gi_69_26, pi_69_26, ga_69_27, ga_69_28, gi_69_29, pi_69_29, gi_69_30, pi_69_30, ga_69_31, ga_69_32, ga_69_33, gi_69_34, pi_69_34, ga_69_35, ga_69_36, ga_69_37, gi_69_38, pi_69_38, gj_69_39, pj_69_39, gj_69_40, pj_69_40, ga_69_41, ga_69_42, ga_69_43, ga_69_44, ga_69_45, ga_69_46, ga_69_47, gi_69_48, pi_69_48, gi_69_49, pi_69_49, gi_69_50, pi_69_50, gi_69_51, pi_69_51, gj_69_52, pj_69_52, ga_69_53, gi_69_54, pi_69_54, gi_69_55, pi_69_55, rd_70, wr_70, ln_70, rd_71, wr_71, ln_71, rd_74, wr_74, ln_74, rd_75, wr_75, ln_75, v_tell_1, v_tell_2, v_tell_3, v_tell_5, v_tell_6, v_tell0, v_change, v_settled0, Option.bind_some, toI_i, toJ_j, toV_v, toR_r, up2_at, up2_na, up2_nk, up2_off, nI_add, nI_mul, nI_leI, nI_ltI, nI_eq, bI_eq0, nI_sub, f2, m2, t2, v_within, wi_n]
  · rw [up2_self, up2_self, e2, er]
theorem b_renew {a1 : Int32} (hO : O = mOl L xs) (hI : Inv c K) : Bo O Inv MX10_renew MX11_renew [.int a1] c K := by
  obtain ⟨u, n, T, I, J, R, g, h, V, F, D, S, N, x, s, rfl, hI⟩ := hI
  obtain ⟨hS, hn, gg, hh, hG, hH, hw, hgd, hg⟩ := Iv_all hI
  obtain ⟨⟨v5, f4, d8, s8, n6⟩, ⟨w0, w1, w2, w3, w4⟩, hf, hs, hfam, hwi, hsn, hlw⟩ := hw
  obtain ⟨⟨c1, c2, c3, c4, c5, c6, c7, c8, c9, c10, c11, c12⟩, q1, q2, q3, q4, q5, q6, q7, q8, q9, q10, q11, ql⟩ := hgd
  obtain ⟨⟨b1, b2, b3, b4, b5⟩, b6, b7, b8, b9, b10⟩ := hI.2.2.2.2.2.2.2.1
  have hJ := hI.2.2.2.2.2.2.2.2.2
  have hu := hI.2.2.2.2.1
  have hw := hI.2.2.1
  have hgd := hI.2.2.2.1
  have hx := hu.1
  cases hb : inR a1 D with
  | false =>
    refine Bo_act (ret := -2) (w' := I 71) (k := 0) hI (by decide) (Or.inr ⟨Or.inl rfl, rfl⟩) hw (Kp.rf _) ?_ ?_
    · obtain ⟨I1, e1, a1'⟩ := v_act (O := O) (d := 198) (u := u) (J := J) (kk := 0) (a := a1) (b := -1) (ret := -2) (w' := I 71) hH hgd hn hg hx.1 hx.2.1 hx.2.2.1 hx.2.2.2.1 (Or.inl ⟨rfl, rfl, rfl⟩) (Or.inr (by decide)) (fun I' hG' => by
        refine ⟨I', e_X2_renewFor (d := 197) ?_, hG', fun _ _ _ _ _ => rfl⟩
        unfold F_X2_renewFor
        rw [vc_g hG hn, v_hasDead hG hn hG'.1.2.2.2.2.2.2.2.2.1, hb]
        rfl)
      refine ⟨I1, a1', fun Ia ha => e_X10_renew (d := 199) ?_⟩
      unfold F_X10_renew
      rw [gg, Option.bind_some, hh, Option.bind_some, e1, toI_i, Option.bind_some, vc_0 hS, ha]
      rfl
    · intro Ia i71 i69
      refine ⟨up2 Ia 69 0 (nI 0), J, ?_, fun It ht => e_X11_renew (d := 199) ?_⟩
      · have := MNw_no (s := s) (k := 0) (ret := -2) (SxM.rf 69 (up2 Ia 69 0 (nI 0)) J) (by decide)
        rw [up2_off _ _ _ (by decide), i71] at this
        exact this
      · unfold F_X11_renew
        have e : ev O 199 MX11_renewNow [.ref 69, .int a1] (hp u n T (up2 Ia 69 0 (nI 0)) J R) = some (some (.int (-2)), hp u n T (up2 Ia 69 0 (nI 0)) J R) := by
          refine e_X11_renewNow (d := 198) ?_
          unfold F_X11_renewNow
          rw [vc_69 hS, v_isDead (d := 197) hS (by rw [up2_na (by decide), i71]; exact w2) (by omega), hb]
          rfl
        rw [pi_69_0 hS, Option.bind_some, vc_69 hS, e, toI_i, Option.bind_some, vc_69 hS, ht]
        rfl
  | true =>
    obtain ⟨k, hk, rfl⟩ := inR_ex hb (by omega)
    obtain ⟨p, p1, p2, ep⟩ := prR_n (I 71) D k
    refine Bo_act (ret := if reOk (I 71) D k = true then prR (I 71) D k else -3) (w' := if reOk (I 71) D k = true then reW (I 71) D k else I 71) (k := 0) hI (by decide) ?_ ?_ ?_ ?_ ?_
    · by_cases ho : reOk (I 71) D k = true
      · rw [if_pos ho, if_pos ho]
        exact Or.inl ⟨p, by omega, ep⟩
      · rw [if_neg ho, if_neg ho]
        exact Or.inr ⟨Or.inr rfl, rfl⟩
    · by_cases ho : reOk (I 71) D k = true
      · rw [if_pos ho]
        exact (Wf_reW hw hk ho).1
      · rw [if_neg ho]
        exact hw
    · by_cases ho : reOk (I 71) D k = true
      · rw [if_pos ho]
        exact (Wf_reW hw hk ho).2
      · rw [if_neg ho]
        exact Kp.rf _
    · obtain ⟨I1, e1, a1'⟩ := v_act (O := O) (d := 198) (u := u) (J := J) (kk := 0) (a := nI k) (b := -1) (ret := if reOk (I 71) D k = true then prR (I 71) D k else -3) (w' := if reOk (I 71) D k = true then reW (I 71) D k else I 71) hH hgd hn hg hx.1 hx.2.1 hx.2.2.1 hx.2.2.2.1 (Or.inl ⟨rfl, rfl, rfl⟩) (by
          by_cases ho : reOk (I 71) D k = true
          · rw [if_pos ho]
            exact Or.inl ⟨p, by omega, ep⟩
          · rw [if_neg ho]
            exact Or.inr (by decide)) (fun I' hG' => c_re (d := 195) hO hS hG' hw hn (by omega) hk)
      refine ⟨I1, a1', fun Ia ha => e_X10_renew (d := 199) ?_⟩
      unfold F_X10_renew
      rw [gg, Option.bind_some, hh, Option.bind_some, e1, toI_i, Option.bind_some, vc_0 hS, ha]
      rfl
    · intro Ia i71 i69
      have j71 : up2 Ia 69 0 (nI 0) 71 = I 71 := by rw [up2_off _ _ _ (by decide), i71]
      have hwa : Wf (up2 Ia 69 0 (nI 0) 71) V F D S N := by rw [j71]; exact hw
      have j20 : up2 Ia 69 0 (nI 0) 69 20 = nI 0 := by rw [up2_nk (by decide), i69]; exact b5
      obtain ⟨I3, J3, ck, s3⟩ := m_canRe (O := O) (d := 192) (u := u) (J := J) (I := up2 Ia 69 0 (nI 0)) hS j20 hwa hk
      rw [j71] at ck
      have k71 : I3 71 = I 71 := by rw [s3.1 71 (by decide)]; exact j71
      have isd := v_isDead (O := O) (d := 197) (u := u) (J := J) (I := up2 Ia 69 0 (nI 0)) (v := nI k) hS (by rw [j71]; exact w2) (by omega)
      rw [hb] at isd
      by_cases ho : reOk (I 71) D k = true
      · rw [if_pos ho, if_pos ho]
        obtain ⟨Ib, er, rm⟩ := v_remember (O := O) (d := 196) (u := u) (J := J3) (I := I3) (s := s) (k := 0) hS (by rw [s3.2.1 8 (by decide) (by decide), up2_nk (by decide), i69]; exact hx.2.2.2.2) hx.2.2.2.1
        have b71 : Ib 71 = I 71 := by rw [rm.1 71 (by decide) (by decide) (by decide)]; exact k71
        obtain ⟨I2, J2, e2, m1, m2, m3, m4, -⟩ := m_re (O := O) (d := 192) (u := u) (J := J3) (I := Ib) hS (by rw [rm.2.1 20 (by decide), s3.2.1 20 (by decide) (by decide)]; exact j20) (by rw [b71]; exact hw) hk (by rw [b71]; exact ho)
        rw [b71] at m1 e2
        refine ⟨I2, J2, ⟨m1, fun a h1 h2 h3 h4 _ => by rw [m2 a h1 h2, rm.1 a h1 h3 h4, s3.1 a h1], fun j hj => by rw [m3 j (by omega) (by omega), rm.2.1 j (by omega), s3.2.1 j (by omega) (by omega)], fun a ha => (m4 a ha).trans (MJx_SxM s3 a ha), Or.inr ⟨by rw [ep]; exact nI_le (Nat.zero_le _) (by omega), I3, Ib, s3.1 71 (by decide), s3.2.1 8 (by decide) (by decide), s3.1 74 (by decide), s3.1 75 (by decide), rm, m3 8 (by decide) (by decide), m2 74 (by decide) (by decide), m2 75 (by decide) (by decide)⟩⟩, fun It ht => e_X11_renew (d := 199) ?_⟩
        have e : ev O 199 MX11_renewNow [.ref 69, .int (nI k)] (hp u n T (up2 Ia 69 0 (nI 0)) J R) = some (some (.int (prR (I 71) D k)), hp u n T I2 J2 R) := by
          refine e_X11_renewNow (d := 198) ?_
          unfold F_X11_renewNow
          rw [vc_69 hS, isd, toI_i, Option.bind_some, if_neg nbt, vc_69 hS, ck, toI_i, Option.bind_some, if_neg (by rw [ho]; exact nbt), vc_69 hS, er, toV_v, Option.bind_some, vc_69 hS, e2]
          rfl
        unfold F_X11_renew
        rw [pi_69_0 hS, Option.bind_some, vc_69 hS, e, toI_i, Option.bind_some, vc_69 hS, ht]
        rfl
      · rw [if_neg ho, if_neg ho]
        refine ⟨I3, J3, ?_, fun It ht => e_X11_renew (d := 199) ?_⟩
        · have := MNw_no (s := s) (k := 0) (ret := -3) s3 (by decide)
          rw [j71] at this
          exact this
        · unfold F_X11_renew
          have e : ev O 199 MX11_renewNow [.ref 69, .int (nI k)] (hp u n T (up2 Ia 69 0 (nI 0)) J R) = some (some (.int (-3)), hp u n T I3 J3 R) := by
            refine e_X11_renewNow (d := 198) ?_
            unfold F_X11_renewNow
            rw [vc_69 hS, isd, toI_i, Option.bind_some, if_neg nbt, vc_69 hS, ck, toI_i, Option.bind_some, if_pos (by rw [Bool.eq_false_iff.mpr ho]; rfl)]
          rw [pi_69_0 hS, Option.bind_some, vc_69 hS, e, toI_i, Option.bind_some, vc_69 hS, ht]
          rfl
end RE
