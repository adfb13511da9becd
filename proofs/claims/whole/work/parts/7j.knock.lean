/-! acts: knock -/
section KN
variable {O : mO} {c d u n : Nat} {T : Nat → mT} {I : Nat → Nat → Int32} {J : Nat → Nat → Int64} {R : Nat → Nat → Option Nat} {g h V F D S N x s k : Nat} {w w' : Nat → Int32} {K : mH} {ret : Int32}
theorem mi_n {a b : Nat} (ha : a < 2 ^ 31) (hb : b < 2 ^ 31) : (if nI a < nI b then nI a else nI b) = nI (min a b) := by
  by_cases h : a < b
  · rw [if_pos ((nI_ltI ha hb).mpr h), Nat.min_eq_left (by omega)]
  · rw [if_neg (fun z => h ((nI_ltI ha hb).mp z)), Nat.min_eq_right (by omega)]
theorem wi_n {a b : Nat} (ha : a < 2 ^ 31) (hb : b < 2 ^ 31) : wiF (nI a).toInt64 (nI 0) (nI b) = nI (min a b) := by
  rw [wi_cl (nI_le (Nat.zero_le b) hb), mi_n ha hb]
  by_cases h : 0 < min a b
  · rw [if_pos ((nI_ltI (by omega) (by omega)).mpr h)]
  · rw [if_neg (fun z => h ((nI_ltI (by omega) (by omega)).mp z)), show min a b = 0 by omega]
theorem mi_m (a b : Nat) : (if a < b then nI a else nI b) = nI (min a b) := by
  by_cases h : a < b
  · rw [if_pos h, Nat.min_eq_left (by omega)]
  · rw [if_neg h, Nat.min_eq_right (by omega)]
theorem nbt : ¬ bI true = 0 := by decide
/-- rows with other years, knocks, purses -/
theorem WfS_t {z bd : Nat → Int32} {t : Nat} (hs : WfS z bd V F D) (h8 : D ≤ 8) (hk : k < D) (hin : z (9 + k) ≠ -1) (h1 : 1 ≤ t) (h99 : t ≤ 99) : WfS (upK z (17 + k) (nI t)) bd V F D := by
  obtain ⟨a1, a2, a3, a4, a5, a6, a7⟩ := hs
  refine ⟨by (try simp (disch := omega) only [upK_at, upK_ne]); exact a1, by (try simp (disch := omega) only [upK_at, upK_ne]); exact a2, by (try simp (disch := omega) only [upK_at, upK_ne]); exact a3, fun j hj => ?_, fun j hj => by (try simp (disch := omega) only [upK_at, upK_ne]); exact a5 j hj, fun j hj => by (try simp (disch := omega) only [upK_at, upK_ne]); exact a6 j hj, fun v hv => ?_⟩
  · rw [upK_ne (show 9 + j ≠ 17 + k by omega)]
    by_cases e : j = k
    · subst e
      right
      rcases a4 j hj with ⟨z1, -⟩ | ⟨v, t', z1, -, -, z2, -⟩
      · exact absurd z1 hin
      · exact ⟨v, t, z1, h1, h99, z2, upK_at _ _ _⟩
    · rw [upK_ne (show 17 + j ≠ 17 + k by omega)]
      exact a4 j hj
  · rw [cnt_cg (w := fun j => z (9 + j)) (fun j hj => upK_ne (by omega))]
    exact a7 v hv
theorem WfS_kn {z bd : Nat → Int32} (hs : WfS z bd V F D) (h8 : D ≤ 8) (h4 : F ≤ 4) (hk : k < D) : WfS (upK z (25 + k) (nI 1)) bd V F D := by
  obtain ⟨a1, a2, a3, a4, a5, a6, a7⟩ := hs
  refine ⟨by (try simp (disch := omega) only [upK_at, upK_ne]); exact a1, by (try simp (disch := omega) only [upK_at, upK_ne]); exact a2, by (try simp (disch := omega) only [upK_at, upK_ne]); exact a3, fun j hj => by (try simp (disch := omega) only [upK_at, upK_ne]); exact a4 j hj, fun j hj => ?_, fun j hj => by (try simp (disch := omega) only [upK_at, upK_ne]); exact a6 j hj, fun v hv => ?_⟩
  · by_cases e : j = k
    · subst e
      rw [upK_at]
      exact ⟨⟨1, Nat.le_refl 1, rfl⟩, fun z => absurd hk (by omega)⟩
    · rw [upK_ne (show 25 + j ≠ 25 + k by omega)]
      exact a5 j hj
  · rw [cnt_cg (w := fun j => z (9 + j)) (fun j hj => upK_ne (by omega))]
    exact a7 v hv
theorem WfS_pu {z bd : Nat → Int32} {f m : Nat} (hs : WfS z bd V F D) (h8 : D ≤ 8) (h4 : F ≤ 4) (hf : f < F) (hm : m ≤ 999) : WfS (upK z (33 + f) (nI m)) bd V F D := by
  obtain ⟨a1, a2, a3, a4, a5, a6, a7⟩ := hs
  refine ⟨by (try simp (disch := omega) only [upK_at, upK_ne]); exact a1, by (try simp (disch := omega) only [upK_at, upK_ne]); exact a2, by (try simp (disch := omega) only [upK_at, upK_ne]); exact a3, fun j hj => by (try simp (disch := omega) only [upK_at, upK_ne]); exact a4 j hj, fun j hj => by (try simp (disch := omega) only [upK_at, upK_ne]); exact a5 j hj, fun j hj => ?_, fun v hv => ?_⟩
  · by_cases e : j = f
    · subst e
      rw [upK_at]
      exact ⟨m, hm, rfl⟩
    · rw [upK_ne (show 33 + j ≠ 33 + f by omega)]
      exact a6 j hj
  · rw [cnt_cg (w := fun j => z (9 + j)) (fun j hj => upK_ne (by omega))]
    exact a7 v hv
/-- one who is in: the years -/
theorem Wf_in (hw : Wf w V F D S N) (hk : k < D) (hin : w (9 + k) ≠ -1) : ∃ v t, v < V ∧ 1 ≤ t ∧ t ≤ 99 ∧ w (9 + k) = nI v ∧ w (17 + k) = nI t := by
  rcases hw.2.2.2.1.2.2.2.1 k hk with ⟨z1, -⟩ | z
  · exact absurd z1 hin
  · exact z
theorem Wf_kn (hw : Wf w V F D S N) (hk : k < D) : w (25 + k) = nI 0 ∨ w (25 + k) = nI 1 := by
  have := hw.1
  obtain ⟨⟨m, h1, h2⟩, -⟩ := hw.2.2.2.1.2.2.2.2.1 k (by omega)
  have : m = 0 ∨ m = 1 := by omega
  rcases this with rfl | rfl
  · exact Or.inl h2
  · exact Or.inr h2
theorem nv_n {i t : Nat} (h : w i = nI t) (ht : t < 2 ^ 31) : nv w i = t := by
  unfold nv
  rw [h, nI_clamp ht]
def knOk (w : Nat → Int32) (k : Nat) : Bool := decide (w (9 + k) ≠ -1) && decide (w (25 + k) = nI 0)
def knT (w : Nat → Int32) (k : Nat) : Nat := min (nv w (17 + k) + 1) 99
def knW (w : Nat → Int32) (k : Nat) : Nat → Int32 := upK (upK w (25 + k) (nI 1)) (17 + k) (nI (knT w k))
theorem Wf_knW (hw : Wf w V F D S N) (hk : k < D) (ho : knOk w k = true) : Wf (knW w k) V F D S N ∧ Kp w (knW w k) := by
  have h8 := hw.1
  unfold knOk at ho
  rw [Bool.and_eq_true] at ho
  have hin : w (9 + k) ≠ -1 := of_decide_eq_true ho.1
  obtain ⟨v, t, h1, h2, h3, h4, h5⟩ := Wf_in hw hk hin
  have et : knT w k = min (t + 1) 99 := by unfold knT; rw [nv_n h5 (by omega)]
  refine ⟨Wf_S hw (z := knW w k) ?_ (fun _ _ _ => rfl) (fun i hi => ?_), fun i hi => ?_⟩
  · unfold knW
    refine WfS_t (WfS_kn hw.2.2.2.1 (by omega) (by omega) hk) (by omega) hk (by (try simp (disch := omega) only [upK_at, upK_ne]); exact hin) (by omega) (by omega)
  · unfold knW
    (try simp (disch := omega) only [upK_at, upK_ne])
  · unfold knW
    (try simp (disch := omega) only [upK_at, upK_ne])
/-- the class: upon any ground -/
theorem c_kn (hG : Gnd n T I R g w V F D S N) (hw : Wf w V F D S N) (hn : n ≤ oB) (h98 : g + 10 < 98) (hk : k < D) : ∃ I1, ev O (d + 2) MX2_knockBy [.ref g, .int (nI k)] (hp u n T I J R) = some (some (.int (if knOk w k = true then nI (knT w k) else -3)), hp u n T I1 J R) ∧ Gnd n T I1 R g (if knOk w k = true then knW w k else w) V F D S N ∧ CAo g I I1 := by
  have h8 := hw.1
  obtain ⟨⟨c1, c2, c3, c4, c5, c6, c7, c8, c9, c10, c11, c12⟩, q1, q2, q3, q4, q5, q6, q7, q8, q9, q10, q11, ql⟩ := id hG
  have hd := v_hasDead (O := O) (d := d + 1) (u := u) (J := J) (v := nI k) c2 hn c9
  rw [inR_nI hk (by omega)] at hd
  have isI := v_cIsIn (O := O) (d := d) (u := u) (I := I) (J := J) (v := nI k) c2 hn c9 c10
  rw [inR_nI hk (by omega), Bool.true_and, nI_clamp (by omega), q6 k (by omega)] at isI
  have hkb : ((I g 14 >>> (nI k &&& 31)) &&& nI 1) = w (25 + k) := q11 k (by omega)
  by_cases hi : w (9 + k) = -1
  · have ho : knOk w k = false := by unfold knOk; rw [decide_eq_false (fun z => z hi)]; rfl
    refine ⟨I, e_X2_knockBy (d := d + 1) ?_, by rw [if_neg (by rw [ho]; decide)]; exact hG, fun _ _ _ _ _ => rfl⟩
    unfold F_X2_knockBy
    rw [vc_g c2 hn, hd, toI_i, Option.bind_some, if_neg nbt, vc_g c2 hn, isI, toI_i, Option.bind_some, if_pos (by rw [decide_eq_false (fun z => z hi)]; rfl), ho]
    rfl
  · rcases Wf_kn hw hk with hb | hb
    · have ho : knOk w k = true := by unfold knOk; rw [decide_eq_true hi, decide_eq_true hb]; rfl
      obtain ⟨v, t, h1, h2, h3, h4, h5⟩ := Wf_in hw hk hi
      have et : knT w k = min (t + 1) 99 := by unfold knT; rw [nv_n h5 (by omega)]
      refine ⟨up2 (up2 I g 14 (I g 14 ||| (nI 1 <<< (nI k &&& 31)))) (g + 5) k (nI (knT w k)), e_X2_knockBy (d := d + 1) ?_, ?_, fun a ha _ _ _ => by rw [up2_off _ _ _ (by omega), up2_off _ _ _ (by omega)]⟩
      · unfold F_X2_knockBy
        rw [vc_g c2 hn, hd, toI_i, Option.bind_some, if_neg nbt, vc_g c2 hn, isI, toI_i, Option.bind_some, if_neg (by rw [decide_eq_true hi]; exact nbt)]
        simp (disch := first | assumption | omega) only [ga_g_1, ga_g_2, ga_g_3, ga_g_4, ga_g_5, ga_g_6, ga_g_7, ga_g_8, ga_g_9, ga_g_10, gi_g_11, pi_g_11, gi_g_12, pi_g_12, gi_g_13, pi_g_13, gi_g_14, pi_g_14, gi_g_15, pi_g_15, gi_g_16, pi_g_16, gi_g_17, pi_g_17, ga_g_0, vc_g, rd_g_1, wr_g_1, ln_g_1, rd_g_2, wr_g_2, ln_g_2, rd_g_3, wr_g_3, ln_g_3, rd_g_4, wr_g_4, ln_g_4, rd_g_5, wr_g_5, ln_g_5, rd_g_6, wr_g_6, ln_g_6, rd_g_7, wr_g_7, ln_g_7, rd_g_8, wr_g_8, ln_g_8, rd_g_9, wr_g_9, ln_g_9, rd_g_10, Option.bind_some, toI_i, toJ_j, toV_v, toR_r, up2_at, up2_na, up2_nk, up2_off, nI_add, nI_mul, nI_leI, nI_ltI, nI_eq, bI_eq0]
        rw [if_neg (by rw [hkb, hb]; decide)]
        simp (disch := first | assumption | omega) only [ga_g_1, ga_g_2, ga_g_3, ga_g_4, ga_g_5, ga_g_6, ga_g_7, ga_g_8, ga_g_9, ga_g_10, gi_g_11, pi_g_11, gi_g_12, pi_g_12, gi_g_13, pi_g_13, gi_g_14, pi_g_14, gi_g_15, pi_g_15, gi_g_16, pi_g_16, gi_g_17, pi_g_17, ga_g_0, vc_g, rd_g_1, wr_g_1, ln_g_1, rd_g_2, wr_g_2, ln_g_2, rd_g_3, wr_g_3, ln_g_3, rd_g_4, wr_g_4, ln_g_4, rd_g_5, wr_g_5, ln_g_5, rd_g_6, wr_g_6, ln_g_6, rd_g_7, wr_g_7, ln_g_7, rd_g_8, wr_g_8, ln_g_8, rd_g_9, wr_g_9, ln_g_9, rd_g_10, Option.bind_some, toI_i, toJ_j, toV_v, toR_r, up2_at, up2_na, up2_nk, up2_off, nI_add, nI_mul, nI_leI, nI_ltI, nI_eq, bI_eq0, q7 k (by omega), h5]
        rw [mi_m, ← et, if_pos ho]
      · rw [if_pos ho]
        refine Gnd_ch hG (fun j hj => by rw [up2_na (by omega), up2_nk hj]) (fun j hj => by rw [up2_off _ _ _ (by omega), up2_off _ _ _ (by omega)]) (fun i hi => by unfold knW; (try simp (disch := omega) only [upK_at, upK_ne])) (fun j hj => by unfold knW; (try simp (disch := omega) only [up2_at, up2_na, up2_nk, up2_off]); (try simp (disch := omega) only [upK_at, upK_ne]); exact q4 j hj) (fun j hj => by unfold knW; (try simp (disch := omega) only [up2_at, up2_na, up2_nk, up2_off]); (try simp (disch := omega) only [upK_at, upK_ne]); exact q6 j hj) (fun j hj => ?_) (fun j hj => by unfold knW; (try simp (disch := omega) only [up2_at, up2_na, up2_nk, up2_off]); (try simp (disch := omega) only [upK_at, upK_ne]); exact q10 j hj) (fun j hj => ?_) (fun a ha => by rw [up2_off _ _ _ (by omega), up2_off _ _ _ (by omega)])
        · unfold knW
          by_cases e : j = k
          · subst e
            rw [up2_at, upK_at]
          · rw [up2_nk e, up2_na (by omega), upK_ne (by omega), upK_ne (by omega)]
            exact q7 j hj
        · unfold knW
          rw [up2_na (by omega), up2_at, kb_set _ hj (by omega), upK_ne (by omega)]
          by_cases e : j = k
          · subst e
            rw [if_pos rfl, upK_at]
          · rw [if_neg e, upK_ne (by omega)]
            exact q11 j hj
    · have hb0 : ¬ w (25 + k) = nI 0 := by rw [hb]; decide
      have ho : knOk w k = false := by unfold knOk; rw [decide_eq_false hb0, Bool.and_false]
      refine ⟨I, e_X2_knockBy (d := d + 1) ?_, by rw [if_neg (by rw [ho]; decide)]; exact hG, fun _ _ _ _ _ => rfl⟩
      unfold F_X2_knockBy
      rw [vc_g c2 hn, hd, toI_i, Option.bind_some, if_neg nbt, vc_g c2 hn, isI, toI_i, Option.bind_some, if_neg (by rw [decide_eq_true hi]; exact nbt)]
      simp (disch := first | assumption | omega) only [ga_g_1, ga_g_2, ga_g_3, ga_g_4, ga_g_5, ga_g_6, ga_g_7, ga_g_8, ga_g_9, ga_g_10, gi_g_11, pi_g_11, gi_g_12, pi_g_12, gi_g_13, pi_g_13, gi_g_14, pi_g_14, gi_g_15, pi_g_15, gi_g_16, pi_g_16, gi_g_17, pi_g_17, ga_g_0, vc_g, rd_g_1, wr_g_1, ln_g_1, rd_g_2, wr_g_2, ln_g_2, rd_g_3, wr_g_3, ln_g_3, rd_g_4, wr_g_4, ln_g_4, rd_g_5, wr_g_5, ln_g_5, rd_g_6, wr_g_6, ln_g_6, rd_g_7, wr_g_7, ln_g_7, rd_g_8, wr_g_8, ln_g_8, rd_g_9, wr_g_9, ln_g_9, rd_g_10, Option.bind_some, toI_i, toJ_j, toV_v, toR_r, up2_at, up2_na, up2_nk, up2_off, nI_add, nI_mul, nI_leI, nI_ltI, nI_eq, bI_eq0]
      rw [if_pos (by rw [hkb, hb]), ho]
      rfl
/-- the reference -/
theorem m_canKn (hS : St n T R) (hw : Wf (I 71) V F D S N) (hk : k < D) : ev O (d + 1) MX11_canKnock [.ref 69, .int (nI k)] (hp u n T I J R) = some (some (.int (bI (knOk (I 71) k))), hp u n T I J R) := by
  have h8 := hw.1
  refine e_X11_canKnock ?_
  unfold F_X11_canKnock
  rw [vc_69 hS, v_isIn hS (by omega), toI_i, Option.bind_some]
  unfold knOk
  by_cases hi : I 71 (9 + k) = -1
  · rw [if_pos (by rw [decide_eq_false (fun z => z hi)]; rfl), decide_eq_false (fun z => z hi)]
    rfl
  · rw [if_neg (by rw [decide_eq_true hi]; exact nbt), decide_eq_true hi]
    simp (disch := first | assumption | omega) only [vc_69, gi_69_0, pi_69_0, gi_69_1, pi_69_1, ga_69_2, ga_69_3, ga_69_4, ga_69_5, ga_69_6, ga_69_7, gi_69_8, pi_69_8, ga_69_9, ga_69_10, gi_69_11, pi_69_11, ga_69_12, gi_69_13, pi_69_13, gi_69_14, pi_69_14, gi_69_15, pi_69_15, gi_69_16, pi_69_16, gj_69_17, pj_69_17, gi_69_18, pi_69_18, gi_69_19, pi_69_19, gi_69_20, pi_69_20, gi_69_21, pi_69_21, ga_69_22, gi_69_23, pi_69_23, ga_69_24, ga_69_25, gi_69_26, pi_69_26, ga_69_27, ga_69_28, gi_69_29, pi_69_29, gi_69_30, pi_69_30, ga_69_31, ga_69_32, ga_69_33, gi_69_34, pi_69_34, ga_69_35, ga_69_36, ga_69_37, gi_69_38, pi_69_38, gj_69_39, pj_69_39, gj_69_40, pj_69_40, ga_69_41, ga_69_42, ga_69_43, ga_69_44, ga_69_45, ga_69_46, ga_69_47, gi_69_48, pi_69_48, gi_69_49, pi_69_49, gi_69_50, pi_69_50, gi_69_51, pi_69_51, gj_69_52, pj_69_52, ga_69_53, gi_69_54, pi_69_54, gi_69_55, pi_69_55, rd_70, wr_70, ln_70, rd_71, wr_71, ln_71, rd_74, wr_74, ln_74, rd_75, wr_75, ln_75, v_tell_1, v_tell_2, v_tell_3, v_tell_5, v_tell_6, v_tell0, v_change, v_settled0, Option.bind_some, toI_i, toJ_j, toV_v, toR_r, up2_at, up2_na, up2_nk, up2_off, nI_add, nI_mul, nI_leI, nI_ltI, nI_eq, bI_eq0]
    rcases Wf_kn hw hk with hb | hb
    · rw [hb]
      rfl
    · rw [hb]
      rfl
theorem m_kn (hS : St n T R) (hw : Wf (I 71) V F D S N) (hk : k < D) (ho : knOk (I 71) k = true) : ∃ I', ev O (d + 1) MX11_knockIt [.ref 69, .int (nI k)] (hp u n T I J R) = some (none, hp u n T I' J R) ∧ I' 71 = knW (I 71) k ∧ ∀ a, a ≠ 71 → I' a = I a := by
  have h8 := hw.1
  unfold knOk at ho
  rw [Bool.and_eq_true] at ho
  obtain ⟨v, t, h1, h2, h3, h4, h5⟩ := Wf_in hw hk (of_decide_eq_true ho.1)
  have et : knT (I 71) k = min (t + 1) 99 := by unfold knT; rw [nv_n h5 (by omega)]
  refine ⟨up2 (up2 I 71 (25 + k) (nI 1)) 71 (17 + k) (nI (knT (I 71) k)), e_X11_knockIt ?_, ?_, fun a ha => by rw [up2_off _ _ _ ha, up2_off _ _ _ ha]⟩
  · unfold F_X11_knockIt
    simp (disch := first | assumption | omega) only [vc_69, gi_69_0, pi_69_0, gi_69_1, pi_69_1, ga_69_2, ga_69_3, ga_69_4, ga_69_5, ga_69_6, ga_69_7, gi_69_8, pi_69_8, ga_69_9, ga_69_10, gi_69_11, pi_69_11, ga_69_12, gi_69_13, pi_69_13, gi_69_14, pi_69_14, gi_69_15, pi_69_15, gi_69_16, pi_69_16, gj_69_17, pj_69_17, gi_69_18, pi_69_18, gi_69_19, pi_69_19, gi_69_20, pi_69_20, gi_69_21, pi_69_21, ga_69_22, gi_69_23, pi_69_23, ga_69_24, ga_69_25, gi_69_26, pi_69_26, ga_69_27, ga_69_28, gi_69_29, pi_69_29, gi_69_30, pi_69_30, ga_69_31, ga_69_32, ga_69_33, gi_69_34, pi_69_34, ga_69_35, ga_69_36, ga_69_37, gi_69_38, pi_69_38, gj_69_39, pj_69_39, gj_69_40, pj_69_40, ga_69_41, ga_69_42, ga_69_43, ga_69_44, ga_69_45, ga_69_46, ga_69_47, gi_69_48, pi_69_48, gi_69_49, pi_69_49, gi_69_50, pi_69_50, gi_69_51, pi_69_51, gj_69_52, pj_69_52, ga_69_53, gi_69_54, pi_69_54, gi_69_55, pi_69_55, rd_70, wr_70, ln_70, rd_71, wr_71, ln_71, rd_74, wr_74, ln_74, rd_75, wr_75, ln_75, v_tell_1, v_tell_2, v_tell_3, v_tell_5, v_tell_6, v_tell0, v_change, v_settled0, Option.bind_some, toI_i, toJ_j, toV_v, toR_r, up2_at, up2_na, up2_nk, up2_off, nI_add, nI_mul, nI_leI, nI_ltI, nI_eq, bI_eq0, h5, v_within, wi_n, et]
  · rw [up2_self, up2_self]
    rfl
theorem b_knock {a1 : Int32} (hI : Inv c K) : Bo O Inv MX10_knock MX11_knock [.int a1] c K := by
  obtain ⟨u, n, T, I, J, R, g, h, V, F, D, S, N, x, s, rfl, hI⟩ := hI
  obtain ⟨hS, hn, gg, hh, hG, hH, hw, hgd, hg⟩ := Iv_all hI
  obtain ⟨⟨v5, f4, d8, s8, n6⟩, ⟨w0, w1, w2, w3, w4⟩, hf, hs, hfam, hwi, hsn, hlw⟩ := hw
  obtain ⟨⟨c1, c2, c3, c4, c5, c6, c7, c8, c9, c10, c11, c12⟩, q1, q2, q3, q4, q5, q6, q7, q8, q9, q10, q11, ql⟩ := hgd
  obtain ⟨⟨b1, b2, b3, b4, b5⟩, b6, b7, b8, b9, b10⟩ := hI.2.2.2.2.2.2.2.1
  have hJ := hI.2.2.2.2.2.2.2.2.2
  have hu := hI.2.2.2.2.1
  have hw := hI.2.2.1
  have hgd := hI.2.2.2.1
  have hx := hu.1
  cases hb : inR a1 D with
  | false =>
    refine Bo_act (ret := -2) (w' := I 71) (k := 2) hI (by decide) (Or.inr ⟨Or.inl rfl, rfl⟩) hw (Kp.rf _) ?_ ?_
    · obtain ⟨I1, e1, a1'⟩ := v_act (O := O) (d := 198) (u := u) (J := J) (kk := 2) (a := a1) (b := -1) (ret := -2) (w' := I 71) hH hgd hn hg hx.1 hx.2.1 hx.2.2.1 hx.2.2.2.1 (Or.inr (Or.inr (Or.inl ⟨rfl, rfl, rfl⟩))) (Or.inr (by decide)) (fun I' hG' => by
        refine ⟨I', e_X2_knockBy (d := 197) ?_, hG', fun _ _ _ _ _ => rfl⟩
        unfold F_X2_knockBy
        rw [vc_g hG hn, v_hasDead hG hn hG'.1.2.2.2.2.2.2.2.2.1, hb]
        rfl)
      refine ⟨I1, a1', fun Ia ha => e_X10_knock (d := 199) ?_⟩
      unfold F_X10_knock
      rw [gg, Option.bind_some, hh, Option.bind_some, e1, toI_i, Option.bind_some, vc_0 hS, ha]
      rfl
    · intro Ia i71 i69
      refine ⟨up2 Ia 69 0 (nI 0), J, ?_, fun It ht => e_X11_knock (d := 199) ?_⟩
      · have := MNw_no (s := s) (k := 2) (ret := -2) (SxM.rf 69 (up2 Ia 69 0 (nI 0)) J) (by decide)
        rw [up2_off _ _ _ (by decide), i71] at this
        exact this
      · unfold F_X11_knock
        have e : ev O 199 MX11_knockNow [.ref 69, .int a1] (hp u n T (up2 Ia 69 0 (nI 0)) J R) = some (some (.int (-2)), hp u n T (up2 Ia 69 0 (nI 0)) J R) := by
          refine e_X11_knockNow (d := 198) ?_
          unfold F_X11_knockNow
          rw [vc_69 hS, v_isDead (d := 197) hS (by rw [up2_na (by decide), i71]; exact w2) (by omega), hb]
          rfl
        rw [pi_69_0 hS, Option.bind_some, vc_69 hS, e, toI_i, Option.bind_some, vc_69 hS, ht]
        rfl
  | true =>
    obtain ⟨k, hk, rfl⟩ := inR_ex hb (by omega)
    refine Bo_act (ret := if knOk (I 71) k = true then nI (knT (I 71) k) else -3) (w' := if knOk (I 71) k = true then knW (I 71) k else I 71) (k := 2) hI (by decide) ?_ ?_ ?_ ?_ ?_
    · by_cases ho : knOk (I 71) k = true
      · rw [if_pos ho, if_pos ho]
        exact Or.inl ⟨_, by unfold knT; omega, rfl⟩
      · rw [if_neg ho, if_neg ho]
        exact Or.inr ⟨Or.inr rfl, rfl⟩
    · by_cases ho : knOk (I 71) k = true
      · rw [if_pos ho]
        exact (Wf_knW hw hk ho).1
      · rw [if_neg ho]
        exact hw
    · by_cases ho : knOk (I 71) k = true
      · rw [if_pos ho]
        exact (Wf_knW hw hk ho).2
      · rw [if_neg ho]
        exact Kp.rf _
    · obtain ⟨I1, e1, a1'⟩ := v_act (O := O) (d := 198) (u := u) (J := J) (kk := 2) (a := nI k) (b := -1) (ret := if knOk (I 71) k = true then nI (knT (I 71) k) else -3) (w' := if knOk (I 71) k = true then knW (I 71) k else I 71) hH hgd hn hg hx.1 hx.2.1 hx.2.2.1 hx.2.2.2.1 (Or.inr (Or.inr (Or.inl ⟨rfl, rfl, rfl⟩))) (by
          by_cases ho : knOk (I 71) k = true
          · rw [if_pos ho]
            exact Or.inl ⟨_, by unfold knT; omega, rfl⟩
          · rw [if_neg ho]
            exact Or.inr (by decide)) (fun I' hG' => c_kn (d := 196) hG' hw hn (by omega) hk)
      refine ⟨I1, a1', fun Ia ha => e_X10_knock (d := 199) ?_⟩
      unfold F_X10_knock
      rw [gg, Option.bind_some, hh, Option.bind_some, e1, toI_i, Option.bind_some, vc_0 hS, ha]
      rfl
    · intro Ia i71 i69
      have j71 : up2 Ia 69 0 (nI 0) 71 = I 71 := by rw [up2_off _ _ _ (by decide), i71]
      have hwa : Wf (up2 Ia 69 0 (nI 0) 71) V F D S N := by rw [j71]; exact hw
      have ck := m_canKn (O := O) (d := 197) (u := u) (J := J) (I := up2 Ia 69 0 (nI 0)) hS hwa hk
      rw [j71] at ck
      have isd := v_isDead (O := O) (d := 197) (u := u) (J := J) (I := up2 Ia 69 0 (nI 0)) (v := nI k) hS (by rw [j71]; exact w2) (by omega)
      rw [hb] at isd
      by_cases ho : knOk (I 71) k = true
      · rw [if_pos ho, if_pos ho]
        obtain ⟨Ib, er, rm⟩ := v_remember (O := O) (d := 196) (u := u) (J := J) (I := up2 Ia 69 0 (nI 0)) (s := s) (k := 2) hS (by rw [up2_nk (by decide), i69]; exact hx.2.2.2.2) hx.2.2.2.1
        have b71 : Ib 71 = I 71 := by rw [rm.1 71 (by decide) (by decide) (by decide)]; exact j71
        obtain ⟨I2, e2, m1, m2⟩ := m_kn (O := O) (d := 197) (u := u) (J := J) (I := Ib) hS (by rw [b71]; exact hw) hk (by rw [b71]; exact ho)
        rw [b71] at m1
        refine ⟨I2, J, ⟨m1, fun a h1 h2 h3 h4 _ => by rw [m2 a h2, rm.1 a h1 h3 h4], fun j hj => by rw [m2 69 (by decide), rm.2.1 j (by omega)], MJx_r J, Or.inr ⟨nI_le (Nat.zero_le _) (by unfold knT; omega), _, Ib, rfl, rfl, rfl, rfl, rm, by rw [m2 69 (by decide)], m2 74 (by decide), m2 75 (by decide)⟩⟩, fun It ht => e_X11_knock (d := 199) ?_⟩
        have e : ev O 199 MX11_knockNow [.ref 69, .int (nI k)] (hp u n T (up2 Ia 69 0 (nI 0)) J R) = some (some (.int (nI (knT (I 71) k))), hp u n T I2 J R) := by
          refine e_X11_knockNow (d := 198) ?_
          unfold F_X11_knockNow
          rw [vc_69 hS, isd, toI_i, Option.bind_some, if_neg nbt, vc_69 hS, ck, toI_i, Option.bind_some, if_neg (by rw [ho]; exact nbt), vc_69 hS, er, toV_v, Option.bind_some, vc_69 hS, e2, toV_v, Option.bind_some]
          have r17 : I2 71 (17 + k) = nI (knT (I 71) k) := by rw [m1]; exact upK_at _ _ _
          simp (disch := first | assumption | omega) only [vc_69, gi_69_0, pi_69_0, gi_69_1, pi_69_1, ga_69_2, ga_69_3, ga_69_4, ga_69_5, ga_69_6, ga_69_7, gi_69_8, pi_69_8, ga_69_9, ga_69_10, gi_69_11, pi_69_11, ga_69_12, gi_69_13, pi_69_13, gi_69_14, pi_69_14, gi_69_15, pi_69_15, gi_69_16, pi_69_16, gj_69_17, pj_69_17, gi_69_18, pi_69_18, gi_69_19, pi_69_19, gi_69_20, pi_69_20, gi_69_21, pi_69_21, ga_69_22, gi_69_23, pi_69_23, ga_69_24, ga_69_25, gi_69_26, pi_69_26, ga_69_27, ga_69_28, gi_69_29, pi_69_29, gi_69_30, pi_69_30, ga_69_31, ga_69_32, ga_69_33, gi_69_34, pi_69_34, ga_69_35, ga_69_36, ga_69_37, gi_69_38, pi_69_38, gj_69_39, pj_69_39, gj_69_40, pj_69_40, ga_69_41, ga_69_42, ga_69_43, ga_69_44, ga_69_45, ga_69_46, ga_69_47, gi_69_48, pi_69_48, gi_69_49, pi_69_49, gi_69_50, pi_69_50, gi_69_51, pi_69_51, gj_69_52, pj_69_52, ga_69_53, gi_69_54, pi_69_54, gi_69_55, pi_69_55, rd_70, wr_70, ln_70, rd_71, wr_71, ln_71, rd_74, wr_74, ln_74, rd_75, wr_75, ln_75, v_tell_1, v_tell_2, v_tell_3, v_tell_5, v_tell_6, v_tell0, v_change, v_settled0, Option.bind_some, toI_i, toJ_j, toV_v, toR_r, up2_at, up2_na, up2_nk, up2_off, nI_add, nI_mul, nI_leI, nI_ltI, nI_eq, bI_eq0, r17]
        unfold F_X11_knock
        rw [pi_69_0 hS, Option.bind_some, vc_69 hS, e, toI_i, Option.bind_some, vc_69 hS, ht]
        rfl
      · rw [if_neg ho, if_neg ho]
        refine ⟨up2 Ia 69 0 (nI 0), J, ?_, fun It ht => e_X11_knock (d := 199) ?_⟩
        · have := MNw_no (s := s) (k := 2) (ret := -3) (SxM.rf 69 (up2 Ia 69 0 (nI 0)) J) (by decide)
          rw [j71] at this
          exact this
        · unfold F_X11_knock
          have e : ev O 199 MX11_knockNow [.ref 69, .int (nI k)] (hp u n T (up2 Ia 69 0 (nI 0)) J R) = some (some (.int (-3)), hp u n T (up2 Ia 69 0 (nI 0)) J R) := by
            refine e_X11_knockNow (d := 198) ?_
            unfold F_X11_knockNow
            rw [vc_69 hS, isd, toI_i, Option.bind_some, if_neg nbt, vc_69 hS, ck, toI_i, Option.bind_some, if_pos (by rw [Bool.eq_false_iff.mpr ho]; rfl)]
          rw [pi_69_0 hS, Option.bind_some, vc_69 hS, e, toI_i, Option.bind_some, vc_69 hS, ht]
          rfl
end KN
