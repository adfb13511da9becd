/-! the reference remembers; calls: undo -/
section UN2
variable {O : mO} {c d u n : Nat} {T : Nat → mT} {I : Nat → Nat → Int32} {J : Nat → Nat → Int64} {R : Nat → Nat → Option Nat} {g h V F D S N x s k : Nat} {w : Nat → Int32} {K : mH}
/-- what it remembers -/
def RmA (I I' : Nat → Nat → Int32) (s k : Nat) : Prop := (∀ a, a ≠ 69 → a ≠ 74 → a ≠ 75 → I' a = I a) ∧ (∀ j, j ≠ 8 → I' 69 j = I 69 j) ∧ I' 69 8 = nI (min 16 (s + 1)) ∧ (∀ i, i < 31 → I' 74 (31 * (min 16 (s + 1) - 1) + i) = I 71 (6 + i)) ∧ I' 75 (min 16 (s + 1) - 1) = nI k ∧ (∀ q, q + 1 < min 16 (s + 1) → (∀ i, i < 31 → I' 74 (31 * q + i) = I 74 (31 * (q + (s + 1 - min 16 (s + 1))) + i)) ∧ I' 75 q = I 75 (q + (s + 1 - min 16 (s + 1)))) ∧ ∀ j, 496 ≤ j → I' 74 j = I 74 j
theorem v_rem77 (hS : St n T R) (h8 : I 69 8 = nI s) (hs : s < 16) : ∃ I', F_X11_remember_j77 O (d + 1) 69 (nI k) (hp u n T I J R) = some (hp u n T I' J R) ∧ (∀ a, a ≠ 69 → a ≠ 74 → a ≠ 75 → I' a = I a) ∧ (∀ j, j ≠ 8 → I' 69 j = I 69 j) ∧ I' 69 8 = nI (s + 1) ∧ (∀ i, i < 31 → I' 74 (31 * s + i) = I 71 (6 + i)) ∧ (∀ j, j < 31 * s ∨ 31 * s + 31 ≤ j → I' 74 j = I 74 j) ∧ I' 75 s = nI k ∧ (∀ j, j ≠ s → I' 75 j = I 75 j) := by
  obtain ⟨I1, e1, a1, a2, a3⟩ := v_keepAll (O := O) (d := d) (u := u) (J := J) (I := I) (k := s) hS (by omega)
  refine ⟨up2 (up2 I1 75 s (nI k)) 69 8 (nI (s + 1)), ?_, fun a h1 h2 h3 => by rw [up2_off _ _ _ h1, up2_off _ _ _ h3]; exact a1 a h2, fun j hj => by rw [up2_nk hj, up2_na (by decide), a1 69 (by decide)], up2_at _ _ _ _, fun i hi => by rw [up2_na (by decide), up2_na (by decide)]; exact a2 i hi, fun j hj => by rw [up2_na (by decide), up2_na (by decide)]; exact a3 j hj, by rw [up2_na (by decide), up2_at], fun j hj => by rw [up2_na (by decide), up2_nk hj, a1 75 (by decide)]⟩
  unfold F_X11_remember_j77
  rw [gi_69_8 hS, Option.bind_some, h8, vc_69 hS, e1, toV_v, Option.bind_some]
  have e8 : I1 69 8 = nI s := by rw [a1 69 (by decide)]; exact h8
  simp (disch := first | assumption | omega) only [vc_69, gi_69_0, pi_69_0, gi_69_1, pi_69_1, ga_69_2, ga_69_3, ga_69_4, ga_69_5, ga_69_6, ga_69_7, gi_69_8, pi_69_8, ga_69_9, ga_69_10, gi_69_11, pi_69_11, ga_69_12, gi_69_13, pi_69_13, gi_69_14, pi_69_14, gi_69_15, pi_69_15, gi_69_16, pi_69_16, gj_69_17, pj_69_17, gi_69_18, pi_69_18, gi_69_19, pi_69_19, gi_69_20, pi_69_20, gi_69_21, pi_69_21, ga_69_22, gi_69_23, pi_69_23, ga_69_24, ga_69_25, gi_69_26, pi_69_26, ga_69_27, ga_69_28, gi_69_29, pi_69_29, gi_69_30, pi_69_30, ga_69_31, ga_69_32, ga_69_33, gi_69_34, pi_69_34, ga_69_35, ga_69_36, ga_69_37, gi_69_38, pi_69_38, gj_69_39, pj_69_39, gj_69_40, pj_69_40, ga_69_41, ga_69_42, ga_69_43, ga_69_44, ga_69_45, ga_69_46, ga_69_47, gi_69_48, pi_69_48, gi_69_49, pi_69_49, gi_69_50, pi_69_50, gi_69_51, pi_69_51, gj_69_52, pj_69_52, ga_69_53, gi_69_54, pi_69_54, gi_69_55, pi_69_55, rd_75, wr_75, ln_75, Option.bind_some, toI_i, toJ_j, toV_v, toR_r, up2_at, up2_na, up2_nk, up2_off, nI_add, nI_mul, nI_leI, nI_ltI, nI_eq, bI_eq0, e8]
theorem v_remember (hS : St n T R) (h8 : I 69 8 = nI s) (hs : s ≤ 16) : ∃ I', ev O (d + 2) MX11_remember [.ref 69, .int (nI k)] (hp u n T I J R) = some (none, hp u n T I' J R) ∧ RmA I I' s k := by
  by_cases h16 : s = 16
  · subst h16
    have L1 : ∃ r, lupF (fun (q : Int32 × mH) => F_X11_remember_l11 O (d + 1) 69 (nI k) q.1 q.2) FU (nI 0, hp u n T I J R) = some r ∧ (fun r => ∃ I', r = hp u n T I' J R ∧ (∀ a, a ≠ 74 → I' a = I a) ∧ (∀ j, j < 465 → I' 74 j = I 74 (j + 31)) ∧ (∀ j, 465 ≤ j → I' 74 j = I 74 j)) r := by
      refine lup_P0 (fun m s => ∃ I', s = (nI m, hp u n T I' J R) ∧ (∀ a, a ≠ 74 → I' a = I a) ∧ (∀ j, j < m → I' 74 j = I 74 (j + 31)) ∧ (∀ j, m ≤ j → I' 74 j = I 74 j)) _ (N := 465) (by omega) ⟨I, rfl, fun _ _ => rfl, fun i hi => absurd hi (Nat.not_lt_zero i), fun _ _ => rfl⟩ ?_ ?_
      · intro m s hm ⟨I1, hs, a1, a2, a3⟩
        subst hs
        left
        refine ⟨(nI (m + 1), hp u n T (up2 I1 74 m (I 74 (m + 31))) J R), ?_, _, rfl, fun a ha => by rw [up2_off _ _ _ ha]; exact a1 a ha, fun i hi => ?_, fun j hj => by rw [up2_nk (by omega)]; exact a3 j (by omega)⟩
        · dsimp only
          unfold F_X11_remember_l11
          rw [if_neg (nI_ge hm (by omega))]
          simp (disch := first | assumption | omega) only [vc_69, gi_69_0, pi_69_0, gi_69_1, pi_69_1, ga_69_2, ga_69_3, ga_69_4, ga_69_5, ga_69_6, ga_69_7, gi_69_8, pi_69_8, ga_69_9, ga_69_10, gi_69_11, pi_69_11, ga_69_12, gi_69_13, pi_69_13, gi_69_14, pi_69_14, gi_69_15, pi_69_15, gi_69_16, pi_69_16, gj_69_17, pj_69_17, gi_69_18, pi_69_18, gi_69_19, pi_69_19, gi_69_20, pi_69_20, gi_69_21, pi_69_21, ga_69_22, gi_69_23, pi_69_23, ga_69_24, ga_69_25, gi_69_26, pi_69_26, ga_69_27, ga_69_28, gi_69_29, pi_69_29, gi_69_30, pi_69_30, ga_69_31, ga_69_32, ga_69_33, gi_69_34, pi_69_34, ga_69_35, ga_69_36, ga_69_37, gi_69_38, pi_69_38, gj_69_39, pj_69_39, gj_69_40, pj_69_40, ga_69_41, ga_69_42, ga_69_43, ga_69_44, ga_69_45, ga_69_46, ga_69_47, gi_69_48, pi_69_48, gi_69_49, pi_69_49, gi_69_50, pi_69_50, gi_69_51, pi_69_51, gj_69_52, pj_69_52, ga_69_53, gi_69_54, pi_69_54, gi_69_55, pi_69_55, rd_74, wr_74, ln_74, Option.bind_some, toI_i, toJ_j, toV_v, toR_r, up2_at, up2_na, up2_nk, up2_off, nI_add, nI_mul, nI_leI, nI_ltI, nI_eq, bI_eq0, a3 (m + 31) (by omega)]
        · by_cases e : i = m
          · rw [e, up2_at]
          · rw [up2_nk e]
            exact a2 i (by omega)
      · intro s ⟨I1, hs, a1⟩
        subst hs
        refine ⟨_, ?_, I1, rfl, a1⟩
        dsimp only
        unfold F_X11_remember_l11
        rw [if_pos (nI_le (Nat.le_refl 465) (by omega))]
    obtain ⟨r1, e1, I1, hr1, a1, a2, a3⟩ := L1
    have L2 : ∃ r, lupF (fun (q : Int32 × mH) => F_X11_remember_l41 O (d + 1) 69 (nI k) q.1 q.2) FU (nI 0, hp u n T I1 J R) = some r ∧ (fun r => ∃ I', r = hp u n T I' J R ∧ (∀ a, a ≠ 75 → I' a = I1 a) ∧ (∀ j, j < 15 → I' 75 j = I1 75 (j + 1))) r := by
      refine lup_P0 (fun m s => ∃ I', s = (nI m, hp u n T I' J R) ∧ (∀ a, a ≠ 75 → I' a = I1 a) ∧ (∀ j, j < m → I' 75 j = I1 75 (j + 1)) ∧ (∀ j, m ≤ j → I' 75 j = I1 75 j)) _ (N := 15) (by omega) ⟨I1, rfl, fun _ _ => rfl, fun i hi => absurd hi (Nat.not_lt_zero i), fun _ _ => rfl⟩ ?_ ?_
      · intro m s hm ⟨I2, hs, b1, b2, b3⟩
        subst hs
        left
        refine ⟨(nI (m + 1), hp u n T (up2 I2 75 m (I1 75 (m + 1))) J R), ?_, _, rfl, fun a ha => by rw [up2_off _ _ _ ha]; exact b1 a ha, fun i hi => ?_, fun j hj => by rw [up2_nk (by omega)]; exact b3 j (by omega)⟩
        · dsimp only
          unfold F_X11_remember_l41
          rw [if_neg (nI_ge hm (by omega))]
          simp (disch := first | assumption | omega) only [vc_69, gi_69_0, pi_69_0, gi_69_1, pi_69_1, ga_69_2, ga_69_3, ga_69_4, ga_69_5, ga_69_6, ga_69_7, gi_69_8, pi_69_8, ga_69_9, ga_69_10, gi_69_11, pi_69_11, ga_69_12, gi_69_13, pi_69_13, gi_69_14, pi_69_14, gi_69_15, pi_69_15, gi_69_16, pi_69_16, gj_69_17, pj_69_17, gi_69_18, pi_69_18, gi_69_19, pi_69_19, gi_69_20, pi_69_20, gi_69_21, pi_69_21, ga_69_22, gi_69_23, pi_69_23, ga_69_24, ga_69_25, gi_69_26, pi_69_26, ga_69_27, ga_69_28, gi_69_29, pi_69_29, gi_69_30, pi_69_30, ga_69_31, ga_69_32, ga_69_33, gi_69_34, pi_69_34, ga_69_35, ga_69_36, ga_69_37, gi_69_38, pi_69_38, gj_69_39, pj_69_39, gj_69_40, pj_69_40, ga_69_41, ga_69_42, ga_69_43, ga_69_44, ga_69_45, ga_69_46, ga_69_47, gi_69_48, pi_69_48, gi_69_49, pi_69_49, gi_69_50, pi_69_50, gi_69_51, pi_69_51, gj_69_52, pj_69_52, ga_69_53, gi_69_54, pi_69_54, gi_69_55, pi_69_55, rd_75, wr_75, ln_75, Option.bind_some, toI_i, toJ_j, toV_v, toR_r, up2_at, up2_na, up2_nk, up2_off, nI_add, nI_mul, nI_leI, nI_ltI, nI_eq, bI_eq0, b3 (m + 1) (by omega)]
        · by_cases e : i = m
          · rw [e, up2_at]
          · rw [up2_nk e]
            exact b2 i (by omega)
      · intro s ⟨I2, hs, b1, b2, b3⟩
        subst hs
        refine ⟨_, ?_, I2, rfl, b1, b2⟩
        dsimp only
        unfold F_X11_remember_l41
        rw [if_pos (nI_le (Nat.le_refl 15) (by omega))]
    obtain ⟨r2, e2, I2, hr2, b1, b2⟩ := L2
    have e8 : I2 69 8 = nI 16 := by rw [b1 69 (by decide), a1 69 (by decide)]; exact h8
    obtain ⟨I3, e3, c1, c2, c3, c4, c5, c6, c7⟩ := v_rem77 (O := O) (d := d) (u := u) (J := J) (I := up2 I2 69 8 (nI 15)) (k := k) (s := 15) hS (up2_at _ _ _ _) (by decide)
    refine ⟨I3, e_X11_remember (d := d + 1) ?_, fun a h1 h2 h3 => ?_, fun j hj => ?_, c3, fun i hi => ?_, c6, fun q hq => ⟨fun i hi => ?_, ?_⟩, fun j hj => ?_⟩
    · unfold F_X11_remember
      rw [gi_69_8 hS, Option.bind_some, h8, if_pos rfl, e1, hr1, Option.bind_some, e2, hr2, Option.bind_some, gi_69_8 hS, Option.bind_some, e8, nI_sub (by decide), pi_69_8 hS, Option.bind_some]
      exact e3
    · rw [c1 a h1 h2 h3, up2_off _ _ _ h1, b1 a h3, a1 a h2]
    · rw [c2 j hj, up2_nk hj, b1 69 (by decide), a1 69 (by decide)]
    · show I3 74 (31 * 15 + i) = _
      rw [c4 i hi, up2_na (by decide), b1 71 (by decide), a1 71 (by decide)]
    · show I3 74 (31 * q + i) = I 74 (31 * (q + 1) + i)
      have hq' : q + 1 < 16 := hq
      rw [c5 _ (by omega), up2_na (by decide), b1 74 (by decide), a2 _ (by omega)]
      congr 1
      omega
    · show I3 75 q = I 75 (q + 1)
      have hq' : q + 1 < 16 := hq
      rw [c7 q (by omega), up2_na (by decide), b2 q (by omega), a1 75 (by decide)]
    · rw [c5 j (by omega), up2_na (by decide), b1 74 (by decide), a3 j (by omega)]
  · obtain ⟨I3, e3, c1, c2, c3, c4, c5, c6, c7⟩ := v_rem77 (O := O) (d := d) (u := u) (J := J) (I := I) (k := k) (s := s) hS h8 (by omega)
    have em : min 16 (s + 1) = s + 1 := by omega
    refine ⟨I3, e_X11_remember (d := d + 1) ?_, ?_⟩
    · unfold F_X11_remember
      rw [gi_69_8 hS, Option.bind_some, h8, if_neg (fun z => h16 ((nI_eq (by omega) (by omega)).mp z))]
      exact e3
    · unfold RmA
      rw [em, Nat.add_sub_cancel, Nat.sub_self]
      refine ⟨c1, c2, c3, c4, c6, fun q hq => ⟨fun i hi => ?_, ?_⟩, fun j hj => c5 j (by omega)⟩
      · rw [Nat.add_zero]
        exact c5 _ (by omega)
      · rw [Nat.add_zero]
        exact c7 q (by omega)
theorem Und_push2 {ih hr ih' hr' w' : Nat → Int32} {I I' I2 : Nat → Nat → Int32} (hU : Und ih hr (I 69) (I 74) (I 75) (I 71) V F D x s) (h8 : D ≤ 8) (h4 : F ≤ 4) (h1 : ih' 1 = nI ((x + 1) % 17)) (h2 : ih' 2 = nI (min 16 (s + 1))) (hh : ∀ y, y < 17 → y ≠ x → ∀ i, i < 23 → hr' (y * 23 + i) = hr (y * 23 + i)) (hk : hr' (x * 23) = nI k) (hk3 : k ≤ 3) (hs : HsR hr' x (I 71)) (hw : WfS (I 71) (fun v => I 71 (37 + v)) V F D) (hr : RmA I I' s k) (i69 : I2 69 8 = I' 69 8) (i74 : I2 74 = I' 74) (i75 : I2 75 = I' 75) (hw' : ∀ i, i = 7 ∨ i = 8 ∨ (37 ≤ i ∧ i < 42) → w' i = I 71 i) (hV : V ≤ 5) : Und ih' hr' (I2 69) (I2 74) (I2 75) w' V F D ((x + 1) % 17) (min 16 (s + 1)) := by
  obtain ⟨r1, r2, r3, r4, r5, r6, r7⟩ := hr
  rw [i74, i75]
  exact Und_push hU h8 h4 h1 h2 (i69.trans r3) hh hk hk3 hs hw r4 r5 r6 hw' hV
end UN2
