/-! calls: row -/
/-- the row of those who come: the row, how many dead, how many came, how many draughts -/
def rwS (w : Nat → Int32) (V F D : Nat) (b : Nat → Int32) (t : Nat) : Nat → (Nat → Int32) × Nat × Nat × Nat
  | 0 => (w, D, 0, 0)
  | k + 1 => if 3 * k + 2 < t ∧ okD (rwS w V F D b t k).1 V F (rwS w V F D b t k).2.1 (b (3 * k)) (b (3 * k + 1)) (b (3 * k + 2)) = nI 0 then (adW (rwS w V F D b t k).1 (rwS w V F D b t k).2.1 (b (3 * k)) (b (3 * k + 1)) (b (3 * k + 2)), (rwS w V F D b t k).2.1 + 1, (rwS w V F D b t k).2.2.1 + 1, (rwS w V F D b t k).2.2.2) else ((rwS w V F D b t k).1, (rwS w V F D b t k).2.1, (rwS w V F D b t k).2.2.1, (rwS w V F D b t k).2.2.2 + 1)
theorem rwS_s (w : Nat → Int32) (V F D : Nat) (b : Nat → Int32) (t k : Nat) : rwS w V F D b t (k + 1) = if 3 * k + 2 < t ∧ okD (rwS w V F D b t k).1 V F (rwS w V F D b t k).2.1 (b (3 * k)) (b (3 * k + 1)) (b (3 * k + 2)) = nI 0 then (adW (rwS w V F D b t k).1 (rwS w V F D b t k).2.1 (b (3 * k)) (b (3 * k + 1)) (b (3 * k + 2)), (rwS w V F D b t k).2.1 + 1, (rwS w V F D b t k).2.2.1 + 1, (rwS w V F D b t k).2.2.2) else ((rwS w V F D b t k).1, (rwS w V F D b t k).2.1, (rwS w V F D b t k).2.2.1, (rwS w V F D b t k).2.2.2 + 1) := rfl
theorem rwS_Wf {w : Nat → Int32} {V F D S N : Nat} {b : Nat → Int32} {t : Nat} (hw : Wf w V F D S N) : ∀ k, Wf (rwS w V F D b t k).1 V F (rwS w V F D b t k).2.1 S N
  | 0 => hw
  | k + 1 => by
    have ih := rwS_Wf (b := b) (t := t) hw k
    unfold rwS
    split
    · rename_i h
      exact Wf_add ih h.2
    · exact ih
theorem rwS_n {w : Nat → Int32} {V F D : Nat} {b : Nat → Int32} {t : Nat} : ∀ k, (rwS w V F D b t k).2.2.1 ≤ k ∧ (rwS w V F D b t k).2.2.2 ≤ k
  | 0 => ⟨Nat.le_refl 0, Nat.le_refl 0⟩
  | k + 1 => by
    have ih := rwS_n (w := w) (V := V) (F := F) (D := D) (b := b) (t := t) k
    unfold rwS
    split
    · exact ⟨Nat.succ_le_succ ih.1, by have := ih.2; show (rwS w V F D b t k).2.2.2 ≤ k + 1; omega⟩
    · exact ⟨by have := ih.1; show (rwS w V F D b t k).2.2.1 ≤ k + 1; omega, Nat.succ_le_succ ih.2⟩
section RW
variable {O : mO} {c d u n : Nat} {T : Nat → mT} {I : Nat → Nat → Int32} {J : Nat → Nat → Int64} {R : Nat → Nat → Option Nat} {g V F D S N t : Nat} {w : Nat → Int32} {K : mH}
theorem v_comes {f v x : Int32} (hS : St n T R) (hG : Gnd n T I R g w V F D S N) (hw : Wf w V F D S N) (gg : ∀ (u : Nat) (I : Nat → Nat → Int32) (J : Nat → Nat → Int64), gtA (hp u n T I J R) 0 10 10 = some g) : ev O (d + 3) MX10_comes [.ref 0, .int f, .int v, .int x] (hp u n T I J R) = if okD w V F D f v x = nI 0 then some (some (.int (nI 1)), hp u n T (adC I g D f v x) J R) else some (some (.int (nI 0)), hp u n T I J R) := by
  have hn := hS.2.1
  have wn := v_whyNot (O := O) (d := d) (u := u) (J := J) (f := f) (v := v) (t := x) hG hw hn
  obtain ⟨⟨c1, c2, c3, c4, c5, c6, c7, c8, c9, c10, c11, c12⟩, -⟩ := id hG
  by_cases h0 : okD w V F D f v x = nI 0
  · obtain ⟨f', v', t', b, -, -, -, -, -, -, -, h8, -⟩ := okD_0 h0 hw
    have ad := v_addDead (O := O) (d := d + 1) (u := u) (J := J) (f := f) (v := v) (t := x) c2 hn c9 h8
    rw [if_pos h0]
    refine e_X10_comes (d := d + 2) ?_
    unfold F_X10_comes
    simp (disch := first | assumption | omega) only [gg, ga_g_1, ga_g_2, ga_g_3, ga_g_4, ga_g_5, ga_g_6, ga_g_7, ga_g_8, ga_g_9, ga_g_10, gi_g_11, pi_g_11, gi_g_12, pi_g_12, gi_g_13, pi_g_13, gi_g_14, pi_g_14, gi_g_15, pi_g_15, gi_g_16, pi_g_16, gi_g_17, pi_g_17, ga_g_0, vc_g, rd_g_1, wr_g_1, ln_g_1, rd_g_2, wr_g_2, ln_g_2, rd_g_3, wr_g_3, ln_g_3, rd_g_4, wr_g_4, ln_g_4, rd_g_5, wr_g_5, ln_g_5, rd_g_6, wr_g_6, ln_g_6, rd_g_7, wr_g_7, ln_g_7, rd_g_8, wr_g_8, ln_g_8, rd_g_9, wr_g_9, ln_g_9, rd_g_10, Option.bind_some, toI_i, toJ_j, toV_v, toR_r, up2_at, up2_na, up2_nk, up2_off, nI_add, nI_mul, nI_leI, nI_ltI, nI_eq, bI_eq0, wn, h0, ad]
    rw [if_pos (by decide)]
  · rw [if_neg h0]
    refine e_X10_comes (d := d + 2) ?_
    unfold F_X10_comes
    simp (disch := first | assumption | omega) only [gg, ga_g_1, ga_g_2, ga_g_3, ga_g_4, ga_g_5, ga_g_6, ga_g_7, ga_g_8, ga_g_9, ga_g_10, gi_g_11, pi_g_11, gi_g_12, pi_g_12, gi_g_13, pi_g_13, gi_g_14, pi_g_14, gi_g_15, pi_g_15, gi_g_16, pi_g_16, gi_g_17, pi_g_17, ga_g_0, vc_g, rd_g_1, wr_g_1, ln_g_1, rd_g_2, wr_g_2, ln_g_2, rd_g_3, wr_g_3, ln_g_3, rd_g_4, wr_g_4, ln_g_4, rd_g_5, wr_g_5, ln_g_5, rd_g_6, wr_g_6, ln_g_6, rd_g_7, wr_g_7, ln_g_7, rd_g_8, wr_g_8, ln_g_8, rd_g_9, wr_g_9, ln_g_9, rd_g_10, Option.bind_some, toI_i, toJ_j, toV_v, toR_r, up2_at, up2_na, up2_nk, up2_off, nI_add, nI_mul, nI_leI, nI_ltI, nI_eq, bI_eq0, wn]
    rw [if_neg (show ¬ okD w V F D f v x = 0 from h0)]
theorem v_cRow (hS : St n T R) (hG : Gnd n T I R g w V F D S N) (hw : Wf w V F D S N) (gg : ∀ (u : Nat) (I : Nat → Nat → Int32) (J : Nat → Nat → Int64), gtA (hp u n T I J R) 0 10 10 = some g) (hg : g = 32 ∨ g = 58) (ht : t ≤ 400) {b : Nat → Int32} (hb : ∀ k, k < t → I 23 k &&& nI 255 = b k) : ∃ r, lupF (fun (q : Int32 × Int32 × Int32 × mH) => F_X10_row_l26 O (d + 3) 0 (nI t) q.1 q.2.1 q.2.2.1 q.2.2.2) FU (nI 0, nI 0, nI 0, hp u n T I J R) = some r ∧ (fun r => ∃ I', r = (nI (rwS w V F D b t ((t + 2) / 3)).2.2.1, nI (rwS w V F D b t ((t + 2) / 3)).2.2.2, hp u n T I' J R) ∧ Gnd n T I' R g (rwS w V F D b t ((t + 2) / 3)).1 V F (rwS w V F D b t ((t + 2) / 3)).2.1 S N ∧ ∀ a, a < g ∨ g + 10 < a → I' a = I a) r := by
  refine lup_P0 (fun k s => ∃ I', s = (nI (rwS w V F D b t k).2.2.1, nI (rwS w V F D b t k).2.2.2, nI (3 * k), hp u n T I' J R) ∧ Gnd n T I' R g (rwS w V F D b t k).1 V F (rwS w V F D b t k).2.1 S N ∧ ∀ a, a < g ∨ g + 10 < a → I' a = I a) _ (N := (t + 2) / 3) (by omega) ⟨I, rfl, hG, fun _ _ => rfl⟩ ?_ ?_
  · intro k s hk ⟨I1, hs, h1, h2⟩
    subst hs
    left
    have hwk := rwS_Wf (b := b) (t := t) hw k
    have hnk := rwS_n (w := w) (V := V) (F := F) (D := D) (b := b) (t := t) k
    have cm := v_comes (O := O) (d := d) (u := u) (J := J) (f := b (3 * k)) (v := b (3 * k + 1)) (x := b (3 * k + 2)) hS h1 hwk gg
    dsimp only
    unfold F_X10_row_l26
    rw [if_neg (nI_ge (by omega) (by omega)), nI_add]
    by_cases h3 : 3 * k + 2 < t
    · rw [if_neg (nI_ge h3 (by omega))]
      have f0 : I1 23 (3 * k) &&& nI 255 = b (3 * k) := by rw [h2 23 (by omega)]; exact hb _ (by omega)
      have f1 : I1 23 (3 * k + 1) &&& nI 255 = b (3 * k + 1) := by rw [h2 23 (by omega)]; exact hb _ (by omega)
      have f2 : I1 23 (3 * k + 2) &&& nI 255 = b (3 * k + 2) := by rw [h2 23 (by omega)]; exact hb _ (by omega)
      by_cases h0 : okD (rwS w V F D b t k).1 V F (rwS w V F D b t k).2.1 (b (3 * k)) (b (3 * k + 1)) (b (3 * k + 2)) = nI 0
      · obtain ⟨f', v', t', b', -, -, -, -, -, -, -, h8, -⟩ := okD_0 h0 hwk
        rw [if_pos h0] at cm
        refine ⟨_, ?_, adC I1 g (rwS w V F D b t k).2.1 (b (3 * k)) (b (3 * k + 1)) (b (3 * k + 2)), rfl, ?_, fun a ha => ?_⟩
        · simp (disch := first | assumption | omega) only [vc_0, ga_0_0, ga_0_1, ga_0_2, ga_0_3, ga_0_4, ga_0_5, ga_0_6, ga_0_7, ga_0_8, ga_0_9, gi_0_12, pi_0_12, gi_0_13, pi_0_13, gi_0_14, pi_0_14, gi_0_15, pi_0_15, gi_0_16, pi_0_16, rd_23, wr_23, ln_23, Option.bind_some, toI_i, toJ_j, toV_v, toR_r, up2_at, up2_na, up2_nk, up2_off, nI_add, nI_mul, nI_leI, nI_ltI, nI_eq, bI_eq0, f0, f1, f2, cm]
          rw [if_neg (by decide), if_neg (by decide)]
          rw [rwS_s, if_pos ⟨h3, h0⟩]
          rfl
        · rw [rwS_s, if_pos ⟨h3, h0⟩]
          exact Gnd_add h1 h8 (Wf_k hwk h8) (by omega)
        · rw [← h2 a ha]
          unfold adC
          (try simp (disch := omega) only [up2_at, up2_na, up2_nk, up2_off])
      · rw [if_neg h0] at cm
        refine ⟨_, ?_, I1, rfl, ?_, h2⟩
        · simp (disch := first | assumption | omega) only [vc_0, ga_0_0, ga_0_1, ga_0_2, ga_0_3, ga_0_4, ga_0_5, ga_0_6, ga_0_7, ga_0_8, ga_0_9, gi_0_12, pi_0_12, gi_0_13, pi_0_13, gi_0_14, pi_0_14, gi_0_15, pi_0_15, gi_0_16, pi_0_16, rd_23, wr_23, ln_23, Option.bind_some, toI_i, toJ_j, toV_v, toR_r, up2_at, up2_na, up2_nk, up2_off, nI_add, nI_mul, nI_leI, nI_ltI, nI_eq, bI_eq0, f0, f1, f2, cm]
          rw [if_pos (by decide), if_pos (by decide)]
          rw [rwS_s, if_neg (fun z => h0 z.2)]
          rfl
        · rw [rwS_s, if_neg (fun z => h0 z.2)]
          exact h1
    · rw [if_pos (nI_le (by omega) (by omega))]
      refine ⟨_, ?_, I1, rfl, ?_, h2⟩
      · rw [nI_add, nI_add]
        rw [rwS_s, if_neg (fun z => h3 z.1)]
        rfl
      · rw [rwS_s, if_neg (fun z => h3 z.1)]
        exact h1
  · intro s ⟨I1, hs, h1, h2⟩
    subst hs
    refine ⟨_, ?_, I1, rfl, h1, h2⟩
    dsimp only
    unfold F_X10_row_l26
    rw [if_pos (nI_le (by omega) (by omega))]
theorem v_mRow (hS : St n T R) (hw : Wf (I 71) V F D S N) (h11 : I 69 11 = nI 0) (ht : t ≤ 400) : ∃ r, lupF (fun (q : Int32 × Int32 × mH) => F_X11_row_l35 O (d + 3) 69 (nI t) q.1 q.2.1 q.2.2) FU (nI 0, nI 0, hp u n T I J R) = some r ∧ (fun r => ∃ I', r = (nI (rwS (I 71) V F D (I 78) t ((t + 2) / 3)).2.2.1, hp u n T I' J R) ∧ I' 71 = (rwS (I 71) V F D (I 78) t ((t + 2) / 3)).1 ∧ I' 69 11 = nI (rwS (I 71) V F D (I 78) t ((t + 2) / 3)).2.2.2 ∧ (∀ a, a ≠ 69 → a ≠ 71 → I' a = I a) ∧ ∀ j, j ≠ 11 → I' 69 j = I 69 j) r := by
  refine lup_P0 (fun k s => ∃ I', s = (nI (rwS (I 71) V F D (I 78) t k).2.2.1, nI (3 * k), hp u n T I' J R) ∧ I' 71 = (rwS (I 71) V F D (I 78) t k).1 ∧ I' 69 11 = nI (rwS (I 71) V F D (I 78) t k).2.2.2 ∧ (∀ a, a ≠ 69 → a ≠ 71 → I' a = I a) ∧ ∀ j, j ≠ 11 → I' 69 j = I 69 j) _ (N := (t + 2) / 3) (by omega) ⟨I, rfl, rfl, h11, fun _ _ _ => rfl, fun _ _ => rfl⟩ ?_ ?_
  · intro k s hk ⟨I1, hs, h1, h2, h3, h4⟩
    subst hs
    left
    have hwk := rwS_Wf (b := I 78) (t := t) hw k
    have hnk := rwS_n (w := I 71) (V := V) (F := F) (D := D) (b := I 78) (t := t) k
    have cm := v_come (O := O) (d := d) (u := u) (J := J) (I := I1) (f := I 78 (3 * k)) (v := I 78 (3 * k + 1)) (t := I 78 (3 * k + 2)) hS (by rw [h1]; exact hwk)
    rw [h1] at cm
    have h78 : I1 78 = I 78 := h3 78 (by decide) (by decide)
    dsimp only
    unfold F_X11_row_l35 F_X11_row_j82
    rw [if_neg (nI_ge (by omega) (by omega)), nI_add]
    by_cases hh : 3 * k + 2 < t
    · rw [if_neg (nI_ge hh (by omega))]
      by_cases h0 : okD (rwS (I 71) V F D (I 78) t k).1 V F (rwS (I 71) V F D (I 78) t k).2.1 (I 78 (3 * k)) (I 78 (3 * k + 1)) (I 78 (3 * k + 2)) = nI 0
      · obtain ⟨f', v', t', b', -, -, -, -, -, -, -, h8, -⟩ := okD_0 h0 hwk
        rw [if_pos h0] at cm
        refine ⟨_, ?_, adM I1 (rwS (I 71) V F D (I 78) t k).2.1 (I 78 (3 * k)) (I 78 (3 * k + 1)) (I 78 (3 * k + 2)), rfl, ?_, ?_, fun a e1 e2 => by rw [adM_off e2]; exact h3 a e1 e2, fun j hj => by rw [adM_off (by decide)]; exact h4 j hj⟩
        · simp (disch := first | assumption | omega) only [vc_69, gi_69_0, pi_69_0, gi_69_1, pi_69_1, ga_69_2, ga_69_3, ga_69_4, ga_69_5, ga_69_6, ga_69_7, gi_69_8, pi_69_8, ga_69_9, ga_69_10, gi_69_11, pi_69_11, ga_69_12, gi_69_13, pi_69_13, gi_69_14, pi_69_14, gi_69_15, pi_69_15, gi_69_16, pi_69_16, gj_69_17, pj_69_17, gi_69_18, pi_69_18, gi_69_19, pi_69_19, gi_69_20, pi_69_20, gi_69_21, pi_69_21, ga_69_22, gi_69_23, pi_69_23, ga_69_24, ga_69_25, gi_69_26, pi_69_26, ga_69_27, ga_69_28, gi_69_29, pi_69_29, gi_69_30, pi_69_30, ga_69_31, ga_69_32, ga_69_33, gi_69_34, pi_69_34, ga_69_35, ga_69_36, ga_69_37, gi_69_38, pi_69_38, gj_69_39, pj_69_39, gj_69_40, pj_69_40, ga_69_41, ga_69_42, ga_69_43, ga_69_44, ga_69_45, ga_69_46, ga_69_47, gi_69_48, pi_69_48, gi_69_49, pi_69_49, gi_69_50, pi_69_50, gi_69_51, pi_69_51, gj_69_52, pj_69_52, ga_69_53, gi_69_54, pi_69_54, gi_69_55, pi_69_55, rd_78, wr_78, ln_78, Option.bind_some, toI_i, toJ_j, toV_v, toR_r, up2_at, up2_na, up2_nk, up2_off, nI_add, nI_mul, nI_leI, nI_ltI, nI_eq, bI_eq0, h78, cm]
          rw [if_neg (nI_pos (by omega))]
          rw [rwS_s, if_pos ⟨hh, h0⟩]
          rfl
        · rw [adM_71, h1]
          rw [rwS_s, if_pos ⟨hh, h0⟩]
        · rw [adM_off (by decide), h2]
          rw [rwS_s, if_pos ⟨hh, h0⟩]
      · rw [if_neg h0] at cm
        refine ⟨_, ?_, up2 I1 69 11 (nI ((rwS (I 71) V F D (I 78) t k).2.2.2 + 1)), rfl, ?_, ?_, fun a e1 e2 => by rw [up2_off _ _ _ e1]; exact h3 a e1 e2, fun j hj => by rw [up2_nk hj]; exact h4 j hj⟩
        · have hneg : okD (rwS (I 71) V F D (I 78) t k).1 V F (rwS (I 71) V F D (I 78) t k).2.1 (I 78 (3 * k)) (I 78 (3 * k + 1)) (I 78 (3 * k + 2)) < 0 := by
            rcases okD_neg h0 with z | z | z | z <;> rw [z] <;> decide
          simp (disch := first | assumption | omega) only [vc_69, gi_69_0, pi_69_0, gi_69_1, pi_69_1, ga_69_2, ga_69_3, ga_69_4, ga_69_5, ga_69_6, ga_69_7, gi_69_8, pi_69_8, ga_69_9, ga_69_10, gi_69_11, pi_69_11, ga_69_12, gi_69_13, pi_69_13, gi_69_14, pi_69_14, gi_69_15, pi_69_15, gi_69_16, pi_69_16, gj_69_17, pj_69_17, gi_69_18, pi_69_18, gi_69_19, pi_69_19, gi_69_20, pi_69_20, gi_69_21, pi_69_21, ga_69_22, gi_69_23, pi_69_23, ga_69_24, ga_69_25, gi_69_26, pi_69_26, ga_69_27, ga_69_28, gi_69_29, pi_69_29, gi_69_30, pi_69_30, ga_69_31, ga_69_32, ga_69_33, gi_69_34, pi_69_34, ga_69_35, ga_69_36, ga_69_37, gi_69_38, pi_69_38, gj_69_39, pj_69_39, gj_69_40, pj_69_40, ga_69_41, ga_69_42, ga_69_43, ga_69_44, ga_69_45, ga_69_46, ga_69_47, gi_69_48, pi_69_48, gi_69_49, pi_69_49, gi_69_50, pi_69_50, gi_69_51, pi_69_51, gj_69_52, pj_69_52, ga_69_53, gi_69_54, pi_69_54, gi_69_55, pi_69_55, rd_78, wr_78, ln_78, Option.bind_some, toI_i, toJ_j, toV_v, toR_r, up2_at, up2_na, up2_nk, up2_off, nI_add, nI_mul, nI_leI, nI_ltI, nI_eq, bI_eq0, h78, cm, h2]
          rw [if_pos hneg]
          rw [rwS_s, if_neg (fun z => h0 z.2)]
          rfl
        · rw [up2_off _ _ _ (by decide), h1]
          rw [rwS_s, if_neg (fun z => h0 z.2)]
        · rw [up2_at]
          rw [rwS_s, if_neg (fun z => h0 z.2)]
    · rw [if_pos (nI_le (by omega) (by omega))]
      refine ⟨_, ?_, up2 I1 69 11 (nI ((rwS (I 71) V F D (I 78) t k).2.2.2 + 1)), rfl, ?_, ?_, fun a e1 e2 => by rw [up2_off _ _ _ e1]; exact h3 a e1 e2, fun j hj => by rw [up2_nk hj]; exact h4 j hj⟩
      · simp (disch := first | assumption | omega) only [vc_69, gi_69_0, pi_69_0, gi_69_1, pi_69_1, ga_69_2, ga_69_3, ga_69_4, ga_69_5, ga_69_6, ga_69_7, gi_69_8, pi_69_8, ga_69_9, ga_69_10, gi_69_11, pi_69_11, ga_69_12, gi_69_13, pi_69_13, gi_69_14, pi_69_14, gi_69_15, pi_69_15, gi_69_16, pi_69_16, gj_69_17, pj_69_17, gi_69_18, pi_69_18, gi_69_19, pi_69_19, gi_69_20, pi_69_20, gi_69_21, pi_69_21, ga_69_22, gi_69_23, pi_69_23, ga_69_24, ga_69_25, gi_69_26, pi_69_26, ga_69_27, ga_69_28, gi_69_29, pi_69_29, gi_69_30, pi_69_30, ga_69_31, ga_69_32, ga_69_33, gi_69_34, pi_69_34, ga_69_35, ga_69_36, ga_69_37, gi_69_38, pi_69_38, gj_69_39, pj_69_39, gj_69_40, pj_69_40, ga_69_41, ga_69_42, ga_69_43, ga_69_44, ga_69_45, ga_69_46, ga_69_47, gi_69_48, pi_69_48, gi_69_49, pi_69_49, gi_69_50, pi_69_50, gi_69_51, pi_69_51, gj_69_52, pj_69_52, ga_69_53, gi_69_54, pi_69_54, gi_69_55, pi_69_55, rd_78, wr_78, ln_78, Option.bind_some, toI_i, toJ_j, toV_v, toR_r, up2_at, up2_na, up2_nk, up2_off, nI_add, nI_mul, nI_leI, nI_ltI, nI_eq, bI_eq0, h2]
        rw [rwS_s, if_neg (fun z => hh z.1)]
        rfl
      · rw [up2_off _ _ _ (by decide), h1]
        rw [rwS_s, if_neg (fun z => hh z.1)]
      · rw [up2_at]
        rw [rwS_s, if_neg (fun z => hh z.1)]
  · intro s ⟨I1, hs, h1, h2, h3, h4⟩
    subst hs
    refine ⟨_, ?_, I1, rfl, h1, h2, h3, h4⟩
    dsimp only
    unfold F_X11_row_l35
    rw [if_pos (nI_le (by omega) (by omega))]
theorem v_takeTape (hS : St n T R) : ev O (d + 1) MX10_takeTape [.ref 0] (hp u n T I J R) = some (some (.int (I 0 12)), hp u n T (up2 I 0 12 (nI 0)) J R) := by
  refine e_X10_takeTape ?_
  unfold F_X10_takeTape
  simp (disch := first | assumption | omega) only [vc_0, ga_0_0, ga_0_1, ga_0_2, ga_0_3, ga_0_4, ga_0_5, ga_0_6, ga_0_7, ga_0_8, ga_0_9, gi_0_12, pi_0_12, gi_0_13, pi_0_13, gi_0_14, pi_0_14, gi_0_15, pi_0_15, gi_0_16, pi_0_16, Option.bind_some, toI_i, toJ_j, toV_v, toR_r, up2_at, up2_na, up2_nk, up2_off, nI_add, nI_mul, nI_leI, nI_ltI, nI_eq, bI_eq0]
theorem b_row (hI : Inv c K) : Bo O Inv MX10_row MX11_row [] c K := by
  obtain ⟨u, n, T, I, J, R, g, h, V, F, D, S, N, x, s, rfl, hI⟩ := hI
  obtain ⟨hS, hn, gg, hh, hG, hH, hw, hgd, hg⟩ := Iv_all hI
  obtain ⟨⟨v5, f4, d8, s8, n6⟩, ⟨w0, w1, w2, w3, w4⟩, hf, hs, hfam, hwi, hsn, hlw⟩ := hw
  obtain ⟨⟨c1, c2, c3, c4, c5, c6, c7, c8, c9, c10, c11, c12⟩, q1, q2, q3, q4, q5, q6, q7, q8, q9, q10, q11, ql⟩ := hgd
  obtain ⟨⟨b1, b2, b3, b4, b5⟩, b6, b7, b8, b9, b10⟩ := hI.2.2.2.2.2.2.2.1
  have hJ := hI.2.2.2.2.2.2.2.2.2
  have hu := hI.2.2.2.2.1
  have hw := hI.2.2.1
  have hgd := hI.2.2.2.1
  obtain ⟨t, ht, t1, t2, t3⟩ := hI.2.2.2.2.2.2.1
  by_cases h0 : t = 0
  · subst h0
    refine Bo_i (u1 := u) (a := -6) (I1 := up2 (up2 I 0 16 (-6)) 24 4 (I 24 4 + nI 1)) (J1 := J) (J2 := J) (e_X10_row (d := 199) ?_) hS (e_X11_row (d := 199) ?_) (Iv_ref hI (-6) (pl := 4) (r := 6) (by omega)).e
    · unfold F_X10_row
      rw [gi_0_12 hS, Option.bind_some, t1, if_pos (by decide), vc_0 hS, v_ref_6 (d := 198) hS]
      rfl
    · unfold F_X11_row
      rw [pi_69_0 hS, Option.bind_some, gi_69_13 hS, Option.bind_some, pi_69_13 hS, Option.bind_some]
      rw [show up2 (up2 (up2 I 0 16 (-6)) 24 4 (I 24 4 + nI 1)) 69 0 (nI 0) 69 13 = nI 0 by (try simp (disch := omega) only [up2_at, up2_na, up2_nk, up2_off]); exact t2, if_pos (by decide), up2_same (show up2 (up2 (up2 I 0 16 (-6)) 24 4 (I 24 4 + nI 1)) 69 0 (nI 0) 69 13 = nI 0 by (try simp (disch := omega) only [up2_at, up2_na, up2_nk, up2_off]); exact t2), vc_69 hS, v_tell_6 hS, toI_i, Option.bind_some]
      (try simp (disch := omega) only [up2_at, up2_na, up2_nk, up2_off])
  · have gc : Gnd n T (up2 I 0 12 (nI 0)) R g (I 71) V F D S N := Gnd_cg hgd (fun a ha => up2_off _ _ _ (by omega))
    obtain ⟨r1, e1, I1, rfl, hg1, hf1⟩ := v_cRow (O := O) (d := 196) (u := u) (J := J) (t := t) hS gc hw gg (by omega) ht (b := I 78) (fun k hk => by rw [up2_na (by decide)]; exact (t3 k hk).1)
    have hI1 : ∀ a, a ≠ 0 → (a < g ∨ g + 10 < a) → I1 a = I a := fun a h1 h2 => by rw [hf1 a h2, up2_off _ _ _ h1]
    have hw1 := rwS_Wf (b := I 78) (t := t) hw ((t + 2) / 3)
    have hn1 := rwS_n (w := I 71) (V := V) (F := F) (D := D) (b := I 78) (t := t) ((t + 2) / 3)
    generalize hz : rwS (I 71) V F D (I 78) t ((t + 2) / 3) = z at *
    -- behind the class
    have c71 : up2 (up2 (up2 (up2 (up2 (up2 I1 0 15 (nI z.2.2.2)) h 2 (nI 0)) 0 16 (nI 0)) 69 0 (nI 0)) 69 13 (nI 0)) 69 11 (nI 0) 71 = I 71 := by
      rw [up2_off _ _ _ (by decide), up2_off _ _ _ (by decide), up2_off _ _ _ (by decide), up2_off _ _ _ (by decide), up2_off _ _ _ (by omega), up2_off _ _ _ (by decide), hI1 71 (by decide) (by omega)]
    have c78 : up2 (up2 (up2 (up2 (up2 (up2 I1 0 15 (nI z.2.2.2)) h 2 (nI 0)) 0 16 (nI 0)) 69 0 (nI 0)) 69 13 (nI 0)) 69 11 (nI 0) 78 = I 78 := by
      rw [up2_off _ _ _ (by decide), up2_off _ _ _ (by decide), up2_off _ _ _ (by decide), up2_off _ _ _ (by decide), up2_off _ _ _ (by omega), up2_off _ _ _ (by decide), hI1 78 (by decide) (by omega)]
    obtain ⟨r2, e2, I2, rfl, m71, m11, mx, m69⟩ := v_mRow (O := O) (d := 196) (u := u) (J := J) (I := up2 (up2 (up2 (up2 (up2 (up2 I1 0 15 (nI z.2.2.2)) h 2 (nI 0)) 0 16 (nI 0)) 69 0 (nI 0)) 69 13 (nI 0)) 69 11 (nI 0)) (V := V) (F := F) (D := D) (S := S) (N := N) hS (by rw [c71]; exact hw) (up2_at _ _ _ _) ht
    rw [c71, c78, hz] at m71 m11
    rw [c71, c78, hz] at e2
    refine Bo_i (u1 := u) (a := nI z.2.2.1) (I1 := up2 (up2 (up2 I1 0 15 (nI z.2.2.2)) h 2 (nI 0)) 0 16 (nI 0)) (J1 := J) (I2 := up2 (up2 I2 69 8 (nI 0)) 69 1 (nI 0)) (J2 := J) (e_X10_row (d := 199) ?_) hS (e_X11_row (d := 199) ?_) ?_
    · unfold F_X10_row
      rw [gi_0_12 hS, Option.bind_some, t1, if_neg (nI_ne0 (by omega) (by omega)), vc_0 hS, v_takeTape (d := 198) hS, t1, toI_i, Option.bind_some]
      dsimp only
      rw [e1]
      simp (disch := first | assumption | omega) only [gg, hh, vc_0, ga_0_0, ga_0_1, ga_0_2, ga_0_3, ga_0_4, ga_0_5, ga_0_6, ga_0_7, ga_0_8, ga_0_9, gi_0_12, pi_0_12, gi_0_13, pi_0_13, gi_0_14, pi_0_14, gi_0_15, pi_0_15, gi_0_16, pi_0_16, rd_24, wr_24, ln_24, ga_g_1, ga_g_2, ga_g_3, ga_g_4, ga_g_5, ga_g_6, ga_g_7, ga_g_8, ga_g_9, ga_g_10, gi_g_11, pi_g_11, gi_g_12, pi_g_12, gi_g_13, pi_g_13, gi_g_14, pi_g_14, gi_g_15, pi_g_15, gi_g_16, pi_g_16, gi_g_17, pi_g_17, ga_g_0, vc_g, rd_g_1, wr_g_1, ln_g_1, rd_g_2, wr_g_2, ln_g_2, rd_g_3, wr_g_3, ln_g_3, rd_g_4, wr_g_4, ln_g_4, rd_g_5, wr_g_5, ln_g_5, rd_g_6, wr_g_6, ln_g_6, rd_g_7, wr_g_7, ln_g_7, rd_g_8, wr_g_8, ln_g_8, rd_g_9, wr_g_9, ln_g_9, rd_g_10, vc_h, gi_h_1, pi_h_1, gi_h_2, pi_h_2, v_granted, v_ref_1, v_ref_2, v_ref_3, v_ref_5, v_ref_6, v_hclear, Option.bind_some, toI_i, toJ_j, toV_v, toR_r, up2_at, up2_na, up2_nk, up2_off, nI_add, nI_mul, nI_leI, nI_ltI, nI_eq, bI_eq0]
    · unfold F_X11_row
      rw [pi_69_0 hS, Option.bind_some, gi_69_13 hS, Option.bind_some, pi_69_13 hS, Option.bind_some]
      rw [show up2 (up2 (up2 (up2 I1 0 15 (nI z.2.2.2)) h 2 (nI 0)) 0 16 (nI 0)) 69 0 (nI 0) 69 13 = nI t by rw [up2_nk (by decide), up2_na (by decide), up2_na (by omega), up2_na (by decide), hI1 69 (by decide) (by omega)]; exact t2, if_neg (nI_ne0 (by omega) (by omega)), pi_69_11 hS, Option.bind_some, e2]
      simp (disch := first | assumption | omega) only [vc_69, gi_69_0, pi_69_0, gi_69_1, pi_69_1, ga_69_2, ga_69_3, ga_69_4, ga_69_5, ga_69_6, ga_69_7, gi_69_8, pi_69_8, ga_69_9, ga_69_10, gi_69_11, pi_69_11, ga_69_12, gi_69_13, pi_69_13, gi_69_14, pi_69_14, gi_69_15, pi_69_15, gi_69_16, pi_69_16, gj_69_17, pj_69_17, gi_69_18, pi_69_18, gi_69_19, pi_69_19, gi_69_20, pi_69_20, gi_69_21, pi_69_21, ga_69_22, gi_69_23, pi_69_23, ga_69_24, ga_69_25, gi_69_26, pi_69_26, ga_69_27, ga_69_28, gi_69_29, pi_69_29, gi_69_30, pi_69_30, ga_69_31, ga_69_32, ga_69_33, gi_69_34, pi_69_34, ga_69_35, ga_69_36, ga_69_37, gi_69_38, pi_69_38, gj_69_39, pj_69_39, gj_69_40, pj_69_40, ga_69_41, ga_69_42, ga_69_43, ga_69_44, ga_69_45, ga_69_46, ga_69_47, gi_69_48, pi_69_48, gi_69_49, pi_69_49, gi_69_50, pi_69_50, gi_69_51, pi_69_51, gj_69_52, pj_69_52, ga_69_53, gi_69_54, pi_69_54, gi_69_55, pi_69_55, rd_70, wr_70, ln_70, rd_71, wr_71, ln_71, rd_74, wr_74, ln_74, rd_75, wr_75, ln_75, v_tell_1, v_tell_2, v_tell_3, v_tell_5, v_tell_6, v_tell0, v_change, v_settled0, Option.bind_some, toI_i, toJ_j, toV_v, toR_r, up2_at, up2_na, up2_nk, up2_off, nI_add, nI_mul, nI_leI, nI_ltI, nI_eq, bI_eq0]
    · have nx : ∀ a, a ≠ 0 → a ≠ h → a ≠ 69 → a ≠ 71 → up2 (up2 I2 69 8 (nI 0)) 69 1 (nI 0) a = I1 a := by
        intro a h1 h2 h3 h4
        rw [up2_off _ _ _ h3, up2_off _ _ _ h3, mx a h3 h4, up2_off _ _ _ h3, up2_off _ _ _ h3, up2_off _ _ _ h3, up2_off _ _ _ h1, up2_off _ _ _ h2, up2_off _ _ _ h1]
      have n69 : ∀ j, j ≠ 0 → j ≠ 1 → j ≠ 8 → j ≠ 11 → j ≠ 13 → up2 (up2 I2 69 8 (nI 0)) 69 1 (nI 0) 69 j = I 69 j := by
        intro j h1 h2 h3 h4 h5
        rw [up2_nk h2, up2_nk h3, m69 j h4, up2_nk h4, up2_nk h5, up2_nk h1, up2_na (by decide), up2_na (by omega), up2_na (by decide), hI1 69 (by decide) (by omega)]
      have n0 : ∀ j, j ≠ 12 → j ≠ 15 → j ≠ 16 → up2 (up2 I2 69 8 (nI 0)) 69 1 (nI 0) 0 j = I 0 j := by
        intro j h1 h2 h3
        rw [up2_na (by decide), up2_na (by decide), mx 0 (by decide) (by decide), up2_na (by decide), up2_na (by decide), up2_na (by decide), up2_nk h3, up2_na (by omega), up2_nk h2, hf1 0 (by omega), up2_nk h1]
      have n12 : up2 (up2 I2 69 8 (nI 0)) 69 1 (nI 0) 0 12 = nI 0 := by
        rw [up2_na (by decide), up2_na (by decide), mx 0 (by decide) (by decide), up2_na (by decide), up2_na (by decide), up2_na (by decide), up2_nk (by decide), up2_na (by omega), up2_nk (by decide), hf1 0 (by omega), up2_at]
      have n15 : up2 (up2 I2 69 8 (nI 0)) 69 1 (nI 0) 0 15 = nI z.2.2.2 := by
        rw [up2_na (by decide), up2_na (by decide), mx 0 (by decide) (by decide), up2_na (by decide), up2_na (by decide), up2_na (by decide), up2_nk (by decide), up2_na (by omega), up2_at]
      have n16 : up2 (up2 I2 69 8 (nI 0)) 69 1 (nI 0) 0 16 = nI 0 := by
        rw [up2_na (by decide), up2_na (by decide), mx 0 (by decide) (by decide), up2_na (by decide), up2_na (by decide), up2_na (by decide), up2_at]
      have nh1 : up2 (up2 I2 69 8 (nI 0)) 69 1 (nI 0) h 1 = I h 1 := by
        rw [up2_na (by omega), up2_na (by omega), mx h (by omega) (by omega), up2_na (by omega), up2_na (by omega), up2_na (by omega), up2_na (by omega), up2_nk (by decide), up2_na (by omega), hI1 h (by omega) (by omega)]
      have nh2 : up2 (up2 I2 69 8 (nI 0)) 69 1 (nI 0) h 2 = nI 0 := by
        rw [up2_na (by omega), up2_na (by omega), mx h (by omega) (by omega), up2_na (by omega), up2_na (by omega), up2_na (by omega), up2_na (by omega), up2_at]
      have n71 : up2 (up2 I2 69 8 (nI 0)) 69 1 (nI 0) 71 = z.1 := by rw [up2_off _ _ _ (by decide), up2_off _ _ _ (by decide), m71]
      have n11 : up2 (up2 I2 69 8 (nI 0)) 69 1 (nI 0) 69 11 = nI z.2.2.2 := by rw [up2_nk (by decide), up2_nk (by decide), m11]
      have n13 : up2 (up2 I2 69 8 (nI 0)) 69 1 (nI 0) 69 13 = nI 0 := by rw [up2_nk (by decide), up2_nk (by decide), m69 13 (by decide), up2_nk (by decide), up2_at]
      have n8 : up2 (up2 I2 69 8 (nI 0)) 69 1 (nI 0) 69 8 = nI 0 := by rw [up2_nk (by decide), up2_at]
      have n1 : up2 (up2 I2 69 8 (nI 0)) 69 1 (nI 0) 69 1 = nI 0 := up2_at _ _ _ _
      generalize up2 (up2 I2 69 8 (nI 0)) 69 1 (nI 0) = I3 at *
      have hx := hu.1
      obtain ⟨⟨z1, z2, z3⟩, z4, z5, z6, z7, z8, z9, z10, z11, z12⟩ := hI
      refine IvW.e (g := g) (h := h) (V := V) (F := F) (D := z.2.1) (S := S) (N := N) (x := x) (s := 0) ⟨⟨z1, by omega, by omega⟩, z4, by rw [n71]; exact hw1, by rw [n71]; exact Gnd_cg hg1 (fun a ha => nx a (by omega) (by omega) (by omega) (by omega)), Und_0 (nh1.trans hx.1) hx.2.1 nh2 n8, Img_cg z8 (fun a ha => by rw [nx a (by omega) (by omega) (by omega) (by omega), hI1 a (by omega) (by omega)]), ⟨0, by omega, n12, n13, fun k hk => absurd hk (Nat.not_lt_zero k)⟩, ?_, Drn_cg z11 (by rw [nx _ (by decide) (by omega) (by decide) (by decide), hI1 _ (by decide) (by omega)]) (by rw [nx _ (by decide) (by omega) (by decide) (by decide), hI1 _ (by decide) (by omega)]) (by rw [nx _ (by decide) (by omega) (by decide) (by decide), hI1 _ (by decide) (by omega)]) (by rw [nx _ (by decide) (by omega) (by decide) (by decide), hI1 _ (by decide) (by omega)]) (by rw [nx _ (by decide) (by omega) (by decide) (by decide), hI1 _ (by decide) (by omega)]) (n69 54 (by decide) (by decide) (by decide) (by decide) (by decide)) (n69 55 (by decide) (by decide) (by decide) (by decide) (by decide)), hJ⟩
      unfold Sml
      rw [n0 13 (by decide) (by decide) (by decide), n0 14 (by decide) (by decide) (by decide), n15, n16, n69 18 (by decide) (by decide) (by decide) (by decide) (by decide), n69 50 (by decide) (by decide) (by decide) (by decide) (by decide), n11, n1, n69 20 (by decide) (by decide) (by decide) (by decide) (by decide), nx 24 (by decide) (by omega) (by decide) (by decide), nx 70 (by decide) (by omega) (by decide) (by decide), hI1 24 (by decide) (by omega), hI1 70 (by decide) (by omega)]
      exact ⟨⟨b1, b2, rfl, rfl, b5⟩, b6, b7, b8, b9, b10⟩
end RW
