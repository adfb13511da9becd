/-! calls: changes -/
/-- one would rather have another's bed -/
def rtW (w : Nat → Int32) (D d o : Nat) : Bool := decide (¬ w (50 + 5 * d + nv w (9 + o)) ≤ w (50 + 5 * d + nv w (9 + d))) && !(baR w D d (w (9 + o)))
def wB (w : Nat → Int32) (D d o : Nat) : Bool := decide (w (9 + d) ≠ -1) && (decide (w (9 + o) ≠ -1) && (decide (w (9 + d) ≠ w (9 + o)) && rtW w D d o))
def twB (w : Nat → Int32) (D d o : Nat) : Bool := wB w D d o && wB w D o d
/-- the twos of one: how many, and the i-th -/
def chI (w : Nat → Int32) (D : Nat) (i : Int32) (d : Nat) (st : Nat × Int32) : Nat → Nat × Int32
  | 0 => st
  | m + 1 => if twB w D d (d + 1 + m) = true then ((chI w D i d st m).1 + 1, if nI (chI w D i d st m).1 = i then nI (10 * d + (d + 1 + m)) else (chI w D i d st m).2) else chI w D i d st m
def chO (w : Nat → Int32) (D : Nat) (i : Int32) : Nat → Nat × Int32
  | 0 => (0, -1)
  | d + 1 => chI w D i d (chO w D i d) (D - (d + 1))
theorem chI_s (w : Nat → Int32) (D : Nat) (i : Int32) (d : Nat) (st : Nat × Int32) (m : Nat) : chI w D i d st (m + 1) = if twB w D d (d + 1 + m) = true then ((chI w D i d st m).1 + 1, if nI (chI w D i d st m).1 = i then nI (10 * d + (d + 1 + m)) else (chI w D i d st m).2) else chI w D i d st m := rfl
theorem chI_le {w : Nat → Int32} {D : Nat} {i : Int32} {d : Nat} {st : Nat × Int32} : ∀ m, st.1 ≤ (chI w D i d st m).1 ∧ (chI w D i d st m).1 ≤ st.1 + m
  | 0 => ⟨Nat.le_refl _, Nat.le_refl _⟩
  | m + 1 => by
    have ih := chI_le (w := w) (D := D) (i := i) (d := d) (st := st) m
    rw [chI_s]
    split
    · exact ⟨by show st.1 ≤ (chI w D i d st m).1 + 1; omega, by show (chI w D i d st m).1 + 1 ≤ st.1 + (m + 1); omega⟩
    · omega
/-- once found, it stays -/
theorem chI_st {w : Nat → Int32} {D j d : Nat} {st : Nat × Int32} (hj : j < st.1) (hb : st.1 ≤ 1000) : ∀ m, m ≤ 1000 → (chI w D (nI j) d st m).2 = st.2
  | 0, _ => rfl
  | m + 1, hm => by
    have ih := chI_st (w := w) (D := D) (d := d) hj hb m (by omega)
    have hl := chI_le (w := w) (D := D) (i := nI j) (d := d) (st := st) m
    rw [chI_s]
    split
    · show (if _ then _ else _) = _
      rw [if_neg (fun z => by have := (nI_eq (by omega) (by omega)).mp z; omega)]
      exact ih
    · exact ih
theorem chI_pl {w : Nat → Int32} {D : Nat} {i : Int32} {d : Nat} {st : Nat × Int32} (a : Nat) : ∀ b, chI w D i d st (a + b) = (fun q => q) (chI w D i d st (a + b))
  | _ => rfl
/-- the rest of the twos of one -/
theorem chI_up {w : Nat → Int32} {D j d : Nat} {st : Nat × Int32} {m M : Nat} (hj : j < (chI w D (nI j) d st m).1) (hb : st.1 ≤ 900) (hM : M ≤ 50) (hm : m ≤ M) : (chI w D (nI j) d st M).2 = (chI w D (nI j) d st m).2 ∧ (chI w D (nI j) d st m).1 ≤ (chI w D (nI j) d st M).1 := by
  obtain ⟨b, rfl⟩ : ∃ b, M = m + b := ⟨M - m, by omega⟩
  clear hm
  induction b with
  | zero => exact ⟨rfl, Nat.le_refl _⟩
  | succ b ih =>
    have ih := ih (by omega)
    have hl := chI_le (w := w) (D := D) (i := nI j) (d := d) (st := st) (m + b)
    rw [← Nat.add_assoc, chI_s]
    split
    · refine ⟨?_, by show _ ≤ (chI w D (nI j) d st (m + b)).1 + 1; omega⟩
      show (if _ then _ else _) = _
      rw [if_neg (fun z => by have := (nI_eq (by omega) (by omega)).mp z; omega)]
      exact ih.1
    · exact ih
theorem chO_le {w : Nat → Int32} {D : Nat} {i : Int32} : ∀ k, (chO w D i k).1 ≤ k * D
  | 0 => Nat.zero_le _
  | k + 1 => by
    have ih := chO_le (w := w) (D := D) (i := i) k
    have hl := chI_le (w := w) (D := D) (i := i) (d := k) (st := chO w D i k) (D - (k + 1))
    show (chI w D i k (chO w D i k) (D - (k + 1))).1 ≤ (k + 1) * D
    rw [Nat.add_mul]
    omega
theorem chO_up {w : Nat → Int32} {D j k : Nat} (h8 : D ≤ 8) (hj : j < (chO w D (nI j) k).1) : ∀ M, k ≤ M → M ≤ D → (chO w D (nI j) M).2 = (chO w D (nI j) k).2 ∧ (chO w D (nI j) k).1 ≤ (chO w D (nI j) M).1 := by
  intro M hM
  obtain ⟨b, rfl⟩ : ∃ b, M = k + b := ⟨M - k, by omega⟩
  clear hM
  induction b with
  | zero => intro _; exact ⟨rfl, Nat.le_refl _⟩
  | succ b ih =>
    intro hb
    have ih := ih (by omega)
    have hl := chO_le (w := w) (D := D) (i := nI j) (k + b)
    have h64 : (k + b) * D ≤ 8 * 8 := Nat.mul_le_mul (by omega) h8
    have := chI_st (w := w) (D := D) (d := k + b) (st := chO w D (nI j) (k + b)) (j := j) (by omega) (by omega) (D - (k + b + 1)) (by omega)
    have h2 := chI_le (w := w) (D := D) (i := nI j) (d := k + b) (st := chO w D (nI j) (k + b)) (D - (k + b + 1))
    rw [← Nat.add_assoc]
    exact ⟨this.trans ih.1, Nat.le_trans ih.2 h2.1⟩
section CH
variable {O : mO} {L : Nat} {xs : Nat → Int32} {c d u n : Nat} {T : Nat → mT} {I : Nat → Nat → Int32} {J : Nat → Nat → Int64} {R : Nat → Nat → Option Nat} {g V F D S N a b : Nat} {w : Nat → Int32} {K : mH} {i : Int32}
theorem zz_0 : zz (nI 0) = some (nI 0) := by decide
theorem zz_1 : zz (nI 1) = some (nI 1) := by decide
theorem v_cWant (hG : Gnd n T I R g w V F D S N) (hw : Wf w V F D S N) (hn : n ≤ oB) (ha : a < D) (hb : b < D) : ∃ I', ev O (d + 4) MX4_wantsBedOf [.ref g, .int (nI a), .int (nI b)] (hp u n T I J R) = some (some (.int (bI (wB w D a b))), hp u n T I' J R) ∧ SxC I I' := by
  have h8 := hw.1
  obtain ⟨⟨c1, c2, c3, c4, c5, c6, c7, c8, c9, c10, c11, c12⟩, q1, q2, q3, q4, q5, q6, q7, q8, -⟩ := id hG
  have ia := v_cIsIn (O := O) (d := d + 2) (u := u) (I := I) (J := J) (v := nI a) c2 hn c9 c10
  have ib := v_cIsIn (O := O) (d := d + 2) (u := u) (I := I) (J := J) (v := nI b) c2 hn c9 c10
  rw [inR_nI ha (by omega), Bool.true_and, nI_clamp (by omega), q6 a (by omega)] at ia
  rw [inR_nI hb (by omega), Bool.true_and, nI_clamp (by omega), q6 b (by omega)] at ib
  unfold wB
  rcases Vo_w hw ha with za | ⟨va, hva, za⟩
  · refine ⟨I, e_X4_wantsBedOf (d := d + 3) ?_, SxC.rf I⟩
    rw [decide_eq_false (fun z => z za)] at ia ⊢
    unfold F_X4_wantsBedOf
    rw [vc_g c2 hn, ia]
    rfl
  · have na : w (9 + a) ≠ -1 := by rw [za]; exact nI_ne1 (by omega)
    rcases Vo_w hw hb with zb | ⟨vb, hvb, zb⟩
    · refine ⟨I, e_X4_wantsBedOf (d := d + 3) ?_, SxC.rf I⟩
      rw [decide_eq_true na] at ia ⊢
      rw [decide_eq_false (fun z => z zb)] at ib ⊢
      unfold F_X4_wantsBedOf
      rw [vc_g c2 hn, ia, toI_i, Option.bind_some]
      dsimp only
      rw [if_neg (show ¬ bI true = 0 by decide), vc_g c2 hn, ib]
      rfl
    · have nb : w (9 + b) ≠ -1 := by rw [zb]; exact nI_ne1 (by omega)
      rw [decide_eq_true na] at ia ⊢
      rw [decide_eq_true nb] at ib ⊢
      have nva : nv w (9 + a) = va := by unfold nv; rw [za, nI_clamp (by omega)]
      have nvb : nv w (9 + b) = vb := by unfold nv; rw [zb, nI_clamp (by omega)]
      have wa := v_wishOf (O := O) (d := d + 2) (u := u) (J := J) (I := I) (e := nI a) (v := nI va) c2 hn c5 c6 c9 c10
      rw [inR_nI ha (by omega), inR_nI hva (by omega), if_pos (show (true && true) = true from rfl), nI_clamp (by omega), nI_clamp (by omega), show a * 5 + va = 5 * a + va by omega, q8 a va (by omega) (by omega)] at wa
      have wb := v_wishOf (O := O) (d := d + 2) (u := u) (J := J) (I := I) (e := nI a) (v := nI vb) c2 hn c5 c6 c9 c10
      rw [inR_nI ha (by omega), inR_nI hvb (by omega), if_pos (show (true && true) = true from rfl), nI_clamp (by omega), nI_clamp (by omega), show a * 5 + vb = 5 * a + vb by omega, q8 a vb (by omega) (by omega)] at wb
      by_cases e : w (9 + a) = w (9 + b)
      · refine ⟨I, e_X4_wantsBedOf (d := d + 3) ?_, SxC.rf I⟩
        rw [decide_eq_false (fun z => z e)]
        unfold F_X4_wantsBedOf
        simp +decide (disch := first | assumption | omega) only [ga_g_1, ga_g_2, ga_g_3, ga_g_4, ga_g_5, ga_g_6, ga_g_7, ga_g_8, ga_g_9, ga_g_10, gi_g_11, pi_g_11, gi_g_12, pi_g_12, gi_g_13, pi_g_13, gi_g_14, pi_g_14, gi_g_15, pi_g_15, gi_g_16, pi_g_16, gi_g_17, pi_g_17, ga_g_0, vc_g, rd_g_1, wr_g_1, ln_g_1, rd_g_2, wr_g_2, ln_g_2, rd_g_3, wr_g_3, ln_g_3, rd_g_4, wr_g_4, ln_g_4, rd_g_5, wr_g_5, ln_g_5, rd_g_6, wr_g_6, ln_g_6, rd_g_7, wr_g_7, ln_g_7, rd_g_8, wr_g_8, ln_g_8, rd_g_9, wr_g_9, ln_g_9, rd_g_10, Option.bind_some, toI_i, toJ_j, toV_v, toR_r, up2_at, up2_na, up2_nk, up2_off, nI_add, nI_mul, nI_leI, nI_ltI, nI_eq, bI_eq0, ia, ib, q6 a (by omega), q6 b (by omega), e, ↓reduceIte]
        rfl
      · rw [decide_eq_true e]
        unfold rtW
        rw [nva, nvb, zb]
        have e' : ¬ va = vb := fun z => e (by rw [za, zb, z])
        by_cases hle : w (50 + 5 * a + vb) ≤ w (50 + 5 * a + va)
        · refine ⟨I, e_X4_wantsBedOf (d := d + 3) ?_, SxC.rf I⟩
          rw [decide_eq_false (fun z => z hle)]
          unfold F_X4_wantsBedOf
          simp +decide (disch := first | assumption | omega) only [ga_g_1, ga_g_2, ga_g_3, ga_g_4, ga_g_5, ga_g_6, ga_g_7, ga_g_8, ga_g_9, ga_g_10, gi_g_11, pi_g_11, gi_g_12, pi_g_12, gi_g_13, pi_g_13, gi_g_14, pi_g_14, gi_g_15, pi_g_15, gi_g_16, pi_g_16, gi_g_17, pi_g_17, ga_g_0, vc_g, rd_g_1, wr_g_1, ln_g_1, rd_g_2, wr_g_2, ln_g_2, rd_g_3, wr_g_3, ln_g_3, rd_g_4, wr_g_4, ln_g_4, rd_g_5, wr_g_5, ln_g_5, rd_g_6, wr_g_6, ln_g_6, rd_g_7, wr_g_7, ln_g_7, rd_g_8, wr_g_8, ln_g_8, rd_g_9, wr_g_9, ln_g_9, rd_g_10, Option.bind_some, toI_i, toJ_j, toV_v, toR_r, up2_at, up2_na, up2_nk, up2_off, nI_add, nI_mul, nI_leI, nI_ltI, nI_eq, bI_eq0, ia, ib, q6 a (by omega), q6 b (by omega), za, zb, e', wa, wb, hle, ↓reduceIte]
          rfl
        · obtain ⟨I1, e1, s1⟩ := v_cBar (O := O) (d := d) (u := u) (J := J) hG hw hn ha hvb
          refine ⟨I1, e_X4_wantsBedOf (d := d + 3) ?_, s1⟩
          rw [decide_eq_true hle]
          unfold F_X4_wantsBedOf
          simp +decide (disch := first | assumption | omega) only [ga_g_1, ga_g_2, ga_g_3, ga_g_4, ga_g_5, ga_g_6, ga_g_7, ga_g_8, ga_g_9, ga_g_10, gi_g_11, pi_g_11, gi_g_12, pi_g_12, gi_g_13, pi_g_13, gi_g_14, pi_g_14, gi_g_15, pi_g_15, gi_g_16, pi_g_16, gi_g_17, pi_g_17, ga_g_0, vc_g, rd_g_1, wr_g_1, ln_g_1, rd_g_2, wr_g_2, ln_g_2, rd_g_3, wr_g_3, ln_g_3, rd_g_4, wr_g_4, ln_g_4, rd_g_5, wr_g_5, ln_g_5, rd_g_6, wr_g_6, ln_g_6, rd_g_7, wr_g_7, ln_g_7, rd_g_8, wr_g_8, ln_g_8, rd_g_9, wr_g_9, ln_g_9, rd_g_10, Option.bind_some, toI_i, toJ_j, toV_v, toR_r, up2_at, up2_na, up2_nk, up2_off, nI_add, nI_mul, nI_leI, nI_ltI, nI_eq, bI_eq0, ia, ib, q6 a (by omega), q6 b (by omega), za, zb, e', wa, wb, hle, ↓reduceIte, e1]
          cases baR w D a (nI vb) with
          | false => rw [if_pos rfl, zz_1]; rfl
          | true => rw [if_neg (by decide), zz_0]; rfl
theorem v_mRather (hS : St n T R) (h20 : I 69 20 = nI 0) (hw : Wf (I 71) V F D S N) (ha : a < D) (hb : b < D) (na : I 71 (9 + a) ≠ -1) (nb : I 71 (9 + b) ≠ -1) : ∃ I' J', ev O (d + 6) MX11_wouldRather [.ref 69, .int (nI a), .int (nI b)] (hp u n T I J R) = some (some (.int (bI (rtW (I 71) D a b))), hp u n T I' J' R) ∧ SxM 69 I I' J J' := by
  have h8 := hw.1
  rcases Vo_w hw ha with za | ⟨va, hva, za⟩
  · exact absurd za na
  rcases Vo_w hw hb with zb | ⟨vb, hvb, zb⟩
  · exact absurd zb nb
  have nva : nv (I 71) (9 + a) = va := by unfold nv; rw [za, nI_clamp (by omega)]
  have nvb : nv (I 71) (9 + b) = vb := by unfold nv; rw [zb, nI_clamp (by omega)]
  unfold rtW
  rw [nva, nvb, zb]
  by_cases hle : I 71 (50 + 5 * a + vb) ≤ I 71 (50 + 5 * a + va)
  · refine ⟨I, J, e_X11_wouldRather (d := d + 5) ?_, SxM.rf 69 I J⟩
    rw [decide_eq_false (fun z => z hle)]
    unfold F_X11_wouldRather
    simp +decide (disch := first | assumption | omega) only [vc_69, gi_69_0, pi_69_0, gi_69_1, pi_69_1, ga_69_2, ga_69_3, ga_69_4, ga_69_5, ga_69_6, ga_69_7, gi_69_8, pi_69_8, ga_69_9, ga_69_10, gi_69_11, pi_69_11, ga_69_12, gi_69_13, pi_69_13, gi_69_14, pi_69_14, gi_69_15, pi_69_15, gi_69_16, pi_69_16, gj_69_17, pj_69_17, gi_69_18, pi_69_18, gi_69_19, pi_69_19, gi_69_20, pi_69_20, gi_69_21, pi_69_21, ga_69_22, gi_69_23, pi_69_23, ga_69_24, ga_69_25, gi_69_26, pi_69_26, ga_69_27, ga_69_28, gi_69_29, pi_69_29, gi_69_30, pi_69_30, ga_69_31, ga_69_32, ga_69_33, gi_69_34, pi_69_34, ga_69_35, ga_69_36, ga_69_37, gi_69_38, pi_69_38, gj_69_39, pj_69_39, gj_69_40, pj_69_40, ga_69_41, ga_69_42, ga_69_43, ga_69_44, ga_69_45, ga_69_46, ga_69_47, gi_69_48, pi_69_48, gi_69_49, pi_69_49, gi_69_50, pi_69_50, gi_69_51, pi_69_51, gj_69_52, pj_69_52, ga_69_53, gi_69_54, pi_69_54, gi_69_55, pi_69_55, rd_71, wr_71, ln_71, Option.bind_some, toI_i, toJ_j, toV_v, toR_r, up2_at, up2_na, up2_nk, up2_off, nI_add, nI_mul, nI_leI, nI_ltI, nI_eq, bI_eq0, za, zb, hle, ↓reduceIte]
    rfl
  · obtain ⟨I1, J1, e1, s1⟩ := v_mBar (O := O) (d := d) (u := u) (J := J) hS h20 hw ha hvb
    refine ⟨I1, J1, e_X11_wouldRather (d := d + 5) ?_, s1⟩
    rw [decide_eq_true hle]
    unfold F_X11_wouldRather
    simp +decide (disch := first | assumption | omega) only [vc_69, gi_69_0, pi_69_0, gi_69_1, pi_69_1, ga_69_2, ga_69_3, ga_69_4, ga_69_5, ga_69_6, ga_69_7, gi_69_8, pi_69_8, ga_69_9, ga_69_10, gi_69_11, pi_69_11, ga_69_12, gi_69_13, pi_69_13, gi_69_14, pi_69_14, gi_69_15, pi_69_15, gi_69_16, pi_69_16, gj_69_17, pj_69_17, gi_69_18, pi_69_18, gi_69_19, pi_69_19, gi_69_20, pi_69_20, gi_69_21, pi_69_21, ga_69_22, gi_69_23, pi_69_23, ga_69_24, ga_69_25, gi_69_26, pi_69_26, ga_69_27, ga_69_28, gi_69_29, pi_69_29, gi_69_30, pi_69_30, ga_69_31, ga_69_32, ga_69_33, gi_69_34, pi_69_34, ga_69_35, ga_69_36, ga_69_37, gi_69_38, pi_69_38, gj_69_39, pj_69_39, gj_69_40, pj_69_40, ga_69_41, ga_69_42, ga_69_43, ga_69_44, ga_69_45, ga_69_46, ga_69_47, gi_69_48, pi_69_48, gi_69_49, pi_69_49, gi_69_50, pi_69_50, gi_69_51, pi_69_51, gj_69_52, pj_69_52, ga_69_53, gi_69_54, pi_69_54, gi_69_55, pi_69_55, rd_71, wr_71, ln_71, Option.bind_some, toI_i, toJ_j, toV_v, toR_r, up2_at, up2_na, up2_nk, up2_off, nI_add, nI_mul, nI_leI, nI_ltI, nI_eq, bI_eq0, za, zb, hle, ↓reduceIte, e1]
    cases baR (I 71) D a (nI vb) with
    | false => rw [if_pos rfl, zz_1]; rfl
    | true => rw [if_neg (by decide), zz_0]; rfl
/-- the class's loop over one's twos -/
theorem v_cInn {st : Nat × Int32} (hG : Gnd n T I R g w V F D S N) (hw : Wf w V F D S N) (hn : n ≤ oB) (ha : a < D) (hst : st.2 = -1) (hb : st.1 ≤ 64) (hi : i = -1 ∨ ∃ j, j < 2 ^ 31 ∧ i = nI j) : ∃ r, lupF (fun (q : Int32 × Int32 × mH) => F_X4_exchange_l20 O (d + 4) g i (nI a) q.1 q.2.1 q.2.2) FU (nI st.1, nI (a + 1), hp u n T I J R) = some r ∧ (fun r => (∃ I', r = .inl (nI (chI w D i a st (D - (a + 1))).1, hp u n T I' J R) ∧ SxC I I' ∧ (chI w D i a st (D - (a + 1))).2 = -1) ∨ (∃ I' j, r = .inr ((chI w D i a st (D - (a + 1))).2, hp u n T I' J R) ∧ SxC I I' ∧ i = nI j ∧ j < (chI w D i a st (D - (a + 1))).1)) r := by
  have h8 := hw.1
  refine lup_P0 (fun m s => ∃ I', s = (nI (chI w D i a st m).1, nI (a + 1 + m), hp u n T I' J R) ∧ SxC I I' ∧ (chI w D i a st m).2 = -1) _ (N := D - (a + 1)) (by omega) ⟨I, rfl, SxC.rf I, hst⟩ ?_ ?_
  · intro m s hm ⟨I1, hs, hx, h1⟩
    subst hs
    have hG1 := Gnd_Sx hG hx
    have hl := chI_le (w := w) (D := D) (i := i) (d := a) (st := st) m
    obtain ⟨⟨c1, c2, c3, c4, c5, c6, c7, c8, c9, c10, c11, c12⟩, -⟩ := id hG1
    obtain ⟨I2, e2, s2⟩ := v_cWant (O := O) (d := d) (u := u) (J := J) (a := a) (b := a + 1 + m) hG1 hw hn ha (by omega)
    have hG2 := Gnd_Sx hG1 s2
    obtain ⟨I3, e3, s3⟩ := v_cWant (O := O) (d := d) (u := u) (J := J) (a := a + 1 + m) (b := a) hG2 hw hn (by omega) ha
    dsimp only
    unfold F_X4_exchange_l20
    rw [gi_g_13 c2 hn, Option.bind_some, c9, if_neg (nI_ge (by omega) (by omega)), e2, toI_i, Option.bind_some]
    dsimp only
    cases hw1 : wB w D a (a + 1 + m) with
    | false =>
      have ht : twB w D a (a + 1 + m) = false := by unfold twB; rw [hw1]; rfl
      left
      refine ⟨_, ?_, I2, rfl, hx.tr s2, ?_⟩
      · rw [if_pos (show bI false = 0 from rfl), chI_s, if_neg (by rw [ht]; decide), nI_add, Nat.add_assoc]
      · rw [chI_s, if_neg (by rw [ht]; decide)]
        exact h1
    | true =>
      rw [if_neg (show ¬ bI true = 0 by decide), e3, toI_i, Option.bind_some]
      dsimp only
      cases hw2 : wB w D (a + 1 + m) a with
      | false =>
        have ht : twB w D a (a + 1 + m) = false := by unfold twB; rw [hw1, hw2]; rfl
        left
        refine ⟨_, ?_, I3, rfl, (hx.tr s2).tr s3, ?_⟩
        · rw [if_pos (show bI false = 0 from rfl), chI_s, if_neg (by rw [ht]; decide), nI_add, Nat.add_assoc]
        · rw [chI_s, if_neg (by rw [ht]; decide)]
          exact h1
      | true =>
        have ht : twB w D a (a + 1 + m) = true := by unfold twB; rw [hw1, hw2]; rfl
        rw [if_neg (show ¬ bI true = 0 by decide)]
        by_cases he : nI (chI w D i a st m).1 = i
        · right
          rw [if_pos he]
          rcases hi with hi | ⟨j, hj, rfl⟩
          · exact absurd (he.trans hi) (nI_ne1 (by omega))
          have ej : (chI w D (nI j) a st m).1 = j := (nI_eq (by omega) hj).mp he
          have h1' : chI w D (nI j) a st (m + 1) = (j + 1, nI (10 * a + (a + 1 + m))) := by
            rw [chI_s, if_pos ht, ej, if_pos rfl]
          have up := chI_up (w := w) (D := D) (j := j) (d := a) (st := st) (m := m + 1) (M := D - (a + 1)) (by rw [h1']; exact Nat.lt_succ_self j) (by omega) (by omega) (by omega)
          rw [h1'] at up
          refine ⟨_, rfl, Or.inr ⟨I3, j, ?_, (hx.tr s2).tr s3, rfl, by have := up.2; omega⟩⟩
          rw [up.1, nI_mul, nI_add]
        · left
          rw [if_neg he]
          refine ⟨_, ?_, I3, rfl, (hx.tr s2).tr s3, ?_⟩
          · rw [chI_s, if_pos ht, nI_add, nI_add, Nat.add_assoc]
          · rw [chI_s, if_pos ht]
            show (if _ then _ else _) = _
            rw [if_neg he]
            exact h1
  · intro s ⟨I1, hs, hx, h1⟩
    subst hs
    have hG1 := Gnd_Sx hG hx
    obtain ⟨⟨c1, c2, c3, c4, c5, c6, c7, c8, c9, c10, c11, c12⟩, -⟩ := id hG1
    refine ⟨_, ?_, Or.inl ⟨I1, rfl, hx, h1⟩⟩
    dsimp only
    unfold F_X4_exchange_l20
    rw [gi_g_13 c2 hn, Option.bind_some, c9, if_pos (nI_le (by omega) (by omega))]
theorem chO_s (w : Nat → Int32) (D : Nat) (i : Int32) (k : Nat) : chO w D i (k + 1) = chI w D i k (chO w D i k) (D - (k + 1)) := rfl
/-- what changes() answers -/
def chgA (w : Nat → Int32) (D : Nat) (i : Int32) : Int32 := if i = -1 then nI (chO w D i D).1 else (chO w D i D).2
theorem v_cExch (hG : Gnd n T I R g w V F D S N) (hw : Wf w V F D S N) (hn : n ≤ oB) (hi : i = -1 ∨ ∃ j, j < 2 ^ 31 ∧ i = nI j) : ∃ I', ev O (d + 5) MX4_exchange [.ref 7, .ref g, .int i] (hp u n T I J R) = some (some (.int (chgA w D i)), hp u n T I' J R) ∧ SxC I I' := by
  have h8 := hw.1
  have LL : ∃ r, lupF (fun (q : Int32 × Int32 × mH) => F_X4_exchange_l5 O (d + 4) g i q.1 q.2.1 q.2.2) FU (nI 0, nI 0, hp u n T I J R) = some r ∧ (fun r => (∃ I', r = .inl (nI (chO w D i D).1, hp u n T I' J R) ∧ SxC I I' ∧ (chO w D i D).2 = -1) ∨ (∃ I' j, r = .inr ((chO w D i D).2, hp u n T I' J R) ∧ SxC I I' ∧ i = nI j ∧ j < 2 ^ 31)) r := by
    refine lup_P0 (fun k s => ∃ I', s = (nI (chO w D i k).1, nI k, hp u n T I' J R) ∧ SxC I I' ∧ (chO w D i k).2 = -1) _ (N := D) (by omega) ⟨I, rfl, SxC.rf I, rfl⟩ ?_ ?_
    · intro k s hk ⟨I1, hs, hx, h1⟩
      subst hs
      have hG1 := Gnd_Sx hG hx
      obtain ⟨⟨c1, c2, c3, c4, c5, c6, c7, c8, c9, c10, c11, c12⟩, -⟩ := id hG1
      have hl := chO_le (w := w) (D := D) (i := i) k
      have h64 : k * D ≤ 8 * 8 := Nat.mul_le_mul (by omega) (by omega)
      obtain ⟨r, e, hr⟩ := v_cInn (O := O) (d := d) (u := u) (J := J) (a := k) (st := chO w D i k) hG1 hw hn hk h1 (by omega) hi
      dsimp only
      unfold F_X4_exchange_l5
      rw [gi_g_13 c2 hn, Option.bind_some, c9, if_neg (nI_ge hk (by omega)), nI_add, e, Option.bind_some]
      rcases hr with ⟨I2, hr, s2, h2⟩ | ⟨I2, j, hr, s2, hj, h2⟩
      · left
        refine ⟨_, ?_, I2, rfl, hx.tr s2, h2⟩
        rw [hr]
        rfl
      · right
        rw [hr]
        subst hj
        have hl2 := chO_le (w := w) (D := D) (i := nI j) (k + 1)
        have h642 : (k + 1) * D ≤ 8 * 8 := Nat.mul_le_mul (by omega) (by omega)
        have hlt : j < (chO w D (nI j) (k + 1)).1 := h2
        have up := chO_up (w := w) (D := D) (j := j) (k := k + 1) (by omega) h2 D (by omega) (Nat.le_refl D)
        refine ⟨_, rfl, Or.inr ⟨I2, j, ?_, hx.tr s2, rfl, by omega⟩⟩
        rw [up.1]
        rfl
    · intro s ⟨I1, hs, hx, h1⟩
      subst hs
      have hG1 := Gnd_Sx hG hx
      obtain ⟨⟨c1, c2, c3, c4, c5, c6, c7, c8, c9, c10, c11, c12⟩, -⟩ := id hG1
      refine ⟨_, ?_, Or.inl ⟨I1, rfl, hx, h1⟩⟩
      dsimp only
      unfold F_X4_exchange_l5
      rw [gi_g_13 c2 hn, Option.bind_some, c9, if_pos (nI_le (Nat.le_refl D) (by omega))]
  obtain ⟨r, e, hr⟩ := LL
  rcases hr with ⟨I2, hr, s2, h2⟩ | ⟨I2, j, hr, s2, hj, h2⟩
  · refine ⟨I2, e_X4_exchange (d := d + 4) ?_, s2⟩
    unfold F_X4_exchange
    rw [e, hr]
    unfold chgA
    rw [h2]
    rfl
  · refine ⟨I2, e_X4_exchange (d := d + 4) ?_, s2⟩
    unfold F_X4_exchange
    rw [e, hr]
    unfold chgA
    rw [if_neg (by rw [hj]; exact nI_ne1 h2)]
    rfl
/-- the reference's loop over one's twos -/
theorem v_mInn {st : Nat × Int32} (hS : St n T R) (h20 : I 69 20 = nI 0) (hw : Wf (I 71) V F D S N) (ha : a < D) (hb : st.1 ≤ 64) : ∃ r, lupF (fun (q : Int32 × Int32 × Int32 × mH) => F_X11_changes_l29 O (d + 6) 69 i (nI a) q.1 q.2.1 q.2.2.1 q.2.2.2) FU (nI st.1, st.2, nI (a + 1), hp u n T I J R) = some r ∧ (fun r => ∃ I' J', r = (nI (chI (I 71) D i a st (D - (a + 1))).1, (chI (I 71) D i a st (D - (a + 1))).2, hp u n T I' J' R) ∧ SxM 69 I I' J J') r := by
  have h8 := hw.1
  refine lup_P0 (fun m s => ∃ I' J', s = (nI (chI (I 71) D i a st m).1, (chI (I 71) D i a st m).2, nI (a + 1 + m), hp u n T I' J' R) ∧ SxM 69 I I' J J') _ (N := D - (a + 1)) (by omega) ⟨I, J, rfl, SxM.rf 69 I J⟩ ?_ ?_
  · intro m s hm ⟨I1, J1, hs, hx⟩
    subst hs
    left
    have e71 : I1 71 = I 71 := hx.1 71 (by decide)
    have h20' : I1 69 20 = nI 0 := by rw [hx.2.1 20 (by decide) (by decide)]; exact h20
    have hw1 := Wf_Sx hw hx
    have w2 : I 71 2 = nI D := hw.2.1.2.2.1
    have hl := chI_le (w := I 71) (D := D) (i := i) (d := a) (st := st) m
    have no : twB (I 71) D a (a + 1 + m) = false → chI (I 71) D i a st (m + 1) = chI (I 71) D i a st m := fun z => by rw [chI_s, if_neg (by rw [z]; decide)]
    dsimp only
    unfold F_X11_changes_l29
    rw [ga_69_3 hS, Option.bind_some, rd_71 hS (by omega), Option.bind_some, e71, w2, if_neg (nI_ge (by omega) (by omega)), vc_69 hS, v_isIn hS (by omega), toI_i, Option.bind_some]
    dsimp only
    rw [e71]
    by_cases na : I 71 (9 + a) = -1
    · have ht : twB (I 71) D a (a + 1 + m) = false := by unfold twB wB; simp [na]
      refine ⟨_, ?_, I1, J1, rfl, hx⟩
      rw [decide_eq_false (fun z => z na), if_pos (show bI false = 0 from rfl), no ht, nI_add, Nat.add_assoc]
    · rw [decide_eq_true na, if_neg (show ¬ bI true = 0 by decide), vc_69 hS, v_isIn hS (by omega), toI_i, Option.bind_some]
      dsimp only
      rw [e71]
      by_cases nb : I 71 (9 + (a + 1 + m)) = -1
      · have ht : twB (I 71) D a (a + 1 + m) = false := by unfold twB wB; simp [nb]
        refine ⟨_, ?_, I1, J1, rfl, hx⟩
        rw [decide_eq_false (fun z => z nb), if_pos (show bI false = 0 from rfl), no ht, nI_add, Nat.add_assoc]
      · rw [decide_eq_true nb, if_neg (show ¬ bI true = 0 by decide), ga_69_3 hS, Option.bind_some, nI_add, rd_71 hS (by omega), Option.bind_some, nI_add, Option.bind_some, rd_71 hS (by omega), Option.bind_some, e71]
        by_cases e : I 71 (9 + a) = I 71 (9 + (a + 1 + m))
        · have ht : twB (I 71) D a (a + 1 + m) = false := by unfold twB wB; simp [e]
          refine ⟨_, ?_, I1, J1, rfl, hx⟩
          rw [if_pos e, no ht, nI_add, Nat.add_assoc]
        · have ea : wB (I 71) D a (a + 1 + m) = rtW (I 71) D a (a + 1 + m) := by unfold wB; rw [decide_eq_true na, decide_eq_true nb, decide_eq_true e]; rfl
          have eb : wB (I 71) D (a + 1 + m) a = rtW (I 71) D (a + 1 + m) a := by unfold wB; rw [decide_eq_true na, decide_eq_true nb, decide_eq_true (show I 71 (9 + (a + 1 + m)) ≠ I 71 (9 + a) from fun z => e z.symm)]; rfl
          obtain ⟨I2, J2, e2, s2⟩ := v_mRather (O := O) (d := d) (u := u) (J := J1) (I := I1) (a := a) (b := a + 1 + m) hS h20' hw1 ha (by omega) (by rw [e71]; exact na) (by rw [e71]; exact nb)
          have hw2 := Wf_Sx hw1 s2
          have e712 : I2 71 = I 71 := (s2.1 71 (by decide)).trans e71
          obtain ⟨I3, J3, e3, s3⟩ := v_mRather (O := O) (d := d) (u := u) (J := J2) (I := I2) (a := a + 1 + m) (b := a) hS (by rw [s2.2.1 20 (by decide) (by decide)]; exact h20') hw2 (by omega) ha (by rw [e712]; exact nb) (by rw [e712]; exact na)
          rw [e71] at e2
          rw [e712] at e3
          rw [if_neg e, vc_69 hS, e2, toI_i, Option.bind_some]
          dsimp only
          cases hr1 : rtW (I 71) D a (a + 1 + m) with
          | false =>
            have ht : twB (I 71) D a (a + 1 + m) = false := by unfold twB; rw [ea, hr1]; rfl
            refine ⟨_, ?_, I2, J2, rfl, hx.trans s2⟩
            rw [if_pos (show bI false = 0 from rfl), no ht, nI_add, Nat.add_assoc]
          | true =>
            refine ⟨_, ?_, I3, J3, rfl, (hx.trans s2).trans s3⟩
            rw [if_neg (show ¬ bI true = 0 by decide), vc_69 hS, e3, toI_i, Option.bind_some]
            dsimp only
            cases hr2 : rtW (I 71) D (a + 1 + m) a with
            | false =>
              have ht : twB (I 71) D a (a + 1 + m) = false := by unfold twB; rw [ea, eb, hr1, hr2]; rfl
              rw [if_pos (show bI false = 0 from rfl), if_pos (show bI false = 0 from rfl), no ht, nI_add, Nat.add_assoc]
            | true =>
              have ht : twB (I 71) D a (a + 1 + m) = true := by unfold twB; rw [ea, eb, hr1, hr2]; rfl
              rw [if_neg (show ¬ bI true = 0 by decide), if_neg (show ¬ bI true = 0 by decide), chI_s, if_pos ht, nI_add, nI_add, nI_mul, nI_add]
              rfl
  · intro s ⟨I1, J1, hs, hx⟩
    subst hs
    have e71 : I1 71 = I 71 := hx.1 71 (by decide)
    have w2 : I 71 2 = nI D := hw.2.1.2.2.1
    refine ⟨_, ?_, I1, J1, rfl, hx⟩
    dsimp only
    unfold F_X11_changes_l29
    simp (disch := first | assumption | omega) only [vc_69, gi_69_0, pi_69_0, gi_69_1, pi_69_1, ga_69_2, ga_69_3, ga_69_4, ga_69_5, ga_69_6, ga_69_7, gi_69_8, pi_69_8, ga_69_9, ga_69_10, gi_69_11, pi_69_11, ga_69_12, gi_69_13, pi_69_13, gi_69_14, pi_69_14, gi_69_15, pi_69_15, gi_69_16, pi_69_16, gj_69_17, pj_69_17, gi_69_18, pi_69_18, gi_69_19, pi_69_19, gi_69_20, pi_69_20, gi_69_21, pi_69_21, ga_69_22, gi_69_23, pi_69_23, ga_69_24, ga_69_25, gi_69_26, pi_69_26, ga_69_27, ga_69_28, gi_69_29, pi_69_29, gi_69_30, pi_69_30, ga_69_31, ga_69_32, ga_69_33, gi_69_34, pi_69_34, ga_69_35, ga_69_36, ga_69_37, gi_69_38, pi_69_38, gj_69_39, pj_69_39, gj_69_40, pj_69_40, ga_69_41, ga_69_42, ga_69_43, ga_69_44, ga_69_45, ga_69_46, ga_69_47, gi_69_48, pi_69_48, gi_69_49, pi_69_49, gi_69_50, pi_69_50, gi_69_51, pi_69_51, gj_69_52, pj_69_52, ga_69_53, gi_69_54, pi_69_54, gi_69_55, pi_69_55, rd_71, wr_71, ln_71, Option.bind_some, toI_i, toJ_j, toV_v, toR_r, up2_at, up2_na, up2_nk, up2_off, nI_add, nI_mul, nI_leI, nI_ltI, nI_eq, bI_eq0, e71, w2]
    rw [if_pos (by omega)]
theorem v_mChg (hS : St n T R) (h20 : I 69 20 = nI 0) (hw : Wf (I 71) V F D S N) : ∃ r, lupF (fun (q : Int32 × Int32 × Int32 × mH) => F_X11_changes_l12 O (d + 6) 69 i q.1 q.2.1 q.2.2.1 q.2.2.2) FU (nI 0, -1, nI 0, hp u n T I J R) = some r ∧ (fun r => ∃ I' J', r = (nI (chO (I 71) D i D).1, (chO (I 71) D i D).2, hp u n T I' J' R) ∧ SxM 69 I I' J J') r := by
  have h8 := hw.1
  have w2 : I 71 2 = nI D := hw.2.1.2.2.1
  refine lup_P0 (fun k s => ∃ I' J', s = (nI (chO (I 71) D i k).1, (chO (I 71) D i k).2, nI k, hp u n T I' J' R) ∧ SxM 69 I I' J J') _ (N := D) (by omega) ⟨I, J, rfl, SxM.rf 69 I J⟩ ?_ ?_
  · intro k s hk ⟨I1, J1, hs, hx⟩
    subst hs
    left
    have e71 : I1 71 = I 71 := hx.1 71 (by decide)
    have hl := chO_le (w := I 71) (D := D) (i := i) k
    have h64 : k * D ≤ 8 * 8 := Nat.mul_le_mul (by omega) (by omega)
    obtain ⟨r, e, I2, J2, hr, s2⟩ := v_mInn (O := O) (d := d) (u := u) (J := J1) (I := I1) (i := i) (a := k) (st := chO (I 71) D i k) hS (by rw [hx.2.1 20 (by decide) (by decide)]; exact h20) (Wf_Sx hw hx) hk (by omega)
    rw [e71] at hr
    refine ⟨(nI (chO (I 71) D i (k + 1)).1, (chO (I 71) D i (k + 1)).2, nI (k + 1), hp u n T I2 J2 R), ?_, I2, J2, rfl, hx.trans s2⟩
    dsimp only
    unfold F_X11_changes_l12
    simp (disch := first | assumption | omega) only [vc_69, gi_69_0, pi_69_0, gi_69_1, pi_69_1, ga_69_2, ga_69_3, ga_69_4, ga_69_5, ga_69_6, ga_69_7, gi_69_8, pi_69_8, ga_69_9, ga_69_10, gi_69_11, pi_69_11, ga_69_12, gi_69_13, pi_69_13, gi_69_14, pi_69_14, gi_69_15, pi_69_15, gi_69_16, pi_69_16, gj_69_17, pj_69_17, gi_69_18, pi_69_18, gi_69_19, pi_69_19, gi_69_20, pi_69_20, gi_69_21, pi_69_21, ga_69_22, gi_69_23, pi_69_23, ga_69_24, ga_69_25, gi_69_26, pi_69_26, ga_69_27, ga_69_28, gi_69_29, pi_69_29, gi_69_30, pi_69_30, ga_69_31, ga_69_32, ga_69_33, gi_69_34, pi_69_34, ga_69_35, ga_69_36, ga_69_37, gi_69_38, pi_69_38, gj_69_39, pj_69_39, gj_69_40, pj_69_40, ga_69_41, ga_69_42, ga_69_43, ga_69_44, ga_69_45, ga_69_46, ga_69_47, gi_69_48, pi_69_48, gi_69_49, pi_69_49, gi_69_50, pi_69_50, gi_69_51, pi_69_51, gj_69_52, pj_69_52, ga_69_53, gi_69_54, pi_69_54, gi_69_55, pi_69_55, rd_71, wr_71, ln_71, Option.bind_some, toI_i, toJ_j, toV_v, toR_r, up2_at, up2_na, up2_nk, up2_off, nI_add, nI_mul, nI_leI, nI_ltI, nI_eq, bI_eq0, e71, w2]
    rw [if_neg (by omega), e, hr]
    rfl
  · intro s ⟨I1, J1, hs, hx⟩
    subst hs
    have e71 : I1 71 = I 71 := hx.1 71 (by decide)
    refine ⟨_, ?_, I1, J1, rfl, hx⟩
    dsimp only
    unfold F_X11_changes_l12
    simp (disch := first | assumption | omega) only [vc_69, gi_69_0, pi_69_0, gi_69_1, pi_69_1, ga_69_2, ga_69_3, ga_69_4, ga_69_5, ga_69_6, ga_69_7, gi_69_8, pi_69_8, ga_69_9, ga_69_10, gi_69_11, pi_69_11, ga_69_12, gi_69_13, pi_69_13, gi_69_14, pi_69_14, gi_69_15, pi_69_15, gi_69_16, pi_69_16, gj_69_17, pj_69_17, gi_69_18, pi_69_18, gi_69_19, pi_69_19, gi_69_20, pi_69_20, gi_69_21, pi_69_21, ga_69_22, gi_69_23, pi_69_23, ga_69_24, ga_69_25, gi_69_26, pi_69_26, ga_69_27, ga_69_28, gi_69_29, pi_69_29, gi_69_30, pi_69_30, ga_69_31, ga_69_32, ga_69_33, gi_69_34, pi_69_34, ga_69_35, ga_69_36, ga_69_37, gi_69_38, pi_69_38, gj_69_39, pj_69_39, gj_69_40, pj_69_40, ga_69_41, ga_69_42, ga_69_43, ga_69_44, ga_69_45, ga_69_46, ga_69_47, gi_69_48, pi_69_48, gi_69_49, pi_69_49, gi_69_50, pi_69_50, gi_69_51, pi_69_51, gj_69_52, pj_69_52, ga_69_53, gi_69_54, pi_69_54, gi_69_55, pi_69_55, rd_71, wr_71, ln_71, Option.bind_some, toI_i, toJ_j, toV_v, toR_r, up2_at, up2_na, up2_nk, up2_off, nI_add, nI_mul, nI_leI, nI_ltI, nI_eq, bI_eq0, e71, w2]
    rw [if_pos (Nat.le_refl D)]
theorem chI_no {w : Nat → Int32} {D a : Nat} {st : Nat × Int32} (h : ∀ k, k < 2 ^ 31 → ¬ nI k = i) (hb : st.1 ≤ 64) (hst : st.2 = -1) : ∀ m, m ≤ 8 → (chI w D i a st m).2 = -1
  | 0, _ => hst
  | m + 1, hm => by
    have hl := chI_le (w := w) (D := D) (i := i) (d := a) (st := st) m
    rw [chI_s]
    split
    · show (if _ then _ else _) = _
      rw [if_neg (h _ (by omega))]
      exact chI_no h hb hst m (by omega)
    · exact chI_no h hb hst m (by omega)
theorem chO_no {w : Nat → Int32} {D : Nat} (h : ∀ k, k < 2 ^ 31 → ¬ nI k = i) (h8 : D ≤ 8) : ∀ k, k ≤ D → (chO w D i k).2 = -1
  | 0, _ => rfl
  | k + 1, hk => by
    have hl := chO_le (w := w) (D := D) (i := i) k
    have h64 : k * D ≤ 8 * 8 := Nat.mul_le_mul (by omega) (by omega)
    exact chI_no h (by omega) (chO_no h h8 k (by omega)) _ (by omega)
theorem b_changes (hI : Inv c K) : Bo O Inv MX10_changes MX11_changes [.int i] c K := by
  obtain ⟨u, n, T, I, J, R, g, h, V, F, D, S, N, x, s, rfl, hI⟩ := hI
  obtain ⟨hS, hn, gg, hh, hG, hH, hw, hgd, hg⟩ := Iv_all hI
  obtain ⟨⟨v5, f4, d8, s8, n6⟩, ⟨w0, w1, w2, w3, w4⟩, hf, hs, hfam, hwi, hsn, hlw⟩ := hw
  obtain ⟨⟨c1, c2, c3, c4, c5, c6, c7, c8, c9, c10, c11, c12⟩, q1, q2, q3, q4, q5, q6, q7, q8, q9, q10, q11, ql⟩ := hgd
  obtain ⟨⟨b1, b2, b3, b4, b5⟩, b6, b7, b8, b9, b10⟩ := hI.2.2.2.2.2.2.2.1
  have hJ := hI.2.2.2.2.2.2.2.2.2
  have hu := hI.2.2.2.2.1
  have hw := hI.2.2.1
  have hgd := hI.2.2.2.1
  have run : ∀ (I1 : Nat → Nat → Int32) (A : Int32), I1 71 = I 71 → I1 69 20 = nI 0 → chgA (I 71) D i = A → ∃ I2 J2, F_X11_changes O 199 69 i (hp u n T I1 J R) = some (A, hp u n T I2 J2 R) ∧ MSx I1 I2 ∧ MJx J J2 := by
    intro I1 A e71' e20 hA
    have e71 : up2 I1 69 0 (nI 0) 71 = I 71 := by rw [up2_off _ _ _ (by decide), e71']
    obtain ⟨r, e, I2, J2, hr, s2⟩ := v_mChg (O := O) (d := 193) (u := u) (J := J) (I := up2 I1 69 0 (nI 0)) (i := i) hS (by rw [up2_nk (by decide)]; exact e20) (by rw [e71]; exact hw)
    rw [e71] at hr
    refine ⟨I2, J2, ?_, (MSx_thr I1 (nI 0)).tr (MSx_SxM s2), MJx_SxM s2⟩
    unfold F_X11_changes
    rw [pi_69_0 hS, Option.bind_some, e, hr, ← hA]
    rfl
  by_cases h1 : -1 ≤ i
  · have hi : i = -1 ∨ ∃ j, j < 2 ^ 31 ∧ i = nI j := by
      by_cases h0 : i < 0
      · left
        apply Int32.toInt_inj.mp
        have a1 := Int32.le_iff_toInt_le.mp h1
        have a2 := Int32.lt_iff_toInt_lt.mp h0
        have e1 : (-1 : Int32).toInt = -1 := by decide
        have e0 : (0 : Int32).toInt = 0 := by decide
        omega
      · exact Or.inr (nI_of h0)
    obtain ⟨I1, e1, s1⟩ := v_cExch (O := O) (d := 194) (u := u) (J := J) (i := i) hgd hw hn hi
    obtain ⟨I2, J2, e2, m2, j2⟩ := run I1 _ (s1 71 (by decide) (by decide) (by decide)) (by rw [s1 69 (by decide) (by decide) (by decide)]; exact b5) rfl
    refine Bo_rd hI (e_X10_changes (d := 199) ?_) (CSx_SxC hg s1) (MJx_r J) (e_X11_changes (d := 199) e2) m2 j2
    unfold F_X10_changes
    rw [if_pos h1, ga_0_1 hS, Option.bind_some, gg, Option.bind_some, vc_7 hS, e1]
    rfl
  · have hA : chgA (I 71) D i = -1 := by
      unfold chgA
      rw [if_neg (fun z => h1 (by rw [z]; exact Int32.le_refl _))]
      refine chO_no (fun k hk z => h1 ?_) d8 D (Nat.le_refl D)
      rw [← z]
      exact Int32.le_trans (by decide) (nI_pos' hk)
    obtain ⟨I2, J2, e2, m2, j2⟩ := run I (-1) rfl b5 hA
    refine Bo_rd hI (e_X10_changes (d := 199) (K0 := hp u n T I J R) ?_) (fun _ _ => rfl) (MJx_r J) (e_X11_changes (d := 199) e2) m2 j2
    unfold F_X10_changes
    rw [if_neg h1]
end CH
