/-! what can be undone: both keep it; calls: undo -/
section UN
variable {O : mO} {c d u n : Nat} {T : Nat → mT} {I : Nat → Nat → Int32} {J : Nat → Nat → Int64} {R : Nat → Nat → Option Nat} {g h V F D S N x s k : Nat} {w : Nat → Int32} {K : mH}
theorem HsR_cg {hr hr' : Nat → Int32} {y : Nat} {z z' : Nat → Int32} (h : HsR hr y z) (hh : ∀ i, i < 23 → hr' (y * 23 + i) = hr (y * 23 + i)) (hz : ∀ i, 6 ≤ i → i < 37 → z' i = z i) : HsR hr' y z' := by
  obtain ⟨a1, a2, a3, a4, a5⟩ := h
  refine ⟨by rw [hh 1 (by omega), hz 6 (by omega) (by omega)]; exact a1, fun k hk => by rw [hh 2 (by omega), hz (25 + k) (by omega) (by omega)]; exact a2 k hk, fun k hk => ?_, fun k hk => ?_, fun k hk => ?_⟩
  · rw [Nat.add_assoc, hh (3 + k) (by omega), hz (33 + k) (by omega) (by omega), ← Nat.add_assoc]
    exact a3 k hk
  · rw [Nat.add_assoc, hh (7 + k) (by omega), hz (9 + k) (by omega) (by omega), ← Nat.add_assoc]
    exact a4 k hk
  · rw [Nat.add_assoc, hh (15 + k) (by omega), hz (17 + k) (by omega) (by omega), ← Nat.add_assoc]
    exact a5 k hk
theorem WfS_bd {z bd bd' : Nat → Int32} {V F D : Nat} (h : WfS z bd V F D) (h8 : D ≤ 8) (h4 : F ≤ 4) (hb : ∀ v, v < V → bd' v = bd v) : WfS z bd' V F D := WfS_cg h h8 h4 (fun _ _ _ => rfl) hb
/-- one more can be undone -/
theorem Und_push {ih hr u69 u74 u75 w ih' hr' u69' u74' u75' w' : Nat → Int32} (hU : Und ih hr u69 u74 u75 w V F D x s) (h8 : D ≤ 8) (h4 : F ≤ 4) (h1 : ih' 1 = nI ((x + 1) % 17)) (h2 : ih' 2 = nI (min 16 (s + 1))) (h3 : u69' 8 = nI (min 16 (s + 1))) (hh : ∀ y, y < 17 → y ≠ x → ∀ i, i < 23 → hr' (y * 23 + i) = hr (y * 23 + i)) (hk : hr' (x * 23) = nI k) (hk3 : k ≤ 3) (hs : HsR hr' x w) (hw : WfS w (fun v => w (37 + v)) V F D)
    (m1 : ∀ i, i < 31 → u74' (31 * (min 16 (s + 1) - 1) + i) = w (6 + i)) (m2 : u75' (min 16 (s + 1) - 1) = nI k) (m3 : ∀ q, q + 1 < min 16 (s + 1) → (∀ i, i < 31 → u74' (31 * q + i) = u74 (31 * (q + (s + 1 - min 16 (s + 1))) + i)) ∧ u75' q = u75 (q + (s + 1 - min 16 (s + 1)))) (hw' : ∀ i, i = 7 ∨ i = 8 ∨ (37 ≤ i ∧ i < 42) → w' i = w i) (hV : V ≤ 5) : Und ih' hr' u69' u74' u75' w' V F D ((x + 1) % 17) (min 16 (s + 1)) := by
  obtain ⟨⟨a1, a2, a3, a4, a5⟩, b⟩ := hU
  refine ⟨⟨h1, Nat.mod_lt _ (by decide), h2, by omega, h3⟩, fun j hj => ?_⟩
  rw [hw' 7 (by omega), hw' 8 (by omega)]
  by_cases h0 : j = 0
  · subst h0
    have ex : ((x + 1) % 17 + 16 - 0) % 17 = x := by omega
    have es : ∀ i, 6 ≤ i → i < 37 → snp u74' (min 16 (s + 1) - 1 - 0) i = w i := by
      intro i i1 i2
      unfold snp
      rw [Nat.sub_zero, m1 (i - 6) (by omega)]
      congr 1
      omega
    rw [ex, Nat.sub_zero]
    rw [Nat.sub_zero] at es
    refine ⟨hk.trans m2.symm, ⟨k, hk3, m2⟩, HsR_cg hs (fun _ _ => rfl) es, es 7 (by decide) (by decide), es 8 (by decide) (by decide), WfS_cg hw h8 h4 es (fun v hv => hw' _ (by omega))⟩
  · obtain ⟨c1, c2, c3, c4, c5, c6⟩ := b (j - 1) (by omega)
    have ex : ((x + 1) % 17 + 16 - j) % 17 = (x + 16 - (j - 1)) % 17 := by omega
    have ne : (x + 16 - (j - 1)) % 17 ≠ x := by omega
    have lt : (x + 16 - (j - 1)) % 17 < 17 := Nat.mod_lt _ (by decide)
    obtain ⟨d1, d2⟩ := m3 (min 16 (s + 1) - 1 - j) (by omega)
    have eq : min 16 (s + 1) - 1 - j + (s + 1 - min 16 (s + 1)) = s - 1 - (j - 1) := by omega
    rw [eq] at d1 d2
    have es : ∀ i, 6 ≤ i → i < 37 → snp u74' (min 16 (s + 1) - 1 - j) i = snp u74 (s - 1 - (j - 1)) i := by
      intro i i1 i2
      unfold snp
      exact d1 (i - 6) (by omega)
    have h0' := hh _ lt ne 0 (by decide)
    rw [Nat.add_zero] at h0'
    rw [ex, h0', d2, es 7 (by decide) (by decide), es 8 (by decide) (by decide)]
    exact ⟨c1, c2, HsR_cg c3 (hh _ lt ne) es, c4, c5, WfS_cg c6 h8 h4 es (fun v hv => hw' _ (by omega))⟩
/-- the free place of the ring may hold anything -/
theorem Und_slot {ih hr u69 u74 u75 w hr' : Nat → Int32} (hU : Und ih hr u69 u74 u75 w V F D x s) (hh : ∀ y, y < 17 → y ≠ x → ∀ i, i < 23 → hr' (y * 23 + i) = hr (y * 23 + i)) : Und ih hr' u69 u74 u75 w V F D x s := by
  obtain ⟨⟨a1, a2, a3, a4, a5⟩, b⟩ := hU
  refine ⟨⟨a1, a2, a3, a4, a5⟩, fun j hj => ?_⟩
  obtain ⟨c1, c2, c3, c4, c5, c6⟩ := b j hj
  have ne : (x + 16 - j) % 17 ≠ x := by omega
  have lt : (x + 16 - j) % 17 < 17 := Nat.mod_lt _ (by decide)
  have h0' := hh _ lt ne 0 (by decide)
  rw [Nat.add_zero] at h0'
  rw [h0']
  exact ⟨c1, c2, HsR_cg c3 (hh _ lt ne) (fun _ _ _ => rfl), c4, c5, c6⟩
theorem cpI_off {a b sp dp m e : Nat} (he : e ≠ a) : cpI I a b sp dp m e = I e := by
  unfold cpI
  exact up1_na he
theorem cpI_in {a b sp dp m j : Nat} (h1 : dp ≤ j) (h2 : j < dp + m) : cpI I a b sp dp m a j = I b (sp + (j - dp)) := by
  unfold cpI
  rw [up1_at, pk_cpy_in h1 h2]
theorem cpI_out {a b sp dp m j : Nat} (h1 : j < dp ∨ dp + m ≤ j) : cpI I a b sp dp m a j = I a j := by
  unfold cpI
  rw [up1_at, pk_cpy_out h1]
/-- the class's snapshot -/
theorem prI_off {kind : Int32} {e : Nat} (he : e ≠ h + 1) : prI I g h x kind e = I e := by
  unfold prI prA
  rw [cpI_off he, cpI_off he, cpI_off he, up2_off _ _ _ he, up2_off _ _ _ he, up2_off _ _ _ he]
theorem prI_out {kind : Int32} {j : Nat} (hj : j < x * 23 ∨ x * 23 + 23 ≤ j) : prI I g h x kind (h + 1) j = I (h + 1) j := by
  unfold prI prA
  rw [cpI_out (by omega), cpI_out (by omega), cpI_out (by omega), up2_nk (by omega), up2_nk (by omega), up2_nk (by omega)]
theorem prI_slot {kind : Int32} {y : Nat} (hy : y ≠ x) : ∀ i, i < 23 → prI I g h x kind (h + 1) (y * 23 + i) = I (h + 1) (y * 23 + i) := by
  intro i hi
  refine prI_out ?_
  rcases Nat.lt_or_ge y x with z | z
  · left
    have : (y + 1) * 23 ≤ x * 23 := Nat.mul_le_mul_right 23 z
    omega
  · right
    have : (x + 1) * 23 ≤ y * 23 := Nat.mul_le_mul_right 23 (by omega)
    omega
theorem prI_kind {kind : Int32} : prI I g h x kind (h + 1) (x * 23) = kind := by
  unfold prI prA
  rw [cpI_out (by omega), cpI_out (by omega), cpI_out (by omega), up2_nk (by omega), up2_nk (by omega), up2_at]
theorem prI_HsR {kind : Int32} (hG : Gnd n T I R g w V F D S N) (hgh : g = 32 ∧ h = 26 ∨ g = 58 ∧ h = 56 ∨ g = 32 ∧ h = 56 ∨ g = 58 ∧ h = 26) : HsR (prI I g h x kind (h + 1)) x w := by
  obtain ⟨-, q1, q2, q3, q4, q5, q6, q7, q8, q9, q10, q11, ql⟩ := hG
  unfold prI prA
  refine ⟨?_, fun k hk => ?_, fun k hk => ?_, fun k hk => ?_, fun k hk => ?_⟩
  · rw [cpI_out (by omega), cpI_out (by omega), cpI_out (by omega), up2_nk (by omega), up2_at, up2_na (by omega)]
    exact q10 0 (by decide)
  · rw [cpI_out (by omega), cpI_out (by omega), cpI_out (by omega), up2_at, up2_na (by omega), up2_na (by omega)]
    exact q11 k hk
  · rw [cpI_out (by omega), cpI_out (by omega), cpI_in (by omega) (by omega), up2_na (by omega), up2_na (by omega), up2_na (by omega), show 0 + (x * 23 + 3 + k - (x * 23 + 3)) = k by omega]
    exact q4 k hk
  · rw [cpI_out (by omega), cpI_in (by omega) (by omega), cpI_off (by omega), up2_na (by omega), up2_na (by omega), up2_na (by omega), show 0 + (x * 23 + 7 + k - (x * 23 + 7)) = k by omega]
    exact q6 k hk
  · rw [cpI_in (by omega) (by omega), cpI_off (by omega), cpI_off (by omega), up2_na (by omega), up2_na (by omega), up2_na (by omega), show 0 + (x * 23 + 15 + k - (x * 23 + 15)) = k by omega]
    exact q7 k hk
theorem v_prepare {kind : Int32} (hH : IsH n T R h) (hG : IsG n T R g) (hn : n ≤ oB) (hx : I h 1 = nI x) (h17 : x < 17) : ev O d MX3_prepare [.ref h, .ref g, .int kind] (hp u n T I J R) = some (none, hp u n T (prI I g h x kind) J R) := evr (c_prepare hH hG hn hx h17)
theorem v_commit (hH : IsH n T R h) (hn : n ≤ oB) (hx : I h 1 = nI x) (h17 : x < 17) (hs : I h 2 = nI s) (h16 : s ≤ 16) : ev O d MX3_commit [.ref h] (hp u n T I J R) = some (none, hp u n T (up2 (up2 I h 1 (nI ((x + 1) % 17))) h 2 (nI (min 16 (s + 1)))) J R) := evr (c_commit hH hn hx h17 hs h16)
/-- the reference's snapshot -/
theorem v_keepAll (hS : St n T R) (hk : k < 18) : ∃ I', ev O (d + 1) MX11_keepAll [.ref 69, .int (nI k)] (hp u n T I J R) = some (none, hp u n T I' J R) ∧ (∀ a, a ≠ 74 → I' a = I a) ∧ (∀ i, i < 31 → I' 74 (31 * k + i) = I 71 (6 + i)) ∧ (∀ j, j < 31 * k ∨ 31 * k + 31 ≤ j → I' 74 j = I 74 j) := by
  have LL : ∃ r, lupF (fun (q : Int32 × mH) => F_X11_keepAll_l2 O d 69 (nI k) q.1 q.2) FU (nI 0, hp u n T I J R) = some r ∧ (fun r => ∃ I', r = hp u n T I' J R ∧ (∀ a, a ≠ 74 → I' a = I a) ∧ (∀ i, i < 31 → I' 74 (31 * k + i) = I 71 (6 + i)) ∧ (∀ j, j < 31 * k ∨ 31 * k + 31 ≤ j → I' 74 j = I 74 j)) r := by
    refine lup_P0 (fun m s => ∃ I', s = (nI m, hp u n T I' J R) ∧ (∀ a, a ≠ 74 → I' a = I a) ∧ (∀ i, i < m → I' 74 (31 * k + i) = I 71 (6 + i)) ∧ (∀ j, j < 31 * k ∨ 31 * k + 31 ≤ j → I' 74 j = I 74 j)) _ (N := 31) (by omega) ⟨I, rfl, fun _ _ => rfl, fun i hi => absurd hi (Nat.not_lt_zero i), fun _ _ => rfl⟩ ?_ ?_
    · intro m s hm ⟨I1, hs, a1, a2, a3⟩
      subst hs
      left
      refine ⟨(nI (m + 1), hp u n T (up2 I1 74 (31 * k + m) (I 71 (6 + m))) J R), ?_, _, rfl, fun a ha => by rw [up2_off _ _ _ ha]; exact a1 a ha, fun i hi => ?_, fun j hj => by rw [up2_nk (by omega)]; exact a3 j hj⟩
      · dsimp only
        unfold F_X11_keepAll_l2
        rw [if_neg (nI_ge hm (by omega))]
        simp (disch := first | assumption | omega) only [vc_69, gi_69_0, pi_69_0, gi_69_1, pi_69_1, ga_69_2, ga_69_3, ga_69_4, ga_69_5, ga_69_6, ga_69_7, gi_69_8, pi_69_8, ga_69_9, ga_69_10, gi_69_11, pi_69_11, ga_69_12, gi_69_13, pi_69_13, gi_69_14, pi_69_14, gi_69_15, pi_69_15, gi_69_16, pi_69_16, gj_69_17, pj_69_17, gi_69_18, pi_69_18, gi_69_19, pi_69_19, gi_69_20, pi_69_20, gi_69_21, pi_69_21, ga_69_22, gi_69_23, pi_69_23, ga_69_24, ga_69_25, gi_69_26, pi_69_26, ga_69_27, ga_69_28, gi_69_29, pi_69_29, gi_69_30, pi_69_30, ga_69_31, ga_69_32, ga_69_33, gi_69_34, pi_69_34, ga_69_35, ga_69_36, ga_69_37, gi_69_38, pi_69_38, gj_69_39, pj_69_39, gj_69_40, pj_69_40, ga_69_41, ga_69_42, ga_69_43, ga_69_44, ga_69_45, ga_69_46, ga_69_47, gi_69_48, pi_69_48, gi_69_49, pi_69_49, gi_69_50, pi_69_50, gi_69_51, pi_69_51, gj_69_52, pj_69_52, ga_69_53, gi_69_54, pi_69_54, gi_69_55, pi_69_55, rd_71, wr_71, ln_71, rd_74, wr_74, ln_74, Option.bind_some, toI_i, toJ_j, toV_v, toR_r, up2_at, up2_na, up2_nk, up2_off, nI_add, nI_mul, nI_leI, nI_ltI, nI_eq, bI_eq0, a1 71 (by decide)]
      · by_cases e : i = m
        · rw [e, up2_at]
        · rw [up2_nk (by omega)]
          exact a2 i (by omega)
    · intro s ⟨I1, hs, a1⟩
      subst hs
      refine ⟨_, ?_, I1, rfl, a1⟩
      dsimp only
      unfold F_X11_keepAll_l2
      rw [if_pos (nI_le (Nat.le_refl 31) (by omega))]
  obtain ⟨r, e, I', h1, h2⟩ := LL
  refine ⟨I', e_X11_keepAll ?_, h2⟩
  unfold F_X11_keepAll
  rw [e, h1]
  rfl
theorem v_putBack (hS : St n T R) (hk : k < 18) : ∃ I', ev O (d + 1) MX11_putBack [.ref 69, .int (nI k)] (hp u n T I J R) = some (none, hp u n T I' J R) ∧ (∀ a, a ≠ 71 → I' a = I a) ∧ (∀ i, i < 31 → I' 71 (6 + i) = I 74 (31 * k + i)) ∧ (∀ j, j < 6 ∨ 37 ≤ j → I' 71 j = I 71 j) := by
  have LL : ∃ r, lupF (fun (q : Int32 × mH) => F_X11_putBack_l2 O d 69 (nI k) q.1 q.2) FU (nI 0, hp u n T I J R) = some r ∧ (fun r => ∃ I', r = hp u n T I' J R ∧ (∀ a, a ≠ 71 → I' a = I a) ∧ (∀ i, i < 31 → I' 71 (6 + i) = I 74 (31 * k + i)) ∧ (∀ j, j < 6 ∨ 37 ≤ j → I' 71 j = I 71 j)) r := by
    refine lup_P0 (fun m s => ∃ I', s = (nI m, hp u n T I' J R) ∧ (∀ a, a ≠ 71 → I' a = I a) ∧ (∀ i, i < m → I' 71 (6 + i) = I 74 (31 * k + i)) ∧ (∀ j, j < 6 ∨ 37 ≤ j → I' 71 j = I 71 j)) _ (N := 31) (by omega) ⟨I, rfl, fun _ _ => rfl, fun i hi => absurd hi (Nat.not_lt_zero i), fun _ _ => rfl⟩ ?_ ?_
    · intro m s hm ⟨I1, hs, a1, a2, a3⟩
      subst hs
      left
      refine ⟨(nI (m + 1), hp u n T (up2 I1 71 (6 + m) (I 74 (31 * k + m))) J R), ?_, _, rfl, fun a ha => by rw [up2_off _ _ _ ha]; exact a1 a ha, fun i hi => ?_, fun j hj => by rw [up2_nk (by omega)]; exact a3 j hj⟩
      · dsimp only
        unfold F_X11_putBack_l2
        rw [if_neg (nI_ge hm (by omega))]
        simp (disch := first | assumption | omega) only [vc_69, gi_69_0, pi_69_0, gi_69_1, pi_69_1, ga_69_2, ga_69_3, ga_69_4, ga_69_5, ga_69_6, ga_69_7, gi_69_8, pi_69_8, ga_69_9, ga_69_10, gi_69_11, pi_69_11, ga_69_12, gi_69_13, pi_69_13, gi_69_14, pi_69_14, gi_69_15, pi_69_15, gi_69_16, pi_69_16, gj_69_17, pj_69_17, gi_69_18, pi_69_18, gi_69_19, pi_69_19, gi_69_20, pi_69_20, gi_69_21, pi_69_21, ga_69_22, gi_69_23, pi_69_23, ga_69_24, ga_69_25, gi_69_26, pi_69_26, ga_69_27, ga_69_28, gi_69_29, pi_69_29, gi_69_30, pi_69_30, ga_69_31, ga_69_32, ga_69_33, gi_69_34, pi_69_34, ga_69_35, ga_69_36, ga_69_37, gi_69_38, pi_69_38, gj_69_39, pj_69_39, gj_69_40, pj_69_40, ga_69_41, ga_69_42, ga_69_43, ga_69_44, ga_69_45, ga_69_46, ga_69_47, gi_69_48, pi_69_48, gi_69_49, pi_69_49, gi_69_50, pi_69_50, gi_69_51, pi_69_51, gj_69_52, pj_69_52, ga_69_53, gi_69_54, pi_69_54, gi_69_55, pi_69_55, rd_71, wr_71, ln_71, rd_74, wr_74, ln_74, Option.bind_some, toI_i, toJ_j, toV_v, toR_r, up2_at, up2_na, up2_nk, up2_off, nI_add, nI_mul, nI_leI, nI_ltI, nI_eq, bI_eq0, a1 74 (by decide)]
      · by_cases e : i = m
        · rw [e, up2_at]
        · rw [up2_nk (by omega)]
          exact a2 i (by omega)
    · intro s ⟨I1, hs, a1⟩
      subst hs
      refine ⟨_, ?_, I1, rfl, a1⟩
      dsimp only
      unfold F_X11_putBack_l2
      rw [if_pos (nI_le (Nat.le_refl 31) (by omega))]
  obtain ⟨r, e, I', h1, h2⟩ := LL
  refine ⟨I', e_X11_putBack ?_, h2⟩
  unfold F_X11_putBack
  rw [e, h1]
  rfl
end UN
