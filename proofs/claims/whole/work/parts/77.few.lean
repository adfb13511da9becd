/-! calls: few, drawn -/
theorem BoL_rd {O : mO} {Mc Mm : mM} {as : List Value} {c u n : Nat} {T : Nat → mT} {I I1 I2 : Nat → Nat → Int32} {J J1 J2 : Nat → Nat → Int64} {R : Nat → Nat → Option Nat} {g h V F D S N x s : Nat} {a : Int64} (hI : IvW c u n T I J R g h V F D S N x s) (h1 : ev O 200 Mc (.ref 0 :: as) (hp u n T I J R) = some (some (.long a), hp u n T I1 J1 R)) (hc : CSx g h I I1) (hj : MJx J J1) (h2 : ev O 200 Mm (.ref 69 :: as) (hp u n T I1 J1 R) = some (some (.long a), hp u n T I2 J2 R)) (hm : MSx I1 I2) (hk : MJx J1 J2) : BoL O Inv Mc Mm as c (hp u n T I J R) := by
  have hg := Iv_g hI
  refine BoL_of h1 hI.1.1 h2 ⟨u, n, T, I2, J2, R, g, h, V, F, D, S, N, x, s, rfl, Iv_rd hI (fun a ha => ?_) (fun k hk => ?_) (Cns_J (Cns_J hI.2.2.2.2.2.2.2.2.2 hj) hk)⟩
  · rw [hm.1 a (by unfold rl at ha; omega) (by unfold rl at ha; omega)]
    exact hc a (Or.inl ha)
  · rw [hm.2 k hk]
    rw [hc 69 (by omega)]
theorem up1_up2 {α : Type} {F : Nat → Nat → α} {a k : Nat} {x : α} {f : Nat → α} : up2 (up1 F a f) a k x = up1 F a (upK f k x) := by
  funext b j
  by_cases h : b = a
  · subst h
    rw [up1_at]
    by_cases hj : j = k
    · subst hj
      rw [up2_at, upK_at]
    · rw [up2_nk hj, upK_ne hj, up1_at]
  · rw [up2_na h, up1_na h, up1_na h]
theorem up1_self {α : Type} (F : Nat → Nat → α) (a : Nat) : up1 F a (F a) = F := by
  funext b
  unfold up1
  split
  · rename_i h; rw [h]
  · rfl
/-- one person more -/
def nwF (p : Nat → Int64) (ds : Int32) (j : Nat) : Int64 := p j * (nI 10 - ds).toInt64 / 10 + (if j = 0 then 0 else p (j - 1) * ds.toInt64 / 10)
def pvF (ds : Int32) : Nat → Nat → Int64
  | 0 => fun j => if j = 0 then 1000000000000 else 0
  | m + 1 => nwF (pvF ds m) ds
def smF (p : Nat → Int64) : Nat → Int64
  | 0 => 0
  | k + 1 => smF p k + p k
theorem smF_cg {p q : Nat → Int64} : ∀ {k : Nat}, (∀ j, j < k → p j = q j) → smF p k = smF q k
  | 0, _ => rfl
  | k + 1, h => by
    have e := smF_cg (k := k) (fun j hj => h j (by omega))
    unfold smF
    rw [h k (by omega), e]
section FW
variable {O : mO} {L : Nat} {xs : Nat → Int32} {c d u n : Nat} {T : Nat → mT} {I : Nat → Nat → Int32} {J : Nat → Nat → Int64} {R : Nat → Nat → Option Nat} {k m : Nat} {ds a2 : Int32}
/-- the class's inner loop -/
theorem fwC1 {s4 : Int32} {X : Nat → Int64} {p : Nat → Int64} (hS : St n T R) (hk : k ≤ 20) (hX : ∀ j, j < k → X j = p j) : ∃ r, lupF (fun (q : Int32 × mH) => F_X10_few_l83 O d 0 (nI k) a2 ds s4 q.1 q.2) FU (nI k + (-1), hp u n T I (up1 J 22 X) R) = some r ∧ (fun r => ∃ Y, r = hp u n T I (up1 J 22 Y) R ∧ ∀ j, j < k → Y j = nwF p ds j) r := by
  refine lup_P0 (fun i s => ∃ Y, s = (nI (k - i) + (-1), hp u n T I (up1 J 22 Y) R) ∧ (∀ j, j < k - i → Y j = p j) ∧ ∀ j, k - i ≤ j → j < k → Y j = nwF p ds j) (fun r => ∃ Y, r = hp u n T I (up1 J 22 Y) R ∧ ∀ j, j < k → Y j = nwF p ds j) (N := k) (by omega) ⟨X, rfl, hX, fun j h1 h2 => by omega⟩ ?_ ?_
  · intro i s hi ⟨Y, hs, h1, h2⟩
    subst hs
    left
    have e1 : nI (k - i) + (-1) = nI (k - i - 1) := nI_m1 (by omega)
    refine ⟨_, ?_, upK Y (k - i - 1) (nwF p ds (k - i - 1)), rfl, fun j hj => ?_, fun j hj hj2 => ?_⟩
    · dsimp only
      rw [e1]
      unfold F_X10_few_l83 F_X10_few_j113
      rw [if_neg (nI_pos (by omega))]
      simp (disch := first | assumption | omega) only [vc_0, ga_0_0, ga_0_1, ga_0_2, ga_0_3, ga_0_4, ga_0_5, ga_0_6, ga_0_7, ga_0_8, ga_0_9, gi_0_12, pi_0_12, gi_0_13, pi_0_13, gi_0_14, pi_0_14, gi_0_15, pi_0_15, gi_0_16, pi_0_16, rd_22, wr_22, ln_22, Option.bind_some, toI_i, toJ_j, toV_v, toR_r, up2_at, up2_na, up2_nk, up2_off, nI_add, nI_mul, nI_leI, nI_ltI, nI_eq, bI_eq0, up1_at, h1 (k - i - 1) (by omega), nI_sub, up1_up2]
      by_cases h0 : k - i - 1 = 0
      · rw [if_pos (by rw [h0]; rfl)]
        unfold nwF
        rw [if_pos h0, h0, show k - (i + 1) = 0 by omega]
      · rw [if_neg (nI_ne0 (by omega) (by omega))]
        simp (disch := first | assumption | omega) only [vc_0, ga_0_0, ga_0_1, ga_0_2, ga_0_3, ga_0_4, ga_0_5, ga_0_6, ga_0_7, ga_0_8, ga_0_9, gi_0_12, pi_0_12, gi_0_13, pi_0_13, gi_0_14, pi_0_14, gi_0_15, pi_0_15, gi_0_16, pi_0_16, rd_22, wr_22, ln_22, Option.bind_some, toI_i, toJ_j, toV_v, toR_r, up2_at, up2_na, up2_nk, up2_off, nI_add, nI_mul, nI_leI, nI_ltI, nI_eq, bI_eq0, up1_at, nI_sub, h1 (k - i - 1 - 1) (by omega)]
        unfold nwF
        rw [if_neg h0, show k - (i + 1) = k - i - 1 by omega]
    · rw [upK_ne (by omega)]
      exact h1 j (by omega)
    · by_cases e : j = k - i - 1
      · rw [e, upK_at]
      · rw [upK_ne e]
        exact h2 j (by omega) hj2
  · intro s ⟨Y, hs, h1, h2⟩
    subst hs
    refine ⟨_, ?_, Y, rfl, fun j hj => h2 j (by omega) hj⟩
    dsimp only
    unfold F_X10_few_l83
    rw [Nat.sub_self, if_pos (by decide)]
theorem fwC2 {X : Nat → Int64} (hS : St n T R) (hk : k ≤ 20) (hk0 : 1 ≤ k) (hm : m ≤ 99) (hX : ∀ j, j < k → X j = pvF ds 0 j) : ∃ r, lupF (fun (q : Int32 × mH) => F_X10_few_l72 O d 0 (nI k) (nI m) ds q.1 q.2) FU (nI 0, hp u n T I (up1 J 22 X) R) = some r ∧ (fun r => ∃ Y, r = hp u n T I (up1 J 22 Y) R ∧ ∀ j, j < k → Y j = pvF ds m j) r := by
  refine lup_P0 (fun i s => ∃ Y, s = (nI i, hp u n T I (up1 J 22 Y) R) ∧ ∀ j, j < k → Y j = pvF ds i j) (fun r => ∃ Y, r = hp u n T I (up1 J 22 Y) R ∧ ∀ j, j < k → Y j = pvF ds m j) (N := m) (by omega) ⟨X, rfl, hX⟩ ?_ ?_
  · intro i s hi ⟨Y, hs, h1⟩
    subst hs
    left
    obtain ⟨r, e, Z, hr, hZ⟩ := fwC1 (O := O) (d := d) (u := u) (I := I) (J := J) (a2 := nI m) (ds := ds) (s4 := nI i) hS hk h1
    refine ⟨(nI (i + 1), hp u n T I (up1 J 22 Z) R), ?_, Z, rfl, hZ⟩
    dsimp only
    unfold F_X10_few_l72
    rw [if_neg (nI_ge hi (by omega)), nI_sub hk0, ← nI_m1 hk0, e, hr, nI_add]
    rfl
  · intro s ⟨Y, hs, h1⟩
    subst hs
    refine ⟨_, ?_, Y, rfl, h1⟩
    dsimp only
    unfold F_X10_few_l72
    rw [if_pos (nI_le (Nat.le_refl m) (by omega))]
theorem fwC0 (hS : St n T R) (hk : k ≤ 20) : ∃ r, lupF (fun (q : Int32 × mH) => F_X10_few_l38 O d 0 (nI k) a2 ds q.1 q.2) FU (nI 0, hp u n T I J R) = some r ∧ (fun r => ∃ Y, r = hp u n T I (up1 J 22 Y) R ∧ ∀ j, j < k → Y j = pvF ds 0 j) r := by
  refine lup_P0 (fun i s => ∃ Y, s = (nI i, hp u n T I (up1 J 22 Y) R) ∧ ∀ j, j < i → Y j = pvF ds 0 j) (fun r => ∃ Y, r = hp u n T I (up1 J 22 Y) R ∧ ∀ j, j < k → Y j = pvF ds 0 j) (N := k) (by omega) ⟨J 22, by rw [up1_self], fun j hj => by omega⟩ ?_ ?_
  · intro i s hi ⟨Y, hs, h1⟩
    subst hs
    left
    refine ⟨(nI (i + 1), hp u n T I (up1 J 22 (upK Y i (pvF ds 0 i))) R), ?_, _, rfl, fun j hj => ?_⟩
    · dsimp only
      unfold F_X10_few_l38
      rw [if_neg (nI_ge hi (by omega))]
      simp (disch := first | assumption | omega) only [vc_0, ga_0_0, ga_0_1, ga_0_2, ga_0_3, ga_0_4, ga_0_5, ga_0_6, ga_0_7, ga_0_8, ga_0_9, gi_0_12, pi_0_12, gi_0_13, pi_0_13, gi_0_14, pi_0_14, gi_0_15, pi_0_15, gi_0_16, pi_0_16, rd_22, wr_22, ln_22, Option.bind_some, toI_i, toJ_j, toV_v, toR_r, up2_at, up2_na, up2_nk, up2_off, nI_add, nI_mul, nI_leI, nI_ltI, nI_eq, bI_eq0, up1_up2]
      have e : (if nI i = 0 then (1000000000000 : Int64) else 0) = pvF ds 0 i := by
        show _ = (if i = 0 then _ else _)
        by_cases h0 : i = 0
        · rw [if_pos h0, if_pos (by rw [h0]; rfl)]
        · rw [if_neg h0, if_neg (nI_ne0 (by omega) (by omega))]
      rw [e]
    · by_cases e : j = i
      · rw [e, upK_at]
      · rw [upK_ne e]
        exact h1 j (by omega)
  · intro s ⟨Y, hs, h1⟩
    subst hs
    refine ⟨_, ?_, Y, rfl, h1⟩
    dsimp only
    unfold F_X10_few_l38
    rw [if_pos (nI_le (Nat.le_refl k) (by omega))]
theorem fwC3 {X : Nat → Int64} {τ : Type} {kk : Int64 → Option τ} {y : Option τ} (hS : St n T R) (hk : k ≤ 20) (hy : kk (smF X k) = y) : (lupF (fun (q : Int64 × Int32) => F_X10_few_l160 O d 0 (nI k) (hp u n T I (up1 J 22 X) R) q.1 q.2) FU (0, nI 0)).bind kk = y := by
  refine lup_b (fun j => (smF X j, nI j)) (smF X k) k (by omega) rfl ?_ ?_ hy
  · intro j hj
    dsimp only
    unfold F_X10_few_l160
    rw [if_neg (nI_ge hj (by omega))]
    simp (disch := first | assumption | omega) only [vc_0, ga_0_0, ga_0_1, ga_0_2, ga_0_3, ga_0_4, ga_0_5, ga_0_6, ga_0_7, ga_0_8, ga_0_9, gi_0_12, pi_0_12, gi_0_13, pi_0_13, gi_0_14, pi_0_14, gi_0_15, pi_0_15, gi_0_16, pi_0_16, rd_22, wr_22, ln_22, Option.bind_some, toI_i, toJ_j, toV_v, toR_r, up2_at, up2_na, up2_nk, up2_off, nI_add, nI_mul, nI_leI, nI_ltI, nI_eq, bI_eq0, up1_at]
    rfl
  · dsimp only
    unfold F_X10_few_l160
    rw [if_pos (nI_le (Nat.le_refl k) (by omega))]
/-- the reference's inner loop -/
theorem fwM1 {s4 : Int32} {X : Nat → Int64} {p : Nat → Int64} (hS : St n T R) (hk : k ≤ 20) (hX : ∀ j, j < k → X j = p j) : ∃ r, lupF (fun (q : Int32 × mH) => F_X11_few_l86 O d 69 (nI k) a2 ds s4 q.1 q.2) FU (nI k + (-1), hp u n T I (up1 J 94 X) R) = some r ∧ (fun r => ∃ Y, r = hp u n T I (up1 J 94 Y) R ∧ ∀ j, j < k → Y j = nwF p ds j) r := by
  refine lup_P0 (fun i s => ∃ Y, s = (nI (k - i) + (-1), hp u n T I (up1 J 94 Y) R) ∧ (∀ j, j < k - i → Y j = p j) ∧ (∀ j, k - i < j → j < k → Y j = nwF p ds j) ∧ (0 < i → Y (k - i) = p (k - i) * (nI 10 - ds).toInt64 / 10)) (fun r => ∃ Y, r = hp u n T I (up1 J 94 Y) R ∧ ∀ j, j < k → Y j = nwF p ds j) (N := k) (by omega) ⟨X, rfl, hX, fun j h1 h2 => by omega, fun z => absurd z (Nat.lt_irrefl 0)⟩ ?_ ?_
  · intro i s hi ⟨Y, hs, h1, h2, h3⟩
    subst hs
    left
    have e1 : nI (k - i) + (-1) = nI (k - i - 1) := nI_m1 (by omega)
    refine ⟨(nI (k - (i + 1)) + (-1), hp u n T I (up1 J 94 (upK (upK Y (k - i - 1) (p (k - i - 1) * (nI 10 - ds).toInt64 / 10)) (k - i) (Y (k - i) + p (k - i - 1) * ds.toInt64 / 10))) R), ?_, _, rfl, fun j hj => ?_, fun j hj hj2 => ?_, fun _ => ?_⟩
    · dsimp only
      rw [e1]
      unfold F_X11_few_l86
      rw [if_neg (nI_pos (by omega))]
      simp (disch := first | assumption | omega) only [vc_69, gi_69_0, pi_69_0, gi_69_1, pi_69_1, ga_69_2, ga_69_3, ga_69_4, ga_69_5, ga_69_6, ga_69_7, gi_69_8, pi_69_8, ga_69_9, ga_69_10, gi_69_11, pi_69_11, ga_69_12, gi_69_13, pi_69_13, gi_69_14, pi_69_14, gi_69_15, pi_69_15, gi_69_16, pi_69_16, gj_69_17, pj_69_17, gi_69_18, pi_69_18, gi_69_19, pi_69_19, gi_69_20, pi_69_20, gi_69_21, pi_69_21, ga_69_22, gi_69_23, pi_69_23, ga_69_24, ga_69_25, gi_69_26, pi_69_26, ga_69_27, ga_69_28, gi_69_29, pi_69_29, gi_69_30, pi_69_30, ga_69_31, ga_69_32, ga_69_33, gi_69_34, pi_69_34, ga_69_35, ga_69_36, ga_69_37, gi_69_38, pi_69_38, gj_69_39, pj_69_39, gj_69_40, pj_69_40, ga_69_41, ga_69_42, ga_69_43, ga_69_44, ga_69_45, ga_69_46, ga_69_47, gi_69_48, pi_69_48, gi_69_49, pi_69_49, gi_69_50, pi_69_50, gi_69_51, pi_69_51, gj_69_52, pj_69_52, ga_69_53, gi_69_54, pi_69_54, gi_69_55, pi_69_55, rd_94, wr_94, ln_94, Option.bind_some, toI_i, toJ_j, toV_v, toR_r, up2_at, up2_na, up2_nk, up2_off, nI_add, nI_mul, nI_leI, nI_ltI, nI_eq, bI_eq0, up1_at, h1 (k - i - 1) (by omega), up1_up2, upK_ne, show k - i - 1 + 1 = k - i by omega]
      rw [show k - (i + 1) = k - i - 1 by omega]
    · rw [upK_ne (by omega), upK_ne (by omega)]
      exact h1 j (by omega)
    · by_cases e : j = k - i
      · have hi0 : 0 < i := by omega
        rw [e, upK_at, h3 hi0]
        unfold nwF
        rw [if_neg (by omega)]
      · rw [upK_ne e, upK_ne (by omega)]
        exact h2 j (by omega) hj2
    · rw [upK_ne (by omega), show k - (i + 1) = k - i - 1 by omega, upK_at]
  · intro s ⟨Y, hs, h1, h2, h3⟩
    subst hs
    refine ⟨_, ?_, Y, rfl, fun j hj => ?_⟩
    · dsimp only
      unfold F_X11_few_l86
      rw [Nat.sub_self, if_pos (by decide)]
    · by_cases e : j = 0
      · subst e
        have := h3 hj
        rw [Nat.sub_self] at this
        rw [this]
        unfold nwF
        rw [if_pos rfl, Int64.add_zero]
      · exact h2 j (by omega) hj
theorem fwM2 {X : Nat → Int64} (hS : St n T R) (hk : k ≤ 20) (hk0 : 1 ≤ k) (hm : m ≤ 99) (hX : ∀ j, j < k → X j = pvF ds 0 j) : ∃ r, lupF (fun (q : Int32 × mH) => F_X11_few_l75 O d 69 (nI k) (nI m) ds q.1 q.2) FU (nI 0, hp u n T I (up1 J 94 X) R) = some r ∧ (fun r => ∃ Y, r = hp u n T I (up1 J 94 Y) R ∧ ∀ j, j < k → Y j = pvF ds m j) r := by
  refine lup_P0 (fun i s => ∃ Y, s = (nI i, hp u n T I (up1 J 94 Y) R) ∧ ∀ j, j < k → Y j = pvF ds i j) (fun r => ∃ Y, r = hp u n T I (up1 J 94 Y) R ∧ ∀ j, j < k → Y j = pvF ds m j) (N := m) (by omega) ⟨X, rfl, hX⟩ ?_ ?_
  · intro i s hi ⟨Y, hs, h1⟩
    subst hs
    left
    obtain ⟨r, e, Z, hr, hZ⟩ := fwM1 (O := O) (d := d) (u := u) (I := I) (J := J) (a2 := nI m) (ds := ds) (s4 := nI i) hS hk h1
    refine ⟨(nI (i + 1), hp u n T I (up1 J 94 Z) R), ?_, Z, rfl, hZ⟩
    dsimp only
    unfold F_X11_few_l75
    rw [if_neg (nI_ge hi (by omega)), nI_sub hk0, ← nI_m1 hk0, e, hr, nI_add]
    rfl
  · intro s ⟨Y, hs, h1⟩
    subst hs
    refine ⟨_, ?_, Y, rfl, h1⟩
    dsimp only
    unfold F_X11_few_l75
    rw [if_pos (nI_le (Nat.le_refl m) (by omega))]
theorem fwM0 {a1 : Int32} (hS : St n T R) : ∃ r, lupF (fun (q : Int32 × mH) => F_X11_few_l35 O d 69 a1 a2 q.1 q.2) FU (nI 0, hp u n T I J R) = some r ∧ (fun r => ∃ Y, r = hp u n T I (up1 J 94 Y) R ∧ ∀ j, j < 21 → Y j = pvF ds 0 j) r := by
  refine lup_P0 (fun i s => ∃ Y, s = (nI i, hp u n T I (up1 J 94 Y) R) ∧ ∀ j, j < i → Y j = pvF ds 0 j) (fun r => ∃ Y, r = hp u n T I (up1 J 94 Y) R ∧ ∀ j, j < 21 → Y j = pvF ds 0 j) (N := 21) (by omega) ⟨J 94, by rw [up1_self], fun j hj => by omega⟩ ?_ ?_
  · intro i s hi ⟨Y, hs, h1⟩
    subst hs
    left
    refine ⟨(nI (i + 1), hp u n T I (up1 J 94 (upK Y i (pvF ds 0 i))) R), ?_, _, rfl, fun j hj => ?_⟩
    · dsimp only
      unfold F_X11_few_l35
      rw [if_neg (nI_ge hi (by omega))]
      simp (disch := first | assumption | omega) only [vc_69, gi_69_0, pi_69_0, gi_69_1, pi_69_1, ga_69_2, ga_69_3, ga_69_4, ga_69_5, ga_69_6, ga_69_7, gi_69_8, pi_69_8, ga_69_9, ga_69_10, gi_69_11, pi_69_11, ga_69_12, gi_69_13, pi_69_13, gi_69_14, pi_69_14, gi_69_15, pi_69_15, gi_69_16, pi_69_16, gj_69_17, pj_69_17, gi_69_18, pi_69_18, gi_69_19, pi_69_19, gi_69_20, pi_69_20, gi_69_21, pi_69_21, ga_69_22, gi_69_23, pi_69_23, ga_69_24, ga_69_25, gi_69_26, pi_69_26, ga_69_27, ga_69_28, gi_69_29, pi_69_29, gi_69_30, pi_69_30, ga_69_31, ga_69_32, ga_69_33, gi_69_34, pi_69_34, ga_69_35, ga_69_36, ga_69_37, gi_69_38, pi_69_38, gj_69_39, pj_69_39, gj_69_40, pj_69_40, ga_69_41, ga_69_42, ga_69_43, ga_69_44, ga_69_45, ga_69_46, ga_69_47, gi_69_48, pi_69_48, gi_69_49, pi_69_49, gi_69_50, pi_69_50, gi_69_51, pi_69_51, gj_69_52, pj_69_52, ga_69_53, gi_69_54, pi_69_54, gi_69_55, pi_69_55, rd_94, wr_94, ln_94, Option.bind_some, toI_i, toJ_j, toV_v, toR_r, up2_at, up2_na, up2_nk, up2_off, nI_add, nI_mul, nI_leI, nI_ltI, nI_eq, bI_eq0, up1_up2]
      have e : (if nI i = 0 then (1000000000000 : Int64) else 0) = pvF ds 0 i := by
        show _ = (if i = 0 then _ else _)
        by_cases h0 : i = 0
        · rw [if_pos h0, if_pos (by rw [h0]; rfl)]
        · rw [if_neg h0, if_neg (nI_ne0 (by omega) (by omega))]
      rw [e]
    · by_cases e : j = i
      · rw [e, upK_at]
      · rw [upK_ne e]
        exact h1 j (by omega)
  · intro s ⟨Y, hs, h1⟩
    subst hs
    refine ⟨_, ?_, Y, rfl, h1⟩
    dsimp only
    unfold F_X11_few_l35
    rw [if_pos (nI_le (Nat.le_refl 21) (by omega))]
theorem fwM3 {X : Nat → Int64} {τ : Type} {kk : Int64 → Option τ} {y : Option τ} (hS : St n T R) (hk : k ≤ 20) (hy : kk (smF X k) = y) : (lupF (fun (q : Int64 × Int32) => F_X11_few_l158 O d 69 (nI k) (hp u n T I (up1 J 94 X) R) q.1 q.2) FU (0, nI 0)).bind kk = y := by
  refine lup_b (fun j => (smF X j, nI j)) (smF X k) k (by omega) rfl ?_ ?_ hy
  · intro j hj
    dsimp only
    unfold F_X11_few_l158
    rw [if_neg (nI_ge hj (by omega))]
    simp (disch := first | assumption | omega) only [vc_69, gi_69_0, pi_69_0, gi_69_1, pi_69_1, ga_69_2, ga_69_3, ga_69_4, ga_69_5, ga_69_6, ga_69_7, gi_69_8, pi_69_8, ga_69_9, ga_69_10, gi_69_11, pi_69_11, ga_69_12, gi_69_13, pi_69_13, gi_69_14, pi_69_14, gi_69_15, pi_69_15, gi_69_16, pi_69_16, gj_69_17, pj_69_17, gi_69_18, pi_69_18, gi_69_19, pi_69_19, gi_69_20, pi_69_20, gi_69_21, pi_69_21, ga_69_22, gi_69_23, pi_69_23, ga_69_24, ga_69_25, gi_69_26, pi_69_26, ga_69_27, ga_69_28, gi_69_29, pi_69_29, gi_69_30, pi_69_30, ga_69_31, ga_69_32, ga_69_33, gi_69_34, pi_69_34, ga_69_35, ga_69_36, ga_69_37, gi_69_38, pi_69_38, gj_69_39, pj_69_39, gj_69_40, pj_69_40, ga_69_41, ga_69_42, ga_69_43, ga_69_44, ga_69_45, ga_69_46, ga_69_47, gi_69_48, pi_69_48, gi_69_49, pi_69_49, gi_69_50, pi_69_50, gi_69_51, pi_69_51, gj_69_52, pj_69_52, ga_69_53, gi_69_54, pi_69_54, gi_69_55, pi_69_55, rd_94, wr_94, ln_94, Option.bind_some, toI_i, toJ_j, toV_v, toR_r, up2_at, up2_na, up2_nk, up2_off, nI_add, nI_mul, nI_leI, nI_ltI, nI_eq, bI_eq0, up1_at]
    rfl
  · dsimp only
    unfold F_X11_few_l158
    rw [if_pos (nI_le (Nat.le_refl k) (by omega))]
theorem b_few {K : mH} {a1 a2 : Int32} (hI : Inv c K) : BoL O Inv MX10_few MX11_few [.int a1, .int a2] c K := by
  obtain ⟨u, n, T, I, J, R, g, h, V, F, D, S, N, x, s, rfl, hI⟩ := hI
  obtain ⟨hS, hn, gg, hh, hG, hH, hw, hgd, hg⟩ := Iv_all hI
  obtain ⟨⟨v5, f4, d8, s8, n6⟩, ⟨w0, w1, w2, w3, w4⟩, hf, hs, hfam, hwi, hsn, hlw⟩ := hw
  obtain ⟨⟨c1, c2, c3, c4, c5, c6, c7, c8, c9, c10, c11, c12⟩, q1, q2, q3, q4, q5, q6, q7, q8, q9, q10, q11, ql⟩ := hgd
  obtain ⟨⟨b1, b2, b3, b4, b5⟩, b6, b7, b8, b9, b10⟩ := hI.2.2.2.2.2.2.2.1
  have hJ := hI.2.2.2.2.2.2.2.2.2
  have hu := hI.2.2.2.2.1
  have bad : F_X10_few O 199 0 a1 a2 (hp u n T I J R) = some (-1, hp u n T I J R) → (rg a1 1 20 && rg a2 0 99) = false → BoL O Inv MX10_few MX11_few [.int a1, .int a2] c (hp u n T I J R) := by
    intro h1 h2
    refine BoL_rd hI (e_X10_few (d := 199) h1) (fun _ _ => rfl) (MJx_r J) (e_X11_few (d := 199) ?_) (MSx_thr I (nI 0)) (MJx_r J)
    unfold F_X11_few
    rw [pi_69_0 hS, Option.bind_some, v_in_1_20, toI_i, Option.bind_some]
    dsimp only
    cases hr : rg a1 1 20 with
    | false => rw [if_pos (show bI false = 0 from rfl)]
    | true =>
      rw [hr] at h2
      rw [if_neg (show ¬ bI true = 0 by decide), v_in_0_99, toI_i, Option.bind_some]
      dsimp only
      rw [show rg a2 0 99 = false from h2, if_pos (show bI false = 0 from rfl)]
  rcases arg_c a1 (lo := 1) (hi := 20) (by decide) (by decide) with ⟨k, hk1, hk, rfl⟩ | ⟨hb, hb2⟩
  · rcases arg_0 a2 (hi := 99) (by decide) with ⟨m, hm, rfl⟩ | ⟨hb, hb2⟩
    · obtain ⟨r0, e0, X0, rfl, hX0⟩ := fwC0 (O := O) (d := 199) (u := u) (I := I) (J := J) (a2 := nI m) (ds := I 71 7) hS hk
      obtain ⟨r1, e1, X1, rfl, hX1⟩ := fwC2 (O := O) (d := 199) (u := u) (I := I) (J := J) (ds := I 71 7) hS hk hk1 hm hX0
      obtain ⟨r2, e2, Y0, rfl, hY0⟩ := fwM0 (O := O) (d := 199) (u := u) (I := up2 I 69 0 (nI 0)) (J := up1 J 22 X1) (a2 := nI m) (a1 := nI k) (ds := I 71 7) hS
      obtain ⟨r3, e3, Y1, rfl, hY1⟩ := fwM2 (O := O) (d := 199) (u := u) (I := up2 I 69 0 (nI 0)) (J := up1 J 22 X1) (ds := I 71 7) hS hk hk1 hm (fun j hj => hY0 j (by omega))
      refine BoL_rd (a := smF (pvF (I 71 7) m) k) hI (I1 := I) (J1 := up1 J 22 X1) (I2 := up2 I 69 0 (nI 0)) (J2 := up1 (up1 J 22 X1) 94 Y1) (e_X10_few (d := 199) ?_) (fun _ _ => rfl) (fun a ha => up1_na (by omega)) (e_X11_few (d := 199) ?_) (MSx_thr I (nI 0)) (fun a ha => up1_na (by omega))
      · unfold F_X10_few
        rw [if_neg (nI_nlt hk1 (by omega)), if_neg (nI_nlt hk (by omega)), if_neg (nI_pos (by omega)), if_pos (nI_le hm (by omega)), gg, Option.bind_some, ga_g_9 hG hn, Option.bind_some, rd_g_9 hG hn (by omega), Option.bind_some, q10 1 (by omega), e0, Option.bind_some, e1, Option.bind_some]
        refine fwC3 hS hk ?_
        rw [smF_cg hX1]
      · unfold F_X11_few
        rw [pi_69_0 hS, Option.bind_some, v_in_1_20, toI_i, Option.bind_some]
        dsimp only
        rw [rg_t hk1 hk (by decide), if_neg (show ¬ bI true = 0 by decide), v_in_0_99, toI_i, Option.bind_some]
        dsimp only
        rw [rg_t (Nat.zero_le m) hm (by decide), if_neg (show ¬ bI true = 0 by decide), e2, Option.bind_some, ga_69_3 hS, Option.bind_some, rd_71 hS (by omega), Option.bind_some, up2_na (by decide), e3, Option.bind_some]
        refine fwM3 hS hk ?_
        rw [smF_cg hY1]
    · refine bad ?_ (by rw [hb, Bool.and_false])
      unfold F_X10_few
      rw [if_neg (nI_nlt hk1 (by omega)), if_neg (nI_nlt hk (by omega))]
      rcases hb2 with z | ⟨z1, z2, z3⟩
      · rw [if_pos z]
      · rw [if_neg z1, if_neg z2]
  · refine bad ?_ (by rw [hb, Bool.false_and])
    unfold F_X10_few
    rcases hb2 with z | ⟨z1, z2, z3⟩
    · rw [if_pos z]
    · rw [if_neg z1, if_pos z3]
end FW
