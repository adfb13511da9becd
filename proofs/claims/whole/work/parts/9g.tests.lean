/-! the reference's tests of tokens -/
section TKT
variable {O : mO} {d u n : Nat} {T : Nat → mT} {I : Nat → Nat → Int32} {J : Nat → Nat → Int64} {R : Nat → Nat → Option Nat} {b : Nat → Nat} {t k : Nat}
theorem enW_bd {i : Nat} : ∀ L, L ≤ 10 → (∀ k, k < L → 97 ≤ b (i + k) ∧ b (i + k) ≤ 122) → 0 ≤ enW b i L ∧ enW b i L < ((32 ^ L : Nat) : Int) := by
  intro L
  induction L with
  | zero =>
    intro _ _
    exact ⟨Int.le_refl 0, show (0 : Int) < 1 by decide⟩
  | succ L ih =>
    intro hL h
    obtain ⟨i1, i2⟩ := ih (by omega) (fun k hk => h k (by omega))
    obtain ⟨c1, c2⟩ := h L (by omega)
    have e : enW b i (L + 1) = enW b i L * 32 + ((b (i + L) : Int) - 96) := if_pos (by omega)
    rw [e, Nat.pow_succ]
    generalize 32 ^ L = z at *
    omega
theorem enW_big {i L : Nat} (h : 10 < L) : enW b i L = -1 := by
  obtain ⟨m, rfl⟩ : ∃ m, L = m + 1 := ⟨L - 1, by omega⟩
  exact if_neg (by omega)
theorem o64_inj {x y : Int} (h1 : -2 ^ 63 ≤ x) (h2 : x < 2 ^ 63) (h3 : -2 ^ 63 ≤ y) (h4 : y < 2 ^ 63) : Int64.ofInt x = Int64.ofInt y ↔ x = y := by
  refine ⟨fun h => ?_, fun h => by rw [h]⟩
  have hz : Int64.size = 18446744073709551616 := rfl
  have := congrArg Int64.toInt h
  rw [Int64.toInt_ofInt, Int64.toInt_ofInt, Int.bmod_eq_of_le (by omega) (by omega), Int.bmod_eq_of_le (by omega) (by omega)] at this
  exact this
theorem enc_bd : ∀ w, w < 26 → encL (wdL w) < 2 ^ 40 := by decide
theorem mnT_all (hb : ∀ k, b k ≤ 255) : (plN b t k < t → so (b (plN b t k)) ≠ 0) ∧ (plN b t k < t → so (b (plN b t k)) = 1 → 2000 ≤ mnT b t (plN b t k) ∧ mnT b t (plN b t k) ≤ 2026) ∧ (plN b t k < t → so (b (plN b t k)) = 2 → mnT b t (plN b t k) ≤ 1001) ∧ (plN b t k < t → so (b (plN b t k)) = 3 → mnT b t (plN b t k) = 3000 + b (plN b t k)) ∧ (¬ plN b t k < t → mnT b t (plN b t k) = 4000) := by
  refine ⟨fun h => (tsB_iff.mp (plN_ts h)).2.1, fun h h1 => ?_, fun h h1 => ?_, fun h h1 => ?_, fun h => if_neg h⟩
  · unfold mnT
    rw [if_pos h, if_pos h1]
    have := wdX_le (b := b) (plN b t k) (ruN b t 1 (plN b t k) - plN b t k)
    omega
  · unfold mnT
    rw [if_pos h, if_neg (by omega), if_pos h1]
    exact nmC_le _ _
  · unfold mnT
    rw [if_pos h, if_neg (by omega), if_neg (by omega)]
theorem m_isWord (hS : St n T R) (hb : ∀ k, b k ≤ 255) (ht : t ≤ 400) (h : MTs b t k I J) {w : Nat} (hw : w < 26) {x : Int64} (hx : x = Int64.ofInt (encL (wdL w))) : ev O (d + 1) MX11_isWord [.ref 69, .long x] (hp u n T I J R) = some (some (.int (bI (decide (mnT b t (plN b t k) = 2000 + w)))), hp u n T I J R) := by
  obtain ⟨-, -, -, -, h16, h17⟩ := h
  obtain ⟨m0, m1, m2, m3, m4⟩ := mnT_all (b := b) (t := t) (k := k) hb
  have sl := so_le (b (plN b t k))
  refine e_X11_isWord ?_
  unfold F_X11_isWord
  rw [gi_69_16 hS, Option.bind_some, h16]
  by_cases hl : plN b t k < t
  · rw [if_pos hl]
    have n0 := m0 hl
    by_cases s1 : so (b (plN b t k)) = 1
    · obtain ⟨g1, g2, g3, g4⟩ := ruN_all (b := b) (t := t) (s := 1) (i := plN b t k) (by omega)
      have hm : mnT b t (plN b t k) = 2000 + wdX b (plN b t k) (ruN b t 1 (plN b t k) - plN b t k) := by
        unfold mnT
        rw [if_pos hl, if_pos s1]
      have wo : wrT b t (plN b t k) = enW b (plN b t k) (ruN b t 1 (plN b t k) - plN b t k) := by
        unfold wrT
        rw [if_pos hl, if_pos s1]
      have lt : ∀ j, j < ruN b t 1 (plN b t k) - plN b t k → 97 ≤ b (plN b t k + j) ∧ b (plN b t k + j) ≤ 122 := fun j hj => so_1.mp (g3 _ (by omega) (by omega))
      rw [s1, if_pos rfl, gj_69_17 hS, Option.bind_some, h17, hx, wo, hm]
      generalize hL : ruN b t 1 (plN b t k) - plN b t k = L at *
      have eb := enc_bd w hw
      have wi := wdX_iff (b := b) (i := plN b t k) (L := L) hw
      have wl := wd_len w hw
      have key : Int64.ofInt (enW b (plN b t k) L) = Int64.ofInt (encL (wdL w)) ↔ wdX b (plN b t k) L = w := by
        by_cases h10 : L ≤ 10
        · obtain ⟨b1, b2⟩ := enW_bd (b := b) (i := plN b t k) L h10 lt
          have b3 : 32 ^ L ≤ 32 ^ 10 := Nat.pow_le_pow_right (by decide) h10
          have b4 : 32 ^ 10 < 2 ^ 63 := by decide
          generalize 32 ^ L = z at *
          rw [o64_inj (by omega) (by omega) (by omega) (by omega), wi, enc_inj L (wdL w) h10 ?_ lt]
          · exact Iff.rfl
          · intro c hc
            obtain ⟨j, hj, e⟩ := List.getElem_of_mem hc
            have := wd_ltr w hw j hj
            rw [List.getD_eq_getElem?_getD, List.getElem?_eq_getElem hj, Option.getD_some, e] at this
            exact this
        · rw [enW_big (by omega), o64_inj (by decide) (by decide) (by omega) (by omega), wi]
          constructor
          · intro z
            omega
          · intro z
            have := z.1
            omega
      by_cases hk : wdX b (plN b t k) L = w
      · rw [if_pos ((lg_cmp_eq _ _).mpr (key.mpr hk)), decide_eq_true (by omega)]
        rfl
      · rw [if_neg (fun z => hk (key.mp ((lg_cmp_eq _ _).mp z))), decide_eq_false (by omega)]
        rfl
    · rw [if_neg (fun z => s1 ((nI_eq (by omega) (by omega)).mp z)), decide_eq_false]
      · rfl
      · intro z
        by_cases s2 : so (b (plN b t k)) = 2
        · have := m2 hl s2
          omega
        · have := m3 hl (by omega)
          omega
  · rw [if_neg hl, if_neg (by decide), decide_eq_false (by have := m4 hl; omega)]
    rfl
theorem m_isSign (hS : St n T R) (hb : ∀ k, b k ≤ 255) (h : MTs b t k I J) {c : Nat} (hc : c ≤ 255) : ev O (d + 1) MX11_isSign [.ref 69, .int (nI c)] (hp u n T I J R) = some (some (.int (bI (decide (mnT b t (plN b t k) = 3000 + c)))), hp u n T I J R) := by
  obtain ⟨-, -, -, -, h16, h17⟩ := h
  obtain ⟨m0, m1, m2, m3, m4⟩ := mnT_all (b := b) (t := t) (k := k) hb
  have sl := so_le (b (plN b t k))
  have bl := hb (plN b t k)
  refine e_X11_isSign ?_
  unfold F_X11_isSign
  rw [gi_69_16 hS, Option.bind_some, h16]
  by_cases hl : plN b t k < t
  · rw [if_pos hl]
    have n0 := m0 hl
    by_cases s3 : so (b (plN b t k)) = 3
    · have wo : wrT b t (plN b t k) = (b (plN b t k) : Int) := by
        unfold wrT
        rw [if_pos hl, if_neg (by omega), if_neg (by omega)]
      rw [s3, if_pos rfl, gj_69_17 hS, Option.bind_some, h17, wo, m3 hl s3, l64_nI (by omega)]
      have key := o64_inj (x := (b (plN b t k) : Int)) (y := (c : Int)) (by omega) (by omega) (by omega) (by omega)
      by_cases hk : b (plN b t k) = c
      · rw [if_pos ((lg_cmp_eq _ _).mpr (key.mpr (by omega))), decide_eq_true (by omega)]
        rfl
      · rw [if_neg (fun z => hk (by have := key.mp ((lg_cmp_eq _ _).mp z); omega)), decide_eq_false (by omega)]
        rfl
    · rw [if_neg (fun z => s3 ((nI_eq (by omega) (by omega)).mp z)), decide_eq_false]
      · rfl
      · intro z
        by_cases s2 : so (b (plN b t k)) = 2
        · have := m2 hl s2
          omega
        · have := m1 hl (by omega)
          omega
  · rw [if_neg hl, if_neg (by decide), decide_eq_false (by have := m4 hl; omega)]
    rfl
/-- its worth, where it is a number -/
theorem m_worth (hS : St n T R) (hb : ∀ k, b k ≤ 255) (h : MTs b t k I J) : (I 69 16 = nI 2 ↔ mnT b t (plN b t k) ≤ 1001) ∧ (mnT b t (plN b t k) ≤ 1001 → ∃ v : Nat, J 69 17 = Int64.ofInt v ∧ v ≤ 20000000 ∧ ((v ≤ 1000 ∧ mnT b t (plN b t k) = v) ∨ (1000 < v ∧ mnT b t (plN b t k) = 1001))) ∧ (I 69 16 = 0 ↔ mnT b t (plN b t k) = 4000) := by
  obtain ⟨-, -, -, -, h16, h17⟩ := h
  obtain ⟨m0, m1, m2, m3, m4⟩ := mnT_all (b := b) (t := t) (k := k) hb
  have sl := so_le (b (plN b t k))
  have bl := hb (plN b t k)
  rw [h16, h17]
  by_cases hl : plN b t k < t
  · rw [if_pos hl]
    have n0 := m0 hl
    have z0 : ¬ nI (so (b (plN b t k))) = 0 := fun z => n0 ((nI_eq (b := 0) (by omega) (by omega)).mp z)
    have e2 : nI (so (b (plN b t k))) = nI 2 ↔ so (b (plN b t k)) = 2 := nI_eq (by omega) (by omega)
    by_cases s2 : so (b (plN b t k)) = 2
    · have wo : wrT b t (plN b t k) = (nmW b (plN b t k) (ruN b t 2 (plN b t k) - plN b t k) : Int) := by
        unfold wrT
        rw [if_pos hl, if_neg (by omega), if_pos s2]
      have hm : mnT b t (plN b t k) = nmC b (plN b t k) (ruN b t 2 (plN b t k) - plN b t k) := by
        unfold mnT
        rw [if_pos hl, if_neg (by omega), if_pos s2]
      have l2 := m2 hl s2
      refine ⟨⟨fun _ => l2, fun _ => e2.mpr s2⟩, fun _ => ⟨_, by rw [wo], nmW_le hb _ _, ?_⟩, ⟨fun z => absurd z z0, fun z => by omega⟩⟩
      rw [hm]
      exact nm_rel _ _
    · have big : ¬ mnT b t (plN b t k) ≤ 1001 ∧ mnT b t (plN b t k) ≠ 4000 := by
        by_cases s1 : so (b (plN b t k)) = 1
        · have := m1 hl s1
          omega
        · have := m3 hl (by omega)
          omega
      exact ⟨⟨fun z => absurd (e2.mp z) s2, fun z => absurd z big.1⟩, fun z => absurd z big.1, ⟨fun z => absurd z z0, fun z => absurd z big.2⟩⟩
  · have := m4 hl
    rw [if_neg hl]
    exact ⟨⟨fun z => absurd z (by decide), fun z => by omega⟩, fun z => by omega, ⟨fun _ => this, fun _ => rfl⟩⟩
end TKT
