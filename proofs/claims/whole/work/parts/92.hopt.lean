/-! a pairing with worths is the reference's row of choices -/
section HO
variable {V D r c f0 : Nat} {bar : Nat → Nat → Bool} {ot : Nat → Bool} {wi : Nat → Nat → Nat} {C : Nat → Nat → Int} {vc M m fb : Nat → Nat} {U W : Nat → Int}
/-- what a place costs -/
def cstV (bar : Nat → Nat → Bool) (wi : Nat → Nat → Nat) (d v P : Nat) : Int := if bar d v = true then 1099511627776 else ((v * P : Nat) : Int) - (268435456 + 2097152 * (wi d v : Int))
theorem dsm_one {h : Nat → Int} {B : Int} (hB : ∀ i, -B ≤ h i) (h0 : 0 ≤ B) : ∀ (k d i : Nat), d ≤ i → i < d + k → ot i = true → h (rnB ot i + 1) - (k : Int) * B ≤ dsm ot h k d
  | 0, d, i, h1, h2, _ => by omega
  | k + 1, d, i, h1, h2, ho => by
    have low : ∀ (k d : Nat), -((k : Int) * B) ≤ dsm ot h k d := by
      intro k
      induction k with
      | zero =>
        intro d
        show -(((0 : Nat) : Int) * B) ≤ 0
        simp
      | succ k ih =>
        intro d
        have := ih (d + 1)
        have hb := hB (rnB ot d + 1)
        rw [dsm_s, Int.natCast_add, Int.add_mul]
        by_cases e : ot d = true
        · rw [if_pos e]
          simp
          omega
        · rw [if_neg e]
          simp
          omega
    rw [dsm_s, Int.natCast_add, Int.add_mul]
    by_cases e : i = d
    · subst e
      have := low k (i + 1)
      rw [if_pos ho]
      simp
      omega
    · have ih := dsm_one hB h0 k (d + 1) i (by omega) (by omega) ho
      have hb := hB (rnB ot d + 1)
      by_cases e2 : ot d = true
      · rw [if_pos e2]
        simp
        omega
      · rw [if_neg e2]
        simp
        omega
theorem cTt_dsm {x : Nat → Nat} {h : Nat → Int} (hh : ∀ d, d < D → ot d = true → h (rnB ot d + 1) = ((x d * 6 ^ rnF ot (D - (d + 1)) (d + 1) : Nat) : Int) - (if x d < V then 268435456 + 2097152 * (wi d (x d) : Int) else 0)) : ∀ (k d : Nat), d + k = D → dsm ot h k d = cTt V ot wi x k d
  | 0, _, _ => rfl
  | k + 1, d, hk => by
    rw [dsm_s, cTt_s, cTt_dsm hh k (d + 1) (by omega)]
    by_cases e : ot d = true
    · rw [if_pos e, if_pos e, hh d (by omega) e, show D - (d + 1) = k by omega]
    · rw [if_neg e, if_neg e]
theorem cnx_dsm {x : Nat → Nat} {v : Nat} {h : Nat → Int} (hh : ∀ d, d < D → ot d = true → h (rnB ot d + 1) = if x d = v then 1 else 0) : ∀ (k d : Nat), d + k = D → dsm ot h k d = (cnx ot x v k d : Int)
  | 0, _, _ => rfl
  | k + 1, d, hk => by
    unfold cnx
    rw [dsm_s, cnx_dsm hh k (d + 1) (by omega), Int.natCast_add]
    by_cases e : ot d = true
    · rw [if_pos e, hh d (by omega) e]
      by_cases e2 : x d = v
      · rw [if_pos e2, if_pos ⟨e, e2⟩]
        rfl
      · rw [if_neg e2, if_neg (fun z => e2 z.2)]
        rfl
    · rw [if_neg e, if_neg (fun z => e z.1)]
      rfl
theorem hung_opt (h5 : V ≤ 5) (h8 : D ≤ 8) (hwi : ∀ d v, wi d v ≤ 9) (hr : r = rnB ot D) (hf : f0 < 1024) (hfb : ∀ v, v < V → blF f0 v = fb v) (hC : ∀ d, d < D → ot d = true → (∀ v, v < V → C (rnB ot d + 1) v = cstV bar wi d v (6 ^ rnF ot (D - (d + 1)) (d + 1))) ∧ C (rnB ot d + 1) 5 = ((5 * 6 ^ rnF ot (D - (d + 1)) (d + 1) : Nat) : Int)) (hvc : ∀ j, 1 ≤ j → j ≤ c → vc j < V ∨ vc j = 5) (hcol : ∀ g : Nat → Int, smI (fun j => g (vc (j + 1))) c = smI (fun v => (fb v : Int) * g v) V + (r : Int) * g 5) (hM : ∀ j, 1 ≤ j → j ≤ c → M j ≤ r) (hinj : ∀ j k, 1 ≤ j → j ≤ c → 1 ≤ k → k ≤ c → M j = M k → M j ≠ 0 → j = k) (hm : ∀ i, 1 ≤ i → i ≤ r → 1 ≤ m i ∧ m i ≤ c ∧ M (m i) = i) (hd : ∀ i j, 1 ≤ i → i ≤ r → 1 ≤ j → j ≤ c → U i + W j ≤ C i (vc j)) (ht : ∀ j, 1 ≤ j → j ≤ c → M j ≠ 0 → U (M j) + W j = C (M j) (vc j)) (hW : ∀ j, 1 ≤ j → j ≤ c → W j ≤ 0) (hW0 : ∀ j, 1 ≤ j → j ≤ c → M j = 0 → W j = 0) : ∀ d, d < D → ot d = true → vc (m (rnB ot d + 1)) = yv V bar ot wi D f0 d := by
  have rows : ∀ d, d < D → ot d = true → rnB ot d + 1 ≤ r := by
    intro d hd ho
    have h1 := rnB_mono (ot := ot) (show d + 1 ≤ D by omega)
    rw [rnB_s, if_pos ho] at h1
    omega
  have rowd : ∀ i, 1 ≤ i → i ≤ r → ∃ d, d < D ∧ ot d = true ∧ rnB ot d + 1 = i := by
    intro i h1 h2
    rw [hr] at h2
    have : ∀ D, i ≤ rnB ot D → ∃ d, d < D ∧ ot d = true ∧ rnB ot d + 1 = i := by
      intro D
      induction D with
      | zero =>
        intro z
        have : rnB ot 0 = 0 := rfl
        omega
      | succ D ih =>
        intro z
        by_cases hl : i ≤ rnB ot D
        · obtain ⟨d, g1, g2, g3⟩ := ih hl
          exact ⟨d, by omega, g2, g3⟩
        · rw [rnB_s] at z
          by_cases e : ot D = true
          · rw [if_pos e] at z
            exact ⟨D, by omega, e, by omega⟩
          · rw [if_neg e] at z
            omega
    exact this D h2
  -- a column for each vault with beds
  have colv : ∀ v, (v < V ∧ fb v ≠ 0 ∨ v = 5) → 0 < r → ∃ j, j < c ∧ vc (j + 1) = v := by
    intro v hv hr0
    apply Classical.byContradiction
    intro hN
    have z := hcol (fun u => if u = v then 1 else 0)
    rw [smI_cg (g := fun _ => 0) (fun j hj => if_neg (fun e => hN ⟨j, hj, e⟩)), smI_0] at z
    rcases hv with ⟨h1, h2⟩ | h1
    · have e5 : ¬ (5 : Nat) = v := by omega
      rw [smI_1 (a := v) h1 (fun i _ hn => by rw [if_neg hn, Int.mul_zero]), if_pos rfl, if_neg e5] at z
      omega
    · subst h1
      have le := smI_le (f := fun _ => 0) (g := fun u => (fb u : Int) * (if u = 5 then 1 else 0)) (n := V) (fun u _ => Int.mul_nonneg (Int.natCast_nonneg _) (by split <;> omega))
      rw [smI_0] at le
      rw [if_pos rfl] at z
      omega
  by_cases r0 : r = 0
  · intro d hd ho
    have := rows d hd ho
    omega
  -- the greatest worth of each vault's columns
  have mex : ∀ v, ∃ w : Int, w ≤ 0 ∧ (∀ j, 1 ≤ j → j ≤ c → vc j = v → W j ≤ w) ∧ ((v < V ∧ fb v ≠ 0 ∨ v = 5) → ∀ i, 1 ≤ i → i ≤ r → U i + w ≤ C i v) := by
    intro v
    by_cases hv : ∃ j, j < c ∧ vc (j + 1) = v
    · obtain ⟨j, j1, j2, j3⟩ := max_ex (p := fun j => vc (j + 1) = v) (W := fun j => W (j + 1)) c hv
      refine ⟨W (j + 1), hW (j + 1) (by omega) (by omega), fun k k1 k2 k3 => ?_, fun _ i i1 i2 => ?_⟩
      · have := j3 (k - 1) (by omega) (by rw [show k - 1 + 1 = k by omega]; exact k3)
        rw [show k - 1 + 1 = k by omega] at this
        exact this
      · have := hd i (j + 1) i1 i2 (by omega) (by omega)
        rw [j2] at this
        exact this
    · refine ⟨0, Int.le_refl 0, fun j j1 j2 j3 => ?_, fun h => absurd (colv v h (by omega)) hv⟩
      exact absurd ⟨j - 1, by omega, by rw [show j - 1 + 1 = j by omega]; exact j3⟩ hv
  have hmW : ∃ mW : Nat → Int, ∀ v, mW v ≤ 0 ∧ (∀ j, 1 ≤ j → j ≤ c → vc j = v → W j ≤ mW v) ∧ ((v < V ∧ fb v ≠ 0 ∨ v = 5) → ∀ i, 1 ≤ i → i ≤ r → U i + mW v ≤ C i v) := ⟨fun v => Classical.choose (mex v), fun v => Classical.choose_spec (mex v)⟩
  obtain ⟨mW, hmW⟩ := hmW
  -- what the reference's row costs
  obtain ⟨yfe, -⟩ := cho_best (V := V) (bar := bar) (ot := ot) (wi := wi) (D := D) h5 f0 D 0 (by omega)
  have yfe : fe V bar ot (yv V bar ot wi D f0) D 0 f0 := yfe
  have lb := hung_lb (C := C) (U := U) (mW := mW) (fb := fb) (wi := wi) h5 (fun d hd ho => ⟨fun v hv hb => by
      rw [(hC d hd ho).1 v hv]
      unfold cstV
      rw [if_neg (by rw [hb]; decide)], (hC d hd ho).2⟩) (fun v => (hmW v).1) (fun d v hd ho hv => (hmW v).2.2 hv _ (by omega) (rows d hd ho)) D 0 f0 (by omega) hf (fun v hv => by rw [hfb v hv]; exact Nat.le_refl _) yfe
  have rF : rnF ot D 0 = r := by
    have := rnB_F (ot := ot) D 0
    rw [Nat.zero_add] at this
    have z : rnB ot 0 = 0 := rfl
    omega
  rw [rF] at lb
  -- the sum of the worths
  have sW : smI (fun j => W (j + 1)) c ≤ bsm f0 mW V + (r : Int) * mW 5 := by
    have h1 := smI_le (f := fun j => W (j + 1)) (g := fun j => mW (vc (j + 1))) (n := c) (fun j hj => (hmW (vc (j + 1))).2.1 (j + 1) (by omega) (by omega) rfl)
    rw [hcol mW] at h1
    have e : bsm f0 mW V = smI (fun v => (fb v : Int) * mW v) V := by
      unfold bsm
      exact smI_cg (fun v hv => by rw [hfb v hv])
    rw [e]
    exact h1
  have sM : smI (fun j => W (j + 1)) c = smI (fun i => W (m (i + 1))) r := by
    rw [← smI_match (M := M) (fun _ j => W j) hM hinj hm]
    apply smI_cg
    intro j hj
    by_cases e : M (j + 1) = 0
    · rw [if_pos e]
      exact hW0 (j + 1) (by omega) (by omega) e
    · rw [if_neg e]
  have tot : ∀ h : Nat → Int, dsm ot h D 0 = smI (fun i => h (i + 1)) r := by
    intro h
    have := dsm_eq (ot := ot) h D 0
    rw [Nat.zero_add, ← hr] at this
    have z : smI (fun i => h (i + 1)) (rnB ot 0) = 0 := rfl
    rw [z] at this
    omega
  have cost : dsm ot (fun i => C i (vc (m i))) D 0 ≤ cTt V ot wi (yv V bar ot wi D f0) D 0 := by
    have e : dsm ot (fun i => C i (vc (m i))) D 0 = dsm ot U D 0 + smI (fun j => W (j + 1)) c := by
      rw [sM, tot, tot, ← smI_add]
      apply smI_cg
      intro i hi
      obtain ⟨m1, m2, m3⟩ := hm (i + 1) (by omega) (by omega)
      have := ht (m (i + 1)) m1 m2 (by omega)
      rw [m3] at this
      omega
    rw [e]
    omega
  have ylt : cTt V ot wi (yv V bar ot wi D f0) D 0 < 1679616 := by
    have n1 := nN_lt h5 D 0 f0 yfe
    have r8 : 6 ^ rnF ot D 0 ≤ 6 ^ 8 := Nat.pow_le_pow_right (by decide) (Nat.le_trans (rnF_le D 0) h8)
    have e8 : (6 : Nat) ^ 8 = 1679616 := by decide
    rw [cTt_eq]
    generalize 6 ^ rnF ot D 0 = P at *
    omega
  have vlt : ∀ d, d < D → ot d = true → vc (m (rnB ot d + 1)) < V ∨ vc (m (rnB ot d + 1)) = 5 := by
    intro d hd ho
    obtain ⟨m1, m2, -⟩ := hm (rnB ot d + 1) (by omega) (rows d hd ho)
    exact hvc _ m1 m2
  have low : ∀ d, d < D → ot d = true → -536870912 ≤ C (rnB ot d + 1) (vc (m (rnB ot d + 1))) := by
    intro d hd ho
    obtain ⟨c1, c2⟩ := hC d hd ho
    rcases vlt d hd ho with h | h
    · rw [c1 _ h]
      unfold cstV
      have := hwi d (vc (m (rnB ot d + 1)))
      split
      · omega
      · generalize vc (m (rnB ot d + 1)) * 6 ^ rnF ot (D - (d + 1)) (d + 1) = q
        omega
    · rw [h, c2]
      omega
  -- nobody lies where one may not
  have nob : ∀ d, d < D → ot d = true → vc (m (rnB ot d + 1)) = 5 ∨ (vc (m (rnB ot d + 1)) < V ∧ bar d (vc (m (rnB ot d + 1))) = false) := by
    intro d hd ho
    rcases vlt d hd ho with h | h
    · right
      refine ⟨h, ?_⟩
      cases hb : bar d (vc (m (rnB ot d + 1))) with
      | false => rfl
      | true =>
        exfalso
        have one := dsm_one (ot := ot) (h := fun i => if ∃ d, d < D ∧ ot d = true ∧ rnB ot d + 1 = i then C i (vc (m i)) else 0) (B := 536870912) (fun i => by
          split
          · rename_i z
            obtain ⟨d, g1, g2, g3⟩ := z
            rw [← g3]
            exact low d g1 g2
          · omega) (by omega) D 0 d (by omega) (by omega) ho
        rw [dsm_cg (h := fun i => C i (vc (m i))) D 0 (fun i _ h2 ho2 => by rw [if_pos ⟨i, by omega, ho2, rfl⟩])] at one
        rw [if_pos ⟨d, hd, ho, rfl⟩, (hC d hd ho).1 _ h] at one
        unfold cstV at one
        rw [if_pos hb] at one
        have : (D : Int) * 536870912 ≤ 8 * 536870912 := by omega
        omega
    · exact Or.inl h
  -- the pairing's own row of choices: by the rows of the dead
  have hx : ∀ d, d < D → ot d = true → C (rnB ot d + 1) (vc (m (rnB ot d + 1))) = ((vc (m (rnB ot d + 1)) * 6 ^ rnF ot (D - (d + 1)) (d + 1) : Nat) : Int) - (if vc (m (rnB ot d + 1)) < V then 268435456 + 2097152 * (wi d (vc (m (rnB ot d + 1))) : Int) else 0) := by
    intro d hd ho
    obtain ⟨c1, c2⟩ := hC d hd ho
    rcases nob d hd ho with h | ⟨h, hb⟩
    · rw [h, c2, if_neg (by omega)]
      omega
    · rw [c1 _ h, if_pos h]
      unfold cstV
      rw [if_neg (by rw [hb]; decide)]
  have ct := cTt_dsm (V := V) (wi := wi) (x := fun d => vc (m (rnB ot d + 1))) (h := fun i => C i (vc (m i))) hx D 0 (by omega)
  have cap : ∀ v, v < V → cnx ot (fun d => vc (m (rnB ot d + 1))) v D 0 ≤ blF f0 v := by
    intro v hv
    have e1 := cnx_dsm (D := D) (ot := ot) (x := fun d => vc (m (rnB ot d + 1))) (v := v) (h := fun i => if vc (m i) = v then 1 else 0) (fun d _ _ => rfl) D 0 (by omega)
    rw [tot] at e1
    have e2 := smI_match (M := M) (m := m) (r := r) (c := c) (fun _ j => if vc j = v then 1 else 0) hM hinj hm
    have e3 := smI_le (f := fun j => if M (j + 1) = 0 then 0 else (if vc (j + 1) = v then 1 else 0)) (g := fun j => if vc (j + 1) = v then 1 else 0) (n := c) (fun j _ => by
      split
      · split <;> omega
      · exact Int.le_refl _)
    have e4 := hcol (fun u => if u = v then 1 else 0)
    have n5 : ¬ (5 : Nat) = v := by omega
    rw [smI_1 (a := v) hv (fun i _ hn => by rw [if_neg hn, Int.mul_zero]), if_pos rfl, if_neg n5] at e4
    have := hfb v hv
    omega
  have xfe : fe V bar ot (fun d => vc (m (rnB ot d + 1))) D 0 f0 := fe_of h5 D 0 f0 hf (fun i _ h2 ho => nob i (by omega) ho) cap
  have mn := cho_min (wi := wi) h5 h8 hwi f0 xfe
  intro d hd ho
  exact mn.2 (by rw [← ct]; exact cost) d hd ho
end HO
