/-! the class's laws tell what the reference's tell -/
theorem i64_lt (x y : Int32) : (x.toInt64 < y.toInt64) = (x < y) := by rw [Int64.lt_iff_toInt_lt, Int32.toInt_toInt64, Int32.toInt_toInt64, ← Int32.lt_iff_toInt_lt]
theorem i64_le (x y : Int32) : (x.toInt64 ≤ y.toInt64) = (x ≤ y) := by rw [Int64.le_iff_toInt_le, Int32.toInt_toInt64, Int32.toInt_toInt64, ← Int32.le_iff_toInt_le]
theorem i64_32 (x : Int32) : x.toInt64.toInt32 = x := by simp
/-- bounded: by the reference, by the class -/
theorem wi_cl {lo hi v : Int32} (h : lo ≤ hi) : wiF v.toInt64 lo hi = if lo < (if v < hi then v else hi) then (if v < hi then v else hi) else lo := by
  unfold wiF
  simp only [i64_lt, i64_32]
  by_cases h1 : v < lo
  · have h2 : v < hi := Int32.lt_of_lt_of_le h1 h
    rw [if_pos h1, if_pos h2, if_neg (fun z => Int32.lt_irrefl (Int32.lt_trans z h1))]
  · rw [if_neg h1]
    by_cases h2 : hi < v
    · rw [if_pos h2, if_neg (fun z => Int32.lt_irrefl (Int32.lt_trans z h2))]
      by_cases h3 : lo < hi
      · rw [if_pos h3]
      · rw [if_neg h3]
        exact Int32.le_antisymm (Int32.not_lt.mp h3) h
    · rw [if_neg h2]
      by_cases h3 : v < hi
      · rw [if_pos h3]
        by_cases h4 : lo < v
        · rw [if_pos h4]
        · rw [if_neg h4]
          exact Int32.le_antisymm (Int32.not_lt.mp h4) (Int32.not_lt.mp h1)
      · have e : v = hi := Int32.le_antisymm (Int32.not_lt.mp h2) (Int32.not_lt.mp h3)
        subst e
        rw [if_neg h3]
        by_cases h4 : lo < v
        · rw [if_pos h4]
        · rw [if_neg h4]
          exact Int32.le_antisymm (Int32.not_lt.mp h4) h
section LE
variable {n : Nat} {T : Nat → mT} {I : Nat → Nat → Int32} {R : Nat → Nat → Option Nat} {g V F D S N p lb : Nat} {w : Nat → Int32} {X : Int32 → Int32} {Z : Nat → Int64}
theorem td_te (h : LwEq I p w lb) (hX : WR X Z) {kd : Nat} (hk : kd < 3) (x : Int64) : ∀ c, c ≤ nv w (lb + 1) → teF w lb Z (nI kd) x c = match tdF (I (p + 1)) (I (p + 2)) X (I p 2).toNatClampNeg (nI kd) c with
    | none => x
    | some v => v.toInt64 := by
  intro c
  induction c with
  | zero =>
    intro _
    rfl
  | succ c ih =>
    intro hc
    obtain ⟨e1, e2⟩ := h.2 c (by omega)
    obtain ⟨e3, e4⟩ := e2 X Z hX
    unfold teF tdF
    rw [e1]
    by_cases hkd : w (lb + 2 + 8 * c) = nI kd
    · have h3 : w (lb + 2 + 8 * c) ≠ nI 3 := by
        rw [hkd]
        exact fun z => by have := (nI_eq (by omega) (by omega)).mp z; omega
      have hso : soR w lb Z c = if (woC (I (p + 1)) (I (p + 2)) X (I p 2).toNatClampNeg c 4).getD (nI 0) = nI 1 then (woC (I (p + 1)) (I (p + 2)) X (I p 2).toNatClampNeg c 2).map Int32.toInt64 else none := by
        unfold soR
        rw [e3, if_neg h3, e4 h3]
        by_cases q : (woC (I (p + 1)) (I (p + 2)) X (I p 2).toNatClampNeg c 4).getD (nI 0) = nI 1
        · rw [if_pos (decide_eq_true q), if_pos q]
        · rw [if_neg (fun z => q (of_decide_eq_true z)), if_neg q]
      rw [hso]
      by_cases q : (woC (I (p + 1)) (I (p + 2)) X (I p 2).toNatClampNeg c 4).getD (nI 0) = nI 1
      · rw [if_pos q]
        cases hv : woC (I (p + 1)) (I (p + 2)) X (I p 2).toNatClampNeg c 2 with
        | none =>
          rw [if_neg (fun z => by cases z.2), if_neg (fun z => by cases z.2.2)]
          exact ih (by omega)
        | some v =>
          rw [if_pos ⟨hkd, rfl⟩, if_pos ⟨hkd, q, rfl⟩]
          rfl
      · rw [if_neg q, if_neg (fun z => by cases z.2), if_neg (fun z => q z.2.1)]
        exact ih (by omega)
    · rw [if_neg (fun z => hkd z.1), if_neg (fun z => hkd z.1)]
      exact ih (by omega)
theorem br_te (h : LwEq I p w lb) (hX : WR X Z) : ∀ c, c ≤ nv w (lb + 1) → teF w lb Z (nI 3) 0 c = if brF (I (p + 1)) (I (p + 2)) X (I p 2).toNatClampNeg c = true then 1 else 0 := by
  intro c
  induction c with
  | zero =>
    intro _
    rfl
  | succ c ih =>
    intro hc
    obtain ⟨e1, e2⟩ := h.2 c (by omega)
    obtain ⟨e3, e4⟩ := e2 X Z hX
    unfold teF brF
    rw [e1, ih (by omega)]
    by_cases h3 : w (lb + 2 + 8 * c) = nI 3
    · have hso : soR w lb Z c = if (woC (I (p + 1)) (I (p + 2)) X (I p 2).toNatClampNeg c 4).getD (nI 0) = nI 1 then some 1 else none := by
        unfold soR
        rw [e3, if_pos h3]
        by_cases q : (woC (I (p + 1)) (I (p + 2)) X (I p 2).toNatClampNeg c 4).getD (nI 0) = nI 1
        · rw [if_pos (decide_eq_true q), if_pos q]
        · rw [if_neg (fun z => q (of_decide_eq_true z)), if_neg q]
      rw [hso, decide_eq_true h3, Bool.true_and]
      by_cases q : (woC (I (p + 1)) (I (p + 2)) X (I p 2).toNatClampNeg c 4).getD (nI 0) = nI 1
      · rw [if_pos q, if_pos ⟨h3, rfl⟩, decide_eq_true q, Bool.or_true, if_pos rfl]
        rfl
      · rw [if_neg q, if_neg (fun z => by cases z.2), decide_eq_false q, Bool.or_false]
    · rw [if_neg (fun z => h3 z.1), decide_eq_false h3, Bool.false_and, Bool.or_false]
/-- a law that is in force in the row -/
theorem lp_cs (hg : Gnd n T I R g w V F D S N) (hw : Wf w V F D S N) : (w 5 = -1 ∧ lpF I R g N = none) ∨ ∃ l p sc cc, l < N ∧ w 5 = nI l ∧ lpF I R g N = some p ∧ 97 < p ∧ PrV n T I R p sc cc ∧ LwEq I p w (110 + 900 * l) ∧ nv w 5 = l := by
  obtain ⟨⟨v5, f4, d8, s8, n6⟩, -, hf, -⟩ := hw
  have q2 : I g 17 = w 5 := hg.2.2.1
  unfold lpF
  rw [q2]
  rcases hf with z | ⟨l, hl, z⟩
  · refine Or.inl ⟨z, ?_⟩
    rw [z, if_neg]
    exact fun q => absurd (of_decide_eq_true q).1 (fun k => k (by decide))
  · obtain ⟨p, sc, cc, h1, h2, h3, h4⟩ := hg.2.2.2.2.2.2.2.2.2.2.2.2 l hl
    refine Or.inr ⟨l, p, sc, cc, hl, z, ?_, h2, h3, h4, ?_⟩
    · rw [z, if_pos (inR_nI hl (by omega)), nI_clamp (by omega)]
      exact h1
    · unfold nv
      rw [z, nI_clamp (by omega)]
theorem Lw_V (hg : Gnd n T I R g w V F D S N) (hw : Wf w V F D S N) : LwV n T I R (lpF I R g N) := by
  intro p hp
  rcases lp_cs hg hw with ⟨-, z⟩ | ⟨l, p', sc, cc, -, -, z, h1, h2, -⟩
  · rw [z] at hp
    cases hp
  · rw [z] at hp
    cases hp
    exact ⟨h1, sc, cc, h2⟩
theorem Fc_M (hw : Wf w V F D S N) : FcM w := by
  obtain ⟨⟨v5, f4, d8, s8, n6⟩, -, hf, -, -, -, -, hlw⟩ := hw
  rcases hf with z | ⟨l, hl, z⟩
  · exact Or.inl z
  · exact Or.inr ⟨l, by omega, z, hlw l hl⟩
theorem tdL_eq (hg : Gnd n T I R g w V F D S N) (hw : Wf w V F D S N) (hX : WR X Z) {kd : Nat} (hk : kd < 3) : tdL I (lpF I R g N) X kd = wiF (telR w Z (nI kd) (woT kd).toInt64) (lsT kd) (msT kd) := by
  have hlm : lsT kd ≤ msT kd := by
    have : ∀ kd, kd < 3 → lsT kd ≤ msT kd := by decide
    exact this kd hk
  have hwo : wiF (woT kd).toInt64 (lsT kd) (msT kd) = woT kd := by
    have : ∀ kd, kd < 3 → wiF (woT kd).toInt64 (lsT kd) (msT kd) = woT kd := by decide
    exact this kd hk
  unfold telR tdL
  rcases lp_cs hg hw with ⟨z5, z⟩ | ⟨l, p, sc, cc, hl, z5, z, h1, h2, h3, h4⟩
  · rw [if_pos z5, z, hwo]
    rfl
  · have hne : ¬ w 5 = -1 := by
      rw [z5]
      exact nI_ne1 (by have := hw.1.2.2.2.2; omega)
    rw [if_neg hne, z, h4, td_te h3 hX hk _ _ (Nat.le_refl _), h3.1]
    dsimp only
    cases tdF (I (p + 1)) (I (p + 2)) X (I p 2).toNatClampNeg (nI kd) (I p 3).toNatClampNeg with
    | none => rw [hwo]; rfl
    | some v =>
      rw [wi_cl hlm]
      rfl
theorem brL_eq (hg : Gnd n T I R g w V F D S N) (hw : Wf w V F D S N) (hX : WR X Z) : brL I (lpF I R g N) X = decide (telR w Z (nI 3) 0 = 1) := by
  unfold telR brL
  rcases lp_cs hg hw with ⟨z5, z⟩ | ⟨l, p, sc, cc, hl, z5, z, h1, h2, h3, h4⟩
  · rw [if_pos z5, z]
    rfl
  · have hne : ¬ w 5 = -1 := by
      rw [z5]
      exact nI_ne1 (by have := hw.1.2.2.2.2; omega)
    rw [if_neg hne, z, h4, br_te h3 hX _ (Nat.le_refl _), h3.1]
    dsimp only
    cases brF (I (p + 1)) (I (p + 2)) X (I p 2).toNatClampNeg (I p 3).toNatClampNeg <;> rfl
/-- the words of one of the dead -/
theorem WR_d (hg : Gnd n T I R g w V F D S N) (hw : Wf w V F D S N) {k : Nat} (hk : k < D) {v : Int32} (hv : v = -1 ∨ ∃ v', v' < V ∧ v = nI v') : WR (wX (adF I g V D k F v)) (sdW w D k v) := by
  obtain ⟨⟨v5, f4, d8, s8, n6⟩, -, -, -, hfam, -⟩ := hw
  obtain ⟨⟨c1, c2, c3, c4, c5, c6, c7, c8, c9, c10, c11, c12⟩, q1, q2, q3, q4, q5, q6, q7, q8, q9, q10, q11, ql⟩ := hg
  obtain ⟨f, hf, ef⟩ := hfam k hk
  have efv : nv w (42 + k) = f := by
    unfold nv
    rw [ef, nI_clamp (by omega)]
  have me : meF I g F (I (g + 3) k) = w (33 + f) := by
    unfold meF
    rw [q5 k (by omega), ef, if_pos (inR_nI hf (by omega)), nI_clamp (by omega), q4 f (by omega)]
  have hget : ∀ j, j < 9 → wX (adF I g V D k F v) (nI j) = (adF I g V D k F v).getD j 0 := by
    intro j hj
    unfold wX
    rw [if_pos (inR_nI hj (by omega)), nI_clamp (by omega)]
  unfold WR
  rw [hget 0 (by decide), hget 1 (by decide), hget 2 (by decide), hget 3 (by decide), hget 4 (by decide), hget 5 (by decide), hget 6 (by decide), hget 7 (by decide), hget 8 (by decide)]
  have ec : cnt (I (g + 4)) v D = cnt (fun j => w (9 + j)) v D := cnt_cg (fun j hj => q6 j (by omega))
  have y2 := q10 2 (by decide)
  have y0 := q10 0 (by decide)
  refine ⟨rfl, ?_, ?_, ?_, ?_, ?_, ?_, ?_, ?_⟩
  · show (w (42 + k)).toInt64 = (I (g + 3) k).toInt64
    rw [q5 k (by omega)]
  · show v.toInt64 = (if inR v V = true then v else -1).toInt64
    rcases hv with rfl | ⟨v', hv', rfl⟩
    · split <;> rfl
    · rw [if_pos (inR_nI hv' (by omega))]
  · show (w (17 + k)).toInt64 = (I (g + 5) k).toInt64
    rw [q7 k (by omega)]
  · show (w (33 + nv w (42 + k))).toInt64 = (meF I g F (I (g + 3) k)).toInt64
    rw [me, efv]
  · show (if v = -1 then (-1 : Int64) else _) = (if inR v V = true then I (g + 1) v.toNatClampNeg else -1).toInt64
    rcases hv with rfl | ⟨v', hv', rfl⟩
    · rw [if_pos rfl, if_neg (fun q => absurd (of_decide_eq_true q).1 (fun k => k (by decide)))]
      rfl
    · rw [if_neg (nI_ne1 (by omega)), if_pos (inR_nI hv' (by omega)), nI_clamp (by omega), q3 v' (by omega)]
  · show (if v = -1 then (-1 : Int64) else _) = (if inR v V = true then I (g + 1) v.toNatClampNeg - nI (cnt (I (g + 4)) v D) else -1).toInt64
    rcases hv with rfl | ⟨v', hv', rfl⟩
    · rw [if_pos rfl, if_neg (fun q => absurd (of_decide_eq_true q).1 (fun k => k (by decide)))]
      rfl
    · rw [if_neg (nI_ne1 (by omega)), if_pos (inR_nI hv' (by omega)), nI_clamp (by omega), q3 v' (by omega), ec]
  · show (w 6).toInt64 = (I (g + 9) 0).toInt64
    rw [y0]
  · show (w 8).toInt64 = (I (g + 9) 2).toInt64
    rw [y2]
/-- the words of a family -/
theorem WR_f (hg : Gnd n T I R g w V F D S N) {f : Nat} (hf : f < F) : WR (wX (afL I g F (nI f))) (sfW w f) := by
  obtain ⟨⟨c1, c2, c3, c4, c5, c6, c7, c8, c9, c10, c11, c12⟩, q1, q2, q3, q4, q5, q6, q7, q8, q9, q10, q11, ql⟩ := hg
  have me : meF I g F (nI f) = w (33 + f) := by
    unfold meF
    rw [if_pos (inR_nI hf (by omega)), nI_clamp (by omega), q4 f (by omega)]
  have hget : ∀ j, j < 9 → wX (afL I g F (nI f)) (nI j) = (afL I g F (nI f)).getD j 0 := by
    intro j hj
    unfold wX
    rw [if_pos (inR_nI hj (by omega)), nI_clamp (by omega)]
  unfold WR
  rw [hget 0 (by decide), hget 1 (by decide), hget 2 (by decide), hget 3 (by decide), hget 4 (by decide), hget 5 (by decide), hget 6 (by decide), hget 7 (by decide), hget 8 (by decide)]
  have y2 := q10 2 (by decide)
  have y0 := q10 0 (by decide)
  refine ⟨rfl, rfl, rfl, rfl, ?_, rfl, rfl, ?_, ?_⟩
  · show (w (33 + f)).toInt64 = (meF I g F (nI f)).toInt64
    rw [me]
  · show (w 6).toInt64 = (I (g + 9) 0).toInt64
    rw [y0]
  · show (w 8).toInt64 = (I (g + 9) 2).toInt64
    rw [y2]
end LE
