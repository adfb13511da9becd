/-! rows that are alike up to their end -/
section BD
variable {O : mO} {n : Nat} {T : Nat → mT} {I I' : Nat → Nat → Int32} {J : Nat → Nat → Int64} {R R' : Nat → Nat → Option Nat} {g p V F D S N lb : Nat} {w w' : Nat → Int32}
theorem rk_B {oc ac oc' ac' : Nat → Nat} {lf : Nat → Nat → Int64} {last : Nat} (h : ∀ k, k < last → oc' k = oc k ∧ ac' k = ac k) : ∀ (G k m : Nat) (X : Nat → Int64), rk oc' ac' lf last G k m X = rk oc ac lf last G k m X
  | 0, _, _, _ => rfl
  | G + 1, k, m, X => by
    have ih := rk_B (lf := lf) h G
    unfold rk
    by_cases hk : last ≤ k
    · rw [if_pos hk, if_pos hk]
    · obtain ⟨h1, h2⟩ := h k (by omega)
      rw [if_neg hk, if_neg hk, h1, h2, ih, ih, ih, ih]
      simp only [ih]
theorem rkS_B (h : ∀ i, lb ≤ i → i < lb + 900 → w' i = w i) (Z : Nat → Int64) {a b : Nat} (hb : b ≤ 400) : rkS w' lb Z a b = rkS w lb Z a b := by
  unfold rkS
  refine rk_B (fun k hk => ⟨?_, ?_⟩) _ _ _ _
  · unfold ocR nv
    rw [h _ (by omega) (by omega)]
  · unfold acR nv
    rw [h _ (by omega) (by omega)]
theorem LwM_B (h : ∀ i, lb ≤ i → i < lb + 900 → w' i = w i) (hM : LwM w lb) : LwM w' lb := by
  obtain ⟨cc, nc, h1, h2, h3, h4, h5, h6, h7⟩ := hM
  have b6 : ∀ c j, c < cc → 3 ≤ j → j ≤ 6 → nv w (lb + 2 + 8 * c + j) ≤ 400 := by
    intro c j hc z1 z2
    obtain ⟨a, e1, e2⟩ := h6 c j hc z1 z2
    rw [nv_n e2 (by omega)]
    omega
  have e6 : ∀ c j, c < cc → j ≤ 6 → nv w' (lb + 2 + 8 * c + j) = nv w (lb + 2 + 8 * c + j) := by
    intro c j hc z2
    unfold nv
    rw [h _ (by omega) (by omega)]
  refine ⟨cc, nc, h1, h2, by rw [h _ (by omega) (by omega)]; exact h3, fun k hk => ?_, fun c hc => ?_, fun c j hc z1 z2 => ?_, fun Z c hc => ?_⟩
  · rw [h _ (by omega) (by omega), h _ (by omega) (by omega)]
    exact h4 k hk
  · rw [h _ (by omega) (by omega)]
    exact h5 c hc
  · rw [h _ (by omega) (by omega)]
    exact h6 c j hc z1 z2
  · rw [e6 c 3 hc (by decide), e6 c 4 hc (by decide), e6 c 5 hc (by decide), e6 c 6 hc (by decide), rkS_B h Z (b6 c 4 hc (by decide) (by decide)), rkS_B h Z (b6 c 6 hc (by decide) (by decide))]
    exact h7 Z c hc
theorem LwEq_B (h : ∀ i, lb ≤ i → i < lb + 900 → w' i = w i) (hM : LwM w lb) (h0 : I' p = I p) (h1 : I' (p + 1) = I (p + 1)) (h2 : I' (p + 2) = I (p + 2)) (hE : LwEq I p w lb) : LwEq I' p w' lb := by
  obtain ⟨cc, nc, m1, m2, m3, m4, m5, m6, m7⟩ := hM
  obtain ⟨a1, a2⟩ := hE
  have ec : nv w (lb + 1) = cc := nv_n m3 (by omega)
  have ec' : nv w' (lb + 1) = nv w (lb + 1) := by
    unfold nv
    rw [h _ (by omega) (by omega)]
  have b6 : ∀ c j, c < cc → 3 ≤ j → j ≤ 6 → nv w (lb + 2 + 8 * c + j) ≤ 400 := by
    intro c j hc z1 z2
    obtain ⟨a, e1, e2⟩ := m6 c j hc z1 z2
    rw [nv_n e2 (by omega)]
    omega
  have e6 : ∀ c j, c < cc → j ≤ 6 → nv w' (lb + 2 + 8 * c + j) = nv w (lb + 2 + 8 * c + j) := by
    intro c j hc z2
    unfold nv
    rw [h _ (by omega) (by omega)]
  refine ⟨by rw [ec', h0]; exact a1, fun c hc => ?_⟩
  rw [ec'] at hc
  obtain ⟨b1, b2⟩ := a2 c hc
  rw [ec] at hc
  rw [h _ (by omega) (by omega), h0, h1, h2]
  refine ⟨b1, fun X Z hX => ?_⟩
  have et : teR w' lb Z c = teR w lb Z c := by
    unfold teR
    rw [e6 c 5 hc (by decide), e6 c 6 hc (by decide), rkS_B h Z (b6 c 6 hc (by decide) (by decide))]
  rw [et, e6 c 3 hc (by decide), e6 c 4 hc (by decide), rkS_B h Z (b6 c 4 hc (by decide) (by decide))]
  exact b2 X Z hX
theorem Wf_B (h : ∀ i, i < 5510 → w' i = w i) (hw : Wf w V F D S N) : Wf w' V F D S N := by
  obtain ⟨⟨v5, f4, d8, s8, n6⟩, ⟨w0, w1, w2, w3, w4⟩, hf, hs, hfam, hwi, hsn, hlw⟩ := hw
  refine ⟨⟨v5, f4, d8, s8, n6⟩, ⟨by rw [h _ (by omega)]; exact w0, by rw [h _ (by omega)]; exact w1, by rw [h _ (by omega)]; exact w2, by rw [h _ (by omega)]; exact w3, by rw [h _ (by omega)]; exact w4⟩, by rw [h _ (by omega)]; exact hf, WfS_cg hs d8 f4 (fun i _ _ => h i (by omega)) (fun v hv => h _ (by omega)), fun k hk => by rw [h _ (by omega)]; exact hfam k hk, fun d v hd hv => by rw [h _ (by omega)]; exact hwi d v hd hv, fun k hk => by rw [h _ (by omega), h _ (by omega)]; exact hsn k hk, fun l hl => LwM_B (fun i _ hi => h i (by omega)) (hlw l hl)⟩
/-- the same ground, elsewhere: its ints, its references, the row alike up to its end -/
theorem Gnd_B (hG : Gnd n T I R p w V F D S N) (hw : Wf w V F D S N) (h : ∀ i, i < 5510 → w' i = w i) (hC : IsC n T R') (hg : IsG n T R' g) (h31 : 31 < g) (h30 : R' g 0 = some 30) (a0 : ∀ k, 11 ≤ k → k ≤ 17 → I' g k = I p k) (a1 : ∀ k, k < 5 → I' (g + 1) k = I (p + 1) k) (a2 : ∀ k, k < 4 → I' (g + 2) k = I (p + 2) k) (a3 : ∀ k, k < 8 → I' (g + 3) k = I (p + 3) k) (a4 : ∀ k, k < 8 → I' (g + 4) k = I (p + 4) k) (a5 : ∀ k, k < 8 → I' (g + 5) k = I (p + 5) k) (a6 : ∀ k, k < 40 → I' (g + 6) k = I (p + 6) k) (a7 : ∀ k, k < 8 → I' (g + 7) k = I (p + 7) k) (a8 : ∀ k, k < 8 → I' (g + 8) k = I (p + 8) k) (a9 : ∀ k, k < 3 → I' (g + 9) k = I (p + 9) k) (ar : ∀ l, l < 6 → R' (g + 10) l = R (p + 10) l) (i98 : ∀ a, 98 ≤ a → I' a = I a) (r98 : ∀ a, 98 ≤ a → R' a = R a) : Gnd n T I' R' g w' V F D S N := by
  obtain ⟨⟨c1, c2, c3, c4, c5, c6, c7, c8, c9, c10, c11, c12⟩, q1, q2, q3, q4, q5, q6, q7, q8, q9, q10, q11, ql⟩ := hG
  refine ⟨⟨hC, hg, h31, h30, by rw [a0 _ (by decide) (by decide)]; exact c5, c6, by rw [a0 _ (by decide) (by decide)]; exact c7, c8, by rw [a0 _ (by decide) (by decide)]; exact c9, c10, by rw [a0 _ (by decide) (by decide)]; exact c11, c12⟩, by rw [a0 _ (by decide) (by decide)]; exact q1, by rw [a0 _ (by decide) (by decide), h _ (by omega)]; exact q2, fun k hk => by rw [a1 k hk, h _ (by omega)]; exact q3 k hk, fun k hk => by rw [a2 k hk, h _ (by omega)]; exact q4 k hk, fun k hk => by rw [a3 k hk, h _ (by omega)]; exact q5 k hk, fun k hk => by rw [a4 k hk, h _ (by omega)]; exact q6 k hk, fun k hk => by rw [a5 k hk, h _ (by omega)]; exact q7 k hk, fun d v hd hv => by rw [a6 _ (by omega), h _ (by omega)]; exact q8 d v hd hv, fun k hk => by rw [a7 k hk, a8 k hk, h _ (by omega), h _ (by omega)]; exact q9 k hk, fun k hk => by rw [a9 k hk, h _ (by omega)]; exact q10 k hk, fun k hk => by rw [a0 14 (by decide) (by decide), h _ (by omega)]; exact q11 k hk, fun l hl => ?_⟩
  obtain ⟨q, sc, cc, z1, z2, z3, z4⟩ := ql l hl
  refine ⟨q, sc, cc, by rw [ar l (by omega)]; exact z1, z2, ?_, LwEq_B (fun i _ hi => h i (by omega)) (hw.2.2.2.2.2.2.2 l hl) (i98 q (by omega)) (i98 _ (by omega)) (i98 _ (by omega)) z4⟩
  have z3' := PrV_cg2 (i98 q (by omega)) (i98 (q + 1) (by omega)) (i98 (q + 2) (by omega)) z3
  unfold PrV IsP at z3' ⊢
  rw [r98 q (by omega)]
  exact z3'
end BD
