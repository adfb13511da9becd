/-! calls: law -/
section LW1
variable {O : mO} {c d u n : Nat} {T : Nat → mT} {I I' : Nat → Nat → Int32} {J J' : Nat → Nat → Int64} {R : Nat → Nat → Option Nat} {g h p q V F D S N x s k : Nat} {w w' : Nat → Int32} {K : mH}
/-- all but the tape and small things, behind a text -/
theorem Iv_txt (hI : IvW c u n T I J R g h V F D S N x s) (hr : ∀ a, rl g h a → I' a = I a) (h0 : I' 0 12 = nI 0) (h8 : I' 69 8 = I 69 8) (h13 : I' 69 13 = nI 0) (h54 : I' 69 54 = I 69 54) (h55 : I' 69 55 = I 69 55) (hs : Sml (I' 0) (I' 69) (I' 24) (I' 70)) (hJ : Cns J') : IvW (c + 1) u n T I' J' R g h V F D S N x s := by
  have hg := Iv_g hI
  obtain ⟨⟨s1, s2, s3⟩, s4, s5, s6, s7, s8, s9, s10, s11, s12⟩ := hI
  have e71 : I' 71 = I 71 := hr 71 (by unfold rl; omega)
  refine ⟨⟨s1, by omega, by omega⟩, s4, by rw [e71]; exact s5, by rw [e71]; exact Gnd_cg s6 (fun a ha => hr a (by unfold rl; omega)), ?_, Img_cg s8 (fun a ha => hr a (by unfold rl; omega)), ⟨0, by decide, h0, h13, fun k hk => absurd hk (Nat.not_lt_zero k)⟩, hs, Drn_cg s11 (hr 43 (by unfold rl; omega)) (hr 47 (by unfold rl; omega)) (hr 48 (by unfold rl; omega)) (hr 45 (by unfold rl; omega)) (hr 97 (by unfold rl; omega)) h54 h55, hJ⟩
  unfold Und at s7 ⊢
  rw [hr h (by unfold rl; omega), hr (h + 1) (by unfold rl; omega), hr 74 (by unfold rl; omega), hr 75 (by unfold rl; omega), e71, h8]
  exact s7
/-- the class keeps what it read -/
theorem c_trim (hS : St n T R) (hB : n + 3 ≤ oB) {s c : Nat} (h2 : I 2 2 = nI s) (h3 : I 2 3 = nI c) (hs : s ≤ 400) (hc : c ≤ 12) : ∃ T' I' J' R', ev O (d + 2) MX5_trimmed [.ref 2] (hp u n T I J R) = some (some (va_rf (some n)), hp (u + 4 + s + c * 6) (n + 3) T' I' J' R') ∧ (∀ a, a < n → T' a = T a ∧ I' a = I a ∧ J' a = J a ∧ R' a = R a) ∧ IsP (n + 3) T' R' n s (c * 6) ∧ I' n 2 = nI s ∧ I' n 3 = nI c ∧ (∀ i, i < s → I' (n + 1) i = I 3 i) ∧ ∀ i, i < c * 6 → I' (n + 2) i = I 4 i := by
  have n98 : 98 ≤ n := hS.1.1
  have e5 := i_5 (O := O) (d := d) (u := u + 4) (n := n + 1) (T := va_up T n (100 + 5, kd5)) (I := up1 I n zI) (J := up1 J n zJ) (R := up1 R n zR) (a := n) (s := s) (c := c) (tu_at _ _ _) (by omega) (by omega) hs hc
  have tl : ∀ a, a < n → iT5 (va_up T n (100 + 5, kd5)) (n + 1) s c a = T a := fun a ha => by rw [iT5_lo (by omega), tu_ne _ _ (by omega)]
  have il : ∀ a, a < n → iI5 (up1 I n zI) n (n + 1) a = I a := fun a ha => by
    unfold iI5
    simp (disch := omega) only [up2_off, up1_ne]
  have jl : ∀ a, a < n → iJ5 (up1 J n zJ) (n + 1) a = J a := fun a ha => by
    unfold iJ5
    simp (disch := omega) only [up1_ne]
  have rl : ∀ a, a < n → iR5 (up1 R n zR) n (n + 1) a = R a := fun a ha => by
    unfold iR5
    simp (disch := omega) only [up2_off, up1_ne]
  have t0 : iT5 (va_up T n (100 + 5, kd5)) (n + 1) s c n = (100 + 5, kd5) := by rw [iT5_lo (by omega), tu_at]
  have t1 : iT5 (va_up T n (100 + 5, kd5)) (n + 1) s c (n + 1) = (0, [s]) := by
    unfold iT5
    simp (disch := omega) only [tu_ne, tu_at]
  have t2 : iT5 (va_up T n (100 + 5, kd5)) (n + 1) s c (n + 2) = (0, [c * 6]) := by
    unfold iT5
    exact tu_at _ _ _
  have r0 : iR5 (up1 R n zR) n (n + 1) n 0 = some (n + 1) := by
    unfold iR5
    rw [up2_nk (by decide), up1_ne _ _ (by omega), up2_at]
  have r1 : iR5 (up1 R n zR) n (n + 1) n 1 = some (n + 2) := by
    unfold iR5
    exact up2_at _ _ _ _
  have hS' : St (n + 3) (iT5 (va_up T n (100 + 5, kd5)) (n + 1) s c) (iR5 (up1 R n zR) n (n + 1)) := St_o hS (by omega) hB tl (fun a ha _ _ _ _ => rl a (by omega))
  generalize iT5 (va_up T n (100 + 5, kd5)) (n + 1) s c = T' at *
  generalize iR5 (up1 R n zR) n (n + 1) = R' at *
  generalize iJ5 (up1 J n zJ) (n + 1) = J' at *
  generalize iI5 (up1 I n zI) n (n + 1) = I4 at *
  refine ⟨T', up2 (up2 (cpI (cpI I4 (n + 1) 3 0 0 s) (n + 2) 4 0 0 (c * 6)) n 2 (nI s)) n 3 (nI c), J', R', e_X5_trimmed ?_, fun a ha => ⟨tl a ha, ?_, jl a ha, rl a ha⟩, ⟨t0, t1, t2, r0, r1, Nat.le_refl _, hs, by omega⟩, ?_, up2_at _ _ _ _, fun i hi => ?_, fun i hi => ?_⟩
  · unfold F_X5_trimmed
    have T2 : va_up T n (100 + 5, kd5) 2 = (100 + 5, kd5) := by rw [tu_ne _ _ (by omega)]; exact hS.1.2 2 (by decide)
    have g22 : ∀ {I : Nat → Nat → Int32}, gtI (hp (u + 4 + s + c * 6) (n + 3) T' I J' R') 2 5 2 = some (I 2 2) := gi_2_2 hS'
    rw [nwO_5 (by omega), Option.bind_some]
    dsimp only
    rw [gtI_hp (ks := kd5) T2 rfl (by omega) (by omega), Option.bind_some, gtI_hp (ks := kd5) T2 rfl (by omega) (by omega), Option.bind_some, up1_ne _ _ (by omega), h2, h3, e5, toV_v, Option.bind_some, ga_2_0 hS', Option.bind_some, gtA_hp (ks := kd5) t0 rfl (by omega) hB r0, Option.bind_some, gi_2_2 hS', Option.bind_some, il 2 (by omega), h2, cpA_hp (sp := 0) (dp := 0) t1 (hS'.1.2 3 (by decide)) (by omega) (by omega) hB (by omega) (by decide) (by omega) (by omega), Option.bind_some, ga_2_1 hS', Option.bind_some, gtA_hp (ks := kd5) t0 rfl (by omega) hB r1, Option.bind_some, gi_2_3 hS', Option.bind_some, cpI_off (by omega), il 2 (by omega), h3, nI_mul, cpA_hp (sp := 0) (dp := 0) t2 (hS'.1.2 4 (by decide)) (by omega) (by omega) hB (by omega) (by decide) (by omega) (by omega), Option.bind_some, gi_2_2 hS', Option.bind_some, cpI_off (by omega), cpI_off (by omega), il 2 (by omega), h2, ptI_hp (ks := kd5) t0 rfl (by omega) hB, Option.bind_some, gi_2_3 hS', Option.bind_some, up2_na (by omega), cpI_off (by omega), cpI_off (by omega), il 2 (by omega), h3, ptI_hp (ks := kd5) t0 rfl (by omega) hB, Option.bind_some]
  · rw [up2_off _ _ _ (by omega), up2_off _ _ _ (by omega), cpI_off (by omega), cpI_off (by omega), il a ha]
  · rw [up2_nk (by decide), up2_at]
  · rw [up2_na (by omega), up2_na (by omega), cpI_off (by omega), cpI_z hi, il 3 (by omega)]
  · rw [up2_na (by omega), up2_na (by omega), cpI_z hi, cpI_off (by omega), il 4 (by omega)]
/-- a new law -/
theorem Iv_law {u' : Nat} {T' : Nat → mT} {I3 : Nat → Nat → Int32} {J3 : Nat → Nat → Int64} {R' : Nat → Nat → Option Nat} {sc cc : Nat} (hI : IvW c u n T I J R g h V F D S N x s) (hN : N < 6) (hu' : u' ≤ u + 600) (hB : n + 3 ≤ oB) (hT : ∀ a, a < n → T' a = T a) (hRo : ∀ a, a < n → a ≠ g + 10 → R' a = R a) (hR1 : R' (g + 10) N = some n) (hR2 : ∀ j, j ≠ N → R' (g + 10) j = R (g + 10) j)
    (hIo : ∀ a, a < n → 6 < a → a ≠ 24 → a ≠ 69 → a ≠ 70 → a ≠ 71 → a ≠ 79 → a ≠ 80 → a ≠ 81 → a ≠ 82 → a ≠ 83 → a ≠ g → I3 a = I a) (hg16 : I3 g 16 = nI (N + 1)) (hgo : ∀ j, j ≠ 16 → I3 g j = I g j) (h71 : ∀ i, i ≠ 4 → i < 110 + 900 * N → I3 71 i = I 71 i) (h714 : I3 71 4 = nI (N + 1)) (hPr : PrV (n + 3) T' I3 R' n sc cc) (hM : LwM (I3 71) (110 + 900 * N)) (hE : LwEq I3 n (I3 71) (110 + 900 * N))
    (h0 : I3 0 12 = nI 0) (h8 : I3 69 8 = I 69 8) (h13 : I3 69 13 = nI 0) (h54 : I3 69 54 = I 69 54) (h55 : I3 69 55 = I 69 55) (hsm : Sml (I3 0) (I3 69) (I3 24) (I3 70)) (hJ3 : Cns J3) : IvW (c + 1) u' (n + 3) T' I3 J3 R' g h V F D S (N + 1) x s := by
  have hg := Iv_g hI
  obtain ⟨⟨s1, s2, s3⟩, s4, s5, s6, s7, s8, s9, s10, s11, s12⟩ := hI
  have n98 : 98 ≤ n := s1.1.1
  have rlo : ∀ a, a < 98 → a ≠ g + 10 → R' a = R a := fun a z0 z1 => hRo a (by omega) z1
  have hP : ∀ q ls lc, 97 < q → IsP n T R q ls lc → (I3 q = I q ∧ I3 (q + 1) = I (q + 1) ∧ I3 (q + 2) = I (q + 2)) ∧ R' q = R q := by
    intro q ls lc hq hqp
    have qn : q + 3 ≤ n := hqp.2.2.2.2.2.1
    exact ⟨⟨hIo q (by omega) (by omega) (by omega) (by omega) (by omega) (by omega) (by omega) (by omega) (by omega) (by omega) (by omega) (by omega), hIo (q + 1) (by omega) (by omega) (by omega) (by omega) (by omega) (by omega) (by omega) (by omega) (by omega) (by omega) (by omega) (by omega), hIo (q + 2) (by omega) (by omega) (by omega) (by omega) (by omega) (by omega) (by omega) (by omega) (by omega) (by omega) (by omega) (by omega)⟩, hRo q (by omega) (by omega)⟩
  have hS' : St (n + 3) T' R' := St_o s1 (by omega) hB hT (fun a z1 z2 z3 z4 z5 => rlo a z1 (by omega))
  have lo : ∀ a, a < n → 6 < a → a ≠ 24 → a ≠ 69 → a ≠ 70 → a ≠ 71 → a ≠ 79 → a ≠ 80 → a ≠ 81 → a ≠ 82 → a ≠ 83 → a ≠ g → I3 a = I a := hIo
  have lo2 : ∀ a, a < 98 → (a = 23 ∨ (43 ≤ a ∧ a ≤ 53) ∨ (72 ≤ a ∧ a ≤ 78) ∨ a = 97 ∨ a = h ∨ a = h + 1) → I3 a = I a := fun a z1 z2 => hIo a (by omega) (by omega) (by omega) (by omega) (by omega) (by omega) (by omega) (by omega) (by omega) (by omega) (by omega) (by omega)
  obtain ⟨⟨v5, f4, d8, s8', n6⟩, ⟨w0, w1, w2, w3, w4⟩, hf, hws, hfam, hwi, hsn, hlw⟩ := id s5
  have r71 : ∀ i, i ≠ 4 → i < 110 → I3 71 i = I 71 i := fun i z1 z2 => h71 i z1 (by omega)
  have hWf : Wf (I3 71) V F D S (N + 1) := by
    refine ⟨⟨v5, f4, d8, s8', ⟨by omega, n6.2⟩⟩, ⟨by rw [r71 0 (by decide) (by decide)]; exact w0, by rw [r71 1 (by decide) (by decide)]; exact w1, by rw [r71 2 (by decide) (by decide)]; exact w2, by rw [r71 3 (by decide) (by decide)]; exact w3, h714⟩, ?_, WfS_cg hws d8 f4 (fun i z1 z2 => r71 i (by omega) (by omega)) (fun v hv => r71 _ (by omega) (by omega)), fun k hk => ?_, fun d v hd hv => ?_, fun k hk => ?_, fun l hl => ?_⟩
    · rw [r71 5 (by decide) (by decide)]
      rcases hf with z | ⟨l, z1, z2⟩
      · exact Or.inl z
      · exact Or.inr ⟨l, by omega, z2⟩
    · rw [r71 (42 + k) (by omega) (by omega)]
      exact hfam k hk
    · rw [r71 (50 + 5 * d + v) (by omega) (by omega)]
      exact hwi d v hd hv
    · rw [r71 (90 + 2 * k) (by omega) (by omega), r71 (90 + 2 * k + 1) (by omega) (by omega)]
      exact hsn k hk
    · by_cases e : l = N
      · rw [e]
        exact hM
      · exact LwM_B (fun i z1 z2 => h71 i (by omega) (by omega)) (hlw l (by omega))
  -- the ground, with its old laws, in the grown heap
  have hgX : Gnd (n + 3) T' (fun a => if a = g then I g else I3 a) (fun a => if a = g + 10 then R (g + 10) else R' a) g (I 71) V F D S N := by
    refine Gnd_X s6 (by omega) hT (fun a z1 z2 => ?_) (fun a z1 z2 => ?_) (fun a z1 z2 => ?_) (fun q ls lc hq hqp => ?_)
    · by_cases e : a = g
      · show (if a = g then I g else I3 a) = I a
        rw [if_pos e, e]
      · show (if a = g then I g else I3 a) = I a
        rw [if_neg e]
        exact hIo a (by omega) (by omega) (by omega) (by omega) (by omega) (by omega) (by omega) (by omega) (by omega) (by omega) (by omega) e
    · show (if a = g + 10 then R (g + 10) else R' a) = R a
      by_cases e : a = g + 10
      · rw [if_pos e, e]
      · rw [if_neg e]
        exact hRo a (by omega) e
    · show (if a = g + 10 then R (g + 10) else R' a) = R a
      rw [if_neg (by omega)]
      exact hRo a (by omega) (by omega)
    · obtain ⟨⟨a1, a2, a3⟩, a4⟩ := hP q ls lc hq hqp
      refine ⟨⟨?_, ?_, ?_⟩, ?_⟩
      · show (if q = g then I g else I3 q) = I q
        rw [if_neg (by omega)]
        exact a1
      · show (if q + 1 = g then I g else I3 (q + 1)) = I (q + 1)
        rw [if_neg (by omega)]
        exact a2
      · show (if q + 2 = g then I g else I3 (q + 2)) = I (q + 2)
        rw [if_neg (by omega)]
        exact a3
      · show (if q = g + 10 then R (g + 10) else R' q) = R q
        rw [if_neg (by omega)]
        exact a4
  have hGnd : Gnd (n + 3) T' I3 R' g (I3 71) V F D S (N + 1) := by
    obtain ⟨⟨c1, c2, c3, c4, c5, c6, c7, c8, c9, c10, c11, c12⟩, q1, q2, q3, q4, q5, q6, q7, q8, q9, q10, q11, ql⟩ := s6
    have ig : ∀ j, 1 ≤ j → j ≤ 10 → I3 (g + j) = I (g + j) := fun j z1 z2 => hIo _ (by omega) (by omega) (by omega) (by omega) (by omega) (by omega) (by omega) (by omega) (by omega) (by omega) (by omega) (by omega)
    refine ⟨⟨St_C hS', IsG_o c2 (by omega) hT (rlo g (by omega) (by omega)), c3, by rw [rlo g (by omega) (by omega)]; exact c4, by rw [hgo 11 (by decide)]; exact c5, c6, by rw [hgo 12 (by decide)]; exact c7, c8, by rw [hgo 13 (by decide)]; exact c9, c10, hg16, by omega⟩, by rw [hgo 15 (by decide)]; exact q1, by rw [hgo 17 (by decide), r71 5 (by decide) (by decide)]; exact q2, fun k hk => by rw [ig 1 (by decide) (by decide), r71 _ (by omega) (by omega)]; exact q3 k hk, fun k hk => by rw [ig 2 (by decide) (by decide), r71 _ (by omega) (by omega)]; exact q4 k hk, fun k hk => by rw [ig 3 (by decide) (by decide), r71 _ (by omega) (by omega)]; exact q5 k hk, fun k hk => by rw [ig 4 (by decide) (by decide), r71 _ (by omega) (by omega)]; exact q6 k hk, fun k hk => by rw [ig 5 (by decide) (by decide), r71 _ (by omega) (by omega)]; exact q7 k hk, fun d v hd hv => by rw [ig 6 (by decide) (by decide), r71 _ (by omega) (by omega)]; exact q8 d v hd hv, fun k hk => by rw [ig 7 (by decide) (by decide), ig 8 (by decide) (by decide), r71 (90 + 2 * k) (by omega) (by omega), r71 (90 + 2 * k + 1) (by omega) (by omega)]; exact q9 k hk, fun k hk => by rw [ig 9 (by decide) (by decide), r71 _ (by omega) (by omega)]; exact q10 k hk, fun k hk => by rw [hgo 14 (by decide), r71 _ (by omega) (by omega)]; exact q11 k hk, fun l hl => ?_⟩
    by_cases e : l = N
    · rw [e]
      exact ⟨n, sc, cc, hR1, by omega, hPr, hE⟩
    · obtain ⟨p, sc', cc', z1, z2, z3, z4⟩ := ql l (by omega)
      obtain ⟨ls, lc, z3a, z3b⟩ := z3
      obtain ⟨⟨p0, p1, p2⟩, pr⟩ := hP p ls lc z2 z3a
      have pn : p + 3 ≤ n := z3a.2.2.2.2.2.1
      refine ⟨p, sc', cc', by rw [hR2 l e]; exact z1, z2, ⟨ls, lc, ?_, by rw [p0, p1, p2]; exact z3b⟩, LwEq_B (fun i y1 y2 => h71 i (by omega) (by omega)) (hlw l (by omega)) p0 p1 p2 z4⟩
      unfold IsP at z3a ⊢
      rw [hT p (by omega), hT (p + 1) (by omega), hT (p + 2) (by omega), pr]
      obtain ⟨k1, k2, k3, k4, k5, k6, k7⟩ := z3a
      exact ⟨k1, k2, k3, k4, k5, by omega, k7⟩
  have old : ∀ k2, k2 ≤ 1 → Img n T I R k2 → Img (n + 3) T' I3 R' k2 := by
    intro k2 hk2 hi
    unfold Img at hi ⊢
    rw [lo2 73 (by decide) (by omega), rlo 25 (by decide) (by omega), lo2 72 (by decide) (by omega)]
    rcases hi with z | ⟨z1, p2, V2, F2, D2, S2, N2, z2, z3, z4, z5⟩
    · exact Or.inl z
    · right
      have p2n := z4.1.2.1.1.2
      exact ⟨z1, p2, V2, F2, D2, S2, N2, z2, z3, Gnd_X z4 (by omega) hT (fun a a1 a2 => hIo a (by omega) (by omega) (by omega) (by omega) (by omega) (by omega) (by omega) (by omega) (by omega) (by omega) (by omega) (by omega)) (fun a a1 a2 => hRo a (by omega) (by omega)) (fun a a1 a2 => hRo a (by omega) (by omega)) hP, z5⟩
  have rf : ∀ a, 31 < a → a + 10 < n → a ≠ g → RfG n T R a → RfG (n + 3) T' R' a := by
    intro a a1 a2 a3 hr l hl
    rw [hRo (a + 10) a2 (by omega)]
    rcases hr l hl with z | ⟨q, z1, z2, z3, z4⟩
    · exact Or.inl z
    · exact Or.inr ⟨q, z1, by omega, z3, by rw [hT q z2]; exact z4⟩
  have hnb : n + 3 ≤ 98 + 16 * (c + 1) := by omega
  have hub : u' ≤ 60000 + 600 * (c + 1) := by
    have e : 60000 + 600 * (c + 1) = (60000 + 600 * c) + 600 := by rw [Nat.mul_add, ← Nat.add_assoc]
    rw [e]
    exact Nat.le_trans hu' (Nat.add_le_add_right s3 600)
  refine ⟨⟨hS', hnb, hub⟩, ?_, hWf, hGnd, ?_, ⟨old 0 (by decide) s8.1, old 1 (by decide) s8.2.1, ?_, ?_⟩, ⟨0, by decide, h0, h13, fun k hk => absurd hk (Nat.not_lt_zero k)⟩, hsm, Drn_cg s11 (lo2 43 (by decide) (by omega)) (lo2 47 (by decide) (by omega)) (lo2 48 (by decide) (by omega)) (lo2 45 (by decide) (by omega)) (lo2 97 (by decide) (by omega)) h54 h55, hJ3⟩
  · unfold GH at s4 ⊢
    rw [rlo 54 (by decide) (by omega), rlo 0 (by decide) (by omega)]
    exact s4
  · exact Und_cg s7 (by rw [lo2 h (by omega) (by omega)]) (by rw [lo2 h (by omega) (by omega)]) (lo2 (h + 1) (by omega) (by omega)) h8 (lo2 74 (by decide) (by omega)) (lo2 75 (by decide) (by omega)) (fun k hk => r71 k (by omega) (by omega)) d8 f4 v5
  · rw [rlo 25 (by decide) (by omega)]
    exact s8.2.2.1
  · intro a ha
    rw [rlo 25 (by decide) (by omega)] at ha
    have hra := s8.2.2.2 a ha
    have img : ∀ k2, k2 ≤ 1 → R 25 k2 = some a → 97 < a ∧ a + 10 < n := by
      intro k2 hk2 h2
      have hi : Img n T I R k2 := by
        have : k2 = 0 ∨ k2 = 1 := by omega
        rcases this with rfl | rfl
        · exact s8.1
        · exact s8.2.1
      rcases hi with ⟨-, z⟩ | ⟨-, p2, V2, F2, D2, S2, N2, z2, z3, z4, -⟩
      · rw [z] at h2
        cases h2
      · rw [z2] at h2
        cases h2
        have := z4.1.2.1.1.2
        omega
    have ab : 31 < a ∧ a + 10 < n := by
      rcases ha with z | z | z | z
      · omega
      · omega
      · have := img 0 (by decide) z
        omega
      · have := img 1 (by decide) z
        omega
    by_cases e : a = g
    · intro l hl
      rw [e]
      by_cases el : l = N
      · rw [el, hR1]
        obtain ⟨ls, lc, hp1, -⟩ := hPr
        exact Or.inr ⟨n, rfl, by omega, by omega, hp1.1⟩
      · rw [hR2 l el]
        rw [e] at hra
        rcases hra l hl with z | ⟨q, z1, z2, z3, z4⟩
        · exact Or.inl z
        · exact Or.inr ⟨q, z1, by omega, z3, by rw [hT q z2]; exact z4⟩
    · exact rf a ab.1 ab.2 e hra
end LW1
