/-! calls: image -/
section IM
variable {O : mO} {c d u n n' : Nat} {T T' : Nat → mT} {I I' : Nat → Nat → Int32} {J : Nat → Nat → Int64} {R R' : Nat → Nat → Option Nat} {g h p q V F D S N x s k ls lc : Nat} {w w' : Nat → Int32} {K : mH}
theorem IsG_T (hG : IsG n T R p) {j : Nat} (h1 : 1 ≤ j) (h2 : j ≤ 10) : (T (p + j)).1 < 100 := by
  obtain ⟨-, ⟨t1, t2, t3, t4, t5, t6, t7, t8, t9, t10⟩, -⟩ := hG
  have : j = 1 ∨ j = 2 ∨ j = 3 ∨ j = 4 ∨ j = 5 ∨ j = 6 ∨ j = 7 ∨ j = 8 ∨ j = 9 ∨ j = 10 := by omega
  rcases this with rfl | rfl | rfl | rfl | rfl | rfl | rfl | rfl | rfl | rfl
  · rw [t1]; decide
  · rw [t2]; decide
  · rw [t3]; decide
  · rw [t4]; decide
  · rw [t5]; decide
  · rw [t6]; decide
  · rw [t7]; decide
  · rw [t8]; decide
  · rw [t9]; decide
  · rw [t10]; decide
theorem dis_GG (h1 : IsG n T R p) (h2 : IsG n T R q) (hne : p ≠ q) : p + 10 < q ∨ q + 10 < p := by
  have a1 : (T p).1 = 102 := by rw [h1.1.1]
  have a2 : (T q).1 = 102 := by rw [h2.1.1]
  by_cases e1 : p < q
  · by_cases e2 : p + 10 < q
    · exact Or.inl e2
    · have := IsG_T h1 (j := q - p) (by omega) (by omega)
      rw [show p + (q - p) = q by omega] at this
      omega
  · by_cases e2 : q + 10 < p
    · exact Or.inr e2
    · have := IsG_T h2 (j := p - q) (by omega) (by omega)
      rw [show q + (p - q) = p by omega] at this
      omega
theorem dis_GP (h1 : IsG n T R p) (h2 : IsP n T R q ls lc) : q + 2 < p ∨ p + 10 < q := by
  have a1 : (T p).1 = 102 := by rw [h1.1.1]
  have b0 : (T q).1 = 105 := by rw [h2.1]
  have b1 : (T (q + 1)).1 = 0 := by rw [h2.2.1]
  have b2 : (T (q + 2)).1 = 0 := by rw [h2.2.2.1]
  by_cases e1 : p ≤ q
  · by_cases e2 : p + 10 < q
    · exact Or.inr e2
    · by_cases e3 : p = q
      · rw [e3] at a1
        omega
      · have := IsG_T h1 (j := q - p) (by omega) (by omega)
        rw [show p + (q - p) = q by omega] at this
        omega
  · by_cases e2 : q + 2 < p
    · exact Or.inl e2
    · have : p = q + 1 ∨ p = q + 2 := by omega
      rcases this with e | e
      · rw [e] at a1
        omega
      · rw [e] at a1
        omega
/-- a ground, where the heap has grown and others have changed -/
theorem Gnd_X (hG : Gnd n T I R g w V F D S N) (hle : n ≤ n') (hT : ∀ a, a < n → T' a = T a) (hI : ∀ a, g ≤ a → a ≤ g + 10 → I' a = I a) (hR : ∀ a, g ≤ a → a ≤ g + 10 → R' a = R a) (hC : ∀ a, 28 ≤ a → a ≤ 31 → R' a = R a) (hP : ∀ q ls lc, 97 < q → IsP n T R q ls lc → (I' q = I q ∧ I' (q + 1) = I (q + 1) ∧ I' (q + 2) = I (q + 2)) ∧ R' q = R q) : Gnd n' T' I' R' g w V F D S N := by
  have e0 := hI g (by omega) (by omega)
  have e1 := hI (g + 1) (by omega) (by omega)
  have e2 := hI (g + 2) (by omega) (by omega)
  have e3 := hI (g + 3) (by omega) (by omega)
  have e4 := hI (g + 4) (by omega) (by omega)
  have e5 := hI (g + 5) (by omega) (by omega)
  have e6 := hI (g + 6) (by omega) (by omega)
  have e7 := hI (g + 7) (by omega) (by omega)
  have e8 := hI (g + 8) (by omega) (by omega)
  have e9 := hI (g + 9) (by omega) (by omega)
  have r0 := hR g (by omega) (by omega)
  have r10 := hR (g + 10) (by omega) (by omega)
  have gn := hG.1.2.1.1.2
  unfold Gnd GrN IsC IsG at hG ⊢
  rw [e0, e1, e2, e3, e4, e5, e6, e7, e8, e9, r0, r10, hC 28 (by omega) (by omega), hC 30 (by omega) (by omega), hT 28 (by omega), hT 29 (by omega), hT 30 (by omega), hT 31 (by omega), hT g (by omega), hT (g + 1) (by omega), hT (g + 2) (by omega), hT (g + 3) (by omega), hT (g + 4) (by omega), hT (g + 5) (by omega), hT (g + 6) (by omega), hT (g + 7) (by omega), hT (g + 8) (by omega), hT (g + 9) (by omega), hT (g + 10) (by omega)]
  obtain ⟨⟨⟨x1, x2, x3⟩, ⟨⟨y1, y2⟩, y3⟩, z⟩, q1, q2, q3, q4, q5, q6, q7, q8, q9, q10, q11, ql⟩ := hG
  refine ⟨⟨⟨x1, x2, by omega⟩, ⟨⟨y1, by omega⟩, y3⟩, z⟩, q1, q2, q3, q4, q5, q6, q7, q8, q9, q10, q11, fun l hl => ?_⟩
  obtain ⟨p, sc, cc, h1, h2, h3, h4⟩ := ql l hl
  obtain ⟨ls, lc, hp, h3⟩ := h3
  obtain ⟨⟨p0, p1, p2⟩, pr⟩ := hP p ls lc h2 hp
  have pn : p + 3 ≤ n := hp.2.2.2.2.2.1
  refine ⟨p, sc, cc, h1, h2, ⟨ls, lc, ?_, ?_⟩, ?_⟩
  · unfold IsP at hp ⊢
    rw [hT p (by omega), hT (p + 1) (by omega), hT (p + 2) (by omega), pr]
    obtain ⟨k1, k2, k3, k4, k5, k6, k7⟩ := hp
    exact ⟨k1, k2, k3, k4, k5, by omega, k7⟩
  · rw [p0, p1, p2]
    exact h3
  · unfold LwEq at h4 ⊢
    rw [p0, p1, p2]
    exact h4
theorem RfL_25 : ∀ p ∈ RfL, p.1 < 98 ∧ p.1 ≠ 25 ∧ p.1 ≠ 42 ∧ p.1 ≠ 53 ∧ p.1 ≠ 68 := by decide
/-- the reference's image -/
theorem m_img (hS : St n T R) (hk : k ≤ 1) : ∃ r, lupF (fun (q : Int32 × mH) => F_X11_image_l23 O d 69 (nI k) q.1 q.2) FU (nI 0, hp u n T I J R) = some r ∧ (fun r => ∃ I2, r = hp u n T I2 J R ∧ (∀ a, a ≠ 72 → I2 a = I a) ∧ (∀ j, j < 5510 → I2 72 (5510 * k + j) = I 71 j) ∧ ∀ j, j < 5510 * k ∨ 5510 * k + 5510 ≤ j → I2 72 j = I 72 j) r := by
  refine lup_P0 (fun m s => ∃ I2, s = (nI m, hp u n T I2 J R) ∧ (∀ a, a ≠ 72 → I2 a = I a) ∧ (∀ j, j < m → I2 72 (5510 * k + j) = I 71 j) ∧ ∀ j, j < 5510 * k ∨ 5510 * k + 5510 ≤ j → I2 72 j = I 72 j) _ (N := 5510) (by omega) ⟨_, rfl, fun _ _ => rfl, fun j hj => absurd hj (Nat.not_lt_zero j), fun _ _ => rfl⟩ ?_ ?_
  · intro m s hm ⟨I2, hs, b1, b2, b3⟩
    subst hs
    left
    have e71 : I2 71 m = I 71 m := by rw [b1 71 (by decide)]
    refine ⟨(nI (m + 1), hp u n T (up2 I2 72 (5510 * k + m) (I 71 m)) J R), ?_, _, rfl, fun a ha => by rw [up2_off _ _ _ ha]; exact b1 a ha, fun j hj => ?_, fun j hj => by rw [up2_nk (by omega)]; exact b3 j hj⟩
    · dsimp only
      unfold F_X11_image_l23
      rw [if_neg (nI_ge hm (by omega))]
      simp (disch := first | assumption | omega) only [vc_69, gi_69_0, pi_69_0, gi_69_1, pi_69_1, ga_69_2, ga_69_3, ga_69_4, ga_69_5, ga_69_6, ga_69_7, gi_69_8, pi_69_8, ga_69_9, ga_69_10, gi_69_11, pi_69_11, ga_69_12, gi_69_13, pi_69_13, gi_69_14, pi_69_14, gi_69_15, pi_69_15, gi_69_16, pi_69_16, gj_69_17, pj_69_17, gi_69_18, pi_69_18, gi_69_19, pi_69_19, gi_69_20, pi_69_20, gi_69_21, pi_69_21, ga_69_22, gi_69_23, pi_69_23, ga_69_24, ga_69_25, gi_69_26, pi_69_26, ga_69_27, ga_69_28, gi_69_29, pi_69_29, gi_69_30, pi_69_30, ga_69_31, ga_69_32, ga_69_33, gi_69_34, pi_69_34, ga_69_35, ga_69_36, ga_69_37, gi_69_38, pi_69_38, gj_69_39, pj_69_39, gj_69_40, pj_69_40, ga_69_41, ga_69_42, ga_69_43, ga_69_44, ga_69_45, ga_69_46, ga_69_47, gi_69_48, pi_69_48, gi_69_49, pi_69_49, gi_69_50, pi_69_50, gi_69_51, pi_69_51, gj_69_52, pj_69_52, ga_69_53, gi_69_54, pi_69_54, gi_69_55, pi_69_55, rd_71, wr_71, ln_71, rd_72, wr_72, ln_72, Option.bind_some, toI_i, toJ_j, toV_v, toR_r, up2_at, up2_na, up2_nk, up2_off, nI_add, nI_mul, nI_leI, nI_ltI, nI_eq, bI_eq0, e71]
    · by_cases e : j = m
      · rw [e, up2_at]
      · rw [up2_nk (by omega)]
        exact b2 j (by omega)
  · intro s ⟨I2, hs, b1, b2, b3⟩
    subst hs
    refine ⟨_, ?_, I2, rfl, b1, b2, b3⟩
    dsimp only
    unfold F_X11_image_l23
    rw [if_pos (nI_le (Nat.le_refl 5510) (by omega))]
/-- writing into the images -/
theorem wrR4_hp {a L j q : Nat} (hT : T a = (4, [L])) (ha : a < n) (hn : n ≤ oB) (hL : L < 2 ^ 31) (hj : j < L) (hq : q < n) (hTq : T q = (100 + 2, kd2)) : wrR (hp u n T I J R) a (nI j) (some q) = some (hp u n T I J (up2 R a j (some q))) := by
  unfold wrR
  rw [hp_get ha, hT, show cel (4, [L]) (I a) (J a) (R a) = .inl (4, L, .inr (.inr (.inr (.inr (R a))))) from rfl]
  dsimp only
  rw [hp_get hq, hTq, cel_o]
  show (if a < oB ∧ q < oB ∧ _ ∧ mIdx (nI j) L = true then some (mpt _ a (.inl (4, L, .inr (.inr (.inr (.inr (va_up (R a) (nI j).toNatClampNeg (some q)))))))) else none) = _
  rw [if_pos ⟨Nat.lt_of_lt_of_le ha hn, Nat.lt_of_lt_of_le hq hn, Or.inl ⟨rfl, rfl⟩, (mIdx_nI rfl hj hL).1⟩, (mIdx_nI rfl hj hL).2, hp_up (I' := I) (J' := J) (R' := up2 R a j (some q)) (by rw [hT, up2_row]; rfl) (fun b hb => ⟨rfl, rfl, up2_off R j _ hb⟩)]
/-- all but the images' own, behind an image -/
theorem Iv_img {I3 : Nat → Nat → Int32} {J3 : Nat → Nat → Int64} {u' : Nat} (hI : IvW c u n T I J R g h V F D S N x s) (hk : k ≤ 1) (hle : n ≤ n') (hn' : n' ≤ 98 + 16 * (c + 1)) (hu' : u' ≤ 60000 + 600 * (c + 1)) (hnB : n' ≤ oB) (hT : ∀ a, a < n → T' a = T a) (hp97 : 97 < p) (hpd : ∀ k2, k2 ≤ 1 → k2 ≠ k → R 25 k2 ≠ some p) (hpn : p + 11 ≤ n') (hpo : p + 11 ≤ n → IsG n T R p) (hpp : p < n → p + 11 ≤ n)
    (hRo : ∀ a, a < n → a ≠ 25 → a ≠ p + 10 → R' a = R a) (hR25 : R' 25 k = some p) (hR25o : ∀ j, j ≠ k → R' 25 j = R 25 j) (hrf : RfG n' T' R' p)
    (hIo : ∀ a, a < n → (a < p ∨ p + 10 < a) → a ≠ 0 → a ≠ 69 → a ≠ 72 → a ≠ 73 → I3 a = I a) (h0 : ∀ j, j ≠ 16 → I3 0 j = I 0 j) (h016 : I3 0 16 = nI 0) (h69 : ∀ j, j ≠ 0 → j ≠ 1 → I3 69 j = I 69 j) (h691 : I3 69 1 = nI 0) (h73 : I3 73 k = nI 1) (h73o : ∀ j, j ≠ k → I3 73 j = I 73 j) (h72 : ∀ j, j < 5510 → I3 72 (5510 * k + j) = I 71 j) (h72o : ∀ j, j < 5510 * k ∨ 5510 * k + 5510 ≤ j → I3 72 j = I 72 j)
    (hgp : Gnd n' T' I3 R' p (I 71) V F D S N) (hJ3 : Cns J3) : IvW (c + 1) u' n' T' I3 J3 R' g h V F D S N x s := by
  have hg := Iv_g hI
  obtain ⟨⟨s1, s2, s3⟩, s4, s5, s6, s7, s8, s9, s10, s11, s12⟩ := hI
  have n98 : 98 ≤ n := s1.1.1
  have lo : ∀ a, a < 98 → a ≠ 0 → a ≠ 69 → a ≠ 72 → a ≠ 73 → I3 a = I a := fun a z0 z1 z2 z3 z4 => hIo a (by omega) (by omega) z1 z2 z3 z4
  have rlo : ∀ a, a < 98 → a ≠ 25 → R' a = R a := fun a z0 z1 => hRo a (by omega) z1 (by omega)
  have hP : ∀ q ls lc, 97 < q → IsP n T R q ls lc → (I3 q = I q ∧ I3 (q + 1) = I (q + 1) ∧ I3 (q + 2) = I (q + 2)) ∧ R' q = R q := by
    intro q ls lc hq hqp
    have qn : q + 3 ≤ n := hqp.2.2.2.2.2.1
    have dj : q + 2 < p ∨ p + 10 < q := by
      by_cases e : p < n
      · exact dis_GP (hpo (hpp e)) hqp
      · left
        omega
    exact ⟨⟨hIo q (by omega) (by omega) (by omega) (by omega) (by omega) (by omega), hIo (q + 1) (by omega) (by omega) (by omega) (by omega) (by omega) (by omega), hIo (q + 2) (by omega) (by omega) (by omega) (by omega) (by omega) (by omega)⟩, hRo q (by omega) (by omega) (by omega)⟩
  have e71 : I3 71 = I 71 := lo 71 (by decide) (by decide) (by decide) (by decide) (by decide)
  have hS' : St n' T' R' := ⟨⟨by omega, fun a ha => by rw [hT a (by omega)]; exact s1.1.2 a ha⟩, hnB, fun q hq => by
    have := RfL_25 q hq
    rw [rlo q.1 (by omega) (by omega)]
    exact s1.2.2 q hq⟩
  have old : ∀ k2, k2 ≤ 1 → k2 ≠ k → Img n T I R k2 → Img n' T' I3 R' k2 := by
    intro k2 hk2 hne hi
    unfold Img at hi ⊢
    rw [h73o k2 hne, hR25o k2 hne]
    rcases hi with z | ⟨z1, p2, V2, F2, D2, S2, N2, z2, z3, z4, z5⟩
    · exact Or.inl z
    · right
      have row : ∀ i, i < 5510 → (fun i => I3 72 (5510 * k2 + i)) i = (fun i => I 72 (5510 * k2 + i)) i := fun i hi => h72o _ (by omega)
      have dj : p + 10 < p2 ∨ p2 + 10 < p := by
        by_cases e : p < n
        · refine dis_GG (hpo (hpp e)) z4.1.2.1 ?_
          intro e2
          rw [← e2] at z2
          exact hpd k2 hk2 hne z2
        · have := z4.1.2.1.1.2
          omega
      have p2n := z4.1.2.1.1.2
      have g2 : Gnd n' T' I3 R' p2 (fun i => I 72 (5510 * k2 + i)) V2 F2 D2 S2 N2 := Gnd_X z4 hle hT (fun a a1 a2 => hIo a (by omega) (by omega) (by omega) (by omega) (by omega) (by omega)) (fun a a1 a2 => hRo a (by omega) (by omega) (by omega)) (fun a a1 a2 => rlo a (by omega) (by omega)) hP
      refine ⟨z1, p2, V2, F2, D2, S2, N2, z2, z3, ?_, Wf_B row z5⟩
      exact Gnd_B g2 z5 row (St_C hS') g2.1.2.1 g2.1.2.2.1 g2.1.2.2.2.1 (fun _ _ _ => rfl) (fun _ _ => rfl) (fun _ _ => rfl) (fun _ _ => rfl) (fun _ _ => rfl) (fun _ _ => rfl) (fun _ _ => rfl) (fun _ _ => rfl) (fun _ _ => rfl) (fun _ _ => rfl) (fun _ _ => rfl) (fun _ _ => rfl) (fun _ _ => rfl)
  have new : Img n' T' I3 R' k := by
    right
    have row : ∀ i, i < 5510 → (fun i => I3 72 (5510 * k + i)) i = I 71 i := fun i hi => h72 i hi
    exact ⟨h73, p, V, F, D, S, N, hR25, hp97, Gnd_B hgp s5 row (St_C hS') hgp.1.2.1 hgp.1.2.2.1 hgp.1.2.2.2.1 (fun _ _ _ => rfl) (fun _ _ => rfl) (fun _ _ => rfl) (fun _ _ => rfl) (fun _ _ => rfl) (fun _ _ => rfl) (fun _ _ => rfl) (fun _ _ => rfl) (fun _ _ => rfl) (fun _ _ => rfl) (fun _ _ => rfl) (fun _ _ => rfl) (fun _ _ => rfl), Wf_B row s5⟩
  have rf : ∀ a, a < n → 31 < a → a + 10 < n → a + 10 ≠ 25 → a + 10 ≠ p + 10 → RfG n T R a → RfG n' T' R' a := by
    intro a a1 a2 a3 a4 a5 hr l hl
    rw [hRo (a + 10) a3 a4 a5]
    rcases hr l hl with z | ⟨q, z1, z2, z3, z4⟩
    · exact Or.inl z
    · exact Or.inr ⟨q, z1, by omega, z3, by rw [hT q z2]; exact z4⟩
  refine ⟨⟨hS', hn', hu'⟩, ?_, by rw [e71]; exact s5, ?_, ?_, ⟨?_, ?_, ?_, ?_⟩, ?_, ?_, ?_, hJ3⟩
  · unfold GH at s4 ⊢
    rw [rlo 54 (by decide) (by decide), rlo 0 (by decide) (by decide)]
    exact s4
  · rw [e71]
    exact Gnd_X s6 hle hT (fun a a1 a2 => lo a (by omega) (by omega) (by omega) (by omega) (by omega)) (fun a a1 a2 => rlo a (by omega) (by omega)) (fun a a1 a2 => rlo a (by omega) (by omega)) hP
  · unfold Und at s7 ⊢
    rw [lo h (by omega) (by omega) (by omega) (by omega) (by omega), lo (h + 1) (by omega) (by omega) (by omega) (by omega) (by omega), lo 74 (by decide) (by decide) (by decide) (by decide) (by decide), lo 75 (by decide) (by decide) (by decide) (by decide) (by decide), e71, h69 8 (by decide) (by decide)]
    exact s7
  · by_cases e : k = 0
    · subst e
      exact new
    · exact old 0 (by decide) (Ne.symm e) s8.1
  · by_cases e : k = 1
    · subst e
      exact new
    · exact old 1 (by decide) (Ne.symm e) s8.2.1
  · intro q q0 q1
    by_cases e : k = 0
    · subst e
      rw [hR25] at q0
      cases q0
      rw [hR25o 1 (by decide)] at q1
      exact hpd 1 (by decide) (by decide) q1
    · have e1 : k = 1 := by omega
      subst e1
      rw [hR25] at q1
      cases q1
      rw [hR25o 0 (by decide)] at q0
      exact hpd 0 (by decide) (by decide) q0
  · intro a ha
    have img : ∀ k2, k2 ≤ 1 → R' 25 k2 = some a → RfG n' T' R' a := by
      intro k2 hk2 h2
      by_cases e : k2 = k
      · subst e
        rw [hR25] at h2
        cases h2
        exact hrf
      · rw [hR25o k2 e] at h2
        have hi : Img n T I R k2 := by
          have : k2 = 0 ∨ k2 = 1 := by omega
          rcases this with rfl | rfl
          · exact s8.1
          · exact s8.2.1
        have hr : RfG n T R a := s8.2.2.2 a (by
          have : k2 = 0 ∨ k2 = 1 := by omega
          rcases this with rfl | rfl
          · exact Or.inr (Or.inr (Or.inl h2))
          · exact Or.inr (Or.inr (Or.inr h2)))
        rcases hi with ⟨-, z⟩ | ⟨-, p2, V2, F2, D2, S2, N2, z2, z3, z4, -⟩
        · rw [z] at h2
          cases h2
        · rw [z2] at h2
          cases h2
          have p2n := z4.1.2.1.1.2
          refine rf a (by omega) (by omega) (by omega) (by omega) ?_ hr
          intro e2
          have : a = p := by omega
          subst this
          exact hpd k2 hk2 e z2
    rcases ha with rfl | rfl | h2 | h2
    · exact rf 32 (by omega) (by decide) (by omega) (by decide) (by omega) (s8.2.2.2 32 (Or.inl rfl))
    · exact rf 58 (by omega) (by decide) (by omega) (by decide) (by omega) (s8.2.2.2 58 (Or.inr (Or.inl rfl)))
    · exact img 0 (by decide) h2
    · exact img 1 (by decide) h2
  · unfold Tap at s9 ⊢
    rw [lo 23 (by decide) (by decide) (by decide) (by decide) (by decide), lo 78 (by decide) (by decide) (by decide) (by decide) (by decide), h0 12 (by decide), h69 13 (by decide) (by decide)]
    exact s9
  · obtain ⟨⟨b1, b2, b3, b4, b5⟩, b6⟩ := s10
    rw [lo 24 (by decide) (by decide) (by decide) (by decide) (by decide), lo 70 (by decide) (by decide) (by decide) (by decide) (by decide)]
    exact ⟨⟨by rw [h0 13 (by decide), h69 18 (by decide) (by decide)]; exact b1, by rw [h0 14 (by decide), h69 50 (by decide) (by decide)]; exact b2, by rw [h0 15 (by decide), h69 11 (by decide) (by decide)]; exact b3, by rw [h016, h691], by rw [h69 20 (by decide) (by decide)]; exact b5⟩, b6⟩
  · exact Drn_cg s11 (lo 43 (by decide) (by decide) (by decide) (by decide) (by decide)) (lo 47 (by decide) (by decide) (by decide) (by decide) (by decide)) (lo 48 (by decide) (by decide) (by decide) (by decide) (by decide)) (lo 45 (by decide) (by decide) (by decide) (by decide) (by decide)) (lo 97 (by decide) (by decide) (by decide) (by decide) (by decide)) (h69 54 (by decide) (by decide)) (h69 55 (by decide) (by decide))
end IM
