/-! what holds goes on, where nothing of it is changed; the first calls -/
theorem Gnd_cg {n : Nat} {T : Nat → mT} {I I' : Nat → Nat → Int32} {R : Nat → Nat → Option Nat} {g : Nat} {w : Nat → Int32} {V F D S N : Nat} (hG : Gnd n T I R g w V F D S N) (h : ∀ a, (g ≤ a ∧ a ≤ g + 10) ∨ 98 ≤ a → I' a = I a) : Gnd n T I' R g w V F D S N := by
  have e0 := h g (by omega)
  have e1 := h (g + 1) (by omega)
  have e2 := h (g + 2) (by omega)
  have e3 := h (g + 3) (by omega)
  have e4 := h (g + 4) (by omega)
  have e5 := h (g + 5) (by omega)
  have e6 := h (g + 6) (by omega)
  have e7 := h (g + 7) (by omega)
  have e8 := h (g + 8) (by omega)
  have e9 := h (g + 9) (by omega)
  unfold Gnd GrN at hG ⊢
  rw [e0, e1, e2, e3, e4, e5, e6, e7, e8, e9]
  obtain ⟨q0, q1, q2, q3, q4, q5, q6, q7, q8, q9, q10, q11, ql⟩ := hG
  refine ⟨q0, q1, q2, q3, q4, q5, q6, q7, q8, q9, q10, q11, fun l hl => ?_⟩
  obtain ⟨p, sc, cc, h1, h2, h3, h4⟩ := ql l hl
  have p0 := h p (by omega)
  have p1 := h (p + 1) (by omega)
  have p2 := h (p + 2) (by omega)
  refine ⟨p, sc, cc, h1, h2, ?_, ?_⟩
  · unfold PrV at h3 ⊢
    rw [p0, p1, p2]
    exact h3
  · unfold LwEq at h4 ⊢
    rw [p0, p1, p2]
    exact h4
theorem Img_cg {n : Nat} {T : Nat → mT} {I I' : Nat → Nat → Int32} {R : Nat → Nat → Option Nat} (hG : Imgs n T I R) (h : ∀ a, a = 72 ∨ a = 73 ∨ 98 ≤ a → I' a = I a) : Imgs n T I' R := by
  have e2 := h 72 (by omega)
  have e3 := h 73 (by omega)
  have one : ∀ k, Img n T I R k → Img n T I' R k := by
    intro k hk
    unfold Img at hk ⊢
    rw [e2, e3]
    rcases hk with hk | ⟨h1, p, V, F, D, S, N, h2, h3, h4, h5⟩
    · exact Or.inl hk
    · exact Or.inr ⟨h1, p, V, F, D, S, N, h2, h3, Gnd_cg h4 (fun a ha => h a (by omega)), h5⟩
  exact ⟨one 0 hG.1, one 1 hG.2.1, hG.2.2⟩
theorem Drn_cg {I I' : Nat → Nat → Int32} (hD : Drn I (I 69) (I 97)) (h43 : I' 43 = I 43) (h47 : I' 47 = I 47) (h48 : I' 48 = I 48) (h45 : I' 45 = I 45) (h97 : I' 97 = I 97) (h54 : I' 69 54 = I 69 54) (h55 : I' 69 55 = I 69 55) : Drn I' (I' 69) (I' 97) := by
  unfold Drn at hD ⊢
  rw [h43, h47, h48, h45, h97, h54, h55]
  exact hD
/-- the cells that matter, but for 0, 24, 69, 70 -/
def rl (g h a : Nat) : Prop := a = 23 ∨ (71 ≤ a ∧ a ≤ 75) ∨ a = 78 ∨ a = 97 ∨ (g ≤ a ∧ a ≤ g + 10) ∨ a = h ∨ a = h + 1 ∨ (43 ≤ a ∧ a ≤ 53) ∨ 98 ≤ a
section IV
variable {c u n : Nat} {T : Nat → mT} {I I' : Nat → Nat → Int32} {J J' : Nat → Nat → Int64} {R : Nat → Nat → Option Nat} {g h V F D S N x s : Nat}
theorem Iv_cg (hI : IvW c u n T I J R g h V F D S N x s) (hr : ∀ a, rl g h a → I' a = I a) (h0 : I' 0 12 = I 0 12) (h8 : I' 69 8 = I 69 8) (h13 : I' 69 13 = I 69 13) (h54 : I' 69 54 = I 69 54) (h55 : I' 69 55 = I 69 55) (hs : Sml (I' 0) (I' 69) (I' 24) (I' 70)) (hJ : Cns J') : IvW (c + 1) u n T I' J' R g h V F D S N x s := by
  obtain ⟨⟨a1, a2, a3⟩, a4, a5, a6, a7, a8, a9, a10, a11, a12⟩ := hI
  unfold rl at hr
  have e71 := hr 71 (by omega)
  refine ⟨⟨a1, by omega, by omega⟩, a4, by rw [e71]; exact a5, by rw [e71]; exact Gnd_cg a6 (fun a ha => hr a (by omega)), ?_, Img_cg a8 (fun a ha => hr a (by omega)), ?_, hs, Drn_cg a11 (hr _ (by omega)) (hr _ (by omega)) (hr _ (by omega)) (hr _ (by omega)) (hr _ (by omega)) h54 h55, hJ⟩
  · unfold Und at a7 ⊢
    rw [hr h (by omega), hr (h + 1) (by omega), hr 74 (by omega), hr 75 (by omega), e71, h8]
    exact a7
  · unfold Tap at a9 ⊢
    rw [hr 23 (by omega), hr 78 (by omega), h0, h13]
    exact a9
theorem Iv_rd (hI : IvW c u n T I J R g h V F D S N x s) (hr : ∀ a, rl g h a ∨ a = 0 ∨ a = 24 ∨ a = 70 → I' a = I a) (h69 : ∀ k, k = 1 ∨ k = 8 ∨ k = 11 ∨ k = 13 ∨ k = 18 ∨ k = 20 ∨ k = 50 ∨ k = 54 ∨ k = 55 → I' 69 k = I 69 k) (hJ : Cns J') : IvW (c + 1) u n T I' J' R g h V F D S N x s := by
  refine Iv_cg hI (fun a ha => hr a (Or.inl ha)) (by rw [hr 0 (by omega)]) (h69 8 (by omega)) (h69 13 (by omega)) (h69 54 (by omega)) (h69 55 (by omega)) ?_ hJ
  have a10 := hI.2.2.2.2.2.2.2.1
  unfold Sml at a10 ⊢
  rw [hr 0 (by omega), hr 24 (by omega), hr 70 (by omega), h69 18 (by omega), h69 50 (by omega), h69 11 (by omega), h69 1 (by omega), h69 20 (by omega)]
  exact a10
theorem Iv_g (hI : IvW c u n T I J R g h V F D S N x s) : (g = 32 ∧ h = 26) ∨ (g = 58 ∧ h = 56) := by
  rcases hI.2.1.1 with ⟨h1, h2, -⟩ | ⟨h1, h2, -⟩
  · exact Or.inl ⟨h1, h2⟩
  · exact Or.inr ⟨h1, h2⟩
theorem Iv_thr (hI : IvW c u n T I J R g h V F D S N x s) (v : Int32) : IvW (c + 1) u n T (up2 I 69 0 v) J R g h V F D S N x s := by
  have := Iv_g hI
  refine Iv_rd hI (fun a ha => up2_off _ _ _ (by unfold rl at ha; omega)) (fun k hk => up2_nk (by omega)) hI.2.2.2.2.2.2.2.2.2
/-- both refuse -/
theorem Iv_ref (hI : IvW c u n T I J R g h V F D S N x s) (v : Int32) {pl r : Nat} (hp : (pl = 0 ∧ r = 1) ∨ (pl = 1 ∧ r = 2) ∨ (pl = 2 ∧ r = 3) ∨ (pl = 3 ∧ r = 5) ∨ (pl = 4 ∧ r = 6)) : IvW (c + 1) u n T (up2 (up2 (up2 (up2 (up2 I 0 16 v) 24 pl (I 24 pl + nI 1)) 69 0 (nI 0)) 69 1 v) 70 r (I 70 r + nI 1)) J R g h V F D S N x s := by
  have hg := Iv_g hI
  obtain ⟨⟨b1, b2, b3, b4, b5⟩, b6, b7, b8, b9, b10⟩ := hI.2.2.2.2.2.2.2.1
  refine Iv_cg hI (fun a ha => ?_) (by simp [up2]) (by simp [up2]) (by simp [up2]) (by simp [up2]) (by simp [up2]) ?_ hI.2.2.2.2.2.2.2.2.2
  · unfold rl at ha
    rw [up2_off _ _ _ (by omega), up2_off _ _ _ (by omega), up2_off _ _ _ (by omega), up2_off _ _ _ (by omega), up2_off _ _ _ (by omega)]
  · refine ⟨⟨by simp [up2, b1], by simp [up2, b2], by simp [up2, b3], by simp [up2], by simp [up2, b5]⟩, ?_⟩
    rcases hp with ⟨rfl, rfl⟩ | ⟨rfl, rfl⟩ | ⟨rfl, rfl⟩ | ⟨rfl, rfl⟩ | ⟨rfl, rfl⟩ <;> simp [up2, b6, b7, b8, b9, b10]
/-- both grant: their statuses -/
theorem Iv_gr (hI : IvW c u n T I J R g h V F D S N x s) : IvW (c + 1) u n T (up2 (up2 (up2 I 0 16 (nI 0)) 69 0 (nI 0)) 69 1 (nI 0)) J R g h V F D S N x s := by
  have hg := Iv_g hI
  obtain ⟨⟨b1, b2, b3, b4, b5⟩, b6⟩ := hI.2.2.2.2.2.2.2.1
  refine Iv_cg hI (fun a ha => ?_) (by simp [up2]) (by simp [up2]) (by simp [up2]) (by simp [up2]) (by simp [up2]) ?_ hI.2.2.2.2.2.2.2.2.2
  · unfold rl at ha
    rw [up2_off _ _ _ (by omega), up2_off _ _ _ (by omega), up2_off _ _ _ (by omega)]
  · refine ⟨⟨by simp [up2, b1], by simp [up2, b2], by simp [up2, b3], by simp [up2], by simp [up2, b5]⟩, ?_⟩
    simp [up2, b6]
end IV
def IvE (c u n : Nat) (T : Nat → mT) (I : Nat → Nat → Int32) (J : Nat → Nat → Int64) (R : Nat → Nat → Option Nat) : Prop := ∃ g h V F D S N x s, IvW c u n T I J R g h V F D S N x s
theorem IvW.e {c u n : Nat} {T : Nat → mT} {I : Nat → Nat → Int32} {J : Nat → Nat → Int64} {R : Nat → Nat → Option Nat} {g h V F D S N x s : Nat} (hI : IvW c u n T I J R g h V F D S N x s) : IvE c u n T I J R := ⟨g, h, V, F, D, S, N, x, s, hI⟩
/-- as Bo_of, with the heaps by numbers -/
theorem Bo_i {O : mO} {Mc Mm : mM} {as : List Value} {c : Nat} {K : mH} {a : Int32} {u1 n1 : Nat} {T1 : Nat → mT} {I1 I2 : Nat → Nat → Int32} {J1 J2 : Nat → Nat → Int64} {R1 : Nat → Nat → Option Nat} (h1 : ev O 200 Mc (.ref 0 :: as) K = some (some (.int a), hp u1 n1 T1 I1 J1 R1)) (hS : St n1 T1 R1) (h2 : ev O 200 Mm (.ref 69 :: as) (hp u1 n1 T1 I1 J1 R1) = some (some (.int a), hp u1 n1 T1 I2 J2 R1)) (h3 : IvE (c + 1) u1 n1 T1 I2 J2 R1) : Bo O Inv Mc Mm as c K := by
  obtain ⟨g, h, V, F, D, S, N, x, s, h3⟩ := h3
  exact Bo_of h1 hS h2 ⟨u1, n1, T1, I2, J2, R1, g, h, V, F, D, S, N, x, s, rfl, h3⟩
section B0
variable {O : mO} {c : Nat} {K : mH}
theorem b_status (hI : Inv c K) : Bo O Inv MX10_status MX11_status [] c K := by
  obtain ⟨u, n, T, I, J, R, g, h, V, F, D, S, N, x, s, rfl, hI⟩ := hI
  have hS := hI.1.1
  obtain ⟨⟨b1, b2, b3, b4, b5⟩, b6⟩ := hI.2.2.2.2.2.2.2.1
  refine Bo_i (u1 := u) (I1 := I) (J1 := J) (a := I 0 16) (e_X10_status (d := 199) ?_) hS (e_X11_status (d := 199) ?_) (Iv_thr hI (nI 0)).e
  · unfold F_X10_status
    simp only [vc_0, ga_0_0, ga_0_1, ga_0_2, ga_0_3, ga_0_4, ga_0_5, ga_0_6, ga_0_7, ga_0_8, ga_0_9, gi_0_12, pi_0_12, gi_0_13, pi_0_13, gi_0_14, pi_0_14, gi_0_15, pi_0_15, gi_0_16, pi_0_16, hS, Option.bind_some]
  · unfold F_X11_status
    simp only [vc_69, gi_69_0, pi_69_0, gi_69_1, pi_69_1, ga_69_2, ga_69_3, ga_69_4, ga_69_5, ga_69_6, ga_69_7, gi_69_8, pi_69_8, ga_69_9, ga_69_10, gi_69_11, pi_69_11, ga_69_12, gi_69_13, pi_69_13, gi_69_14, pi_69_14, gi_69_15, pi_69_15, gi_69_16, pi_69_16, gj_69_17, pj_69_17, gi_69_18, pi_69_18, gi_69_19, pi_69_19, gi_69_20, pi_69_20, gi_69_21, pi_69_21, ga_69_22, gi_69_23, pi_69_23, ga_69_24, ga_69_25, gi_69_26, pi_69_26, ga_69_27, ga_69_28, gi_69_29, pi_69_29, gi_69_30, pi_69_30, ga_69_31, ga_69_32, ga_69_33, gi_69_34, pi_69_34, ga_69_35, ga_69_36, ga_69_37, gi_69_38, pi_69_38, gj_69_39, pj_69_39, gj_69_40, pj_69_40, ga_69_41, ga_69_42, ga_69_43, ga_69_44, ga_69_45, ga_69_46, ga_69_47, gi_69_48, pi_69_48, gi_69_49, pi_69_49, gi_69_50, pi_69_50, gi_69_51, pi_69_51, gj_69_52, pj_69_52, ga_69_53, gi_69_54, pi_69_54, gi_69_55, pi_69_55, hS, Option.bind_some, up2_nk (show 1 ≠ 0 by decide), b4]
theorem b_fault (hI : Inv c K) : Bo O Inv MX10_fault MX11_fault [] c K := by
  obtain ⟨u, n, T, I, J, R, g, h, V, F, D, S, N, x, s, rfl, hI⟩ := hI
  have hS := hI.1.1
  obtain ⟨⟨b1, b2, b3, b4, b5⟩, b6⟩ := hI.2.2.2.2.2.2.2.1
  refine Bo_i (u1 := u) (I1 := I) (J1 := J) (a := I 0 13) (e_X10_fault (d := 199) ?_) hS (e_X11_fault (d := 199) ?_) (Iv_thr hI (nI 0)).e
  · unfold F_X10_fault
    simp only [vc_0, ga_0_0, ga_0_1, ga_0_2, ga_0_3, ga_0_4, ga_0_5, ga_0_6, ga_0_7, ga_0_8, ga_0_9, gi_0_12, pi_0_12, gi_0_13, pi_0_13, gi_0_14, pi_0_14, gi_0_15, pi_0_15, gi_0_16, pi_0_16, hS, Option.bind_some]
  · unfold F_X11_fault
    simp only [vc_69, gi_69_0, pi_69_0, gi_69_1, pi_69_1, ga_69_2, ga_69_3, ga_69_4, ga_69_5, ga_69_6, ga_69_7, gi_69_8, pi_69_8, ga_69_9, ga_69_10, gi_69_11, pi_69_11, ga_69_12, gi_69_13, pi_69_13, gi_69_14, pi_69_14, gi_69_15, pi_69_15, gi_69_16, pi_69_16, gj_69_17, pj_69_17, gi_69_18, pi_69_18, gi_69_19, pi_69_19, gi_69_20, pi_69_20, gi_69_21, pi_69_21, ga_69_22, gi_69_23, pi_69_23, ga_69_24, ga_69_25, gi_69_26, pi_69_26, ga_69_27, ga_69_28, gi_69_29, pi_69_29, gi_69_30, pi_69_30, ga_69_31, ga_69_32, ga_69_33, gi_69_34, pi_69_34, ga_69_35, ga_69_36, ga_69_37, gi_69_38, pi_69_38, gj_69_39, pj_69_39, gj_69_40, pj_69_40, ga_69_41, ga_69_42, ga_69_43, ga_69_44, ga_69_45, ga_69_46, ga_69_47, gi_69_48, pi_69_48, gi_69_49, pi_69_49, gi_69_50, pi_69_50, gi_69_51, pi_69_51, gj_69_52, pj_69_52, ga_69_53, gi_69_54, pi_69_54, gi_69_55, pi_69_55, hS, Option.bind_some, up2_nk (show 18 ≠ 0 by decide), b1]
theorem b_stopped (hI : Inv c K) : Bo O Inv MX10_stopped MX11_stopped [] c K := by
  obtain ⟨u, n, T, I, J, R, g, h, V, F, D, S, N, x, s, rfl, hI⟩ := hI
  have hS := hI.1.1
  obtain ⟨⟨b1, b2, b3, b4, b5⟩, b6⟩ := hI.2.2.2.2.2.2.2.1
  refine Bo_i (u1 := u) (I1 := I) (J1 := J) (a := I 0 14) (e_X10_stopped (d := 199) ?_) hS (e_X11_stopped (d := 199) ?_) (Iv_thr hI (nI 0)).e
  · unfold F_X10_stopped
    simp only [vc_0, ga_0_0, ga_0_1, ga_0_2, ga_0_3, ga_0_4, ga_0_5, ga_0_6, ga_0_7, ga_0_8, ga_0_9, gi_0_12, pi_0_12, gi_0_13, pi_0_13, gi_0_14, pi_0_14, gi_0_15, pi_0_15, gi_0_16, pi_0_16, hS, Option.bind_some]
  · unfold F_X11_stopped
    simp only [vc_69, gi_69_0, pi_69_0, gi_69_1, pi_69_1, ga_69_2, ga_69_3, ga_69_4, ga_69_5, ga_69_6, ga_69_7, gi_69_8, pi_69_8, ga_69_9, ga_69_10, gi_69_11, pi_69_11, ga_69_12, gi_69_13, pi_69_13, gi_69_14, pi_69_14, gi_69_15, pi_69_15, gi_69_16, pi_69_16, gj_69_17, pj_69_17, gi_69_18, pi_69_18, gi_69_19, pi_69_19, gi_69_20, pi_69_20, gi_69_21, pi_69_21, ga_69_22, gi_69_23, pi_69_23, ga_69_24, ga_69_25, gi_69_26, pi_69_26, ga_69_27, ga_69_28, gi_69_29, pi_69_29, gi_69_30, pi_69_30, ga_69_31, ga_69_32, ga_69_33, gi_69_34, pi_69_34, ga_69_35, ga_69_36, ga_69_37, gi_69_38, pi_69_38, gj_69_39, pj_69_39, gj_69_40, pj_69_40, ga_69_41, ga_69_42, ga_69_43, ga_69_44, ga_69_45, ga_69_46, ga_69_47, gi_69_48, pi_69_48, gi_69_49, pi_69_49, gi_69_50, pi_69_50, gi_69_51, pi_69_51, gj_69_52, pj_69_52, ga_69_53, gi_69_54, pi_69_54, gi_69_55, pi_69_55, hS, Option.bind_some, up2_nk (show 50 ≠ 0 by decide), b2]
theorem b_draughts (hI : Inv c K) : Bo O Inv MX10_draughts MX11_draughts [] c K := by
  obtain ⟨u, n, T, I, J, R, g, h, V, F, D, S, N, x, s, rfl, hI⟩ := hI
  have hS := hI.1.1
  obtain ⟨⟨b1, b2, b3, b4, b5⟩, b6⟩ := hI.2.2.2.2.2.2.2.1
  refine Bo_i (u1 := u) (I1 := I) (J1 := J) (a := I 0 15) (e_X10_draughts (d := 199) ?_) hS (e_X11_draughts (d := 199) ?_) (Iv_thr hI (nI 0)).e
  · unfold F_X10_draughts
    simp only [vc_0, ga_0_0, ga_0_1, ga_0_2, ga_0_3, ga_0_4, ga_0_5, ga_0_6, ga_0_7, ga_0_8, ga_0_9, gi_0_12, pi_0_12, gi_0_13, pi_0_13, gi_0_14, pi_0_14, gi_0_15, pi_0_15, gi_0_16, pi_0_16, hS, Option.bind_some]
  · unfold F_X11_draughts
    simp only [vc_69, gi_69_0, pi_69_0, gi_69_1, pi_69_1, ga_69_2, ga_69_3, ga_69_4, ga_69_5, ga_69_6, ga_69_7, gi_69_8, pi_69_8, ga_69_9, ga_69_10, gi_69_11, pi_69_11, ga_69_12, gi_69_13, pi_69_13, gi_69_14, pi_69_14, gi_69_15, pi_69_15, gi_69_16, pi_69_16, gj_69_17, pj_69_17, gi_69_18, pi_69_18, gi_69_19, pi_69_19, gi_69_20, pi_69_20, gi_69_21, pi_69_21, ga_69_22, gi_69_23, pi_69_23, ga_69_24, ga_69_25, gi_69_26, pi_69_26, ga_69_27, ga_69_28, gi_69_29, pi_69_29, gi_69_30, pi_69_30, ga_69_31, ga_69_32, ga_69_33, gi_69_34, pi_69_34, ga_69_35, ga_69_36, ga_69_37, gi_69_38, pi_69_38, gj_69_39, pj_69_39, gj_69_40, pj_69_40, ga_69_41, ga_69_42, ga_69_43, ga_69_44, ga_69_45, ga_69_46, ga_69_47, gi_69_48, pi_69_48, gi_69_49, pi_69_49, gi_69_50, pi_69_50, gi_69_51, pi_69_51, gj_69_52, pj_69_52, ga_69_53, gi_69_54, pi_69_54, gi_69_55, pi_69_55, hS, Option.bind_some, up2_nk (show 11 ≠ 0 by decide), b3]
end B0
