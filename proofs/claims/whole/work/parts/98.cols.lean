/-! columns are laid -/
def rmV (I : Nat → Nat → Int32) (j : Nat) : Nat := (I 15 j).toNatClampNeg
/-- the columns so far -/
def CLm (V c : Nat) (I : Nat → Nat → Int32) (J : Nat → Nat → Int64) : Prop :=
  (I 10 11 = nI c) ∧
  (∀ j, 1 ≤ j → j ≤ c → I 15 j = nI (rmV I j) ∧ (rmV I j < V ∨ rmV I j = 5)) ∧
  (∀ j, 1 ≤ j → j ≤ c → I 16 j = nI 0) ∧
  (∀ j, 1 ≤ j → j ≤ c → (J 18 j).toInt = 0)
theorem CLm.n {V c : Nat} {I : Nat → Nat → Int32} {J : Nat → Nat → Int64} (h : CLm V c I J) : I 10 11 = nI c := h.1
theorem CLm.v {V c : Nat} {I : Nat → Nat → Int32} {J : Nat → Nat → Int64} (h : CLm V c I J) : ∀ j, 1 ≤ j → j ≤ c → I 15 j = nI (rmV I j) ∧ (rmV I j < V ∨ rmV I j = 5) := h.2.1
theorem CLm.m {V c : Nat} {I : Nat → Nat → Int32} {J : Nat → Nat → Int64} (h : CLm V c I J) : ∀ j, 1 ≤ j → j ≤ c → I 16 j = nI 0 := h.2.2.1
theorem CLm.w {V c : Nat} {I : Nat → Nat → Int32} {J : Nat → Nat → Int64} (h : CLm V c I J) : ∀ j, 1 ≤ j → j ≤ c → (J 18 j).toInt = 0 := h.2.2.2
/-- so many columns -/
def nCo (fb : Nat → Nat) : Nat → Nat
  | 0 => 0
  | v + 1 => nCo fb v + fb v
section COL
variable {O : mO} {d u n : Nat} {T : Nat → mT} {I : Nat → Nat → Int32} {J : Nat → Nat → Int64} {R : Nat → Nat → Option Nat} {g V F D S N c r : Nat} {w : Nat → Int32}
theorem nCo_le {fb : Nat → Nat} : ∀ V, (∀ v, v < V → fb v ≤ 3) → nCo fb V ≤ 3 * V
  | 0, _ => Nat.le_refl 0
  | V + 1, h => by
    have ih := nCo_le V (fun v hv => h v (by omega))
    have := h V (by omega)
    show nCo fb V + fb V ≤ _
    omega
theorem c_addCol {v m : Nat} (hS : St n T R) (hv : v < V ∨ v = 5) (h5 : V ≤ 5) (hc : CLm V c I J) (hm : c + m ≤ 23) : ∃ I' J', ev O (d + 1) MX7_addColumns [.ref 10, .int (nI v), .int (nI m)] (hp u n T I J R) = some (none, hp u n T I' J' R) ∧ (∀ a, a ≠ 10 → a ≠ 15 → a ≠ 16 → I' a = I a) ∧ (∀ q, q ≠ 11 → I' 10 q = I 10 q) ∧ (∀ a, a ≠ 18 → J' a = J a) ∧ CLm V (c + m) I' J' ∧ ∀ f : Nat → Int, smI (fun j => f (rmV I' (j + 1))) (c + m) = smI (fun j => f (rmV I (j + 1))) c + (m : Int) * f v := by
  have LL : ∃ z, lupF (fun (q : Int32 × mH) => F_X7_addColumns_l2 O d 10 (nI v) (nI m) q.1 q.2) FU (nI 0, hp u n T I J R) = some z ∧ (fun z => ∃ I' J', z = hp u n T I' J' R ∧ (∀ a, a ≠ 10 → a ≠ 15 → a ≠ 16 → I' a = I a) ∧ (∀ q, q ≠ 11 → I' 10 q = I 10 q) ∧ (∀ a, a ≠ 18 → J' a = J a) ∧ CLm V (c + m) I' J' ∧ (∀ j, j ≤ c → I' 15 j = I 15 j) ∧ ∀ j, c < j → j ≤ c + m → rmV I' j = v) z := by
    refine lup_P0 (fun k z => ∃ I' J', z = (nI k, hp u n T I' J' R) ∧ (∀ a, a ≠ 10 → a ≠ 15 → a ≠ 16 → I' a = I a) ∧ (∀ q, q ≠ 11 → I' 10 q = I 10 q) ∧ (∀ a, a ≠ 18 → J' a = J a) ∧ CLm V (c + k) I' J' ∧ (∀ j, j ≤ c → I' 15 j = I 15 j) ∧ ∀ j, c < j → j ≤ c + k → rmV I' j = v) _ (N := m) (by omega) ⟨I, J, rfl, fun _ _ _ _ => rfl, fun _ _ => rfl, fun _ _ => rfl, hc, fun _ _ => rfl, fun j h1 h2 => by omega⟩ ?_ ?_
    · intro k z hk ⟨I1, J1, hz, o1, o2, o3, cl, e1, e2⟩
      subst hz
      left
      have i11 := cl.n
      have v5 : v ≤ 5 := by omega
      refine ⟨(nI (k + 1), hp u n T (up2 (up2 (up2 I1 10 11 (nI (c + k + 1))) 15 (c + k + 1) (nI v)) 16 (c + k + 1) (nI 0)) (up2 J1 18 (c + k + 1) 0) R), ?_, _, _, rfl, fun a h1 h2 h3 => by rw [up2_off _ _ _ h3, up2_off _ _ _ h2, up2_off _ _ _ h1]; exact o1 a h1 h2 h3, fun q hq => by rw [up2_na (by decide), up2_na (by decide), up2_nk hq]; exact o2 q hq, fun a ha => by rw [up2_off _ _ _ ha]; exact o3 a ha, ⟨?_, fun j j1 j2 => ?_, fun j j1 j2 => ?_, fun j j1 j2 => ?_⟩, fun j hj => ?_, fun j j1 j2 => ?_⟩
      · dsimp only
        unfold F_X7_addColumns_l2
        rw [if_neg (nI_ge hk (by omega)), gi_10_11 hS, Option.bind_some, i11, if_neg (nI_ge (by omega) (by omega)), Option.bind_some, nI_add, pi_10_11 hS, Option.bind_some, ga_10_4 hS, Option.bind_some, gi_10_11 hS, Option.bind_some, up2_at, wr_15 hS (by omega), Option.bind_some, ga_10_5 hS, Option.bind_some, gi_10_11 hS, Option.bind_some, up2_na (by decide), up2_at, wr_16 hS (by omega), Option.bind_some, ga_10_7 hS, Option.bind_some, gi_10_11 hS, Option.bind_some, up2_na (by decide), up2_na (by decide), up2_at, wr_18 hS (by omega), Option.bind_some, nI_add]
      · rw [up2_na (by decide), up2_na (by decide), up2_at]
        rfl
      · unfold rmV
        rw [up2_na (by decide)]
        by_cases e : j = c + k + 1
        · rw [e, up2_at, nI_clamp (by omega)]
          exact ⟨rfl, hv⟩
        · rw [up2_nk e, up2_na (by decide)]
          exact cl.v j j1 (by omega)
      · by_cases e : j = c + k + 1
        · rw [e, up2_at]
        · rw [up2_nk e, up2_na (by decide), up2_na (by decide)]
          exact cl.m j j1 (by omega)
      · by_cases e : j = c + k + 1
        · rw [e, up2_at]
          rfl
        · rw [up2_nk e]
          exact cl.w j j1 (by omega)
      · rw [up2_na (by decide), up2_nk (by omega), up2_na (by decide)]
        exact e1 j hj
      · unfold rmV
        rw [up2_na (by decide)]
        by_cases e : j = c + k + 1
        · rw [e, up2_at, nI_clamp (by omega)]
        · rw [up2_nk e, up2_na (by decide)]
          exact e2 j j1 (by omega)
    · intro z ⟨I1, J1, hz, o1, o2, o3, cl, e1, e2⟩
      subst hz
      refine ⟨_, ?_, I1, J1, rfl, o1, o2, o3, cl, e1, e2⟩
      dsimp only
      unfold F_X7_addColumns_l2
      rw [if_pos (nI_le (Nat.le_refl m) (by omega))]
  obtain ⟨z, e, I1, J1, hz, o1, o2, o3, cl, e1, e2⟩ := LL
  refine ⟨I1, J1, e_X7_addColumns ?_, o1, o2, o3, cl, fun f => ?_⟩
  · unfold F_X7_addColumns
    rw [e, hz]
    rfl
  · rw [smI_app, smI_cg (f := fun j => f (rmV I1 (j + 1))) (g := fun j => f (rmV I (j + 1))) (fun j hj => by unfold rmV; rw [e1 _ (by omega)]), smI_cg (f := fun i => f (rmV I1 (c + i + 1))) (g := fun _ => f v) (fun i hi => by rw [e2 _ (by omega) (by omega)]), smI_c]
/-- all columns -/
theorem c_setCols (hS : St n T R) (hG : Gnd n T I R g w V F D S N) (hw : Wf w V F D S N) (hr : I 10 10 = nI r) (hr8 : r ≤ 8) : ∃ I' J' c, ev O (d + 2) MX7_setColumns [.ref 10, .ref g] (hp u n T I J R) = some (none, hp u n T I' J' R) ∧ (∀ a, a ≠ 10 → a ≠ 15 → a ≠ 16 → I' a = I a) ∧ (∀ q, q ≠ 11 → I' 10 q = I 10 q) ∧ (∀ a, a ≠ 18 → J' a = J a) ∧ CLm V c I' J' ∧ c ≤ 23 ∧ r ≤ c ∧ ∀ f : Nat → Int, smI (fun j => f (rmV I' (j + 1))) c = smI (fun v => (rmB w D v : Int) * f v) V + (r : Int) * f 5 := by
  have hn := hS.2.1
  have h8 := hw.1
  have h31 := hG.1.2.2.1
  have b3 : ∀ v, v < V → rmB w D v ≤ 3 := fun v hv => by
    have := (pkB_n hw hv).2
    unfold rmB
    omega
  have nc : ∀ k, k ≤ V → nCo (rmB w D) k ≤ 3 * k := fun k hk => nCo_le k (fun v hv => b3 v (by omega))
  have LL : ∃ z, lupF (fun (q : Int32 × mH) => F_X7_setColumns_l7 O (d + 1) 10 g q.1 q.2) FU (nI 0, hp u n T (up2 I 10 11 (nI 0)) J R) = some z ∧ (fun z => ∃ I1 J1, z = hp u n T I1 J1 R ∧ (∀ a, a ≠ 10 → a ≠ 15 → a ≠ 16 → I1 a = I a) ∧ (∀ q, q ≠ 11 → I1 10 q = I 10 q) ∧ (∀ a, a ≠ 18 → J1 a = J a) ∧ CLm V (nCo (rmB w D) V) I1 J1 ∧ ∀ f : Nat → Int, smI (fun j => f (rmV I1 (j + 1))) (nCo (rmB w D) V) = smI (fun v => (rmB w D v : Int) * f v) V) z := by
    refine lup_P0 (fun k z => ∃ I1 J1, z = (nI k, hp u n T I1 J1 R) ∧ (∀ a, a ≠ 10 → a ≠ 15 → a ≠ 16 → I1 a = I a) ∧ (∀ q, q ≠ 11 → I1 10 q = I 10 q) ∧ (∀ a, a ≠ 18 → J1 a = J a) ∧ CLm V (nCo (rmB w D) k) I1 J1 ∧ ∀ f : Nat → Int, smI (fun j => f (rmV I1 (j + 1))) (nCo (rmB w D) k) = smI (fun v => (rmB w D v : Int) * f v) k) _ (N := V) (by omega) ⟨_, J, rfl, fun a h1 _ _ => up2_off _ _ _ h1, fun q hq => up2_nk hq, fun _ _ => rfl, ⟨up2_at _ _ _ _, fun j j1 j2 => by have : nCo (rmB w D) 0 = 0 := rfl; omega, fun j j1 j2 => by have : nCo (rmB w D) 0 = 0 := rfl; omega, fun j j1 j2 => by have : nCo (rmB w D) 0 = 0 := rfl; omega⟩, fun f => rfl⟩ ?_ ?_
    · intro k z hk ⟨I1, J1, hz, o1, o2, o3, cl, sm⟩
      subst hz
      left
      have hG1 : Gnd n T I1 R g w V F D S N := Gnd_cg hG (fun a ha => o1 a (by omega) (by omega) (by omega))
      obtain ⟨⟨x1, c2, x3, x4, x5, x6, x7, x8, x9, x10, x11, x12⟩, q1, q2, q3, q4, q5, q6, q7, q8, -⟩ := id hG1
      have fb := v_freeBeds (O := O) (d := d) (u := u) (I := I1) (J := J1) (v := nI k) c2 hn x5 x6 x9 x10
      obtain ⟨b, eb, b1, b2, b4⟩ := hw.2.2.2.1.2.2.2.2.2.2 k hk
      have eb : w (37 + k) = nI b := eb
      have pb : pkB w k = b := by unfold pkB; rw [nv_n eb (by omega)]
      have cc : cnt (I1 (g + 4)) (nI k) D = cnt (fun j => w (9 + j)) (nI k) D := cnt_cg (fun j hj => q6 j (by omega))
      rw [if_pos (inR_nI hk (by omega)), nI_clamp (by omega), q3 k (by omega), eb, cc, nI_sub b4] at fb
      have er : b - cnt (fun j => w (9 + j)) (nI k) D = rmB w D k := by unfold rmB; rw [pb]
      rw [er] at fb
      have bk := b3 k hk
      have nk := nc k (by omega)
      obtain ⟨I2, J2, e2, p1, p2, p3, p4, p5⟩ := c_addCol (O := O) (d := d) (u := u) (v := k) (m := rmB w D k) hS (Or.inl hk) h8.1 cl (by omega)
      refine ⟨(nI (k + 1), hp u n T I2 J2 R), ?_, I2, J2, rfl, fun a h1 h2 h3 => (p1 a h1 h2 h3).trans (o1 a h1 h2 h3), fun q hq => (p2 q hq).trans (o2 q hq), fun a ha => (p3 a ha).trans (o3 a ha), p4, fun f => ?_⟩
      · dsimp only
        unfold F_X7_setColumns_l7
        rw [gi_g_11 c2 hn, Option.bind_some, x5, if_neg (nI_ge hk (by omega)), vc_g c2 hn, fb, toI_i, Option.bind_some]
        dsimp only
        rw [vc_10 hS, e2, toV_v, Option.bind_some, nI_add]
      · show smI _ (nCo (rmB w D) k + rmB w D k) = _
        rw [p5, sm, smI_s]
    · intro z ⟨I1, J1, hz, o1, o2, o3, cl, sm⟩
      subst hz
      have hG1 : Gnd n T I1 R g w V F D S N := Gnd_cg hG (fun a ha => o1 a (by omega) (by omega) (by omega))
      refine ⟨_, ?_, I1, J1, rfl, o1, o2, o3, cl, sm⟩
      dsimp only
      unfold F_X7_setColumns_l7
      rw [gi_g_11 hG1.1.2.1 hn, Option.bind_some, hG1.1.2.2.2.2.1, if_pos (nI_le (Nat.le_refl V) (by omega))]
  obtain ⟨z, e, I1, J1, hz, o1, o2, o3, cl, sm⟩ := LL
  have nV := nc V (Nat.le_refl V)
  obtain ⟨I2, J2, e2, p1, p2, p3, p4, p5⟩ := c_addCol (O := O) (d := d) (u := u) (v := 5) (m := r) hS (Or.inr rfl) h8.1 cl (by omega)
  refine ⟨I2, J2, nCo (rmB w D) V + r, e_X7_setColumns (d := d + 1) ?_, fun a h1 h2 h3 => (p1 a h1 h2 h3).trans (o1 a h1 h2 h3), fun q hq => (p2 q hq).trans (o2 q hq), fun a ha => (p3 a ha).trans (o3 a ha), p4, by omega, by omega, fun f => ?_⟩
  · unfold F_X7_setColumns
    rw [pi_10_11 hS, Option.bind_some, e, hz, Option.bind_some, gi_10_10 hS, Option.bind_some, o2 10 (by decide), hr, vc_10 hS, e2, toV_v, Option.bind_some]
  · rw [p5, sm]
end COL
