/-! orders: the class carries them out -/
section OCC
variable {O : mO} {L : Nat} {xs : Nat → Int32} {d u n : Nat} {T : Nat → mT} {I : Nat → Nat → Int32} {J : Nat → Nat → Int64} {R : Nat → Nat → Option Nat} {g2 h2 V F D S N dn sc cc : Nat} {w w0 : Nat → Int32} {la : Int32}
theorem ga_tg (hS : St n T R) (hr : R 54 2 = some g2) {u : Nat} {I : Nat → Nat → Int32} {J : Nat → Nat → Int64} : gtA (hp u n T I J R) 54 9 2 = some g2 := gtA_hp (show T 54 = (100 + 9, kd9) from hS.1.2 54 (by decide)) rfl (hS.lt (by decide)) hS.2.1 hr
theorem ga_th (hS : St n T R) (hr : R 54 3 = some h2) {u : Nat} {I : Nat → Nat → Int32} {J : Nat → Nat → Int64} : gtA (hp u n T I J R) 54 9 3 = some h2 := gtA_hp (show T 54 = (100 + 9, kd9) from hS.1.2 54 (by decide)) rfl (hS.lt (by decide)) hS.2.1 hr
theorem c_setWords (hS : St n T R) (hr : R 54 2 = some g2) (hg : g2 = 32 ∨ g2 = 58) (hG : Gnd n T I R g2 w V F D S N) (h4 : I 54 4 = nI dn) (h5 : I 54 5 = la) : ∃ I', ev O (d + 2) MX9_setWords [.ref 54] (hp u n T I J R) = some (none, hp u n T I' J R) ∧ (∀ a, a ≠ 55 → I' a = I a) ∧ ∀ i, i < 16 → I' 55 i = oW w D F dn la i := by
  have hn := hS.2.1
  obtain ⟨⟨c1, c2, c3, c4, c5, c6, c7, c8, c9, c10, c11, c12⟩, q1, q2, q3, q4, q5, q6, q7, q8, q9, q10, -⟩ := id hG
  let I4 : Nat → Nat → Int32 := up2 (up2 (up2 (up2 I 55 0 (w 6)) 55 1 (nI dn)) 55 2 la) 55 3 (nI (D - cnt (fun j => w (9 + j)) (-1) D))
  have o4 : ∀ a, a ≠ 55 → I4 a = I a := fun a ha => by
    show up2 (up2 (up2 (up2 I 55 0 (w 6)) 55 1 (nI dn)) 55 2 la) 55 3 (nI (D - cnt (fun j => w (9 + j)) (-1) D)) a = I a
    rw [up2_off _ _ _ ha, up2_off _ _ _ ha, up2_off _ _ _ ha, up2_off _ _ _ ha]
  have w4 : ∀ j, j < 4 → I4 55 j = oW w D F dn la j := by
    intro j hj
    show up2 (up2 (up2 (up2 I 55 0 (w 6)) 55 1 (nI dn)) 55 2 la) 55 3 (nI (D - cnt (fun j => w (9 + j)) (-1) D)) 55 j = _
    rcases (show j = 0 ∨ j = 1 ∨ j = 2 ∨ j = 3 by omega) with e | e | e | e <;> subst e
    · rw [up2_nk (by decide), up2_nk (by decide), up2_nk (by decide), up2_at]
      rfl
    · rw [up2_nk (by decide), up2_nk (by decide), up2_at]
      rfl
    · rw [up2_nk (by decide), up2_at]
      rfl
    · rw [up2_at]
      rfl
  have w12 : ∀ k, k < 8 → oW w D F dn la (4 + k) = if k < D then w (17 + k) else -1 := by
    intro k hk
    unfold oW
    rw [if_neg (by omega), if_neg (by omega), if_neg (by omega), if_neg (by omega), if_pos (by omega), Nat.add_sub_cancel_left]
  have w16 : ∀ k, k < 4 → oW w D F dn la (12 + k) = if k < F then w (33 + k) else -1 := by
    intro k hk
    unfold oW
    rw [if_neg (by omega), if_neg (by omega), if_neg (by omega), if_neg (by omega), if_neg (by omega), Nat.add_sub_cancel_left]
  have inD : ∀ k, k < 8 → inR (nI k) D = decide (k < D) := by
    intro k hk
    by_cases e : k < D
    · rw [inR_nI e (by omega), decide_eq_true e]
    · rw [inR_nI' (by omega) (by omega), decide_eq_false e]
  have inF : ∀ k, k < 4 → inR (nI k) F = decide (k < F) := by
    intro k hk
    by_cases e : k < F
    · rw [inR_nI e (by omega), decide_eq_true e]
    · rw [inR_nI' (by omega) (by omega), decide_eq_false e]
  obtain ⟨r1, e1, I5, rfl, a1, a2⟩ := lup_P0 (f := fun (q : Int32 × mH) => F_X9_setWords_l50 O (d + 1) 54 q.1 q.2) (s0 := (nI 0, hp u n T I4 J R)) (fun m s => ∃ I2, s = (nI m, hp u n T I2 J R) ∧ (∀ a, a ≠ 55 → I2 a = I a) ∧ ∀ j, j < 4 + m → I2 55 j = oW w D F dn la j) (fun r => ∃ I2, r = hp u n T I2 J R ∧ (∀ a, a ≠ 55 → I2 a = I a) ∧ ∀ j, j < 12 → I2 55 j = oW w D F dn la j) (N := 8) (by decide) ⟨I4, rfl, o4, w4⟩ (by
    intro m s hm ⟨I2, hs, b1, b2⟩
    subst hs
    left
    refine ⟨(nI (m + 1), hp u n T (up2 I2 55 (4 + m) (oW w D F dn la (4 + m))) J R), ?_, _, rfl, fun a ha => by rw [up2_off _ _ _ ha]; exact b1 a ha, fun j hj => ?_⟩
    · dsimp only
      unfold F_X9_setWords_l50
      rw [if_neg (nI_ge hm (by decide)), ga_54_1 hS, Option.bind_some, ga_tg hS hr, Option.bind_some, vc_g c2 hn, v_hasDead c2 hn (by rw [b1 g2 (by omega)]; exact c9), inD m hm, toI_i, Option.bind_some]
      dsimp only
      unfold F_X9_setWords_j87
      by_cases e : m < D
      · rw [decide_eq_true e, if_neg (show ¬ bI true = 0 by decide), ga_tg hS hr, Option.bind_some, ga_g_5 c2 hn, Option.bind_some, rd_g_5 c2 hn hm, Option.bind_some, b1 (g2 + 5) (by omega), q7 m hm, nI_add, wr_55 hS (by omega), Option.bind_some, nI_add, w12 m hm, if_pos e]
      · rw [decide_eq_false e, if_pos (show bI false = 0 by decide), nI_add, wr_55 hS (by omega), Option.bind_some, nI_add, w12 m hm, if_neg e]
    · by_cases e : j = 4 + m
      · rw [e, up2_at]
      · rw [up2_nk e]
        exact b2 j (by omega)) (by
    intro s ⟨I2, hs, b1, b2⟩
    subst hs
    refine ⟨_, ?_, I2, rfl, b1, b2⟩
    dsimp only
    unfold F_X9_setWords_l50
    rw [if_pos (by decide)])
  obtain ⟨r2, e2, I6, rfl, a3, a4⟩ := lup_P0 (f := fun (q : Int32 × mH) => F_X9_setWords_l96 O (d + 1) 54 q.1 q.2) (s0 := (nI 0, hp u n T I5 J R)) (fun m s => ∃ I2, s = (nI m, hp u n T I2 J R) ∧ (∀ a, a ≠ 55 → I2 a = I a) ∧ ∀ j, j < 12 + m → I2 55 j = oW w D F dn la j) (fun r => ∃ I2, r = hp u n T I2 J R ∧ (∀ a, a ≠ 55 → I2 a = I a) ∧ ∀ j, j < 16 → I2 55 j = oW w D F dn la j) (N := 4) (by decide) ⟨I5, rfl, a1, a2⟩ (by
    intro m s hm ⟨I2, hs, b1, b2⟩
    subst hs
    left
    refine ⟨(nI (m + 1), hp u n T (up2 I2 55 (12 + m) (oW w D F dn la (12 + m))) J R), ?_, _, rfl, fun a ha => by rw [up2_off _ _ _ ha]; exact b1 a ha, fun j hj => ?_⟩
    · dsimp only
      unfold F_X9_setWords_l96
      rw [if_neg (nI_ge hm (by decide)), ga_54_1 hS, Option.bind_some, ga_tg hS hr, Option.bind_some, vc_g c2 hn, v_hasFamily c2 hn (by rw [b1 g2 (by omega)]; exact c7), inF m hm, toI_i, Option.bind_some]
      dsimp only
      unfold F_X9_setWords_j133
      by_cases e : m < F
      · rw [decide_eq_true e, if_neg (show ¬ bI true = 0 by decide), ga_tg hS hr, Option.bind_some, ga_g_2 c2 hn, Option.bind_some, rd_g_2 c2 hn hm, Option.bind_some, b1 (g2 + 2) (by omega), q4 m hm, nI_add, wr_55 hS (by omega), Option.bind_some, nI_add, w16 m hm, if_pos e]
      · rw [decide_eq_false e, if_pos (show bI false = 0 by decide), nI_add, wr_55 hS (by omega), Option.bind_some, nI_add, w16 m hm, if_neg e]
    · by_cases e : j = 12 + m
      · rw [e, up2_at]
      · rw [up2_nk e]
        exact b2 j (by omega)) (by
    intro s ⟨I2, hs, b1, b2⟩
    subst hs
    refine ⟨_, ?_, I2, rfl, b1, b2⟩
    dsimp only
    unfold F_X9_setWords_l96
    rw [if_pos (by decide)])
  refine ⟨I6, e_X9_setWords ?_, a3, a4⟩
  have g3 : ∀ i, i ≠ 54 → up2 (up2 (up2 I 55 0 (w 6)) 55 1 (nI dn)) 55 2 la 54 = I 54 := fun _ _ => by rw [up2_off _ _ _ (by decide), up2_off _ _ _ (by decide), up2_off _ _ _ (by decide)]
  have hG3 : Gnd n T (up2 (up2 (up2 I 55 0 (w 6)) 55 1 (nI dn)) 55 2 la) R g2 w V F D S N := Gnd_cg hG (fun a ha => by rw [up2_off _ _ _ (by omega), up2_off _ _ _ (by omega), up2_off _ _ _ (by omega)])
  unfold F_X9_setWords
  rw [ga_54_1 hS, Option.bind_some, ga_tg hS hr, Option.bind_some, ga_g_9 c2 hn, Option.bind_some, rd_g_9 c2 hn (by decide), Option.bind_some, q10 0 (by decide), wr_55 hS (by decide), Option.bind_some, ga_54_1 hS, Option.bind_some, gi_54_4 hS, Option.bind_some, up2_na (by decide), h4, wr_55 hS (by decide), Option.bind_some, ga_54_1 hS, Option.bind_some, gi_54_5 hS, Option.bind_some, up2_na (by decide), up2_na (by decide), h5, wr_55 hS (by decide), Option.bind_some, ga_54_1 hS, Option.bind_some, ga_tg hS hr, Option.bind_some, vc_g c2 hn, v_ins hG3 hn, toI_i, Option.bind_some]
  dsimp only
  rw [wr_55 hS (by decide), Option.bind_some, e1, Option.bind_some, e2, Option.bind_some]
theorem v_work {c k : Nat} (hS : St n T R) (hP : PrV n T I R 2 sc cc) (hc : c < cc) (hk : k ≤ 4) : ∃ K', ev O (d + 1) MX8_work [.ref 28, .ref 2, .int (nI c), .int (nI k), .ref 55] (hp u n T I J R) = some (some (.int ((woC (I 3) (I 4) (wdF (I 55) 16) sc c k).getD (nI 0))), hp u n T (WI I 29 28 K' (bI (woC (I 3) (I 4) (wdF (I 55) 16) sc c k).isNone)) J R) := by
  have hSs : IsS n T R 28 29 := ⟨hS.1.2 28 (by decide), hS.1.2 29 (by decide), hS.2.2 (28, 0, 29) (by decide), hS.lt (by decide), hS.lt (by decide), by decide⟩
  obtain ⟨r, K1, h1, h2, k', h3⟩ := Rn_ev (c_work (O := O) (d := d) (u := u) (J := J) (wd := 55) (lw := 16) hSs hP (hS.1.2 55 (by decide)) (hS.lt (by decide)) (by decide) hS.2.1 (by decide) (by decide) (by decide) (by decide) (by decide) (by decide) (by decide) (by decide) hc hk)
  exact ⟨k', by rw [h1, h2, h3]⟩
theorem WI_off {K' : Nat → Int32} {bb : Int32} {a : Nat} (h1 : a ≠ 28) (h2 : a ≠ 29) : WI I 29 28 K' bb a = I a := by
  unfold WI
  rw [up2_off _ _ _ h1, up1_ne _ _ h2]
theorem WI_28 {K' : Nat → Int32} {bb : Int32} : WI I 29 28 K' bb 28 1 = bb := by
  unfold WI
  exact up2_at _ _ _ _
/-- the class's trial -/
def OCl (n : Nat) (T : Nat → mT) (R : Nat → Nat → Option Nat) (g2 h2 V F D S N : Nat) (w0 : Nat → Int32) (I : Nat → Nat → Int32) (z : OS) : Prop := Gnd n T I R g2 z.1 V F D S N ∧ Wf z.1 V F D S N ∧ Kp w0 z.1 ∧ I 54 4 = nI z.2.1 ∧ I 54 5 = z.2.2.1 ∧ CHi (I h2) (I (h2 + 1)) z.2.2.2.1 z.2.2.2.2.1 z.2.2.2.2.2 ∧ UOk z.1 z.2.2.2.1 V F D z.2.2.2.2.1
/-- what the trial leaves as it is -/
def OFr (g2 h2 : Nat) (I I' : Nat → Nat → Int32) : Prop := (∀ a, (a < g2 ∨ g2 + 10 < a) → a ≠ h2 → a ≠ h2 + 1 → a ≠ 28 → a ≠ 29 → a ≠ 31 → a ≠ 54 → a ≠ 55 → I' a = I a) ∧ ∀ k, k ≠ 4 → k ≠ 5 → I' 54 k = I 54 k
theorem OFr.refl (g2 h2 : Nat) (I : Nat → Nat → Int32) : OFr g2 h2 I I := ⟨fun _ _ _ _ _ _ _ _ _ => rfl, fun _ _ _ => rfl⟩
theorem OFr.trans {g2 h2 : Nat} {A B C : Nat → Nat → Int32} (h : OFr g2 h2 A B) (k : OFr g2 h2 B C) : OFr g2 h2 A C := ⟨fun a h1 h2 h3 h4 h5 h6 h7 h8 => (k.1 a h1 h2 h3 h4 h5 h6 h7 h8).trans (h.1 a h1 h2 h3 h4 h5 h6 h7 h8), fun j h1 h2 => (k.2 j h1 h2).trans (h.2 j h1 h2)⟩
/-- the text that is carried out -/
def OTx (n : Nat) (T : Nat → mT) (R : Nat → Nat → Option Nat) (I : Nat → Nat → Int32) (sc cc c s : Nat) (x : CL) : Prop := PrV n T I R 2 sc cc ∧ c < cc ∧ ClC I c s x ∧ ClO true x ∧ s + lnC x ≤ sc ∧ sc ≤ 400
theorem OTx_cg {I' : Nat → Nat → Int32} {c s : Nat} {x : CL} (h : OTx n T R I sc cc c s x) (h2 : I' 2 = I 2) (h3 : I' 3 = I 3) (h4 : I' 4 = I 4) : OTx n T R I' sc cc c s x := ⟨PrV_cg2 h2 h3 h4 h.1, h.2.1, ClC_cg h.2.2.1 (fun i _ => by rw [h4]) (fun i _ => by rw [h3]), h.2.2.2⟩
/-- the three values of a clause -/
theorem OTx_v {c s : Nat} {x : CL} (h : OTx n T R I sc cc c s x) {X : Int32 → Int32} (hX : ∃ lf, LfR true X lf) : woC (I 3) (I 4) X sc c 4 = vOf X x.2.2.2.2.2.2.1 ∧ woC (I 3) (I 4) X sc c 2 = vOf X x.2.2.1 ∧ woC (I 3) (I 4) X sc c 3 = vOf X x.2.2.2.2.1 ∧ I 4 (c * 6) = nI x.1 ∧ I 4 (c * 6 + 1) = nI x.2.1 := by
  obtain ⟨lf, hL⟩ := hX
  obtain ⟨hP, hc, ⟨a1, a2, a3, a4, a5, a6, a7⟩, hO, hl, h4⟩ := h
  have ln : lnC x = x.2.2.1.length + x.2.2.2.2.1.length + x.2.2.2.2.2.2.1.length := rfl
  rw [AtC_ap, AtC_ap, List.length_append] at a7
  obtain ⟨⟨b1, b2⟩, b3⟩ := a7
  have pt : ∀ j v, I 4 (c * 6 + j) = nI v → v ≤ 400 → ptN (I 4) c j = v := by
    intro j v e hv
    unfold ptN
    rw [e, cl_nI (by omega)]
  have p2 := pt 2 _ a3 (by omega)
  have p3 := pt 3 _ a4 (by omega)
  have p4 := pt 4 _ a5 (by omega)
  have p5 := pt 5 _ a6 (by omega)
  have vv : ∀ {ts : Bool} {cc' m : GC} {i : Nat}, (ExO true ts cc' m ∨ cc' = []) → AtC (I 3) i cc' → i + cc'.length ≤ sc → wo (I 3) X sc i (i + cc'.length) = vOf X cc' := by
    intro ts cc' m i hE hA hi
    rcases hE with hE | hE
    · obtain ⟨k, k1, k2, -⟩ := ExO_v hE (by omega) hL
      exact wo_all k2 (by omega) hA (by omega) hi
    · rw [hE]
      show wo (I 3) X sc i (i + 0) = _
      rw [Nat.add_zero, wo_no]
      rfl
  obtain ⟨-, -, -, -, h1, h2, h3⟩ := hO
  refine ⟨?_, ?_, ?_, a1, a2⟩
  · unfold woC
    rw [p4, p5, ln, show s + (x.2.2.1.length + x.2.2.2.2.1.length + x.2.2.2.2.2.2.1.length) = s + x.2.2.1.length + x.2.2.2.2.1.length + x.2.2.2.2.2.2.1.length by omega]
    exact vv (ts := true) (m := x.2.2.2.2.2.2.2) (h3.imp id (fun z => z.1)) (by rw [Nat.add_assoc]; exact b3) (by omega)
  · unfold woC
    rw [p2, p3]
    refine vv (ts := false) (m := x.2.2.2.1) ?_ b1 (by omega)
    by_cases z : x.1 = 3
    · rw [if_pos z] at h1
      exact Or.inr h1.1
    · rw [if_neg z] at h1
      exact Or.inl h1
  · unfold woC
    rw [p3, p4]
    refine vv (ts := false) (m := x.2.2.2.2.2.1) ?_ b2 (by omega)
    by_cases z : true = true ∧ x.1 = 1
    · rw [if_pos z] at h2
      exact Or.inl h2
    · rw [if_neg z] at h2
      exact Or.inr h2.1
theorem v_part (hS : St n T R) {c k : Nat} (hc : c < 12) (hk : k < 6) : ev O d MX5_part [.ref 2, .int (nI c), .int (nI k)] (hp u n T I J R) = some (some (.int (I 4 (c * 6 + k))), hp u n T I J R) := by
  have hP : IsP n T R 2 400 72 := ⟨hS.1.2 2 (by decide), hS.1.2 3 (by decide), hS.1.2 4 (by decide), hS.2.2 (2, 0, 3) (by decide), hS.2.2 (2, 1, 4) (by decide), by have := hS.1.1; omega, by decide, by decide⟩
  rw [evr (c_part (O := O) (d := d) (u := u) (I := I) (J := J) (c := c) (w := k) hP hS.2.1 (by omega) (by omega))]
  unfold paF
  rw [if_pos (by omega)]
end OCC
