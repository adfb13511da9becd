/-! centuries: one act drawn, upon the paper ground -/
section CE
variable {O : mO} {L : Nat} {xs : Nat → Int32} {c d u n : Nat} {T : Nat → mT} {I : Nat → Nat → Int32} {J : Nat → Nat → Int64} {R : Nat → Nat → Option Nat} {V F D S N s k v t : Nat} {w : Nat → Int32}
/-- the row, one act on -/
def ceR (w : Nat → Int32) (D k v t : Nat) : Nat → Int32 := if t = 0 then (if reOk w D k = true then reW w D k else w) else if t = 1 then (if loOk w D k v = true then loW w k v else w) else (if knOk w k = true then knW w k else w)
theorem Wf_ceR (hw : Wf w V F D S N) (hk : k < D) (hv : v < V) : Wf (ceR w D k v t) V F D S N ∧ Kp w (ceR w D k v t) := by
  unfold ceR
  by_cases h0 : t = 0
  · rw [if_pos h0]
    by_cases ho : reOk w D k = true
    · rw [if_pos ho]
      exact Wf_reW hw hk ho
    · rw [if_neg ho]
      exact ⟨hw, Kp.rf w⟩
  · rw [if_neg h0]
    by_cases h1 : t = 1
    · rw [if_pos h1]
      by_cases ho : loOk w D k v = true
      · rw [if_pos ho]
        exact Wf_loW hw hk hv ho
      · rw [if_neg ho]
        exact ⟨hw, Kp.rf w⟩
    · rw [if_neg h1]
      by_cases ho : knOk w k = true
      · rw [if_pos ho]
        exact Wf_knW hw hk ho
      · rw [if_neg ho]
        exact ⟨hw, Kp.rf w⟩
/-- the class draws one act and does it -/
theorem c_one (hO : O = mOl L xs) (hS : St n T R) (hG : Gnd n T I R 43 w V F D S N) (hw : Wf w V F D S N) (h21 : I 21 0 = nI s) (hs : s < 1000004) (h0 : 0 < D) : ∃ I1, ev O (d + 4) MX10_drawOneAct [.ref 0] (hp u n T I J R) = some (none, hp u n T I1 J R) ∧ Gnd n T I1 R 43 (ceR w D (drN s % D) (drN (drN s) % V) (drN (drN (drN s)) % 3)) V F D S N ∧ I1 21 0 = nI (drN (drN (drN s))) ∧ ∀ a, (a < 43 ∨ 53 < a) → a ≠ 21 → a ≠ 28 → a ≠ 29 → a ≠ 31 → I1 a = I a := by
  have hn := hS.2.1
  have h8 := hw.1
  have hV : 0 < V := hw.1.2.2.2.2.2 h0
  have g43 := hG.1.2.1
  have z13 : I 43 13 = nI D := hG.1.2.2.2.2.2.2.2.2.1
  have z11 : I 43 11 = nI V := hG.1.2.2.2.2.1
  have s1 := drN_lt s
  have s2 := drN_lt (drN s)
  have d1 := v_cDraw (O := O) (d := d + 3) (u := u) (J := J) (I := I) (m := D) hS h21 hs h0 (by omega)
  have d2 := v_cDraw (O := O) (d := d + 3) (u := u) (J := J) (I := up2 I 21 0 (nI (drN s))) (m := V) hS (up2_at _ _ _ _) (by omega) hV (by omega)
  have d3 := v_cDraw (O := O) (d := d + 3) (u := u) (J := J) (I := up2 (up2 I 21 0 (nI (drN s))) 21 0 (nI (drN (drN s)))) (m := 3) hS (up2_at _ _ _ _) (by omega) (by decide) (by decide)
  generalize eI : up2 (up2 (up2 I 21 0 (nI (drN s))) 21 0 (nI (drN (drN s)))) 21 0 (nI (drN (drN (drN s)))) = Id at d3
  have oI : ∀ a, a ≠ 21 → Id a = I a := fun a ha => by rw [← eI, up2_off _ _ _ ha, up2_off _ _ _ ha, up2_off _ _ _ ha]
  have i21 : Id 21 0 = nI (drN (drN (drN s))) := by rw [← eI, up2_at]
  have hGd : Gnd n T Id R 43 w V F D S N := Gnd_cg hG (fun a ha => oI a (by omega))
  have hk : drN s % D < D := Nat.mod_lt _ h0
  have hv : drN (drN s) % V < V := Nat.mod_lt _ hV
  have h3 : drN (drN (drN s)) % 3 < 3 := Nat.mod_lt _ (by decide)
  generalize drN s % D = k at d1 hk ⊢
  generalize drN (drN s) % V = v at d2 hv ⊢
  generalize drN (drN (drN s)) % 3 = t at d3 h3 ⊢
  have start : ∀ y, (if nI t = nI 0 then (gtA (hp u n T Id J R) 0 10 9).bind fun x12 => (toI (vc O (d + 3) 2 MX2_renewFor x12 [.int (nI k)] (hp u n T Id J R))).bind fun p13 => some p13.2 else if nI t = nI 1 then (gtA (hp u n T Id J R) 0 10 9).bind fun x15 => (toI (vc O (d + 3) 2 MX2_lodgeIn x15 [.int (nI k), .int (nI v)] (hp u n T Id J R))).bind fun p16 => some p16.2 else (gtA (hp u n T Id J R) 0 10 9).bind fun x17 => (toI (vc O (d + 3) 2 MX2_knockBy x17 [.int (nI k)] (hp u n T Id J R))).bind fun p18 => some p18.2) = y → F_X10_drawOneAct O (d + 3) 0 (hp u n T I J R) = y := by
    intro y hy
    unfold F_X10_drawOneAct
    rw [ga_0_3 hS, Option.bind_some, ga_0_9 hS, Option.bind_some, gi_g_13 g43 hn, Option.bind_some, z13, vc_21 hS, d1, toI_i, Option.bind_some]
    dsimp only
    rw [ga_0_3 hS, Option.bind_some, ga_0_9 hS, Option.bind_some, gi_g_11 g43 hn, Option.bind_some, up2_na (by decide), z11, vc_21 hS, d2, toI_i, Option.bind_some]
    dsimp only
    rw [ga_0_3 hS, Option.bind_some, vc_21 hS, d3, toI_i, Option.bind_some]
    exact hy
  have ot : ∀ I1, CAo 43 Id I1 → ∀ a, (a < 43 ∨ 53 < a) → a ≠ 21 → a ≠ 28 → a ≠ 29 → a ≠ 31 → I1 a = I a := fun I1 hc a y1 y2 y3 y4 y5 => (hc a (by omega) y3 y4 y5).trans (oI a y2)
  have o21 : ∀ I1, CAo 43 Id I1 → I1 21 0 = nI (drN (drN (drN s))) := fun I1 hc => by rw [hc 21 (by omega) (by decide) (by decide) (by decide)]; exact i21
  unfold ceR
  by_cases t0 : t = 0
  · obtain ⟨I1, e1, g1, c1⟩ := c_re (d := d) (u := u) (J := J) hO hS hGd hw hn (by decide) hk
    refine ⟨I1, e_X10_drawOneAct (d := d + 3) (start _ ?_), by rw [if_pos t0]; exact g1, o21 I1 c1, ot I1 c1⟩
    rw [if_pos (by rw [t0]), ga_0_9 hS, Option.bind_some, vc_g g43 hn, e1]
    rfl
  · have n0 : ¬ nI t = nI 0 := fun z => t0 ((nI_eq (by omega) (by omega)).mp z)
    by_cases t1 : t = 1
    · obtain ⟨I1, e1, g1, c1⟩ := c_lo (O := O) (d := d) (u := u) (J := J) hS hGd hw hn (by decide) hk hv
      refine ⟨I1, e_X10_drawOneAct (d := d + 3) (start _ ?_), by rw [if_neg t0, if_pos t1]; exact g1, o21 I1 c1, ot I1 c1⟩
      rw [if_neg n0, if_pos (by rw [t1]), ga_0_9 hS, Option.bind_some, vc_g g43 hn, e1]
      rfl
    · have n1 : ¬ nI t = nI 1 := fun z => t1 ((nI_eq (by omega) (by omega)).mp z)
      obtain ⟨I1, e1, g1, c1⟩ := c_kn (O := O) (d := d + 1) (u := u) (J := J) hGd hw hn (by decide) hk
      refine ⟨I1, e_X10_drawOneAct (d := d + 3) (start _ ?_), by rw [if_neg t0, if_neg t1]; exact g1, o21 I1 c1, ot I1 c1⟩
      rw [if_neg n0, if_neg n1, ga_0_9 hS, Option.bind_some, vc_g g43 hn, e1]
      rfl
end CE
