/-! the class's reader behind a fault -/
section CBA
variable {O : mO} {d u n : Nat} {T : Nat → mT} {I : Nat → Nat → Int32} {J : Nat → Nat → Int64} {R : Nat → Nat → Option Nat} {b : Nat → Nat} {t y : Nat} {K : mH}
theorem c_partBd (hS : St n T R) (ht : t ≤ 400) (h : CBd b t y I) : ∃ I', ev O (d + 2) MX6_part [.ref 1] (hp u n T I J R) = some (none, hp u n T I' J R) ∧ CBd b t y I' ∧ CEx I I' := by
  have h0 := h
  obtain ⟨hC, h5, h6, hy, ⟨q, hq, h7⟩, s, hs, h2⟩ := h
  have j317 : ∀ I1, CBd b t y I1 → ∃ I', F_X6_part_j317 O (d + 1) 1 (hp u n T I1 J R) = some (hp u n T I' J R) ∧ CBd b t y I' ∧ CEx I1 I' := by
    intro I1 h1
    obtain ⟨I', e1, e2, e3⟩ := c_takeBd (O := O) (d := d) (u := u) (J := J) (x := -1) hS ht h1
    refine ⟨I', ?_, e2, e3⟩
    unfold F_X6_part_j317
    rw [vc_1 hS, e1, toV_v, Option.bind_some]
  have hd : ∀ {I'}, F_X6_part_j99 O (d + 1) 1 (nI 4000 - nI 2000) (if I 1 9 = 0 then nI 14 else nI 22) (if I 1 9 = 0 then nI 22 else nI 25) (hp u n T I J R) = some (hp u n T I' J R) → ev O (d + 2) MX6_part [.ref 1] (hp u n T I J R) = some (none, hp u n T I' J R) := by
    intro I' e
    refine e_X6_part (d := d + 1) ?_
    unfold F_X6_part
    rw [gi_1_5 hS, Option.bind_some, gi_1_9 hS, Option.bind_some, Option.bind_some, Option.bind_some, h5, if_neg (by decide)]
    exact e
  by_cases q5 : q < 50
  · have h1 : CBd b t y (up2 I 1 7 (nI (q + 1))) := ⟨CTk_cg hC (by rw [up2_off _ _ _ (by decide)]) (by rw [up2_off _ _ _ (by decide)]) (by rw [up2_nk (by decide)]), by rw [up2_nk (by decide)]; exact h5, by rw [up2_nk (by decide)]; exact h6, hy, ⟨q + 1, by omega, up2_at _ _ _ _⟩, s, hs, by rw [up2_na (by decide)]; exact h2⟩
    have c1 : CEx I (up2 I 1 7 (nI (q + 1))) := ⟨fun a h1 _ _ => up2_off _ _ _ h1, up2_nk (by decide), up2_na (by decide)⟩
    obtain ⟨I', e1, e2, e3⟩ := j317 _ h1
    refine ⟨I', hd ?_, e2, c1.trans e3⟩
    have j191 : F_X6_part_j191 O (d + 1) 1 (hp u n T (up2 I 1 7 (nI (q + 1))) J R) = some (hp u n T I' J R) := by
      have j254 : F_X6_part_j254 O (d + 1) 1 (hp u n T (up2 I 1 7 (nI (q + 1))) J R) = some (hp u n T I' J R) := by
        unfold F_X6_part_j254
        rw [gi_1_9 hS, Option.bind_some, gi_1_5 hS, Option.bind_some, h1.2.1, e1, if_neg (show ¬ nI 4000 = nI 2021 by decide)]
        split <;> rfl
      unfold F_X6_part_j191
      rw [gi_1_9 hS, Option.bind_some, gi_1_5 hS, Option.bind_some, h1.2.1, j254, if_neg (show ¬ nI 4000 = nI 2020 by decide)]
      split <;> rfl
    unfold F_X6_part_j99
    rw [gi_1_7 hS, Option.bind_some, h7, if_pos ((nI_ltI (by omega) (by omega)).mpr q5), Option.bind_some, nI_add, pi_1_7 hS, Option.bind_some, gi_1_5 hS, Option.bind_some, h1.2.1, if_pos (show nI 1000 < nI 4000 by decide), j191]
    by_cases o9 : I 1 9 = 0
    · rw [if_pos o9, if_pos o9, if_neg (by decide), if_pos (by decide)]
    · rw [if_neg o9, if_neg o9, if_neg (by decide), if_pos (by decide)]
  · obtain ⟨I', e1, e2, e3⟩ := c_takeBd (O := O) (d := d) (u := u) (J := J) (x := -1) hS ht h0
    refine ⟨I', hd ?_, e2, e3⟩
    unfold F_X6_part_j99
    rw [gi_1_7 hS, Option.bind_some, h7, if_neg (fun z => q5 ((nI_ltI (by omega) (by omega)).mp z)), vc_1 hS, e1, toV_v, Option.bind_some]
theorem c_sumLBd (hS : St n T R) (h : CBd b t y I) {v1 v3 : Int32} {v2 : Nat} (hv : v2 ≤ 12) : lupF (fun (q : Int32 × mH) => F_X6_sum_l43 O (d + 1) 1 v1 (nI v2) v3 q.1 q.2) FU (nI 0, hp u n T I J R) = some (hp u n T I J R) := by
  refine lup_0 (fun _ => (nI 0, hp u n T I J R)) (N := 0) (by decide) rfl (fun k hk => absurd hk (Nat.not_lt_zero k)) ?_
  have n1 : ∀ v, v ≤ 12 → (-1 : Int32) < nI v := by decide
  show F_X6_sum_l43 O (d + 1) 1 v1 (nI v2) v3 (nI 0) (hp u n T I J R) = _
  unfold F_X6_sum_l43
  rw [if_neg (by decide), gi_1_5 hS, Option.bind_some, h.2.1, c_step (by decide), toI_i, Option.bind_some, if_pos (show sgO 4000 = 0 by decide)]
  dsimp only
  rw [if_pos (n1 v2 hv)]
theorem c_sumBd2 (hS : St n T R) (ht : t ≤ 400) (h : CBd b t y I) : ∃ I', ev O (d + 3) MX6_sum [.ref 1, .int (nI 2)] (hp u n T I J R) = some (none, hp u n T I' J R) ∧ CBd b t y I' ∧ CEx I I' := by
  obtain ⟨I', e1, e2, e3⟩ := c_partBd (O := O) (d := d) (u := u) (J := J) hS ht h
  refine ⟨I', e_X6_sum (d := d + 2) ?_, e2, e3⟩
  unfold F_X6_sum
  rw [if_neg (by decide), vc_1 hS, e1, toV_v, Option.bind_some]
theorem c_sumBd1 (hS : St n T R) (ht : t ≤ 400) (h : CBd b t y I) : ∃ I', ev O (d + 4) MX6_sum [.ref 1, .int (nI 1)] (hp u n T I J R) = some (none, hp u n T I' J R) ∧ CBd b t y I' ∧ CEx I I' := by
  obtain ⟨I', e1, e2, e3⟩ := c_sumBd2 (O := O) (d := d) (u := u) (J := J) hS ht h
  refine ⟨I', e_X6_sum (d := d + 3) ?_, e2, e3⟩
  unfold F_X6_sum
  have e1 : ev O (d + 3) MX6_sum [.ref 1, .int (nI 1 + nI 1)] (hp u n T I J R) = some (none, hp u n T I' J R) := e1
  rw [if_pos (by decide), vc_1 hS, e1, toV_v, Option.bind_some, if_neg (by decide), if_neg (by decide), c_sumLBd (d := d + 2) hS e2 (by decide), Option.bind_some]
theorem c_sumBd (hS : St n T R) (ht : t ≤ 400) (h : CBd b t y I) : ∃ I', ev O (d + 5) MX6_sum [.ref 1, .int (nI 0)] (hp u n T I J R) = some (none, hp u n T I' J R) ∧ CBd b t y I' ∧ CEx I I' := by
  obtain ⟨I', e1, e2, e3⟩ := c_sumBd1 (O := O) (d := d) (u := u) (J := J) hS ht h
  refine ⟨I', e_X6_sum (d := d + 4) ?_, e2, e3⟩
  unfold F_X6_sum
  have e1 : ev O (d + 4) MX6_sum [.ref 1, .int (nI 0 + nI 1)] (hp u n T I J R) = some (none, hp u n T I' J R) := e1
  rw [if_pos (by decide), vc_1 hS, e1, toV_v, Option.bind_some, if_pos (by decide), if_pos (by decide), c_sumLBd (d := d + 3) hS e2 (by decide), Option.bind_some]
/-- a step more, behind a fault -/
theorem c_addBd (hS : St n T R) (h : CBd b t y I) (a c : Int32) : ∃ r I', ev O (d + 1) MX5_add [.ref 2, .int a, .int c] (hp u n T I J R) = some (some (.int r), hp u n T I' J R) ∧ CBd b t y I' ∧ CEx I I' := by
  obtain ⟨hC, h5, h6, hy, hq, s, hs, h2⟩ := h
  obtain ⟨I', e1, e2, e3, e4⟩ := c_addB (O := O) (d := d) (u := u) (J := J) hS h2 hs a c
  have o1 := e2 1 (by decide) (by decide)
  exact ⟨_, I', e1, ⟨CTk_cg hC (e2 5 (by decide) (by decide)) (e2 6 (by decide) (by decide)) (by rw [o1]), by rw [o1]; exact h5, by rw [o1]; exact h6, hy, by rw [o1]; exact hq, e4⟩, ⟨fun a _ h2 h3 => e2 a h2 h3, by rw [o1], e3⟩⟩
theorem c_aimBd (hS : St n T R) (h : CBd b t y I) {k : Nat} (hk : k ≤ 400) : ∃ I', ev O (d + 1) MX5_aim [.ref 2, .int (nI k)] (hp u n T I J R) = some (none, hp u n T I' J R) ∧ CBd b t y I' ∧ CEx I I' := by
  obtain ⟨hC, h5, h6, hy, hq, s, hs, h2⟩ := h
  obtain ⟨I', e1, e2⟩ := c_aimB (O := O) (d := d) (u := u) (J := J) hS h2 hs hk
  have o1 := e2 1 (by decide)
  have o2 := e2 2 (by decide)
  exact ⟨I', e1, ⟨CTk_cg hC (e2 5 (by decide)) (e2 6 (by decide)) (by rw [o1]), by rw [o1]; exact h5, by rw [o1]; exact h6, hy, by rw [o1]; exact hq, s, hs, by rw [o2]; exact h2⟩, ⟨fun a _ _ h3 => e2 a h3, by rw [o1], by rw [o2]⟩⟩
end CBA
