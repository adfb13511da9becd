/-! the class's expressions follow the grammar: all of them -/
section CXQ
variable {O : mO} {u n : Nat} {T : Nat → mT} {J : Nat → Nat → Int64} {R : Nat → Nat → Option Nat} {b : Nat → Nat} {t : Nat} {md : Bool}
theorem c_expr (hS : St n T R) (hb : ∀ k, b k ≤ 255) (ht : t ≤ 400) : ∀ (F d mode br : Nat), mode ≤ 5 → br ≤ 8 → 6 * (8 - br) + mode < F → CSub O u n T J R b t md (d + 3 * F + 5) (cMt mode) (cAt mode) br (fun k q => gG md (fT b t) F mode k q br) := by
  have tl := tkN_le (b := b) (t := t)
  intro F
  induction F with
  | zero =>
    intro d mode br _ _ h
    exact absurd h (Nat.not_lt_zero _)
  | succ F ih =>
    intro d mode br hm h8 hF
    have ok : ∀ mo br', mo ≤ 5 → br' ≤ 8 → 6 * (8 - br') + mo < F → ∀ k q, k ≤ tkN b t → q ≤ 50 → gK md (decide (3 ≤ mo)) (tkN b t) k q (gG md (fT b t) F mo k q br') := fun mo br' h1 h2 h3 k q h4 h5 => gG_ok (by omega) (fun k hk => fT_lt hk) F mo k q br' h4 h5 h2 h1 h3
    have hm6 : mode = 0 ∨ mode = 1 ∨ mode = 2 ∨ mode = 3 ∨ mode = 4 ∨ mode = 5 := by omega
    rw [show d + 3 * (F + 1) + 5 = d + 3 * F + 8 by omega]
    rcases hm6 with rfl | rfl | rfl | rfl | rfl | rfl
    · intro k q s I r hG h9 hsk hq hr
      exact c_partG (D := d + 3 * F + 6) hS hb ht hG h9 hsk hq h8 (fun h => by have := ih (d + 2) 2 (br + 1) (by decide) (by omega) (by omega); rw [show d + 2 + 3 * F + 5 = d + 3 * F + 6 + 1 by omega] at this; exact this) (fun h => ok 2 (br + 1) (by decide) (by omega) (by omega)) hr
    · refine c_sumG (D := d + 3 * F + 6) (lv := 1) hS hb ht (Or.inl rfl) ?_ (ok 0 br (by decide) h8 (by omega))
      intro k q s I r hG h9 hsk hq hr
      have := ih (d + 1) 0 br (by decide) h8 (by omega)
      rw [show d + 1 + 3 * F + 5 = d + 3 * F + 6 by omega] at this
      obtain ⟨I', e1, e2⟩ := this k q s I r hG h9 hsk hq hr
      refine ⟨I', e_X6_sum (d := d + 3 * F + 6) ?_, e2⟩
      have e1 : ev O (d + 3 * F + 6) MX6_part [.ref 1] (hp u n T I J R) = some (none, hp u n T I' J R) := e1
      unfold F_X6_sum
      rw [if_neg (by decide), vc_1 hS, e1, toV_v, Option.bind_some]
    · refine c_sumG (D := d + 3 * F + 6) (lv := 2) hS hb ht (Or.inr rfl) ?_ (ok 1 br (by decide) h8 (by omega))
      have := ih (d + 2) 1 br (by decide) h8 (by omega)
      rw [show d + 2 + 3 * F + 5 = d + 3 * F + 6 + 1 by omega] at this
      exact this
    · intro k q s I r hG h9 hsk hq hr
      exact c_plainG (D := d + 3 * F + 2) hS hb ht hG h9 hsk hq h8 (by omega) (by have := ih (d + 2) 2 br (by decide) h8 (by omega); rw [show d + 2 + 3 * F + 5 = d + 3 * F + 2 + 5 by omega] at this; exact this) (ok 2 br (by decide) h8 (by omega)) (fun h => by have := ih (d + 2) 5 (br + 1) (by decide) (by omega) (by omega); rw [show d + 2 + 3 * F + 5 = d + 3 * F + 2 + 5 by omega] at this; exact this) (fun h => ok 5 (br + 1) (by decide) (by omega) (by omega)) hr
    · refine c_testG (D := d + 3 * F + 6) (lv := 4) hS hb ht (Or.inl rfl) ?_ (ok 3 br (by decide) h8 (by omega))
      intro k q s I r hG h9 hsk hq hr
      have := ih (d + 1) 3 br (by decide) h8 (by omega)
      rw [show d + 1 + 3 * F + 5 = d + 3 * F + 6 by omega] at this
      obtain ⟨I', e1, e2⟩ := this k q s I r hG h9 hsk hq hr
      refine ⟨I', e_X6_test (d := d + 3 * F + 6) ?_, e2⟩
      have e1 : ev O (d + 3 * F + 6) MX6_plain [.ref 1] (hp u n T I J R) = some (none, hp u n T I' J R) := e1
      unfold F_X6_test
      rw [if_neg (by decide), vc_1 hS, e1, toV_v, Option.bind_some]
    · refine c_testG (D := d + 3 * F + 6) (lv := 5) hS hb ht (Or.inr rfl) ?_ (ok 4 br (by decide) h8 (by omega))
      have := ih (d + 2) 4 br (by decide) h8 (by omega)
      rw [show d + 2 + 3 * F + 5 = d + 3 * F + 6 + 1 by omega] at this
      exact this
end CXQ
