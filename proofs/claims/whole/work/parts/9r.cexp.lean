/-! the class's expressions follow the grammar -/
section CXP
variable {O : mO} {u n : Nat} {T : Nat → mT} {J : Nat → Nat → Int64} {R : Nat → Nat → Option Nat} {b : Nat → Nat} {t : Nat} {md : Bool}
def cMt (mode : Nat) : mM := if mode = 0 then MX6_part else if mode ≤ 2 then MX6_sum else if mode = 3 then MX6_plain else MX6_test
def cAt (mode : Nat) : List Value := if mode = 0 then [] else if mode ≤ 2 then [.int (nI (2 - mode))] else if mode = 3 then [] else [.int (nI (5 - mode))]
/-- sums of a level above parts -/
theorem c_sumG (hS : St n T R) (hb : ∀ k, b k ≤ 255) (ht : t ≤ 400) {D lv br F : Nat} (hl : lv = 1 ∨ lv = 2) (hs : CSub O u n T J R b t md (D + 1) MX6_sum [.int (nI (2 - lv) + nI 1)] br (fun k q => gG md (fT b t) F (lv - 1) k q br)) (hk : ∀ k q, k ≤ tkN b t → q ≤ 50 → gK md false (tkN b t) k q (gG md (fT b t) F (lv - 1) k q br)) : CSub O u n T J R b t md (D + 2) MX6_sum [.int (nI (2 - lv))] br (fun k q => gG md (fT b t) (F + 1) lv k q br) := by
  intro k q s I r hG h9 hsk hq hr
  have hr : gG md (fT b t) (F + 1) lv k q br = some r := hr
  unfold gG at hr
  rw [if_neg (by omega), if_neg (by omega)] at hr
  have e1 : nI (2 - lv) ≤ nI 1 := nI_le (by omega) (by omega)
  have c5 : (if nI (2 - lv) = 0 then nI 5 else nI 7) = nI (if lv = 2 then 5 else 7) ∧ (if nI (2 - lv) = 0 then nI 6 else nI 9) = nI (if lv = 2 then 6 else 9) := by
    rcases hl with rfl | rfl <;> decide
  have st : ∀ {I2 I'}, ev O (D + 1) MX6_sum [.ref 1, .int (nI (2 - lv) + nI 1)] (hp u n T I J R) = some (none, hp u n T I2 J R) → lupF (fun (q : Int32 × mH) => F_X6_sum_l43 O (D + 1) 1 (nI (2 - lv)) (nI (if lv = 2 then 5 else 7)) (nI (if lv = 2 then 6 else 9)) q.1 q.2) FU (nI 0, hp u n T I2 J R) = some (hp u n T I' J R) → ev O (D + 2) MX6_sum [.ref 1, .int (nI (2 - lv))] (hp u n T I J R) = some (none, hp u n T I' J R) := by
    intro I2 I' a1 a2
    refine e_X6_sum (d := D + 1) ?_
    unfold F_X6_sum
    rw [if_pos e1, vc_1 hS, a1, toV_v, Option.bind_some, c5.1, c5.2, a2, Option.bind_some]
  rcases hk k q hG.2.1 hq with ⟨j, ej, j1, j2⟩ | ⟨c, m, k', q', er, r1, r2, r3, r4, r5, r6, r7, r8, r9⟩
  · rw [ej] at hr
    have hr : some (Sum.inl j) = some r := hr
    obtain ⟨I2, s1, s2, s3, s4⟩ := hs k q s I (.inl j) hG h9 hsk hq ej
    refine ⟨I2, st s1 ?_, by rw [← Option.some.inj hr]; exact COu_bad (s2 j rfl) s4⟩
    exact c_sumLBd (d := D) hS (s2 j rfl) (by split <;> decide)
  · rw [er] at hr
    have hr : gLp (fT b t) lv (fun k q => gG md (fT b t) F (lv - 1) k q br) NT c m k' q' = some r := hr
    obtain ⟨I2, s1, -, s3, s4⟩ := hs k q s I _ hG h9 hsk hq er
    obtain ⟨c1, c2, c3⟩ := s3 c m k' q' rfl
    obtain ⟨I', f1, f2⟩ := c_sumLp (O := O) (u := u) (J := J) hS hb ht hl hs hk NT FU 0 c m k' q' I2 r c1 c3 c2 s4 (s4.2.1.trans h9) (by omega) r4 (by omega) (by decide) hr
    exact ⟨I', st s1 f1, f2⟩
theorem c_testG (hS : St n T R) (hb : ∀ k, b k ≤ 255) (ht : t ≤ 400) {D lv br F : Nat} (hl : lv = 4 ∨ lv = 5) (hs : CSub O u n T J R b t md (D + 1) MX6_test [.int (nI (5 - lv) + nI 1)] br (fun k q => gG md (fT b t) F (lv - 1) k q br)) (hk : ∀ k q, k ≤ tkN b t → q ≤ 50 → gK md true (tkN b t) k q (gG md (fT b t) F (lv - 1) k q br)) : CSub O u n T J R b t md (D + 2) MX6_test [.int (nI (5 - lv))] br (fun k q => gG md (fT b t) (F + 1) lv k q br) := by
  intro k q s I r hG h9 hsk hq hr
  have hr : gG md (fT b t) (F + 1) lv k q br = some r := hr
  unfold gG at hr
  rw [if_neg (by omega), if_neg (by omega)] at hr
  have e1 : nI (5 - lv) ≤ nI 1 := nI_le (by omega) (by omega)
  have c5 : (if nI (5 - lv) = 0 then nI 2009 else nI 2010) = nI (if lv = 5 then 2009 else 2010) := by
    rcases hl with rfl | rfl <;> decide
  have hv : (if lv = 5 then 2009 else 2010) ≤ 2010 := by split <;> decide
  have st : ∀ {I2 I'}, ev O (D + 1) MX6_test [.ref 1, .int (nI (5 - lv) + nI 1)] (hp u n T I J R) = some (none, hp u n T I2 J R) → lupF (fun (q : Int32 × mH) => F_X6_test_l33 O (D + 1) 1 (nI (5 - lv)) (nI (if lv = 5 then 2009 else 2010)) q.1 q.2) FU (nI 0, hp u n T I2 J R) = some (hp u n T I' J R) → ev O (D + 2) MX6_test [.ref 1, .int (nI (5 - lv))] (hp u n T I J R) = some (none, hp u n T I' J R) := by
    intro I2 I' a1 a2
    refine e_X6_test (d := D + 1) ?_
    unfold F_X6_test
    rw [if_pos e1, vc_1 hS, a1, toV_v, Option.bind_some, c5, a2, Option.bind_some]
  rcases hk k q hG.2.1 hq with ⟨j, ej, j1, j2⟩ | ⟨c, m, k', q', er, r1, r2, r3, r4, r5, r6, r7, r8, r9⟩
  · rw [ej] at hr
    have hr : some (Sum.inl j) = some r := hr
    obtain ⟨I2, s1, s2, s3, s4⟩ := hs k q s I (.inl j) hG h9 hsk hq ej
    refine ⟨I2, st s1 ?_, by rw [← Option.some.inj hr]; exact COu_bad (s2 j rfl) s4⟩
    refine lup_0 (fun _ => (nI 0, hp u n T I2 J R)) (N := 0) (by decide) rfl (fun k hk => absurd hk (Nat.not_lt_zero k)) ?_
    show F_X6_test_l33 O (D + 1) 1 (nI (5 - lv)) (nI (if lv = 5 then 2009 else 2010)) (nI 0) (hp u n T I2 J R) = _
    unfold F_X6_test_l33
    rw [if_neg (by decide), gi_1_5 hS, Option.bind_some, (s2 j rfl).2.1, if_neg (fun z => absurd ((nI_eq (by omega) (by omega)).mp z) (by omega))]
  · rw [er] at hr
    have hr : gLp (fT b t) lv (fun k q => gG md (fT b t) F (lv - 1) k q br) NT c m k' q' = some r := hr
    obtain ⟨I2, s1, -, s3, s4⟩ := hs k q s I _ hG h9 hsk hq er
    obtain ⟨c1, c2, c3⟩ := s3 c m k' q' rfl
    obtain ⟨I', f1, f2⟩ := c_testLp (O := O) (u := u) (J := J) hS hb ht hl hs hk NT FU 0 c m k' q' I2 r c1 c3 c2 s4 (s4.2.1.trans h9) (by omega) r4 (by omega) (by decide) hr
    exact ⟨I', st s1 f1, f2⟩
end CXP
