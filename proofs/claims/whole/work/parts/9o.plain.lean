/-! the class's plains: nots and turns -/
section CPL
variable {O : mO} {u n : Nat} {T : Nat → mT} {J : Nat → Nat → Int64} {R : Nat → Nat → Option Nat} {b : Nat → Nat} {t : Nat} {md : Bool}
theorem gNt_T {k : Nat} (hk : k ≤ tkN b t) (ht : t ≤ 400) : k + gNt (fT b t) NT k ≤ tkN b t ∧ fT b t (k + gNt (fT b t) NT k) ≠ 2011 := by
  have tl := tkN_le (b := b) (t := t)
  obtain ⟨n1, n2, n3⟩ := gNt_all (fT b t) NT k
  have nt : NT = 401 := rfl
  have nT : k + gNt (fT b t) NT k ≤ tkN b t := by
    rcases Nat.eq_zero_or_pos (gNt (fT b t) NT k) with z | z
    · omega
    · have := fT_lt (b := b) (t := t) (k := k + (gNt (fT b t) NT k - 1)) (by rw [n2 _ (by omega)]; decide)
      omega
  exact ⟨nT, n3 (by omega)⟩
theorem c_nots (hS : St n T R) (hb : ∀ k, b k ≤ 255) (ht : t ≤ 400) {D k q br s : Nat} {I : Nat → Nat → Int32} (hG : CGd b t k q br s I) : ∃ I', lupF (fun (q : Int32 × Int32 × mH) => F_X6_plain_l4 O (D + 1) 1 q.1 q.2.1 q.2.2) FU (nI 0, nI 0, hp u n T I J R) = some (nI (gNt (fT b t) NT k % 2), hp u n T I' J R) ∧ CGd b t (k + gNt (fT b t) NT k) q br s I' ∧ CEx I I' ∧ I' 3 = I 3 := by
  have tl := tkN_le (b := b) (t := t)
  obtain ⟨nT, nE⟩ := gNt_T (b := b) (t := t) (k := k) hG.2.1 ht
  obtain ⟨-, n2, -⟩ := gNt_all (fT b t) NT k
  generalize gNt (fT b t) NT k = z at *
  have L : ∃ r, lupF (fun (q : Int32 × Int32 × mH) => F_X6_plain_l4 O (D + 1) 1 q.1 q.2.1 q.2.2) FU (nI 0, nI 0, hp u n T I J R) = some r ∧ ∃ I', r = (nI (z % 2), hp u n T I' J R) ∧ CGd b t (k + z) q br s I' ∧ CEx I I' ∧ I' 3 = I 3 := by
    refine lup_P0 (fun j x => ∃ I1, x = (nI (j % 2), nI j, hp u n T I1 J R) ∧ CGd b t (k + j) q br s I1 ∧ CEx I I1 ∧ I1 3 = I 3) (fun r => ∃ I', r = (nI (z % 2), hp u n T I' J R) ∧ CGd b t (k + z) q br s I' ∧ CEx I I' ∧ I' 3 = I 3) (N := z) (by omega) ⟨I, rfl, hG, CEx.refl I, rfl⟩ ?_ ?_
    · intro j x hj ⟨I1, hx, g1, g2, g3⟩
      subst hx
      left
      have e := n2 j hj
      have h5 : I1 1 5 = nI (fT b t (k + j)) := g1.2.2.2.1
      obtain ⟨I2, t1, t2, t3, t4, -⟩ := c_takeOk (O := O) (d := D) (u := u) (J := J) (x := nI 2011) hS ht g1 (by omega) (by rw [← e]; rfl)
      have par : (if nI (j % 2) = 0 then nI 1 else nI 0) = nI ((j + 1) % 2) := by
        rcases Nat.mod_two_eq_zero_or_one j with h | h
        · rw [h, show (j + 1) % 2 = 1 by omega]
          decide
        · rw [h, show (j + 1) % 2 = 0 by omega]
          decide
      refine ⟨(nI ((j + 1) % 2), nI (j + 1), hp u n T I2 J R), ?_, I2, rfl, t2, g2.trans t3, t4.trans g3⟩
      show F_X6_plain_l4 O (D + 1) 1 (nI (j % 2)) (nI j) (hp u n T I1 J R) = _
      unfold F_X6_plain_l4
      rw [if_neg (nI_ge (show j < 400 by omega) (by decide)), gi_1_5 hS, Option.bind_some, h5, e, if_pos rfl, vc_1 hS, t1, toV_v, Option.bind_some, par, nI_add]
    · intro x ⟨I1, hx, g1, g2, g3⟩
      subst hx
      have h5 : I1 1 5 = nI (fT b t (k + z)) := g1.2.2.2.1
      have mle : fT b t (k + z) ≤ 4000 := mnT_le hb _
      refine ⟨_, ?_, I1, rfl, g1, g2, g3⟩
      show F_X6_plain_l4 O (D + 1) 1 (nI (z % 2)) (nI z) (hp u n T I1 J R) = _
      unfold F_X6_plain_l4
      by_cases h4 : 400 ≤ z
      · rw [if_pos (nI_le h4 (by omega))]
      · rw [if_neg (nI_ge (show z < 400 by omega) (by decide)), gi_1_5 hS, Option.bind_some, h5, if_neg (fun w => nE ((nI_eq (by omega) (by omega)).mp w))]
  obtain ⟨r, e, I', hr, h⟩ := L
  exact ⟨I', by rw [e, hr], h⟩
/-- behind the plain: a turn, if the nots are odd -/
theorem c_turn (hS : St n T R) {D k q br s z : Nat} {I : Nat → Nat → Int32} {c : GC} (hG : CGd b t k q br (s + c.length) I) (hA : AtC (I 3) s c) (hl : z % 2 = 1 → s + c.length < 400) : ∃ I', F_X6_plain_j152 O (D + 1) 1 (nI (z % 2)) (hp u n T I J R) = some (hp u n T I' J R) ∧ CGd b t k q br (s + (c ++ tnC z).length) I' ∧ CEx I I' ∧ (∀ i, i < s → I' 3 i = I 3 i) ∧ AtC (I' 3) s (c ++ tnC z) := by
  unfold F_X6_plain_j152 tnC
  rcases Nat.mod_two_eq_zero_or_one z with h | h
  · rw [h, if_pos (show nI 0 = 0 from rfl), if_neg (show ¬ 0 = 1 by decide), List.append_nil]
    exact ⟨I, rfl, hG, CEx.refl I, fun _ _ => rfl, hA⟩
  · have av := c_addV (O := O) (d := D) (u := u) (J := J) hS hG.2.2.2.2.2.2.2 (hl h) (nI 2) (nI 0)
    obtain ⟨a1, a2, a3, a4⟩ := CGd_add hG (nI 2 + nI 16 * nI 0)
    rw [h, if_neg (show ¬ nI 1 = 0 by decide), if_pos (show 1 = 1 from rfl), ga_1_0 hS, Option.bind_some, vc_2 hS, av, toI_i, Option.bind_some]
    refine ⟨_, rfl, ?_, a2, fun i hi => a3 i (by omega), (AtC_ap c s).mpr ⟨AtC_cg c s (fun j _ h2 => a3 j h2) hA, ?_, trivial⟩⟩
    · rw [List.length_append, ← Nat.add_assoc]
      exact a1
    · rw [a4]
      rfl
theorem c_turnBd (hS : St n T R) {D y : Nat} {I : Nat → Nat → Int32} (h : CBd b t y I) (v : Int32) : ∃ I', F_X6_plain_j152 O (D + 1) 1 v (hp u n T I J R) = some (hp u n T I' J R) ∧ CBd b t y I' ∧ CEx I I' := by
  obtain ⟨rr, I', e1, e2, e3⟩ := c_addBd (O := O) (d := D) (u := u) (J := J) hS h (nI 2) (nI 0)
  unfold F_X6_plain_j152
  by_cases hv : v = 0
  · rw [if_pos hv]
    exact ⟨I, rfl, h, CEx.refl I⟩
  · rw [if_neg hv, ga_1_0 hS, Option.bind_some, vc_2 hS, e1, toI_i, Option.bind_some]
    exact ⟨I', rfl, e2, e3⟩
/-- the second sum of a comparison, behind a fault -/
theorem c_cmpBd (hS : St n T R) (ht : t ≤ 400) {D y : Nat} {I : Nat → Nat → Int32} (h : CBd b t y I) (v1 v2 w0 : Int32) : ∃ I', F_X6_plain_j134 O (D + 5) 1 v1 v2 w0 1 (hp u n T I J R) = some (hp u n T I' J R) ∧ CBd b t y I' ∧ CEx I I' := by
  obtain ⟨I2, e1, e2, e3⟩ := c_takeBd (O := O) (d := D + 4) (u := u) (J := J) (x := w0) hS ht h
  obtain ⟨I3, f1, f2, f3⟩ := c_sumBd (O := O) (d := D) (u := u) (J := J) hS ht e2
  obtain ⟨rr, I4, a1, a2, a3⟩ := c_addBd (O := O) (d := D + 4) (u := u) (J := J) hS f2 v2 (nI 0)
  obtain ⟨I5, b1, b2, b3⟩ := c_turnBd (O := O) (D := D + 4) (u := u) (J := J) hS a2 v1
  refine ⟨I5, ?_, b2, e3.trans (f3.trans (a3.trans b3))⟩
  unfold F_X6_plain_j134
  rw [vc_1 hS, e1, toV_v, Option.bind_some, vc_1 hS, f1, toV_v, Option.bind_some, ga_1_0 hS, Option.bind_some, vc_2 hS, a1, toI_i, Option.bind_some]
  exact b1
end CPL
