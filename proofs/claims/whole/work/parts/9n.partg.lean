/-! the class's parts, brackets too -/
section CPG
variable {O : mO} {u n : Nat} {T : Nat → mT} {J : Nat → Nat → Int64} {R : Nat → Nat → Option Nat} {b : Nat → Nat} {t : Nat} {md : Bool}
theorem c_partG (hS : St n T R) (hb : ∀ k, b k ≤ 255) (ht : t ≤ 400) {D F k q br s : Nat} {I : Nat → Nat → Int32} {r : GT} (hG : CGd b t k q br s I) (h9 : I 1 9 = bI md) (hsk : s ≤ k) (hq : q ≤ 50) (h8b : br ≤ 8) (hs : br < 8 → CSub O u n T J R b t md (D + 1) MX6_sum [.int (nI 0)] (br + 1) (fun k q => gG md (fT b t) F 2 k q (br + 1))) (hk : br < 8 → ∀ k q, k ≤ tkN b t → q ≤ 50 → gK md false (tkN b t) k q (gG md (fT b t) F 2 k q (br + 1))) (hr : gG md (fT b t) (F + 1) 0 k q br = some r) : ∃ I', ev O (D + 2) MX6_part [.ref 1] (hp u n T I J R) = some (none, hp u n T I' J R) ∧ COu b t br s r I I' := by
  have tl := tkN_le (b := b) (t := t)
  have mle : fT b t k ≤ 4000 := mnT_le hb _
  have h5 : I 1 5 = nI (fT b t k) := hG.2.2.2.1
  have h8 : I 1 8 = nI br := hG.2.2.2.2.2.2.1
  by_cases hx : fT b t k = 3091 ∧ br < 8
  · obtain ⟨hx1, hx2⟩ := hx
    unfold gG at hr
    rw [if_pos rfl, if_pos ⟨hx1, hx2⟩] at hr
    have hkl := fT_lt (b := b) (t := t) (k := k) (by omega)
    obtain ⟨g1, g2, g3⟩ := CGd_8 hG (br + 1)
    obtain ⟨I2, t1, t2, t3, t4, t5⟩ := c_takeOk (O := O) (d := D) (u := u) (J := J) (x := nI (fT b t k)) hS ht g1 hkl rfl
    have y5 : up2 I 1 8 (nI (br + 1)) 1 5 = nI (fT b t k) := g1.2.2.2.1
    have fin : ∀ I3 I4, ev O (D + 1) MX6_sum [.ref 1, .int (nI 0)] (hp u n T I2 J R) = some (none, hp u n T I3 J R) → ev O (D + 1) MX6_take [.ref 1, .int (nI 3093)] (hp u n T I3 J R) = some (none, hp u n T I4 J R) → ev O (D + 2) MX6_part [.ref 1] (hp u n T I J R) = some (none, hp u n T (up2 I4 1 8 (I4 1 8 - nI 1)) J R) := by
      intro I3 I4 s1 e1
      refine e_X6_part (d := D + 1) ?_
      unfold F_X6_part
      rw [gi_1_5 hS, Option.bind_some, gi_1_9 hS, Option.bind_some, Option.bind_some, Option.bind_some, h5, if_pos (by rw [hx1]), gi_1_8 hS, Option.bind_some, h8, if_neg (nI_ge hx2 (by omega)), Option.bind_some, nI_add, pi_1_8 hS, Option.bind_some, gi_1_5 hS, Option.bind_some, y5, vc_1 hS, t1, toV_v, Option.bind_some, vc_1 hS, s1, toV_v, Option.bind_some, vc_1 hS, e1, toV_v, Option.bind_some, gi_1_8 hS, Option.bind_some, pi_1_8 hS, Option.bind_some]
    have h9' : I2 1 9 = bI md := (g2.trans t3).2.1.trans h9
    rcases hk hx2 (k + 1) q hkl hq with ⟨j, ej, j1, j2⟩ | ⟨e, l, k', q', er, r1, r2, r3, r4, r5, r6, r7, r8, r9⟩
    · rw [ej] at hr
      have hr : some (Sum.inl j) = some r := hr
      obtain ⟨I3, s1, s2, s3, s4⟩ := hs hx2 (k + 1) q s I2 (.inl j) t2 h9' (by omega) hq ej
      obtain ⟨I4, e1, e2, e3⟩ := c_takeBd (O := O) (d := D) (u := u) (J := J) (x := nI 3093) hS ht (s2 j rfl)
      obtain ⟨z1, z2⟩ := CBd_8 e2 (I4 1 8 - nI 1)
      exact ⟨_, fin I3 I4 s1 e1, by rw [← Option.some.inj hr]; exact COu_bad z1 (g2.trans (t3.trans (s4.trans (e3.trans z2))))⟩
    · rw [er] at hr
      have hr : (if fT b t k' = 3093 then some (Sum.inr (e, l, k' + 1, q')) else some (Sum.inl k')) = some r := hr
      obtain ⟨I3, s1, -, s3, s4⟩ := hs hx2 (k + 1) q s I2 _ t2 h9' (by omega) hq er
      obtain ⟨c1, c2, c3⟩ := s3 e l k' q' rfl
      have mle2 : fT b t k' ≤ 4000 := mnT_le hb _
      by_cases h93 : fT b t k' = 3093
      · rw [if_pos h93] at hr
        obtain ⟨I4, e1, e2, e3, e4, e5⟩ := c_takeOk (O := O) (d := D) (u := u) (J := J) (x := nI 3093) hS ht c1 (fT_lt (by omega)) (by rw [← h93]; rfl)
        obtain ⟨z1, z2, z3⟩ := CGd_8 e2 br
        have f8 : I4 1 8 - nI 1 = nI br := by
          rw [show I4 1 8 = nI (br + 1) from e2.2.2.2.2.2.2.1, nI_sub (by omega), Nat.add_sub_cancel]
        have fi := fin I3 I4 s1 e1
        rw [f8] at fi
        refine ⟨_, fi, ?_⟩
        rw [← Option.some.inj hr]
        refine ⟨(fun j e => by cases e), fun c' m' k2 q2 e => ?_, g2.trans (t3.trans (s4.trans (e3.trans z2)))⟩
        cases e
        exact ⟨z1, fun i hi => by rw [z3, e4, c2 i hi, t4, g3], by rw [z3, e4]; exact c3⟩
      · rw [if_neg h93] at hr
        obtain ⟨I4, e1, e2, e3⟩ := c_takeNo (O := O) (d := D) (u := u) (J := J) (x := nI 3093) hS ht c1 r4 (by omega) (fun z => h93 ((nI_eq (by omega) (by omega)).mp (show nI (fT b t k') = nI 3093 from z.symm)))
        obtain ⟨z1, z2⟩ := CBd_8 e2 (I4 1 8 - nI 1)
        exact ⟨_, fin I3 I4 s1 e1, by rw [← Option.some.inj hr]; exact COu_bad z1 (g2.trans (t3.trans (s4.trans (e3.trans z2))))⟩
  · obtain ⟨I', e1, e2⟩ := c_leaf (O := O) (D := D) (u := u) (J := J) hS hb ht hG h9 hsk hq hx hr
    refine ⟨I', e_X6_part (d := D + 1) ?_, e2⟩
    unfold F_X6_part
    rw [gi_1_5 hS, Option.bind_some, gi_1_9 hS, Option.bind_some, Option.bind_some, Option.bind_some, h5]
    by_cases h91 : fT b t k = 3091
    · rw [if_pos (by rw [h91]), gi_1_8 hS, Option.bind_some, h8, if_pos (nI_le (by omega) (by omega))]
      exact e1
    · rw [if_neg (fun z => h91 ((nI_eq (by omega) (by omega)).mp z))]
      exact e1
end CPG
