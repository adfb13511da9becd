/-! the class's plains, brackets too -/
section CPQ
variable {O : mO} {u n : Nat} {T : Nat → mT} {J : Nat → Nat → Int64} {R : Nat → Nat → Option Nat} {b : Nat → Nat} {t : Nat} {md : Bool}
theorem c_plainG (hS : St n T R) (hb : ∀ k, b k ≤ 255) (ht : t ≤ 400) {D F k q br s : Nat} {I : Nat → Nat → Int32} {r : GT} (hG : CGd b t k q br s I) (h9 : I 1 9 = bI md) (hsk : s ≤ k) (hq : q ≤ 50) (h8b : br ≤ 8) (hF : 3 ≤ F) (hs : CSub O u n T J R b t md (D + 5) MX6_sum [.int (nI 0)] br (fun k q => gG md (fT b t) F 2 k q br)) (hk : ∀ k q, k ≤ tkN b t → q ≤ 50 → gK md false (tkN b t) k q (gG md (fT b t) F 2 k q br)) (hs2 : br < 8 → CSub O u n T J R b t md (D + 5) MX6_test [.int (nI 0)] (br + 1) (fun k q => gG md (fT b t) F 5 k q (br + 1))) (hk2 : br < 8 → ∀ k q, k ≤ tkN b t → q ≤ 50 → gK md true (tkN b t) k q (gG md (fT b t) F 5 k q (br + 1))) (hr : gG md (fT b t) (F + 1) 3 k q br = some r) : ∃ I', ev O (D + 6) MX6_plain [.ref 1] (hp u n T I J R) = some (none, hp u n T I' J R) ∧ COu b t br s r I I' := by
  have tl := tkN_le (b := b) (t := t)
  obtain ⟨I0, z1, z2, z3, z4⟩ := c_nots (O := O) (D := D + 4) (u := u) (J := J) hS hb ht hG
  unfold gG at hr
  rw [if_neg (by decide), if_pos rfl] at hr
  generalize gNt (fT b t) NT k = z at *
  have mle : fT b t (k + z) ≤ 4000 := mnT_le hb _
  have h5 : I0 1 5 = nI (fT b t (k + z)) := z2.2.2.2.1
  have h8 : I0 1 8 = nI br := z2.2.2.2.2.2.2.1
  have h90 : I0 1 9 = bI md := z3.2.1.trans h9
  have st : ∀ {I'}, F_X6_plain_j44 O (D + 5) 1 (nI (z % 2)) (hp u n T I0 J R) = some (hp u n T I' J R) → ev O (D + 6) MX6_plain [.ref 1] (hp u n T I J R) = some (none, hp u n T I' J R) := by
    intro I' e
    refine e_X6_plain (d := D + 5) ?_
    unfold F_X6_plain
    rw [z1, Option.bind_some]
    exact e
  have up : ∀ {I'}, COu b t br s r I0 I' → COu b t br s r I I' := fun h => ⟨h.1, fun c m k' q' e => by obtain ⟨y1, y2, y3⟩ := h.2.1 c m k' q' e; exact ⟨y1, fun i hi => by rw [y2 i hi, z4], y3⟩, z3.trans h.2.2⟩
  by_cases h40 : fT b t (k + z) = 3040
  · rw [if_pos h40] at hr
    by_cases hx2 : br < 8
    · rw [if_pos hx2] at hr
      have hkl := fT_lt (b := b) (t := t) (k := k + z) (by omega)
      obtain ⟨g1, g2, g3⟩ := CGd_8 z2 (br + 1)
      obtain ⟨I2, t1, t2, t3, t4, t5⟩ := c_takeOk (O := O) (d := D + 4) (u := u) (J := J) (x := nI (fT b t (k + z))) hS ht g1 hkl rfl
      have y5 : up2 I0 1 8 (nI (br + 1)) 1 5 = nI (fT b t (k + z)) := g1.2.2.2.1
      have fin : ∀ I3 I4 y, ev O (D + 5) MX6_test [.ref 1, .int (nI 0)] (hp u n T I2 J R) = some (none, hp u n T I3 J R) → ev O (D + 5) MX6_take [.ref 1, .int (nI 3041)] (hp u n T I3 J R) = some (none, hp u n T I4 J R) → F_X6_plain_j152 O (D + 5) 1 (nI (z % 2)) (hp u n T (up2 I4 1 8 (I4 1 8 - nI 1)) J R) = y → F_X6_plain_j44 O (D + 5) 1 (nI (z % 2)) (hp u n T I0 J R) = y := by
        intro I3 I4 y s1 e1 e
        unfold F_X6_plain_j44
        rw [gi_1_5 hS, Option.bind_some, h5, if_pos (by rw [h40]), gi_1_8 hS, Option.bind_some, h8, if_neg (nI_ge hx2 (by omega)), Option.bind_some, nI_add, pi_1_8 hS, Option.bind_some, gi_1_5 hS, Option.bind_some, y5, vc_1 hS, t1, toV_v, Option.bind_some, vc_1 hS, s1, toV_v, Option.bind_some, vc_1 hS, e1, toV_v, Option.bind_some, gi_1_8 hS, Option.bind_some, pi_1_8 hS, Option.bind_some]
        exact e
      have h9' : I2 1 9 = bI md := (g2.trans t3).2.1.trans h90
      rcases hk2 hx2 (k + z + 1) q hkl hq with ⟨j, ej, j1, j2⟩ | ⟨e, l, k', q', er, r1, r2, r3, r4, r5, r6, r7, r8, r9⟩
      · rw [ej] at hr
        have hr : some (Sum.inl j) = some r := hr
        obtain ⟨I3, s1, s2, s3, s4⟩ := hs2 hx2 (k + z + 1) q s I2 (.inl j) t2 h9' (by omega) hq ej
        obtain ⟨I4, e1, e2, e3⟩ := c_takeBd (O := O) (d := D + 4) (u := u) (J := J) (x := nI 3041) hS ht (s2 j rfl)
        obtain ⟨w1, w2⟩ := CBd_8 e2 (I4 1 8 - nI 1)
        obtain ⟨I5, b1, b2, b3⟩ := c_turnBd (O := O) (D := D + 4) (u := u) (J := J) hS w1 (nI (z % 2))
        exact ⟨I5, st (fin I3 I4 _ s1 e1 b1), up (by rw [← Option.some.inj hr]; exact COu_bad b2 (g2.trans (t3.trans (s4.trans (e3.trans (w2.trans b3))))))⟩
      · rw [er] at hr
        have hr : (if fT b t k' = 3041 then some (Sum.inr (e ++ tnC z, l ++ tnM z, k' + 1, q')) else some (Sum.inl k')) = some r := hr
        obtain ⟨I3, s1, -, s3, s4⟩ := hs2 hx2 (k + z + 1) q s I2 _ t2 h9' (by omega) hq er
        obtain ⟨c1, c2, c3⟩ := s3 e l k' q' rfl
        have mle2 : fT b t k' ≤ 4000 := mnT_le hb _
        by_cases h93 : fT b t k' = 3041
        · rw [if_pos h93] at hr
          obtain ⟨I4, e1, e2, e3, e4, e5⟩ := c_takeOk (O := O) (d := D + 4) (u := u) (J := J) (x := nI 3041) hS ht c1 (fT_lt (by omega)) (by rw [← h93]; rfl)
          obtain ⟨w1, w2, w3⟩ := CGd_8 e2 br
          have f8 : I4 1 8 - nI 1 = nI br := by
            rw [show I4 1 8 = nI (br + 1) from e2.2.2.2.2.2.2.1, nI_sub (by omega), Nat.add_sub_cancel]
          obtain ⟨I5, b1, b2, b3, b4, b5⟩ := c_turn (O := O) (D := D + 4) (u := u) (J := J) (z := z) (s := s) (c := e) hS w1 (by rw [w3, e4]; exact c3) (fun _ => by omega)
          rw [← f8] at b1
          refine ⟨I5, st (fin I3 I4 _ s1 e1 b1), up ?_⟩
          rw [← Option.some.inj hr]
          rw [f8] at b1
          refine ⟨(fun j e => by cases e), fun c' m' k2 q2 e => ?_, g2.trans (t3.trans (s4.trans (e3.trans (w2.trans b3))))⟩
          cases e
          exact ⟨b2, fun i hi => by rw [b4 i hi, w3, e4, c2 i hi, t4, g3], b5⟩
        · rw [if_neg h93] at hr
          obtain ⟨I4, e1, e2, e3⟩ := c_takeNo (O := O) (d := D + 4) (u := u) (J := J) (x := nI 3041) hS ht c1 r4 (by omega) (fun w => h93 ((nI_eq (by omega) (by omega)).mp (show nI (fT b t k') = nI 3041 from w.symm)))
          obtain ⟨w1, w2⟩ := CBd_8 e2 (I4 1 8 - nI 1)
          obtain ⟨I5, b1, b2, b3⟩ := c_turnBd (O := O) (D := D + 4) (u := u) (J := J) hS w1 (nI (z % 2))
          exact ⟨I5, st (fin I3 I4 _ s1 e1 b1), up (by rw [← Option.some.inj hr]; exact COu_bad b2 (g2.trans (t3.trans (s4.trans (e3.trans (w2.trans b3))))))⟩
    · rw [if_neg hx2] at hr
      obtain ⟨I', e1, e2⟩ := c_cmp (O := O) (D := D) (u := u) (J := J) (r := r) hS hb ht z2 h90 hsk hq hs hk (by rw [gG_40 hF h40]; exact hr)
      refine ⟨I', st ?_, up e2⟩
      unfold F_X6_plain_j44
      rw [gi_1_5 hS, Option.bind_some, h5, if_pos (by rw [h40]), gi_1_8 hS, Option.bind_some, h8, if_pos (nI_le (by omega) (by omega))]
      exact e1
  · rw [if_neg h40] at hr
    obtain ⟨I', e1, e2⟩ := c_cmp (O := O) (D := D) (u := u) (J := J) hS hb ht z2 h90 hsk hq hs hk hr
    refine ⟨I', st ?_, up e2⟩
    unfold F_X6_plain_j44
    rw [gi_1_5 hS, Option.bind_some, h5, if_neg (fun w => h40 ((nI_eq (by omega) (by omega)).mp w))]
    exact e1
end CPQ
