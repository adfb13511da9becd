/-! the class's plains follow the grammar -/
section CPP
variable {O : mO} {u n : Nat} {T : Nat → mT} {J : Nat → Nat → Int64} {R : Nat → Nat → Option Nat} {b : Nat → Nat} {t : Nat} {md : Bool}
theorem gG_40 {f : Nat → Nat} {F k q br : Nat} (hF : 3 ≤ F) (hf : f k = 3040) : gG md f F 2 k q br = some (.inl k) := by
  obtain ⟨F, rfl⟩ : ∃ x, F = x + 3 := ⟨F - 3, by omega⟩
  have p0 : gG md f (F + 1) 0 k q br = some (.inl k) := by
    unfold gG
    have w0 : ¬ wdI md 3040 ≠ 0 := by cases md <;> decide
    rw [if_pos rfl, hf, if_neg (by omega)]
    by_cases h : 50 ≤ q
    · rw [if_pos h]
    · rw [if_neg h, if_neg (by decide), if_neg w0, if_neg (fun z => absurd z.2 (by decide)), if_neg (fun z => absurd z.2 (by decide))]
  have p1 : gG md f (F + 2) 1 k q br = some (.inl k) := by
    unfold gG
    rw [if_neg (by decide), if_neg (by decide)]
    show gB (gG md f (F + 1) 0 k q br) _ = _
    rw [p0]
    rfl
  unfold gG
  rw [if_neg (by decide), if_neg (by decide)]
  show gB (gG md f (F + 2) 1 k q br) _ = _
  rw [p1]
  rfl
theorem c_cmp (hS : St n T R) (hb : ∀ k, b k ≤ 255) (ht : t ≤ 400) {D F k q br s z : Nat} {I : Nat → Nat → Int32} {r : GT} (hG : CGd b t (k + z) q br s I) (h9 : I 1 9 = bI md) (hsk : s ≤ k) (hq : q ≤ 50) (hs : CSub O u n T J R b t md (D + 5) MX6_sum [.int (nI 0)] br (fun k q => gG md (fT b t) F 2 k q br)) (hk : ∀ k q, k ≤ tkN b t → q ≤ 50 → gK md false (tkN b t) k q (gG md (fT b t) F 2 k q br)) (hr : (gB (gG md (fT b t) F 2 (k + z) q br) fun c m k' q' => if sgO (fT b t k') < 10 then some (.inl k') else gB (gG md (fT b t) F 2 (k' + 1) q' br) fun e l k2 q2 => some (.inr (c ++ e ++ [(sgO (fT b t k'), 0)] ++ tnC z, m ++ l ++ [(sgO (fT b t k') + 15, 0)] ++ tnM z, k2, q2))) = some r) : ∃ I', F_X6_plain_j106 O (D + 5) 1 (nI (z % 2)) (hp u n T I J R) = some (hp u n T I' J R) ∧ COu b t br s r I I' := by
  have tl := tkN_le (b := b) (t := t)
  rcases hk (k + z) q hG.2.1 hq with ⟨j, ej, j1, j2⟩ | ⟨c, m, k', q', er, r1, r2, r3, r4, r5, r6, r7, r8, r9⟩
  · rw [ej] at hr
    have hr : some (Sum.inl j) = some r := hr
    obtain ⟨I2, s1, s2, s3, s4⟩ := hs (k + z) q s I (.inl j) hG h9 (by omega) hq ej
    have bd := s2 j rfl
    obtain ⟨I3, e1, e2, e3⟩ := c_cmpBd (O := O) (D := D) (u := u) (J := J) hS ht bd (nI (z % 2)) (-1) (-1)
    refine ⟨I3, ?_, by rw [← Option.some.inj hr]; exact COu_bad e2 (s4.trans e3)⟩
    unfold F_X6_plain_j106
    rw [vc_1 hS, s1, toV_v, Option.bind_some, gi_1_5 hS, Option.bind_some, bd.2.1, c_step (by decide), toI_i, Option.bind_some, if_pos (show sgO 4000 = 0 by decide)]
    dsimp only
    rw [if_pos (by decide)]
    exact e1
  · rw [er] at hr
    have hr : (if sgO (fT b t k') < 10 then some (.inl k') else gB (gG md (fT b t) F 2 (k' + 1) q' br) fun e l k2 q2 => some (.inr (c ++ e ++ [(sgO (fT b t k'), 0)] ++ tnC z, m ++ l ++ [(sgO (fT b t k') + 15, 0)] ++ tnM z, k2, q2))) = some r := hr
    obtain ⟨I2, s1, -, s3, s4⟩ := hs (k + z) q s I _ hG h9 (by omega) hq er
    obtain ⟨c1, c2, c3⟩ := s3 c m k' q' rfl
    have mle : fT b t k' ≤ 4000 := mnT_le hb _
    have mle2 : mnT b t (plN b t k') ≤ 4000 := mle
    have h5 : I2 1 5 = nI (fT b t k') := c1.2.2.2.1
    have sl := sgO_le (fT b t k')
    have hd : ∀ {y}, (if (if sgO (fT b t k') = 0 then (-1 : Int32) else nI (sgO (fT b t k'))) < nI 10 then F_X6_plain_j134 O (D + 5) 1 (nI (z % 2)) (if sgO (fT b t k') = 0 then (-1 : Int32) else nI (sgO (fT b t k'))) (-1) 1 (hp u n T I2 J R) else F_X6_plain_j134 O (D + 5) 1 (nI (z % 2)) (if sgO (fT b t k') = 0 then (-1 : Int32) else nI (sgO (fT b t k'))) (nI (fT b t k')) 1 (hp u n T I2 J R)) = y → F_X6_plain_j106 O (D + 5) 1 (nI (z % 2)) (hp u n T I J R) = y := by
      intro y e
      unfold F_X6_plain_j106
      rw [vc_1 hS, s1, toV_v, Option.bind_some, gi_1_5 hS, Option.bind_some, h5, c_step mle, toI_i, Option.bind_some]
      dsimp only
      rw [gi_1_5 hS, Option.bind_some, h5]
      exact e
    by_cases h10 : sgO (fT b t k') < 10
    · rw [if_pos h10] at hr
      have lt : (if sgO (fT b t k') = 0 then (-1 : Int32) else nI (sgO (fT b t k'))) < nI 10 := by
        by_cases s0 : sgO (fT b t k') = 0
        · rw [if_pos s0]
          decide
        · rw [if_neg s0]
          exact (nI_ltI (by omega) (by omega)).mpr h10
      obtain ⟨I3, e1, e2, e3⟩ := c_takeNo (O := O) (d := D + 4) (u := u) (J := J) (x := -1) hS ht c1 r4 (by omega) (fun w => nI_ne1 (k := mnT b t (plN b t k')) (by omega) w.symm)
      obtain ⟨I4, f1, f2, f3⟩ := c_sumBd (O := O) (d := D) (u := u) (J := J) hS ht e2
      obtain ⟨rr, I5, a1, a2, a3⟩ := c_addBd (O := O) (d := D + 4) (u := u) (J := J) hS f2 (if sgO (fT b t k') = 0 then (-1 : Int32) else nI (sgO (fT b t k'))) (nI 0)
      obtain ⟨I6, b1, b2, b3⟩ := c_turnBd (O := O) (D := D + 4) (u := u) (J := J) hS a2 (nI (z % 2))
      refine ⟨I6, hd ?_, by rw [← Option.some.inj hr]; exact COu_bad b2 (s4.trans (e3.trans (f3.trans (a3.trans b3))))⟩
      rw [if_pos lt]
      unfold F_X6_plain_j134
      rw [vc_1 hS, e1, toV_v, Option.bind_some, vc_1 hS, f1, toV_v, Option.bind_some, ga_1_0 hS, Option.bind_some, vc_2 hS, a1, toI_i, Option.bind_some]
      exact b1
    · rw [if_neg h10] at hr
      have s0 : sgO (fT b t k') ≠ 0 := by omega
      have hkl := fT_lt (b := b) (t := t) (k := k') (by have := sl.2 s0; omega)
      obtain ⟨I3, e1, e2, e3, e4, -⟩ := c_takeOk (O := O) (d := D + 4) (u := u) (J := J) (x := nI (fT b t k')) hS ht c1 hkl rfl
      have go : ∀ {y}, F_X6_plain_j134 O (D + 5) 1 (nI (z % 2)) (nI (sgO (fT b t k'))) (nI (fT b t k')) 1 (hp u n T I2 J R) = y → F_X6_plain_j106 O (D + 5) 1 (nI (z % 2)) (hp u n T I J R) = y := by
        intro y e
        apply hd
        rw [if_neg s0, if_neg (fun w => h10 ((nI_ltI (by omega) (by omega)).mp w))]
        exact e
      rcases hk (k' + 1) q' hkl r4 with ⟨j, ej, j1, j2⟩ | ⟨e, l, k2, q2, er2, p1, p2, p3, p4, p5, p6, p7, p8, p9⟩
      · rw [ej] at hr
        have hr : some (Sum.inl j) = some r := hr
        obtain ⟨I4, f1, f2, -, f3⟩ := hs (k' + 1) q' (s + c.length) I3 (.inl j) e2 ((s4.trans e3).2.1.trans h9) (by omega) r4 ej
        obtain ⟨rr, I5, a1, a2, a3⟩ := c_addBd (O := O) (d := D + 4) (u := u) (J := J) hS (f2 j rfl) (nI (sgO (fT b t k'))) (nI 0)
        obtain ⟨I6, b1, b2, b3⟩ := c_turnBd (O := O) (D := D + 4) (u := u) (J := J) hS a2 (nI (z % 2))
        refine ⟨I6, go ?_, by rw [← Option.some.inj hr]; exact COu_bad b2 (s4.trans (e3.trans (f3.trans (a3.trans b3))))⟩
        unfold F_X6_plain_j134
        rw [vc_1 hS, e1, toV_v, Option.bind_some, vc_1 hS, f1, toV_v, Option.bind_some, ga_1_0 hS, Option.bind_some, vc_2 hS, a1, toI_i, Option.bind_some]
        exact b1
      · rw [er2] at hr
        have hr : some (Sum.inr (c ++ e ++ [(sgO (fT b t k'), 0)] ++ tnC z, m ++ l ++ [(sgO (fT b t k') + 15, 0)] ++ tnM z, k2, q2)) = some r := hr
        obtain ⟨I4, f1, -, f2, f3⟩ := hs (k' + 1) q' (s + c.length) I3 _ e2 ((s4.trans e3).2.1.trans h9) (by omega) r4 er2
        obtain ⟨g1, g2, g3⟩ := f2 e l k2 q2 rfl
        have av := c_addV (O := O) (d := D + 4) (u := u) (J := J) hS g1.2.2.2.2.2.2.2 (show s + c.length + e.length < 400 by omega) (nI (sgO (fT b t k'))) (nI 0)
        obtain ⟨a1, a2, a3, a4⟩ := CGd_add g1 (nI (sgO (fT b t k')) + nI 16 * nI 0)
        generalize up2 (up2 I4 3 (s + c.length + e.length) (nI (sgO (fT b t k')) + nI 16 * nI 0)) 2 2 (nI (s + c.length + e.length + 1)) = I5 at *
        have hln : (c ++ e ++ [(sgO (fT b t k'), 0)]).length = c.length + e.length + 1 := by rw [List.length_append, List.length_append]; rfl
        have bel : ∀ i, i < s + c.length → I5 3 i = I2 3 i := fun i hi => by rw [a3 i (by omega), g2 i hi, e4]
        have at5 : AtC (I5 3) s (c ++ e ++ [(sgO (fT b t k'), 0)]) := by
          refine (AtC_ap (c ++ e) s).mpr ⟨(AtC_ap c s).mpr ⟨AtC_cg c s (fun j j1 j2 => bel j (by omega)) c3, AtC_cg e _ (fun j j1 j2 => a3 j (by omega)) g3⟩, ?_, trivial⟩
          rw [List.length_append, ← Nat.add_assoc, a4, nI_mul, nI_add]
          unfold cEn
          rw [if_neg (show ¬ (sgO (fT b t k') = 3 ∨ sgO (fT b t k') = 4) by omega)]
        obtain ⟨I6, b1, b2, b3, b4, b5⟩ := c_turn (O := O) (D := D + 4) (u := u) (J := J) (z := z) (s := s) (c := c ++ e ++ [(sgO (fT b t k'), 0)]) hS (by rw [hln, show s + (c.length + e.length + 1) = s + c.length + e.length + 1 by omega]; exact a1) at5 (fun _ => by rw [hln]; omega)
        refine ⟨I6, go ?_, ?_⟩
        · unfold F_X6_plain_j134
          rw [vc_1 hS, e1, toV_v, Option.bind_some, vc_1 hS, f1, toV_v, Option.bind_some, ga_1_0 hS, Option.bind_some, vc_2 hS, av, toI_i, Option.bind_some]
          exact b1
        · rw [← Option.some.inj hr]
          refine ⟨(fun j e => by cases e), fun c' m' k3 q3 e => ?_, s4.trans (e3.trans (f3.trans (a2.trans b3)))⟩
          cases e
          exact ⟨b2, fun i hi => by rw [b4 i hi, bel i (by omega), c2 i hi], b5⟩
end CPP
