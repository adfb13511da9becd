/-! the class's parts follow the grammar -/
theorem CGd_7 {b : Nat → Nat} {t k q br s : Nat} {I : Nat → Nat → Int32} (h : CGd b t k q br s I) (q' : Nat) : CGd b t k q' br s (up2 I 1 7 (nI q')) ∧ CEx I (up2 I 1 7 (nI q')) ∧ up2 I 1 7 (nI q') 3 = I 3 := by
  obtain ⟨y1, y2, y3, y4, y5, y6, y7, y8⟩ := h
  exact ⟨⟨CTk_cg y1 (up2_off _ _ _ (by decide)) (up2_off _ _ _ (by decide)) (up2_nk (by decide)), y2, by rw [up2_nk (by decide)]; exact y3, by rw [up2_nk (by decide)]; exact y4, by rw [up2_nk (by decide)]; exact y5, up2_at _ _ _ _, by rw [up2_nk (by decide)]; exact y7, by rw [up2_na (by decide)]; exact y8⟩, ⟨fun a h1 _ _ => up2_off _ _ _ h1, up2_nk (by decide), up2_na (by decide)⟩, up2_off _ _ _ (by decide)⟩
theorem CGd_8 {b : Nat → Nat} {t k q br s : Nat} {I : Nat → Nat → Int32} (h : CGd b t k q br s I) (br' : Nat) : CGd b t k q br' s (up2 I 1 8 (nI br')) ∧ CEx I (up2 I 1 8 (nI br')) ∧ up2 I 1 8 (nI br') 3 = I 3 := by
  obtain ⟨y1, y2, y3, y4, y5, y6, y7, y8⟩ := h
  exact ⟨⟨CTk_cg y1 (up2_off _ _ _ (by decide)) (up2_off _ _ _ (by decide)) (up2_nk (by decide)), y2, by rw [up2_nk (by decide)]; exact y3, by rw [up2_nk (by decide)]; exact y4, by rw [up2_nk (by decide)]; exact y5, by rw [up2_nk (by decide)]; exact y6, up2_at _ _ _ _, by rw [up2_na (by decide)]; exact y8⟩, ⟨fun a h1 _ _ => up2_off _ _ _ h1, up2_nk (by decide), up2_na (by decide)⟩, up2_off _ _ _ (by decide)⟩
theorem CBd_8 {b : Nat → Nat} {t y : Nat} {I : Nat → Nat → Int32} (h : CBd b t y I) (v : Int32) : CBd b t y (up2 I 1 8 v) ∧ CEx I (up2 I 1 8 v) := by
  obtain ⟨hC, h5, h6, hy, ⟨q, hq, h7⟩, s, hs, h2⟩ := h
  exact ⟨⟨CTk_cg hC (up2_off _ _ _ (by decide)) (up2_off _ _ _ (by decide)) (up2_nk (by decide)), by rw [up2_nk (by decide)]; exact h5, by rw [up2_nk (by decide)]; exact h6, hy, ⟨q, hq, by rw [up2_nk (by decide)]; exact h7⟩, s, hs, by rw [up2_na (by decide)]; exact h2⟩, ⟨fun a h1 _ _ => up2_off _ _ _ h1, up2_nk (by decide), up2_na (by decide)⟩⟩
theorem CGd_add {b : Nat → Nat} {t k q br s : Nat} {I : Nat → Nat → Int32} (h : CGd b t k q br s I) (v : Int32) : CGd b t k q br (s + 1) (up2 (up2 I 3 s v) 2 2 (nI (s + 1))) ∧ CEx I (up2 (up2 I 3 s v) 2 2 (nI (s + 1))) ∧ (∀ i, i < s → up2 (up2 I 3 s v) 2 2 (nI (s + 1)) 3 i = I 3 i) ∧ up2 (up2 I 3 s v) 2 2 (nI (s + 1)) 3 s = v := by
  obtain ⟨y1, y2, y3, y4, y5, y6, y7, y8⟩ := h
  have o1 : up2 (up2 I 3 s v) 2 2 (nI (s + 1)) 1 = I 1 := by rw [up2_off _ _ _ (by decide), up2_off _ _ _ (by decide)]
  exact ⟨⟨CTk_cg y1 (by rw [up2_off _ _ _ (by decide), up2_off _ _ _ (by decide)]) (by rw [up2_off _ _ _ (by decide), up2_off _ _ _ (by decide)]) (by rw [o1]), y2, by rw [o1]; exact y3, by rw [o1]; exact y4, by rw [o1]; exact y5, by rw [o1]; exact y6, by rw [o1]; exact y7, up2_at _ _ _ _⟩, ⟨fun a _ h2 h3 => by rw [up2_off _ _ _ h2, up2_off _ _ _ h3], by rw [o1], by rw [up2_nk (by decide), up2_na (by decide)]⟩, fun i hi => by rw [up2_na (by decide), up2_nk (by omega)], by rw [up2_na (by decide), up2_at]⟩
section CPT
variable {O : mO} {u n : Nat} {T : Nat → mT} {J : Nat → Nat → Int64} {R : Nat → Nat → Option Nat} {b : Nat → Nat} {t : Nat} {md : Bool}
theorem COu_bad {br s j : Nat} {I I' : Nat → Nat → Int32} (h1 : CBd b t (plN b t j) I') (h2 : CEx I I') : COu b t br s (.inl j) I I' := ⟨fun j' e => by cases e; exact h1, (fun _ _ _ _ e => by cases e), h2⟩
/-- a part that is no bracket -/
theorem c_leaf (hS : St n T R) (hb : ∀ k, b k ≤ 255) (ht : t ≤ 400) {D F k q br s : Nat} {I : Nat → Nat → Int32} {r : GT} (hG : CGd b t k q br s I) (h9 : I 1 9 = bI md) (hsk : s ≤ k) (hq : q ≤ 50) (hn : ¬ (fT b t k = 3091 ∧ br < 8)) (hr : gG md (fT b t) (F + 1) 0 k q br = some r) : ∃ I', F_X6_part_j99 O (D + 1) 1 (nI (fT b t k) - nI 2000) (if I 1 9 = 0 then nI 14 else nI 22) (if I 1 9 = 0 then nI 22 else nI 25) (hp u n T I J R) = some (hp u n T I' J R) ∧ COu b t br s r I I' := by
  have tl := tkN_le (b := b) (t := t)
  have hG0 := hG
  obtain ⟨hC, hkT, h4, h5, h6, h7, h8, h2⟩ := hG
  have h5 : I 1 5 = nI (fT b t k) := h5
  have mle : fT b t k ≤ 4000 := mnT_le hb _
  unfold gG at hr
  rw [if_pos rfl, if_neg hn] at hr
  by_cases q5 : 50 ≤ q
  · rw [if_pos q5] at hr
    have hr := Option.some.inj hr
    obtain ⟨I', e1, e2, e3⟩ := c_takeNo (O := O) (d := D) (u := u) (J := J) (x := -1) hS ht hG0 hq (by omega) (fun z => nI_ne1 (k := mnT b t (plN b t k)) (by have : mnT b t (plN b t k) ≤ 4000 := mle; omega) z.symm)
    refine ⟨I', ?_, by rw [← hr]; exact COu_bad e2 e3⟩
    unfold F_X6_part_j99
    rw [gi_1_7 hS, Option.bind_some, h7, if_neg (fun z => absurd ((nI_ltI (by omega) (by omega)).mp z) (by omega)), vc_1 hS, e1, toV_v, Option.bind_some]
  · rw [if_neg q5] at hr
    obtain ⟨g1, g2, g3⟩ := CGd_7 hG0 (q + 1)
    have hd : ∀ {y}, (if nI 1000 < nI (fT b t k) then if nI (fT b t k) - nI 2000 < (if I 1 9 = 0 then nI 14 else nI 22) then F_X6_part_j191 O (D + 1) 1 (hp u n T (up2 I 1 7 (nI (q + 1))) J R) else if (if I 1 9 = 0 then nI 22 else nI 25) < nI (fT b t k) - nI 2000 then F_X6_part_j191 O (D + 1) 1 (hp u n T (up2 I 1 7 (nI (q + 1))) J R) else (toI (vc O (D + 1) 5 MX5_add 2 [.int (nI 1), .int ((nI (fT b t k) - nI 2000) - (if I 1 9 = 0 then nI 14 else nI 22))] (hp u n T (up2 I 1 7 (nI (q + 1))) J R))).bind fun p54 => (gtI p54.2 1 6 5).bind fun x55 => (toV (vc O (D + 1) 6 MX6_take 1 [.int x55] p54.2)).bind fun K56 => some K56 else (toI (vc O (D + 1) 5 MX5_add 2 [.int (nI 0), .int (nI (fT b t k))] (hp u n T (up2 I 1 7 (nI (q + 1))) J R))).bind fun p59 => (gtI p59.2 1 6 5).bind fun x60 => (toV (vc O (D + 1) 6 MX6_take 1 [.int x60] p59.2)).bind fun K61 => some K61) = y → F_X6_part_j99 O (D + 1) 1 (nI (fT b t k) - nI 2000) (if I 1 9 = 0 then nI 14 else nI 22) (if I 1 9 = 0 then nI 22 else nI 25) (hp u n T I J R) = y := by
      intro y e
      unfold F_X6_part_j99
      rw [gi_1_7 hS, Option.bind_some, h7, if_pos ((nI_ltI (by omega) (by omega)).mpr (by omega)), Option.bind_some, nI_add, pi_1_7 hS, Option.bind_some, gi_1_5 hS, Option.bind_some, up2_nk (by decide), h5, ga_1_0 hS, Option.bind_some, Option.bind_some]
      exact e
    -- a leaf that stands here, of one token
    have one : ∀ op a, op ≤ 1 → fT b t k ≠ 4000 → ∃ I', ((toI (vc O (D + 1) 5 MX5_add 2 [.int (nI op), .int (nI a)] (hp u n T (up2 I 1 7 (nI (q + 1))) J R))).bind fun p59 => (gtI p59.2 1 6 5).bind fun x60 => (toV (vc O (D + 1) 6 MX6_take 1 [.int x60] p59.2)).bind fun K61 => some K61) = some (hp u n T I' J R) ∧ ∀ m, COu b t br s (.inr ([(op, a)], m, k + 1, q + 1)) I I' := by
      intro op a ho hx
      have hkl := fT_lt hx
      have av := c_addV (O := O) (d := D) (u := u) (J := J) hS g1.2.2.2.2.2.2.2 (show s < 400 by omega) (nI op) (nI a)
      obtain ⟨a1, a2, a3, a4⟩ := CGd_add g1 (nI op + nI 16 * nI a)
      obtain ⟨I', e1, e2, e3, e4, e5⟩ := c_takeOk (O := O) (d := D) (u := u) (J := J) (x := nI (fT b t k)) hS ht a1 hkl rfl
      refine ⟨I', ?_, fun m => ⟨(fun j e => by cases e), fun c' m' k' q' e => ?_, g2.trans (a2.trans e3)⟩⟩
      · rw [vc_2 hS, av, toI_i, Option.bind_some]
        dsimp only
        rw [gi_1_5 hS, Option.bind_some, show up2 (up2 (up2 I 1 7 (nI (q + 1))) 3 s (nI op + nI 16 * nI a)) 2 2 (nI (s + 1)) 1 5 = nI (fT b t k) from a1.2.2.2.1, vc_1 hS, e1, toV_v, Option.bind_some]
      · cases e
        refine ⟨e2, fun i hi => by rw [e4, a3 i hi, g3], ?_, trivial⟩
        rw [e4, a4, nI_mul, nI_add]
        unfold cEn
        rw [if_neg (show ¬ (op = 3 ∨ op = 4) by omega)]
    have hx1 : fT b t k ≤ 1001 ∨ 2000 ≤ fT b t k := by
      obtain ⟨m0, m1, m2, m3, m4⟩ := mnT_all (b := b) (t := t) (k := k) hb
      have sl := so_le (b (plN b t k))
      unfold fT
      by_cases hl : plN b t k < t
      · have := m0 hl
        by_cases s1 : so (b (plN b t k)) = 1
        · exact Or.inr (m1 hl s1).1
        · by_cases s2 : so (b (plN b t k)) = 2
          · exact Or.inl (m2 hl s2)
          · have := m3 hl (by omega)
            omega
      · have := m4 hl
        omega
    by_cases h3 : fT b t k ≤ 1000
    · rw [if_pos h3] at hr
      obtain ⟨I', e1, e2⟩ := one 0 (fT b t k) (by decide) (by omega)
      refine ⟨I', hd ?_, by rw [← Option.some.inj hr]; exact e2 _⟩
      rw [if_neg (fun z => absurd ((nI_ltI (by omega) (by omega)).mp z) (by omega))]
      exact e1
    · rw [if_neg h3] at hr
      have big : nI 1000 < nI (fT b t k) := (nI_ltI (by omega) (by omega)).mpr (by omega)
      have ev2 : (if I 1 9 = 0 then nI 14 else nI 22) = nI (if md = true then 22 else 14) := by rw [h9]; cases md <;> decide
      have ev3 : (if I 1 9 = 0 then nI 22 else nI 25) = nI (if md = true then 25 else 22) := by rw [h9]; cases md <;> decide
      have wE : wdI md (fT b t k) = if 2000 + (if md = true then 22 else 14) ≤ fT b t k ∧ fT b t k ≤ 2000 + (if md = true then 25 else 22) then fT b t k - (1999 + (if md = true then 22 else 14)) else 0 := by
        unfold wdI
        cases md <;> rfl
      have f1 : (if md = true then 22 else 14) ≤ 22 ∧ 14 ≤ (if md = true then 22 else 14) ∧ (if md = true then 25 else 22) ≤ 25 := by cases md <;> decide
      rw [ev2, ev3] at hd ⊢
      generalize (if md = true then 22 else 14) = lo at *
      generalize (if md = true then 25 else 22) = hi at *
      by_cases hw : 2000 + lo ≤ fT b t k ∧ fT b t k ≤ 2000 + hi
      · rw [if_pos hw] at wE
        rw [if_pos (show wdI md (fT b t k) ≠ 0 by omega), show wdI md (fT b t k) - 1 = fT b t k - 2000 - lo by omega] at hr
        obtain ⟨I', e1, e2⟩ := one 1 (fT b t k - 2000 - lo) (by decide) (by omega)
        refine ⟨I', hd ?_, by rw [← Option.some.inj hr]; exact e2 _⟩
        rw [if_pos big, nI_sub (by omega), if_neg (fun z => absurd ((nI_ltI (by omega) (by omega)).mp z) (by omega)), if_neg (fun z => absurd ((nI_ltI (by omega) (by omega)).mp z) (by omega)), nI_sub (by omega)]
        exact e1
      · rw [if_neg hw] at wE
        rw [if_neg (show ¬ wdI md (fT b t k) ≠ 0 by omega)] at hr
        have toJ : ∀ {y}, F_X6_part_j191 O (D + 1) 1 (hp u n T (up2 I 1 7 (nI (q + 1))) J R) = y → F_X6_part_j99 O (D + 1) 1 (nI (fT b t k) - nI 2000) (nI lo) (nI hi) (hp u n T I J R) = y := by
          intro y e
          apply hd
          rw [if_pos big, e]
          by_cases h2 : 2000 ≤ fT b t k
          · rw [nI_sub h2]
            by_cases hlo : fT b t k - 2000 < lo
            · rw [if_pos ((nI_ltI (by omega) (by omega)).mpr hlo)]
            · rw [if_neg (fun z => hlo ((nI_ltI (by omega) (by omega)).mp z)), if_pos ((nI_ltI (by omega) (by omega)).mpr (by omega))]
          · have e1 : fT b t k = 1001 := by omega
            have e2 : ∀ v, v ≤ 22 → nI 1001 - nI 2000 < nI v := by decide
            rw [e1, if_pos (e2 lo f1.1)]
        have mle2 : mnT b t (plN b t k) ≤ 4000 := mle
        obtain ⟨Ib, b1, b2, b3⟩ := c_takeNo (O := O) (d := D) (u := u) (J := J) (x := -1) hS ht g1 (by omega) (by omega) (fun z => nI_ne1 (k := mnT b t (plN b t k)) (by omega) z.symm)
        have j317 : F_X6_part_j317 O (D + 1) 1 (hp u n T (up2 I 1 7 (nI (q + 1))) J R) = some (hp u n T Ib J R) := by
          unfold F_X6_part_j317
          rw [vc_1 hS, b1, toV_v, Option.bind_some]
        have i9 : up2 I 1 7 (nI (q + 1)) 1 9 = bI md := by rw [up2_nk (by decide)]; exact h9
        have i5 : up2 I 1 7 (nI (q + 1)) 1 5 = nI (fT b t k) := by rw [up2_nk (by decide)]; exact h5
        -- a word and a number behind it
        have two : ∀ base lim, base ≤ 12 → lim ≤ 8 → fT b t k ≠ 4000 → ∃ I', ((toV (vc O (D + 1) 6 MX6_take 1 [.int (nI (fT b t k))] (hp u n T (up2 I 1 7 (nI (q + 1))) J R))).bind fun K42 => (gtA K42 1 6 0).bind fun x43 => (gtI K42 1 6 5).bind fun x44 => (toI (vc O (D + 1) 5 MX5_add x43 [.int (nI 1), .int ((nI base) + x44)] K42)).bind fun p45 => (gtI p45.2 1 6 5).bind fun x46 => if (nI lim) ≤ x46 then (toV (vc O (D + 1) 6 MX6_take 1 [.int (-1)] p45.2)).bind fun K49 => some K49 else (gtI p45.2 1 6 5).bind fun x50 => (toV (vc O (D + 1) 6 MX6_take 1 [.int x50] p45.2)).bind fun K49 => some K49) = some (hp u n T I' J R) ∧ (¬ fT b t (k + 1) < lim → COu b t br s (.inl (k + 1)) I I') ∧ ∀ m, fT b t (k + 1) < lim → COu b t br s (.inr ([(1, base + fT b t (k + 1))], m, k + 2, q + 1)) I I' := by
          intro base lim hba hli hx
          have hkl := fT_lt hx
          have mle3 : mnT b t (plN b t (k + 1)) ≤ 4000 := mnT_le hb _
          have mle4 : fT b t (k + 1) ≤ 4000 := mle3
          obtain ⟨I2, t1, t2, t3, t4, t5⟩ := c_takeOk (O := O) (d := D) (u := u) (J := J) (x := nI (fT b t k)) hS ht g1 hkl rfl
          have av := c_addV (O := O) (d := D) (u := u) (J := J) hS t2.2.2.2.2.2.2.2 (show s < 400 by omega) (nI 1) (nI (base + fT b t (k + 1)))
          obtain ⟨a1, a2, a3, a4⟩ := CGd_add t2 (nI 1 + nI 16 * nI (base + fT b t (k + 1)))
          have x5 : I2 1 5 = nI (fT b t (k + 1)) := t2.2.2.2.1
          have y5 : up2 (up2 I2 3 s (nI 1 + nI 16 * nI (base + fT b t (k + 1)))) 2 2 (nI (s + 1)) 1 5 = nI (fT b t (k + 1)) := a1.2.2.2.1
          by_cases hlt : fT b t (k + 1) < lim
          · obtain ⟨I', e1, e2, e3, e4, e5⟩ := c_takeOk (O := O) (d := D) (u := u) (J := J) (x := nI (fT b t (k + 1))) hS ht a1 (fT_lt (by omega)) rfl
            refine ⟨I', ?_, fun z => absurd hlt z, fun m _ => ⟨(fun j e => by cases e), fun c' m' k' q' e => ?_, g2.trans (t3.trans (a2.trans e3))⟩⟩
            · rw [vc_1 hS, t1, toV_v, Option.bind_some, ga_1_0 hS, Option.bind_some, gi_1_5 hS, Option.bind_some, x5, nI_add, vc_2 hS, av, toI_i, Option.bind_some]
              dsimp only
              rw [gi_1_5 hS, Option.bind_some, y5, if_neg (nI_ge hlt (by omega)), Option.bind_some, vc_1 hS, e1, toV_v, Option.bind_some]
            · cases e
              refine ⟨e2, fun i hi => by rw [e4, a3 i hi, t4, g3], ?_, trivial⟩
              rw [e4, a4, nI_mul, nI_add]
              rfl
          · obtain ⟨I', e1, e2, e3⟩ := c_takeNo (O := O) (d := D) (u := u) (J := J) (x := -1) hS ht a1 (by omega) (by omega) (fun z => nI_ne1 (k := mnT b t (plN b t (k + 1))) (by omega) z.symm)
            refine ⟨I', ?_, fun _ => COu_bad e2 (g2.trans (t3.trans (a2.trans e3))), fun m z => absurd z hlt⟩
            rw [vc_1 hS, t1, toV_v, Option.bind_some, ga_1_0 hS, Option.bind_some, gi_1_5 hS, Option.bind_some, x5, nI_add, vc_2 hS, av, toI_i, Option.bind_some]
            dsimp only
            rw [gi_1_5 hS, Option.bind_some, y5, if_pos (nI_le (by omega) (by omega)), vc_1 hS, e1, toV_v, Option.bind_some]
        cases md with
        | false =>
          rw [if_neg (by simp), if_neg (by simp)] at hr
          refine ⟨Ib, toJ ?_, by rw [← Option.some.inj hr]; exact COu_bad b2 (g2.trans b3)⟩
          unfold F_X6_part_j191 F_X6_part_j254
          rw [gi_1_9 hS, Option.bind_some, i9, if_pos (by decide), Option.bind_some, if_pos (by decide), j317]
        | true =>
          by_cases h20 : fT b t k = 2020
          · obtain ⟨I', e1, e2, e3⟩ := two 4 8 (by decide) (by decide) (by omega)
            rw [if_pos ⟨rfl, h20⟩] at hr
            refine ⟨I', toJ ?_, ?_⟩
            · unfold F_X6_part_j191 F_X6_part_j248
              rw [gi_1_9 hS, Option.bind_some, i9, if_neg (by decide), gi_1_5 hS, Option.bind_some, i5, h20, if_pos rfl]
              rw [h20] at e1
              exact e1
            · by_cases hlt : fT b t (k + 1) < 8
              · rw [if_pos hlt] at hr
                rw [← Option.some.inj hr]
                exact e3 _ hlt
              · rw [if_neg hlt] at hr
                rw [← Option.some.inj hr]
                exact e2 hlt
          · rw [if_neg (fun z => h20 z.2)] at hr
            have n20 : ¬ nI (fT b t k) = nI 2020 := fun z => h20 ((nI_eq (by omega) (by omega)).mp z)
            by_cases h21 : fT b t k = 2021
            · obtain ⟨I', e1, e2, e3⟩ := two 12 4 (by decide) (by decide) (by omega)
              rw [if_pos ⟨rfl, h21⟩] at hr
              refine ⟨I', toJ ?_, ?_⟩
              · unfold F_X6_part_j191 F_X6_part_j254 F_X6_part_j311
                rw [gi_1_9 hS, Option.bind_some, i9, if_neg (by decide), gi_1_5 hS, Option.bind_some, i5, if_neg n20, Option.bind_some, if_neg (by decide), Option.bind_some, h21, if_pos rfl]
                rw [h21] at e1
                exact e1
              · by_cases hlt : fT b t (k + 1) < 4
                · rw [if_pos hlt] at hr
                  rw [← Option.some.inj hr]
                  exact e3 _ hlt
                · rw [if_neg hlt] at hr
                  rw [← Option.some.inj hr]
                  exact e2 hlt
            · rw [if_neg (fun z => h21 z.2)] at hr
              have n21 : ¬ nI (fT b t k) = nI 2021 := fun z => h21 ((nI_eq (by omega) (by omega)).mp z)
              refine ⟨Ib, toJ ?_, by rw [← Option.some.inj hr]; exact COu_bad b2 (g2.trans b3)⟩
              unfold F_X6_part_j191 F_X6_part_j254
              rw [gi_1_9 hS, Option.bind_some, i9, if_neg (by decide), gi_1_5 hS, Option.bind_some, i5, if_neg n20, Option.bind_some, if_neg (by decide), Option.bind_some, if_neg n21, j317]
end CPT
