/-! the class's tests follow the grammar -/
section CTS
variable {O : mO} {u n : Nat} {T : Nat → mT} {J : Nat → Nat → Int64} {R : Nat → Nat → Option Nat} {b : Nat → Nat} {t : Nat} {md : Bool}
theorem c_testLp (hS : St n T R) (hb : ∀ k, b k ≤ 255) (ht : t ≤ 400) {D lv br s : Nat} {I : Nat → Nat → Int32} (hl : lv = 4 ∨ lv = 5) {sub : Nat → Nat → Option GT} (hs : CSub O u n T J R b t md (D + 1) MX6_test [.int (nI (5 - lv) + nI 1)] br sub) (hk : ∀ k q, k ≤ tkN b t → q ≤ 50 → gK md true (tkN b t) k q (sub k q)) : ∀ (m0 fu i : Nat) (c m : GC) (k q : Nat) (I1 : Nat → Nat → Int32) (r : GT), CGd b t k q br (s + c.length) I1 → AtC (I1 3) s c → (∀ i, i < s → I1 3 i = I 3 i) → CEx I I1 → I1 1 9 = bI md → s + c.length ≤ k → q ≤ 50 → i < k → m0 < fu → gLp (fT b t) lv sub m0 c m k q = some r → ∃ I', lupF (fun (q : Int32 × mH) => F_X6_test_l33 O (D + 1) 1 (nI (5 - lv)) (nI (if lv = 5 then 2009 else 2010)) q.1 q.2) fu (nI i, hp u n T I1 J R) = some (hp u n T I' J R) ∧ COu b t br s r I I' := by
  have tl := tkN_le (b := b) (t := t)
  intro m0
  induction m0 with
  | zero =>
    intro fu i c m k q I1 r _ _ _ _ _ _ _ _ _ h
    cases h
  | succ m0 ih =>
    intro fu i c m k q I1 r hG hA hB hE h9 hsk hq hik hfu hr
    obtain ⟨fu, rfl⟩ : ∃ x, fu = x + 1 := ⟨fu - 1, by omega⟩
    have hG0 := hG
    obtain ⟨hC, hkT, h4, h5, h6, h7, h8, h2⟩ := hG
    have mle : fT b t k ≤ 4000 := mnT_le hb _
    have h5 : I1 1 5 = nI (fT b t k) := h5
    unfold gLp at hr
    have e400 : ¬ nI 400 ≤ nI i := nI_ge (show i < 400 by omega) (by decide)
    have hv : (if lv = 5 then 2009 else 2010) ≤ 2010 := by split <;> decide
    have lvE : lvO lv (fT b t k) = if fT b t k = (if lv = 5 then 2009 else 2010) then (if lv = 5 then 3 else 4) else 0 := by
      unfold lvO
      rcases hl with rfl | rfl
      · rfl
      · rw [if_neg (by decide), if_neg (by decide), if_neg (by decide), if_pos rfl, if_pos rfl]
    have op34 : (if lv = 5 then 3 else 4) = 3 ∨ (if lv = 5 then 3 else 4) = 4 := by split <;> simp
    have opE : (if nI (5 - lv) = 0 then nI 3 else nI 4) = nI (if lv = 5 then 3 else 4) := by
      rcases hl with rfl | rfl <;> decide
    by_cases hx : fT b t k = (if lv = 5 then 2009 else 2010)
    · rw [if_pos hx] at lvE
      rw [lvE, if_neg (by omega)] at hr
      generalize (if lv = 5 then 2009 else 2010) = vv at *
      generalize (if lv = 5 then 3 else 4) = op at *
      have hkl := fT_lt (b := b) (t := t) (k := k) (by omega)
      obtain ⟨I2, t1, t2, t3, t4, t5⟩ := c_takeOk (O := O) (d := D) (u := u) (J := J) (x := nI vv) hS ht hG0 hkl (by rw [← hx]; rfl)
      have av := c_addV (O := O) (d := D) (u := u) (J := J) hS t2.2.2.2.2.2.2.2 (show s + c.length < 400 by omega) (nI op) (nI 0)
      generalize hI3 : up2 (up2 I2 3 (s + c.length) (nI op + nI 16 * nI 0)) 2 2 (nI (s + c.length + 1)) = I3 at *
      have w1 : I3 1 = I2 1 := by rw [← hI3, up2_off _ _ _ (by decide), up2_off _ _ _ (by decide)]
      have w3 : ∀ j, j ≠ s + c.length → I3 3 j = I1 3 j := fun j hj => by rw [← hI3, up2_na (by decide), up2_nk hj, t4]
      have wS : I3 3 (s + c.length) = nI op := by
        rw [← hI3, up2_na (by decide), up2_at, nI_mul, nI_add]
        rfl
      have w2 : I3 2 2 = nI (s + c.length + 1) := by rw [← hI3, up2_at]
      have wx : CEx I2 I3 := ⟨fun a _ h2 h3 => by rw [← hI3, up2_off _ _ _ h2, up2_off _ _ _ h3], by rw [w1], by rw [← hI3, up2_nk (by decide), up2_na (by decide)]⟩
      have g3 : CGd b t (k + 1) q br (s + c.length + 1) I3 := by
        obtain ⟨y1, y2, y3, y4, y5, y6, y7, y8⟩ := t2
        exact ⟨CTk_cg y1 (wx.1 5 (by decide) (by decide) (by decide)) (wx.1 6 (by decide) (by decide) (by decide)) (by rw [w1]), y2, by rw [w1]; exact y3, by rw [w1]; exact y4, by rw [w1]; exact y5, by rw [w1]; exact y6, by rw [w1]; exact y7, w2⟩
      have step : ∀ I4 I5, ev O (D + 1) MX6_test [.ref 1, .int (nI (5 - lv) + nI 1)] (hp u n T I3 J R) = some (none, hp u n T I4 J R) → ev O (D + 1) MX5_aim [.ref 2, .int (nI (s + c.length))] (hp u n T I4 J R) = some (none, hp u n T I5 J R) → F_X6_test_l33 O (D + 1) 1 (nI (5 - lv)) (nI vv) (nI i) (hp u n T I1 J R) = some (.inl (nI (i + 1), hp u n T I5 J R)) := by
        intro I4 I5 g1 g2
        unfold F_X6_test_l33
        rw [if_neg e400, gi_1_5 hS, Option.bind_some, h5, if_pos (by rw [hx]), vc_1 hS, t1, toV_v, Option.bind_some, ga_1_0 hS, Option.bind_some, vc_2 hS, opE, av, toI_i, Option.bind_some]
        dsimp only
        rw [vc_1 hS, g1, toV_v, Option.bind_some, ga_1_0 hS, Option.bind_some, vc_2 hS, g2, toV_v, Option.bind_some, nI_add]
      rcases hk (k + 1) q hkl hq with ⟨j, ej, j1, j2⟩ | ⟨e, l, k', q', er, r1, r2, r3, r4, r5, r6, r7, r8, r9⟩
      · rw [ej] at hr
        have hr : some (Sum.inl j) = some r := hr
        have hr := Option.some.inj hr
        obtain ⟨I4, s1, s2, s3, s4⟩ := hs (k + 1) q (s + c.length + 1) I3 (.inl j) g3 (wx.2.1.trans (t3.2.1.trans h9)) (by omega) hq ej
        obtain ⟨I5, a1, a2, a3⟩ := c_aimBd (O := O) (d := D) (u := u) (J := J) (k := s + c.length) hS (s2 j rfl) (by omega)
        refine ⟨I5, (lup_c (step I4 I5 s1 a1)).trans ?_, ⟨fun j' e => by rw [← hr] at e; cases e; exact a2, (fun _ _ _ _ e => by rw [← hr] at e; cases e), hE.trans (t3.trans (wx.trans (s4.trans a3)))⟩⟩
        obtain ⟨fu, rfl⟩ : ∃ x, fu = x + 1 := ⟨fu - 1, by omega⟩
        apply lup_e
        show F_X6_test_l33 O (D + 1) 1 (nI (5 - lv)) (nI vv) (nI (i + 1)) (hp u n T I5 J R) = _
        unfold F_X6_test_l33
        by_cases z : 400 ≤ i + 1
        · rw [if_pos (nI_le z (by omega))]
        · rw [if_neg (nI_ge (show i + 1 < 400 by omega) (by decide)), gi_1_5 hS, Option.bind_some, a2.2.1, if_neg (fun z => absurd ((nI_eq (by omega) (by omega)).mp z) (by omega))]
      · rw [er] at hr
        have hr : gLp (fT b t) lv sub m0 (gJ op c e) (gJm op m l) k' q' = some r := hr
        obtain ⟨I4, s1, -, s3, s4⟩ := hs (k + 1) q (s + c.length + 1) I3 _ g3 (wx.2.1.trans (t3.2.1.trans h9)) (by omega) hq er
        obtain ⟨g1, g2, g4⟩ := s3 e l k' q' rfl
        obtain ⟨c1, c2, c3, c4, c5, c6, c7, c8⟩ := g1
        have aim := c_aimV (O := O) (d := D) (u := u) (J := J) (k := s + c.length) hS c8 (by omega) (by omega)
        have hJ : gJ op c e = c ++ [(op, e.length)] ++ e := if_pos op34
        have hln : (gJ op c e).length = c.length + 1 + e.length := by rw [hJ, List.length_append, List.length_append]; rfl
        generalize hI5 : up2 I4 3 (s + c.length) ((I4 3 (s + c.length) &&& nI 15) + nI 16 * nI (s + c.length + 1 + e.length)) = I5 at *
        have o3 : ∀ j, j ≠ s + c.length → I5 3 j = I4 3 j := fun j hj => by rw [← hI5, up2_nk hj]
        have oa : ∀ a, a ≠ 3 → I5 a = I4 a := fun a ha => by rw [← hI5, up2_off _ _ _ ha]
        have q3 : I5 3 (s + c.length) = cEn (s + c.length) (op, e.length) := by
          rw [← hI5, up2_at, g2 _ (by omega), wS, nI_15 (by omega), nI_mul, nI_add]
          unfold cEn
          rw [if_pos (show op = 3 ∨ op = 4 from op34)]
          congr 1
          show op % 16 + _ = op + _
          omega
        have cx : CEx I4 I5 := ⟨fun a _ _ h3 => oa a h3, by rw [oa 1 (by decide)], by rw [oa 2 (by decide)]⟩
        obtain ⟨I', f1, f2⟩ := ih fu (i + 1) (gJ op c e) (gJm op m l) k' q' I5 r
          ⟨CTk_cg c1 (oa 5 (by decide)) (oa 6 (by decide)) (by rw [oa 1 (by decide)]), c2, by rw [oa 1 (by decide)]; exact c3, by rw [oa 1 (by decide)]; exact c4, by rw [oa 1 (by decide)]; exact c5, by rw [oa 1 (by decide)]; exact c6, by rw [oa 1 (by decide)]; exact c7, by rw [oa 2 (by decide), c8, hln]; congr 1; omega⟩
          (by
            rw [hJ]
            refine (AtC_ap (c ++ [(op, e.length)]) s).mpr ⟨(AtC_ap c s).mpr ⟨AtC_cg c s (fun j j1 j2 => ?_) hA, q3, trivial⟩, ?_⟩
            · rw [o3 j (by omega), g2 j (by omega), w3 j (by omega)]
            · rw [List.length_append, ← Nat.add_assoc]
              exact AtC_cg e _ (fun j j1 j2 => o3 j (by have : s + c.length + [(op, e.length)].length = s + c.length + 1 := rfl; omega)) g4)
          (fun j hj => by rw [o3 j (by omega), g2 j (by omega), w3 j (by omega)]; exact hB j hj)
          (hE.trans (t3.trans (wx.trans (s4.trans cx))))
          (cx.2.1.trans (s4.2.1.trans (wx.2.1.trans (t3.2.1.trans h9))))
          (by rw [hln]; omega) r4 (by omega) (by omega) hr
        exact ⟨I', (lup_c (step I4 I5 s1 aim)).trans f1, f2⟩
    · rw [if_neg hx] at lvE
      rw [if_pos lvE] at hr
      have hr := Option.some.inj hr
      refine ⟨I1, lup_e ?_, ?_⟩
      · show F_X6_test_l33 O (D + 1) 1 (nI (5 - lv)) (nI (if lv = 5 then 2009 else 2010)) (nI i) (hp u n T I1 J R) = _
        unfold F_X6_test_l33
        rw [if_neg e400, gi_1_5 hS, Option.bind_some, h5, if_neg (fun z => hx ((nI_eq (by omega) (by omega)).mp z))]
      · refine ⟨(fun j e => by rw [← hr] at e; cases e), fun c' m' k' q' e => ?_, hE⟩
        rw [← hr] at e
        cases e
        exact ⟨hG0, hB, hA⟩
end CTS
