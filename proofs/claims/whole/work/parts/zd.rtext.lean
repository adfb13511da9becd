/-! the class reads a text -/
def TxC (I : Nat → Nat → Int32) : Nat → Nat → List CL → Prop
  | _, _, [] => True
  | c, s, x :: L => ClC I c s x ∧ TxC I (c + 1) (s + lnC x) L
theorem ClC_cg {I I' : Nat → Nat → Int32} {c s : Nat} {x : CL} (h : ClC I c s x) (h4 : ∀ i, i < (c + 1) * 6 → I' 4 i = I 4 i) (h3 : ∀ i, i < s + lnC x → I' 3 i = I 3 i) : ClC I' c s x := by
  obtain ⟨a1, a2, a3, a4, a5, a6, a7⟩ := h
  refine ⟨(h4 _ (by omega)).trans a1, (h4 _ (by omega)).trans a2, (h4 _ (by omega)).trans a3, (h4 _ (by omega)).trans a4, (h4 _ (by omega)).trans a5, (h4 _ (by omega)).trans a6, AtC_cg _ _ (fun j _ hj => h3 j ?_) a7⟩
  rw [List.length_append, List.length_append] at hj
  show j < s + (x.2.2.1.length + x.2.2.2.2.1.length + x.2.2.2.2.2.2.1.length)
  omega
section RTX
variable {O : mO} {u n : Nat} {T : Nat → mT} {J : Nat → Nat → Int64} {R : Nat → Nat → Option Nat} {b : Nat → Nat} {t : Nat} {md : Bool}
theorem c_clauseB (hS : St n T R) (ht : t ≤ 400) {d x : Nat} {I : Nat → Nat → Int32} (h : CBd b t x I) (h9 : I 1 9 = bI md) : ∃ I', ev O (d + 2) MX6_clause [.ref 1] (hp u n T I J R) = some (none, hp u n T I' J R) ∧ CBd b t x I' ∧ CEx I I' := by
  obtain ⟨I', e1, e2, e3⟩ := c_takeBd (O := O) (d := d) (u := u) (J := J) (x := -1) hS ht h
  refine ⟨I', e_X6_clause ?_, e2, e3⟩
  unfold F_X6_clause F_X6_clause_j31
  rw [gi_1_5 hS, Option.bind_some, gi_1_9 hS, Option.bind_some, h.2.1, h9]
  cases md with
  | false => rw [if_neg (by decide), if_neg (by decide), vc_1 hS, e1, toV_v, Option.bind_some]
  | true => rw [if_neg (by decide), if_neg (by decide), vc_1 hS, e1, toV_v, Option.bind_some]
/-- what is told of the whole text -/
def RTo (b : Nat → Nat) (t c s : Nat) (I I' : Nat → Nat → Int32) (r : Nat ⊕ List CL) (v : Int32) : Prop := (∀ j, r = .inl j → v = nI 0 ∧ I' 1 6 = nI (plN b t j)) ∧ (∀ L, r = .inr L → v = nI 1 ∧ I' 1 6 = -1 ∧ I' 2 2 = nI (s + (lnL L).1) ∧ I' 2 3 = nI (c + L.length) ∧ TxC I' c s L ∧ (∀ i, i < s → I' 3 i = I 3 i) ∧ ∀ i, i < c * 6 → I' 4 i = I 4 i) ∧ CEy I I'
theorem c_124B (hS : St n T R) {d x : Nat} {I : Nat → Nat → Int32} (h : CBd b t x I) : F_X6_readText_j124 O d 1 (hp u n T I J R) = some (nI 0, hp u n T I J R) := by
  unfold F_X6_readText_j124
  rw [gi_1_6 hS, Option.bind_some, h.2.2.1, if_neg (nI_ne1 (by have := h.2.2.2.1; omega)), zz_0, Option.bind_some]
theorem c_loopT (hS : St n T R) (hb : ∀ k, b k ≤ 255) (ht : t ≤ 400) {d : Nat} : ∀ (m c k q s fu : Nat) (I : Nat → Nat → Int32) (r : Nat ⊕ List CL), c + m = 12 → CGd b t k q 0 s I → I 1 9 = bI md → I 2 3 = nI c → s ≤ k → q ≤ 50 → m + 3 < fu → gX md (fT b t) m k q = some r → ∃ x K1 v I', lupF (fun (q : Int32 × Int32 × mH) => F_X6_readText_l63 O (d + 186) 1 q.1 q.2.1 q.2.2) fu (nI 1, nI c, hp u n T I J R) = some (x, K1) ∧ F_X6_readText_j114 O (d + 186) 1 x K1 = some (v, hp u n T I' J R) ∧ RTo b t c s I I' r v := by
  have tl := tkN_le (b := b) (t := t)
  intro m
  induction m with
  | zero =>
    intro c k q s fu I r hc hG h9 h3 hs hq hf hr
    obtain ⟨fu, rfl⟩ : ∃ x, fu = x + 1 := ⟨fu - 1, by omega⟩
    have hr : some (Sum.inl k) = some r := hr
    rw [← Option.some.inj hr]
    have hk := hG.2.1
    have mle2 : mnT b t (plN b t k) ≤ 4000 := mnT_le hb _
    obtain ⟨I', e1, e2, e3⟩ := c_takeNo (O := O) (d := d + 185) (u := u) (J := J) (x := -1) hS ht hG hq (by omega) (fun z => nI_ne1 (k := mnT b t (plN b t k)) (by omega) z.symm)
    refine ⟨nI 1, hp u n T I J R, nI 0, I', lup_e ?_, ?_, (fun j e => by cases e; exact ⟨rfl, e2.2.2.1⟩), (fun L e => by cases e), CEy.of e3⟩
    · unfold F_X6_readText_l63
      dsimp only
      rw [show c = 12 by omega, if_pos (by decide)]
    · unfold F_X6_readText_j114
      rw [if_neg (show ¬ nI 1 = 0 by decide), vc_1 hS, e1, toV_v, Option.bind_some, c_124B hS e2]
  | succ m ih =>
    intro c k q s fu I r hc hG h9 h3 hs hq hf hr
    obtain ⟨fu, rfl⟩ : ∃ x, fu = x + 1 := ⟨fu - 1, by omega⟩
    have hc12 : c < 12 := by omega
    have hkT := hG.2.1
    -- a turn that ends the loop
    have stop : ∀ {I1 : Nat → Nat → Int32}, lupF (fun (q : Int32 × Int32 × mH) => F_X6_readText_l63 O (d + 186) 1 q.1 q.2.1 q.2.2) fu (nI 0, nI (c + 1), hp u n T I1 J R) = some (nI 0, hp u n T I1 J R) := by
      intro I1
      obtain ⟨fu, rfl⟩ : ∃ x, fu = x + 1 := ⟨fu - 1, by omega⟩
      refine lup_e ?_
      unfold F_X6_readText_l63
      dsimp only
      rw [if_pos (show nI 0 = 0 from rfl)]
      split <;> rfl
    have bad : ∀ {j : Nat} {I1 : Nat → Nat → Int32}, CBd b t (plN b t j) I1 → CEy I I1 → RTo b t c s I I1 (.inl j) (nI 0) := fun h1 h2 => ⟨(fun j e => by cases e; exact ⟨rfl, h1.2.2.1⟩), (fun L e => by cases e), h2⟩
    have j0 : ∀ {K : mH}, F_X6_readText_j114 O (d + 186) 1 (nI 0) K = F_X6_readText_j124 O (d + 186) 1 K := by
      intro K
      unfold F_X6_readText_j114
      rw [if_pos (show nI 0 = 0 from rfl)]
    unfold gX at hr
    cases hg : gC md (fT b t) k q with
    | none =>
      rw [hg] at hr
      cases hr
    | some y =>
      obtain ⟨I1, a1, a2⟩ := c_clause (O := O) (u := u) (J := J) (d := d) hS hb ht h3 hc12 hG h9 hs hq hg
      rw [hg] at hr
      cases y with
      | inl j =>
        rw [← Option.some.inj hr]
        have hB := a2.1 j rfl
        refine ⟨nI 0, hp u n T I1 J R, nI 0, I1, ?_, by rw [j0, c_124B hS hB], bad hB a2.2.2⟩
        rw [lup_c (s' := (nI 0, nI (c + 1), hp u n T I1 J R)), stop]
        unfold F_X6_readText_l63
        dsimp only
        rw [if_neg (nI_ge hc12 (by decide)), if_neg (show ¬ nI 1 = 0 by decide), vc_1 hS, a1, toV_v, Option.bind_some, gi_1_5 hS, Option.bind_some, hB.2.1, if_pos rfl, if_pos (show nI 0 = 0 from rfl), nI_add]
      | inr y =>
        obtain ⟨x, k', q'⟩ := y
        obtain ⟨⟨g1, g2, g3⟩, g4, g5⟩ := a2.2.1 _ rfl
        have g1 : CGd b t k' q' 0 (s + lnC x) I1 := g1
        have g2 : ClC I1 c s x := g2
        have hr : (if fT b t k' = 4000 then some (Sum.inr [x]) else if fT b t k' = 3059 then gWd (gX md (fT b t) m (k' + 1) q') fun L => some (.inr (x :: L)) else some (.inl k')) = some r := hr
        obtain ⟨v1, v2, v3, v4⟩ : k < k' ∧ k' ≤ tkN b t ∧ q' ≤ 50 ∧ lnC x ≤ k' - k := by
          rcases gC_ok (md := md) (T := tkN b t) (f := fT b t) (by omega) (fun k => fT_lt) hkT hq with ⟨j, z, _⟩ | ⟨x', k2, q2, z, w1, w2, w3, w4, w5, w6, _⟩
          · rw [hg] at z
            cases z
          · rw [hg] at z
            cases z
            exact ⟨w1, w2, w4, w6⟩
        have mle : fT b t k' ≤ 4000 := mnT_le hb _
        have n5 : I1 1 5 = nI (fT b t k') := g1.2.2.2.1
        have n9 : I1 1 9 = bI md := by rw [a2.2.2.2]; exact h9
        by_cases e4 : fT b t k' = 4000
        · rw [if_pos e4] at hr
          rw [← Option.some.inj hr]
          refine ⟨nI 0, hp u n T I1 J R, nI 1, I1, ?_, ?_, (fun j e => by cases e), fun L e => ?_, a2.2.2⟩
          · rw [lup_c (s' := (nI 0, nI (c + 1), hp u n T I1 J R)), stop]
            unfold F_X6_readText_l63
            dsimp only
            rw [if_neg (nI_ge hc12 (by decide)), if_neg (show ¬ nI 1 = 0 by decide), vc_1 hS, a1, toV_v, Option.bind_some, gi_1_5 hS, Option.bind_some, n5, e4, if_pos rfl, if_pos (show nI 0 = 0 from rfl), nI_add]
          · rw [j0]
            unfold F_X6_readText_j124
            rw [gi_1_6 hS, Option.bind_some, g1.2.2.2.2.1, if_pos rfl, zz_1, Option.bind_some]
          · cases e
            exact ⟨rfl, g1.2.2.2.2.1, g1.2.2.2.2.2.2.2, g5, ⟨g2, trivial⟩, g4, g3⟩
        · rw [if_neg e4] at hr
          have n4 : ¬ nI (fT b t k') = nI 4000 := fun z => e4 ((nI_eq (by omega) (by omega)).mp z)
          by_cases e59 : fT b t k' = 3059
          · rw [if_pos e59] at hr
            obtain ⟨I2, b1, b2, b3, b4, b5⟩ := c_takeOk (O := O) (d := d + 185) (u := u) (J := J) (x := nI 3059) hS ht g1 (fT_lt (by omega)) (by rw [← e59]; rfl)
            cases hX : gX md (fT b t) m (k' + 1) q' with
            | none =>
              rw [hX] at hr
              cases hr
            | some z =>
              have i4 : I2 4 = I1 4 := b3.1 4 (by decide) (by decide) (by decide)
              obtain ⟨xx, K1, v, I', f1, f2, f3, f4, f5⟩ := ih (c + 1) (k' + 1) q' (s + lnC x) fu I2 z (by omega) b2 (by rw [b3.2.1]; exact n9) (by rw [b3.2.2]; exact g5) (by omega) v3 (by omega) hX
              refine ⟨xx, K1, v, I', ?_, f2, ?_⟩
              · rw [lup_c (s' := (nI 1, nI (c + 1), hp u n T I2 J R)), f1]
                unfold F_X6_readText_l63
                dsimp only
                rw [if_neg (nI_ge hc12 (by decide)), if_neg (show ¬ nI 1 = 0 by decide), vc_1 hS, a1, toV_v, Option.bind_some, gi_1_5 hS, Option.bind_some, n5, if_neg n4, if_neg (show ¬ nI 1 = 0 by decide), vc_1 hS, b1, toV_v, Option.bind_some, nI_add]
              · rw [hX] at hr
                have ey := a2.2.2.trans ((CEy.of b3).trans f5)
                cases z with
                | inl j =>
                  rw [← Option.some.inj hr]
                  exact ⟨(fun j' e => by cases e; exact f3 j rfl), (fun L e => by cases e), ey⟩
                | inr L =>
                  rw [← Option.some.inj hr]
                  obtain ⟨o1, o2, o3, o4, o5, o6, o7⟩ := f4 L rfl
                  refine ⟨(fun j' e => by cases e), fun L' e => ?_, ey⟩
                  cases e
                  refine ⟨o1, o2, ?_, ?_, ⟨ClC_cg g2 (fun i hi => by rw [o7 i hi, i4]) (fun i hi => by rw [o6 i hi, b4]), o5⟩, fun i hi => by rw [o6 i (by omega), b4, g4 i hi], fun i hi => by rw [o7 i (by omega), i4, g3 i hi]⟩
                  · rw [o3]
                    show nI (s + lnC x + (lnL L).1) = nI (s + (lnC x + (lnL L).1))
                    rw [Nat.add_assoc]
                  · rw [o4]
                    show nI (c + 1 + L.length) = nI (c + (L.length + 1))
                    exact congrArg nI (by omega)
          · rw [if_neg e59] at hr
            rw [← Option.some.inj hr]
            have mle2 : mnT b t (plN b t k') ≤ 4000 := mle
            obtain ⟨I2, b1, b2, b3⟩ := c_takeNo (O := O) (d := d + 185) (u := u) (J := J) (x := nI 3059) hS ht g1 v3 (by omega) (fun z => e59 ((nI_eq (by omega) (by omega)).mp z).symm)
            have t1 : F_X6_readText_l63 O (d + 186) 1 (nI 1) (nI c) (hp u n T I J R) = some (.inl (nI 1, nI (c + 1), hp u n T I2 J R)) := by
              unfold F_X6_readText_l63
              rw [if_neg (nI_ge hc12 (by decide)), if_neg (show ¬ nI 1 = 0 by decide), vc_1 hS, a1, toV_v, Option.bind_some, gi_1_5 hS, Option.bind_some, n5, if_neg n4, if_neg (show ¬ nI 1 = 0 by decide), vc_1 hS, b1, toV_v, Option.bind_some, nI_add]
            by_cases c12 : c + 1 = 12
            · obtain ⟨I3, d1, d2, d3⟩ := c_takeBd (O := O) (d := d + 185) (u := u) (J := J) (x := -1) hS ht b2
              refine ⟨nI 1, hp u n T I2 J R, nI 0, I3, ?_, ?_, bad d2 (a2.2.2.trans ((CEy.of b3).trans (CEy.of d3)))⟩
              · rw [lup_c t1]
                obtain ⟨fu, rfl⟩ : ∃ x, fu = x + 1 := ⟨fu - 1, by omega⟩
                refine lup_e ?_
                unfold F_X6_readText_l63
                dsimp only
                rw [c12, if_pos (by decide)]
              · unfold F_X6_readText_j114
                rw [if_neg (show ¬ nI 1 = 0 by decide), vc_1 hS, d1, toV_v, Option.bind_some, c_124B hS d2]
            · obtain ⟨I3, d1, d2, d3⟩ := c_clauseB (O := O) (u := u) (J := J) (d := d + 184) (md := md) hS ht b2 (by rw [b3.2.1]; exact n9)
              refine ⟨nI 0, hp u n T I3 J R, nI 0, I3, ?_, by rw [j0, c_124B hS d2], bad d2 (a2.2.2.trans ((CEy.of b3).trans (CEy.of d3)))⟩
              rw [lup_c t1]
              obtain ⟨fu, rfl⟩ : ∃ x, fu = x + 1 := ⟨fu - 1, by omega⟩
              rw [lup_c (s' := (nI 0, nI (c + 1 + 1), hp u n T I3 J R))]
              · obtain ⟨fu, rfl⟩ : ∃ x, fu = x + 1 := ⟨fu - 1, by omega⟩
                refine lup_e ?_
                unfold F_X6_readText_l63
                dsimp only
                rw [if_pos (show nI 0 = 0 from rfl)]
                split <;> rfl
              · unfold F_X6_readText_l63
                dsimp only
                rw [if_neg (nI_ge (show c + 1 < 12 by omega) (by decide)), if_neg (show ¬ nI 1 = 0 by decide), vc_1 hS, d1, toV_v, Option.bind_some, gi_1_5 hS, Option.bind_some, d2.2.1, if_pos rfl, if_pos (show nI 0 = 0 from rfl), nI_add]
theorem c_readText (hS : St n T R) (hb : ∀ k, b k ≤ 255) (ht : t ≤ 400) {d : Nat} {I : Nat → Nat → Int32} {r : Nat ⊕ List CL} (hT : ∀ k, k < t → I 23 k &&& 255 = nI (b k)) (hr : gX md (fT b t) 12 0 0 = some r) : ∃ v I', ev O (d + 187) MX6_readText [.ref 1, .ref 23, .int (nI t), .int (bI md)] (hp u n T I J R) = some (some (.int v), hp u n T I' J R) ∧ (∀ a, a ≠ 1 → a ≠ 2 → a ≠ 3 → a ≠ 4 → a ≠ 5 → a ≠ 6 → I' a = I a) ∧ (∀ j, r = .inl j → v = nI 0 ∧ I' 1 6 = nI (plN b t j)) ∧ ∀ L, r = .inr L → v = nI 1 ∧ I' 1 6 = -1 ∧ I' 2 2 = nI (lnL L).1 ∧ I' 2 3 = nI L.length ∧ TxC I' 0 0 L := by
  have tl := tkN_le (b := b) (t := t)
  obtain ⟨I1, a1, a2, a3, a4, a5⟩ := c_split (O := O) (d := d + 182) (u := u) (J := J) hS hb ht hT
  let I2 : Nat → Nat → Int32 := up2 (up2 (up2 (up2 (up2 (up2 (up2 (up2 I1 1 9 (bI md)) 1 4 (nI 0)) 1 5 (nI (mnT b t (plN b t 0)))) 1 6 (-1)) 1 7 (nI 0)) 1 8 (nI 0)) 2 2 (nI 0)) 2 3 (nI 0)
  have o2 : ∀ a, a ≠ 1 → a ≠ 2 → I2 a = I1 a := fun a h1 h2 => by
    show up2 (up2 (up2 (up2 (up2 (up2 (up2 (up2 I1 1 9 (bI md)) 1 4 (nI 0)) 1 5 (nI (mnT b t (plN b t 0)))) 1 6 (-1)) 1 7 (nI 0)) 1 8 (nI 0)) 2 2 (nI 0)) 2 3 (nI 0) a = I1 a
    rw [up2_off _ _ _ h2, up2_off _ _ _ h2, up2_off _ _ _ h1, up2_off _ _ _ h1, up2_off _ _ _ h1, up2_off _ _ _ h1, up2_off _ _ _ h1, up2_off _ _ _ h1]
  have hG : CGd b t 0 0 0 0 I2 := by
    refine ⟨⟨fun j hj => by rw [o2 5 (by decide) (by decide), o2 6 (by decide) (by decide)]; exact a5 j hj, ?_⟩, Nat.zero_le _, ?_, ?_, ?_, ?_, ?_, ?_⟩
    · show up2 (up2 (up2 (up2 (up2 (up2 (up2 (up2 I1 1 9 (bI md)) 1 4 (nI 0)) 1 5 (nI (mnT b t (plN b t 0)))) 1 6 (-1)) 1 7 (nI 0)) 1 8 (nI 0)) 2 2 (nI 0)) 2 3 (nI 0) 1 3 = _
      simp (disch := omega) only [up2_at, up2_na, up2_nk]
      exact a4
    all_goals
      show up2 (up2 (up2 (up2 (up2 (up2 (up2 (up2 I1 1 9 (bI md)) 1 4 (nI 0)) 1 5 (nI (mnT b t (plN b t 0)))) 1 6 (-1)) 1 7 (nI 0)) 1 8 (nI 0)) 2 2 (nI 0)) 2 3 (nI 0) _ _ = _
      simp (disch := omega) only [up2_at, up2_na, up2_nk]
  have h9 : I2 1 9 = bI md := by
    show up2 (up2 (up2 (up2 (up2 (up2 (up2 (up2 I1 1 9 (bI md)) 1 4 (nI 0)) 1 5 (nI (mnT b t (plN b t 0)))) 1 6 (-1)) 1 7 (nI 0)) 1 8 (nI 0)) 2 2 (nI 0)) 2 3 (nI 0) 1 9 = _
    simp (disch := omega) only [up2_at, up2_na, up2_nk]
  obtain ⟨x, K1, v, I', f1, f2, f3, f4, f5⟩ := c_loopT (O := O) (u := u) (J := J) (d := d) (md := md) hS hb ht 12 0 0 0 0 FU I2 r rfl hG h9 (up2_at _ _ _ _) (Nat.le_refl 0) (by decide) (by unfold FU; decide) hr
  refine ⟨v, I', e_X6_readText ?_, fun a h1 h2 h3 h4 h5 h6 => by rw [f5.1 a h1 h2 h3 h4, o2 a h1 h2, a2 a h1 h5 h6], f3, fun L e => ?_⟩
  · unfold F_X6_readText
    have e1 : (if nI 0 < (if nI 400 < nI t then nI 400 else nI t) then (if nI 400 < nI t then nI 400 else nI t) else nI 0) = nI t := by
      rw [if_neg (fun z => absurd ((nI_ltI (by omega) (by omega)).mp z) (by omega))]
      exact max0 (by omega)
    have cl : ∀ {I3 : Nat → Nat → Int32}, ev O (d + 186) MX5_clear [.ref 2] (hp u n T I3 J R) = some (none, hp u n T (up2 (up2 I3 2 2 (nI 0)) 2 3 (nI 0)) J R) := by
      intro I3
      refine e_X5_clear (d := d + 185) ?_
      unfold F_X5_clear
      rw [pi_2_2 hS, Option.bind_some, pi_2_3 hS, Option.bind_some]
    rw [ln_23 hS, Option.bind_some, e1, vc_1 hS, a1, toV_v, Option.bind_some, zz_b, Option.bind_some, pi_1_9 hS, Option.bind_some, pi_1_4 hS, Option.bind_some, ga_1_2 hS, Option.bind_some, rd_6 hS (by decide), Option.bind_some, up2_na (by decide), up2_na (by decide), (a5 0 (Nat.zero_le _)).2, pi_1_5 hS, Option.bind_some, pi_1_6 hS, Option.bind_some, pi_1_7 hS, Option.bind_some, pi_1_8 hS, Option.bind_some, ga_1_0 hS, Option.bind_some, vc_2 hS, cl, toV_v, Option.bind_some, f1, Option.bind_some]
    exact f2
  · obtain ⟨o1, o2', o3, o4, o5, _⟩ := f4 L e
    rw [Nat.zero_add] at o3 o4
    exact ⟨o1, o2', o3, o4, o5⟩
end RTX
