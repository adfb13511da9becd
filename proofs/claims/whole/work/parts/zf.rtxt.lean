/-! the reference reads a text -/
noncomputable def txS (O : mO) (d : Nat) (M : mM) (K : mH) : Option (mH ⊕ mH) :=
  (gtI K 69 11 19).bind fun x7 =>
  if x7 = 0 then
    (toI (vc O d 11 MX11_isSign 69 [.int (nI 59)] K)).bind fun p9 =>
    if p9.1 = 0 then
      some (.inr p9.2)
    else
      (toV (vc O d 11 MX11_next 69 [] p9.2)).bind fun K11 =>
      (toV (vc O d 11 M 69 [] K11)).bind fun K12 =>
      some (.inl K12)
  else
    some (.inr K)
def TxM (Q : (Nat → Nat → Int32) → Nat → Nat → CL → Prop) (I : Nat → Nat → Int32) : Nat → Nat → List CL → Prop
  | _, _, [] => True
  | c, s, x :: L => Q I c s x ∧ TxM Q I (c + 1) (s + lnM x) L
/-- what is left of a text that was read -/
def MTo (b : Nat → Nat) (t : Nat) (cl c s0 : Nat) (Q : (Nat → Nat → Int32) → Nat → Nat → CL → Prop) (I I' : Nat → Nat → Int32) (J J' : Nat → Nat → Int64) (r : Nat ⊕ List CL) : Prop := (∀ j, r = .inl j → MBb (plN b t j) I') ∧ (∀ L, r = .inr L → I' 69 19 = nI 0 ∧ I' 69 18 = -1 ∧ I' 69 21 = nI (c + L.length) ∧ I' 69 23 = nI (s0 + (lnL L).2) ∧ TxM Q I' c s0 L ∧ ∀ i, i < 8 * c → I' cl i = I cl i) ∧ ((∀ a, a ≠ 69 → a ≠ 80 → a ≠ 81 → a ≠ 82 → a ≠ 83 → a ≠ cl → I' a = I a) ∧ (∀ k, Mf k = false → k ≠ 21 → k ≠ 20 → k ≠ 13 → I' 69 k = I 69 k) ∧ (∀ a, a ≠ 69 → J' a = J a) ∧ (∀ k, k ≠ 17 → J' 69 k = J 69 k) ∧ (∀ i, i < s0 → I' 80 i = I 80 i ∧ I' 81 i = I 81 i)) ∧ I' 69 20 = nI 0 ∧ I' 69 13 = nI 0
section RTM
variable {O : mO} {d D u n : Nat} {T : Nat → mT} {R : Nat → Nat → Option Nat} {b : Nat → Nat} {t : Nat} {md : Bool} {cl : Nat}
theorem m_e19 (hS : St n T R) {I : Nat → Nat → Int32} {J : Nat → Nat → Int64} : F_X11_endText_j19 O d 69 (hp u n T I J R) = some (hp u n T (up2 (up2 I 69 20 (nI 0)) 69 13 (nI 0)) J R) := by
  unfold F_X11_endText_j19
  rw [pi_69_20 hS, Option.bind_some, pi_69_13 hS, Option.bind_some]
theorem m_endB (hS : St n T R) {x : Nat} {I : Nat → Nat → Int32} {J : Nat → Nat → Int64} (h : MBb x I) : ev O (d + 1) MX11_endText [.ref 69] (hp u n T I J R) = some (none, hp u n T (up2 (up2 I 69 20 (nI 0)) 69 13 (nI 0)) J R) := by
  refine e_X11_endText ?_
  unfold F_X11_endText
  rw [gi_69_19 hS, Option.bind_some, h.1, if_neg (show ¬ nI 1 = 0 by decide), m_e19 hS]
theorem MTo_bad {c s0 j : Nat} {Q : (Nat → Nat → Int32) → Nat → Nat → CL → Prop} {I I1 : Nat → Nat → Int32} {J J1 : Nat → Nat → Int64} (h : MBb (plN b t j) I1) (e : MEy s0 cl I I1 J J1) : MTo b t cl c s0 Q I (up2 (up2 I1 69 20 (nI 0)) 69 13 (nI 0)) J J1 (.inl j) := by
  have o : ∀ j, j ≠ 20 → j ≠ 13 → up2 (up2 I1 69 20 (nI 0)) 69 13 (nI 0) 69 j = I1 69 j := fun j h1 h2 => by rw [up2_nk h2, up2_nk h1]
  have a : ∀ j, j ≠ 69 → up2 (up2 I1 69 20 (nI 0)) 69 13 (nI 0) j = I1 j := fun j h1 => by rw [up2_off _ _ _ h1, up2_off _ _ _ h1]
  refine ⟨fun j' z => ?_, (fun L z => by cases z), ⟨fun x h1 h2 h3 h4 h5 h6 => by rw [a x h1, e.1 x h1 h2 h3 h4 h5 h6], fun k hk h1 h2 h3 => by rw [o k h2 h3, e.2.1 k hk h1], e.2.2.1, e.2.2.2.1, fun i hi => by rw [a 80 (by decide), a 81 (by decide)]; exact e.2.2.2.2 i hi⟩, by rw [up2_nk (by decide), up2_at], up2_at _ _ _ _⟩
  cases z
  exact ⟨by rw [o 19 (by decide) (by decide)]; exact h.1, by rw [o 18 (by decide) (by decide)]; exact h.2⟩
theorem m_loopT (hS : St n T R) (hb : ∀ k, b k ≤ 255) (ht : t ≤ 400) {M : mM} {Q : (Nat → Nat → Int32) → Nat → Nat → CL → Prop} (hcl : cl ≠ 69 ∧ cl ≠ 80 ∧ cl ≠ 81)
    (hrd : ∀ (c s0 k q : Nat) (I : Nat → Nat → Int32) (J : Nat → Nat → Int64) (r : Nat ⊕ (CL × Nat × Nat)), c < 12 → MHd b t md s0 k q I J → I 69 21 = nI c → q ≤ 50 → gC md (fT b t) k q = some r → ∃ I' J', ev O (D + 2) M [.ref 69] (hp u n T I J R) = some (none, hp u n T I' J' R) ∧ MCv b t md s0 c cl I I' J J' r (fun x => Q I' c s0 x))
    (h12 : ∀ (s0 k q : Nat) (I : Nat → Nat → Int32) (J : Nat → Nat → Int64), MHd b t md s0 k q I J → I 69 21 = nI 12 → ∃ I', ev O (D + 2) M [.ref 69] (hp u n T I J R) = some (none, hp u n T I' J R) ∧ MBb (plN b t k) I' ∧ ∀ s, MEx s I I' J J)
    (hQ : ∀ (I I' : Nat → Nat → Int32) (c s : Nat) (x : CL), Q I c s x → (∀ i, i < 8 * (c + 1) → I' cl i = I cl i) → (∀ i, i < s + lnM x → I' 80 i = I 80 i ∧ I' 81 i = I 81 i) → Q I' c s x) : ∀ (m c k q s0 fu : Nat) (I : Nat → Nat → Int32) (J : Nat → Nat → Int64) (r : Nat ⊕ List CL), c + m = 12 → MHd b t md s0 k q I J → I 69 21 = nI c → q ≤ 50 → m + 1 < fu → gX md (fT b t) m k q = some r → ∃ I1 J1 I2 J2 I3 J3, ev O (D + 2) M [.ref 69] (hp u n T I J R) = some (none, hp u n T I1 J1 R) ∧ lupF (fun (q : mH) => txS O (D + 2) M q) fu (hp u n T I1 J1 R) = some (hp u n T I2 J2 R) ∧ ev O (D + 2) MX11_endText [.ref 69] (hp u n T I2 J2 R) = some (none, hp u n T I3 J3 R) ∧ MTo b t cl c s0 Q I I3 J J3 r := by
  have tl := tkN_le (b := b) (t := t)
  -- behind a fault the loop ends
  have stop : ∀ {x : Nat} {I : Nat → Nat → Int32} {J : Nat → Nat → Int64} {fu : Nat}, MBb x I → lupF (fun (q : mH) => txS O (D + 2) M q) (fu + 1) (hp u n T I J R) = some (hp u n T I J R) := by
    intro x I J fu h
    refine lup_e ?_
    unfold txS
    rw [gi_69_19 hS, Option.bind_some, h.1, if_neg (show ¬ nI 1 = 0 by decide)]
  intro m
  induction m with
  | zero =>
    intro c k q s0 fu I J r hc hH h21 hq hf hr
    obtain ⟨fu, rfl⟩ : ∃ x, fu = x + 1 := ⟨fu - 1, by omega⟩
    have hr : some (Sum.inl k) = some r := hr
    rw [← Option.some.inj hr]
    obtain ⟨I1, a1, a2, a3⟩ := h12 s0 k q I J hH (by rw [h21, show c = 12 by omega])
    exact ⟨I1, J, I1, J, _, J, a1, stop a2, m_endB hS a2, MTo_bad a2 (MEy.of (a3 s0))⟩
  | succ m ih =>
    intro c k q s0 fu I J r hc hH h21 hq hf hr
    obtain ⟨fu, rfl⟩ : ∃ x, fu = x + 1 := ⟨fu - 1, by omega⟩
    unfold gX at hr
    cases hg : gC md (fT b t) k q with
    | none =>
      rw [hg] at hr
      cases hr
    | some y =>
      obtain ⟨I1, J1, a1, a2, a3, a4⟩ := hrd c s0 k q I J y (by omega) hH h21 hq hg
      rw [hg] at hr
      cases y with
      | inl j =>
        rw [← Option.some.inj hr]
        have hB := a2 j rfl
        exact ⟨I1, J1, I1, J1, _, J1, a1, stop hB, m_endB hS hB, MTo_bad hB a4⟩
      | inr y =>
        obtain ⟨x, k', q'⟩ := y
        obtain ⟨g1, g2, g3, g4⟩ := a3 x k' q' rfl
        have hr : (if fT b t k' = 4000 then some (Sum.inr [x]) else if fT b t k' = 3059 then gWd (gX md (fT b t) m (k' + 1) q') fun L => some (.inr (x :: L)) else some (.inl k')) = some r := hr
        obtain ⟨v1, v2, v3⟩ : k < k' ∧ k' ≤ tkN b t ∧ q' ≤ 50 := by
          rcases gC_ok (md := md) (T := tkN b t) (f := fT b t) (by omega) (fun k => fT_lt) hH.1.2.1 hq with ⟨j, z, _⟩ | ⟨x', k2, q2, z, w1, w2, w3, w4, w5, w6, _⟩
          · rw [hg] at z
            cases z
          · rw [hg] at z
            cases z
            exact ⟨w1, w2, w4⟩
        obtain ⟨w1, w2, w3⟩ := m_worth hS hb g1.1.1
        have w3 : I1 69 16 = 0 ↔ fT b t k' = 4000 := w3
        have sg := m_isSign (O := O) (d := D + 1) (u := u) hS hb g1.1.1 (c := 59) (by decide)
        have sg : ev O (D + 2) MX11_isSign [.ref 69, .int (nI 59)] (hp u n T I1 J1 R) = some (some (.int (bI (decide (fT b t k' = 3059)))), hp u n T I1 J1 R) := sg
        have noS : ¬ fT b t k' = 3059 → lupF (fun (q : mH) => txS O (D + 2) M q) (fu + 1) (hp u n T I1 J1 R) = some (hp u n T I1 J1 R) := by
          intro z
          refine lup_e ?_
          unfold txS
          rw [gi_69_19 hS, Option.bind_some, g1.2.1.1, if_pos (show nI 0 = 0 from rfl), vc_69 hS, sg, toI_i, Option.bind_some]
          dsimp only
          rw [decide_eq_false z, if_pos (show bI false = 0 by decide)]
        by_cases e4 : fT b t k' = 4000
        · rw [if_pos e4] at hr
          rw [← Option.some.inj hr]
          refine ⟨I1, J1, I1, J1, up2 (up2 I1 69 20 (nI 0)) 69 13 (nI 0), J1, a1, noS (by omega), e_X11_endText ?_, ?_⟩
          · unfold F_X11_endText
            rw [gi_69_19 hS, Option.bind_some, g1.2.1.1, if_pos (show nI 0 = 0 from rfl), gi_69_16 hS, Option.bind_some, if_pos (w3.mpr e4), m_e19 hS]
          · have o : ∀ j, j ≠ 20 → j ≠ 13 → up2 (up2 I1 69 20 (nI 0)) 69 13 (nI 0) 69 j = I1 69 j := fun j h1 h2 => by rw [up2_nk h2, up2_nk h1]
            have a : ∀ j, j ≠ 69 → up2 (up2 I1 69 20 (nI 0)) 69 13 (nI 0) j = I1 j := fun j h1 => by rw [up2_off _ _ _ h1, up2_off _ _ _ h1]
            refine ⟨(fun j z => by cases z), fun L z => ?_, ⟨fun x h1 h2 h3 h4 h5 h6 => by rw [a x h1, a4.1 x h1 h2 h3 h4 h5 h6], fun k hk h1 h2 h3 => by rw [o k h2 h3, a4.2.1 k hk h1], a4.2.2.1, a4.2.2.2.1, fun i hi => by rw [a 80 (by decide), a 81 (by decide)]; exact a4.2.2.2.2 i hi⟩, by rw [up2_nk (by decide), up2_at], up2_at _ _ _ _⟩
            cases z
            refine ⟨by rw [o 19 (by decide) (by decide)]; exact g1.2.1.1, by rw [o 18 (by decide) (by decide)]; exact g1.1.2.2.2, by rw [o 21 (by decide) (by decide)]; exact g2, by rw [o 23 (by decide) (by decide)]; exact g1.2.2.1, ⟨hQ I1 _ c s0 x g3 (fun i _ => by rw [a cl hcl.1]) (fun i _ => by rw [a 80 (by decide), a 81 (by decide)]; exact ⟨rfl, rfl⟩), trivial⟩, fun i hi => by rw [a cl hcl.1, g4 i hi]⟩
        · rw [if_neg e4] at hr
          by_cases e59 : fT b t k' = 3059
          · rw [if_pos e59] at hr
            obtain ⟨I2, J2, b1, b2, b3⟩ := m_nextH (O := O) (d := D) (u := u) hS hb ht g1 (fT_lt (by omega))
            cases hX : gX md (fT b t) m (k' + 1) q' with
            | none =>
              rw [hX] at hr
              cases hr
            | some z =>
              obtain ⟨I3, J3, I4, J4, I5, J5, f1, f2, f3, f4, f5, f6, f7⟩ := ih (c + 1) (k' + 1) q' (s0 + lnM x) fu I2 J2 z (by omega) b2 (by rw [b3.2.1 21 (by decide) (by decide) (by decide)]; exact g2) v3 (by omega) hX
              refine ⟨I1, J1, I4, J4, I5, J5, a1, ?_, f3, ?_⟩
              · rw [lup_c (s' := hp u n T I3 J3 R), f2]
                unfold txS
                rw [gi_69_19 hS, Option.bind_some, g1.2.1.1, if_pos (show nI 0 = 0 from rfl), vc_69 hS, sg, toI_i, Option.bind_some]
                dsimp only
                rw [decide_eq_true e59, if_neg (show ¬ bI true = 0 by decide), vc_69 hS, b1, toV_v, Option.bind_some, vc_69 hS, f1, toV_v, Option.bind_some]
              · obtain ⟨t1, t2, t3, t4, t5⟩ := f6
                have bcl : I2 cl = I1 cl := b3.1 cl hcl.1
                have ez : ((∀ a, a ≠ 69 → a ≠ 80 → a ≠ 81 → a ≠ 82 → a ≠ 83 → a ≠ cl → I5 a = I a) ∧ (∀ k, Mf k = false → k ≠ 21 → k ≠ 20 → k ≠ 13 → I5 69 k = I 69 k) ∧ (∀ a, a ≠ 69 → J5 a = J a) ∧ (∀ k, k ≠ 17 → J5 69 k = J 69 k) ∧ (∀ i, i < s0 → I5 80 i = I 80 i ∧ I5 81 i = I 81 i)) := by
                  refine ⟨fun a h1 h2 h3 h4 h5 h6 => by rw [t1 a h1 h2 h3 h4 h5 h6, b3.1 a h1, a4.1 a h1 h2 h3 h4 h5 h6], fun k hk h1 h2 h3 => by rw [t2 k hk h1 h2 h3, b3.2.1 k (Mf_ne hk (by decide)) (Mf_ne hk (by decide)) (Mf_ne hk (by decide)), a4.2.1 k hk h1], fun a ha => by rw [t3 a ha, b3.2.2.1 a ha, a4.2.2.1 a ha], fun k hk => by rw [t4 k hk, b3.2.2.2 k hk, a4.2.2.2.1 k hk], fun i hi => ?_⟩
                  obtain ⟨y1, y2⟩ := t5 i (by omega)
                  rw [y1, y2, b3.1 80 (by decide), b3.1 81 (by decide)]
                  exact a4.2.2.2.2 i hi
                rw [hX] at hr
                cases z with
                | inl j =>
                  rw [← Option.some.inj hr]
                  exact ⟨(fun j' z => by cases z; exact f4 j rfl), (fun L z => by cases z), ez, f7⟩
                | inr L =>
                  rw [← Option.some.inj hr]
                  obtain ⟨o1, o2, o3, o4, o5, o6⟩ := f5 L rfl
                  refine ⟨(fun j' z => by cases z), fun L' z => ?_, ez, f7⟩
                  cases z
                  refine ⟨o1, o2, ?_, ?_, ⟨hQ I1 I5 c s0 x g3 (fun i hi => by rw [o6 i hi, bcl]) (fun i hi => ?_), o5⟩, fun i hi => by rw [o6 i (by omega), bcl, g4 i hi]⟩
                  · rw [o3]
                    show nI (c + 1 + L.length) = nI (c + (L.length + 1))
                    exact congrArg nI (by omega)
                  · rw [o4]
                    show nI (s0 + lnM x + (lnL L).2) = nI (s0 + (lnM x + (lnL L).2))
                    exact congrArg nI (by omega)
                  · obtain ⟨y1, y2⟩ := t5 i hi
                    rw [y1, y2, b3.1 80 (by decide), b3.1 81 (by decide)]
                    exact ⟨rfl, rfl⟩
          · rw [if_neg e59] at hr
            rw [← Option.some.inj hr]
            obtain ⟨I2, b1, b2, b3⟩ := m_mustHB (O := O) (d := D) (u := u) (v := nI 0) hS g1 rfl
            refine ⟨I1, J1, I1, J1, up2 (up2 I2 69 20 (nI 0)) 69 13 (nI 0), J1, a1, noS e59, e_X11_endText ?_, MTo_bad b2 (a4.trans (MEy.of (b3 s0)))⟩
            unfold F_X11_endText
            rw [gi_69_19 hS, Option.bind_some, g1.2.1.1, if_pos (show nI 0 = 0 from rfl), gi_69_16 hS, Option.bind_some, if_neg (fun z => e4 (w3.mp z)), vc_69 hS, b1, toV_v, Option.bind_some, m_e19 hS]
/-- a text is begun -/
theorem m_begin (hS : St n T R) (hb : ∀ k, b k ≤ 255) (ht : t ≤ 400) {I : Nat → Nat → Int32} {J : Nat → Nat → Int64} (hT : ∀ k, k < t → I 78 k = nI (b k)) (h13 : I 69 13 = nI t) (hC : Cns J) : ∃ I' J', ev O (d + 4) MX11_beginText [.ref 69, .int (bI md)] (hp u n T I J R) = some (none, hp u n T I' J' R) ∧ MHd b t md 0 0 0 I' J' ∧ I' 69 21 = nI 0 ∧ (∀ a, a ≠ 69 → I' a = I a) ∧ (∀ k, Mf k = false → k ≠ 21 → k ≠ 20 → I' 69 k = I 69 k) ∧ (∀ a, a ≠ 69 → J' a = J a) ∧ ∀ k, k ≠ 17 → J' 69 k = J 69 k := by
  let I0 : Nat → Nat → Int32 := up2 (up2 (up2 (up2 I 69 20 (bI md)) 69 15 (nI 0)) 69 19 (nI 0)) 69 18 (-1)
  have o0 : ∀ j, j ≠ 20 → j ≠ 15 → j ≠ 19 → j ≠ 18 → I0 69 j = I 69 j := fun j h1 h2 h3 h4 => by
    show up2 (up2 (up2 (up2 I 69 20 (bI md)) 69 15 (nI 0)) 69 19 (nI 0)) 69 18 (-1) 69 j = _
    rw [up2_nk h4, up2_nk h3, up2_nk h2, up2_nk h1]
  have a0 : ∀ j, j ≠ 69 → I0 j = I j := fun j h1 => by
    show up2 (up2 (up2 (up2 I 69 20 (bI md)) 69 15 (nI 0)) 69 19 (nI 0)) 69 18 (-1) j = _
    rw [up2_off _ _ _ h1, up2_off _ _ _ h1, up2_off _ _ _ h1, up2_off _ _ _ h1]
  have p15 : I0 69 15 = nI 0 := by
    show up2 (up2 (up2 (up2 I 69 20 (bI md)) 69 15 (nI 0)) 69 19 (nI 0)) 69 18 (-1) 69 15 = _
    rw [up2_nk (by decide), up2_nk (by decide), up2_at]
  have p19 : I0 69 19 = nI 0 := by
    show up2 (up2 (up2 (up2 I 69 20 (bI md)) 69 15 (nI 0)) 69 19 (nI 0)) 69 18 (-1) 69 19 = _
    rw [up2_nk (by decide), up2_at]
  have p20 : I0 69 20 = bI md := by
    show up2 (up2 (up2 (up2 I 69 20 (bI md)) 69 15 (nI 0)) 69 19 (nI 0)) 69 18 (-1) 69 20 = _
    rw [up2_nk (by decide), up2_nk (by decide), up2_nk (by decide), up2_at]
  have p18 : I0 69 18 = -1 := up2_at _ _ _ _
  obtain ⟨I1, J1, e1, e2, e3⟩ := m_next (O := O) (d := d) (u := u) (J := J) (I := I0) hS hb ht (fun k hk => by rw [a0 78 (by decide)]; exact hT k hk) (by rw [o0 13 (by decide) (by decide) (by decide) (by decide)]; exact h13) (Nat.zero_le t) p15
  have bg : ev O (d + 3) MX11_begin [.ref 69] (hp u n T (up2 I 69 20 (bI md)) J R) = some (none, hp u n T I1 J1 R) := by
    refine e_X11_begin ?_
    unfold F_X11_begin
    rw [pi_69_15 hS, Option.bind_some, pi_69_19 hS, Option.bind_some, pi_69_18 hS, Option.bind_some, vc_69 hS, e1, toV_v, Option.bind_some]
  obtain ⟨o1, o2, o3, o4⟩ := e2
  have hp0 : skN b t 0 = plN b t 0 := sk_0
  rw [hp0] at e3
  let I2 : Nat → Nat → Int32 := up2 (up2 (up2 I1 69 21 (nI 0)) 69 23 (nI 0)) 69 26 (nI 0)
  have q2 : ∀ j, j ≠ 21 → j ≠ 23 → j ≠ 26 → I2 69 j = I1 69 j := fun j h1 h2 h3 => by
    show up2 (up2 (up2 I1 69 21 (nI 0)) 69 23 (nI 0)) 69 26 (nI 0) 69 j = _
    rw [up2_nk h3, up2_nk h2, up2_nk h1]
  have r2 : ∀ j, j ≠ 69 → I2 j = I1 j := fun j h1 => by
    show up2 (up2 (up2 I1 69 21 (nI 0)) 69 23 (nI 0)) 69 26 (nI 0) j = _
    rw [up2_off _ _ _ h1, up2_off _ _ _ h1, up2_off _ _ _ h1]
  have s21 : I2 69 21 = nI 0 := by
    show up2 (up2 (up2 I1 69 21 (nI 0)) 69 23 (nI 0)) 69 26 (nI 0) 69 21 = _
    rw [up2_nk (by decide), up2_nk (by decide), up2_at]
  have s23 : I2 69 23 = nI 0 := by
    show up2 (up2 (up2 I1 69 21 (nI 0)) 69 23 (nI 0)) 69 26 (nI 0) 69 23 = _
    rw [up2_nk (by decide), up2_at]
  have s26 : I2 69 26 = nI 0 := up2_at _ _ _ _
  refine ⟨I2, J1, e_X11_beginText ?_, ⟨⟨⟨fun k hk => by rw [r2 78 (by decide), o1 78 (by decide), a0 78 (by decide)]; exact hT k hk, by rw [q2 13 (by decide) (by decide) (by decide), o2 13 (by decide) (by decide) (by decide), o0 13 (by decide) (by decide) (by decide) (by decide)]; exact h13, by rw [q2 14 (by decide) (by decide) (by decide)]; exact e3.1, by rw [q2 15 (by decide) (by decide) (by decide)]; exact e3.2.1, by rw [q2 16 (by decide) (by decide) (by decide)]; exact e3.2.2.1, e3.2.2.2⟩, Nat.zero_le _, Cns_cg hC o3, ?_⟩, ⟨?_, ?_, s26⟩, s23, Nat.le_refl 0⟩, s21, fun a ha => by rw [r2 a ha, o1 a ha, a0 a ha], fun k hk h1 h2 => ?_, o3, o4⟩
  · unfold F_X11_beginText
    rw [zz_b, Option.bind_some, pi_69_20 hS, Option.bind_some, vc_69 hS, bg, toV_v, Option.bind_some, pi_69_21 hS, Option.bind_some, pi_69_23 hS, Option.bind_some, pi_69_26 hS, Option.bind_some]
  · rw [q2 18 (by decide) (by decide) (by decide), o2 18 (by decide) (by decide) (by decide), p18]
  · rw [q2 19 (by decide) (by decide) (by decide), o2 19 (by decide) (by decide) (by decide), p19]
  · rw [q2 20 (by decide) (by decide) (by decide), o2 20 (by decide) (by decide) (by decide), p20]
  · rw [q2 k h1 (Mf_ne hk (by decide)) (Mf_ne hk (by decide)), o2 k (Mf_ne hk (by decide)) (Mf_ne hk (by decide)) (Mf_ne hk (by decide)), o0 k h2 (Mf_ne hk (by decide)) (Mf_ne hk (by decide)) (Mf_ne hk (by decide))]
end RTM
