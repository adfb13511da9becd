/-! the reference's expressions follow the grammar -/
theorem mSt_q {md tst : Bool} {f : Nat → Nat} {s k q : Nat} {P : PL} {c : GC} {y : CF} (h : mSt md tst f s k q P c = some (.inr y)) (hq : q ≤ 50) : y.2.2.1 ≤ 50 := by
  have pt : ∀ {z}, ptS md f k q P c = .inr z → z.2.2.1 ≤ 50 := by
    intro z e
    unfold ptS lfS at e
    repeat' (split at e)
    all_goals first
      | (cases e; exact hq)
      | (cases e; show q + 1 ≤ 50; omega)
      | cases e
  have sh : ∀ {s k' x}, shM s k' q x = some (.inr y) → y.2.2.1 ≤ 50 := by
    intro s k' x e
    obtain ⟨Q, c'⟩ := x
    cases Q with
    | nil => cases e
    | cons w Q =>
      obtain ⟨o, e'⟩ := w
      have e : (if 31 ≤ o then some (Sum.inr (s, k', q, Q, e' ++ c')) else none) = some (.inr y) := e
      split at e
      · cases e
        exact hq
      · cases e
  have pu : ∀ {s k' o x}, puM s k' q o x = some (.inr y) → y.2.2.1 ≤ 50 := by
    intro s k' o x e
    cases e
    exact hq
  unfold mSt at h
  split at h
  · repeat' (split at h)
    all_goals first
      | (cases h; exact hq)
      | exact pt (Option.some.inj h)
      | cases h
  · split at h
    · exact pt (Option.some.inj h)
    · split at h
      · repeat' (split at h)
        all_goals first
          | exact pu h
          | exact sh h
          | (cases h; exact hq)
          | cases h
      · repeat' (split at h)
        all_goals first
          | exact pu h
          | exact sh h
          | (cases h; exact hq)
          | cases h
section MEP
variable {O : mO} {d u n : Nat} {T : Nat → mT} {R : Nat → Nat → Option Nat} {b : Nat → Nat} {t : Nat} {md : Bool} {s0 : Nat}
theorem m_loopE (hS : St n T R) (hb : ∀ k, b k ≤ 255) (ht : t ≤ 400) {tst : Bool} {r : Nat ⊕ CF} (hr : ∀ y, r = .inr y → y.1 = 4) : ∀ (m : Nat) (s : CF) (fu : Nat) (I : Nat → Nat → Int32) (J : Nat → Nat → Int64), Mv md tst (fT b t) m s r → m + 1 < fu → s.1 ≤ 4 → s.2.2.1 ≤ 50 → MGd b t md s0 s.2.1 (brk s.2.2.2.1) s.2.1 s.2.2.1 s.2.2.2.1 s.2.2.2.2 I J → ∃ I' J', lupF (fun (q : Int32 × mH) => F_X11_readExpression_l20 O (d + 7) 69 (bI tst) q.1 q.2) fu (nI s.1, hp u n T I J R) = some (hp u n T I' J' R) ∧ MEx s0 I I' J J' ∧ (∀ j, r = .inl j → MBd s0 (plN b t j) I') ∧ ∀ y, r = .inr y → MGd b t md s0 y.2.1 (brk y.2.2.2.1) y.2.1 y.2.2.1 y.2.2.2.1 y.2.2.2.2 I' J'
  | 0, s, fu, I, J, h, hf, hs, hq, hG => by
    obtain ⟨fu, rfl⟩ : ∃ x, fu = x + 1 := ⟨fu - 1, by omega⟩
    have h : r = .inr s := h
    refine ⟨I, J, lup_e ?_, MEx.refl _ _ _, fun j e => ?_, fun y e => ?_⟩
    · unfold F_X11_readExpression_l20
      dsimp only
      rw [gi_69_19 hS, Option.bind_some, hG.2.1.1, if_pos (show nI 0 = 0 from rfl), hr s h, if_pos rfl]
    · rw [h] at e
      cases e
    · rw [h] at e
      cases e
      exact hG
  | m + 1, s, fu, I, J, h, hf, hs, hq, hG => by
    obtain ⟨fu, rfl⟩ : ∃ x, fu = x + 1 := ⟨fu - 1, by omega⟩
    obtain ⟨h4, x, e, hx⟩ := h
    have step : ∃ v I1 J1, F_X11_readExpression_l20 O (d + 7) 69 (bI tst) (nI s.1) (hp u n T I J R) = some (.inl (v, hp u n T I1 J1 R)) ∧ MRs b t md s0 x v I I1 J J1 := by
      have n4 : ¬ nI s.1 = nI 4 := fun z => h4 ((nI_eq (by omega) (by omega)).mp z)
      by_cases c0 : s.1 = 0
      · obtain ⟨v, I1, J1, a1, a2⟩ := m_readPlain (O := O) (d := d) (u := u) hS hb ht hq hG
        refine ⟨v, I1, J1, ?_, a2 tst x (by rw [← c0]; exact e)⟩
        unfold F_X11_readExpression_l20
        rw [gi_69_19 hS, Option.bind_some, hG.2.1.1, if_pos (show nI 0 = 0 from rfl), if_neg n4, if_pos (show nI s.1 = 0 by rw [c0]; rfl), vc_69 hS, a1, toI_i, Option.bind_some]
      · have n0 : ¬ nI s.1 = 0 := fun z => c0 ((nI_eq (b := 0) (by omega) (by omega)).mp z)
        by_cases c1 : s.1 = 1
        · obtain ⟨v, I1, J1, a1, a2⟩ := m_readPart (O := O) (d := d + 1) (u := u) hS hb ht hq hG
          refine ⟨v, I1, J1, ?_, ?_⟩
          · unfold F_X11_readExpression_l20
            rw [gi_69_19 hS, Option.bind_some, hG.2.1.1, if_pos (show nI 0 = 0 from rfl), if_neg n4, if_neg n0, if_pos (show nI s.1 = nI 1 by rw [c1]), vc_69 hS, a1, toI_i, Option.bind_some]
          · rw [c1] at e
            have e : some (ptS md (fT b t) s.2.1 s.2.2.1 s.2.2.2.1 s.2.2.2.2) = some x := e
            rw [← Option.some.inj e]
            exact a2
        · have n1 : ¬ nI s.1 = nI 1 := fun z => c1 ((nI_eq (by omega) (by omega)).mp z)
          by_cases c3 : s.1 = 3
          · rw [c3] at e
            obtain ⟨v, I1, J1, a1, a2⟩ := m_behindSum (O := O) (d := d + 2) (u := u) hS hb ht hG e
            refine ⟨v, I1, J1, ?_, a2⟩
            unfold F_X11_readExpression_l20
            rw [gi_69_19 hS, Option.bind_some, hG.2.1.1, if_pos (show nI 0 = 0 from rfl), if_neg n4, if_neg n0, if_neg n1, if_pos (show nI s.1 = nI 3 by rw [c3]), vc_69 hS, a1, toI_i, Option.bind_some]
          · have n3 : ¬ nI s.1 = nI 3 := fun z => c3 ((nI_eq (by omega) (by omega)).mp z)
            rw [show s.1 = 2 by omega] at e
            obtain ⟨v, I1, J1, a1, a2⟩ := m_behindTest (O := O) (d := d + 2) (u := u) hS hb ht hG e
            refine ⟨v, I1, J1, ?_, a2⟩
            unfold F_X11_readExpression_l20
            rw [gi_69_19 hS, Option.bind_some, hG.2.1.1, if_pos (show nI 0 = 0 from rfl), if_neg n4, if_neg n0, if_neg n1, if_neg n3, vc_69 hS, a1, toI_i, Option.bind_some]
    obtain ⟨v, I1, J1, s1, s2, s3, s4⟩ := step
    cases x with
    | inl j =>
      have hx : m = 0 ∧ r = .inl j := hx
      obtain ⟨fu, rfl⟩ : ∃ x, fu = x + 1 := ⟨fu - 1, by omega⟩
      refine ⟨I1, J1, ?_, s4, fun j' e' => ?_, fun y e' => ?_⟩
      · rw [lup_c s1]
        refine lup_e ?_
        unfold F_X11_readExpression_l20
        dsimp only
        rw [gi_69_19 hS, Option.bind_some, (s2 j rfl).1, if_neg (show ¬ nI 1 = 0 by decide)]
      · rw [hx.2] at e'
        cases e'
        exact s2 j rfl
      · rw [hx.2] at e'
        cases e'
    | inr y =>
      have hx : Mv md tst (fT b t) m y r := hx
      obtain ⟨vE, gY⟩ := s3 y rfl
      have hm := (mSt_mu h4 e).2 y rfl
      obtain ⟨I', J', f1, f2, f3, f4⟩ := m_loopE hS hb ht hr m y fu I1 J1 hx (by omega) hm.2.1 (mSt_q e hq) gY
      refine ⟨I', J', ?_, s4.trans f2, f3, f4⟩
      rw [lup_c s1, vE]
      exact f1
/-- between expressions: at token k, q parts, s0 steps told -/
def MHd (b : Nat → Nat) (t : Nat) (md : Bool) (s0 k q : Nat) (I : Nat → Nat → Int32) (J : Nat → Nat → Int64) : Prop := (MTs b t k I J ∧ k ≤ tkN b t ∧ Cns J ∧ I 69 18 = -1) ∧ (I 69 19 = nI 0 ∧ I 69 20 = bI md ∧ I 69 26 = nI q) ∧ I 69 23 = nI s0 ∧ s0 ≤ k
theorem fT_nt (ht : t ≤ 400) (k : Nat) : fT b t (k + gNt (fT b t) NT k) ≠ 2011 := by
  by_cases h : k ≤ tkN b t
  · exact (gNt_T h ht).2
  · have e : fT b t k = 4000 := by
      apply Decidable.byContradiction
      intro z
      exact absurd (fT_lt z) (by omega)
    have z : gNt (fT b t) NT k = 0 := by
      show (if fT b t k = 2011 then _ else 0) = 0
      rw [if_neg (by omega)]
    rw [z, Nat.add_zero, e]
    decide
theorem m_expr (hS : St n T R) (hb : ∀ k, b k ≤ 255) (ht : t ≤ 400) {tst : Bool} {k q : Nat} {I : Nat → Nat → Int32} {J : Nat → Nat → Int64} {r : GT} (h : MHd b t md s0 k q I J) (hq : q ≤ 50) (hr : gE md (fT b t) (if tst = true then 5 else 2) k q = some r) : ∃ I' J', ev O (d + 9) MX11_readExpression [.ref 69, .int (bI tst)] (hp u n T I J R) = some (none, hp u n T I' J' R) ∧ MEx s0 I I' J J' ∧ (∀ j, r = .inl j → MBd s0 (plN b t j) I') ∧ ∀ c m k' q', r = .inr (c, m, k', q') → MHd b t md (s0 + m.length) k' q' I' J' ∧ AtH (I' 80) (I' 81) s0 m := by
  have tl := tkN_le (b := b) (t := t)
  obtain ⟨⟨h1, h2, h3⟩, ⟨h4, h5, h6⟩, h7, h8⟩ := h
  have bd := gE_ok (md := md) (T := tkN b t) (f := fT b t) (mode := if tst = true then 5 else 2) (by omega) (fun k => fT_lt) (by cases tst; exact Or.inl rfl; exact Or.inr rfl) h2 hq
  obtain ⟨mv1, mv2⟩ := mv_all (md := md) (tst := tst) (fT_nt (b := b) ht) hr
  have hG : MGd b t md s0 k 0 k q [] [] (up2 (up2 I 69 29 (nI 0)) 69 30 (nI 0)) J := by
    have f69 : ∀ j, j ≠ 29 → j ≠ 30 → up2 (up2 I 69 29 (nI 0)) 69 30 (nI 0) 69 j = I 69 j := fun j j1 j2 => by rw [up2_nk j2, up2_nk j1]
    refine ⟨⟨MTs_cg h1 (by rw [up2_off _ _ _ (by decide), up2_off _ _ _ (by decide)]) (fun k _ _ => f69 k (by omega) (by omega)), h2, h3.1, by rw [f69 18 (by decide) (by decide)]; exact h3.2⟩, ⟨by rw [f69 19 (by decide) (by decide)]; exact h4, by rw [f69 20 (by decide) (by decide)]; exact h5, by rw [f69 26 (by decide) (by decide)]; exact h6, up2_at _ _ _ _⟩, ⟨by rw [f69 23 (by decide) (by decide)]; exact h7, by rw [up2_nk (by decide), up2_at]; rfl, trivial, h8⟩, trivial, trivial⟩
  have ex0 : MEx s0 I (up2 (up2 I 69 29 (nI 0)) 69 30 (nI 0)) J J := (MEx.of69 I J _ (by decide)).trans (MEx.of69 _ J _ (by decide))
  have hd : ∀ {K1 K2}, lupF (fun (q : Int32 × mH) => F_X11_readExpression_l20 O (d + 8) 69 (bI tst) q.1 q.2) FU (nI (if tst = true then 0 else 1), hp u n T (up2 (up2 I 69 29 (nI 0)) 69 30 (nI 0)) J R) = some K1 → (toV (vc O (d + 8) 11 MX11_settle 69 [.int (nI 1)] K1)) = some K2 → ev O (d + 9) MX11_readExpression [.ref 69, .int (bI tst)] (hp u n T I J R) = some (none, K2) := by
    intro K1 K2 e1 e2
    refine e_X11_readExpression ?_
    unfold F_X11_readExpression F_X11_readExpression_j76
    have e3 : (if bI tst = 0 then nI 1 else nI 0) = nI (if tst = true then 0 else 1) := by cases tst <;> rfl
    rw [pi_69_29 hS, Option.bind_some, pi_69_30 hS, Option.bind_some, e3, e1, Option.bind_some, e2, Option.bind_some]
  cases r with
  | inl j =>
    obtain ⟨m, hm, mv⟩ := mv1 j rfl
    have hj : j ≤ tkN b t := by
      rcases bd with ⟨j', e, _, e2⟩ | ⟨c, m, k', q', e, _⟩
      · rw [hr] at e
        cases e
        exact e2
      · rw [hr] at e
        cases e
    obtain ⟨I1, J1, f1, f2, f3, f4⟩ := m_loopE (O := O) (d := d + 1) (u := u) hS hb ht (r := .inl j) (fun y e => by cases e) m _ FU _ _ mv (by unfold FU; omega) (show (if tst = true then 0 else 1) ≤ 4 by cases tst <;> decide) hq hG
    obtain ⟨b1, b2, P, c, b3⟩ := f3 j rfl
    obtain ⟨I2, g1, g2, g3, g4⟩ := m_settle (O := O) (d := d + 6) (u := u) (J := J1) (l := 1) hS (Nat.le_refl 400) (by decide) b3
    refine ⟨I2, J1, hd f1 (by rw [vc_69 hS, g1, toV_v]), ex0.trans (f2.trans (MEx.ofS g4)), fun j' e => ?_, (fun _ _ _ _ e => by cases e)⟩
    cases e
    exact ⟨by rw [g4.2.1 19 (by decide) (by decide)]; exact b1, by rw [g4.2.1 18 (by decide) (by decide)]; exact b2, _, _, g2⟩
  | inr y =>
    obtain ⟨c, m, k', q'⟩ := y
    obtain ⟨nn, p, e, hn, mv, hu, hp'⟩ := mv2 c m k' q' rfl
    have hj : k' ≤ tkN b t := by
      rcases bd with ⟨j', e, _, e2⟩ | ⟨c, m, k', q', e, _, e2, _⟩
      · rw [hr] at e
        cases e
      · rw [hr] at e
        cases e
        exact e2
    obtain ⟨I1, J1, f1, f2, f3, f4⟩ := m_loopE (O := O) (d := d + 1) (u := u) hS hb ht (r := .inr (4, k', q', p, e)) (fun y e => by cases e; rfl) nn _ FU _ _ mv (by unfold FU; omega) (show (if tst = true then 0 else 1) ≤ 4 by cases tst <;> decide) hq hG
    have gY : MGd b t md s0 k' (brk p) k' q' p e I1 J1 := f4 _ rfl
    obtain ⟨I2, g1, g2, g3⟩ := m_settleG (O := O) (d := d + 6) (u := u) (l := 1) hS (by omega) (by decide) gY
    have sE : stl 1 p e = ([], m) := by
      have := stl_p (l := 1) (P := []) (by decide) p e hp'
      rw [List.append_nil, hu] at this
      exact this
    rw [sE] at g2
    obtain ⟨⟨i1, i2, i3⟩, ⟨i4, i5, i6, i7⟩, ⟨i8, i9, i10, i11⟩, i12, i13⟩ := g2
    refine ⟨I2, J1, hd f1 (by rw [vc_69 hS, g1, toV_v]), ex0.trans (f2.trans g3), (fun j' e => by cases e), fun c2 m2 k2 q2 e => ?_⟩
    cases e
    exact ⟨⟨⟨i1, i2, i3⟩, ⟨i4, i5, i6⟩, i8, by have i11 : s0 + 0 + m.length ≤ k' := i11; omega⟩, i13⟩
end MEP
