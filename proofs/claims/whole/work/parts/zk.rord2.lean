/-! the reference reads orders -/
theorem ite_of {p : Prop} [Decidable p] {A B C E : Prop} (h : if p then A else B) (h1 : A → C) (h2 : B → E) : if p then C else E := by
  by_cases e : p
  · rw [if_pos e] at h ⊢
    exact h1 h
  · rw [if_neg e] at h ⊢
    exact h2 h
theorem ClR_mk {I : Nat → Nat → Int32} {c s kd tm : Nat} {c1 m1 c2 m2 c4 m4 : GC} (h0 : I 96 (8 * c) = nI kd) (h1 : if kd = 3 then I 96 (8 * c + 1) = nI 0 ∧ I 96 (8 * c + 2) = nI 0 else I 96 (8 * c + 1) = nI s ∧ I 96 (8 * c + 2) = nI (s + m1.length)) (h2 : if kd = 1 then I 96 (8 * c + 3) = nI (s + m1.length) ∧ I 96 (8 * c + 4) = nI (s + m1.length + m2.length) else I 96 (8 * c + 3) = nI 0 ∧ I 96 (8 * c + 4) = nI 0) (h5 : I 96 (8 * c + 5) = nI (s + m1.length + m2.length)) (h6 : I 96 (8 * c + 6) = nI (s + lnM (kd, tm, c1, m1, c2, m2, c4, m4))) (h7 : I 96 (8 * c + 7) = nI tm) (hA : AtH (I 80) (I 81) s (m1 ++ m2 ++ m4)) : ClR I c s (kd, tm, c1, m1, c2, m2, c4, m4) := ⟨⟨h0, h1, h2⟩, h5, h6, h7, hA⟩
section ROE
variable {O : mO} {d u n : Nat} {T : Nat → mT} {I : Nat → Nat → Int32} {J : Nat → Nat → Int64} {R : Nat → Nat → Option Nat} {b : Nat → Nat} {t : Nat} {s0 k q c : Nat}
/-- second sum, times and test -/
theorem m_o125 (hS : St n T R) (hb : ∀ k, b k ≤ 255) (ht : t ≤ 400) (hc : c < 12) {k0 kd : Nat} (hkd : fT b t k0 - 2004 = kd) {r : Nat ⊕ (GC × GC × Nat × GC × GC × Nat × Nat)} (h : MHd b t true s0 k q I J) (hq : q ≤ 50) (hk0 : bsK true ≤ fT b t k0 ∧ fT b t k0 ≤ bsK true + 3) (hr : gC234 true (fT b t) k0 k q = some r) {v : Int32} (hv : v = nI (8 * c)) : ∃ I' J', F_X11_readOrder_j125 O (d + 10) 69 (nI kd) v (hp u n T I J R) = some (hp u n T I' J' R) ∧ MEy s0 96 I I' J J' ∧ (∀ j, r = .inl j → MBb (plN b t j) I') ∧ ∀ c2 m2 tm c4 m4 k4 q4, r = .inr (c2, m2, tm, c4, m4, k4, q4) → MHd b t true (s0 + m2.length + m4.length) k4 q4 I' J' ∧ AtH (I' 80) (I' 81) s0 (m2 ++ m4) ∧ I' 69 21 = I 69 21 ∧ (∀ i, i < 8 * c + 3 → I' 96 i = I 96 i) ∧ (if kd = 1 then I' 96 (8 * c + 3) = nI s0 ∧ I' 96 (8 * c + 4) = nI (s0 + m2.length) else I' 96 (8 * c + 3) = I 96 (8 * c + 3) ∧ I' 96 (8 * c + 4) = I 96 (8 * c + 4)) ∧ I' 96 (8 * c + 5) = nI (s0 + m2.length) ∧ I' 96 (8 * c + 6) = nI (s0 + m2.length + m4.length) ∧ I' 96 (8 * c + 7) = nI tm := by
  have tl := tkN_le (b := b) (t := t)
  have hb4 : bsK true = 2004 := rfl
  rw [hb4] at hk0
  unfold gC234 gC2 at hr
  rw [hb4] at hr
  by_cases e : true = true ∧ fT b t k0 = 2004 + 1
  · rw [if_pos e] at hr
    have e1 : nI kd = nI 1 := congrArg nI (by omega)
    have wd := m_isWord (O := O) (d := d + 9) (u := u) hS hb ht h.1.1 (w := 12) (x := 302) (by decide) (by decide)
    by_cases e2 : fT b t k = 2012
    · rw [if_pos e2] at hr
      obtain ⟨I1, J1, a1, a2, a3⟩ := m_mustHG (O := O) (d := d + 7) (u := u) (v := bI true) hS hb ht h (fT_lt (by omega)) (by decide)
      have hd : ∀ {y}, ((toV (ev O (d + 10) MX11_readSum [.ref 69, .int (nI (8 * c + 3))] (hp u n T I1 J1 R))).bind fun K54 => F_X11_readOrder_j155 O (d + 10) 69 v K54) = y → F_X11_readOrder_j125 O (d + 10) 69 (nI kd) v (hp u n T I J R) = y := by
        intro y z
        unfold F_X11_readOrder_j125 F_X11_readOrder_j148
        rw [if_pos e1, gi_69_19 hS, Option.bind_some, h.2.1.1, if_pos (show nI 0 = 0 from rfl), vc_69 hS, wd, toI_i, Option.bind_some]
        dsimp only
        rw [decide_eq_true (show mnT b t (plN b t k) = 2000 + 12 from e2), vc_69 hS, a1, toV_v, Option.bind_some, hv, nI_add, vc_69 hS, ← hv]
        exact z
      cases hx : gE true (fT b t) 2 (k + 1) q with
      | none =>
        rw [hx] at hr
        cases hr
      | some x =>
        obtain ⟨I2, J2, b1, b2, b3, b4⟩ := m_rsG (O := O) (d := d) (u := u) (a := 8 * c + 3) hS hb ht a2 hq (by omega) hx
        have ex := (MEy.of (cl := 96) (MEx.ofO (s0 := s0) a3)).trans b2
        rw [hx] at hr
        cases x with
        | inl j =>
          rw [← Option.some.inj hr]
          obtain ⟨I', f1, f2, f3⟩ := m_o155B (O := O) (d := d + 10) (u := u) (J := J2) hS hc (b3 j rfl) hv
          refine ⟨I', J2, hd ?_, ex.trans (f3 s0), (fun j e => by cases e; exact f2), (fun _ _ _ _ _ _ _ e => by cases e)⟩
          rw [b1, toV_v, Option.bind_some, f1]
        | inr y =>
          obtain ⟨c2, m2, k2, q2⟩ := y
          have hr : gWd (gC34 true (fT b t) k2 q2) (fun y => some (.inr (c2, m2, y))) = some r := hr
          obtain ⟨g1, g2, g3, g4, g5, g6⟩ := b4 _ _ _ _ rfl
          have v3 : q2 ≤ 50 := by
            rcases gE_ok (md := true) (T := tkN b t) (f := fT b t) (by omega) (fun k => fT_lt) (Or.inl rfl) (show k + 1 ≤ tkN b t from a2.1.2.1) hq with ⟨j, z, _⟩ | ⟨c', m', k', q', z, w1, w2, w3, w4, w5, _⟩
            · rw [hx] at z
              cases z
            · rw [hx] at z
              cases z
              exact w4
          cases hy : gC34 true (fT b t) k2 q2 with
          | none =>
            rw [hy] at hr
            cases hr
          | some z =>
            obtain ⟨I', J', f1, f2, f3, f4⟩ := m_o155 (O := O) (d := d + 1) (u := u) hS hb ht hc g1 v3 hy hv
            have f2' : MEy s0 96 I2 I' J2 J' := ⟨f2.1, f2.2.1, f2.2.2.1, f2.2.2.2.1, fun i hi => f2.2.2.2.2 i (by omega)⟩
            refine ⟨I', J', hd (by rw [b1, toV_v, Option.bind_some, f1]), ex.trans f2', ?_⟩
            rw [hy] at hr
            cases z with
            | inl j =>
              rw [← Option.some.inj hr]
              exact ⟨(fun j' e => by cases e; exact f3 j rfl), (fun _ _ _ _ _ _ _ e => by cases e)⟩
            | inr w =>
              obtain ⟨tm, c4, m4, k4, q4⟩ := w
              rw [← Option.some.inj hr]
              refine ⟨(fun j' e => by cases e), fun c2' m2' tm' c4' m4' k4' q4' e' => ?_⟩
              cases e'
              obtain ⟨p1, p2, p3, p4, p5, p6, p7⟩ := f4 _ _ _ _ _ rfl
              refine ⟨p1, ?_, by rw [p3, g3, a3.2.1 21 (by decide) (by decide) (by decide)], fun i hi => by rw [p4 i (by omega), g4 i (by omega) (by omega), a3.1 96 (by decide)], ?_, p5, p6, p7⟩
              · rw [AtH_ap]
                exact ⟨AtH_cg _ _ (fun j _ hj => f2.2.2.2.2 j hj) g2, p2⟩
              · rw [if_pos (by omega), p4 _ (by omega), p4 _ (by omega)]
                exact ⟨g5, g6⟩
    · rw [if_neg e2] at hr
      rw [← Option.some.inj hr]
      obtain ⟨I1, a1, a2, a3⟩ := m_mustHB (O := O) (d := d + 9) (u := u) (v := bI false) hS h (by decide)
      obtain ⟨I', f1, f2, f3⟩ := m_o148B (O := O) (d := d + 9) (u := u) (J := J) hS hc a2 hv
      refine ⟨I', J, ?_, (MEy.of (a3 s0)).trans (f3 s0), (fun j e => by cases e; exact f2), (fun _ _ _ _ _ _ _ e => by cases e)⟩
      unfold F_X11_readOrder_j125
      rw [if_pos e1, gi_69_19 hS, Option.bind_some, h.2.1.1, if_pos (show nI 0 = 0 from rfl), vc_69 hS, wd, toI_i, Option.bind_some]
      dsimp only
      rw [decide_eq_false (show ¬ mnT b t (plN b t k) = 2000 + 12 from e2), vc_69 hS, a1, toV_v, Option.bind_some, f1]
  · rw [if_neg e] at hr
    have hr : gWd (gC34 true (fT b t) k q) (fun y => some (.inr ([], [], y))) = some r := hr
    have ne : ¬ kd = 1 := fun z => e ⟨rfl, by omega⟩
    have n1 : ¬ nI kd = nI 1 := fun z => ne ((nI_eq (by omega) (by omega)).mp z)
    cases hy : gC34 true (fT b t) k q with
    | none =>
      rw [hy] at hr
      cases hr
    | some z =>
      obtain ⟨I', J', f1, f2, f3, f4⟩ := m_o155 (O := O) (d := d + 1) (u := u) hS hb ht hc h hq hy hv
      refine ⟨I', J', ?_, f2, ?_⟩
      · unfold F_X11_readOrder_j125
        rw [if_neg n1, f1]
      · rw [hy] at hr
        cases z with
        | inl j =>
          rw [← Option.some.inj hr]
          exact ⟨(fun j' e => by cases e; exact f3 j rfl), (fun _ _ _ _ _ _ _ e => by cases e)⟩
        | inr w =>
          obtain ⟨tm, c4, m4, k4, q4⟩ := w
          rw [← Option.some.inj hr]
          refine ⟨(fun j' e => by cases e), fun c2' m2' tm' c4' m4' k4' q4' e' => ?_⟩
          cases e'
          obtain ⟨p1, p2, p3, p4, p5, p6, p7⟩ := f4 _ _ _ _ _ rfl
          refine ⟨p1, p2, p3, fun i hi => p4 i (by omega), ?_, p5, p6, p7⟩
          rw [if_neg ne]
          exact ⟨p4 _ (by omega), p4 _ (by omega)⟩
theorem m_headO (hS : St n T R) (hb : ∀ k, b k ≤ 255) (ht : t ≤ 400) (h : MTs b t k I J) (hC : Cns J) : lupF (fun (q : Int32 × Int32 × mH) => F_X11_readOrder_l4 O (d + 1) 69 q.1 q.2.1 q.2.2) FU (-1, nI 0, hp u n T I J R) = some (hAt 4 (fT b t k) 4, hp u n T I J R) := by
  refine lup_0 (fun i => (hAt 4 (fT b t k) i, nI i, hp u n T I J R)) (N := 4) (by decide) rfl ?_ ?_
  · intro i hi
    unfold F_X11_readOrder_l4
    dsimp only
    rw [if_neg (nI_ge hi (by decide)), ga_69_46 hS, Option.bind_some, rd_95 hS hi, Option.bind_some, hC.2.2.2 i hi, vc_69 hS, m_isWord hS hb ht h (cn_95 i hi).2 (cn_95 i hi).1, toI_i, Option.bind_some, nI_add]
    dsimp only
    congr 2
    show ((if bI (decide (fT b t k = 2000 + (4 + i))) = 0 then hAt 4 (fT b t k) i else nI i), _) = ((if fT b t k = 2000 + (4 + i) then nI i else hAt 4 (fT b t k) i), _)
    by_cases e : fT b t k = 2000 + (4 + i)
    · rw [if_pos e, decide_eq_true e, if_neg (by decide)]
    · rw [if_neg e, decide_eq_false e, if_pos (by decide)]
  · unfold F_X11_readOrder_l4
    dsimp only
    rw [if_pos (by decide)]
theorem m_zeroO (hS : St n T R) (hc : c < 12) (v1 : Int32) : lupF (fun (q : Int32 × mH) => F_X11_readOrder_l85 O d 69 v1 (nI 8 * nI c) q.1 q.2) FU (nI 0, hp u n T I J R) = some (hp u n T (zrw I 96 (8 * c) 8) J R) := by
  refine lup_0 (fun i => (nI i, hp u n T (zrw I 96 (8 * c) i) J R)) (N := 8) (by decide) rfl ?_ ?_
  · intro i hi
    unfold F_X11_readOrder_l85
    dsimp only
    rw [if_neg (nI_ge hi (by decide)), ga_69_47 hS, Option.bind_some, nI_mul, nI_add, wr_96 hS (by omega), Option.bind_some, nI_add]
    rfl
  · unfold F_X11_readOrder_l85
    dsimp only
    rw [if_pos (by decide)]
theorem m_readOrder (hS : St n T R) (hb : ∀ k, b k ≤ 255) (ht : t ≤ 400) (hc : c < 12) {r : Nat ⊕ (CL × Nat × Nat)} (h : MHd b t true s0 k q I J) (h21 : I 69 21 = nI c) (hq : q ≤ 50) (hr : gC true (fT b t) k q = some r) : ∃ I' J', ev O (d + 11) MX11_readOrder [.ref 69] (hp u n T I J R) = some (none, hp u n T I' J' R) ∧ MCv b t true s0 c 96 I I' J J' r (fun x => ClR I' c s0 x) := by
  have hh := m_headO (O := O) (d := d + 9) (u := u) hS hb ht h.1.1 h.1.2.2.1
  rw [hAt_4] at hh
  unfold gC at hr
  by_cases hk0 : bsK true ≤ fT b t k ∧ fT b t k ≤ bsK true + 3
  · rw [if_pos hk0] at hr
    have hk1 : 2004 ≤ fT b t k ∧ fT b t k ≤ 2007 := hk0
    obtain ⟨kd, hkd⟩ : ∃ kd, fT b t k - 2004 = kd := ⟨_, rfl⟩
    have hkb : fT b t k - bsK true = kd := hkd
    rw [hkb] at hr
    rw [if_pos (show 2000 + 4 ≤ fT b t k ∧ fT b t k ≤ 2000 + 4 + 3 from hk0)] at hh
    have hh : lupF (fun (q : Int32 × Int32 × mH) => F_X11_readOrder_l4 O (d + 10) 69 q.1 q.2.1 q.2.2) FU (-1, nI 0, hp u n T I J R) = some (nI kd, hp u n T I J R) := by rw [← hkd]; exact hh
    obtain ⟨I1, J1, a1, a2, a3⟩ := m_mustHG (O := O) (d := d + 7) (u := u) (v := nI 1) hS hb ht h (fT_lt (by omega)) (by decide)
    have n21 : I1 69 21 = nI c := by rw [a3.2.1 21 (by decide) (by decide) (by decide)]; exact h21
    let I2 : Nat → Nat → Int32 := up2 (zrw (up2 I1 69 21 (nI (c + 1))) 96 (8 * c) 8) 96 (8 * c) (nI kd)
    obtain ⟨z1, z2, z3⟩ := zrw_off (I := up2 I1 69 21 (nI (c + 1))) (cl := 96) (x := 8 * c) 8
    have y2 := MHd_21 a2 (nI (c + 1))
    have zH : MHd b t true s0 (k + 1) q (zrw (up2 I1 69 21 (nI (c + 1))) 96 (8 * c) 8) J1 := by
      obtain ⟨⟨h1, h2, h3, h3'⟩, ⟨h4, h5, h6⟩, h7, h8⟩ := y2
      exact ⟨⟨MTs_cg h1 (z1 78 (by decide)) (fun k _ _ => by rw [z1 69 (by decide)]), h2, h3, by rw [z1 69 (by decide)]; exact h3'⟩, ⟨by rw [z1 69 (by decide)]; exact h4, by rw [z1 69 (by decide)]; exact h5, by rw [z1 69 (by decide)]; exact h6⟩, by rw [z1 69 (by decide)]; exact h7, h8⟩
    have hH : MHd b t true s0 (k + 1) q I2 J1 := MHd_c zH _ _ _ (by decide) (by decide)
    have ex : MEy s0 96 I I2 J J1 := by
      refine (MEy.of (MEx.ofO a3)).trans ((MEy_21 I1 J1 (nI (c + 1))).trans (MEy.trans (B := zrw (up2 I1 69 21 (nI (c + 1))) 96 (8 * c) 8) ?_ (MEy_c _ J1 _ _ (by decide) (by decide) (by decide))))
      exact ⟨fun a _ _ _ _ _ h6 => z1 a h6, fun k _ _ => by rw [z1 69 (by decide)], fun _ _ => rfl, fun _ _ => rfl, fun i _ => ⟨by rw [z1 80 (by decide)], by rw [z1 81 (by decide)]⟩⟩
    have q21 : I2 69 21 = nI (c + 1) := by
      show up2 (zrw (up2 I1 69 21 (nI (c + 1))) 96 (8 * c) 8) 96 (8 * c) (nI kd) 69 21 = _
      rw [up2_na (by decide), z1 69 (by decide), up2_at]
    have q0 : I2 96 (8 * c) = nI kd := up2_at _ _ _ _
    have qz : ∀ j, 1 ≤ j → j < 8 → I2 96 (8 * c + j) = nI 0 := fun j j1 j2 => by
      show up2 (zrw (up2 I1 69 21 (nI (c + 1))) 96 (8 * c) 8) 96 (8 * c) (nI kd) 96 (8 * c + j) = _
      rw [up2_nk (by omega), z3 j j2]
    have ql : ∀ i, i < 8 * c → I2 96 i = I 96 i := by
      intro i hi
      show up2 (zrw (up2 I1 69 21 (nI (c + 1))) 96 (8 * c) 8) 96 (8 * c) (nI kd) 96 i = _
      rw [up2_nk (by omega), z2 i (Or.inl hi), up2_na (by decide), a3.1 96 (by decide)]
    have hd : ∀ {Y}, (if nI kd = nI 3 then F_X11_readOrder_j125 O (d + 10) 69 (nI kd) (nI 8 * nI c) (hp u n T I2 J1 R) else (toV (ev O (d + 10) MX11_readSum [.ref 69, .int (nI (8 * c + 1))] (hp u n T I2 J1 R))).bind fun K71 => F_X11_readOrder_j125 O (d + 10) 69 (nI kd) (nI 8 * nI c) K71) = some Y → ev O (d + 11) MX11_readOrder [.ref 69] (hp u n T I J R) = some (none, Y) := by
      intro Y e
      refine e_X11_readOrder ?_
      unfold F_X11_readOrder
      rw [hh, Option.bind_some]
      dsimp only
      rw [if_neg (nI_ne1 (by omega)), gi_69_21 hS, Option.bind_some, h21, if_neg (nI_ge hc (by decide)), vc_69 hS, a1, toV_v, Option.bind_some, gi_69_19 hS, Option.bind_some, a2.2.1.1, if_pos (show nI 0 = 0 from rfl), gi_69_21 hS, Option.bind_some, n21, Option.bind_some, nI_add, pi_69_21 hS, Option.bind_some, m_zeroO hS hc, Option.bind_some, ga_69_47 hS, Option.bind_some, nI_mul, wr_96 hS (by omega), Option.bind_some, nI_add, vc_69 hS]
      rw [nI_mul] at e
      exact e
    generalize I2 = I2 at *
    have e8 : nI 8 * nI c = nI (8 * c) := nI_mul 8 c
    have fold : ∀ (c1 m1 : GC) (k1 q1 : Nat), (gWd (gC2 true (fT b t) k k1 q1) fun x2 => gWd (gC3 true (fT b t) x2.2.2.1) fun x3 => gWd (gC4 true (fT b t) x3.2 x2.2.2.2) fun x4 => some (Sum.inr ((kd, x3.1, c1, m1, x2.1, x2.2.1, x4.1, x4.2.1), x4.2.2.1, x4.2.2.2) : Nat ⊕ (CL × Nat × Nat))) = gWd (gC234 true (fT b t) k k1 q1) fun y => some (.inr ((kd, y.2.2.1, c1, m1, y.1, y.2.1, y.2.2.2.1, y.2.2.2.2.1), y.2.2.2.2.2.1, y.2.2.2.2.2.2)) := by
      intro c1 m1 k1 q1
      unfold gC234
      cases gC2 true (fT b t) k k1 q1 with
      | none => rfl
      | some x =>
        cases x with
        | inl j => rfl
        | inr x =>
          show (gWd (gC3 true (fT b t) x.2.2.1) fun x3 => _) = gWd (gWd (gC34 true (fT b t) x.2.2.1 x.2.2.2) _) _
          unfold gC34
          cases gC3 true (fT b t) x.2.2.1 with
          | none => rfl
          | some y =>
            cases y with
            | inl j => rfl
            | inr y =>
              show (gWd (gC4 true (fT b t) y.2 x.2.2.2) fun x4 => _) = gWd (gWd (gWd (gC4 true (fT b t) y.2 x.2.2.2) _) _) _
              cases gC4 true (fT b t) y.2 x.2.2.2 with
              | none => rfl
              | some z =>
                cases z with
                | inl j => rfl
                | inr z => rfl
    -- behind the first sum
    have rest : ∀ (c1 m1 : GC) (k1 q1 : Nat) (I3 : Nat → Nat → Int32) (J3 : Nat → Nat → Int64), MHd b t true (s0 + m1.length) k1 q1 I3 J3 → q1 ≤ 50 → AtH (I3 80) (I3 81) s0 m1 → I3 69 21 = nI (c + 1) → (∀ i, i ≠ 8 * c + 1 → i ≠ 8 * c + 2 → I3 96 i = I2 96 i) → (if kd = 3 then I3 96 (8 * c + 1) = nI 0 ∧ I3 96 (8 * c + 2) = nI 0 else I3 96 (8 * c + 1) = nI s0 ∧ I3 96 (8 * c + 2) = nI (s0 + m1.length)) → MEy s0 96 I I3 J J3 → (gWd (gC2 true (fT b t) k k1 q1) fun x2 => gWd (gC3 true (fT b t) x2.2.2.1) fun x3 => gWd (gC4 true (fT b t) x3.2 x2.2.2.2) fun x4 => some (Sum.inr ((kd, x3.1, c1, m1, x2.1, x2.2.1, x4.1, x4.2.1), x4.2.2.1, x4.2.2.2) : Nat ⊕ (CL × Nat × Nat))) = some r → ∃ I' J', F_X11_readOrder_j125 O (d + 10) 69 (nI kd) (nI 8 * nI c) (hp u n T I3 J3 R) = some (hp u n T I' J' R) ∧ MCv b t true s0 c 96 I I' J J' r (fun x => ClR I' c s0 x) := by
      intro c1 m1 k1 q1 I3 J3 i1 i2 i3 i4 i5 i6 i7 hr
      rw [fold] at hr
      cases hy : gC234 true (fT b t) k k1 q1 with
      | none =>
        rw [hy] at hr
        cases hr
      | some z =>
        obtain ⟨I', J', f1, f2, f3, f4⟩ := m_o125 (O := O) (d := d) (u := u) hS hb ht hc hkd i1 i2 hk0 hy e8
        refine ⟨I', J', f1, ?_⟩
        have f2' : MEy s0 96 I3 I' J3 J' := ⟨f2.1, f2.2.1, f2.2.2.1, f2.2.2.2.1, fun i hi => f2.2.2.2.2 i (by omega)⟩
        rw [hy] at hr
        cases z with
        | inl j =>
          rw [← Option.some.inj hr]
          exact ⟨(fun j' e => by cases e; exact f3 j rfl), (fun x k' q' e => by cases e), i7.trans f2'⟩
        | inr w =>
          obtain ⟨c2, m2, tm, c4, m4, k4, q4⟩ := w
          rw [← Option.some.inj hr]
          obtain ⟨p1, p2, p3, p4, p5, p6, p7, p8⟩ := f4 _ _ _ _ _ _ _ rfl
          refine ⟨(fun j' e => by cases e), fun x k' q' e => ?_, i7.trans f2'⟩
          obtain ⟨e1, e2⟩ := Prod.mk.inj (Sum.inr.inj e)
          obtain ⟨e2, e3⟩ := Prod.mk.inj e2
          subst e1 e2 e3
          have ln : s0 + lnM (kd, tm, c1, m1, c2, m2, c4, m4) = s0 + m1.length + m2.length + m4.length := by
            show s0 + (m1.length + m2.length + m4.length) = _
            omega
          have w1 : if kd = 3 then I' 96 (8 * c + 1) = nI 0 ∧ I' 96 (8 * c + 2) = nI 0 else I' 96 (8 * c + 1) = nI s0 ∧ I' 96 (8 * c + 2) = nI (s0 + m1.length) := by
            rw [p4 (8 * c + 1) (by omega), p4 (8 * c + 2) (by omega)]
            exact i6
          have w2 : if kd = 1 then I' 96 (8 * c + 3) = nI (s0 + m1.length) ∧ I' 96 (8 * c + 4) = nI (s0 + m1.length + m2.length) else I' 96 (8 * c + 3) = nI 0 ∧ I' 96 (8 * c + 4) = nI 0 := by
            refine ite_of p5 (fun z => z) (fun z => ?_)
            rw [z.1, z.2, i5 _ (by omega) (by omega), i5 _ (by omega) (by omega)]
            exact ⟨qz 3 (by decide) (by decide), qz 4 (by decide) (by decide)⟩
          have w0 : I' 96 (8 * c) = nI (kd) := by
            rw [p4 _ (by omega), i5 _ (by omega) (by omega), q0]
          refine ⟨by rw [ln]; exact p1, by rw [p3]; exact i4, ClR_mk w0 w1 w2 p6 (by rw [ln]; exact p7) p8 ?_, fun i hi => by rw [p4 i (by omega), i5 i (by omega) (by omega), ql i hi]⟩
          rw [List.append_assoc, AtH_ap]
          exact ⟨AtH_cg _ _ (fun j _ hj => f2.2.2.2.2 j hj) i3, p2⟩
    have hr : (gWd (gC1 true (fT b t) k q) fun x1 => gWd (gC2 true (fT b t) k x1.2.2.1 x1.2.2.2) fun x2 => gWd (gC3 true (fT b t) x2.2.2.1) fun x3 => gWd (gC4 true (fT b t) x3.2 x2.2.2.2) fun x4 => some (Sum.inr ((kd, x3.1, x1.1, x1.2.1, x2.1, x2.2.1, x4.1, x4.2.1), x4.2.2.1, x4.2.2.2) : Nat ⊕ (CL × Nat × Nat))) = some r := hr
    unfold gC1 at hr
    by_cases e3 : fT b t k = bsK true + 3
    · rw [if_pos e3] at hr
      have e3' : fT b t k = 2007 := e3
      have b3e : kd = 3 := by omega
      obtain ⟨I', J', f1, f2⟩ := rest [] [] (k + 1) q I2 J1 hH hq trivial q21 (fun _ _ _ => rfl) (by rw [if_pos b3e]; exact ⟨qz 1 (by decide) (by decide), qz 2 (by decide) (by decide)⟩) ex hr
      exact ⟨I', J', hd (by rw [if_pos (congrArg nI b3e), f1]), f2⟩
    · rw [if_neg e3] at hr
      have nb3 : ¬ kd = 3 := fun z => e3 (by show fT b t k = 2007; omega)
      have n3 : ¬ nI kd = nI 3 := fun z => nb3 ((nI_eq (by omega) (by omega)).mp z)
      cases hx : gE true (fT b t) 2 (k + 1) q with
      | none =>
        rw [hx] at hr
        cases hr
      | some x =>
        obtain ⟨I3, J3, b1, b2, b3, b4⟩ := m_rsG (O := O) (d := d) (u := u) (a := 8 * c + 1) hS hb ht hH hq (by omega) hx
        have ex3 := ex.trans b2
        rw [hx] at hr
        cases x with
        | inl j =>
          rw [← Option.some.inj hr]
          obtain ⟨I', f1, f2, f3⟩ := m_o125B (O := O) (d := d + 9) (u := u) (J := J3) hS hc (b3 j rfl) e8 (nI kd)
          refine ⟨I', J3, hd ?_, (fun j' e => by cases e; exact f2), (fun x k' q' e => by cases e), ex3.trans (f3 s0)⟩
          rw [if_neg n3, b1, toV_v, Option.bind_some, f1]
        | inr y =>
          obtain ⟨c1, m1, k1, q1⟩ := y
          obtain ⟨g1, g2, g3, g4, g5, g6⟩ := b4 _ _ _ _ rfl
          have v3 : q1 ≤ 50 := by
            have tl := tkN_le (b := b) (t := t)
            rcases gE_ok (md := true) (T := tkN b t) (f := fT b t) (by omega) (fun k => fT_lt) (Or.inl rfl) (show k + 1 ≤ tkN b t from hH.1.2.1) hq with ⟨j, z, _⟩ | ⟨c', m', k', q', z, w1, w2, w3, w4, w5, _⟩
            · rw [hx] at z
              cases z
            · rw [hx] at z
              cases z
              exact w4
          obtain ⟨I', J', f1, f2⟩ := rest c1 m1 k1 q1 I3 J3 g1 v3 g2 (by rw [g3]; exact q21) (fun i h1 h2 => g4 i h1 h2) (by rw [if_neg nb3]; exact ⟨g5, g6⟩) ex3 hr
          refine ⟨I', J', hd ?_, f2⟩
          rw [if_neg n3, b1, toV_v, Option.bind_some, f1]
  · rw [if_neg hk0] at hr
    rw [← Option.some.inj hr]
    rw [if_neg (show ¬ (2000 + 4 ≤ fT b t k ∧ fT b t k ≤ 2000 + 4 + 3) from hk0)] at hh
    obtain ⟨I1, a1, a2, a3⟩ := m_mustHB (O := O) (d := d + 9) (u := u) (v := nI 0) hS h rfl
    refine ⟨I1, J, e_X11_readOrder ?_, (fun j e => by cases e; exact a2), (fun x k' q' e => by cases e), MEy.of (a3 s0)⟩
    unfold F_X11_readOrder F_X11_readOrder_j53 F_X11_readOrder_j54
    rw [hh, Option.bind_some]
    dsimp only
    rw [if_pos rfl, vc_69 hS, a1, toV_v, Option.bind_some, gi_69_19 hS, Option.bind_some, a2.1, if_neg (show ¬ nI 1 = 0 by decide)]
theorem m_readOrder12 (hS : St n T R) (hb : ∀ k, b k ≤ 255) (ht : t ≤ 400) (h : MHd b t true s0 k q I J) (h21 : I 69 21 = nI 12) : ∃ I', ev O (d + 11) MX11_readOrder [.ref 69] (hp u n T I J R) = some (none, hp u n T I' J R) ∧ MBb (plN b t k) I' ∧ ∀ s, MEx s I I' J J := by
  have hh := m_headO (O := O) (d := d + 9) (u := u) hS hb ht h.1.1 h.1.2.2.1
  obtain ⟨I1, a1, a2, a3⟩ := m_mustHB (O := O) (d := d + 9) (u := u) (v := nI 0) hS h rfl
  refine ⟨I1, e_X11_readOrder ?_, a2, a3⟩
  unfold F_X11_readOrder F_X11_readOrder_j53 F_X11_readOrder_j54
  rw [hh, Option.bind_some]
  dsimp only
  rw [gi_69_21 hS, Option.bind_some, h21, if_pos (show nI 12 ≤ nI 12 by decide), vc_69 hS, a1, toV_v, Option.bind_some, gi_69_19 hS, Option.bind_some, a2.1, if_neg (show ¬ nI 1 = 0 by decide)]
  split <;> rfl
theorem m_textO (hS : St n T R) (hb : ∀ k, b k ≤ 255) (ht : t ≤ 400) (hT : ∀ k, k < t → I 78 k = nI (b k)) (h13 : I 69 13 = nI t) (hC : Cns J) {r : Nat ⊕ List CL} (hr : gX true (fT b t) 12 0 0 = some r) : ∃ I1 J1 I2 J2 I3 J3 I4 J4, ev O 199 MX11_beginText [.ref 69, .int (nI 1)] (hp u n T I J R) = some (none, hp u n T I1 J1 R) ∧ ev O 199 MX11_readOrder [.ref 69] (hp u n T I1 J1 R) = some (none, hp u n T I2 J2 R) ∧ lupF (fun (q : mH) => F_X11_orders_l19 O 199 69 q) FU (hp u n T I2 J2 R) = some (hp u n T I3 J3 R) ∧ ev O 199 MX11_endText [.ref 69] (hp u n T I3 J3 R) = some (none, hp u n T I4 J4 R) ∧ (∀ j, r = .inl j → MBb (plN b t j) I4) ∧ (∀ L, r = .inr L → I4 69 19 = nI 0 ∧ I4 69 18 = -1 ∧ I4 69 21 = nI L.length ∧ I4 69 23 = nI (lnL L).2 ∧ TxM ClR I4 0 0 L) ∧ (∀ a, a ≠ 69 → a ≠ 80 → a ≠ 81 → a ≠ 82 → a ≠ 83 → a ≠ 96 → I4 a = I a) ∧ (∀ k, Mf k = false → k ≠ 21 → k ≠ 20 → k ≠ 13 → I4 69 k = I 69 k) ∧ (∀ a, a ≠ 69 → J4 a = J a) ∧ I4 69 20 = nI 0 ∧ I4 69 13 = nI 0 := by
  obtain ⟨I1, J1, a1, a2, a3, a4, a5, a6, a7⟩ := m_begin (O := O) (d := 195) (u := u) (md := true) hS hb ht hT h13 hC
  obtain ⟨I2, J2, I3, J3, I4, J4, b1, b2, b3, b4, b5, ⟨b6, b7, b8, b9, b10⟩, b11, b12⟩ := m_loopT (O := O) (D := 197) (u := u) (md := true) (cl := 96) (M := MX11_readOrder) (Q := ClR) hS hb ht ⟨by decide, by decide, by decide⟩ (fun c s0 k q I J r hc hH h21 hq hg => m_readOrder (O := O) (d := 188) (u := u) hS hb ht hc hH h21 hq hg) (fun s0 k q I J hH h21 => m_readOrder12 (O := O) (d := 188) (u := u) hS hb ht hH h21) ClR_cg 12 0 0 0 0 FU I1 J1 r rfl a2 a3 (by decide) (by unfold FU; decide) hr
  refine ⟨I1, J1, I2, J2, I3, J3, I4, J4, a1, b1, b2, b3, b4, fun L e => ?_, fun a h1 h2 h3 h4 h5 h6 => by rw [b6 a h1 h2 h3 h4 h5 h6, a4 a h1], fun k hk h1 h2 h3 => by rw [b7 k hk h1 h2 h3, a5 k hk h1 h2], fun a ha => by rw [b8 a ha, a6 a ha], b11, b12⟩
  obtain ⟨o1, o2, o3, o4, o5, o6⟩ := b5 L e
  rw [Nat.zero_add] at o3 o4
  exact ⟨o1, o2, o3, o4, o5⟩
end ROE
