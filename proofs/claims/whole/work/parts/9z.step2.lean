/-! the reference's reading: what each turn does -/
theorem brk_stl {l : Nat} (hl : 1 ≤ l) : ∀ (P : PL) (c : GC), brk (stl l P c).1 = brk P
  | [], _ => rfl
  | (o, s) :: P, c => by
    show brk (if l ≤ bnd o then stl l P (jnM o s c) else ((o, s) :: P, c)).1 = _
    by_cases h : l ≤ bnd o
    · rw [if_pos h, brk_stl hl P]
      have := bnd_31 (Nat.le_trans hl h)
      show brk P = brk P + (if 31 ≤ o then 1 else 0)
      rw [if_neg (by omega)]
      rfl
    · rw [if_neg h]
theorem itL_no {md : Bool} {x : Nat} (h : x ≤ 1001) : itL md x = -1 := by
  have hw : wdI md x = 0 := by
    unfold wdI
    cases md
    · show (if 2014 ≤ x ∧ x ≤ 2022 then x - 2013 else 0) = 0
      rw [if_neg (by omega)]
    · show (if 2022 ≤ x ∧ x ≤ 2025 then x - 2021 else 0) = 0
      rw [if_neg (by omega)]
  unfold itL
  rw [hw, if_neg (fun z => z rfl), if_neg (fun z => absurd z.2 (by omega)), if_neg (fun z => absurd z.2 (by omega))]
theorem wdI_all {md : Bool} {x : Nat} (h : wdI md x ≠ 0) : (wdO md (wdI md x - 1)).2 = 0 ∧ (wdO md (wdI md x - 1)).1 < 20 ∧ 1 ≤ (wdO md (wdI md x - 1)).1 ∧ (md = true → (wdO md (wdI md x - 1)).1 < 5) ∧ 1001 < x ∧ x < 4000 := by
  have hx : x < 2030 ∧ 1001 < x := by
    apply Decidable.byContradiction
    intro z
    apply h
    unfold wdI
    cases md
    · show (if 2014 ≤ x ∧ x ≤ 2022 then x - 2013 else 0) = 0
      rw [if_neg (by omega)]
    · show (if 2022 ≤ x ∧ x ≤ 2025 then x - 2021 else 0) = 0
      rw [if_neg (by omega)]
  have a1 : ∀ x, x < 2030 → wdI true x ≠ 0 → (wdO true (wdI true x - 1)).2 = 0 ∧ (wdO true (wdI true x - 1)).1 < 20 ∧ 1 ≤ (wdO true (wdI true x - 1)).1 ∧ (wdO true (wdI true x - 1)).1 < 5 := by decide +kernel
  have a2 : ∀ x, x < 2030 → wdI false x ≠ 0 → (wdO false (wdI false x - 1)).2 = 0 ∧ (wdO false (wdI false x - 1)).1 < 20 ∧ 1 ≤ (wdO false (wdI false x - 1)).1 := by decide +kernel
  cases md with
  | true =>
    obtain ⟨e1, e2, e3, e4⟩ := a1 x hx.1 h
    exact ⟨e1, e2, e3, fun _ => e4, hx.2, by omega⟩
  | false =>
    obtain ⟨e1, e2, e3⟩ := a2 x hx.1 h
    exact ⟨e1, e2, e3, (fun z => by cases z), hx.2, by omega⟩
section MSQ
variable {O : mO} {d u n : Nat} {T : Nat → mT} {I : Nat → Nat → Int32} {J : Nat → Nat → Int64} {R : Nat → Nat → Option Nat} {b : Nat → Nat} {t : Nat} {md : Bool} {s0 w r k q : Nat} {P : PL} {c : GC}
theorem m_fixG {o a : Nat} (ho : ¬ (o = 29 ∨ o = 30)) (h : MGd b t md s0 w r k q P (c ++ [(o, 0)]) I J) : MGd b t md s0 w r k q P (c ++ [(o, a)]) (up2 I 81 (offP s0 P + c.length) (nI a)) J := by
  obtain ⟨⟨h1, h2, h3⟩, ⟨h4, h5, h6, h7⟩, ⟨g1, g2, g3, g4⟩, g5, g6⟩ := h
  rw [List.length_append] at g1 g4
  rw [AtH_ap] at g6
  obtain ⟨g6, ⟨g7, g8⟩, g9⟩ := g6
  refine ⟨⟨MTs_cg h1 (up2_off _ _ _ (by decide)) (fun k _ _ => up2_na (by decide)), h2, h3.1, by rw [up2_na (by decide)]; exact h3.2⟩, ⟨by rw [up2_na (by decide)]; exact h4, by rw [up2_na (by decide)]; exact h5, by rw [up2_na (by decide)]; exact h6, by rw [up2_na (by decide)]; exact h7⟩, ⟨by rw [up2_na (by decide), List.length_append]; exact g1, by rw [up2_na (by decide)]; exact g2, PiH_cg P (fun j _ => ⟨up2_na (by decide), up2_na (by decide)⟩) g3, by rw [List.length_append]; exact g4⟩, CoH_cg P (fun j hj hl => ⟨up2_na (by decide), up2_nk (by omega)⟩) g5, ?_⟩
  rw [AtH_ap]
  refine ⟨AtH_cg _ _ (fun j hj hl => ⟨up2_na (by decide), up2_nk (by omega)⟩) g6, ⟨by rw [up2_na (by decide)]; exact g7, ?_⟩, trivial⟩
  rw [up2_at, if_neg ho]
theorem MEx_81 {x : Nat} (v : Int32) (hx : s0 ≤ x) : MEx s0 I (up2 I 81 x v) J J := ⟨fun a _ _ h3 _ _ => up2_off _ _ _ h3, fun _ _ => up2_na (by decide), fun _ _ => rfl, fun _ _ => rfl, fun i hi => ⟨up2_na (by decide), up2_nk (by omega)⟩⟩
/-- the leaf stands: the number behind it, if there is one -/
theorem m_j99B (hS : St n T R) (hw : w ≤ 400) {v1 x y v : Int32} (hq' : q ≤ 50) (hv : v = 0 ∨ 50 ≤ q) (h : MGd b t md s0 w r k q P c I J) : ∃ I', F_X11_readPart_j99 O (d + 2) 69 v1 x y v 69 (hp u n T I J R) = some (nI 3, hp u n T I' J R) ∧ MBd s0 (plN b t k) I' ∧ MEx s0 I I' J J := by
  obtain ⟨I', e1, e2, e3⟩ := m_leafB (O := O) (d := d) (u := u) (x := y) (y := x) (v := v) hS hw hq' hv h
  refine ⟨I', ?_, e2, e3⟩
  unfold F_X11_readPart_j99
  rw [vc_69 hS, e1, toV_v, Option.bind_some, gi_69_20 hS, Option.bind_some, gi_69_19 hS, Option.bind_some, e2.1, if_neg (show ¬ nI 1 = 0 by decide)]
  split
  · rfl
  · split <;> rfl
theorem m_j99G (hS : St n T R) (hb : ∀ k, b k ≤ 255) (ht : t ≤ 400) {o a : Nat} {v1 v : Int32} (hv : ¬ v = 0) (ho : ¬ (o = 29 ∨ o = 30)) (hk : k < tkN b t) (hq : q < 50) (h : MGd b t md s0 k r k q P c I J) (h5 : md = true → v1 < nI 5) : ∃ I' J', F_X11_readPart_j99 O (d + 4) 69 v1 (nI a) (nI o) v 69 (hp u n T I J R) = some (nI 3, hp u n T I' J' R) ∧ MGd b t md s0 (k + 1) r (k + 1) (q + 1) P (c ++ [(o, a)]) I' J' ∧ MEx s0 I I' J J' := by
  obtain ⟨I', J', e1, e2, e3⟩ := m_leafG (O := O) (d := d) (u := u) (o := o) (a := a) (v := v) hS hb ht hv ho hk hq h
  refine ⟨I', J', ?_, e2, e3⟩
  unfold F_X11_readPart_j99
  rw [vc_69 hS, e1, toV_v, Option.bind_some, gi_69_20 hS, Option.bind_some, e2.2.1.2.1]
  cases md with
  | false => rw [if_pos (show bI false = 0 by decide)]
  | true => rw [if_neg (show ¬ bI true = 0 by decide), if_pos (h5 rfl)]
/-- term and means, with a number behind them -/
theorem m_j99T (hS : St n T R) (hb : ∀ k, b k ≤ 255) (ht : t ≤ 400) {o hi : Nat} {v : Int32} (hv : ¬ v = 0) (ho : o = 5 ∧ hi = 7 ∨ o = 6 ∧ hi = 3) (hk : k < tkN b t) (hq : q < 50) (h : MGd b t true s0 k r k q P c I J) : ∃ I' J', F_X11_readPart_j99 O (d + 5) 69 (nI o) (nI 0) (nI o) v 69 (hp u n T I J R) = some (nI 3, hp u n T I' J' R) ∧ (fT b t (k + 1) ≤ hi → MGd b t true s0 (k + 2) r (k + 2) (q + 1) P (c ++ [(o, fT b t (k + 1))]) I' J') ∧ (¬ fT b t (k + 1) ≤ hi → MBd s0 (plN b t (k + 1)) I') ∧ MEx s0 I I' J J' := by
  have tl := tkN_le (b := b) (t := t)
  obtain ⟨I1, J1, e1, e2, e3⟩ := m_leafG (O := O) (d := d + 1) (u := u) (o := o) (a := 0) (v := v) hS hb ht hv (by omega) hk hq h
  obtain ⟨nv, I2, J2, f1, f2, f3, f4⟩ := m_numberG (O := O) (d := d + 1) (u := u) (lo := 0) (hi := hi) (l := 0) (h' := if nI o = nI 5 then 7 else 3) hS hb ht (by decide) (by rcases ho with ⟨z1, z2⟩ | ⟨z1, z2⟩ <;> rw [z1, z2] <;> decide) (by omega) (by omega) (by omega) e2
  have l0 := off_le s0 P
  have g23 := e2.2.2.1.1
  have gwt := e2.2.2.1.2.2.2
  rw [List.length_append] at g23 gwt
  have g23 : I1 69 23 = nI (offP s0 P + c.length + 1) := g23
  have gwt : s0 + wgt P + (c.length + 1) ≤ k + 1 := gwt
  refine ⟨up2 I2 81 (offP s0 P + c.length) nv, J2, ?_, fun hf => ?_, fun hf => ?_, e3.trans (f4.trans (MEx_81 _ (by omega)))⟩
  · unfold F_X11_readPart_j99
    rw [vc_69 hS, e1, toV_v, Option.bind_some, gi_69_20 hS, Option.bind_some, e2.2.1.2.1, if_neg (show ¬ bI true = 0 by decide), if_neg (show ¬ nI o < nI 5 from fun z => absurd ((nI_ltI (by omega) (by omega)).mp z) (by omega)), gi_69_19 hS, Option.bind_some, e2.2.1.1, if_pos (show nI 0 = 0 from rfl), gi_69_23 hS, Option.bind_some, g23, ga_69_25 hS, Option.bind_some, vc_69 hS, f1, toI_i, Option.bind_some]
    dsimp only
    rw [nI_sub (by omega), Nat.add_sub_cancel, wr_81 hS (by omega), Option.bind_some]
  · obtain ⟨nE, gd⟩ := f2 ⟨Nat.zero_le _, hf⟩
    rw [nE]
    exact MGd_w (m_fixG (by omega) gd) (by omega)
  · obtain ⟨⟨m1, m2, _⟩, sh⟩ := f3 (fun z => hf z.2)
    exact ⟨by rw [up2_na (by decide)]; exact m1, by rw [up2_na (by decide)]; exact m2, P, _, MSh_w (MSh_cg sh (up2_na (by decide)) (up2_na (by decide)) (up2_off _ _ _ (by decide)) (up2_off _ _ _ (by decide))) (by omega)⟩
theorem m_readPart (hS : St n T R) (hb : ∀ k, b k ≤ 255) (ht : t ≤ 400) (hq : q ≤ 50) (h : MGd b t md s0 k (brk P) k q P c I J) : ∃ v I' J', ev O (d + 6) MX11_readPart [.ref 69] (hp u n T I J R) = some (some (.int v), hp u n T I' J' R) ∧ MRs b t md s0 (ptS md (fT b t) k q P c) v I I' J J' := by
  have tl := tkN_le (b := b) (t := t)
  have hkT := h.1.2.1
  have sg := m_isSign (O := O) (d := d + 4) (u := u) hS hb h.1.1 (c := 91) (by decide)
  by_cases h91 : fT b t k = 3091
  · obtain ⟨I', J', e1, e2, e3, e4⟩ := m_openG (O := O) (d := d + 1) (u := u) (o := 32) hS hb ht (Or.inr rfl) (fT_lt (by omega)) h
    refine ⟨nI 1, I', J', e_X11_readPart ?_, ?_⟩
    · unfold F_X11_readPart
      rw [vc_69 hS, sg, toI_i, Option.bind_some]
      dsimp only
      rw [decide_eq_true (show mnT b t (plN b t k) = 3000 + 91 from h91), if_neg (show ¬ bI true = 0 by decide), vc_69 hS, e1, toV_v, Option.bind_some]
    · unfold ptS
      rw [if_pos h91]
      by_cases h8 : brk P < 8
      · rw [if_pos h8]
        exact MRs_ok (e2 h8) e4
      · rw [if_neg h8]
        exact MRs_bad (e3 h8) e4
  · have pE : ptS md (fT b t) k q P c = lfS md (fT b t) k q P c := if_neg h91
    rw [pE]
    -- the word, then what stands
    have hd : ∀ {y}, F_X11_readPart_j35 O (d + 5) 69 (itL md (fT b t k)) (hp u n T I J R) = some y → ev O (d + 6) MX11_readPart [.ref 69] (hp u n T I J R) = some (some (.int y.1), y.2) := by
      intro y e
      refine e_X11_readPart ?_
      unfold F_X11_readPart
      rw [vc_69 hS, sg, toI_i, Option.bind_some]
      dsimp only
      rw [decide_eq_false (show ¬ mnT b t (plN b t k) = 3000 + 91 from h91), if_pos (show bI false = 0 by decide), gi_69_20 hS, Option.bind_some, h.2.1.2.1]
      cases md with
      | false =>
        rw [if_pos (show bI false = 0 by decide), vc_69 hS, m_partAt hS hb ht h.1.1 h.1.2.2.1, toI_i, Option.bind_some]
        exact e
      | true =>
        rw [if_neg (show ¬ bI true = 0 by decide), vc_69 hS, m_orderPartAt hS hb ht h.1.1 h.1.2.2.1, toI_i, Option.bind_some]
        exact e
    obtain ⟨w1, w2, w3⟩ := m_worth hS hb h.1.1
    have mle : fT b t k ≤ 4000 := mnT_le hb _
    -- how a leaf is asked for
    have big : 1001 < fT b t k → F_X11_readPart_j35 O (d + 5) 69 (itL md (fT b t k)) (hp u n T I J R) = F_X11_readPart_j99 O (d + 5) 69 (itL md (fT b t k)) (nI 0) (if itL md (fT b t k) = -1 then nI 0 else itL md (fT b t k)) (if itL md (fT b t k) = -1 then nI 0 else nI 1) 69 (hp u n T I J R) := by
      intro hx
      unfold F_X11_readPart_j35 F_X11_readPart_j59 F_X11_readPart_j60
      rw [gi_69_16 hS, Option.bind_some, if_neg (fun z => absurd (show fT b t k ≤ 1001 from w1.mp z) (by omega)), if_pos (show nI 0 = 0 from rfl), if_pos (show nI 0 = 0 from rfl)]
    have sml : fT b t k ≤ 1001 → F_X11_readPart_j35 O (d + 5) 69 (itL md (fT b t k)) (hp u n T I J R) = F_X11_readPart_j99 O (d + 5) 69 (-1) (if fT b t k ≤ 1000 then nI (fT b t k) else nI 0) (nI 0) (if fT b t k ≤ 1000 then nI 1 else nI 0) 69 (hp u n T I J R) := by
      intro hx
      obtain ⟨v, v1, v2, v3⟩ := w2 hx
      have v3 : v ≤ 1000 ∧ fT b t k = v ∨ 1000 < v ∧ fT b t k = 1001 := v3
      unfold F_X11_readPart_j35
      rw [itL_no hx, gi_69_16 hS, Option.bind_some, if_pos (w1.mpr hx), gj_69_17 hS, Option.bind_some, v1]
      have cE : (0 < lg_cmp (Int64.ofInt v) 1000) ↔ 1000 < v := by
        rw [lg_cmp_gt, ← Int64.not_le, show (1000 : Int64) = Int64.ofInt ((1000 : Nat) : Int) by decide, o64_le (by omega) (by omega)]
        omega
      by_cases hx2 : fT b t k ≤ 1000
      · rw [if_pos hx2, if_pos hx2, if_neg (fun z => absurd (cE.mp z) (by omega)), if_neg (show ¬ nI 1 = 0 by decide), Option.bind_some, if_pos (show (-1 : Int32) = -1 from rfl), if_pos (show (-1 : Int32) = -1 from rfl), if_neg (show ¬ nI 1 = 0 by decide), o64_32 (by omega)]
        rw [show v = fT b t k by omega]
      · rw [if_neg hx2, if_neg hx2, if_pos (cE.mpr (by omega)), if_pos (show nI 0 = 0 from rfl), if_pos (show (-1 : Int32) = -1 from rfl), if_pos (show (-1 : Int32) = -1 from rfl), if_pos (show nI 0 = 0 from rfl)]
    unfold lfS
    by_cases q5 : 50 ≤ q
    · rw [if_pos q5]
      by_cases hx : fT b t k ≤ 1001
      · obtain ⟨I', e1, e2, e3⟩ := m_j99B (O := O) (d := d + 3) (u := u) (v1 := -1) (x := if fT b t k ≤ 1000 then nI (fT b t k) else nI 0) (y := nI 0) (v := if fT b t k ≤ 1000 then nI 1 else nI 0) hS (by omega) hq (Or.inr q5) h
        exact ⟨nI 3, I', J, hd ((sml hx).trans e1), MRs_bad e2 e3⟩
      · obtain ⟨I', e1, e2, e3⟩ := m_j99B (O := O) (d := d + 3) (u := u) (v1 := itL md (fT b t k)) (x := nI 0) (y := if itL md (fT b t k) = -1 then nI 0 else itL md (fT b t k)) (v := if itL md (fT b t k) = -1 then nI 0 else nI 1) hS (by omega) hq (Or.inr q5) h
        exact ⟨nI 3, I', J, hd ((big (by omega)).trans e1), MRs_bad e2 e3⟩
    · rw [if_neg q5]
      by_cases h10 : fT b t k ≤ 1000
      · rw [if_pos h10]
        obtain ⟨I', J', e1, e2, e3⟩ := m_j99G (O := O) (d := d + 1) (u := u) (o := 0) (a := fT b t k) (v1 := -1) (v := nI 1) hS hb ht (by decide) (by decide) (fT_lt (by omega)) (by omega) h (fun _ => by decide)
        refine ⟨nI 3, I', J', hd (y := (nI 3, hp u n T I' J' R)) ((sml (by omega)).trans ?_), MRs_ok e2 e3⟩
        rw [if_pos h10, if_pos h10]
        exact e1
      · rw [if_neg h10]
        by_cases hw' : wdI md (fT b t k) ≠ 0
        · rw [if_pos hw']
          obtain ⟨o2, o20, o1, o5, x1, x2⟩ := wdI_all hw'
          have iE : itL md (fT b t k) = nI (wdO md (wdI md (fT b t k) - 1)).1 := if_pos hw'
          have xE : wdO md (wdI md (fT b t k) - 1) = ((wdO md (wdI md (fT b t k) - 1)).1, 0) := by rw [← o2]
          rw [xE]
          generalize (wdO md (wdI md (fT b t k) - 1)).1 = o at *
          obtain ⟨I', J', e1, e2, e3⟩ := m_j99G (O := O) (d := d + 1) (u := u) (o := o) (a := 0) (v1 := nI o) (v := nI 1) hS hb ht (by decide) (by omega) (fT_lt (by omega)) (by omega) h (fun z => (nI_ltI (by omega) (by omega)).mpr (o5 z))
          refine ⟨nI 3, I', J', hd (y := (nI 3, hp u n T I' J' R)) ((big x1).trans ?_), MRs_ok e2 e3⟩
          rw [iE, if_neg (nI_ne1 (by omega)), if_neg (nI_ne1 (by omega))]
          exact e1
        · rw [if_neg hw']
          have two : ∀ o hi, (o = 5 ∧ hi = 7 ∨ o = 6 ∧ hi = 3) → md = true → itL md (fT b t k) = nI o → 1001 < fT b t k → fT b t k < 4000 → ∃ v I' J', ev O (d + 6) MX11_readPart [.ref 69] (hp u n T I J R) = some (some (.int v), hp u n T I' J' R) ∧ MRs b t md s0 (if fT b t (k + 1) < hi + 1 then .inr (3, k + 2, q + 1, P, c ++ [(o, fT b t (k + 1))]) else .inl (k + 1)) v I I' J J' := by
            intro o hi hh hm hi2 hx hx2
            subst hm
            obtain ⟨I', J', e1, e2, e3, e4⟩ := m_j99T (O := O) (d := d) (u := u) (o := o) (hi := hi) (v := nI 1) hS hb ht (by decide) hh (fT_lt (by omega)) (by omega) h
            refine ⟨nI 3, I', J', hd (y := (nI 3, hp u n T I' J' R)) ((big hx).trans ?_), ?_⟩
            · rw [hi2, if_neg (nI_ne1 (by omega)), if_neg (nI_ne1 (by omega))]
              exact e1
            · by_cases hf : fT b t (k + 1) < hi + 1
              · rw [if_pos hf]
                exact MRs_ok (e2 (by omega)) e4
              · rw [if_neg hf]
                exact MRs_bad (e3 (by omega)) e4
          by_cases h20 : md = true ∧ fT b t k = 2020
          · rw [if_pos h20]
            have iE : itL md (fT b t k) = nI 5 := by
              unfold itL
              rw [if_neg hw', if_pos h20]
            obtain ⟨v, I', J', e1, e2⟩ := two 5 7 (Or.inl ⟨rfl, rfl⟩) h20.1 iE (by omega) (by omega)
            refine ⟨v, I', J', e1, ?_⟩
            have wE : ∀ x, x < 8 → wdO true (4 + x) = (5, x) := by decide
            by_cases hf : fT b t (k + 1) < 8
            · rw [if_pos hf] at e2 ⊢
              rw [h20.1, wE _ hf] at *
              exact e2
            · rw [if_neg hf] at e2 ⊢
              exact e2
          · rw [if_neg h20]
            by_cases h21 : md = true ∧ fT b t k = 2021
            · rw [if_pos h21]
              have iE : itL md (fT b t k) = nI 6 := by
                unfold itL
                rw [if_neg hw', if_neg h20, if_pos h21]
              obtain ⟨v, I', J', e1, e2⟩ := two 6 3 (Or.inr ⟨rfl, rfl⟩) h21.1 iE (by omega) (by omega)
              refine ⟨v, I', J', e1, ?_⟩
              have wE : ∀ x, x < 4 → wdO true (12 + x) = (6, x) := by decide
              by_cases hf : fT b t (k + 1) < 4
              · rw [if_pos hf] at e2 ⊢
                rw [h21.1, wE _ hf] at *
                exact e2
              · rw [if_neg hf] at e2 ⊢
                exact e2
            · rw [if_neg h21]
              have iE : itL md (fT b t k) = -1 := by
                unfold itL
                rw [if_neg hw', if_neg h20, if_neg h21]
              by_cases hx : fT b t k ≤ 1001
              · obtain ⟨I', e1, e2, e3⟩ := m_j99B (O := O) (d := d + 3) (u := u) (v1 := -1) (x := if fT b t k ≤ 1000 then nI (fT b t k) else nI 0) (y := nI 0) (v := if fT b t k ≤ 1000 then nI 1 else nI 0) hS (by omega) hq (Or.inl (by rw [if_neg h10]; rfl)) h
                exact ⟨nI 3, I', J, hd ((sml hx).trans e1), MRs_bad e2 e3⟩
              · obtain ⟨I', e1, e2, e3⟩ := m_j99B (O := O) (d := d + 3) (u := u) (v1 := itL md (fT b t k)) (x := nI 0) (y := if itL md (fT b t k) = -1 then nI 0 else itL md (fT b t k)) (v := if itL md (fT b t k) = -1 then nI 0 else nI 1) hS (by omega) hq (Or.inl (by rw [if_pos iE]; rfl)) h
                exact ⟨nI 3, I', J, hd ((big (by omega)).trans e1), MRs_bad e2 e3⟩
theorem m_readPlain (hS : St n T R) (hb : ∀ k, b k ≤ 255) (ht : t ≤ 400) (hq : q ≤ 50) (h : MGd b t md s0 k (brk P) k q P c I J) : ∃ v I' J', ev O (d + 7) MX11_readPlain [.ref 69] (hp u n T I J R) = some (some (.int v), hp u n T I' J' R) ∧ ∀ tst x, mSt md tst (fT b t) 0 k q P c = some x → MRs b t md s0 x v I I' J J' := by
  have tl := tkN_le (b := b) (t := t)
  have hkT := h.1.2.1
  have wd := m_isWord (O := O) (d := d + 5) (u := u) hS hb ht h.1.1 (w := 11) (x := 14836) (by decide) (by decide)
  have sg := m_isSign (O := O) (d := d + 5) (u := u) hS hb h.1.1 (c := 40) (by decide)
  by_cases h11 : fT b t k = 2011
  · have hk : k < tkN b t := fT_lt (by omega)
    obtain ⟨I1, a1, a2, a3⟩ := m_pushG (O := O) (d := d + 5) (u := u) (o := 28) hS (by decide) (by decide) (by decide) (by omega) h
    obtain ⟨I2, J2, b1, b2, b3⟩ := m_nextG (O := O) (d := d + 4) (u := u) hS hb ht a2 hk
    refine ⟨nI 0, I2, J2, e_X11_readPlain ?_, fun tst x hx => ?_⟩
    · unfold F_X11_readPlain
      rw [vc_69 hS, wd, toI_i, Option.bind_some]
      dsimp only
      rw [decide_eq_true (show mnT b t (plN b t k) = 2000 + 11 from h11), if_neg (show ¬ bI true = 0 by decide), vc_69 hS, a1, toV_v, Option.bind_some, vc_69 hS, b1, toV_v, Option.bind_some]
    · have hx : (if fT b t k = 2011 then some (Sum.inr (0, k + 1, q, (28, c) :: P, [])) else _) = some x := hx
      rw [if_pos h11] at hx
      rw [← Option.some.inj hx]
      exact MRs_ok b2 (a3.trans b3)
  · by_cases h40 : fT b t k = 3040
    · obtain ⟨I', J', e1, e2, e3, e4⟩ := m_openG (O := O) (d := d + 2) (u := u) (o := 31) hS hb ht (Or.inl rfl) (fT_lt (by omega)) h
      refine ⟨nI 0, I', J', e_X11_readPlain ?_, fun tst x hx => ?_⟩
      · unfold F_X11_readPlain
        rw [vc_69 hS, wd, toI_i, Option.bind_some]
        dsimp only
        rw [decide_eq_false (show ¬ mnT b t (plN b t k) = 2000 + 11 from h11), if_pos (show bI false = 0 by decide), vc_69 hS, sg, toI_i, Option.bind_some]
        dsimp only
        rw [decide_eq_true (show mnT b t (plN b t k) = 3000 + 40 from h40), if_neg (show ¬ bI true = 0 by decide), vc_69 hS, e1, toV_v, Option.bind_some]
      · have hx : (if fT b t k = 2011 then _ else if fT b t k = 3040 then (if brk P < 8 then some (Sum.inr (0, k + 1, q, (31, c) :: P, [])) else some (Sum.inl k)) else _) = some x := hx
        rw [if_neg h11, if_pos h40] at hx
        by_cases h8 : brk P < 8
        · rw [if_pos h8] at hx
          rw [← Option.some.inj hx]
          exact MRs_ok (e2 h8) e4
        · rw [if_neg h8] at hx
          rw [← Option.some.inj hx]
          exact MRs_bad (e3 h8) e4
    · obtain ⟨v, I', J', e1, e2⟩ := m_readPart (O := O) (d := d) (u := u) hS hb ht hq h
      refine ⟨v, I', J', e_X11_readPlain ?_, fun tst x hx => ?_⟩
      · unfold F_X11_readPlain
        rw [vc_69 hS, wd, toI_i, Option.bind_some]
        dsimp only
        rw [decide_eq_false (show ¬ mnT b t (plN b t k) = 2000 + 11 from h11), if_pos (show bI false = 0 by decide), vc_69 hS, sg, toI_i, Option.bind_some]
        dsimp only
        rw [decide_eq_false (show ¬ mnT b t (plN b t k) = 3000 + 40 from h40), if_pos (show bI false = 0 by decide), vc_69 hS, e1, toI_i, Option.bind_some]
      · have hx : (if fT b t k = 2011 then _ else if fT b t k = 3040 then _ else some (ptS md (fT b t) k q P c)) = some x := hx
        rw [if_neg h11, if_neg h40] at hx
        rw [← Option.some.inj hx]
        exact e2
end MSQ
