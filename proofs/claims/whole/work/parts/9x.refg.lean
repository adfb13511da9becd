/-! the reference's reading: its small steps -/
def Mf (k : Nat) : Bool := [14, 15, 16, 18, 19, 23, 26, 29, 30].contains k
/-- what reading leaves as it is -/
def MEx (s0 : Nat) (I I' : Nat → Nat → Int32) (J J' : Nat → Nat → Int64) : Prop := (∀ a, a ≠ 69 → a ≠ 80 → a ≠ 81 → a ≠ 82 → a ≠ 83 → I' a = I a) ∧ (∀ k, Mf k = false → I' 69 k = I 69 k) ∧ (∀ a, a ≠ 69 → J' a = J a) ∧ (∀ k, k ≠ 17 → J' 69 k = J 69 k) ∧ ∀ i, i < s0 → I' 80 i = I 80 i ∧ I' 81 i = I 81 i
theorem MEx.refl (s0 : Nat) (I : Nat → Nat → Int32) (J : Nat → Nat → Int64) : MEx s0 I I J J := ⟨fun _ _ _ _ _ _ => rfl, fun _ _ => rfl, fun _ _ => rfl, fun _ _ => rfl, fun _ _ => ⟨rfl, rfl⟩⟩
theorem MEx.trans {s0 : Nat} {A B C : Nat → Nat → Int32} {E F G : Nat → Nat → Int64} (h : MEx s0 A B E F) (k : MEx s0 B C F G) : MEx s0 A C E G := ⟨fun a h1 h2 h3 h4 h5 => (k.1 a h1 h2 h3 h4 h5).trans (h.1 a h1 h2 h3 h4 h5), fun x hx => (k.2.1 x hx).trans (h.2.1 x hx), fun a ha => (k.2.2.1 a ha).trans (h.2.2.1 a ha), fun x hx => (k.2.2.2.1 x hx).trans (h.2.2.2.1 x hx), fun i hi => ⟨(k.2.2.2.2 i hi).1.trans (h.2.2.2.2 i hi).1, (k.2.2.2.2 i hi).2.trans (h.2.2.2.2 i hi).2⟩⟩
theorem Mf_ne {k x : Nat} (h : Mf k = false) (hx : Mf x = true) : k ≠ x := fun z => by rw [z, hx] at h; cases h
theorem MEx.ofS {s0 : Nat} {I I' : Nat → Nat → Int32} {J : Nat → Nat → Int64} (h : SEx s0 I I') : MEx s0 I I' J J := ⟨fun a h1 h2 h3 _ _ => h.1 a h1 h2 h3, fun k hk => h.2.1 k (Mf_ne hk (by decide)) (Mf_ne hk (by decide)), fun _ _ => rfl, fun _ _ => rfl, h.2.2⟩
theorem MEx.ofO {s0 : Nat} {I I' : Nat → Nat → Int32} {J J' : Nat → Nat → Int64} (h : MOt I I' J J') : MEx s0 I I' J J' := ⟨fun a h1 _ _ _ _ => h.1 a h1, fun k hk => h.2.1 k (Mf_ne hk (by decide)) (Mf_ne hk (by decide)) (Mf_ne hk (by decide)), h.2.2.1, h.2.2.2, fun i _ => ⟨by rw [h.1 80 (by decide)], by rw [h.1 81 (by decide)]⟩⟩
theorem MEx.of69 {s0 x : Nat} (I : Nat → Nat → Int32) (J : Nat → Nat → Int64) (v : Int32) (hx : Mf x = true) : MEx s0 I (up2 I 69 x v) J J := ⟨fun a h1 _ _ _ _ => up2_off _ _ _ h1, fun k hk => up2_nk (Mf_ne hk hx), fun _ _ => rfl, fun _ _ => rfl, fun i _ => ⟨up2_na (by decide), up2_na (by decide)⟩⟩
/-- all is right: at token k, q parts, r open, pile P and code c since, within w -/
def MGd (b : Nat → Nat) (t : Nat) (md : Bool) (s0 w r k q : Nat) (P : PL) (c : GC) (I : Nat → Nat → Int32) (J : Nat → Nat → Int64) : Prop := (MTs b t k I J ∧ k ≤ tkN b t ∧ Cns J ∧ I 69 18 = -1) ∧ (I 69 19 = nI 0 ∧ I 69 20 = bI md ∧ I 69 26 = nI q ∧ I 69 30 = nI r) ∧ MSh s0 w P c I ∧ MCo s0 P c I
/-- a fault was found at x -/
def MBd (s0 x : Nat) (I : Nat → Nat → Int32) : Prop := I 69 19 = nI 1 ∧ I 69 18 = nI x ∧ ∃ P c, MSh s0 400 P c I
theorem MSh_w {s0 w w' : Nat} {P : PL} {c : GC} {I : Nat → Nat → Int32} (h : MSh s0 w P c I) (hw : w ≤ w') : MSh s0 w' P c I := ⟨h.1, h.2.1, h.2.2.1, Nat.le_trans h.2.2.2 hw⟩
theorem MSh_cg {s0 w : Nat} {P : PL} {c : GC} {I I' : Nat → Nat → Int32} (h : MSh s0 w P c I) (h1 : I' 69 23 = I 69 23) (h2 : I' 69 29 = I 69 29) (h3 : I' 82 = I 82) (h4 : I' 83 = I 83) : MSh s0 w P c I' := ⟨h1.trans h.1, h2.trans h.2.1, PiH_cg P (fun j _ => ⟨by rw [h3], by rw [h4]⟩) h.2.2.1, h.2.2.2⟩
theorem MCo_cg {s0 : Nat} {P : PL} {c : GC} {I I' : Nat → Nat → Int32} (h : MCo s0 P c I) (h3 : I' 80 = I 80) (h4 : I' 81 = I 81) : MCo s0 P c I' := ⟨CoH_cg P (fun j _ _ => ⟨by rw [h3], by rw [h4]⟩) h.1, AtH_cg _ _ (fun j _ _ => ⟨by rw [h3], by rw [h4]⟩) h.2⟩
theorem Cns_cg {J J' : Nat → Nat → Int64} (h : Cns J) (hJ : ∀ a, a ≠ 69 → J' a = J a) : Cns J' := by
  unfold Cns
  rw [hJ 84 (by decide), hJ 85 (by decide), hJ 86 (by decide), hJ 95 (by decide)]
  exact h
theorem MTs_cg {b : Nat → Nat} {t k : Nat} {I I' : Nat → Nat → Int32} {J : Nat → Nat → Int64} (h : MTs b t k I J) (h78 : I' 78 = I 78) (h69 : ∀ k, 13 ≤ k → k ≤ 16 → I' 69 k = I 69 k) : MTs b t k I' J := by
  obtain ⟨h1, h2, h3, h4, h5, h6⟩ := h
  exact ⟨fun k hk => by rw [h78]; exact h1 k hk, by rw [h69 13 (by decide) (by decide)]; exact h2, by rw [h69 14 (by decide) (by decide)]; exact h3, by rw [h69 15 (by decide) (by decide)]; exact h4, by rw [h69 16 (by decide) (by decide)]; exact h5, h6⟩
section MRG
variable {O : mO} {d u n : Nat} {T : Nat → mT} {I : Nat → Nat → Int32} {J : Nat → Nat → Int64} {R : Nat → Nat → Option Nat} {b : Nat → Nat} {t : Nat} {md : Bool} {s0 w r k q : Nat} {P : PL} {c : GC}
/-- a field of 69 that the rest does not look at -/
theorem MGd_30 (h : MGd b t md s0 w r k q P c I J) (r' : Nat) : MGd b t md s0 w r' k q P c (up2 I 69 30 (nI r')) J := by
  obtain ⟨⟨h1, h2, h3⟩, ⟨h4, h5, h6, h7⟩, h8, h9⟩ := h
  exact ⟨⟨MTs_cg h1 (up2_off _ _ _ (by decide)) (fun k _ _ => up2_nk (by omega)), h2, h3.1, by rw [up2_nk (by decide)]; exact h3.2⟩, ⟨by rw [up2_nk (by decide)]; exact h4, by rw [up2_nk (by decide)]; exact h5, by rw [up2_nk (by decide)]; exact h6, up2_at _ _ _ _⟩, MSh_cg h8 (up2_nk (by decide)) (up2_nk (by decide)) (up2_off _ _ _ (by decide)) (up2_off _ _ _ (by decide)), MCo_cg h9 (up2_off _ _ _ (by decide)) (up2_off _ _ _ (by decide))⟩
theorem MGd_26 (h : MGd b t md s0 w r k q P c I J) (q' : Nat) : MGd b t md s0 w r k q' P c (up2 I 69 26 (nI q')) J := by
  obtain ⟨⟨h1, h2, h3⟩, ⟨h4, h5, h6, h7⟩, h8, h9⟩ := h
  exact ⟨⟨MTs_cg h1 (up2_off _ _ _ (by decide)) (fun k _ _ => up2_nk (by omega)), h2, h3.1, by rw [up2_nk (by decide)]; exact h3.2⟩, ⟨by rw [up2_nk (by decide)]; exact h4, by rw [up2_nk (by decide)]; exact h5, up2_at _ _ _ _, by rw [up2_nk (by decide)]; exact h7⟩, MSh_cg h8 (up2_nk (by decide)) (up2_nk (by decide)) (up2_off _ _ _ (by decide)) (up2_off _ _ _ (by decide)), MCo_cg h9 (up2_off _ _ _ (by decide)) (up2_off _ _ _ (by decide))⟩
theorem MGd_O {I' : Nat → Nat → Int32} {J' : Nat → Nat → Int64} (h : MGd b t md s0 w r k q P c I J) (ho : MOt I I' J J') (hm : MTs b t (k + 1) I' J') (hk : k < tkN b t) : MGd b t md s0 w r (k + 1) q P c I' J' := by
  obtain ⟨⟨h1, h2, h3⟩, ⟨h4, h5, h6, h7⟩, h8, h9⟩ := h
  obtain ⟨o1, o2, o3, o4⟩ := ho
  exact ⟨⟨hm, hk, Cns_cg h3.1 o3, by rw [o2 18 (by decide) (by decide) (by decide)]; exact h3.2⟩, ⟨by rw [o2 19 (by decide) (by decide) (by decide)]; exact h4, by rw [o2 20 (by decide) (by decide) (by decide)]; exact h5, by rw [o2 26 (by decide) (by decide) (by decide)]; exact h6, by rw [o2 30 (by decide) (by decide) (by decide)]; exact h7⟩, MSh_cg h8 (o2 23 (by decide) (by decide) (by decide)) (o2 29 (by decide) (by decide) (by decide)) (o1 82 (by decide)) (o1 83 (by decide)), MCo_cg h9 (o1 80 (by decide)) (o1 81 (by decide))⟩
theorem m_nextG (hS : St n T R) (hb : ∀ k, b k ≤ 255) (ht : t ≤ 400) (h : MGd b t md s0 w r k q P c I J) (hk : k < tkN b t) : ∃ I' J', ev O (d + 2) MX11_next [.ref 69] (hp u n T I J R) = some (none, hp u n T I' J' R) ∧ MGd b t md s0 w r (k + 1) q P c I' J' ∧ MEx s0 I I' J J' := by
  obtain ⟨I', J', e1, e2, e3⟩ := m_nextT (O := O) (d := d) (u := u) hS hb ht h.1.1
  exact ⟨I', J', e1, MGd_O h e2 e3 hk, MEx.ofO e2⟩
theorem m_mustG (hS : St n T R) (hb : ∀ k, b k ≤ 255) (ht : t ≤ 400) (h : MGd b t md s0 w r k q P c I J) (hk : k < tkN b t) {v : Int32} (hv : ¬ v = 0) : ∃ I' J', ev O (d + 3) MX11_must [.ref 69, .int v] (hp u n T I J R) = some (none, hp u n T I' J' R) ∧ MGd b t md s0 w r (k + 1) q P c I' J' ∧ MEx s0 I I' J J' := by
  obtain ⟨I', J', e1, e2, e3⟩ := m_nextG (O := O) (d := d) (u := u) hS hb ht h hk
  refine ⟨I', J', e_X11_must ?_, e2, e3⟩
  unfold F_X11_must F_X11_must_j24
  rw [gi_69_19 hS, Option.bind_some, h.2.1.1, if_pos (show nI 0 = 0 from rfl), if_neg hv, Option.bind_some, if_pos (show nI 0 = 0 from rfl), vc_69 hS, e1, toV_v, Option.bind_some]
theorem m_mustBs (hS : St n T R) (hw : w ≤ 400) (h : MGd b t md s0 w r k q P c I J) {v : Int32} (hv : v = 0) : ∃ I', ev O (d + 1) MX11_must [.ref 69, .int v] (hp u n T I J R) = some (none, hp u n T I' J R) ∧ (MBd s0 (plN b t k) I' ∧ MEx s0 I I' J J) ∧ MSh s0 w P c I' := by
  obtain ⟨⟨h1, h2, h3⟩, ⟨h4, h5, h6, h7⟩, h8, h9⟩ := h
  have sh : MSh s0 w P c (up2 (up2 I 69 19 (nI 1)) 69 18 (I 69 14)) := MSh_cg h8 (by rw [up2_nk (by decide), up2_nk (by decide)]) (by rw [up2_nk (by decide), up2_nk (by decide)]) (by rw [up2_off _ _ _ (by decide), up2_off _ _ _ (by decide)]) (by rw [up2_off _ _ _ (by decide), up2_off _ _ _ (by decide)])
  refine ⟨up2 (up2 I 69 19 (nI 1)) 69 18 (I 69 14), e_X11_must ?_, ⟨⟨by rw [up2_nk (by decide), up2_at], by rw [up2_at]; exact h1.2.2.1, P, c, MSh_w sh hw⟩, (MEx.of69 I J (nI 1) (by decide)).trans (MEx.of69 _ J (I 69 14) (by decide))⟩, sh⟩
  unfold F_X11_must F_X11_must_j24
  rw [gi_69_19 hS, Option.bind_some, h4, if_pos (show nI 0 = 0 from rfl), if_pos hv, pi_69_19 hS, Option.bind_some, gi_69_14 hS, Option.bind_some, up2_nk (by decide), pi_69_18 hS, Option.bind_some, gi_69_19 hS, Option.bind_some, up2_nk (by decide), up2_at, if_neg (show ¬ nI 1 = 0 by decide)]
theorem m_mustB (hS : St n T R) (hw : w ≤ 400) (h : MGd b t md s0 w r k q P c I J) {v : Int32} (hv : v = 0) : ∃ I', ev O (d + 1) MX11_must [.ref 69, .int v] (hp u n T I J R) = some (none, hp u n T I' J R) ∧ MBd s0 (plN b t k) I' ∧ MEx s0 I I' J J := by
  obtain ⟨I', e1, e2, _⟩ := m_mustBs (O := O) (d := d) (u := u) hS hw h hv
  exact ⟨I', e1, e2⟩
theorem m_settleG (hS : St n T R) {l : Nat} (hw : w ≤ 400) (hl : l ≤ 6) (h : MGd b t md s0 w r k q P c I J) : ∃ I', ev O (d + 2) MX11_settle [.ref 69, .int (nI l)] (hp u n T I J R) = some (none, hp u n T I' J R) ∧ MGd b t md s0 w r k q (stl l P c).1 (stl l P c).2 I' J ∧ MEx s0 I I' J J := by
  obtain ⟨⟨h1, h2, h3⟩, ⟨h4, h5, h6, h7⟩, h8, h9⟩ := h
  obtain ⟨I', e1, e2, e3, e4⟩ := m_settle (O := O) (d := d) (u := u) (J := J) hS hw hl h8
  refine ⟨I', e1, ⟨⟨MTs_cg h1 (e4.1 78 (by decide) (by decide) (by decide)) (fun k _ _ => e4.2.1 k (by omega) (by omega)), h2, h3.1, by rw [e4.2.1 18 (by decide) (by decide)]; exact h3.2⟩, ⟨by rw [e4.2.1 19 (by decide) (by decide)]; exact h4, by rw [e4.2.1 20 (by decide) (by decide)]; exact h5, by rw [e4.2.1 26 (by decide) (by decide)]; exact h6, by rw [e4.2.1 30 (by decide) (by decide)]; exact h7⟩, e2, e3 h9⟩, MEx.ofS e4⟩
theorem m_emitG (hS : St n T R) {o a : Nat} (ho : ¬ (o = 29 ∨ o = 30)) (hw : w < 400) (h : MGd b t md s0 w r k q P c I J) : ∃ I', ev O (d + 1) MX11_emit [.ref 69, .int (nI o), .int (nI a)] (hp u n T I J R) = some (none, hp u n T I' J R) ∧ MGd b t md s0 (w + 1) r k q P (c ++ [(o, a)]) I' J ∧ MEx s0 I I' J J := by
  obtain ⟨⟨h1, h2, h3⟩, ⟨h4, h5, h6, h7⟩, ⟨g1, g2, g3, g4⟩, g5, g6⟩ := h
  obtain ⟨l1, l2, l3⟩ := off_le s0 P
  have em := m_emit (O := O) (d := d) (u := u) (J := J) hS g1 (show offP s0 P + c.length < 400 by omega) (nI o) (nI a)
  have f69 : ∀ j, j ≠ 23 → up2 (up2 (up2 I 80 (offP s0 P + c.length) (nI o)) 81 (offP s0 P + c.length) (nI a)) 69 23 (nI (offP s0 P + c.length + 1)) 69 j = I 69 j := fun j hj => by rw [up2_nk hj, up2_na (by decide), up2_na (by decide)]
  have fa : ∀ j, j ≠ 69 → j ≠ 80 → j ≠ 81 → up2 (up2 (up2 I 80 (offP s0 P + c.length) (nI o)) 81 (offP s0 P + c.length) (nI a)) 69 23 (nI (offP s0 P + c.length + 1)) j = I j := fun j j1 j2 j3 => by rw [up2_off _ _ _ j1, up2_off _ _ _ j3, up2_off _ _ _ j2]
  have fs : ∀ j, j ≠ offP s0 P + c.length → up2 (up2 (up2 I 80 (offP s0 P + c.length) (nI o)) 81 (offP s0 P + c.length) (nI a)) 69 23 (nI (offP s0 P + c.length + 1)) 80 j = I 80 j ∧ up2 (up2 (up2 I 80 (offP s0 P + c.length) (nI o)) 81 (offP s0 P + c.length) (nI a)) 69 23 (nI (offP s0 P + c.length + 1)) 81 j = I 81 j := fun j hj => ⟨by rw [up2_na (by decide), up2_na (by decide), up2_nk hj], by rw [up2_na (by decide), up2_nk hj, up2_na (by decide)]⟩
  refine ⟨_, em, ⟨⟨MTs_cg h1 (fa 78 (by decide) (by decide) (by decide)) (fun k _ _ => f69 k (by omega)), h2, h3.1, by rw [f69 18 (by decide)]; exact h3.2⟩, ⟨by rw [f69 19 (by decide)]; exact h4, by rw [f69 20 (by decide)]; exact h5, by rw [f69 26 (by decide)]; exact h6, by rw [f69 30 (by decide)]; exact h7⟩, ⟨?_, by rw [f69 29 (by decide)]; exact g2, PiH_cg P (fun j _ => ⟨by rw [fa 82 (by decide) (by decide) (by decide)], by rw [fa 83 (by decide) (by decide) (by decide)]⟩) g3, ?_⟩, CoH_cg P (fun j hj hl => fs j (by omega)) g5, ?_⟩, ?_⟩
  · rw [up2_at, List.length_append]
    rfl
  · rw [List.length_append]
    show s0 + wgt P + (c.length + 1) ≤ w + 1
    omega
  · rw [AtH_ap]
    refine ⟨AtH_cg _ _ (fun j hj hl => fs j (by omega)) g6, ⟨?_, ?_⟩, trivial⟩
    · rw [up2_na (by decide), up2_na (by decide), up2_at]
    · rw [up2_na (by decide), up2_at, if_neg ho]
  · exact ⟨fun j j1 j2 j3 _ _ => fa j j1 j2 j3, fun j hj => f69 j (Mf_ne hj (by decide)), fun _ _ => rfl, fun _ _ => rfl, fun i hi => fs i (by omega)⟩
theorem m_pushG (hS : St n T R) {o : Nat} (ho : ¬ (o = 29 ∨ o = 30)) (h20 : 20 ≤ o) (h32 : o ≤ 32) (hw : w < 400) (h : MGd b t md s0 w r k q P c I J) : ∃ I', ev O (d + 1) MX11_push [.ref 69, .int (nI o), .int (nI 0)] (hp u n T I J R) = some (none, hp u n T I' J R) ∧ MGd b t md s0 (w + 1) r k q ((o, c) :: P) [] I' J ∧ MEx s0 I I' J J := by
  obtain ⟨⟨h1, h2, h3⟩, ⟨h4, h5, h6, h7⟩, ⟨g1, g2, g3, g4⟩, g5, g6⟩ := h
  obtain ⟨l1, l2, l3⟩ := off_le s0 P
  have em := m_push (O := O) (d := d) (u := u) (J := J) hS g2 (show P.length < 400 by omega) (nI o) (nI 0)
  have f69 : ∀ j, j ≠ 29 → up2 (up2 (up2 I 82 P.length (nI o)) 83 P.length (nI 0)) 69 29 (nI (P.length + 1)) 69 j = I 69 j := fun j hj => by rw [up2_nk hj, up2_na (by decide), up2_na (by decide)]
  have fa : ∀ j, j ≠ 69 → j ≠ 82 → j ≠ 83 → up2 (up2 (up2 I 82 P.length (nI o)) 83 P.length (nI 0)) 69 29 (nI (P.length + 1)) j = I j := fun j j1 j2 j3 => by rw [up2_off _ _ _ j1, up2_off _ _ _ j3, up2_off _ _ _ j2]
  have of : offP s0 ((o, c) :: P) = offP s0 P + c.length := by
    show offP s0 P + c.length + (if o = 29 ∨ o = 30 then 1 else 0) = _
    rw [if_neg ho]
    rfl
  refine ⟨_, em, ⟨⟨MTs_cg h1 (fa 78 (by decide) (by decide) (by decide)) (fun k _ _ => f69 k (by omega)), h2, h3.1, by rw [f69 18 (by decide)]; exact h3.2⟩, ⟨by rw [f69 19 (by decide)]; exact h4, by rw [f69 20 (by decide)]; exact h5, by rw [f69 26 (by decide)]; exact h6, by rw [f69 30 (by decide)]; exact h7⟩, ⟨?_, up2_at _ _ _ _, ⟨PiH_cg P (fun j hj => ⟨by rw [up2_na (by decide), up2_na (by decide), up2_nk (by omega)], by rw [up2_na (by decide), up2_nk (by omega), up2_na (by decide)]⟩) g3, ?_, h20, h32, fun z => absurd z ho⟩, ?_⟩, ⟨CoH_cg P (fun j hj hl => ⟨by rw [fa 80 (by decide) (by decide) (by decide)], by rw [fa 81 (by decide) (by decide) (by decide)]⟩) g5, ?_, fun z => absurd z ho⟩, trivial⟩, ?_⟩
  · rw [f69 23 (by decide), of]
    exact g1
  · rw [up2_na (by decide), up2_na (by decide), up2_at]
  · show s0 + (wgt P + c.length + 1) + 0 ≤ w + 1
    omega
  · exact AtH_cg _ _ (fun j hj hl => ⟨by rw [fa 80 (by decide) (by decide) (by decide)], by rw [fa 81 (by decide) (by decide) (by decide)]⟩) g6
  · exact ⟨fun j j1 _ _ j4 j5 => fa j j1 j4 j5, fun j hj => f69 j (Mf_ne hj (by decide)), fun _ _ => rfl, fun _ _ => rfl, fun i hi => ⟨by rw [fa 80 (by decide) (by decide) (by decide)], by rw [fa 81 (by decide) (by decide) (by decide)]⟩⟩
/-- and, or: pushed and told -/
theorem m_andG (hS : St n T R) {o : Nat} (ho : o = 29 ∨ o = 30) (hw : w < 400) (h : MGd b t md s0 w r k q P c I J) : ∃ I1 I', ev O (d + 1) MX11_push [.ref 69, .int (nI o), .int (I 69 23)] (hp u n T I J R) = some (none, hp u n T I1 J R) ∧ ev O (d + 1) MX11_emit [.ref 69, .int (nI o), .int (nI 0)] (hp u n T I1 J R) = some (none, hp u n T I' J R) ∧ MGd b t md s0 (w + 1) r k q ((o, c) :: P) [] I' J ∧ MEx s0 I I' J J := by
  obtain ⟨⟨h1, h2, h3⟩, ⟨h4, h5, h6, h7⟩, ⟨g1, g2, g3, g4⟩, g5, g6⟩ := h
  obtain ⟨l1, l2, l3⟩ := off_le s0 P
  have em := m_push (O := O) (d := d) (u := u) (J := J) hS g2 (show P.length < 400 by omega) (nI o) (I 69 23)
  have e2 := m_emit (O := O) (d := d) (u := u) (J := J) (I := up2 (up2 (up2 I 82 P.length (nI o)) 83 P.length (I 69 23)) 69 29 (nI (P.length + 1))) hS (by rw [up2_nk (by decide), up2_na (by decide), up2_na (by decide)]; exact g1) (show offP s0 P + c.length < 400 by omega) (nI o) (nI 0)
  refine ⟨_, _, em, e2, ?_⟩
  have f69 : ∀ j, j ≠ 23 → j ≠ 29 → up2 (up2 (up2 (up2 (up2 (up2 I 82 P.length (nI o)) 83 P.length (I 69 23)) 69 29 (nI (P.length + 1))) 80 (offP s0 P + c.length) (nI o)) 81 (offP s0 P + c.length) (nI 0)) 69 23 (nI (offP s0 P + c.length + 1)) 69 j = I 69 j := fun j hj hj2 => by rw [up2_nk hj, up2_na (by decide), up2_na (by decide), up2_nk hj2, up2_na (by decide), up2_na (by decide)]
  have p29 : up2 (up2 (up2 (up2 (up2 (up2 I 82 P.length (nI o)) 83 P.length (I 69 23)) 69 29 (nI (P.length + 1))) 80 (offP s0 P + c.length) (nI o)) 81 (offP s0 P + c.length) (nI 0)) 69 23 (nI (offP s0 P + c.length + 1)) 69 29 = nI (P.length + 1) := by rw [up2_nk (by decide), up2_na (by decide), up2_na (by decide), up2_at]
  have p23 : up2 (up2 (up2 (up2 (up2 (up2 I 82 P.length (nI o)) 83 P.length (I 69 23)) 69 29 (nI (P.length + 1))) 80 (offP s0 P + c.length) (nI o)) 81 (offP s0 P + c.length) (nI 0)) 69 23 (nI (offP s0 P + c.length + 1)) 69 23 = nI (offP s0 P + c.length + 1) := up2_at _ _ _ _
  have fa : ∀ j, j ≠ 69 → j ≠ 80 → j ≠ 81 → j ≠ 82 → j ≠ 83 → up2 (up2 (up2 (up2 (up2 (up2 I 82 P.length (nI o)) 83 P.length (I 69 23)) 69 29 (nI (P.length + 1))) 80 (offP s0 P + c.length) (nI o)) 81 (offP s0 P + c.length) (nI 0)) 69 23 (nI (offP s0 P + c.length + 1)) j = I j := fun j j1 j2 j3 j4 j5 => by rw [up2_off _ _ _ j1, up2_off _ _ _ j3, up2_off _ _ _ j2, up2_off _ _ _ j1, up2_off _ _ _ j5, up2_off _ _ _ j4]
  have fs : ∀ j, j ≠ offP s0 P + c.length → up2 (up2 (up2 (up2 (up2 (up2 I 82 P.length (nI o)) 83 P.length (I 69 23)) 69 29 (nI (P.length + 1))) 80 (offP s0 P + c.length) (nI o)) 81 (offP s0 P + c.length) (nI 0)) 69 23 (nI (offP s0 P + c.length + 1)) 80 j = I 80 j ∧ up2 (up2 (up2 (up2 (up2 (up2 I 82 P.length (nI o)) 83 P.length (I 69 23)) 69 29 (nI (P.length + 1))) 80 (offP s0 P + c.length) (nI o)) 81 (offP s0 P + c.length) (nI 0)) 69 23 (nI (offP s0 P + c.length + 1)) 81 j = I 81 j := fun j hj => ⟨by rw [up2_na (by decide), up2_na (by decide), up2_nk hj, up2_na (by decide), up2_na (by decide), up2_na (by decide)], by rw [up2_na (by decide), up2_nk hj, up2_na (by decide), up2_na (by decide), up2_na (by decide), up2_na (by decide)]⟩
  have f80 : up2 (up2 (up2 (up2 (up2 (up2 I 82 P.length (nI o)) 83 P.length (I 69 23)) 69 29 (nI (P.length + 1))) 80 (offP s0 P + c.length) (nI o)) 81 (offP s0 P + c.length) (nI 0)) 69 23 (nI (offP s0 P + c.length + 1)) 80 (offP s0 P + c.length) = nI o := by rw [up2_na (by decide), up2_na (by decide), up2_at]
  have fp : ∀ j, j ≠ P.length → up2 (up2 (up2 (up2 (up2 (up2 I 82 P.length (nI o)) 83 P.length (I 69 23)) 69 29 (nI (P.length + 1))) 80 (offP s0 P + c.length) (nI o)) 81 (offP s0 P + c.length) (nI 0)) 69 23 (nI (offP s0 P + c.length + 1)) 82 j = I 82 j ∧ up2 (up2 (up2 (up2 (up2 (up2 I 82 P.length (nI o)) 83 P.length (I 69 23)) 69 29 (nI (P.length + 1))) 80 (offP s0 P + c.length) (nI o)) 81 (offP s0 P + c.length) (nI 0)) 69 23 (nI (offP s0 P + c.length + 1)) 83 j = I 83 j := fun j hj => ⟨by rw [up2_na (by decide), up2_na (by decide), up2_na (by decide), up2_na (by decide), up2_na (by decide), up2_nk hj], by rw [up2_na (by decide), up2_na (by decide), up2_na (by decide), up2_na (by decide), up2_nk hj, up2_na (by decide)]⟩
  have f82 : up2 (up2 (up2 (up2 (up2 (up2 I 82 P.length (nI o)) 83 P.length (I 69 23)) 69 29 (nI (P.length + 1))) 80 (offP s0 P + c.length) (nI o)) 81 (offP s0 P + c.length) (nI 0)) 69 23 (nI (offP s0 P + c.length + 1)) 82 P.length = nI o := by rw [up2_na (by decide), up2_na (by decide), up2_na (by decide), up2_na (by decide), up2_na (by decide), up2_at]
  have f83 : up2 (up2 (up2 (up2 (up2 (up2 I 82 P.length (nI o)) 83 P.length (I 69 23)) 69 29 (nI (P.length + 1))) 80 (offP s0 P + c.length) (nI o)) 81 (offP s0 P + c.length) (nI 0)) 69 23 (nI (offP s0 P + c.length + 1)) 83 P.length = nI (offP s0 P + c.length) := by rw [up2_na (by decide), up2_na (by decide), up2_na (by decide), up2_na (by decide), up2_at]; exact g1
  generalize up2 (up2 (up2 (up2 (up2 (up2 I 82 P.length (nI o)) 83 P.length (I 69 23)) 69 29 (nI (P.length + 1))) 80 (offP s0 P + c.length) (nI o)) 81 (offP s0 P + c.length) (nI 0)) 69 23 (nI (offP s0 P + c.length + 1)) = I' at *
  have of : offP s0 ((o, c) :: P) = offP s0 P + c.length + 1 := by
    show offP s0 P + c.length + (if o = 29 ∨ o = 30 then 1 else 0) = _
    rw [if_pos ho]
  refine ⟨⟨⟨MTs_cg h1 (fa 78 (by decide) (by decide) (by decide) (by decide) (by decide)) (fun k _ _ => f69 k (by omega) (by omega)), h2, h3.1, by rw [f69 18 (by decide) (by decide)]; exact h3.2⟩, ⟨by rw [f69 19 (by decide) (by decide)]; exact h4, by rw [f69 20 (by decide) (by decide)]; exact h5, by rw [f69 26 (by decide) (by decide)]; exact h6, by rw [f69 30 (by decide) (by decide)]; exact h7⟩, ⟨by rw [p23, of]; rfl, p29, ⟨PiH_cg P (fun j hj => fp j (by omega)) g3, f82, by omega, by omega, fun _ => f83⟩, ?_⟩, ⟨CoH_cg P (fun j hj hl => fs j (by omega)) g5, AtH_cg _ _ (fun j hj hl => fs j (by omega)) g6, fun _ => f80⟩, trivial⟩, ?_⟩
  · show s0 + (wgt P + c.length + 1) + 0 ≤ w + 1
    omega
  · exact ⟨fun j j1 j2 j3 j4 j5 => fa j j1 j2 j3 j4 j5, fun j hj => f69 j (Mf_ne hj (by decide)) (Mf_ne hj (by decide)), fun _ _ => rfl, fun _ _ => rfl, fun i hi => fs i (by omega)⟩
/-- a bracket comes off the pile -/
theorem m_popG {o : Nat} {s : GC} (ho : 31 ≤ o) (h : MGd b t md s0 w r k q ((o, s) :: P) c I J) (r' : Nat) : MGd b t md s0 w r' k q P (s ++ c) (up2 (up2 I 69 29 (nI P.length)) 69 30 (nI r')) J ∧ MEx s0 I (up2 (up2 I 69 29 (nI P.length)) 69 30 (nI r')) J J := by
  obtain ⟨⟨h1, h2, h3⟩, ⟨h4, h5, h6, h7⟩, ⟨g1, g2, ⟨g3, _⟩, g4⟩, ⟨g5, g7, _⟩, g6⟩ := h
  have of : offP s0 ((o, s) :: P) = offP s0 P + s.length := by
    show offP s0 P + s.length + (if o = 29 ∨ o = 30 then 1 else 0) = _
    rw [if_neg (by omega)]
    rfl
  rw [of] at g1 g6
  have f69 : ∀ j, j ≠ 29 → j ≠ 30 → up2 (up2 I 69 29 (nI P.length)) 69 30 (nI r') 69 j = I 69 j := fun j j1 j2 => by rw [up2_nk j2, up2_nk j1]
  have fa : ∀ j, j ≠ 69 → up2 (up2 I 69 29 (nI P.length)) 69 30 (nI r') j = I j := fun j j1 => by rw [up2_off _ _ _ j1, up2_off _ _ _ j1]
  have g4 : s0 + (wgt P + s.length + 1) + c.length ≤ w := g4
  refine ⟨⟨⟨MTs_cg h1 (fa 78 (by decide)) (fun k _ _ => f69 k (by omega) (by omega)), h2, h3.1, by rw [f69 18 (by decide) (by decide)]; exact h3.2⟩, ⟨by rw [f69 19 (by decide) (by decide)]; exact h4, by rw [f69 20 (by decide) (by decide)]; exact h5, by rw [f69 26 (by decide) (by decide)]; exact h6, up2_at _ _ _ _⟩, ⟨?_, by rw [up2_nk (by decide), up2_at], PiH_cg P (fun j _ => ⟨by rw [fa 82 (by decide)], by rw [fa 83 (by decide)]⟩) g3, ?_⟩, CoH_cg P (fun j _ _ => ⟨by rw [fa 80 (by decide)], by rw [fa 81 (by decide)]⟩) g5, ?_⟩, (MEx.of69 I J _ (by decide)).trans (MEx.of69 _ J _ (by decide))⟩
  · rw [f69 23 (by decide) (by decide), g1, List.length_append]
    exact congrArg nI (by omega)
  · rw [List.length_append]
    omega
  · rw [AtH_ap]
    exact ⟨AtH_cg _ _ (fun j _ _ => ⟨by rw [fa 80 (by decide)], by rw [fa 81 (by decide)]⟩) g7, AtH_cg _ _ (fun j _ _ => ⟨by rw [fa 80 (by decide)], by rw [fa 81 (by decide)]⟩) g6⟩
end MRG
