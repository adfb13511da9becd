/-! the reference's pile and code -/
def AtH (o a : Nat → Int32) : Nat → GC → Prop
  | _, [] => True
  | i, x :: c => (o i = nI x.1 ∧ a i = nI (if x.1 = 29 ∨ x.1 = 30 then i + 1 + x.2 else x.2)) ∧ AtH o a (i + 1) c
theorem AtH_ap {o a : Nat → Int32} {e : GC} : ∀ (c : GC) (i : Nat), AtH o a i (c ++ e) ↔ AtH o a i c ∧ AtH o a (i + c.length) e
  | [], i => ⟨fun h => ⟨trivial, h⟩, fun h => h.2⟩
  | x :: c, i => by
    have ih := AtH_ap (o := o) (a := a) (e := e) c (i + 1)
    rw [show i + 1 + c.length = i + (x :: c).length by show _ = i + (c.length + 1); omega] at ih
    exact ⟨fun h => ⟨⟨h.1, (ih.mp h.2).1⟩, (ih.mp h.2).2⟩, fun h => ⟨h.1.1, ih.mpr ⟨h.1.2, h.2⟩⟩⟩
theorem AtH_cg {o a o' a' : Nat → Int32} : ∀ (c : GC) (i : Nat), (∀ j, i ≤ j → j < i + c.length → o' j = o j ∧ a' j = a j) → AtH o a i c → AtH o' a' i c
  | [], _, _, _ => trivial
  | x :: c, i, h, hA => by
    obtain ⟨h1, h2⟩ := h i (Nat.le_refl i) (by show i < i + (c.length + 1); omega)
    exact ⟨⟨h1.trans hA.1.1, h2.trans hA.1.2⟩, AtH_cg c (i + 1) (fun j hj hl => h j (by omega) (by show j < i + (c.length + 1); omega)) hA.2⟩
def offP (s0 : Nat) : PL → Nat
  | [] => s0
  | (o, s) :: P => offP s0 P + s.length + if o = 29 ∨ o = 30 then 1 else 0
def wgt : PL → Nat
  | [] => 0
  | (_, s) :: P => wgt P + s.length + 1
theorem off_le (s0 : Nat) : ∀ P : PL, s0 ≤ offP s0 P ∧ offP s0 P ≤ s0 + wgt P ∧ P.length ≤ wgt P
  | [] => ⟨Nat.le_refl _, Nat.le_refl _, Nat.le_refl _⟩
  | (o, s) :: P => by
    obtain ⟨h1, h2, h3⟩ := off_le s0 P
    refine ⟨?_, ?_, ?_⟩
    · show s0 ≤ offP s0 P + s.length + _
      omega
    · show offP s0 P + s.length + (if o = 29 ∨ o = 30 then 1 else 0) ≤ s0 + (wgt P + s.length + 1)
      split <;> omega
    · show P.length + 1 ≤ wgt P + s.length + 1
      omega
def PiH (s0 : Nat) (I : Nat → Nat → Int32) : PL → Prop
  | [] => True
  | (o, s) :: P => PiH s0 I P ∧ I 82 P.length = nI o ∧ 20 ≤ o ∧ o ≤ 32 ∧ (o = 29 ∨ o = 30 → I 83 P.length = nI (offP s0 P + s.length))
def CoH (s0 : Nat) (I : Nat → Nat → Int32) : PL → Prop
  | [] => True
  | (o, s) :: P => CoH s0 I P ∧ AtH (I 80) (I 81) (offP s0 P) s ∧ (o = 29 ∨ o = 30 → I 80 (offP s0 P + s.length) = nI o)
theorem PiH_cg {s0 : Nat} {I I' : Nat → Nat → Int32} : ∀ P : PL, (∀ j, j < P.length → I' 82 j = I 82 j ∧ I' 83 j = I 83 j) → PiH s0 I P → PiH s0 I' P
  | [], _, _ => trivial
  | (o, s) :: P, h, hP => by
    obtain ⟨h1, h2, h3, h4, h5⟩ := hP
    obtain ⟨e1, e2⟩ := h P.length (Nat.lt_succ_self _)
    exact ⟨PiH_cg P (fun j hj => h j (Nat.lt_succ_of_lt hj)) h1, e1.trans h2, h3, h4, fun z => e2.trans (h5 z)⟩
theorem CoH_cg {s0 : Nat} {I I' : Nat → Nat → Int32} : ∀ P : PL, (∀ j, s0 ≤ j → j < offP s0 P → I' 80 j = I 80 j ∧ I' 81 j = I 81 j) → CoH s0 I P → CoH s0 I' P
  | [], _, _ => trivial
  | (o, s) :: P, h, hP => by
    obtain ⟨h1, h2, h3⟩ := hP
    have l0 := (off_le s0 P).1
    have lt : ∀ j, j < offP s0 P + s.length → j < offP s0 ((o, s) :: P) := fun j hj => by
      show j < offP s0 P + s.length + _
      omega
    refine ⟨CoH_cg P (fun j hj hl => h j hj (lt j (by omega))) h1, AtH_cg _ _ (fun j hj hl => h j (by omega) (lt j hl)) h2, fun z => ?_⟩
    refine (h _ (by omega) ?_).1.trans (h3 z)
    show offP s0 P + s.length < offP s0 P + s.length + (if o = 29 ∨ o = 30 then 1 else 0)
    rw [if_pos z]
    omega
def MSh (s0 w : Nat) (P : PL) (c : GC) (I : Nat → Nat → Int32) : Prop := I 69 23 = nI (offP s0 P + c.length) ∧ I 69 29 = nI P.length ∧ PiH s0 I P ∧ s0 + wgt P + c.length ≤ w
def MCo (s0 : Nat) (P : PL) (c : GC) (I : Nat → Nat → Int32) : Prop := CoH s0 I P ∧ AtH (I 80) (I 81) (offP s0 P) c
theorem bnd_all : ∀ o, o ≤ 32 → (if nI o < nI 31 then (if nI o = nI 30 then nI 1 else (if nI o = nI 29 then nI 2 else (if nI o = nI 28 then nI 3 else (if nI o < nI 25 then (if nI o < nI 22 then nI 5 else nI 6) else nI 4)))) else nI 0) = nI (bnd o) := by
  intro o h
  have : ∀ o, o < 33 → (if nI o < nI 31 then (if nI o = nI 30 then nI 1 else (if nI o = nI 29 then nI 2 else (if nI o = nI 28 then nI 3 else (if nI o < nI 25 then (if nI o < nI 22 then nI 5 else nI 6) else nI 4)))) else nI 0) = nI (bnd o) := by decide
  exact this o (by omega)
/-- what settling leaves as it is -/
def SEx (s0 : Nat) (I I' : Nat → Nat → Int32) : Prop := (∀ a, a ≠ 69 → a ≠ 80 → a ≠ 81 → I' a = I a) ∧ (∀ k, k ≠ 23 → k ≠ 29 → I' 69 k = I 69 k) ∧ ∀ i, i < s0 → I' 80 i = I 80 i ∧ I' 81 i = I 81 i
theorem SEx.refl (s0 : Nat) (I : Nat → Nat → Int32) : SEx s0 I I := ⟨fun _ _ _ _ => rfl, fun _ _ _ => rfl, fun _ _ => ⟨rfl, rfl⟩⟩
theorem SEx.trans {s0 : Nat} {A B C : Nat → Nat → Int32} (h : SEx s0 A B) (k : SEx s0 B C) : SEx s0 A C := ⟨fun a h1 h2 h3 => (k.1 a h1 h2 h3).trans (h.1 a h1 h2 h3), fun x h1 h2 => (k.2.1 x h1 h2).trans (h.2.1 x h1 h2), fun i hi => ⟨(k.2.2 i hi).1.trans (h.2.2 i hi).1, (k.2.2 i hi).2.trans (h.2.2 i hi).2⟩⟩
section MRF
variable {O : mO} {d u n : Nat} {T : Nat → mT} {I : Nat → Nat → Int32} {J : Nat → Nat → Int64} {R : Nat → Nat → Option Nat} {K : mH}
theorem m_binds {o : Nat} (h : o ≤ 32) : ev O (d + 1) MX11_binds [.int (nI o)] K = some (some (.int (nI (bnd o))), K) := by
  refine e_X11_binds ?_
  unfold F_X11_binds
  have b := bnd_all o h
  by_cases c : nI o < nI 31
  · rw [if_pos c] at b ⊢
    rw [b]
  · rw [if_neg c] at b ⊢
    rw [b]
theorem m_emit (hS : St n T R) {x : Nat} (hx : I 69 23 = nI x) (hl : x < 400) (a c : Int32) : ev O (d + 1) MX11_emit [.ref 69, .int a, .int c] (hp u n T I J R) = some (none, hp u n T (up2 (up2 (up2 I 80 x a) 81 x c) 69 23 (nI (x + 1))) J R) := by
  refine e_X11_emit ?_
  unfold F_X11_emit
  rw [ga_69_24 hS, Option.bind_some, gi_69_23 hS, Option.bind_some, hx, wr_80 hS hl, Option.bind_some, ga_69_25 hS, Option.bind_some, gi_69_23 hS, Option.bind_some, up2_na (by decide), hx, wr_81 hS hl, Option.bind_some, gi_69_23 hS, Option.bind_some, up2_na (by decide), up2_na (by decide), hx, pi_69_23 hS, Option.bind_some, nI_add]
theorem m_push (hS : St n T R) {x : Nat} (hx : I 69 29 = nI x) (hl : x < 400) (a c : Int32) : ev O (d + 1) MX11_push [.ref 69, .int a, .int c] (hp u n T I J R) = some (none, hp u n T (up2 (up2 (up2 I 82 x a) 83 x c) 69 29 (nI (x + 1))) J R) := by
  refine e_X11_push ?_
  unfold F_X11_push
  rw [ga_69_27 hS, Option.bind_some, gi_69_29 hS, Option.bind_some, hx, wr_82 hS hl, Option.bind_some, ga_69_28 hS, Option.bind_some, gi_69_29 hS, Option.bind_some, up2_na (by decide), hx, wr_83 hS hl, Option.bind_some, gi_69_29 hS, Option.bind_some, up2_na (by decide), up2_na (by decide), hx, pi_69_29 hS, Option.bind_some, nI_add]
theorem m_settleL (hS : St n T R) {s0 w l : Nat} (hw : w ≤ 400) (hl : l ≤ 6) : ∀ (P : PL) (c : GC) (I : Nat → Nat → Int32) (fu : Nat), P.length < fu → MSh s0 w P c I → ∃ I', lupF (fun (q : mH) => F_X11_settle_l0 O (d + 1) 69 (nI l) q) fu (hp u n T I J R) = some (hp u n T I' J R) ∧ MSh s0 w (stl l P c).1 (stl l P c).2 I' ∧ (MCo s0 P c I → MCo s0 (stl l P c).1 (stl l P c).2 I') ∧ SEx s0 I I' := by
  intro P
  induction P with
  | nil =>
    intro c I fu hf h
    obtain ⟨fu, rfl⟩ : ∃ x, fu = x + 1 := ⟨fu - 1, by omega⟩
    refine ⟨I, lup_e ?_, h, fun z => z, SEx.refl _ _⟩
    unfold F_X11_settle_l0
    rw [gi_69_29 hS, Option.bind_some, h.2.1, if_pos (show nI ([] : PL).length ≤ 0 by decide)]
  | cons y P ih =>
    intro c I fu hf h
    obtain ⟨o, s⟩ := y
    obtain ⟨fu, rfl⟩ : ∃ x, fu = x + 1 := ⟨fu - 1, by omega⟩
    obtain ⟨h23, h29, ⟨p1, p2, p3, p4, p5⟩, hwt⟩ := h
    obtain ⟨l1, l2, l3⟩ := off_le s0 P
    have hwt : s0 + (wgt P + s.length + 1) + c.length ≤ w := hwt
    have h29 : I 69 29 = nI (P.length + 1) := h29
    have b6 : bnd o ≤ 6 := by
      unfold bnd
      repeat' split
      all_goals decide
    have pos : ¬ nI (P.length + 1) ≤ 0 := fun z => absurd ((nI_leI (b := 0) (by omega) (by omega)).mp z) (by omega)
    have hd : ∀ {y}, (if nI (bnd o) < nI l then some (.inr (hp u n T I J R)) else if nI o = nI 29 then F_X11_settle_j63 O (d + 1) 69 (nI l) (hp u n T (up2 I 69 29 (nI P.length)) J R) else if nI o = nI 30 then F_X11_settle_j63 O (d + 1) 69 (nI l) (hp u n T (up2 I 69 29 (nI P.length)) J R) else (toV (ev O (d + 1) MX11_emit [.ref 69, .int (nI o), .int (nI 0)] (hp u n T (up2 I 69 29 (nI P.length)) J R))).bind fun K27 => some (.inl K27)) = y → F_X11_settle_l0 O (d + 1) 69 (nI l) (hp u n T I J R) = y := by
      intro y e
      unfold F_X11_settle_l0
      rw [gi_69_29 hS, Option.bind_some, h29, if_neg pos, ga_69_27 hS, Option.bind_some, Option.bind_some, nI_sub (by omega), Nat.add_sub_cancel, rd_82 hS (by omega), Option.bind_some, p2, m_binds p4, toI_i, Option.bind_some]
      dsimp only
      rw [gi_69_29 hS, Option.bind_some, h29, nI_sub (by omega), Nat.add_sub_cancel, pi_69_29 hS, Option.bind_some, ga_69_27 hS, Option.bind_some, gi_69_29 hS, Option.bind_some, up2_at, rd_82 hS (by omega), Option.bind_some, up2_na (by decide), p2, Option.bind_some, Option.bind_some, rd_82 hS (by omega), Option.bind_some, up2_na (by decide), p2, Option.bind_some, Option.bind_some, rd_82 hS (by omega), Option.bind_some, up2_na (by decide), p2, vc_69 hS]
      exact e
    show ∃ I', _ ∧ MSh s0 w (if l ≤ bnd o then stl l P (jnM o s c) else ((o, s) :: P, c)).1 (if l ≤ bnd o then stl l P (jnM o s c) else ((o, s) :: P, c)).2 I' ∧ (_ → MCo s0 (if l ≤ bnd o then stl l P (jnM o s c) else ((o, s) :: P, c)).1 (if l ≤ bnd o then stl l P (jnM o s c) else ((o, s) :: P, c)).2 I') ∧ _
    by_cases hb : l ≤ bnd o
    · rw [if_pos hb]
      have nl : ¬ nI (bnd o) < nI l := fun z => absurd ((nI_ltI (by omega) (by omega)).mp z) (by omega)
      by_cases ho : o = 29 ∨ o = 30
      · -- and, or: its skip is told where to
        have i23 : I 69 23 = nI (offP s0 P + s.length + 1 + c.length) := by
          rw [h23]
          show nI (offP s0 P + s.length + (if o = 29 ∨ o = 30 then 1 else 0) + c.length) = _
          rw [if_pos ho]
        have jE : jnM o s c = s ++ [(o, c.length)] ++ c := if_pos ho
        have jl : (jnM o s c).length = s.length + 1 + c.length := by
          rw [jE, List.length_append, List.length_append]
          rfl
        have j63 : F_X11_settle_j63 O (d + 1) 69 (nI l) (hp u n T (up2 I 69 29 (nI P.length)) J R) = some (.inl (hp u n T (up2 (up2 I 69 29 (nI P.length)) 81 (offP s0 P + s.length) (nI (offP s0 P + s.length + 1 + c.length))) J R)) := by
          unfold F_X11_settle_j63
          rw [ga_69_25 hS, Option.bind_some, ga_69_28 hS, Option.bind_some, gi_69_29 hS, Option.bind_some, up2_at, rd_83 hS (by omega), Option.bind_some, up2_na (by decide), p5 ho, gi_69_23 hS, Option.bind_some, up2_nk (by decide), i23, wr_81 hS (by omega), Option.bind_some]
        obtain ⟨I', f1, f2, f3, f4⟩ := ih (jnM o s c) (up2 (up2 I 69 29 (nI P.length)) 81 (offP s0 P + s.length) (nI (offP s0 P + s.length + 1 + c.length))) fu (by have : P.length + 1 < fu + 1 := hf; omega) ⟨by rw [up2_na (by decide), up2_nk (by decide), i23, jl]; exact congrArg nI (by omega), by rw [up2_na (by decide), up2_at], PiH_cg P (fun j _ => ⟨by rw [up2_na (by decide), up2_na (by decide)], by rw [up2_na (by decide), up2_na (by decide)]⟩) p1, by rw [jl]; omega⟩
        refine ⟨I', ?_, f2, fun hC => f3 ?_, SEx.trans ⟨fun a h1 h2 h3 => by rw [up2_off _ _ _ h3, up2_off _ _ _ h1], fun k h1 h2 => by rw [up2_na (by decide), up2_nk h2], fun i hi => ⟨by rw [up2_na (by decide), up2_na (by decide)], by rw [up2_nk (by omega), up2_na (by decide)]⟩⟩ f4⟩
        · rw [lup_c (hd _), f1]
          rw [if_neg nl, j63]
          rcases ho with z | z
          · rw [z, if_pos rfl]
          · rw [z, if_neg (by decide), if_pos rfl]
        · obtain ⟨⟨c1, c2, c3⟩, c4⟩ := hC
          have c4 : AtH (I 80) (I 81) (offP s0 P + s.length + (if o = 29 ∨ o = 30 then 1 else 0)) c := c4
          rw [if_pos ho] at c4
          refine ⟨CoH_cg P (fun j hj hl => ⟨by rw [up2_na (by decide), up2_na (by decide)], by rw [up2_nk (by omega), up2_na (by decide)]⟩) c1, ?_⟩
          rw [jE, AtH_ap, AtH_ap, List.length_append]
          refine ⟨⟨AtH_cg _ _ (fun j hj hl => ⟨by rw [up2_na (by decide), up2_na (by decide)], by rw [up2_nk (by omega), up2_na (by decide)]⟩) c2, ⟨?_, ?_⟩, trivial⟩, AtH_cg _ _ (fun j hj hl => ⟨by rw [up2_na (by decide), up2_na (by decide)], ?_⟩) c4⟩
          · rw [up2_na (by decide), up2_na (by decide)]
            exact c3 ho
          · rw [up2_at, if_pos ho]
          · have hj : offP s0 P + (s.length + 1) ≤ j := hj
            rw [up2_nk (by omega), up2_na (by decide)]
      · have i23 : I 69 23 = nI (offP s0 P + s.length + c.length) := by
          rw [h23]
          show nI (offP s0 P + s.length + (if o = 29 ∨ o = 30 then 1 else 0) + c.length) = _
          rw [if_neg ho]
          rfl
        have jE : jnM o s c = s ++ c ++ [(o, 0)] := if_neg ho
        have jl : (jnM o s c).length = s.length + c.length + 1 := by
          rw [jE, List.length_append, List.length_append]
          rfl
        have em := m_emit (O := O) (d := d) (u := u) (J := J) (I := up2 I 69 29 (nI P.length)) hS (by rw [up2_nk (by decide)]; exact i23) (show offP s0 P + s.length + c.length < 400 by omega) (nI o) (nI 0)
        obtain ⟨I', f1, f2, f3, f4⟩ := ih (jnM o s c) (up2 (up2 (up2 (up2 I 69 29 (nI P.length)) 80 (offP s0 P + s.length + c.length) (nI o)) 81 (offP s0 P + s.length + c.length) (nI 0)) 69 23 (nI (offP s0 P + s.length + c.length + 1))) fu (by have : P.length + 1 < fu + 1 := hf; omega) ⟨by rw [up2_at, jl]; exact congrArg nI (by omega), by rw [up2_nk (by decide), up2_na (by decide), up2_na (by decide), up2_at], PiH_cg P (fun j _ => ⟨by rw [up2_na (by decide), up2_na (by decide), up2_na (by decide), up2_na (by decide)], by rw [up2_na (by decide), up2_na (by decide), up2_na (by decide), up2_na (by decide)]⟩) p1, by rw [jl]; omega⟩
        refine ⟨I', ?_, f2, fun hC => f3 ?_, SEx.trans ⟨fun a h1 h2 h3 => by rw [up2_off _ _ _ h1, up2_off _ _ _ h3, up2_off _ _ _ h2, up2_off _ _ _ h1], fun k h1 h2 => by rw [up2_nk h1, up2_na (by decide), up2_na (by decide), up2_nk h2], fun i hi => ⟨by rw [up2_na (by decide), up2_na (by decide), up2_nk (by omega), up2_na (by decide)], by rw [up2_na (by decide), up2_nk (by omega), up2_na (by decide), up2_na (by decide)]⟩⟩ f4⟩
        · rw [lup_c (hd _), f1]
          rw [if_neg nl, if_neg (fun z => ho (Or.inl ((nI_eq (by omega) (by omega)).mp z))), if_neg (fun z => ho (Or.inr ((nI_eq (by omega) (by omega)).mp z))), em, toV_v, Option.bind_some]
        · obtain ⟨⟨c1, c2, c3⟩, c4⟩ := hC
          have c4 : AtH (I 80) (I 81) (offP s0 P + s.length + (if o = 29 ∨ o = 30 then 1 else 0)) c := c4
          rw [if_neg ho] at c4
          have same : ∀ j, j < offP s0 P + s.length + c.length → (up2 (up2 (up2 (up2 I 69 29 (nI P.length)) 80 (offP s0 P + s.length + c.length) (nI o)) 81 (offP s0 P + s.length + c.length) (nI 0)) 69 23 (nI (offP s0 P + s.length + c.length + 1))) 80 j = I 80 j ∧ (up2 (up2 (up2 (up2 I 69 29 (nI P.length)) 80 (offP s0 P + s.length + c.length) (nI o)) 81 (offP s0 P + s.length + c.length) (nI 0)) 69 23 (nI (offP s0 P + s.length + c.length + 1))) 81 j = I 81 j := fun j hj => ⟨by rw [up2_na (by decide), up2_na (by decide), up2_nk (by omega), up2_na (by decide)], by rw [up2_na (by decide), up2_nk (by omega), up2_na (by decide), up2_na (by decide)]⟩
          refine ⟨CoH_cg P (fun j hj hl => same j (by omega)) c1, ?_⟩
          rw [jE, AtH_ap, AtH_ap, List.length_append]
          refine ⟨⟨AtH_cg _ _ (fun j hj hl => same j (by omega)) c2, AtH_cg _ _ (fun j hj hl => same j (by omega)) c4⟩, ⟨?_, ?_⟩, trivial⟩
          · rw [← Nat.add_assoc, up2_na (by decide), up2_na (by decide), up2_at]
          · rw [← Nat.add_assoc, up2_na (by decide), up2_at, if_neg ho]
    · rw [if_neg hb]
      refine ⟨I, lup_e (hd ?_), ⟨h23, h29, ⟨p1, p2, p3, p4, p5⟩, hwt⟩, fun z => z, SEx.refl _ _⟩
      rw [if_pos ((nI_ltI (by omega) (by omega)).mpr (by omega))]
theorem m_settle (hS : St n T R) {s0 w l : Nat} {P : PL} {c : GC} (hw : w ≤ 400) (hl : l ≤ 6) (h : MSh s0 w P c I) : ∃ I', ev O (d + 2) MX11_settle [.ref 69, .int (nI l)] (hp u n T I J R) = some (none, hp u n T I' J R) ∧ MSh s0 w (stl l P c).1 (stl l P c).2 I' ∧ (MCo s0 P c I → MCo s0 (stl l P c).1 (stl l P c).2 I') ∧ SEx s0 I I' := by
  have l3 := off_le s0 P
  have hwt := h.2.2.2
  obtain ⟨I', f1, f2, f3, f4⟩ := m_settleL (O := O) (d := d) (u := u) (J := J) hS hw hl P c I FU (by unfold FU; omega) h
  refine ⟨I', e_X11_settle ?_, f2, f3, f4⟩
  unfold F_X11_settle
  rw [f1, Option.bind_some]
theorem m_innerL (hS : St n T R) {s0 N : Nat} (h29 : I 69 29 = nI N) (hN : N ≤ 400) : ∀ (P : PL) (fu : Nat), PiH s0 I P → P.length ≤ N → lupF (fun (q : Int32 × Int32) => F_X11_inner_l4 O d 69 (hp u n T I J R) q.1 q.2) (fu + P.length) (-1, nI 0) = lupF (fun (q : Int32 × Int32) => F_X11_inner_l4 O d 69 (hp u n T I J R) q.1 q.2) fu (if inn P = 0 then -1 else nI (inn P), nI P.length)
  | [], fu, _, _ => rfl
  | (o, s) :: P, fu, h, hl => by
    obtain ⟨p1, p2, p3, p4, p5⟩ := h
    have hl : P.length + 1 ≤ N := hl
    have ih := m_innerL hS h29 hN P (fu + 1) p1 (by omega)
    rw [show fu + ((o, s) :: P).length = fu + 1 + P.length by show fu + (P.length + 1) = _; omega, ih]
    refine lup_c ?_
    unfold F_X11_inner_l4
    dsimp only
    rw [gi_69_29 hS, Option.bind_some, h29, if_neg (nI_ge (show P.length < N by omega) (by omega)), ga_69_27 hS, Option.bind_some, rd_82 hS (by omega), Option.bind_some, p2]
    by_cases ho : 31 ≤ o
    · rw [if_neg (fun z => absurd ((nI_ltI (by omega) (by omega)).mp z) (by omega)), Option.bind_some, rd_82 hS (by omega), Option.bind_some, p2, nI_add]
      have e : inn ((o, s) :: P) = o := if_pos ho
      rw [e, if_neg (by omega)]
      rfl
    · rw [if_pos ((nI_ltI (by omega) (by omega)).mpr (by omega)), nI_add]
      have e : inn ((o, s) :: P) = inn P := if_neg ho
      rw [e]
      rfl
theorem m_inner (hS : St n T R) {s0 w : Nat} {P : PL} {c : GC} (hw : w ≤ 400) (h : MSh s0 w P c I) : ev O (d + 1) MX11_inner [.ref 69] (hp u n T I J R) = some (some (.int (if inn P = 0 then -1 else nI (inn P))), hp u n T I J R) := by
  have l3 := off_le s0 P
  have hwt := h.2.2.2
  refine e_X11_inner ?_
  unfold F_X11_inner
  have e : FU = (FU - P.length - 1 + 1) + P.length := by unfold FU; omega
  rw [e, m_innerL hS h.2.1 (by omega) P _ h.2.2.1 (Nat.le_refl _), lup_e (r := if inn P = 0 then -1 else nI (inn P)), Option.bind_some]
  unfold F_X11_inner_l4
  dsimp only
  rw [gi_69_29 hS, Option.bind_some, h.2.1, if_pos (nI_le (Nat.le_refl _) (by omega))]
theorem m_cmpL (hS : St n T R) {s0 : Nat} : ∀ (P : PL) (fu : Nat), PiH s0 I P → P.length ≤ 400 → P.length < fu → ∃ v, lupF (fun (q : Int32 × mH) => F_X11_isCompared_l7 O d 69 q.1 q.2) fu (nI P.length - nI 1, hp u n T I J R) = some (v, hp u n T I J R) ∧ F_X11_isCompared_j36 O d 69 v (hp u n T I J R) = some (bI (cmpd P), hp u n T I J R)
  | [], fu, _, _, hf => by
    obtain ⟨fu, rfl⟩ : ∃ x, fu = x + 1 := ⟨fu - 1, by omega⟩
    refine ⟨-1, lup_e ?_, ?_⟩
    · unfold F_X11_isCompared_l7
      dsimp only
      rw [show nI ([] : PL).length - nI 1 = -1 by decide, if_pos (by decide)]
    · unfold F_X11_isCompared_j36
      rw [if_pos (by decide)]
      rfl
  | (o, s) :: P, fu, h, hl, hf => by
    obtain ⟨p1, p2, p3, p4, p5⟩ := h
    have hl : P.length + 1 ≤ 400 := hl
    have hf : P.length + 1 < fu := hf
    obtain ⟨fu, rfl⟩ : ∃ x, fu = x + 1 := ⟨fu - 1, by omega⟩
    have e1 : nI ((o, s) :: P).length - nI 1 = nI P.length := by
      show nI (P.length + 1) - nI 1 = _
      rw [nI_sub (by omega), Nat.add_sub_cancel]
    have neg : ¬ nI P.length < 0 := fun z => absurd ((nI_ltI (b := 0) (by omega) (by omega)).mp z) (by omega)
    have rgE : ∀ lo hi, lo ≤ 32 → hi ≤ 32 → rg (nI o) lo hi = decide (lo ≤ o ∧ o ≤ hi) := by
      intro lo hi hlo hh
      unfold rg
      simp only [nI_leI (show lo < 2 ^ 31 by omega) (show o < 2 ^ 31 by omega), nI_leI (show o < 2 ^ 31 by omega) (show hi < 2 ^ 31 by omega)]
    have v1 := v_inL (O := O) (d := d) (K := hp u n T I J R) (a := nI o) (lo := 20) (hi := 24) (l := 20) (h := 24) (by decide) (by decide) (by decide) (by decide)
    have v2 := v_inL (O := O) (d := d) (K := hp u n T I J R) (a := nI o) (lo := 25) (hi := 27) (l := 25) (h := 27) (by decide) (by decide) (by decide) (by decide)
    rw [e1]
    by_cases ho : 20 ≤ o ∧ o ≤ 24
    · obtain ⟨v, f1, f2⟩ := m_cmpL hS P fu p1 (by omega) (by omega)
      have ec : cmpd ((o, s) :: P) = cmpd P := if_pos ho
      refine ⟨v, ?_, by rw [ec]; exact f2⟩
      rw [lup_c (s' := (nI P.length - nI 1, hp u n T I J R)), f1]
      unfold F_X11_isCompared_l7
      dsimp only
      rw [if_neg neg, ga_69_27 hS, Option.bind_some, rd_82 hS (by omega), Option.bind_some, p2, v1, toI_i, Option.bind_some]
      dsimp only
      rw [rgE 20 24 (by decide) (by decide), decide_eq_true ho, if_neg (by decide), Int32.sub_eq_add_neg]
      rfl
    · have ec : cmpd ((o, s) :: P) = decide (25 ≤ o ∧ o ≤ 27) := if_neg ho
      refine ⟨nI P.length, lup_e ?_, ?_⟩
      · unfold F_X11_isCompared_l7
        dsimp only
        rw [if_neg neg, ga_69_27 hS, Option.bind_some, rd_82 hS (by omega), Option.bind_some, p2, v1, toI_i, Option.bind_some]
        dsimp only
        rw [rgE 20 24 (by decide) (by decide), decide_eq_false ho, if_pos (by decide)]
      · unfold F_X11_isCompared_j36
        rw [if_neg neg, ga_69_27 hS, Option.bind_some, rd_82 hS (by omega), Option.bind_some, p2, v2, toI_i, Option.bind_some]
        dsimp only
        rw [rgE 25 27 (by decide) (by decide), ec]
        cases decide (25 ≤ o ∧ o ≤ 27) <;> rfl
theorem m_cmp (hS : St n T R) {s0 w : Nat} {P : PL} {c : GC} (hw : w ≤ 400) (h : MSh s0 w P c I) : ev O (d + 1) MX11_isCompared [.ref 69] (hp u n T I J R) = some (some (.int (bI (cmpd P))), hp u n T I J R) := by
  have l3 := off_le s0 P
  have hwt := h.2.2.2
  obtain ⟨v, f1, f2⟩ := m_cmpL (O := O) (d := d) (u := u) (J := J) hS P FU h.2.2.1 (by omega) (by unfold FU; omega)
  refine e_X11_isCompared ?_
  unfold F_X11_isCompared
  rw [gi_69_29 hS, Option.bind_some, h.2.1, f1, Option.bind_some, f2]
end MRF
