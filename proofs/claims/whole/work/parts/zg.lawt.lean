/-! a law that was read tells alike for both -/
theorem cl_nI {c : Nat} (h : c < 2 ^ 31) : (nI c).toNatClampNeg = c := clamp_of rfl h
theorem both_get {Q : (Nat → Nat → Int32) → Nat → Nat → CL → Prop} {Ic Im : Nat → Nat → Int32} : ∀ (L : List CL) (c0 s0 r0 : Nat), TxC Ic c0 s0 L → TxM Q Im c0 r0 L → ∀ c, c < L.length → ∃ x s r, x ∈ L ∧ ClC Ic (c0 + c) s x ∧ Q Im (c0 + c) r x ∧ s + lnC x ≤ s0 + (lnL L).1 ∧ r + lnM x ≤ r0 + (lnL L).2
  | [], _, _, _, _, _, c, hc => absurd hc (Nat.not_lt_zero c)
  | x :: L, c0, s0, r0, hC, hM, c, hc => by
    obtain ⟨a1, a2⟩ := hC
    obtain ⟨b1, b2⟩ := hM
    by_cases z : c = 0
    · subst z
      refine ⟨x, s0, r0, List.mem_cons_self .., a1, b1, ?_, ?_⟩
      · show s0 + lnC x ≤ s0 + (lnC x + (lnL L).1)
        omega
      · show r0 + lnM x ≤ r0 + (lnM x + (lnL L).2)
        omega
    · have hc : c < L.length + 1 := hc
      obtain ⟨y, s, r, e1, e2, e3, e4, e5⟩ := both_get L (c0 + 1) (s0 + lnC x) (r0 + lnM x) a2 b2 (c - 1) (by omega)
      rw [show c0 + 1 + (c - 1) = c0 + c by omega] at e2 e3
      refine ⟨y, s, r, List.mem_cons_of_mem _ e1, e2, e3, ?_, ?_⟩
      · show s + lnC y ≤ s0 + (lnC x + (lnL L).1)
        omega
      · show r + lnM y ≤ r0 + (lnM x + (lnL L).2)
        omega
theorem AtH_M {o a : Nat → Int32} {oc ac : Nat → Nat} : ∀ (m : GC) (i : Nat), AtH o a i m → (∀ x, x ∈ m → x.1 ≤ 30 ∧ x.2 ≤ 1000) → i + m.length ≤ 1000 → (∀ k, i ≤ k → k < i + m.length → oc k = (o k).toNatClampNeg ∧ ac k = (a k).toNatClampNeg) → AtM oc ac i m
  | [], _, _, _, _, _ => trivial
  | x :: m, i, h, hx, hl, hk => by
    have hl : i + (m.length + 1) ≤ 1000 := hl
    obtain ⟨k1, k2⟩ := hk i (Nat.le_refl i) (by show i < i + (m.length + 1); omega)
    obtain ⟨x1, x2⟩ := hx x (List.mem_cons_self ..)
    refine ⟨⟨?_, ?_⟩, AtH_M m (i + 1) h.2 (fun y hy => hx y (List.mem_cons_of_mem _ hy)) (by omega) (fun k h1 h2 => hk k (by omega) (by show k < i + (m.length + 1); omega))⟩
    · rw [k1, h.1.1, cl_nI (by omega)]
    · rw [k2, h.1.2, cl_nI]
      split <;> omega
theorem AtC_el {st : Nat → Int32} : ∀ (c : GC) (i k : Nat), AtC st i c → i ≤ k → k < i + c.length → ∃ x, x ∈ c ∧ st k = cEn k x
  | [], i, k, _, h1, h2 => absurd h2 (by show ¬ k < i + 0; omega)
  | x :: c, i, k, h, h1, h2 => by
    by_cases e : k = i
    · rw [e]
      exact ⟨x, List.mem_cons_self .., h.1⟩
    · have h2 : k < i + (c.length + 1) := h2
      obtain ⟨y, y1, y2⟩ := AtC_el c (i + 1) k h.2 (by omega) (by omega)
      exact ⟨y, List.mem_cons_of_mem _ y1, y2⟩
theorem AtH_el {o a : Nat → Int32} : ∀ (c : GC) (i k : Nat), AtH o a i c → i ≤ k → k < i + c.length → ∃ x, x ∈ c ∧ o k = nI x.1 ∧ a k = nI (if x.1 = 29 ∨ x.1 = 30 then k + 1 + x.2 else x.2)
  | [], i, k, _, h1, h2 => absurd h2 (by show ¬ k < i + 0; omega)
  | x :: c, i, k, h, h1, h2 => by
    by_cases e : k = i
    · rw [e]
      exact ⟨x, List.mem_cons_self .., h.1⟩
    · have h2 : k < i + (c.length + 1) := h2
      obtain ⟨y, y1, y2⟩ := AtH_el c (i + 1) k h.2 (by omega) (by omega)
      exact ⟨y, List.mem_cons_of_mem _ y1, y2⟩
/-- the codes of a sound clause -/
theorem ClO_M {md : Bool} {x : CL} (h : ClO md x) : OkM md x.2.2.2.1 ∧ OkM md x.2.2.2.2.2.1 ∧ OkM md x.2.2.2.2.2.2.2 ∧ OkC x.2.2.1 ∧ OkC x.2.2.2.2.1 ∧ OkC x.2.2.2.2.2.2.1 := by
  obtain ⟨-, -, -, -, h1, h2, h3⟩ := h
  have e : ∀ {l : GC}, l = [] → (∀ y, y ∈ l → False) := fun z y hy => by rw [z] at hy; cases hy
  refine ⟨?_, ?_, ?_, ?_, ?_, ?_⟩
  · by_cases z : x.1 = 3
    · rw [if_pos z] at h1
      exact fun y hy => (e h1.2 y hy).elim
    · rw [if_neg z] at h1
      exact h1.2.2.2.2
  · by_cases z : md = true ∧ x.1 = 1
    · rw [if_pos z] at h2
      exact h2.2.2.2.2
    · rw [if_neg z] at h2
      exact fun y hy => (e h2.2 y hy).elim
  · rcases h3 with z | z
    · exact z.2.2.2.2
    · exact fun y hy => (e z.2 y hy).elim
  · by_cases z : x.1 = 3
    · rw [if_pos z] at h1
      exact fun y hy => (e h1.1 y hy).elim
    · rw [if_neg z] at h1
      exact h1.2.2.2.1
  · by_cases z : md = true ∧ x.1 = 1
    · rw [if_pos z] at h2
      exact h2.2.2.2.1
    · rw [if_neg z] at h2
      exact fun y hy => (e h2.1 y hy).elim
  · rcases h3 with z | z
    · exact z.2.2.2.1
    · exact fun y hy => (e z.1 y hy).elim
/-- every step of a text is sound -/
theorem TxC_st {Ic : Nat → Nat → Int32} {md : Bool} : ∀ (L : List CL) (c0 s0 : Nat), TxC Ic c0 s0 L → (∀ x, x ∈ L → ClO md x) → ∀ k, s0 ≤ k → k < s0 + (lnL L).1 → ∃ x, x.1 ≤ 12 ∧ x.2 ≤ 1000 ∧ Ic 3 k = cEn k x
  | [], c0, s0, _, _, k, h1, h2 => absurd h2 (by show ¬ k < s0 + 0; omega)
  | x :: L, c0, s0, h, hx, k, h1, h2 => by
    have h2 : k < s0 + (lnC x + (lnL L).1) := h2
    by_cases e : k < s0 + lnC x
    · obtain ⟨m1, m2, m3, o1, o2, o3⟩ := ClO_M (hx x (List.mem_cons_self ..))
      obtain ⟨y, y1, y2⟩ := AtC_el _ _ k h.1.2.2.2.2.2.2 h1 (by rw [List.length_append, List.length_append]; exact e)
      rcases List.mem_append.mp y1 with z | z
      · rcases List.mem_append.mp z with z | z
        · exact ⟨y, (o1 y z).1, (o1 y z).2, y2⟩
        · exact ⟨y, (o2 y z).1, (o2 y z).2, y2⟩
      · exact ⟨y, (o3 y z).1, (o3 y z).2, y2⟩
    · exact TxC_st L (c0 + 1) (s0 + lnC x) h.2 (fun y hy => hx y (List.mem_cons_of_mem _ hy)) k (by omega) (by omega)
/-- every code of a law is sound -/
theorem TxL_co {Im : Nat → Nat → Int32} : ∀ (L : List CL) (c0 s0 : Nat), TxM ClL Im c0 s0 L → (∀ x, x ∈ L → ClO false x) → s0 + (lnL L).2 ≤ 400 → ∀ k, s0 ≤ k → k < s0 + (lnL L).2 → ∃ o a, Im 80 k = nI o ∧ Im 81 k = nI a ∧ o ≤ 30 ∧ a ≤ 1000 ∧ (o < 20 → o ≤ 9)
  | [], c0, s0, _, _, _, k, h1, h2 => absurd h2 (by show ¬ k < s0 + 0; omega)
  | x :: L, c0, s0, h, hx, hl, k, h1, h2 => by
    have h2 : k < s0 + (lnM x + (lnL L).2) := h2
    have hl : s0 + (lnM x + (lnL L).2) ≤ 400 := hl
    by_cases e : k < s0 + lnM x
    · have hO := hx x (List.mem_cons_self ..)
      obtain ⟨m1, m2, m3, o1, o2, o3⟩ := ClO_M hO
      have z2 : x.2.2.2.2.2.1 = [] := by
        have := hO.2.2.2.2.2.1
        rw [if_neg (fun z => by cases z.1)] at this
        exact this.2
      have ln : lnM x = x.2.2.2.1.length + x.2.2.2.2.2.2.2.length := by
        unfold lnM
        rw [z2]
        rfl
      obtain ⟨y, y1, y2, y3⟩ := AtH_el _ _ k h.1.2.2.2.2.2 h1 (by rw [List.length_append]; omega)
      have ok : y.1 ≤ 30 ∧ y.2 ≤ 1000 ∧ (20 ≤ y.1 → y.2 ≤ 400) ∧ (y.1 < 20 → y.1 ≤ 9) := by
        rcases List.mem_append.mp y1 with z | z
        · exact m1 y z
        · exact m3 y z
      refine ⟨y.1, _, y2, y3, ok.1, ?_, ok.2.2.2⟩
      split
      · have := ok.2.2.1 (by omega)
        omega
      · exact ok.2.1
    · exact TxL_co L (c0 + 1) (s0 + lnM x) h.2 (fun y hy => hx y (List.mem_cons_of_mem _ hy)) (by omega) k (by omega) (by omega)
section LWN
variable {Ic Im I3 : Nat → Nat → Int32} {w : Nat → Int32} {L : List CL} {p lb : Nat}
/-- what the new law is, of both -/
def NwL (Ic Im I3 : Nat → Nat → Int32) (w : Nat → Int32) (L : List CL) (p lb : Nat) : Prop := (TxC Ic 0 0 L ∧ TxM ClL Im 0 0 L ∧ (∀ x, x ∈ L → ClO false x) ∧ L.length ≤ 12 ∧ (lnL L).1 ≤ 400 ∧ (lnL L).2 ≤ 400) ∧ (I3 p 2 = nI (lnL L).1 ∧ I3 p 3 = nI L.length ∧ (∀ i, i < (lnL L).1 → I3 (p + 1) i = Ic 3 i) ∧ ∀ i, i < L.length * 6 → I3 (p + 2) i = Ic 4 i) ∧ w (lb + 1) = nI L.length ∧ (∀ i, i < 8 * L.length → w (lb + 2 + i) = Im 79 i) ∧ ∀ i, i < (lnL L).2 → w (lb + 98 + 2 * i) = Im 80 i ∧ w (lb + 98 + 2 * i + 1) = Im 81 i
/-- one clause of it -/
theorem NwL_c (h : NwL Ic Im I3 w L p lb) {c : Nat} (hc : c < L.length) : ∃ x s r, ClO false x ∧ s + lnC x ≤ (lnL L).1 ∧ r + lnM x ≤ (lnL L).2 ∧ lnC x = x.2.2.1.length + x.2.2.2.2.2.2.1.length ∧ lnM x = x.2.2.2.1.length + x.2.2.2.2.2.2.2.length ∧ I3 (p + 2) (c * 6) = nI x.1 ∧ w (lb + 2 + 8 * c) = nI x.1 ∧ ptN (I3 (p + 2)) c 2 = s ∧ ptN (I3 (p + 2)) c 3 = s + x.2.2.1.length ∧ ptN (I3 (p + 2)) c 4 = s + x.2.2.1.length ∧ ptN (I3 (p + 2)) c 5 = s + x.2.2.1.length + x.2.2.2.2.2.2.1.length ∧ w (lb + 2 + 8 * c + 3) = nI r ∧ w (lb + 2 + 8 * c + 4) = nI (r + x.2.2.2.1.length) ∧ w (lb + 2 + 8 * c + 5) = nI (r + x.2.2.2.1.length) ∧ w (lb + 2 + 8 * c + 6) = nI (r + x.2.2.2.1.length + x.2.2.2.2.2.2.2.length) ∧ AtC (I3 (p + 1)) s x.2.2.1 ∧ AtC (I3 (p + 1)) (s + x.2.2.1.length) x.2.2.2.2.2.2.1 ∧ AtM (ocR w lb) (acR w lb) r x.2.2.2.1 ∧ AtM (ocR w lb) (acR w lb) (r + x.2.2.2.1.length) x.2.2.2.2.2.2.2 := by
  obtain ⟨⟨t1, t2, t3, t4, t5, t6⟩, ⟨i1, i2, i3, i4⟩, w1, w2, w3⟩ := h
  obtain ⟨x, s, r, x1, x2, x3, x4, x5⟩ := both_get L 0 0 0 t1 t2 c hc
  rw [Nat.zero_add] at x2 x3 x4 x5
  have hO := t3 x x1
  obtain ⟨m1, m2, m3, o1, o2, o3⟩ := ClO_M hO
  have z2 : x.2.2.2.2.1 = [] ∧ x.2.2.2.2.2.1 = [] := by
    have := hO.2.2.2.2.2.1
    rw [if_neg (fun z => by cases z.1)] at this
    exact this
  have lc : lnC x = x.2.2.1.length + x.2.2.2.2.2.2.1.length := by
    unfold lnC
    rw [z2.1]
    rfl
  have lm : lnM x = x.2.2.2.1.length + x.2.2.2.2.2.2.2.length := by
    unfold lnM
    rw [z2.2]
    rfl
  obtain ⟨a1, a2, a3, a4, a5, a6, a7⟩ := x2
  obtain ⟨b1, b2, b3, b4, b5, b6⟩ := x3
  rw [z2.1] at a5 a7
  rw [List.append_nil, AtC_ap] at a7
  rw [AtH_ap] at b6
  have a5 : Ic 4 (c * 6 + 4) = nI (s + x.2.2.1.length + 0) := a5
  have pt : ∀ j v, j < 6 → Ic 4 (c * 6 + j) = nI v → v ≤ 400 → ptN (I3 (p + 2)) c j = v := by
    intro j v hj e hv
    unfold ptN
    rw [i4 _ (by omega), e, cl_nI (by omega)]
  have bd : ∀ y, y ∈ x.2.2.2.1 → y.1 ≤ 30 ∧ y.2 ≤ 1000 := fun y hy => ⟨(m1 y hy).1, (m1 y hy).2.1⟩
  have bd3 : ∀ y, y ∈ x.2.2.2.2.2.2.2 → y.1 ≤ 30 ∧ y.2 ≤ 1000 := fun y hy => ⟨(m3 y hy).1, (m3 y hy).2.1⟩
  have oc : ∀ k, k < (lnL L).2 → ocR w lb k = (Im 80 k).toNatClampNeg ∧ acR w lb k = (Im 81 k).toNatClampNeg := fun k hk => by
    unfold ocR acR nv
    rw [(w3 k hk).1, (w3 k hk).2]
    exact ⟨rfl, rfl⟩
  refine ⟨x, s, r, hO, x4, x5, lc, lm, ?_, ?_, pt 2 _ (by decide) a3 (by omega), pt 3 _ (by decide) a4 (by omega), pt 4 _ (by decide) a5 (by omega), ?_, ?_, ?_, ?_, ?_, ?_, ?_, ?_, ?_⟩
  · rw [i4 _ (by omega), a1]
  · rw [w2 (8 * c) (by omega), b1]
  · refine pt 5 _ (by decide) (a6.trans ?_) (by omega)
    exact congrArg nI (by omega)
  · rw [Nat.add_assoc, w2 (8 * c + 3) (by omega), b2]
  · rw [Nat.add_assoc, w2 (8 * c + 4) (by omega), b3]
  · rw [Nat.add_assoc, w2 (8 * c + 5) (by omega), b4]
  · rw [Nat.add_assoc, w2 (8 * c + 6) (by omega), b5]
    exact congrArg nI (by omega)
  · exact AtC_cg _ _ (fun j _ hj => i3 j (by omega)) a7.1
  · exact AtC_cg _ _ (fun j _ hj => i3 j (by omega)) a7.2
  · exact AtH_M _ _ b6.1 bd (by omega) (fun k _ hk => oc k (by omega))
  · exact AtH_M _ _ b6.2 bd3 (by omega) (fun k _ hk => oc k (by omega))
theorem rkS_e {S : Nat → Int64} {a : Nat} : rkS w lb S a a = some (some 0) := by
  show (if a ≤ a then some (some (if 0 = 0 then (0 : Int64) else 0)) else _) = _
  rw [if_pos (Nat.le_refl a), if_pos rfl]
theorem NwL_M (h : NwL Ic Im I3 w L p lb) : LwM w lb := by
  obtain ⟨⟨t1, t2, t3, t4, t5, t6⟩, ⟨i1, i2, i3, i4⟩, w1, w2, w3⟩ := id h
  refine ⟨L.length, (lnL L).2, t4, t6, w1, fun k hk => ?_, fun c hc => ?_, fun c j hc h3 h6 => ?_, fun S c hc => ?_⟩
  · obtain ⟨o, a, e1, e2, e3⟩ := TxL_co L 0 0 t2 t3 (by omega) k (Nat.zero_le k) (by omega)
    exact ⟨o, a, (w3 k hk).1.trans e1, (w3 k hk).2.trans e2, e3⟩
  · obtain ⟨x, s, r, hO, -, -, -, -, -, e, -⟩ := NwL_c h hc
    exact ⟨x.1, hO.1, e⟩
  · obtain ⟨x, s, r, hO, x4, x5, lc, lm, -, -, -, -, -, -, e3, e4, e5, e6, -⟩ := NwL_c h hc
    rcases (show j = 3 ∨ j = 4 ∨ j = 5 ∨ j = 6 by omega) with z | z | z | z <;> subst z
    · exact ⟨_, by omega, e3⟩
    · exact ⟨_, by omega, e4⟩
    · exact ⟨_, by omega, e5⟩
    · exact ⟨_, by omega, e6⟩
  · obtain ⟨x, s, r, hO, x4, x5, lc, lm, -, -, -, -, -, -, e3, e4, e5, e6, -, -, m1, m3⟩ := NwL_c h hc
    have n3 : nv w (lb + 2 + 8 * c + 3) = r := by unfold nv; rw [e3, cl_nI (by omega)]
    have n4 : nv w (lb + 2 + 8 * c + 4) = r + x.2.2.2.1.length := by unfold nv; rw [e4, cl_nI (by omega)]
    have n5 : nv w (lb + 2 + 8 * c + 5) = r + x.2.2.2.1.length := by unfold nv; rw [e5, cl_nI (by omega)]
    have n6 : nv w (lb + 2 + 8 * c + 6) = r + x.2.2.2.1.length + x.2.2.2.2.2.2.2.length := by unfold nv; rw [e6, cl_nI (by omega)]
    rw [n3, n4, n5, n6]
    obtain ⟨-, -, -, -, h1, -, h3⟩ := hO
    refine ⟨?_, ?_⟩
    · by_cases z : x.1 = 3
      · rw [if_pos z] at h1
        rw [h1.2]
        exact ⟨_, rkS_e⟩
      · rw [if_neg z] at h1
        obtain ⟨-, -, ⟨hh, hh1, -, tm⟩, -⟩ := h1
        obtain ⟨v, hv⟩ := tm (lfL S)
        exact ⟨v, rk_all hv (by omega) m1 (by omega)⟩
    · rcases h3 with ⟨-, -, ⟨hh, hh1, -, tm⟩, -⟩ | z
      · obtain ⟨v, hv⟩ := tm (lfL S)
        exact ⟨v, rk_all hv (by omega) m3 (by omega)⟩
      · rw [z.2]
        exact ⟨_, rkS_e⟩
theorem NwL_E (h : NwL Ic Im I3 w L p lb) : LwEq I3 p w lb := by
  obtain ⟨⟨t1, t2, t3, t4, t5, t6⟩, ⟨i1, i2, i3, i4⟩, w1, w2, w3⟩ := id h
  have nl : nv w (lb + 1) = L.length := by unfold nv; rw [w1, cl_nI (by omega)]
  refine ⟨by rw [nl, i2, cl_nI (by omega)], fun c hc => ?_⟩
  rw [nl] at hc
  obtain ⟨x, s, r, hO, x4, x5, lc, lm, k1, k2, p2, p3, p4, p5, e3, e4, e5, e6, c1, c3, m1, m3⟩ := NwL_c h hc
  have n3 : nv w (lb + 2 + 8 * c + 3) = r := by unfold nv; rw [e3, cl_nI (by omega)]
  have n4 : nv w (lb + 2 + 8 * c + 4) = r + x.2.2.2.1.length := by unfold nv; rw [e4, cl_nI (by omega)]
  have n5 : nv w (lb + 2 + 8 * c + 5) = r + x.2.2.2.1.length := by unfold nv; rw [e5, cl_nI (by omega)]
  have n6 : nv w (lb + 2 + 8 * c + 6) = r + x.2.2.2.1.length + x.2.2.2.2.2.2.2.length := by unfold nv; rw [e6, cl_nI (by omega)]
  obtain ⟨-, -, -, -, h1, -, h3⟩ := hO
  refine ⟨k1.trans k2.symm, fun X S hW => ⟨?_, fun hk => ?_⟩⟩
  · unfold teR woC
    rw [n5, n6, p4, p5, i1, cl_nI (by omega)]
    rcases h3 with ⟨y1, y2, ⟨hh, hh1, tie, -⟩, -⟩ | z
    · obtain ⟨v, v1, v2, v3⟩ := tie X (lfL S) (WR_lf hW)
      have ml : 0 < x.2.2.2.2.2.2.2.length := List.length_pos_iff.mpr y2
      have rE : rkS w lb S (r + x.2.2.2.1.length) (r + x.2.2.2.1.length + x.2.2.2.2.2.2.2.length) = some (v.map Int32.toInt64) := rk_all v2 (by omega) m3 (by omega)
      rw [if_pos (by omega), rE, wo_all v1 (by omega) c3 (by omega) (by omega)]
      cases v with
      | none => rfl
      | some y =>
        rcases v3 rfl y rfl with e | e <;> subst e <;> rfl
    · rw [z.1, z.2]
      show (if _ < _ + 0 then _ else true) = _
      rw [if_neg (by omega)]
      show true = decide ((wo (I3 (p + 1)) X (lnL L).1 (s + x.2.2.1.length) (s + x.2.2.1.length)).getD (nI 0) = nI 1)
      rw [wo_no]
      rfl
  · have x3 : ¬ x.1 = 3 := fun z => hk (by rw [k2, z])
    rw [if_neg x3] at h1
    obtain ⟨y1, y2, ⟨hh, hh1, tie, -⟩, -⟩ := h1
    obtain ⟨v, v1, v2, v3⟩ := tie X (lfL S) (WR_lf hW)
    unfold woC
    rw [n3, n4, p2, p3, i1, cl_nI (by omega), wo_all v1 (by omega) c1 (by omega) (by omega)]
    have rE : rkS w lb S r (r + x.2.2.2.1.length) = some (v.map Int32.toInt64) := rk_all v2 (by omega) m1 (by omega)
    rw [rE]
    rfl
end LWN
