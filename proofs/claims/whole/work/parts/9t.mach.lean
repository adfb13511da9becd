/-! the reference's reading of an expression, as steps over a pile: each of the pile keeps what was told between it and the one below -/
abbrev PL := List (Nat × GC)
/-- what is read next (0 a plain, 1 a part, 2 behind a test, 3 behind a sum, 4 nothing), token, parts, pile, what was told since -/
abbrev CF := Nat × Nat × Nat × PL × GC
def bnd (o : Nat) : Nat := if 31 ≤ o then 0 else if o = 30 then 1 else if o = 29 then 2 else if o = 28 then 3 else if 25 ≤ o then 4 else if 22 ≤ o then 6 else 5
def jnM (o : Nat) (s c : GC) : GC := if o = 29 ∨ o = 30 then s ++ [(o, c.length)] ++ c else s ++ c ++ [(o, 0)]
def stl (l : Nat) : PL → GC → PL × GC
  | [], c => ([], c)
  | (o, s) :: P, c => if l ≤ bnd o then stl l P (jnM o s c) else ((o, s) :: P, c)
/-- the innermost bracket, 0: none -/
def inn : PL → Nat
  | [] => 0
  | (o, _) :: P => if 31 ≤ o then o else inn P
def cmpd : PL → Bool
  | [] => false
  | (o, _) :: P => if 20 ≤ o ∧ o ≤ 24 then cmpd P else decide (25 ≤ o ∧ o ≤ 27)
def brk : PL → Nat
  | [] => 0
  | (o, _) :: P => brk P + if 31 ≤ o then 1 else 0
noncomputable def lfS (md : Bool) (f : Nat → Nat) (k q : Nat) (P : PL) (c : GC) : Nat ⊕ CF :=
  if 50 ≤ q then .inl k
  else if f k ≤ 1000 then .inr (3, k + 1, q + 1, P, c ++ [(0, f k)])
  else if wdI md (f k) ≠ 0 then .inr (3, k + 1, q + 1, P, c ++ [wdO md (wdI md (f k) - 1)])
  else if md = true ∧ f k = 2020 then (if f (k + 1) < 8 then .inr (3, k + 2, q + 1, P, c ++ [wdO md (4 + f (k + 1))]) else .inl (k + 1))
  else if md = true ∧ f k = 2021 then (if f (k + 1) < 4 then .inr (3, k + 2, q + 1, P, c ++ [wdO md (12 + f (k + 1))]) else .inl (k + 1))
  else .inl k
noncomputable def ptS (md : Bool) (f : Nat → Nat) (k q : Nat) (P : PL) (c : GC) : Nat ⊕ CF := if f k = 3091 then (if brk P < 8 then .inr (1, k + 1, q, (32, c) :: P, []) else .inl k) else lfS md f k q P c
/-- a bracket is shut -/
def shM (s k q : Nat) : PL × GC → Option (Nat ⊕ CF)
  | ([], _) => none
  | ((o, e) :: P, c) => if 31 ≤ o then some (.inr (s, k, q, P, e ++ c)) else none
/-- one is joined on -/
def puM (s k q o : Nat) (x : PL × GC) : Option (Nat ⊕ CF) := some (.inr (s, k, q, (o, x.2) :: x.1, []))
noncomputable def mSt (md tst : Bool) (f : Nat → Nat) (s k q : Nat) (P : PL) (c : GC) : Option (Nat ⊕ CF) :=
  if s = 0 then (if f k = 2011 then some (.inr (0, k + 1, q, (28, c) :: P, [])) else if f k = 3040 then (if brk P < 8 then some (.inr (0, k + 1, q, (31, c) :: P, [])) else some (.inl k)) else some (ptS md f k q P c))
  else if s = 1 then some (ptS md f k q P c)
  else if s = 3 then
    (if 5 ≤ sgO (f k) ∧ sgO (f k) ≤ 9 then puM 1 (k + 1) q (sgO (f k) + 15) (stl (bnd (sgO (f k) + 15)) P c)
    else if inn P = 32 then (if f k = 3093 then shM 3 (k + 1) q (stl 5 P c) else some (.inl k))
    else if inn P = 0 ∧ tst = false then some (.inr (4, k, q, P, c))
    else if cmpd P = true then some (.inr (2, k, q, P, c))
    else if 10 ≤ sgO (f k) then puM 1 (k + 1) q (sgO (f k) + 15) (stl 5 P c) else some (.inl k))
  else if f k = 2010 then puM 0 (k + 1) q 29 (stl 2 P c)
  else if f k = 2009 then puM 0 (k + 1) q 30 (stl 1 P c)
  else if inn P = 0 then some (.inr (4, k, q, P, c))
  else if f k = 3041 then shM 2 (k + 1) q (stl 1 P c) else some (.inl k)
/-- n steps lead to r -/
def Mv (md tst : Bool) (f : Nat → Nat) : Nat → CF → Nat ⊕ CF → Prop
  | 0, s, r => r = .inr s
  | n + 1, s, r => s.1 ≠ 4 ∧ ∃ x, mSt md tst f s.1 s.2.1 s.2.2.1 s.2.2.2.1 s.2.2.2.2 = some x ∧ match x with
    | .inl j => n = 0 ∧ r = .inl j
    | .inr s' => Mv md tst f n s' r
def lbd (mode : Nat) : Nat := if mode = 0 then 7 else if mode = 1 then 6 else if mode = 2 then 5 else if mode = 3 then 3 else if mode = 4 then 2 else 1
def topB : PL → Nat
  | [] => 0
  | (o, _) :: _ => bnd o
def unw : PL → GC → GC
  | [], c => c
  | (o, s) :: p, c => unw p (jnM o s c)
def Pnd (l : Nat) (p : PL) : Prop := ∀ x, x ∈ p → l ≤ bnd x.1 ∧ 20 ≤ x.1
def EndO (mode x : Nat) : Prop := ∀ lv, lv ≠ 0 → lv ≠ 3 → lv ≤ mode → (3 ≤ mode → 4 ≤ lv) → lvO lv x = 0
theorem bnd_31 {o : Nat} (h : 1 ≤ bnd o) : o < 31 := by
  apply Nat.lt_of_not_le
  intro z
  unfold bnd at h
  rw [if_pos z] at h
  exact absurd h (by decide)
theorem unw_ap : ∀ (p r : PL) (c : GC), unw (p ++ r) c = unw r (unw p c)
  | [], _, _ => rfl
  | (o, s) :: p, r, c => unw_ap p r (jnM o s c)
theorem stl_p {l : Nat} {P : PL} (hP : topB P < l) : ∀ (p : PL) (c : GC), Pnd l p → stl l (p ++ P) c = (P, unw p c)
  | [], c, _ => by
    show stl l P c = (P, c)
    cases P with
    | nil => rfl
    | cons x P =>
      obtain ⟨o, s⟩ := x
      exact if_neg (by have : bnd o < l := hP; omega)
  | (o, s) :: p, c, h => by
    have h1 := (h _ (List.mem_cons_self ..)).1
    show (if l ≤ bnd o then stl l (p ++ P) (jnM o s c) else _) = _
    rw [if_pos h1]
    exact stl_p hP p _ (fun x hx => h x (List.mem_cons_of_mem _ hx))
theorem inn_p {l : Nat} {P : PL} (hl : 1 ≤ l) : ∀ p : PL, Pnd l p → inn (p ++ P) = inn P ∧ brk (p ++ P) = brk P
  | [], _ => ⟨rfl, rfl⟩
  | (o, s) :: p, h => by
    have h1 := (h _ (List.mem_cons_self ..)).1
    have h2 : ¬ 31 ≤ o := by have := bnd_31 (Nat.le_trans hl h1); omega
    obtain ⟨i1, i2⟩ := inn_p hl p (fun x hx => h x (List.mem_cons_of_mem _ hx))
    refine ⟨?_, ?_⟩
    · show (if 31 ≤ o then o else inn (p ++ P)) = _
      rw [if_neg h2, i1]
    · show brk (p ++ P) + (if 31 ≤ o then 1 else 0) = _
      rw [if_neg h2, i2]
      rfl
theorem cmpd_p {P : PL} : ∀ p : PL, Pnd 5 p → cmpd (p ++ P) = cmpd P
  | [], _ => rfl
  | (o, s) :: p, h => by
    obtain ⟨h1, h2⟩ := h _ (List.mem_cons_self ..)
    have h3 : 20 ≤ o ∧ o ≤ 24 := by
      refine ⟨h2, ?_⟩
      apply Nat.le_of_not_lt
      intro z
      have h1 : 5 ≤ bnd o := h1
      unfold bnd at h1
      repeat' (split at h1)
      all_goals omega
    show (if 20 ≤ o ∧ o ≤ 24 then cmpd (p ++ P) else _) = _
    rw [if_pos h3]
    exact cmpd_p p (fun x hx => h x (List.mem_cons_of_mem _ hx))
theorem cmpd_no {P : PL} (h : topB P < 3) : cmpd P = false ∨ (∃ o s P', P = (o, s) :: P' ∧ o < 20) := by
  cases P with
  | nil => exact Or.inl rfl
  | cons x P =>
    obtain ⟨o, s⟩ := x
    have h : bnd o < 3 := h
    refine Or.inl ?_
    have h3 : 29 ≤ o := by
      unfold bnd at h
      repeat' (split at h)
      all_goals omega
    show (if 20 ≤ o ∧ o ≤ 24 then cmpd P else decide (25 ≤ o ∧ o ≤ 27)) = false
    rw [if_neg (by omega)]
    exact decide_eq_false (by omega)
theorem Pnd_mono {l l' : Nat} {p : PL} (h : l' ≤ l) (hp : Pnd l p) : Pnd l' p := fun x hx => ⟨Nat.le_trans h (hp x hx).1, (hp x hx).2⟩
theorem Pnd_ap {l : Nat} {p r : PL} (h1 : Pnd l p) (h2 : Pnd l r) : Pnd l (p ++ r) := fun x hx => (List.mem_append.mp hx).elim (h1 x) (h2 x)
theorem Pnd_1 {l o : Nat} {s : GC} (h1 : l ≤ bnd o) (h2 : 20 ≤ o) : Pnd l [(o, s)] := fun x hx => by rw [List.mem_singleton.mp hx]; exact ⟨h1, h2⟩
theorem Mv_tr {md tst : Bool} {f : Nat → Nat} {s' : CF} {r : Nat ⊕ CF} {m : Nat} (h2 : Mv md tst f m s' r) : ∀ (n : Nat) (s : CF), Mv md tst f n s (.inr s') → Mv md tst f (n + m) s r
  | 0, s, h => by
    have : s' = s := Sum.inr.inj h
    rw [Nat.zero_add, ← this]
    exact h2
  | n + 1, s, h => by
    rw [show n + 1 + m = n + m + 1 by omega]
    obtain ⟨h4, x, e, hx⟩ := h
    refine ⟨h4, x, e, ?_⟩
    cases x with
    | inl j => exact absurd hx.2 (fun z => by cases z)
    | inr s1 => exact Mv_tr h2 n s1 hx
theorem Mv_1 {md tst : Bool} {f : Nat → Nat} {s k q : Nat} {P : PL} {c : GC} {x : Nat ⊕ CF} (hs : s ≠ 4) (h : mSt md tst f s k q P c = some x) : Mv md tst f 1 (s, k, q, P, c) x := by
  refine ⟨hs, x, h, ?_⟩
  cases x with
  | inl j => exact ⟨rfl, rfl⟩
  | inr s' => rfl
/-- from the state s the machine reads as r tells -/
def MvR (md tst : Bool) (f : Nat → Nat) (mode : Nat) (P : PL) (s : CF) (r : GT) : Prop := (∀ j, r = .inl j → ∃ n, Mv md tst f n s (.inl j)) ∧ ∀ c m k' q', r = .inr (c, m, k', q') → ∃ n p e, Mv md tst f n s (.inr (if mode ≤ 2 then 3 else 2, k', q', p ++ P, e)) ∧ unw p e = m ∧ Pnd (lbd mode) p ∧ EndO mode (f k')
/-- a reading of this mode is followed -/
def MvS (md tst : Bool) (f : Nat → Nat) (mode b : Nat) (sub : Nat → Nat → Option GT) : Prop := ∀ k q P a r, sub k q = some r → brk P = b → topB P < lbd mode → (if mode ≤ 2 then a = 1 ∨ (a = 0 ∧ f k ≠ 2011 ∧ f k ≠ 3040) else a = 0) → (3 ≤ mode → inn P ≠ 32 ∧ (inn P = 0 → tst = true)) → MvR md tst f mode P (a, k, q, P, []) r
section MAC
variable {md tst : Bool} {f : Nat → Nat}
theorem MvR_bad {mode j n : Nat} {P : PL} {s : CF} (h : Mv md tst f n s (.inl j)) : MvR md tst f mode P s (.inl j) := ⟨fun j' e => by cases e; exact ⟨n, h⟩, (fun _ _ _ _ e => by cases e)⟩
theorem MvR_ok {mode n k' q' : Nat} {P p : PL} {s : CF} {c m e : GC} (h : Mv md tst f n s (.inr (if mode ≤ 2 then 3 else 2, k', q', p ++ P, e))) (h1 : unw p e = m) (h2 : Pnd (lbd mode) p) (h3 : EndO mode (f k')) : MvR md tst f mode P s (.inr (c, m, k', q')) := ⟨(fun _ e => by cases e), fun c' m' k2 q2 z => by cases z; exact ⟨n, p, e, h, h1, h2, h3⟩⟩
theorem MvR_pre {mode n : Nat} {P : PL} {s s' : CF} {r : GT} (h : Mv md tst f n s (.inr s')) (hr : MvR md tst f mode P s' r) : MvR md tst f mode P s r := by
  refine ⟨fun j e => ?_, fun c m k' q' e => ?_⟩
  · obtain ⟨n', h'⟩ := hr.1 j e
    exact ⟨_, Mv_tr h' n s h⟩
  · obtain ⟨n', p, x, h', h1⟩ := hr.2 c m k' q' e
    exact ⟨_, p, x, Mv_tr h' n s h, h1⟩
/-- the operator that joins -/
def jOp (s : Nat) : Nat := if s = 3 ∨ s = 4 then 33 - s else s + 15
theorem jOp_gJ {s : Nat} (m l : GC) (h : s ≤ 9) : gJm s m l = jnM (jOp s) m l := by
  unfold gJm jnM jOp
  by_cases e : s = 3 ∨ s = 4
  · rw [if_pos e, if_pos e, if_pos (by omega)]
  · rw [if_neg e, if_neg e, if_neg (by omega)]
/-- one step at a joint -/
theorem mSt_j {lv k q : Nat} {Q : PL} {c : GC} (hl : lv = 1 ∨ lv = 2 ∨ lv = 4 ∨ lv = 5) (h0 : lvO lv (f k) ≠ 0) : mSt md tst f (if lv ≤ 2 then 3 else 2) k q Q c = puM (if lv ≤ 2 then 1 else 0) (k + 1) q (jOp (lvO lv (f k))) (stl (lbd lv) Q c) ∧ bnd (jOp (lvO lv (f k))) = lbd lv ∧ 20 ≤ jOp (lvO lv (f k)) ∧ jOp (lvO lv (f k)) < 31 ∧ lvO lv (f k) ≤ 9 := by
  have hb : ∀ s, 5 ≤ s → s ≤ 9 → jOp s = s + 15 := fun s h1 h2 => if_neg (by omega)
  have b5 : ∀ s, 5 ≤ s → s ≤ 6 → bnd (s + 15) = 5 := by
    intro s h1 h2
    unfold bnd
    rw [if_neg (by omega), if_neg (by omega), if_neg (by omega), if_neg (by omega), if_neg (by omega), if_neg (by omega)]
  have b6 : ∀ s, 7 ≤ s → s ≤ 9 → bnd (s + 15) = 6 := by
    intro s h1 h2
    unfold bnd
    rw [if_neg (by omega), if_neg (by omega), if_neg (by omega), if_neg (by omega), if_neg (by omega), if_pos (by omega)]
  rcases hl with e | e | e | e
  · subst e
    have hs : 7 ≤ sgO (f k) ∧ sgO (f k) ≤ 9 := by
      apply Decidable.byContradiction
      intro z
      exact h0 (by show (if 7 ≤ sgO (f k) ∧ sgO (f k) ≤ 9 then sgO (f k) else 0) = 0; rw [if_neg z])
    have hv : lvO 1 (f k) = sgO (f k) := if_pos hs
    rw [hv, hb _ (by omega) hs.2]
    refine ⟨?_, b6 _ hs.1 hs.2, by omega, by omega, hs.2⟩
    show (if 5 ≤ sgO (f k) ∧ sgO (f k) ≤ 9 then puM 1 (k + 1) q (sgO (f k) + 15) (stl (bnd (sgO (f k) + 15)) Q c) else _) = _
    rw [if_pos (by omega), b6 _ hs.1 hs.2]
    rfl
  · subst e
    have hs : 5 ≤ sgO (f k) ∧ sgO (f k) ≤ 6 := by
      apply Decidable.byContradiction
      intro z
      exact h0 (by show (if 5 ≤ sgO (f k) ∧ sgO (f k) ≤ 6 then sgO (f k) else 0) = 0; rw [if_neg z])
    have hv : lvO 2 (f k) = sgO (f k) := if_pos hs
    rw [hv, hb _ (by omega) (by omega)]
    refine ⟨?_, b5 _ hs.1 hs.2, by omega, by omega, by omega⟩
    show (if 5 ≤ sgO (f k) ∧ sgO (f k) ≤ 9 then puM 1 (k + 1) q (sgO (f k) + 15) (stl (bnd (sgO (f k) + 15)) Q c) else _) = _
    rw [if_pos (by omega), b5 _ hs.1 hs.2]
    rfl
  · subst e
    have hs : f k = 2010 := by
      apply Decidable.byContradiction
      intro z
      exact h0 (by show (if f k = 2010 then 4 else 0) = 0; rw [if_neg z])
    have hv : lvO 4 (f k) = 4 := if_pos hs
    rw [hv]
    refine ⟨?_, rfl, by decide, by decide, by decide⟩
    show (if f k = 2010 then puM 0 (k + 1) q 29 (stl 2 Q c) else _) = _
    rw [if_pos hs]
    rfl
  · subst e
    have hs : f k = 2009 := by
      apply Decidable.byContradiction
      intro z
      exact h0 (by show (if f k = 2009 then 3 else 0) = 0; rw [if_neg z])
    have hv : lvO 5 (f k) = 3 := if_pos hs
    rw [hv]
    refine ⟨?_, rfl, by decide, by decide, by decide⟩
    show (if f k = 2010 then _ else if f k = 2009 then puM 0 (k + 1) q 30 (stl 1 Q c) else _) = _
    rw [if_neg (by omega), if_pos hs]
    rfl
/-- what is joined, one after the other -/
theorem mv_loop {lv b : Nat} (hl : lv = 1 ∨ lv = 2 ∨ lv = 4 ∨ lv = 5) {sub : Nat → Nat → Option GT} (hs : MvS md tst f (lv - 1) b sub) {P : PL} (hb : brk P = b) (ht : topB P < lbd lv) (hi : 3 ≤ lv → inn P ≠ 32 ∧ (inn P = 0 → tst = true)) : ∀ (n : Nat) (c m : GC) (k q : Nat) (p : PL) (e : GC) (r : GT), gLp f lv sub n c m k q = some r → unw p e = m → Pnd (lbd lv) p → EndO (lv - 1) (f k) → MvR md tst f lv P (if lv ≤ 2 then 3 else 2, k, q, p ++ P, e) r := by
  intro n
  induction n with
  | zero =>
    intro c m k q p e r h
    cases h
  | succ n ih =>
    intro c m k q p e r h hm hp he
    unfold gLp at h
    by_cases h0 : lvO lv (f k) = 0
    · rw [if_pos h0] at h
      rw [← Option.some.inj h]
      refine MvR_ok (n := 0) rfl hm hp (fun l l0 l3 ll l4 => ?_)
      by_cases el : l = lv
      · rw [el]
        exact h0
      · exact he l l0 l3 (by omega) (fun z => l4 (by omega))
    · rw [if_neg h0] at h
      obtain ⟨j1, j2, j3, j4, j5⟩ := mSt_j (md := md) (tst := tst) (q := q) (Q := p ++ P) (c := e) hl h0
      generalize hv : lvO lv (f k) = s at *
      rw [stl_p ht p e hp, hm] at j1
      have s1 := Mv_1 (show (if lv ≤ 2 then 3 else 2) ≠ 4 by split <;> decide) j1
      refine MvR_pre s1 ?_
      have hb' : brk ((jOp s, m) :: P) = b := by
        show brk P + (if 31 ≤ jOp s then 1 else 0) = b
        rw [if_neg (by omega), hb]
        rfl
      have hi' : inn ((jOp s, m) :: P) = inn P := if_neg (by omega)
      have ht' : topB ((jOp s, m) :: P) < lbd (lv - 1) := by
        show bnd (jOp s) < _
        rw [j2]
        rcases hl with e | e | e | e <;> rw [e] <;> decide
      cases hr : sub (k + 1) q with
      | none =>
        rw [hr] at h
        cases h
      | some x =>
        have hx := hs (k + 1) q ((jOp s, m) :: P) (if lv ≤ 2 then 1 else 0) x hr hb' ht' (by rcases hl with e | e | e | e <;> rw [e] <;> first | exact Or.inl rfl | rfl) (fun z => by rw [hi']; exact hi (by omega))
        rw [hr] at h
        cases x with
        | inl j =>
          have h := Option.some.inj h
          rw [← h]
          obtain ⟨n1, h1⟩ := hx.1 j rfl
          exact MvR_bad h1
        | inr y =>
          obtain ⟨c2, m2, k2, q2⟩ := y
          have h : gLp f lv sub n (gJ s c c2) (gJm s m m2) k2 q2 = some r := h
          obtain ⟨n1, p1, e1, h1, h2, h3, h4⟩ := hx.2 _ _ _ _ rfl
          have hst : (if lv - 1 ≤ 2 then 3 else 2) = (if lv ≤ 2 then 3 else 2) := by rcases hl with e | e | e | e <;> rw [e] <;> rfl
          rw [hst, show p1 ++ (jOp s, m) :: P = (p1 ++ [(jOp s, m)]) ++ P by rw [List.append_assoc]; rfl] at h1
          refine MvR_pre h1 (ih _ _ _ _ _ _ _ h ?_ ?_ h4)
          · rw [unw_ap, h2, jOp_gJ m m2 j5]
            rfl
          · refine Pnd_ap (Pnd_mono ?_ h3) (Pnd_1 (by rw [j2]; exact Nat.le_refl _) j3)
            rcases hl with e | e | e | e <;> rw [e] <;> decide
theorem rep_c {α : Type} (x : α) (P : List α) : ∀ z, List.replicate z x ++ x :: P = x :: (List.replicate z x ++ P)
  | 0 => rfl
  | z + 1 => by
    show x :: (List.replicate z x ++ x :: P) = _
    rw [rep_c x P z]
    rfl
theorem tnM_c : ∀ z, [(28, 0)] ++ tnM z = tnM z ++ [(28, 0)]
  | 0 => rfl
  | z + 1 => by
    show [(28, 0)] ++ (tnM z ++ [(28, 0)]) = tnM z ++ [(28, 0)] ++ [(28, 0)]
    rw [← List.append_assoc, tnM_c z]
theorem unw_nt : ∀ (z : Nat) (c : GC), unw (List.replicate z (28, [])) c = c ++ tnM z
  | 0, c => (List.append_nil c).symm
  | z + 1, c => by
    show unw (List.replicate z (28, [])) ([] ++ c ++ [(28, 0)]) = _
    rw [unw_nt z, List.nil_append, List.append_assoc, tnM_c]
    rfl
theorem mv_nots {q : Nat} : ∀ (z k : Nat) (P : PL), (∀ j, j < z → f (k + j) = 2011) → Mv md tst f z (0, k, q, P, []) (.inr (0, k + z, q, List.replicate z (28, []) ++ P, []))
  | 0, k, P, _ => rfl
  | z + 1, k, P, h => by
    have h1 := Mv_1 (md := md) (tst := tst) (f := f) (s := 0) (k := k) (q := q) (P := P) (c := []) (by decide) (if_pos (h 0 (Nat.succ_pos z)))
    have h2 := mv_nots (q := q) z (k + 1) ((28, []) :: P) (fun j hj => by rw [show k + 1 + j = k + (j + 1) by omega]; exact h (j + 1) (by omega))
    have h3 := Mv_tr h2 1 _ h1
    rw [show 1 + z = z + 1 by omega, show k + 1 + z = k + (z + 1) by omega, rep_c] at h3
    exact h3
theorem wdI_0 (md : Bool) {x : Nat} (h : 2026 ≤ x) : wdI md x = 0 := by
  unfold wdI
  cases md
  · show (if 2014 ≤ x ∧ x ≤ 2022 then x - 2013 else 0) = 0
    rw [if_neg (by omega)]
  · show (if 2022 ≤ x ∧ x ≤ 2025 then x - 2021 else 0) = 0
    rw [if_neg (by omega)]
/-- a part -/
theorem mv_part {F b : Nat} (ih : MvS md tst f 2 (b + 1) (fun k q => gG md f F 2 k q (b + 1))) : MvS md tst f 0 b (fun k q => gG md f (F + 1) 0 k q b) := by
  intro k q P a r hr hb _ ha _
  have ha : a = 1 ∨ (a = 0 ∧ f k ≠ 2011 ∧ f k ≠ 3040) := ha
  have h4 : a ≠ 4 := by omega
  have st : mSt md tst f a k q P [] = some (ptS md f k q P []) := by
    rcases ha with e | ⟨e, e1, e2⟩
    · subst e
      rfl
    · subst e
      show (if f k = 2011 then _ else if f k = 3040 then _ else some (ptS md f k q P [])) = _
      rw [if_neg e1, if_neg e2]
  have hr : gG md f (F + 1) 0 k q b = some r := hr
  unfold gG at hr
  rw [if_pos rfl] at hr
  have en : ∀ x, EndO 0 x := fun x lv l0 _ ll _ => absurd ll (by omega)
  by_cases h1 : f k = 3091
  · by_cases h8 : b < 8
    · rw [if_pos ⟨h1, h8⟩] at hr
      have s1 : mSt md tst f a k q P [] = some (.inr (1, k + 1, q, (32, []) :: P, [])) := by
        rw [st]
        unfold ptS
        rw [if_pos h1, if_pos (by omega)]
      refine MvR_pre (Mv_1 h4 s1) ?_
      cases hx : gG md f F 2 (k + 1) q (b + 1) with
      | none =>
        rw [hx] at hr
        cases hr
      | some x =>
        have hI := ih (k + 1) q ((32, []) :: P) 1 x hx (by show brk P + 1 = b + 1; omega) (by show 0 < 5; decide) (Or.inl rfl) (fun z => absurd z (by decide))
        rw [hx] at hr
        cases x with
        | inl j =>
          rw [← Option.some.inj hr]
          obtain ⟨n, h⟩ := hI.1 j rfl
          exact MvR_bad h
        | inr y =>
          obtain ⟨c, m, k', q'⟩ := y
          have hr : (if f k' = 3093 then some (Sum.inr (c, m, k' + 1, q')) else some (Sum.inl k')) = some r := hr
          obtain ⟨n, p, e, h, hm, hp, he⟩ := hI.2 _ _ _ _ rfl
          refine MvR_pre h ?_
          have n9 : ¬ (5 ≤ sgO (f k') ∧ sgO (f k') ≤ 9) := by
            intro z
            have e1 := he 1 (by decide) (by decide) (by decide) (fun z => absurd z (by decide))
            have e2 := he 2 (by decide) (by decide) (by decide) (fun z => absurd z (by decide))
            have e1 : (if 7 ≤ sgO (f k') ∧ sgO (f k') ≤ 9 then sgO (f k') else 0) = 0 := e1
            have e2 : (if 5 ≤ sgO (f k') ∧ sgO (f k') ≤ 6 then sgO (f k') else 0) = 0 := e2
            split at e1 <;> split at e2 <;> omega
          have sE : mSt md tst f 3 k' q' (p ++ (32, []) :: P) e = if f k' = 3093 then shM 3 (k' + 1) q' (stl 5 (p ++ (32, []) :: P) e) else some (.inl k') := by
            show (if 5 ≤ sgO (f k') ∧ sgO (f k') ≤ 9 then _ else if inn (p ++ (32, []) :: P) = 32 then (if f k' = 3093 then shM 3 (k' + 1) q' (stl 5 (p ++ (32, []) :: P) e) else some (Sum.inl k')) else _) = _
            rw [if_neg n9, if_pos (show inn (p ++ (32, []) :: P) = 32 from (inn_p (by decide) p hp).1)]
          by_cases h93 : f k' = 3093
          · rw [if_pos h93] at hr sE
            rw [stl_p (l := 5) (P := (32, []) :: P) (by show 0 < 5; decide) p e hp, hm] at sE
            rw [← Option.some.inj hr]
            exact MvR_ok (mode := 0) (p := []) (Mv_1 (by decide) sE) rfl (fun x hx => by cases hx) (en _)
          · rw [if_neg h93] at hr sE
            rw [← Option.some.inj hr]
            exact MvR_bad (Mv_1 (by decide) sE)
    · have hr2 : r = .inl k := by
        rw [if_neg (fun z => h8 z.2), h1, if_neg (show ¬ 3091 ≤ 1000 by decide), wdI_0 md (by decide), if_neg (show ¬ 0 ≠ 0 from fun z => z rfl), if_neg (show ¬ (md = true ∧ 3091 = 2020) from fun z => absurd z.2 (by decide)), if_neg (show ¬ (md = true ∧ 3091 = 2021) from fun z => absurd z.2 (by decide))] at hr
        split at hr <;> exact (Option.some.inj hr).symm
      rw [hr2]
      refine MvR_bad (Mv_1 h4 ?_)
      rw [st]
      unfold ptS
      rw [if_pos h1, if_neg (by omega)]
  · rw [if_neg (fun z => h1 z.1)] at hr
    have s1 : mSt md tst f a k q P [] = some (lfS md f k q P []) := by
      rw [st]
      unfold ptS
      rw [if_neg h1]
    unfold lfS at s1
    have bad : ∀ {j}, some (Sum.inl j) = some r → mSt md tst f a k q P [] = some (.inl j) → MvR md tst f 0 P (a, k, q, P, []) r := fun e s => by
      rw [← Option.some.inj e]
      exact MvR_bad (Mv_1 h4 s)
    have ok : ∀ {c x k' q'}, some (Sum.inr (c, [x], k', q')) = some r → mSt md tst f a k q P [] = some (.inr (3, k', q', P, [] ++ [x])) → MvR md tst f 0 P (a, k, q, P, []) r := fun e s => by
      rw [← Option.some.inj e]
      exact MvR_ok (mode := 0) (p := []) (Mv_1 h4 s) rfl (fun x hx => by cases hx) (en _)
    by_cases c1 : 50 ≤ q
    · rw [if_pos c1] at hr s1
      exact bad hr s1
    · rw [if_neg c1] at hr s1
      by_cases c2 : f k ≤ 1000
      · rw [if_pos c2] at hr s1
        exact ok hr s1
      · rw [if_neg c2] at hr s1
        by_cases c3 : wdI md (f k) ≠ 0
        · rw [if_pos c3] at hr s1
          exact ok hr s1
        · rw [if_neg c3] at hr s1
          by_cases c4 : md = true ∧ f k = 2020
          · rw [if_pos c4] at hr s1
            by_cases c5 : f (k + 1) < 8
            · rw [if_pos c5] at hr s1
              exact ok hr s1
            · rw [if_neg c5] at hr s1
              exact bad hr s1
          · rw [if_neg c4] at hr s1
            by_cases c6 : md = true ∧ f k = 2021
            · rw [if_pos c6] at hr s1
              by_cases c5 : f (k + 1) < 4
              · rw [if_pos c5] at hr s1
                exact ok hr s1
              · rw [if_neg c5] at hr s1
                exact bad hr s1
            · rw [if_neg c6] at hr s1
              exact bad hr s1
theorem EndO_9 {x : Nat} (he : EndO 2 x) : ¬ (5 ≤ sgO x ∧ sgO x ≤ 9) := by
  intro z
  have e1 : (if 7 ≤ sgO x ∧ sgO x ≤ 9 then sgO x else 0) = 0 := he 1 (by decide) (by decide) (by decide) (fun z => absurd z (by decide))
  have e2 : (if 5 ≤ sgO x ∧ sgO x ≤ 6 then sgO x else 0) = 0 := he 2 (by decide) (by decide) (by decide) (fun z => absurd z (by decide))
  split at e1 <;> split at e2 <;> omega
theorem EndO_t {x : Nat} (he : EndO 5 x) : x ≠ 2010 ∧ x ≠ 2009 := by
  have e1 : (if x = 2010 then 4 else 0) = 0 := he 4 (by decide) (by decide) (by decide) (fun _ => by decide)
  have e2 : (if x = 2009 then 3 else 0) = 0 := he 5 (by decide) (by decide) (by decide) (fun _ => by decide)
  refine ⟨fun z => ?_, fun z => ?_⟩
  · rw [if_pos z] at e1
    cases e1
  · rw [if_pos z] at e2
    cases e2
/-- a plain -/
theorem mv_plain {F b : Nat} (hN : ∀ k, f (k + gNt f NT k) ≠ 2011) (ih5 : b < 8 → MvS md tst f 5 (b + 1) (fun k q => gG md f F 5 k q (b + 1))) (ih2 : MvS md tst f 2 b (fun k q => gG md f F 2 k q b)) : MvS md tst f 3 b (fun k q => gG md f (F + 1) 3 k q b) := by
  intro k q P a r hr hb ht ha hi
  have ha : a = 0 := ha
  subst ha
  obtain ⟨hi1, hi2⟩ := hi (Nat.le_refl 3)
  have ht : topB P < 3 := ht
  have hr : gG md f (F + 1) 3 k q b = some r := hr
  unfold gG at hr
  rw [if_neg (by decide), if_pos rfl] at hr
  have h11 := hN k
  have nts := mv_nots (md := md) (tst := tst) (q := q) (gNt f NT k) k P (gNt_all f NT k).2.1
  generalize gNt f NT k = z at *
  have pn : Pnd 3 (List.replicate z (28, [])) := fun x hx => by rw [List.eq_of_mem_replicate hx]; exact ⟨by decide, by decide⟩
  obtain ⟨in1, in2⟩ := inn_p (P := P) (by decide) _ pn
  refine MvR_pre nts ?_
  have en : ∀ x, EndO 3 x := fun x lv l0 l3 ll l4 => absurd (l4 (Nat.le_refl 3)) (by omega)
  have tp : topB (List.replicate z (28, []) ++ P) < 5 ∧ cmpd (List.replicate z (28, []) ++ P) = false := by
    cases z with
    | zero =>
      refine ⟨by show topB P < 5; omega, ?_⟩
      rcases cmpd_no ht with e | ⟨o, s, P', e, ho⟩
      · exact e
      · rw [e] at ht
        have ht : bnd o < 3 := ht
        unfold bnd at ht
        repeat' (split at ht)
        all_goals omega
    | succ z => exact ⟨show 3 < 5 by decide, rfl⟩
  by_cases h1 : f (k + z) = 3040
  · rw [if_pos h1] at hr
    by_cases h8 : b < 8
    · rw [if_pos h8] at hr
      have s1 : mSt md tst f 0 (k + z) q (List.replicate z (28, []) ++ P) [] = some (.inr (0, k + z + 1, q, (31, []) :: (List.replicate z (28, []) ++ P), [])) := by
        show (if f (k + z) = 2011 then _ else if f (k + z) = 3040 then (if brk (List.replicate z (28, []) ++ P) < 8 then some (Sum.inr (0, k + z + 1, q, (31, []) :: (List.replicate z (28, []) ++ P), [])) else _) else _) = _
        rw [if_neg h11, if_pos h1, if_pos (by rw [in2]; omega)]
      refine MvR_pre (Mv_1 (by decide) s1) ?_
      cases hx : gG md f F 5 (k + z + 1) q (b + 1) with
      | none =>
        rw [hx] at hr
        cases hr
      | some x =>
        have hI := ih5 h8 (k + z + 1) q ((31, []) :: (List.replicate z (28, []) ++ P)) 0 x hx (by show brk _ + 1 = b + 1; omega) (by show 0 < lbd 5; decide) rfl (fun _ => ⟨by show (31 : Nat) ≠ 32; decide, fun e => absurd (show (31 : Nat) = 0 from e) (by decide)⟩)
        rw [hx] at hr
        cases x with
        | inl j =>
          rw [← Option.some.inj hr]
          obtain ⟨n, h⟩ := hI.1 j rfl
          exact MvR_bad h
        | inr y =>
          obtain ⟨c, m, k', q'⟩ := y
          have hr : (if f k' = 3041 then some (Sum.inr (c ++ tnC z, m ++ tnM z, k' + 1, q')) else some (Sum.inl k')) = some r := hr
          obtain ⟨n, p, e, h, hm, hp, he⟩ := hI.2 _ _ _ _ rfl
          refine MvR_pre h ?_
          obtain ⟨t1, t2⟩ := EndO_t he
          have ii : inn (p ++ (31, []) :: (List.replicate z (28, []) ++ P)) = 31 := (inn_p (by decide) p hp).1
          have sE : mSt md tst f 2 k' q' (p ++ (31, []) :: (List.replicate z (28, []) ++ P)) e = if f k' = 3041 then shM 2 (k' + 1) q' (stl 1 (p ++ (31, []) :: (List.replicate z (28, []) ++ P)) e) else some (.inl k') := by
            show (if f k' = 2010 then _ else if f k' = 2009 then _ else if inn (p ++ (31, []) :: (List.replicate z (28, []) ++ P)) = 0 then _ else if f k' = 3041 then shM 2 (k' + 1) q' (stl 1 (p ++ (31, []) :: (List.replicate z (28, []) ++ P)) e) else some (Sum.inl k')) = _
            rw [if_neg t1, if_neg t2, if_neg (by rw [ii]; decide)]
          by_cases h41 : f k' = 3041
          · rw [if_pos h41] at hr sE
            rw [stl_p (l := 1) (P := (31, []) :: (List.replicate z (28, []) ++ P)) (by show 0 < 1; decide) p e hp, hm] at sE
            rw [← Option.some.inj hr]
            exact MvR_ok (mode := 3) (Mv_1 (by decide) sE) (unw_nt z m) pn (en _)
          · rw [if_neg h41] at hr sE
            rw [← Option.some.inj hr]
            exact MvR_bad (Mv_1 (by decide) sE)
    · rw [if_neg h8] at hr
      rw [← Option.some.inj hr]
      refine MvR_bad (Mv_1 (by decide) ?_)
      show (if f (k + z) = 2011 then _ else if f (k + z) = 3040 then (if brk (List.replicate z (28, []) ++ P) < 8 then _ else some (Sum.inl (k + z))) else _) = _
      rw [if_neg h11, if_pos h1, if_neg (by rw [in2]; omega)]
  · rw [if_neg h1] at hr
    cases hx : gG md f F 2 (k + z) q b with
    | none =>
      rw [hx] at hr
      cases hr
    | some x =>
      have hI := ih2 (k + z) q (List.replicate z (28, []) ++ P) 0 x hx (by rw [in2, hb]) tp.1 (Or.inr ⟨rfl, h11, h1⟩) (fun z => absurd z (by decide))
      rw [hx] at hr
      cases x with
      | inl j =>
        rw [← Option.some.inj hr]
        obtain ⟨n, h⟩ := hI.1 j rfl
        exact MvR_bad h
      | inr y =>
        obtain ⟨c, m, k', q'⟩ := y
        obtain ⟨n, p, e, h, hm, hp, he⟩ := hI.2 _ _ _ _ rfl
        refine MvR_pre h ?_
        have n9 := EndO_9 he
        have ii : inn (p ++ (List.replicate z (28, []) ++ P)) = inn P := (inn_p (by decide) p hp).1.trans in1
        have cc : cmpd (p ++ (List.replicate z (28, []) ++ P)) = false := (cmpd_p p hp).trans tp.2
        have nt : ¬ (inn P = 0 ∧ tst = false) := fun z => absurd ((hi2 z.1).symm.trans z.2) (by decide)
        have sE : mSt md tst f 3 k' q' (p ++ (List.replicate z (28, []) ++ P)) e = if 10 ≤ sgO (f k') then puM 1 (k' + 1) q' (sgO (f k') + 15) (stl 5 (p ++ (List.replicate z (28, []) ++ P)) e) else some (.inl k') := by
          show (if 5 ≤ sgO (f k') ∧ sgO (f k') ≤ 9 then _ else if inn (p ++ (List.replicate z (28, []) ++ P)) = 32 then _ else if inn (p ++ (List.replicate z (28, []) ++ P)) = 0 ∧ tst = false then _ else if cmpd (p ++ (List.replicate z (28, []) ++ P)) = true then _ else if 10 ≤ sgO (f k') then puM 1 (k' + 1) q' (sgO (f k') + 15) (stl 5 (p ++ (List.replicate z (28, []) ++ P)) e) else some (Sum.inl k')) = _
          rw [ii, cc, if_neg n9, if_neg hi1, if_neg nt, if_neg (by decide)]
        have hr : (if sgO (f k') < 10 then some (Sum.inl k') else gB (gG md f F 2 (k' + 1) q' b) fun e l k2 q2 => some (.inr (c ++ e ++ [(sgO (f k'), 0)] ++ tnC z, m ++ l ++ [(sgO (f k') + 15, 0)] ++ tnM z, k2, q2))) = some r := hr
        by_cases h10 : sgO (f k') < 10
        · rw [if_pos h10] at hr
          rw [if_neg (by omega)] at sE
          rw [← Option.some.inj hr]
          exact MvR_bad (Mv_1 (by decide) sE)
        · rw [if_neg h10] at hr
          rw [if_pos (by omega), stl_p (l := 5) tp.1 p e hp, hm] at sE
          have sl := (sgO_le (f k')).1
          generalize sgO (f k') = o at *
          refine MvR_pre (Mv_1 (by decide) sE) ?_
          have bo : bnd (o + 15) = 4 := by
            unfold bnd
            rw [if_neg (by omega), if_neg (by omega), if_neg (by omega), if_neg (by omega), if_pos (by omega)]
          cases hy : gG md f F 2 (k' + 1) q' b with
          | none =>
            rw [hy] at hr
            cases hr
          | some y =>
            have hJ := ih2 (k' + 1) q' ((o + 15, m) :: (List.replicate z (28, []) ++ P)) 1 y hy (by show brk _ + (if 31 ≤ o + 15 then 1 else 0) = b; rw [if_neg (by omega), in2, hb]; rfl) (by show bnd (o + 15) < 5; rw [bo]; decide) (Or.inl rfl) (fun z => absurd z (by decide))
            rw [hy] at hr
            cases y with
            | inl j =>
              rw [← Option.some.inj hr]
              obtain ⟨n, h⟩ := hJ.1 j rfl
              exact MvR_bad h
            | inr w =>
              obtain ⟨c2, m2, k2, q2⟩ := w
              rw [← Option.some.inj hr]
              obtain ⟨n2, p2, e2, h2, hm2, hp2, he2⟩ := hJ.2 _ _ _ _ rfl
              refine MvR_pre h2 ?_
              have n92 := EndO_9 he2
              have i2 : inn (p2 ++ (o + 15, m) :: (List.replicate z (28, []) ++ P)) = inn P := by
                rw [(inn_p (by decide) p2 hp2).1]
                show (if 31 ≤ o + 15 then o + 15 else inn (List.replicate z (28, []) ++ P)) = _
                rw [if_neg (by omega), in1]
              have c2 : cmpd (p2 ++ (o + 15, m) :: (List.replicate z (28, []) ++ P)) = true := by
                rw [cmpd_p p2 hp2]
                show (if 20 ≤ o + 15 ∧ o + 15 ≤ 24 then _ else decide (25 ≤ o + 15 ∧ o + 15 ≤ 27)) = true
                rw [if_neg (by omega)]
                exact decide_eq_true (by omega)
              have sF : mSt md tst f 3 k2 q2 (p2 ++ (o + 15, m) :: (List.replicate z (28, []) ++ P)) e2 = some (.inr (2, k2, q2, (p2 ++ (o + 15, m) :: List.replicate z (28, [])) ++ P, e2)) := by
                show (if 5 ≤ sgO (f k2) ∧ sgO (f k2) ≤ 9 then _ else if inn (p2 ++ (o + 15, m) :: (List.replicate z (28, []) ++ P)) = 32 then _ else if inn (p2 ++ (o + 15, m) :: (List.replicate z (28, []) ++ P)) = 0 ∧ tst = false then _ else if cmpd (p2 ++ (o + 15, m) :: (List.replicate z (28, []) ++ P)) = true then some (Sum.inr (2, k2, q2, p2 ++ (o + 15, m) :: (List.replicate z (28, []) ++ P), e2)) else _) = _
                rw [i2, c2, if_neg n92, if_neg hi1, if_neg nt, if_pos rfl, List.append_assoc]
                rfl
              refine MvR_ok (mode := 3) (Mv_1 (by decide) sF) ?_ ?_ (en _)
              · rw [unw_ap, hm2]
                show unw (List.replicate z (28, [])) (jnM (o + 15) m m2) = _
                rw [unw_nt]
                unfold jnM
                rw [if_neg (by omega)]
              · exact Pnd_ap (Pnd_mono (by decide) hp2) (fun x hx => (List.mem_cons.mp hx).elim (fun z => by rw [z]; exact ⟨by rw [bo]; decide, by show 20 ≤ o + 15; omega⟩) (pn x))
/-- every mode -/
theorem mv_expr (hN : ∀ k, f (k + gNt f NT k) ≠ 2011) : ∀ (F mode b : Nat), mode ≤ 5 → MvS md tst f mode b (fun k q => gG md f F mode k q b) := by
  intro F
  induction F with
  | zero =>
    intro mode b _ k q P a r h
    cases h
  | succ F ih =>
    intro mode b hm
    by_cases m0 : mode = 0
    · subst m0
      exact mv_part (ih 2 (b + 1) (by decide))
    · by_cases m3 : mode = 3
      · subst m3
        exact mv_plain hN (fun _ => ih 5 (b + 1) (by decide)) (ih 2 b (by decide))
      · intro k q P a r hr hb ht ha hi
        have hr : gG md f (F + 1) mode k q b = some r := hr
        unfold gG at hr
        rw [if_neg m0, if_neg m3] at hr
        have hl : mode = 1 ∨ mode = 2 ∨ mode = 4 ∨ mode = 5 := by omega
        have h2 : (mode - 1 ≤ 2) = (mode ≤ 2) := propext ⟨by omega, by omega⟩
        cases hx : gG md f F (mode - 1) k q b with
        | none =>
          rw [hx] at hr
          cases hr
        | some x =>
          have hI := ih (mode - 1) b (by omega) k q P a x hx hb (by rcases hl with e | e | e | e <;> rw [e] at ht ⊢ <;> exact Nat.lt_trans ht (by decide)) (by simp only [h2]; exact ha) (fun z => hi (by omega))
          rw [hx] at hr
          cases x with
          | inl j =>
            rw [← Option.some.inj hr]
            obtain ⟨n, h⟩ := hI.1 j rfl
            exact MvR_bad h
          | inr y =>
            obtain ⟨c, m, k', q'⟩ := y
            obtain ⟨n, p, e, h, hm', hp, he⟩ := hI.2 _ _ _ _ rfl
            simp only [h2] at h
            refine MvR_pre h (mv_loop hl (ih (mode - 1) b (by omega)) hb ht (fun z => hi (by omega)) NT c m k' q' p e r hr hm' (Pnd_mono ?_ hp) he)
            rcases hl with e | e | e | e <;> rw [e] <;> decide
/-- how far the machine is: each step is one further at least -/
def mu (s : Nat) : Nat := if s = 2 then 1 else if s = 4 then 2 else 0
def MuR (s k : Nat) (x : Nat ⊕ CF) : Prop := (∀ j, x = .inl j → k ≤ j) ∧ ∀ y, x = .inr y → 2 * k + mu s < 2 * y.2.1 + mu y.1 ∧ y.1 ≤ 4 ∧ k ≤ y.2.1
theorem MuR_l {s k j : Nat} (h : k ≤ j) : MuR s k (.inl j) := ⟨fun j' e => by cases e; exact h, (fun _ e => by cases e)⟩
theorem MuR_r {s k : Nat} {y : CF} (h : 2 * k + mu s < 2 * y.2.1 + mu y.1) (h2 : y.1 ≤ 4) (h3 : k ≤ y.2.1) : MuR s k (.inr y) := ⟨(fun _ e => by cases e), fun y' e => by cases e; exact ⟨h, h2, h3⟩⟩
theorem MuR_pt {s k q : Nat} {P : PL} {c : GC} (hs : mu s = 0) : MuR s k (ptS md f k q P c) := by
  unfold ptS lfS
  have m3 : mu 3 = 0 := rfl
  have m1 : mu 1 = 0 := rfl
  repeat' split
  all_goals first
    | exact MuR_l (by omega)
    | exact MuR_r (by show 2 * k + mu s < 2 * (k + 1) + 0; omega) (Nat.le_of_ble_eq_true rfl) (by show k ≤ k + 1; omega)
    | exact MuR_r (by show 2 * k + mu s < 2 * (k + 2) + 0; omega) (Nat.le_of_ble_eq_true rfl) (by show k ≤ k + 2; omega)
theorem MuR_sh {s s' k q : Nat} {y : PL × GC} {x : Nat ⊕ CF} (h : shM s' (k + 1) q y = some x) (hs : mu s ≤ 1) (h4 : s' ≤ 4) : MuR s k x := by
  obtain ⟨P, c⟩ := y
  cases P with
  | nil => cases h
  | cons z P =>
    obtain ⟨o, e⟩ := z
    have h : (if 31 ≤ o then some (Sum.inr (s', k + 1, q, P, e ++ c)) else none) = some x := h
    by_cases ho : 31 ≤ o
    · rw [if_pos ho] at h
      rw [← Option.some.inj h]
      exact MuR_r (by show 2 * k + mu s < 2 * (k + 1) + mu s'; omega) h4 (Nat.le_succ k)
    · rw [if_neg ho] at h
      cases h
theorem MuR_pu {s s' k q o : Nat} {y : PL × GC} {x : Nat ⊕ CF} (h : puM s' (k + 1) q o y = some x) (hs : mu s ≤ 1) (h4 : s' ≤ 4) : MuR s k x := by
  rw [← Option.some.inj h]
  exact MuR_r (by show 2 * k + mu s < 2 * (k + 1) + mu s'; omega) h4 (Nat.le_succ k)
theorem mSt_mu {s k q : Nat} {P : PL} {c : GC} {x : Nat ⊕ CF} (hs : s ≠ 4) (h : mSt md tst f s k q P c = some x) : MuR s k x := by
  unfold mSt at h
  by_cases s0 : s = 0
  · subst s0
    rw [if_pos rfl] at h
    by_cases c1 : f k = 2011
    · rw [if_pos c1] at h
      rw [← Option.some.inj h]
      exact MuR_r (by show 2 * k + 0 < 2 * (k + 1) + 0; omega) (Nat.le_of_ble_eq_true rfl) (Nat.le_succ k)
    · rw [if_neg c1] at h
      by_cases c2 : f k = 3040
      · rw [if_pos c2] at h
        by_cases c3 : brk P < 8
        · rw [if_pos c3] at h
          rw [← Option.some.inj h]
          exact MuR_r (by show 2 * k + 0 < 2 * (k + 1) + 0; omega) (Nat.le_of_ble_eq_true rfl) (Nat.le_succ k)
        · rw [if_neg c3] at h
          rw [← Option.some.inj h]
          exact MuR_l (Nat.le_refl k)
      · rw [if_neg c2] at h
        rw [← Option.some.inj h]
        exact MuR_pt rfl
  · rw [if_neg s0] at h
    by_cases s1 : s = 1
    · subst s1
      rw [if_pos rfl] at h
      rw [← Option.some.inj h]
      exact MuR_pt rfl
    · rw [if_neg s1] at h
      by_cases s3 : s = 3
      · subst s3
        rw [if_pos rfl] at h
        split at h
        · exact MuR_pu h (by decide) (by decide)
        · split at h
          · split at h
            · exact MuR_sh h (by decide) (by decide)
            · rw [← Option.some.inj h]
              exact MuR_l (Nat.le_refl k)
          · split at h
            · rw [← Option.some.inj h]
              exact MuR_r (by show 2 * k + 0 < 2 * k + 2; omega) (Nat.le_of_ble_eq_true rfl) (Nat.le_refl k)
            · split at h
              · rw [← Option.some.inj h]
                exact MuR_r (by show 2 * k + 0 < 2 * k + 1; omega) (Nat.le_of_ble_eq_true rfl) (Nat.le_refl k)
              · split at h
                · exact MuR_pu h (by decide) (by decide)
                · rw [← Option.some.inj h]
                  exact MuR_l (Nat.le_refl k)
      · rw [if_neg s3] at h
        have m2 : mu s ≤ 1 := by
          unfold mu
          rw [if_neg hs]
          split <;> decide
        split at h
        · exact MuR_pu h m2 (by decide)
        · split at h
          · exact MuR_pu h m2 (by decide)
          · split at h
            · rw [← Option.some.inj h]
              exact MuR_r (by show 2 * k + mu s < 2 * k + 2; omega) (Nat.le_of_ble_eq_true rfl) (Nat.le_refl k)
            · split at h
              · exact MuR_sh h m2 (by decide)
              · rw [← Option.some.inj h]
                exact MuR_l (Nat.le_refl k)
theorem Mv_mu {r : Nat ⊕ CF} : ∀ (n : Nat) (s : CF), Mv md tst f n s r → (∀ j, r = .inl j → n + 2 * s.2.1 + mu s.1 ≤ 2 * j + 2 ∧ s.2.1 ≤ j) ∧ ∀ y, r = .inr y → n + 2 * s.2.1 + mu s.1 ≤ 2 * y.2.1 + mu y.1 ∧ s.2.1 ≤ y.2.1
  | 0, s, h => by
    have h : r = .inr s := h
    refine ⟨fun j e => ?_, fun y e => ?_⟩
    · rw [h] at e
      cases e
    · rw [h] at e
      cases e
      exact ⟨by omega, Nat.le_refl _⟩
  | n + 1, s, h => by
    obtain ⟨h4, x, e, hx⟩ := h
    obtain ⟨m1, m2⟩ := mSt_mu h4 e
    cases x with
    | inl j =>
      have hx : n = 0 ∧ r = .inl j := hx
      have := m1 j rfl
      refine ⟨fun j' e => ?_, fun y e => ?_⟩
      · rw [hx.2] at e
        cases e
        have h2 : mu s.1 ≤ 1 := by unfold mu; rw [if_neg h4]; split <;> decide
        exact ⟨by omega, this⟩
      · rw [hx.2] at e
        cases e
    | inr y =>
      obtain ⟨a1, a2, a3⟩ := m2 y rfl
      have hx : Mv md tst f n y r := hx
      obtain ⟨i1, i2⟩ := Mv_mu n y hx
      have h2 : mu y.1 ≤ 2 := by unfold mu; split; decide; split <;> decide
      refine ⟨fun j e => ?_, fun z e => ?_⟩
      · have := i1 j e
        omega
      · have := i2 z e
        omega
/-- a whole expression: a sum or a test -/
theorem mv_all (hN : ∀ k, f (k + gNt f NT k) ≠ 2011) {F k q : Nat} {r : GT} (hr : gG md f F (if tst = true then 5 else 2) k q 0 = some r) : (∀ j, r = .inl j → ∃ n, n ≤ 2 * j + 2 ∧ Mv md tst f n (if tst = true then 0 else 1, k, q, [], []) (.inl j)) ∧ ∀ c m k' q', r = .inr (c, m, k', q') → ∃ n p e, n ≤ 2 * k' + 2 ∧ Mv md tst f n (if tst = true then 0 else 1, k, q, [], []) (.inr (4, k', q', p, e)) ∧ unw p e = m ∧ Pnd 1 p := by
  have fin : ∀ {n y}, Mv md tst f n (if tst = true then 0 else 1, k, q, [], []) (.inr (4, y)) → n ≤ 2 * y.1 + 2 := by
    intro n y h
    have := ((Mv_mu n _ h).2 _ rfl).1
    have e : mu 4 = 2 := rfl
    have this : n + 2 * k + mu (if tst = true then 0 else 1) ≤ 2 * y.1 + mu 4 := this
    omega
  have hx : MvR md tst f (if tst = true then 5 else 2) [] (if tst = true then 0 else 1, k, q, [], []) r := by
    refine mv_expr hN F _ 0 (by split <;> decide) k q [] _ r hr rfl (by cases tst <;> decide) ?_ (fun h => ⟨(fun z => by cases z), fun _ => ?_⟩)
    · cases tst
      · exact Or.inl rfl
      · rfl
    · cases tst
      · exact absurd h (by decide)
      · rfl
  refine ⟨fun j e => ?_, fun c m k' q' e => ?_⟩
  · obtain ⟨n, h⟩ := hx.1 j e
    refine ⟨n, ?_, h⟩
    have := ((Mv_mu n _ h).1 j rfl).1
    omega
  · obtain ⟨n, p, x, h, hm, hp, he⟩ := hx.2 c m k' q' e
    rw [List.append_nil] at h
    cases tst with
    | false =>
      have hp : Pnd 5 p := hp
      have i0 : inn p = 0 := by
        have := (inn_p (P := []) (by decide) p hp).1
        rw [List.append_nil] at this
        exact this
      have hn : inn p ≠ 32 := by rw [i0]; decide
      have s1 : mSt md false f 3 k' q' p x = some (.inr (4, k', q', p, x)) := by
        show (if 5 ≤ sgO (f k') ∧ sgO (f k') ≤ 9 then _ else if inn p = 32 then _ else if inn p = 0 ∧ false = false then some (Sum.inr (4, k', q', p, x)) else _) = _
        rw [if_neg (EndO_9 he), if_neg hn, if_pos ⟨i0, rfl⟩]
      have h2 := Mv_tr (Mv_1 (by decide) s1) n _ h
      exact ⟨_, p, x, fin h2, h2, hm, Pnd_mono (by decide) hp⟩
    | true =>
      have hp : Pnd 1 p := hp
      have i0 : inn p = 0 := by
        have := (inn_p (P := []) (by decide) p hp).1
        rw [List.append_nil] at this
        exact this
      obtain ⟨t1, t2⟩ := EndO_t he
      have s1 : mSt md true f 2 k' q' p x = some (.inr (4, k', q', p, x)) := by
        show (if f k' = 2010 then _ else if f k' = 2009 then _ else if inn p = 0 then some (Sum.inr (4, k', q', p, x)) else _) = _
        rw [if_neg t1, if_neg t2, if_pos i0]
      have h2 := Mv_tr (Mv_1 (by decide) s1) n _ h
      exact ⟨_, p, x, fin h2, h2, hm, hp⟩
end MAC
