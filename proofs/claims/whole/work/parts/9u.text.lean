/-! clauses and texts -/
theorem gLp_ne {f : Nat → Nat} {lv : Nat} {sub : Nat → Nat → Option GT} : ∀ (n : Nat) (c m : GC) (k q : Nat) (c' m' : GC) (k' q' : Nat), gLp f lv sub n c m k q = some (.inr (c', m', k', q')) → c ≠ [] → m ≠ [] → c' ≠ [] ∧ m' ≠ [] := by
  intro n
  induction n with
  | zero =>
    intro c m k q c' m' k' q' h
    cases h
  | succ n ih =>
    intro c m k q c' m' k' q' h hc hm
    unfold gLp at h
    by_cases h0 : lvO lv (f k) = 0
    · rw [if_pos h0] at h
      cases h
      exact ⟨hc, hm⟩
    · rw [if_neg h0] at h
      cases hx : sub (k + 1) q with
      | none =>
        rw [hx] at h
        cases h
      | some x =>
        rw [hx] at h
        cases x with
        | inl j => cases h
        | inr y =>
          obtain ⟨e, l, k2, q2⟩ := y
          refine ih _ _ _ _ _ _ _ _ h ?_ ?_
          · unfold gJ
            split <;> simp [hc]
          · unfold gJm
            split <;> simp [hm]
theorem gG_ne {md : Bool} {f : Nat → Nat} : ∀ (F mode k q b : Nat) (c m : GC) (k' q' : Nat), gG md f F mode k q b = some (.inr (c, m, k', q')) → c ≠ [] ∧ m ≠ [] := by
  intro F
  induction F with
  | zero =>
    intro mode k q b c m k' q' h
    cases h
  | succ F ih =>
    intro mode k q b c m k' q' h
    have sb : ∀ {r : Option GT} {g : GC → GC → Nat → Nat → Option GT}, (∀ c m k q, r = some (.inr (c, m, k, q)) → c ≠ [] ∧ m ≠ []) → (∀ c0 m0 k0 q0, c0 ≠ [] → m0 ≠ [] → g c0 m0 k0 q0 = some (.inr (c, m, k', q')) → c ≠ [] ∧ m ≠ []) → gB r g = some (.inr (c, m, k', q')) → c ≠ [] ∧ m ≠ [] := by
      intro r g h1 h2 h3
      cases r with
      | none => cases h3
      | some x =>
        cases x with
        | inl j => cases h3
        | inr y =>
          obtain ⟨c0, m0, k0, q0⟩ := y
          obtain ⟨a, a'⟩ := h1 c0 m0 k0 q0 rfl
          exact h2 c0 m0 k0 q0 a a' h3
    unfold gG at h
    by_cases m0 : mode = 0
    · rw [if_pos m0] at h
      split at h
      · refine sb (ih _ _ _ _) (fun c0 m0 k0 q0 a a' e => ?_) h
        split at e
        · cases e
          exact ⟨a, a'⟩
        · cases e
      · repeat' (split at h)
        all_goals first
          | cases h; exact ⟨List.cons_ne_nil _ _, List.cons_ne_nil _ _⟩
          | cases h
    · rw [if_neg m0] at h
      by_cases m3 : mode = 3
      · rw [if_pos m3] at h
        split at h
        · split at h
          · refine sb (ih _ _ _ _) (fun c0 m0 k0 q0 a a' e => ?_) h
            split at e
            · cases e
              exact ⟨fun z => a (List.append_eq_nil_iff.mp z).1, fun z => a' (List.append_eq_nil_iff.mp z).1⟩
            · cases e
          · cases h
        · refine sb (ih _ _ _ _) (fun c0 m0 k0 q0 a a' e => ?_) h
          split at e
          · cases e
          · refine sb (ih _ _ _ _) (fun c1 m1 k1 q1 b b' e => ?_) e
            cases e
            exact ⟨fun z => a (List.append_eq_nil_iff.mp (List.append_eq_nil_iff.mp (List.append_eq_nil_iff.mp z).1).1).1, fun z => a' (List.append_eq_nil_iff.mp (List.append_eq_nil_iff.mp (List.append_eq_nil_iff.mp z).1).1).1⟩
      · rw [if_neg m3] at h
        exact sb (ih _ _ _ _) (fun c0 m0 k0 q0 a a' e => gLp_ne NT c0 m0 k0 q0 c m k' q' e a a') h
def gWd {α β : Type} (r : Option (Nat ⊕ α)) (h : α → Option (Nat ⊕ β)) : Option (Nat ⊕ β) := match r with
  | none => none
  | some (.inl j) => some (.inl j)
  | some (.inr x) => h x
/-- kind, times, first sum (class, reference), second sum, test -/
abbrev CL := Nat × Nat × GC × GC × GC × GC × GC × GC
noncomputable def gE (md : Bool) (f : Nat → Nat) (mode k q : Nat) : Option GT := gG md f 60 mode k q 0
def bsK (md : Bool) : Nat := if md = true then 2004 else 2000
noncomputable def gC1 (md : Bool) (f : Nat → Nat) (k q : Nat) : Option GT := if f k = bsK md + 3 then some (.inr ([], [], k + 1, q)) else gE md f 2 (k + 1) q
noncomputable def gC2 (md : Bool) (f : Nat → Nat) (k k1 q1 : Nat) : Option GT := if md = true ∧ f k = bsK md + 1 then (if f k1 = 2012 then gE md f 2 (k1 + 1) q1 else some (.inl k1)) else some (.inr ([], [], k1, q1))
def gC3 (md : Bool) (f : Nat → Nat) (k : Nat) : Option (Nat ⊕ (Nat × Nat)) := if md = true ∧ f k = 2013 then (if 1 ≤ f (k + 1) ∧ f (k + 1) ≤ 20 then some (.inr (f (k + 1), k + 2)) else some (.inl (k + 1))) else some (.inr (1, k))
noncomputable def gC4 (md : Bool) (f : Nat → Nat) (k q : Nat) : Option GT := if f k = 2008 then gE md f 5 (k + 1) q else some (.inr ([], [], k, q))
/-- a clause -/
noncomputable def gC (md : Bool) (f : Nat → Nat) (k q : Nat) : Option (Nat ⊕ (CL × Nat × Nat)) := if bsK md ≤ f k ∧ f k ≤ bsK md + 3 then
    gWd (gC1 md f k q) fun x1 => gWd (gC2 md f k x1.2.2.1 x1.2.2.2) fun x2 => gWd (gC3 md f x2.2.2.1) fun x3 => gWd (gC4 md f x3.2 x2.2.2.2) fun x4 => some (.inr ((f k - bsK md, x3.1, x1.1, x1.2.1, x2.1, x2.2.1, x4.1, x4.2.1), x4.2.2.1, x4.2.2.2))
  else some (.inl k)
/-- a text, of n clauses at most -/
noncomputable def gX (md : Bool) (f : Nat → Nat) : Nat → Nat → Nat → Option (Nat ⊕ List CL)
  | 0, k, _ => some (.inl k)
  | n + 1, k, q => gWd (gC md f k q) fun x => if f x.2.1 = 4000 then some (.inr [x.1]) else if f x.2.1 = 3059 then gWd (gX md f n (x.2.1 + 1) x.2.2) fun L => some (.inr (x.1 :: L)) else some (.inl x.2.1)
def ExO (md ts : Bool) (c m : GC) : Prop := c ≠ [] ∧ m ≠ [] ∧ (∃ h, h ≤ 50 ∧ Tie md ts c m h ∧ TM m h) ∧ OkC c ∧ OkM md m
def lnC (x : CL) : Nat := x.2.2.1.length + x.2.2.2.2.1.length + x.2.2.2.2.2.2.1.length
def lnM (x : CL) : Nat := x.2.2.2.1.length + x.2.2.2.2.2.1.length + x.2.2.2.2.2.2.2.length
/-- a sound clause -/
def ClO (md : Bool) (x : CL) : Prop := x.1 ≤ 3 ∧ 1 ≤ x.2.1 ∧ x.2.1 ≤ 20 ∧ (md = false → x.2.1 = 1) ∧ (if x.1 = 3 then x.2.2.1 = [] ∧ x.2.2.2.1 = [] else ExO md false x.2.2.1 x.2.2.2.1) ∧ (if md = true ∧ x.1 = 1 then ExO md false x.2.2.2.2.1 x.2.2.2.2.2.1 else x.2.2.2.2.1 = [] ∧ x.2.2.2.2.2.1 = []) ∧ (ExO md true x.2.2.2.2.2.2.1 x.2.2.2.2.2.2.2 ∨ x.2.2.2.2.2.2.1 = [] ∧ x.2.2.2.2.2.2.2 = [])
section TXT
variable {md : Bool} {f : Nat → Nat} {T : Nat}
/-- what one of a clause's four reads: a fault, or up to k' -/
def gVv (T k q : Nat) (r : Option GT) (Q : GC → GC → Nat → Prop) : Prop := (∃ j, r = some (.inl j) ∧ k ≤ j ∧ j ≤ T) ∨ ∃ c m k' q', r = some (.inr (c, m, k', q')) ∧ k ≤ k' ∧ k' ≤ T ∧ q ≤ q' ∧ q' ≤ 50 ∧ c.length ≤ k' - k ∧ m.length ≤ k' - k ∧ Q c m k'
theorem gE_ok (hT : T ≤ 400) (hE : ∀ k, f k ≠ 4000 → k < T) {mode k q : Nat} (hm : mode = 2 ∨ mode = 5) (hk : k ≤ T) (hq : q ≤ 50) : gVv T k q (gE md f mode k q) (fun c m k' => ExO md (decide (3 ≤ mode)) c m) := by
  rcases gG_ok (md := md) hT hE 60 mode k q 0 hk hq (by omega) (by omega) (by omega) with h | ⟨c, m, k', q', e, r1, r2, r3, r4, r5, r6, r7, r8, r9⟩
  · exact Or.inl h
  · obtain ⟨n1, n2⟩ := gG_ne _ _ _ _ _ _ _ _ _ e
    obtain ⟨u1, u2⟩ := gG_T (md := md) (f := f) 60 mode k q 0 (by omega) c m k' q' e
    exact Or.inr ⟨c, m, k', q', e, by omega, r2, by omega, r4, r6, r7, n1, n2, ⟨_, by omega, r5, u2⟩, r8, r9⟩
theorem gC1_ok (hT : T ≤ 400) (hE : ∀ k, f k ≠ 4000 → k < T) {k q : Nat} (hk : k < T) (hq : q ≤ 50) : gVv T (k + 1) q (gC1 md f k q) (fun c m k' => if f k - bsK md = 3 then c = [] ∧ m = [] else ExO md false c m) := by
  unfold gC1
  by_cases e : f k = bsK md + 3
  · rw [if_pos e]
    exact Or.inr ⟨[], [], k + 1, q, rfl, Nat.le_refl _, hk, Nat.le_refl _, hq, Nat.zero_le _, Nat.zero_le _, by dsimp only; rw [if_pos (by omega)]; exact ⟨rfl, rfl⟩⟩
  · rw [if_neg e]
    have hn : f k - bsK md = 3 → f k = bsK md + 3 := by omega
    rcases gE_ok (md := md) hT hE (Or.inl rfl) (show k + 1 ≤ T by omega) hq with h | ⟨c, m, k', q', h, h1, h2, h3, h4, h5, h6, h7⟩
    · exact Or.inl h
    · exact Or.inr ⟨c, m, k', q', h, h1, h2, h3, h4, h5, h6, by dsimp only; rw [if_neg (fun z => e (hn z))]; exact h7⟩
theorem gC2_ok (hT : T ≤ 400) (hE : ∀ k, f k ≠ 4000 → k < T) {k k1 q1 : Nat} (hk : k1 ≤ T) (hq : q1 ≤ 50) (hb : bsK md ≤ f k) : gVv T k1 q1 (gC2 md f k k1 q1) (fun c m k' => if md = true ∧ f k - bsK md = 1 then ExO md false c m else c = [] ∧ m = []) := by
  unfold gC2
  have hi : (md = true ∧ f k - bsK md = 1) = (md = true ∧ f k = bsK md + 1) := propext ⟨fun z => ⟨z.1, by omega⟩, fun z => ⟨z.1, by omega⟩⟩
  simp only [hi]
  by_cases e : md = true ∧ f k = bsK md + 1
  · rw [if_pos e]
    by_cases e2 : f k1 = 2012
    · rw [if_pos e2]
      have := hE k1 (by omega)
      rcases gE_ok (md := md) hT hE (Or.inl rfl) (show k1 + 1 ≤ T by omega) hq with ⟨j, h, h1, h2⟩ | ⟨c, m, k', q', h, h1, h2, h3, h4, h5, h6, h7⟩
      · exact Or.inl ⟨j, h, by omega, h2⟩
      · exact Or.inr ⟨c, m, k', q', h, by omega, h2, h3, h4, by omega, by omega, by dsimp only; rw [if_pos e]; exact h7⟩
    · rw [if_neg e2]
      exact Or.inl ⟨k1, rfl, Nat.le_refl _, hk⟩
  · rw [if_neg e]
    exact Or.inr ⟨[], [], k1, q1, rfl, Nat.le_refl _, hk, Nat.le_refl _, hq, Nat.zero_le _, Nat.zero_le _, by dsimp only; rw [if_neg e]; exact ⟨rfl, rfl⟩⟩
theorem gC3_ok (hE : ∀ k, f k ≠ 4000 → k < T) {k : Nat} (hk : k ≤ T) : (∃ j, gC3 md f k = some (.inl j) ∧ k ≤ j ∧ j ≤ T) ∨ ∃ x k', gC3 md f k = some (.inr (x, k')) ∧ k ≤ k' ∧ k' ≤ T ∧ 1 ≤ x ∧ x ≤ 20 ∧ (md = false → x = 1) := by
  unfold gC3
  by_cases e : md = true ∧ f k = 2013
  · rw [if_pos e]
    have := hE k (by omega)
    by_cases e2 : 1 ≤ f (k + 1) ∧ f (k + 1) ≤ 20
    · rw [if_pos e2]
      have := hE (k + 1) (by omega)
      exact Or.inr ⟨_, _, rfl, by omega, by omega, e2.1, e2.2, fun z => absurd (e.1.symm.trans z) (by decide)⟩
    · rw [if_neg e2]
      exact Or.inl ⟨k + 1, rfl, by omega, by omega⟩
  · rw [if_neg e]
    exact Or.inr ⟨1, k, rfl, Nat.le_refl _, hk, by decide, by decide, fun _ => rfl⟩
theorem gC4_ok (hT : T ≤ 400) (hE : ∀ k, f k ≠ 4000 → k < T) {k q : Nat} (hk : k ≤ T) (hq : q ≤ 50) : gVv T k q (gC4 md f k q) (fun c m k' => ExO md true c m ∨ c = [] ∧ m = []) := by
  unfold gC4
  by_cases e : f k = 2008
  · rw [if_pos e]
    have := hE k (by omega)
    rcases gE_ok (md := md) hT hE (Or.inr rfl) (show k + 1 ≤ T by omega) hq with ⟨j, h, h1, h2⟩ | ⟨c, m, k', q', h, h1, h2, h3, h4, h5, h6, h7⟩
    · exact Or.inl ⟨j, h, by omega, h2⟩
    · exact Or.inr ⟨c, m, k', q', h, by omega, h2, h3, h4, by omega, by omega, Or.inl h7⟩
  · rw [if_neg e]
    exact Or.inr ⟨[], [], k, q, rfl, Nat.le_refl _, hk, Nat.le_refl _, hq, Nat.zero_le _, Nat.zero_le _, Or.inr ⟨rfl, rfl⟩⟩
theorem gC_ok (hT : T ≤ 400) (hE : ∀ k, f k ≠ 4000 → k < T) {k q : Nat} (hk : k ≤ T) (hq : q ≤ 50) : (∃ j, gC md f k q = some (.inl j) ∧ k ≤ j ∧ j ≤ T) ∨ ∃ x k' q', gC md f k q = some (.inr (x, k', q')) ∧ k < k' ∧ k' ≤ T ∧ q ≤ q' ∧ q' ≤ 50 ∧ ClO md x ∧ lnC x ≤ k' - k ∧ lnM x ≤ k' - k := by
  unfold gC
  by_cases e : bsK md ≤ f k ∧ f k ≤ bsK md + 3
  · rw [if_pos e]
    have hb : bsK md ≤ 2004 := by unfold bsK; split <;> decide
    have hkT := hE k (by omega)
    rcases gC1_ok (md := md) hT hE hkT hq with ⟨j, h, h1, h2⟩ | ⟨c1, m1, k1, q1, h, a1, a2, a3, a4, a5, a6, a7⟩
    · rw [h]
      exact Or.inl ⟨j, rfl, by omega, h2⟩
    · rw [h]
      show (∃ j, gWd (gC2 md f k k1 q1) _ = some (.inl j) ∧ k ≤ j ∧ j ≤ T) ∨ ∃ x k' q', gWd (gC2 md f k k1 q1) _ = some (.inr (x, k', q')) ∧ _
      rcases gC2_ok (md := md) hT hE a2 a4 e.1 with ⟨j, h, h1, h2⟩ | ⟨c2, m2, k2, q2, h, b1, b2, b3, b4, b5, b6, b7⟩
      · rw [h]
        exact Or.inl ⟨j, rfl, by omega, h2⟩
      · rw [h]
        show (∃ j, gWd (gC3 md f k2) _ = some (.inl j) ∧ k ≤ j ∧ j ≤ T) ∨ ∃ x k' q', gWd (gC3 md f k2) _ = some (.inr (x, k', q')) ∧ _
        rcases gC3_ok (md := md) hE b2 with ⟨j, h, h1, h2⟩ | ⟨x3, k3, h, d1, d2, d3, d4, d5⟩
        · rw [h]
          exact Or.inl ⟨j, rfl, by omega, h2⟩
        · rw [h]
          show (∃ j, gWd (gC4 md f k3 q2) _ = some (.inl j) ∧ k ≤ j ∧ j ≤ T) ∨ ∃ x k' q', gWd (gC4 md f k3 q2) _ = some (.inr (x, k', q')) ∧ _
          rcases gC4_ok (md := md) hT hE d2 b4 with ⟨j, h, h1, h2⟩ | ⟨c4, m4, k4, q4, h, g1, g2, g3, g4, g5, g6, g7⟩
          · rw [h]
            exact Or.inl ⟨j, rfl, by omega, h2⟩
          · rw [h]
            refine Or.inr ⟨_, k4, q4, rfl, by omega, g2, by omega, g4, ⟨?_, d3, d4, d5, a7, b7, g7⟩, ?_, ?_⟩
            · show f k - bsK md ≤ 3
              omega
            · show c1.length + c2.length + c4.length ≤ k4 - k
              omega
            · show m1.length + m2.length + m4.length ≤ k4 - k
              omega
  · rw [if_neg e]
    exact Or.inl ⟨k, rfl, Nat.le_refl _, hk⟩
def lnL : List CL → Nat × Nat
  | [] => (0, 0)
  | x :: L => (lnC x + (lnL L).1, lnM x + (lnL L).2)
theorem gX_ok (hT : T ≤ 400) (hE : ∀ k, f k ≠ 4000 → k < T) : ∀ (n k q : Nat), k ≤ T → q ≤ 50 → (∃ j, gX md f n k q = some (.inl j) ∧ k ≤ j ∧ j ≤ T) ∨ ∃ L, gX md f n k q = some (.inr L) ∧ 1 ≤ L.length ∧ L.length ≤ n ∧ (∀ x, x ∈ L → ClO md x) ∧ (lnL L).1 ≤ T - k ∧ (lnL L).2 ≤ T - k
  | 0, k, q, hk, _ => Or.inl ⟨k, rfl, Nat.le_refl _, hk⟩
  | n + 1, k, q, hk, hq => by
    unfold gX
    rcases gC_ok (md := md) hT hE hk hq with ⟨j, h, h1, h2⟩ | ⟨x, k', q', h, a1, a2, a3, a4, a5, a6, a7⟩
    · rw [h]
      exact Or.inl ⟨j, rfl, h1, h2⟩
    · rw [h]
      show (∃ j, (if f k' = 4000 then some (Sum.inr [x]) else if f k' = 3059 then gWd (gX md f n (k' + 1) q') fun L => some (.inr (x :: L)) else some (.inl k')) = some (.inl j) ∧ k ≤ j ∧ j ≤ T) ∨ ∃ L, (if f k' = 4000 then some (Sum.inr [x]) else if f k' = 3059 then gWd (gX md f n (k' + 1) q') fun L => some (.inr (x :: L)) else some (.inl k')) = some (.inr L) ∧ _
      by_cases e : f k' = 4000
      · rw [if_pos e]
        refine Or.inr ⟨[x], rfl, Nat.le_refl 1, by show 1 ≤ n + 1; omega, fun y hy => by rw [List.mem_singleton.mp hy]; exact a5, ?_, ?_⟩
        · show lnC x + 0 ≤ _
          omega
        · show lnM x + 0 ≤ _
          omega
      · rw [if_neg e]
        by_cases e2 : f k' = 3059
        · rw [if_pos e2]
          have := hE k' e
          rcases gX_ok hT hE n (k' + 1) q' (by omega) a4 with ⟨j, h, h1, h2⟩ | ⟨L, h, b1, b2, b3, b4, b5⟩
          · rw [h]
            exact Or.inl ⟨j, rfl, by omega, h2⟩
          · rw [h]
            refine Or.inr ⟨x :: L, rfl, by show 1 ≤ L.length + 1; omega, by show L.length + 1 ≤ n + 1; omega, fun y hy => (List.mem_cons.mp hy).elim (fun z => by rw [z]; exact a5) (b3 y), ?_, ?_⟩
            · show lnC x + (lnL L).1 ≤ _
              omega
            · show lnM x + (lnL L).2 ≤ _
              omega
        · rw [if_neg e2]
          exact Or.inl ⟨k', rfl, by omega, a2⟩
end TXT
