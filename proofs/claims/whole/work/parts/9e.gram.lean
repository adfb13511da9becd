/-! the language: one reading for both -/
abbrev GC := List (Nat × Nat)
abbrev GT := Nat ⊕ (GC × GC × Nat × Nat)
def gB (r : Option GT) (h : GC → GC → Nat → Nat → Option GT) : Option GT := match r with
  | none => none
  | some (.inl j) => some (.inl j)
  | some (.inr (c, m, k, q)) => h c m k q
/-- what a sign joins with: the class's step -/
def sgO (x : Nat) : Nat := if x = 3043 then 5 else if x = 3045 then 6 else if x = 3042 then 7 else if x = 3047 then 8 else if x = 3037 then 9 else if x = 3060 then 10 else if x = 3062 then 11 else if x = 3061 then 12 else 0
/-- what joins on each level: 1 products, 2 sums, 4 and, 5 or -/
def lvO (lv x : Nat) : Nat := if lv = 1 then (if 7 ≤ sgO x ∧ sgO x ≤ 9 then sgO x else 0) else if lv = 2 then (if 5 ≤ sgO x ∧ sgO x ≤ 6 then sgO x else 0) else if lv = 4 then (if x = 2010 then 4 else 0) else (if x = 2009 then 3 else 0)
def gJ (s : Nat) (c e : GC) : GC := if s = 3 ∨ s = 4 then c ++ [(s, e.length)] ++ e else c ++ e ++ [(s, 0)]
def gJm (s : Nat) (m l : GC) : GC := if s = 3 ∨ s = 4 then m ++ [(33 - s, l.length)] ++ l else m ++ l ++ [(s + 15, 0)]
/-- more than there are tokens -/
def NT : Nat := 401
def gLp (f : Nat → Nat) (lv : Nat) (sub : Nat → Nat → Option GT) : Nat → GC → GC → Nat → Nat → Option GT
  | 0, _, _, _, _ => none
  | n + 1, c, m, k, q => if lvO lv (f k) = 0 then some (.inr (c, m, k, q)) else gB (sub (k + 1) q) fun e l k' q' => gLp f lv sub n (gJ (lvO lv (f k)) c e) (gJm (lvO lv (f k)) m l) k' q'
/-- how many nots stand at k -/
def gNt (f : Nat → Nat) : Nat → Nat → Nat
  | 0, _ => 0
  | n + 1, k => if f k = 2011 then gNt f n (k + 1) + 1 else 0
/-- which word of a sum a token is (from 1) -/
def wdI (md : Bool) (x : Nat) : Nat := if md = true then (if 2022 ≤ x ∧ x ≤ 2025 then x - 2021 else 0) else (if 2014 ≤ x ∧ x ≤ 2022 then x - 2013 else 0)
def tnC (z : Nat) : GC := if z % 2 = 1 then [(2, 0)] else []
def tnM : Nat → GC
  | 0 => []
  | z + 1 => tnM z ++ [(28, 0)]
/-- modes: 0 a part, 1 what * / % join, 2 a sum, 3 a plain, 4 what and joins, 5 a test -/
noncomputable def gG (md : Bool) (f : Nat → Nat) : Nat → Nat → Nat → Nat → Nat → Option GT
  | 0, _, _, _, _ => none
  | F + 1, mode, k, q, b =>
    if mode = 0 then
      (if f k = 3091 ∧ b < 8 then gB (gG md f F 2 (k + 1) q (b + 1)) fun c m k' q' => if f k' = 3093 then some (.inr (c, m, k' + 1, q')) else some (.inl k')
      else if 50 ≤ q then some (.inl k)
      else if f k ≤ 1000 then some (.inr ([(0, f k)], [(0, f k)], k + 1, q + 1))
      else if wdI md (f k) ≠ 0 then some (.inr ([(1, wdI md (f k) - 1)], [wdO md (wdI md (f k) - 1)], k + 1, q + 1))
      else if md = true ∧ f k = 2020 then (if f (k + 1) < 8 then some (.inr ([(1, 4 + f (k + 1))], [wdO md (4 + f (k + 1))], k + 2, q + 1)) else some (.inl (k + 1)))
      else if md = true ∧ f k = 2021 then (if f (k + 1) < 4 then some (.inr ([(1, 12 + f (k + 1))], [wdO md (12 + f (k + 1))], k + 2, q + 1)) else some (.inl (k + 1)))
      else some (.inl k))
    else if mode = 3 then
      (if f (k + gNt f NT k) = 3040 then
        (if b < 8 then gB (gG md f F 5 (k + gNt f NT k + 1) q (b + 1)) fun c m k' q' => if f k' = 3041 then some (.inr (c ++ tnC (gNt f NT k), m ++ tnM (gNt f NT k), k' + 1, q')) else some (.inl k')
        else some (.inl (k + gNt f NT k)))
      else gB (gG md f F 2 (k + gNt f NT k) q b) fun c m k' q' => if sgO (f k') < 10 then some (.inl k') else gB (gG md f F 2 (k' + 1) q' b) fun e l k2 q2 => some (.inr (c ++ e ++ [(sgO (f k'), 0)] ++ tnC (gNt f NT k), m ++ l ++ [(sgO (f k') + 15, 0)] ++ tnM (gNt f NT k), k2, q2)))
    else gB (gG md f F (mode - 1) k q b) fun c m k' q' => gLp f mode (fun k q => gG md f F (mode - 1) k q b) NT c m k' q'
/-- sound codes -/
def OkC (c : GC) : Prop := ∀ x, x ∈ c → x.1 ≤ 12 ∧ x.2 ≤ 1000
def OkM (md : Bool) (m : GC) : Prop := ∀ x, x ∈ m → x.1 ≤ 30 ∧ x.2 ≤ 1000 ∧ (20 ≤ x.1 → x.2 ≤ 400) ∧ (x.1 < 20 → x.1 ≤ if md = true then 6 else 9)
/-- what is read from k to k' -/
def gR (md ts : Bool) (T k q : Nat) (c m : GC) (k' q' : Nat) : Prop := k < k' ∧ k' ≤ T ∧ q < q' ∧ q' ≤ 50 ∧ Tie md ts c m (q' - q) ∧ c.length ≤ k' - k ∧ m.length ≤ k' - k ∧ OkC c ∧ OkM md m
def gK (md ts : Bool) (T k q : Nat) (r : Option GT) : Prop := (∃ j, r = some (.inl j) ∧ k ≤ j ∧ j ≤ T) ∨ ∃ c m k' q', r = some (.inr (c, m, k', q')) ∧ gR md ts T k q c m k' q'
theorem OkC_ap {c e : GC} (h1 : OkC c) (h2 : OkC e) : OkC (c ++ e) := fun x hx => (List.mem_append.mp hx).elim (h1 x) (h2 x)
theorem OkM_ap {md : Bool} {c e : GC} (h1 : OkM md c) (h2 : OkM md e) : OkM md (c ++ e) := fun x hx => (List.mem_append.mp hx).elim (h1 x) (h2 x)
theorem OkC_1 {a b : Nat} (h1 : a ≤ 12) (h2 : b ≤ 1000) : OkC [(a, b)] := fun x hx => by rw [List.mem_singleton.mp hx]; exact ⟨h1, h2⟩
theorem OkM_1 {md : Bool} {a b : Nat} (h0 : 20 ≤ a) (h1 : a ≤ 30) (h2 : b ≤ 400) : OkM md [(a, b)] := fun x hx => by
  rw [List.mem_singleton.mp hx]
  exact ⟨h1, show b ≤ 1000 by omega, fun _ => h2, fun (z : a < 20) => absurd z (by omega)⟩
theorem sgO_le (x : Nat) : sgO x ≤ 12 ∧ (sgO x ≠ 0 → 5 ≤ sgO x ∧ 3037 ≤ x ∧ x ≤ 3062) := by
  generalize hy : sgO x = y
  unfold sgO at hy
  repeat' (split at hy)
  all_goals omega
theorem lvO_all (lv x : Nat) (h : lvO lv x ≠ 0) : ((lv = 1 ∨ lv = 2) → 5 ≤ lvO lv x ∧ lvO lv x ≤ 9 ∧ lvO lv x = sgO x) ∧ (¬ (lv = 1 ∨ lv = 2) → (lvO lv x = 3 ∨ lvO lv x = 4)) ∧ x ≠ 4000 := by
  have h2 := (sgO_le x).2
  generalize hy : lvO lv x = y at *
  unfold lvO at hy
  repeat' (split at hy)
  all_goals omega
theorem gNt_all (f : Nat → Nat) : ∀ n k, gNt f n k ≤ n ∧ (∀ j, j < gNt f n k → f (k + j) = 2011) ∧ (gNt f n k < n → f (k + gNt f n k) ≠ 2011) := by
  intro n
  induction n with
  | zero =>
    intro k
    exact ⟨Nat.le_refl 0, fun j hj => absurd hj (Nat.not_lt_zero j), fun h => absurd h (Nat.lt_irrefl 0)⟩
  | succ n ih =>
    intro k
    obtain ⟨h1, h2, h3⟩ := ih (k + 1)
    by_cases e : f k = 2011
    · have : gNt f (n + 1) k = gNt f n (k + 1) + 1 := if_pos e
      rw [this]
      refine ⟨by omega, fun j hj => ?_, fun h => ?_⟩
      · by_cases j0 : j = 0
        · rw [j0]
          exact e
        · have := h2 (j - 1) (by omega)
          rw [show k + 1 + (j - 1) = k + j by omega] at this
          exact this
      · have := h3 (by omega)
        rw [show k + 1 + gNt f n (k + 1) = k + (gNt f n (k + 1) + 1) by omega] at this
        exact this
    · have : gNt f (n + 1) k = 0 := if_neg e
      rw [this]
      exact ⟨Nat.zero_le _, fun j hj => absurd hj (Nat.not_lt_zero j), fun _ => e⟩
theorem tnM_len : ∀ z, (tnM z).length = z
  | 0 => rfl
  | z + 1 => by
    show (tnM z ++ [(28, 0)]).length = z + 1
    rw [List.length_append, tnM_len z]
    rfl
theorem Tie_tn {md : Bool} {c m : GC} {h : Nat} (h1 : Tie md true c m h) : ∀ z, Tie md true (c ++ tnC z) (m ++ tnM z) h
  | 0 => by
    show Tie md true (c ++ []) (m ++ []) h
    rw [List.append_nil, List.append_nil]
    exact h1
  | 1 => Tie_turn h1
  | z + 2 => by
    have h2 := Tie_turn2 (Tie_tn h1 z)
    have e : tnC (z + 2) = tnC z := by
      unfold tnC
      rw [show (z + 2) % 2 = z % 2 by omega]
    rw [e]
    show Tie md true _ (m ++ (tnM z ++ [(28, 0)] ++ [(28, 0)])) h
    rw [← List.append_assoc, ← List.append_assoc]
    exact h2
theorem tn_ok (md : Bool) : ∀ z, OkC (tnC z) ∧ OkM md (tnM z) ∧ (tnC z).length ≤ z := by
  intro z
  refine ⟨?_, ?_, ?_⟩
  · unfold tnC
    split
    · exact OkC_1 (by decide) (by decide)
    · exact fun x hx => by cases hx
  · induction z with
    | zero => exact fun x hx => by cases hx
    | succ z ih => exact OkM_ap ih (OkM_1 (by decide) (by decide) (by decide))
  · unfold tnC
    split
    · show 1 ≤ z
      omega
    · exact Nat.zero_le z
section GRA
variable {md : Bool} {f : Nat → Nat} {T : Nat}
theorem gLp_ok {ts : Bool} {lv : Nat} {sub : Nat → Nat → Option GT} (hT : T ≤ 400) (hE : ∀ k, f k ≠ 4000 → k < T) (hl : if ts = true then lv = 4 ∨ lv = 5 else lv = 1 ∨ lv = 2) (hs : ∀ k q, k ≤ T → q ≤ 50 → gK md ts T k q (sub k q)) {k0 q0 : Nat} : ∀ n c m k q, T < k + n → gR md ts T k0 q0 c m k q → gK md ts T k0 q0 (gLp f lv sub n c m k q) := by
  intro n
  induction n with
  | zero =>
    intro c m k q hn hr
    exact absurd hr.2.1 (by omega)
  | succ n ih =>
    intro c m k q hn hr
    obtain ⟨r1, r2, r3, r4, r5, r6, r7, r8, r9⟩ := hr
    unfold gLp
    by_cases h0 : lvO lv (f k) = 0
    · rw [if_pos h0]
      exact Or.inr ⟨c, m, k, q, rfl, r1, r2, r3, r4, r5, r6, r7, r8, r9⟩
    · rw [if_neg h0]
      obtain ⟨l1, l2, l3⟩ := lvO_all lv (f k) h0
      have hk := hE k l3
      rcases hs (k + 1) q (by omega) r4 with ⟨j, e, j1, j2⟩ | ⟨e, l, k', q', er, s1, s2, s3, s4, s5, s6, s7, s8, s9⟩
      · rw [e]
        exact Or.inl ⟨j, rfl, by omega, j2⟩
      · rw [er]
        show gK md ts T k0 q0 (gLp f lv sub n (gJ (lvO lv (f k)) c e) (gJm (lvO lv (f k)) m l) k' q')
        apply ih _ _ _ _ (by omega)
        have hq : q' - q0 = q - q0 + (q' - q) := by omega
        refine ⟨by omega, s2, by omega, s4, ?_⟩
        rw [hq]
        cases ts with
        | true =>
          have hl : lv = 4 ∨ lv = 5 := hl
          have h34 := l2 (by omega)
          have e1 : gJ (lvO lv (f k)) c e = c ++ [(lvO lv (f k), e.length)] ++ e := if_pos h34
          have e2 : gJm (lvO lv (f k)) m l = m ++ [(33 - lvO lv (f k), l.length)] ++ l := if_pos h34
          rw [e1, e2, List.length_append, List.length_append, List.length_append, List.length_append, List.length_singleton, List.length_singleton]
          exact ⟨Tie_skip r5 s5 h34, by omega, by omega, OkC_ap (OkC_ap r8 (OkC_1 (by omega) (by omega))) s8, OkM_ap (OkM_ap r9 (OkM_1 (by omega) (by omega) (by omega))) s9⟩
        | false =>
          have hl : lv = 1 ∨ lv = 2 := hl
          obtain ⟨h5, h9, -⟩ := l1 hl
          have e1 : gJ (lvO lv (f k)) c e = c ++ e ++ [(lvO lv (f k), 0)] := if_neg (by omega)
          have e2 : gJm (lvO lv (f k)) m l = m ++ l ++ [(lvO lv (f k) + 15, 0)] := if_neg (by omega)
          rw [e1, e2, List.length_append, List.length_append, List.length_append, List.length_append, List.length_singleton, List.length_singleton]
          have tj := Tie_join r5 s5 h5 (show lvO lv (f k) ≤ 12 by omega)
          rw [decide_eq_false (show ¬ 10 ≤ lvO lv (f k) by omega)] at tj
          exact ⟨tj, by omega, by omega, OkC_ap (OkC_ap r8 s8) (OkC_1 (by omega) (by omega)), OkM_ap (OkM_ap r9 s9) (OkM_1 (by omega) (by omega) (by omega))⟩
theorem gK_B {ts tu : Bool} {k k2 q q2 : Nat} {r : Option GT} {h : GC → GC → Nat → Nat → Option GT} (hr : gK md tu T k2 q2 r) (hk : k ≤ k2) (hh : ∀ c m k' q', gR md tu T k2 q2 c m k' q' → gK md ts T k q (h c m k' q')) : gK md ts T k q (gB r h) := by
  rcases hr with ⟨j, e, j1, j2⟩ | ⟨c, m, k', q', e, hr⟩
  · rw [e]
    exact Or.inl ⟨j, rfl, by omega, j2⟩
  · rw [e]
    exact hh c m k' q' hr
theorem gG_ok (hT : T ≤ 400) (hE : ∀ k, f k ≠ 4000 → k < T) : ∀ F mode k q b, k ≤ T → q ≤ 50 → b ≤ 8 → mode ≤ 5 → 6 * (8 - b) + mode < F → gK md (decide (3 ≤ mode)) T k q (gG md f F mode k q b) := by
  intro F
  induction F with
  | zero =>
    intro mode k q b _ _ _ _ h
    exact absurd h (Nat.not_lt_zero _)
  | succ F ih =>
    intro mode k q b hk hq hb hm hF
    have lt : ∀ {j x}, f j = x → x ≠ 4000 → j < T := fun e h => hE _ (by rw [e]; exact h)
    unfold gG
    by_cases m0 : mode = 0
    · rw [if_pos m0, m0]
      have okw : ∀ i, i < (if md = true then 16 else 9) → Tie md false [(1, i)] [wdO md i] 1 ∧ OkC [(1, i)] ∧ OkM md [wdO md i] := by
        intro i hi
        obtain ⟨w1, w2, w3⟩ := wdO_lt hi
        have : (if md = true then 16 else 9) ≤ 16 := by split <;> decide
        refine ⟨Tie_word hi, OkC_1 (by decide) (by omega), fun x hx => ?_⟩
        rw [List.mem_singleton.mp hx]
        exact ⟨by omega, w3, fun z => absurd z (by omega), fun _ => w2⟩
      by_cases h1 : f k = 3091 ∧ b < 8
      · rw [if_pos h1]
        have hk' := lt h1.1 (by decide)
        refine gK_B (ih 2 (k + 1) q (b + 1) (by omega) hq (by omega) (by decide) (by omega)) (by omega) (fun c m k' q' hr => ?_)
        obtain ⟨r1, r2, r3, r4, r5, r6, r7, r8, r9⟩ := hr
        by_cases h2 : f k' = 3093
        · rw [if_pos h2]
          have := lt h2 (by decide)
          exact Or.inr ⟨c, m, k' + 1, q', rfl, by omega, by omega, r3, r4, r5, by omega, by omega, r8, r9⟩
        · rw [if_neg h2]
          exact Or.inl ⟨k', rfl, by omega, r2⟩
      · rw [if_neg h1]
        by_cases h2 : 50 ≤ q
        · rw [if_pos h2]
          exact Or.inl ⟨k, rfl, Nat.le_refl k, hk⟩
        · rw [if_neg h2]
          have q1 : q + 1 - q = 1 := by omega
          by_cases h3 : f k ≤ 1000
          · rw [if_pos h3]
            have := lt (j := k) rfl (by omega)
            refine Or.inr ⟨_, _, _, _, rfl, by omega, by omega, by omega, by omega, by rw [q1]; exact Tie_num h3, by show 1 ≤ _; omega, by show 1 ≤ _; omega, OkC_1 (by decide) h3, fun x hx => ?_⟩
            rw [List.mem_singleton.mp hx]
            exact ⟨Nat.zero_le _, h3, fun (z : 20 ≤ 0) => absurd z (by decide), fun _ => Nat.zero_le _⟩
          · rw [if_neg h3]
            by_cases h4 : wdI md (f k) ≠ 0
            · rw [if_pos h4]
              have hx : f k ≠ 4000 ∧ wdI md (f k) - 1 < (if md = true then 16 else 9) := by
                revert h4
                unfold wdI
                cases md
                · show (if 2014 ≤ f k ∧ f k ≤ 2022 then f k - 2013 else 0) ≠ 0 → f k ≠ 4000 ∧ (if 2014 ≤ f k ∧ f k ≤ 2022 then f k - 2013 else 0) - 1 < 9
                  split <;> omega
                · show (if 2022 ≤ f k ∧ f k ≤ 2025 then f k - 2021 else 0) ≠ 0 → f k ≠ 4000 ∧ (if 2022 ≤ f k ∧ f k ≤ 2025 then f k - 2021 else 0) - 1 < 16
                  split <;> omega
              have := lt (j := k) rfl hx.1
              obtain ⟨w1, w2, w3⟩ := okw _ hx.2
              exact Or.inr ⟨_, _, _, _, rfl, by omega, by omega, by omega, by omega, by rw [q1]; exact w1, by show 1 ≤ _; omega, by show 1 ≤ _; omega, w2, w3⟩
            · rw [if_neg h4]
              by_cases h5 : md = true ∧ f k = 2020
              · rw [if_pos h5]
                have := lt h5.2 (by decide)
                by_cases h6 : f (k + 1) < 8
                · rw [if_pos h6]
                  have := lt (j := k + 1) rfl (by omega)
                  obtain ⟨w1, w2, w3⟩ := okw (4 + f (k + 1)) (by rw [if_pos h5.1]; omega)
                  exact Or.inr ⟨_, _, _, _, rfl, by omega, by omega, by omega, by omega, by rw [q1]; exact w1, by show 1 ≤ _; omega, by show 1 ≤ _; omega, w2, w3⟩
                · rw [if_neg h6]
                  exact Or.inl ⟨k + 1, rfl, by omega, by omega⟩
              · rw [if_neg h5]
                by_cases h7 : md = true ∧ f k = 2021
                · rw [if_pos h7]
                  have := lt h7.2 (by decide)
                  by_cases h6 : f (k + 1) < 4
                  · rw [if_pos h6]
                    have := lt (j := k + 1) rfl (by omega)
                    obtain ⟨w1, w2, w3⟩ := okw (12 + f (k + 1)) (by rw [if_pos h7.1]; omega)
                    exact Or.inr ⟨_, _, _, _, rfl, by omega, by omega, by omega, by omega, by rw [q1]; exact w1, by show 1 ≤ _; omega, by show 1 ≤ _; omega, w2, w3⟩
                  · rw [if_neg h6]
                    exact Or.inl ⟨k + 1, rfl, by omega, by omega⟩
                · rw [if_neg h7]
                  exact Or.inl ⟨k, rfl, Nat.le_refl k, hk⟩
    · rw [if_neg m0]
      by_cases m3 : mode = 3
      · rw [if_pos m3, m3]
        obtain ⟨n1, n2, -⟩ := gNt_all f NT k
        have nT : k + gNt f NT k ≤ T := by
          rcases Nat.eq_zero_or_pos (gNt f NT k) with z | z
          · omega
          · have := lt (n2 (gNt f NT k - 1) (by omega)) (by decide)
            omega
        obtain ⟨t1, t2, t3⟩ := tn_ok md (gNt f NT k)
        have t4 := tnM_len (gNt f NT k)
        generalize gNt f NT k = z at *
        by_cases h1 : f (k + z) = 3040
        · rw [if_pos h1]
          have := lt h1 (by decide)
          by_cases h2 : b < 8
          · rw [if_pos h2]
            refine gK_B (ih 5 (k + z + 1) q (b + 1) (by omega) hq (by omega) (by decide) (by omega)) (by omega) (fun c m k' q' hr => ?_)
            obtain ⟨r1, r2, r3, r4, r5, r6, r7, r8, r9⟩ := hr
            by_cases h2 : f k' = 3041
            · rw [if_pos h2]
              have := lt h2 (by decide)
              refine Or.inr ⟨_, _, _, _, rfl, by omega, by omega, r3, r4, Tie_tn r5 z, ?_, ?_, OkC_ap r8 t1, OkM_ap r9 t2⟩
              · rw [List.length_append]
                omega
              · rw [List.length_append]
                omega
            · rw [if_neg h2]
              exact Or.inl ⟨k', rfl, by omega, r2⟩
          · rw [if_neg h2]
            exact Or.inl ⟨k + z, rfl, by omega, nT⟩
        · rw [if_neg h1]
          refine gK_B (ih 2 (k + z) q b nT hq hb (by decide) (by omega)) (by omega) (fun c m k' q' hr => ?_)
          obtain ⟨r1, r2, r3, r4, r5, r6, r7, r8, r9⟩ := hr
          by_cases h2 : sgO (f k') < 10
          · rw [if_pos h2]
            exact Or.inl ⟨k', rfl, by omega, r2⟩
          · rw [if_neg h2]
            have sl := sgO_le (f k')
            have := hE k' (by have := sl.2 (by omega); omega)
            refine gK_B (k := k) (ih 2 (k' + 1) q' b (by omega) r4 hb (by decide) (by omega)) (by omega) (fun e l k2 q2 hr => ?_)
            obtain ⟨s1, s2, s3, s4, s5, s6, s7, s8, s9⟩ := hr
            have tj := Tie_join r5 s5 (show 5 ≤ sgO (f k') by omega) sl.1
            rw [decide_eq_true (show 10 ≤ sgO (f k') by omega), show q' - q + (q2 - q') = q2 - q by omega] at tj
            refine Or.inr ⟨_, _, _, _, rfl, by omega, s2, by omega, s4, Tie_tn tj z, ?_, ?_, OkC_ap (OkC_ap (OkC_ap r8 s8) (OkC_1 sl.1 (by decide))) t1, OkM_ap (OkM_ap (OkM_ap r9 s9) (OkM_1 (by omega) (by omega) (by decide))) t2⟩
            · rw [List.length_append, List.length_append, List.length_append, List.length_singleton]
              omega
            · rw [List.length_append, List.length_append, List.length_append, List.length_singleton]
              omega
      · rw [if_neg m3]
        have dm : decide (3 ≤ mode - 1) = decide (3 ≤ mode) := by
          by_cases h : 3 ≤ mode
          · rw [decide_eq_true h, decide_eq_true (by omega)]
          · rw [decide_eq_false h, decide_eq_false (by omega)]
        refine gK_B (tu := decide (3 ≤ mode)) (by rw [← dm]; exact ih (mode - 1) k q b hk hq hb (by omega) (by omega)) (Nat.le_refl k) (fun c m k' q' hr => ?_)
        refine gLp_ok hT hE ?_ (fun k q h1 h2 => by rw [← dm]; exact ih (mode - 1) k q b h1 h2 hb (by omega) (by omega)) NT c m k' q' (by unfold NT; omega) hr
        by_cases h : 3 ≤ mode
        · rw [if_pos (decide_eq_true h)]
          omega
        · rw [if_neg (by rw [decide_eq_false h]; decide)]
          omega
end GRA
