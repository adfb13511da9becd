/-! beds for those who are out: rows of choices, and the table -/
section CHO
variable {V D : Nat} {bar : Nat → Nat → Bool} {ot : Nat → Bool} {wi : Nat → Nat → Nat} {x y : Nat → Nat}
def gnW (wi : Nat → Nat → Nat) (d v : Nat) : Nat := 1000 + wi d v
/-- how many are out from d on -/
def rnF (ot : Nat → Bool) : Nat → Nat → Nat
  | 0, _ => 0
  | k + 1, d => (if ot d = true then 1 else 0) + rnF ot k (d + 1)
/-- a row of choices that can be: a vault, or 5 for none -/
def fe (V : Nat) (bar : Nat → Nat → Bool) (ot : Nat → Bool) (x : Nat → Nat) : Nat → Nat → Nat → Prop
  | 0, _, _ => True
  | k + 1, d, f => if ot d = true then (x d = 5 ∧ fe V bar ot x k (d + 1) f) ∨ (x d < V ∧ bar d (x d) = false ∧ blF f (x d) ≠ 0 ∧ fe V bar ot x k (d + 1) (f - 4 ^ x d)) else fe V bar ot x k (d + 1) f
def gL (V : Nat) (ot : Nat → Bool) (x : Nat → Nat) : Nat → Nat → Nat
  | 0, _ => 0
  | k + 1, d => (if ot d = true ∧ x d < V then 1 else 0) + gL V ot x k (d + 1)
def gW (V : Nat) (ot : Nat → Bool) (wi : Nat → Nat → Nat) (x : Nat → Nat) : Nat → Nat → Nat
  | 0, _ => 0
  | k + 1, d => (if ot d = true ∧ x d < V then wi d (x d) else 0) + gW V ot wi x k (d + 1)
def nN (ot : Nat → Bool) (x : Nat → Nat) : Nat → Nat → Nat
  | 0, _ => 0
  | k + 1, d => (if ot d = true then x d * 6 ^ rnF ot k (d + 1) else 0) + nN ot x k (d + 1)
theorem rnF_s (k d : Nat) : rnF ot (k + 1) d = (if ot d = true then 1 else 0) + rnF ot k (d + 1) := rfl
theorem gL_s (k d : Nat) : gL V ot x (k + 1) d = (if ot d = true ∧ x d < V then 1 else 0) + gL V ot x k (d + 1) := rfl
theorem gW_s (k d : Nat) : gW V ot wi x (k + 1) d = (if ot d = true ∧ x d < V then wi d (x d) else 0) + gW V ot wi x k (d + 1) := rfl
theorem nN_s (k d : Nat) : nN ot x (k + 1) d = (if ot d = true then x d * 6 ^ rnF ot k (d + 1) else 0) + nN ot x k (d + 1) := rfl
theorem rnF_le : ∀ (k d : Nat), rnF ot k d ≤ k
  | 0, _ => Nat.le_refl 0
  | k + 1, d => by
    have := rnF_le k (d + 1)
    rw [rnF_s]
    split <;> omega
theorem nN_lt (h5 : V ≤ 5) : ∀ (k d f : Nat), fe V bar ot x k d f → nN ot x k d < 6 ^ rnF ot k d
  | 0, _, _, _ => by
    show 0 < 6 ^ 0
    decide
  | k + 1, d, f, h => by
    unfold fe at h
    rw [nN_s, rnF_s]
    by_cases e : ot d = true
    · rw [if_pos e] at h
      rw [if_pos e, if_pos e, Nat.add_comm 1, Nat.pow_succ]
      have hx : x d ≤ 5 := by
        rcases h with ⟨h1, -⟩ | ⟨h1, -⟩ <;> omega
      have ih : nN ot x k (d + 1) < 6 ^ rnF ot k (d + 1) := by
        rcases h with ⟨-, h1⟩ | ⟨-, -, -, h1⟩
        · exact nN_lt h5 k (d + 1) _ h1
        · exact nN_lt h5 k (d + 1) _ h1
      have := Nat.mul_le_mul_right (6 ^ rnF ot k (d + 1)) hx
      omega
    · rw [if_neg e] at h
      rw [if_neg e, if_neg e, Nat.zero_add, Nat.zero_add]
      exact nN_lt h5 k (d + 1) _ h
theorem gW_le (hw : ∀ d v, wi d v ≤ 9) : ∀ (k d : Nat), gW V ot wi x k d ≤ 9 * k
  | 0, _ => Nat.le_refl 0
  | k + 1, d => by
    have := gW_le hw k (d + 1)
    have := hw d (x d)
    rw [gW_s]
    split <;> omega
theorem mxO_ge {a b : Option Nat} : (∀ z, a = some z → ∃ m, mxO a b = some m ∧ z ≤ m) ∧ (∀ z, b = some z → ∃ m, mxO a b = some m ∧ z ≤ m) := by
  cases a with
  | none => exact ⟨fun z h => by (cases h), fun z h => ⟨z, h, Nat.le_refl z⟩⟩
  | some p =>
    cases b with
    | none => exact ⟨fun z h => ⟨z, h, Nat.le_refl z⟩, fun z h => by (cases h)⟩
    | some q =>
      have e : mxO (some p) (some q) = if q ≤ p then some p else some q := rfl
      rw [e]
      by_cases h : q ≤ p
      · rw [if_pos h]
        exact ⟨fun z hz => ⟨p, rfl, by cases hz; omega⟩, fun z hz => ⟨p, rfl, by cases hz; omega⟩⟩
      · rw [if_neg h]
        exact ⟨fun z hz => ⟨q, rfl, by cases hz; omega⟩, fun z hz => ⟨q, rfl, by cases hz; omega⟩⟩
theorem mxV_ge {b : Nat → Option Nat} {s : Option Nat} : ∀ {V : Nat}, (∀ z, s = some z → ∃ m, mxV b s V = some m ∧ z ≤ m) ∧ (∀ v z, v < V → b v = some z → ∃ m, mxV b s V = some m ∧ z ≤ m)
  | 0 => ⟨fun z h => ⟨z, h, Nat.le_refl z⟩, fun v z hv => absurd hv (Nat.not_lt_zero v)⟩
  | V + 1 => by
    obtain ⟨i1, i2⟩ := mxV_ge (b := b) (s := s) (V := V)
    have e : mxV b s (V + 1) = mxO (mxV b s V) (b V) := rfl
    obtain ⟨g1, g2⟩ := mxO_ge (a := mxV b s V) (b := b V)
    rw [e]
    refine ⟨fun z hz => ?_, fun v z hv hz => ?_⟩
    · obtain ⟨m, h1, h2⟩ := i1 z hz
      obtain ⟨m', h3, h4⟩ := g1 m h1
      exact ⟨m', h3, by omega⟩
    · by_cases ev : v = V
      · subst ev
        exact g2 z hz
      · obtain ⟨m, h1, h2⟩ := i2 v z (by omega) hz
        obtain ⟨m', h3, h4⟩ := g1 m h1
        exact ⟨m', h3, by omega⟩
/-- and it is one of them -/
theorem mxV_is {b : Nat → Option Nat} {s : Option Nat} : ∀ {V : Nat}, mxV b s V = s ∨ ∃ v, v < V ∧ mxV b s V = b v ∧ b v ≠ none
  | 0 => Or.inl rfl
  | V + 1 => by
    have ih := mxV_is (b := b) (s := s) (V := V)
    have e : mxV b s (V + 1) = mxO (mxV b s V) (b V) := rfl
    have k : mxO (mxV b s V) (b V) = mxV b s V ∨ (mxO (mxV b s V) (b V) = b V ∧ b V ≠ none) := by
      cases h1 : mxV b s V with
      | none =>
        cases h2 : b V with
        | none => exact Or.inl rfl
        | some q => exact Or.inr ⟨rfl, by simp⟩
      | some p =>
        cases h2 : b V with
        | none => exact Or.inl rfl
        | some q =>
          have e2 : mxO (some p) (some q) = if q ≤ p then some p else some q := rfl
          rw [e2]
          by_cases h : q ≤ p
          · rw [if_pos h]
            exact Or.inl rfl
          · rw [if_neg h]
            exact Or.inr ⟨rfl, by simp⟩
    rw [e]
    rcases k with k | ⟨k1, k2⟩
    · rw [k]
      rcases ih with ih | ⟨v, h1, h2, h3⟩
      · exact Or.inl ih
      · exact Or.inr ⟨v, by omega, h2, h3⟩
    · exact Or.inr ⟨V, by omega, k1, k2⟩
/-- the table with prices of a thousand -/
abbrev btW (V : Nat) (bar : Nat → Nat → Bool) (ot : Nat → Bool) (wi : Nat → Nat → Nat) : Nat → Nat → Nat → Option Nat := btF V bar ot (gnW wi) false
theorem btW_s (k d f : Nat) : btW V bar ot wi (k + 1) d f = if ot d = true then mxV (bnF (btW V bar ot wi k (d + 1)) (bar d) (gnW wi d) f) (btW V bar ot wi k (d + 1) f) V else btW V bar ot wi k (d + 1) f := rfl
theorem bnF_y {nx : Nat → Option Nat} {br : Nat → Bool} {gn : Nat → Nat} {f v z : Nat} (h1 : br v = false) (h2 : blF f v ≠ 0) (h3 : nx (f - 4 ^ v) = some z) : bnF nx br gn f v = some (z + gn v) := by
  unfold bnF
  rw [h1, decide_eq_false h2, Bool.or_false, if_neg (by decide), h3]
  rfl
/-- no row of choices is worth more than the table says -/
theorem cho_le (h5 : V ≤ 5) : ∀ (k d f : Nat), fe V bar ot x k d f → ∃ b, btW V bar ot wi k d f = some b ∧ 1000 * gL V ot x k d + gW V ot wi x k d ≤ b
  | 0, _, _, _ => ⟨0, rfl, Nat.le_refl 0⟩
  | k + 1, d, f, h => by
    unfold fe at h
    rw [btW_s, gL_s, gW_s]
    by_cases e : ot d = true
    · rw [if_pos e] at h ⊢
      obtain ⟨m1, m2⟩ := mxV_ge (b := bnF (btW V bar ot wi k (d + 1)) (bar d) (gnW wi d) f) (s := btW V bar ot wi k (d + 1) f) (V := V)
      by_cases hx : x d < V
      · rw [if_pos ⟨e, hx⟩, if_pos ⟨e, hx⟩]
        rcases h with ⟨h1, h2⟩ | ⟨-, h2, h3, h4⟩
        · omega
        · obtain ⟨b, b1, b2⟩ := cho_le h5 k (d + 1) _ h4
          obtain ⟨m, m3, m4⟩ := m2 (x d) _ hx (bnF_y (gn := gnW wi d) h2 h3 b1)
          refine ⟨m, m3, ?_⟩
          unfold gnW at m4
          omega
      · rw [if_neg (fun z => hx z.2), if_neg (fun z => hx z.2), Nat.zero_add, Nat.zero_add]
        rcases h with ⟨h1, h2⟩ | ⟨h2, -⟩
        · obtain ⟨b, b1, b2⟩ := cho_le h5 k (d + 1) f h2
          obtain ⟨m, m3, m4⟩ := m1 b b1
          exact ⟨m, m3, by omega⟩
        · exact absurd h2 hx
    · rw [if_neg e] at h ⊢
      rw [if_neg (fun z => e z.1), if_neg (fun z => e z.1), Nat.zero_add, Nat.zero_add]
      exact cho_le h5 k (d + 1) f h
theorem btW_y : ∀ (k d f : Nat), ∃ b, btW V bar ot wi k d f = some b
  | 0, _, _ => ⟨0, rfl⟩
  | k + 1, d, f => by
    obtain ⟨b, hb⟩ := btW_y k (d + 1) f
    rw [btW_s]
    by_cases e : ot d = true
    · rw [if_pos e]
      obtain ⟨m, h1, -⟩ := (mxV_ge (b := bnF (btW V bar ot wi k (d + 1)) (bar d) (gnW wi d) f) (s := btW V bar ot wi k (d + 1) f) (V := V)).1 b hb
      exact ⟨m, h1⟩
    · rw [if_neg e]
      exact ⟨b, hb⟩
/-- the first of whom it holds -/
def fsV (p : Nat → Bool) : Nat → Option Nat
  | 0 => none
  | V + 1 => match fsV p V with
    | some v => some v
    | none => if p V = true then some V else none
theorem fsV_all (p : Nat → Bool) : ∀ V, (∀ v, fsV p V = some v → v < V ∧ p v = true ∧ ∀ u, u < v → p u = false) ∧ (fsV p V = none → ∀ u, u < V → p u = false)
  | 0 => ⟨fun v h => by (cases h), fun _ u hu => absurd hu (Nat.not_lt_zero u)⟩
  | V + 1 => by
    obtain ⟨i1, i2⟩ := fsV_all p V
    cases h : fsV p V with
    | some q =>
      have e : fsV p (V + 1) = some q := by
        show (match fsV p V with | some v => some v | none => _) = _
        rw [h]
      rw [e]
      refine ⟨fun v hv => ?_, fun hv => by cases hv⟩
      cases hv
      obtain ⟨j1, j2, j3⟩ := i1 q h
      exact ⟨by omega, j2, j3⟩
    | none =>
      have e : fsV p (V + 1) = if p V = true then some V else none := by
        show (match fsV p V with | some v => some v | none => _) = _
        rw [h]
      rw [e]
      have i2 := i2 h
      by_cases hp : p V = true
      · rw [if_pos hp]
        refine ⟨fun v hv => ?_, fun hv => by cases hv⟩
        cases hv
        exact ⟨by omega, hp, i2⟩
      · rw [if_neg hp]
        refine ⟨fun v hv => (by cases hv), fun _ u hu => ?_⟩
        by_cases eu : u = V
        · subst eu
          exact Bool.eq_false_iff.mpr hp
        · exact i2 u (by omega)
/-- the reference's choice -/
def yC (V : Nat) (bar : Nat → Nat → Bool) (ot : Nat → Bool) (wi : Nat → Nat → Nat) (k d f : Nat) : Nat := (fsV (fun v => decide (bnF (btW V bar ot wi k (d + 1)) (bar d) (gnW wi d) f v = btW V bar ot wi (k + 1) d f)) V).getD 5
theorem yC_spec {k d f : Nat} (e : ot d = true) : (yC V bar ot wi k d f < V ∧ bar d (yC V bar ot wi k d f) = false ∧ blF f (yC V bar ot wi k d f) ≠ 0 ∧ (∃ z, btW V bar ot wi k (d + 1) (f - 4 ^ yC V bar ot wi k d f) = some z ∧ btW V bar ot wi (k + 1) d f = some (z + (1000 + wi d (yC V bar ot wi k d f)))) ∧ ∀ u, u < yC V bar ot wi k d f → bnF (btW V bar ot wi k (d + 1)) (bar d) (gnW wi d) f u ≠ btW V bar ot wi (k + 1) d f) ∨ (yC V bar ot wi k d f = 5 ∧ btW V bar ot wi (k + 1) d f = btW V bar ot wi k (d + 1) f ∧ ∀ u, u < V → bnF (btW V bar ot wi k (d + 1)) (bar d) (gnW wi d) f u ≠ btW V bar ot wi (k + 1) d f) := by
  obtain ⟨b, hb⟩ := btW_y (V := V) (bar := bar) (ot := ot) (wi := wi) (k + 1) d f
  obtain ⟨f1, f2⟩ := fsV_all (fun v => decide (bnF (btW V bar ot wi k (d + 1)) (bar d) (gnW wi d) f v = btW V bar ot wi (k + 1) d f)) V
  unfold yC
  cases h : fsV (fun v => decide (bnF (btW V bar ot wi k (d + 1)) (bar d) (gnW wi d) f v = btW V bar ot wi (k + 1) d f)) V with
  | some v =>
    left
    obtain ⟨g1, g2, g3⟩ := f1 v h
    show v < V ∧ bar d v = false ∧ blF f v ≠ 0 ∧ _ ∧ _
    have g2 := of_decide_eq_true g2
    have nn : bnF (btW V bar ot wi k (d + 1)) (bar d) (gnW wi d) f v ≠ none := by rw [g2, hb]; simp
    obtain ⟨n1, n2, n3⟩ := bnF_n.mp nn
    obtain ⟨z, hz⟩ := btW_y (V := V) (bar := bar) (ot := ot) (wi := wi) k (d + 1) (f - 4 ^ v)
    refine ⟨g1, n1, n2, ⟨z, hz, ?_⟩, fun u hu => of_decide_eq_false (g3 u hu)⟩
    rw [← g2, bnF_y n1 n2 hz]
    rfl
  | none =>
    right
    have f2 := f2 h
    refine ⟨rfl, ?_, fun u hu => of_decide_eq_false (f2 u hu)⟩
    have es := btW_s (V := V) (bar := bar) (ot := ot) (wi := wi) k d f
    rw [if_pos e] at es
    rcases mxV_is (b := bnF (btW V bar ot wi k (d + 1)) (bar d) (gnW wi d) f) (s := btW V bar ot wi k (d + 1) f) (V := V) with m | ⟨v, h1, h2, -⟩
    · rw [es, m]
    · exact absurd (by rw [es, h2]) (of_decide_eq_false (f2 v h1))
/-- the beds that are left, and the row of choices -/
def yst (V : Nat) (bar : Nat → Nat → Bool) (ot : Nat → Bool) (wi : Nat → Nat → Nat) (D f0 : Nat) : Nat → Nat
  | 0 => f0
  | d + 1 => if ot d = true ∧ yC V bar ot wi (D - (d + 1)) d (yst V bar ot wi D f0 d) < V then yst V bar ot wi D f0 d - 4 ^ yC V bar ot wi (D - (d + 1)) d (yst V bar ot wi D f0 d) else yst V bar ot wi D f0 d
def yv (V : Nat) (bar : Nat → Nat → Bool) (ot : Nat → Bool) (wi : Nat → Nat → Nat) (D f0 : Nat) (d : Nat) : Nat := if ot d = true then yC V bar ot wi (D - (d + 1)) d (yst V bar ot wi D f0 d) else 5
theorem yst_s (f0 d : Nat) : yst V bar ot wi D f0 (d + 1) = if ot d = true ∧ yC V bar ot wi (D - (d + 1)) d (yst V bar ot wi D f0 d) < V then yst V bar ot wi D f0 d - 4 ^ yC V bar ot wi (D - (d + 1)) d (yst V bar ot wi D f0 d) else yst V bar ot wi D f0 d := rfl
/-- the reference's row is the best, and of the best the first -/
theorem cho_best (h5 : V ≤ 5) (f0 : Nat) : ∀ (k d : Nat), d + k = D → fe V bar ot (yv V bar ot wi D f0) k d (yst V bar ot wi D f0 d) ∧ ∃ b, btW V bar ot wi k d (yst V bar ot wi D f0 d) = some b ∧ 1000 * gL V ot (yv V bar ot wi D f0) k d + gW V ot wi (yv V bar ot wi D f0) k d = b ∧ ∀ x, fe V bar ot x k d (yst V bar ot wi D f0 d) → 1000 * gL V ot x k d + gW V ot wi x k d = b → nN ot (yv V bar ot wi D f0) k d ≤ nN ot x k d ∧ (nN ot x k d = nN ot (yv V bar ot wi D f0) k d → ∀ i, d ≤ i → i < d + k → ot i = true → x i = yv V bar ot wi D f0 i)
  | 0, d, _ => ⟨trivial, 0, rfl, rfl, fun x _ _ => ⟨Nat.le_refl _, fun _ i h1 h2 => by omega⟩⟩
  | k + 1, d, hd => by
    obtain ⟨i1, b', i2, i3, i4⟩ := cho_best h5 f0 k (d + 1) (by omega)
    have ek : D - (d + 1) = k := by omega
    have es := yst_s (V := V) (bar := bar) (ot := ot) (wi := wi) (D := D) f0 d
    rw [ek] at es
    by_cases e : ot d = true
    · have ev : yv V bar ot wi D f0 d = yC V bar ot wi k d (yst V bar ot wi D f0 d) := by
        unfold yv
        rw [if_pos e, ek]
      have sp := yC_spec (V := V) (bar := bar) (wi := wi) (k := k) (f := yst V bar ot wi D f0 d) e
      have bs := btW_s (V := V) (bar := bar) (ot := ot) (wi := wi) k d (yst V bar ot wi D f0 d)
      rw [if_pos e] at bs
      have mg := (mxV_ge (b := bnF (btW V bar ot wi k (d + 1)) (bar d) (gnW wi d) (yst V bar ot wi D f0 d)) (s := btW V bar ot wi k (d + 1) (yst V bar ot wi D f0 d)) (V := V)).2
      rw [← bs] at mg
      generalize hf : yst V bar ot wi D f0 d = f at *
      generalize hc : yC V bar ot wi k d f = c at *
      -- what an optimal row chooses here is a best choice
      have opt : ∀ x b, btW V bar ot wi (k + 1) d f = some b → x d < V → bar d (x d) = false → blF f (x d) ≠ 0 → fe V bar ot x k (d + 1) (f - 4 ^ x d) → 1000 + wi d (x d) + (1000 * gL V ot x k (d + 1) + gW V ot wi x k (d + 1)) = b → bnF (btW V bar ot wi k (d + 1)) (bar d) (gnW wi d) f (x d) = btW V bar ot wi (k + 1) d f := by
        intro x b hb h1 h2 h3 h4 h6
        obtain ⟨b2, q1, q2⟩ := cho_le (wi := wi) h5 k (d + 1) _ h4
        have q3 := bnF_y (gn := gnW wi d) h2 h3 q1
        obtain ⟨m, q4, q5⟩ := mg (x d) _ h1 q3
        rw [hb] at q4
        cases q4
        rw [q3, hb]
        unfold gnW at q5 ⊢
        congr 1
        omega
      rcases sp with ⟨c1, c2, c3, ⟨z, c4, c5⟩, c6⟩ | ⟨c1, c2, c3⟩
      · rw [if_pos ⟨e, c1⟩] at es
        rw [es] at i1 i2 i4
        rw [i2] at c4
        cases c4
        refine ⟨?_, _, c5, ?_, fun x hx hv => ?_⟩
        · unfold fe
          rw [if_pos e, ev]
          exact Or.inr ⟨c1, c2, c3, i1⟩
        · rw [gL_s, gW_s, if_pos ⟨e, by rw [ev]; exact c1⟩, if_pos ⟨e, by rw [ev]; exact c1⟩, ev]
          omega
        · unfold fe at hx
          rw [if_pos e] at hx
          have ny : nN ot (yv V bar ot wi D f0) k (d + 1) < 6 ^ rnF ot k (d + 1) := nN_lt h5 k (d + 1) _ i1
          rw [nN_s, nN_s, if_pos e, if_pos e, ev]
          rw [gL_s, gW_s] at hv
          have big : c < x d → c * 6 ^ rnF ot k (d + 1) + nN ot (yv V bar ot wi D f0) k (d + 1) < x d * 6 ^ rnF ot k (d + 1) + nN ot x k (d + 1) := by
            intro hlt
            have := Nat.mul_le_mul_right (6 ^ rnF ot k (d + 1)) (show c + 1 ≤ x d from hlt)
            rw [Nat.add_mul, Nat.one_mul] at this
            omega
          rcases hx with ⟨h1, h2⟩ | ⟨h1, h2, h3, h4⟩
          · have := big (by omega)
            exact ⟨by omega, fun z => by omega⟩
          · rw [if_pos ⟨e, h1⟩, if_pos ⟨e, h1⟩] at hv
            have o := opt x _ c5 h1 h2 h3 h4 (by omega)
            have ge : ¬ x d < c := fun z => c6 (x d) z o
            by_cases eq : x d = c
            · rw [eq] at h4 hv ⊢
              obtain ⟨j1, j2⟩ := i4 x h4 (by omega)
              refine ⟨by omega, fun z i hi1 hi2 hi3 => ?_⟩
              by_cases ei : i = d
              · rw [ei, eq, ev]
              · exact j2 (by omega) i (by omega) (by omega) hi3
            · have := big (by omega)
              exact ⟨by omega, fun z => by omega⟩
      · have nlt : ¬ c < V := by omega
        rw [if_neg (fun z => nlt z.2)] at es
        rw [es] at i1 i2 i4
        rw [i2] at c2
        refine ⟨?_, _, c2, ?_, fun x hx hv => ?_⟩
        · unfold fe
          rw [if_pos e, ev]
          exact Or.inl ⟨c1, i1⟩
        · rw [gL_s, gW_s, if_neg (fun z => nlt (by rw [← ev]; exact z.2)), if_neg (fun z => nlt (by rw [← ev]; exact z.2))]
          omega
        · unfold fe at hx
          rw [if_pos e] at hx
          rw [nN_s, nN_s, if_pos e, if_pos e, ev]
          rw [gL_s, gW_s] at hv
          rcases hx with ⟨h1, h2⟩ | ⟨h1, h2, h3, h4⟩
          · rw [if_neg (by omega), if_neg (by omega)] at hv
            obtain ⟨j1, j2⟩ := i4 x h2 (by omega)
            rw [h1, c1]
            refine ⟨by omega, fun z i hi1 hi2 hi3 => ?_⟩
            by_cases ei : i = d
            · rw [ei, h1, ev, c1]
            · exact j2 (by omega) i (by omega) (by omega) hi3
          · rw [if_pos ⟨e, h1⟩, if_pos ⟨e, h1⟩] at hv
            exact absurd (opt x _ c2 h1 h2 h3 h4 (by omega)) (c3 (x d) h1)
    · rw [if_neg (fun z => e z.1)] at es
      rw [es] at i1 i2 i4
      refine ⟨?_, b', ?_, ?_, fun x hx hv => ?_⟩
      · unfold fe
        rw [if_neg e]
        exact i1
      · rw [btW_s, if_neg e]
        exact i2
      · rw [gL_s, gW_s, if_neg (fun z => e z.1), if_neg (fun z => e z.1)]
        omega
      · unfold fe at hx
        rw [if_neg e] at hx
        rw [gL_s, gW_s, if_neg (fun z => e z.1), if_neg (fun z => e z.1)] at hv
        rw [nN_s, nN_s, if_neg e, if_neg e]
        obtain ⟨j1, j2⟩ := i4 x hx (by omega)
        refine ⟨by omega, fun z i hi1 hi2 hi3 => ?_⟩
        by_cases ei : i = d
        · rw [ei] at hi3
          exact absurd hi3 e
        · exact j2 (by omega) i (by omega) (by omega) hi3
/-- what a row of choices costs -/
def cTt (V : Nat) (ot : Nat → Bool) (wi : Nat → Nat → Nat) (x : Nat → Nat) : Nat → Nat → Int
  | 0, _ => 0
  | k + 1, d => (if ot d = true then ((x d * 6 ^ rnF ot k (d + 1) : Nat) : Int) - (if x d < V then 268435456 + 2097152 * (wi d (x d) : Int) else 0) else 0) + cTt V ot wi x k (d + 1)
theorem cTt_s (k d : Nat) : cTt V ot wi x (k + 1) d = (if ot d = true then ((x d * 6 ^ rnF ot k (d + 1) : Nat) : Int) - (if x d < V then 268435456 + 2097152 * (wi d (x d) : Int) else 0) else 0) + cTt V ot wi x k (d + 1) := rfl
theorem cTt_eq : ∀ (k d : Nat), cTt V ot wi x k d = (nN ot x k d : Int) - 268435456 * (gL V ot x k d : Int) - 2097152 * (gW V ot wi x k d : Int)
  | 0, _ => rfl
  | k + 1, d => by
    have ih := cTt_eq k (d + 1)
    rw [cTt_s, nN_s, gL_s, gW_s, ih]
    by_cases e : ot d = true
    · rw [if_pos e, if_pos e]
      generalize x d * 6 ^ rnF ot k (d + 1) = q
      by_cases h : x d < V
      · rw [if_pos h, if_pos ⟨e, h⟩, if_pos ⟨e, h⟩]
        omega
      · rw [if_neg h, if_neg (fun z => h z.2), if_neg (fun z => h z.2)]
        omega
    · rw [if_neg e, if_neg e, if_neg (fun z => e z.1), if_neg (fun z => e z.1)]
      omega
/-- the reference's row costs least, and no other so little -/
theorem cho_min (h5 : V ≤ 5) (h8 : D ≤ 8) (hw : ∀ d v, wi d v ≤ 9) (f0 : Nat) (hx : fe V bar ot x D 0 f0) : cTt V ot wi (yv V bar ot wi D f0) D 0 ≤ cTt V ot wi x D 0 ∧ (cTt V ot wi x D 0 ≤ cTt V ot wi (yv V bar ot wi D f0) D 0 → ∀ i, i < D → ot i = true → x i = yv V bar ot wi D f0 i) := by
  obtain ⟨i1, b, i2, i3, i4⟩ := cho_best (V := V) (bar := bar) (ot := ot) (wi := wi) (D := D) h5 f0 D 0 (by omega)
  obtain ⟨b2, j1, j2⟩ := cho_le (wi := wi) h5 D 0 f0 hx
  have e0 : yst V bar ot wi D f0 0 = f0 := rfl
  rw [e0] at i1 i2 i4
  rw [i2] at j1
  cases j1
  have n1 := nN_lt h5 D 0 f0 i1
  have n2 := nN_lt h5 D 0 f0 hx
  have r8 : 6 ^ rnF ot D 0 ≤ 6 ^ 8 := Nat.pow_le_pow_right (by decide) (Nat.le_trans (rnF_le D 0) h8)
  have e8 : (6 : Nat) ^ 8 = 1679616 := by decide
  have w1 := gW_le (V := V) (ot := ot) (x := x) hw D 0
  have w2 := gW_le (V := V) (ot := ot) (x := yv V bar ot wi D f0) hw D 0
  have i4 := i4 x hx
  rw [cTt_eq, cTt_eq]
  generalize 6 ^ rnF ot D 0 = P at *
  generalize nN ot x D 0 = nx at *
  generalize nN ot (yv V bar ot wi D f0) D 0 = ny at *
  generalize gL V ot x D 0 = lx at *
  generalize gL V ot (yv V bar ot wi D f0) D 0 = ly at *
  generalize gW V ot wi x D 0 = wx at *
  generalize gW V ot wi (yv V bar ot wi D f0) D 0 = wy at *
  by_cases h : 1000 * lx + wx = b
  · obtain ⟨k1, k2⟩ := i4 h
    have q1 : lx = ly := by omega
    have q2 : wx = wy := by omega
    exact ⟨by omega, fun z i hi ho => k2 (by omega) i (by omega) (by omega) ho⟩
  · exact ⟨by omega, fun z => by omega⟩
end CHO
