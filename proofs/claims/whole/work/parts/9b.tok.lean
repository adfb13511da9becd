/-! tokens -/
/-- the sort of a sign: blank, letter, digit, other -/
def so (c : Nat) : Nat := if c = 32 then 0 else if 97 ≤ c ∧ c ≤ 122 then 1 else if 48 ≤ c ∧ c ≤ 57 then 2 else 3
theorem so_le (c : Nat) : so c ≤ 3 := by
  unfold so
  split
  · omega
  · split
    · omega
    · split <;> omega
theorem so_1 {c : Nat} : so c = 1 ↔ 97 ≤ c ∧ c ≤ 122 := by
  unfold so
  split
  · omega
  · split
    · omega
    · split <;> omega
theorem so_2 {c : Nat} : so c = 2 ↔ 48 ≤ c ∧ c ≤ 57 := by
  unfold so
  split
  · omega
  · split
    · omega
    · split <;> omega
theorem so_0 {c : Nat} : so c = 0 ↔ c = 32 := by
  unfold so
  split
  · omega
  · split
    · omega
    · split <;> omega
section TK
variable {b : Nat → Nat} {t : Nat}
/-- a token begins there -/
def tsB (b : Nat → Nat) (t i : Nat) : Bool := decide (i < t) && (decide (so (b i) ≠ 0) && (decide (so (b i) = 3) || (decide (i = 0) || decide (so (b i) ≠ so (b (i - 1))))))
theorem tsB_iff {i : Nat} : tsB b t i = true ↔ i < t ∧ so (b i) ≠ 0 ∧ (so (b i) = 3 ∨ i = 0 ∨ so (b i) ≠ so (b (i - 1))) := by
  unfold tsB
  rw [Bool.and_eq_true, Bool.and_eq_true, Bool.or_eq_true, Bool.or_eq_true, decide_eq_true_iff, decide_eq_true_iff, decide_eq_true_iff, decide_eq_true_iff, decide_eq_true_iff]
/-- first place from p on, within k, of which it holds -/
def fiF (p : Nat → Bool) : Nat → Nat → Nat
  | 0, i => i
  | k + 1, i => if p i = true then i else fiF p k (i + 1)
theorem fiF_all (p : Nat → Bool) : ∀ (k i : Nat), i ≤ fiF p k i ∧ fiF p k i ≤ i + k ∧ (∀ j, i ≤ j → j < fiF p k i → p j = false) ∧ (fiF p k i < i + k → p (fiF p k i) = true)
  | 0, i => ⟨Nat.le_refl i, Nat.le_refl i, fun j h1 h2 => by have : fiF p 0 i = i := rfl; omega, fun h => by have : fiF p 0 i = i := rfl; omega⟩
  | k + 1, i => by
    obtain ⟨h1, h2, h3, h4⟩ := fiF_all p k (i + 1)
    have e : fiF p (k + 1) i = if p i = true then i else fiF p k (i + 1) := rfl
    rw [e]
    by_cases h : p i = true
    · rw [if_pos h]
      exact ⟨Nat.le_refl i, by omega, fun j j1 j2 => by omega, fun _ => h⟩
    · rw [if_neg h]
      refine ⟨by omega, by omega, fun j j1 j2 => ?_, fun z => h4 (by omega)⟩
      by_cases ej : j = i
      · rw [ej]
        exact Bool.eq_false_iff.mpr h
      · exact h3 j (by omega) j2
/-- it is the only such place -/
theorem fiF_eq {p : Nat → Bool} {k i e : Nat} (h1 : i ≤ e) (h2 : e ≤ i + k) (h3 : ∀ j, i ≤ j → j < e → p j = false) (h4 : e < i + k → p e = true) : fiF p k i = e := by
  obtain ⟨g1, g2, g3, g4⟩ := fiF_all p k i
  rcases Nat.lt_trichotomy (fiF p k i) e with lt | eq | gt
  · have := h3 _ g1 lt
    rw [g4 (by omega)] at this
    cases this
  · exact eq
  · have := g3 e h1 gt
    rw [h4 (by omega)] at this
    cases this
/-- the next token from p on -/
def ntF (b : Nat → Nat) (t p : Nat) : Nat := fiF (tsB b t) (t - p) p
/-- the k-th token's place -/
def plN (b : Nat → Nat) (t : Nat) : Nat → Nat
  | 0 => ntF b t 0
  | k + 1 => if plN b t k < t then ntF b t (plN b t k + 1) else t
theorem ntF_le {p : Nat} (h : p ≤ t) : ntF b t p ≤ t := by
  have := (fiF_all (tsB b t) (t - p) p).2.1
  unfold ntF
  omega
theorem plN_le : ∀ k, plN b t k ≤ t
  | 0 => ntF_le (Nat.zero_le t)
  | k + 1 => by
    show (if plN b t k < t then ntF b t (plN b t k + 1) else t) ≤ t
    split
    · rename_i h
      exact ntF_le (by omega)
    · exact Nat.le_refl t
theorem ntF_ts {p : Nat} (h : p < t) : ntF b t p = if tsB b t p = true then p else ntF b t (p + 1) := by
  unfold ntF
  obtain ⟨k, hk⟩ : ∃ k, t - p = k + 1 := ⟨t - p - 1, by omega⟩
  rw [hk, show t - (p + 1) = k by omega]
  rfl
theorem ntF_t : ntF b t t = t := by
  unfold ntF
  rw [Nat.sub_self]
  rfl
/-- so many tokens begin before i; then comes the next from i on -/
theorem plN_ct : ∀ i, i ≤ t → plN b t (ctF (tsB b t) i) = ntF b t i
  | 0, _ => rfl
  | i + 1, h => by
    have ih := plN_ct i (by omega)
    have e : ctF (tsB b t) (i + 1) = ctF (tsB b t) i + (if tsB b t i = true then 1 else 0) := rfl
    have nt := ntF_ts (b := b) (t := t) (p := i) (by omega)
    rw [e]
    by_cases hs : tsB b t i = true
    · rw [if_pos hs] at nt ⊢
      rw [nt] at ih
      show (if plN b t (ctF (tsB b t) i) < t then ntF b t (plN b t (ctF (tsB b t) i) + 1) else t) = _
      rw [ih, if_pos (by omega)]
    · rw [if_neg hs] at nt ⊢
      rw [Nat.add_zero, ih, nt]
/-- so many tokens -/
def tkN (b : Nat → Nat) (t : Nat) : Nat := ctF (tsB b t) t
theorem plN_tk : plN b t (tkN b t) = t := by
  unfold tkN
  rw [plN_ct t (Nat.le_refl t), ntF_t]
theorem plN_ts {k : Nat} (h : plN b t k < t) : tsB b t (plN b t k) = true := by
  have key : ∀ p, p ≤ t → ntF b t p < t → tsB b t (ntF b t p) = true := by
    intro p hp hl
    exact (fiF_all (tsB b t) (t - p) p).2.2.2 (by unfold ntF at hl; omega)
  cases k with
  | zero => exact key 0 (Nat.zero_le t) h
  | succ k =>
    have e : plN b t (k + 1) = if plN b t k < t then ntF b t (plN b t k + 1) else t := rfl
    rw [e] at h ⊢
    by_cases hk : plN b t k < t
    · rw [if_pos hk] at h ⊢
      exact key _ (by omega) h
    · rw [if_neg hk] at h
      omega
/-- the k-th token begins before the end iff there are so many -/
theorem plN_lt : ∀ k, plN b t k < t ↔ k < tkN b t := by
  have mono : ∀ i, i ≤ t → ∀ k, k < ctF (tsB b t) i → plN b t k < i := by
    intro i
    induction i with
    | zero =>
      intro _ k hk
      exact absurd hk (Nat.not_lt_zero k)
    | succ i ih =>
      intro hi k hk
      have e : ctF (tsB b t) (i + 1) = ctF (tsB b t) i + (if tsB b t i = true then 1 else 0) := rfl
      rw [e] at hk
      by_cases hs : tsB b t i = true
      · rw [if_pos hs] at hk
        by_cases ek : k = ctF (tsB b t) i
        · rw [ek, plN_ct i (by omega), ntF_ts (by omega), if_pos hs]
          omega
        · have := ih (by omega) k (by omega)
          omega
      · rw [if_neg hs] at hk
        have := ih (by omega) k (by omega)
        omega
  have ge : ∀ j, plN b t (tkN b t + j) = t := by
    intro j
    induction j with
    | zero => exact plN_tk
    | succ j ih =>
      show (if plN b t (tkN b t + j) < t then _ else t) = t
      rw [ih, if_neg (by omega)]
  intro k
  constructor
  · intro h
    apply Nat.lt_of_not_le
    intro hk
    have := ge (k - tkN b t)
    rw [show tkN b t + (k - tkN b t) = k by omega] at this
    omega
  · intro h
    exact mono t (Nat.le_refl t) k h
theorem plN_ge {k : Nat} (h : tkN b t ≤ k) : plN b t k = t := by
  have := plN_le (b := b) (t := t) k
  have h2 := plN_lt (b := b) (t := t) k
  omega
theorem tkN_le : tkN b t ≤ t := ctF_le _ _
/-- a run's end: the first from i on of another sort -/
def ruN (b : Nat → Nat) (t s i : Nat) : Nat := fiF (fun j => decide (so (b j) ≠ s)) (t - i) i
/-- blanks' end -/
def skN (b : Nat → Nat) (t i : Nat) : Nat := ruN b t 0 i
/-- a token's end -/
def enN (b : Nat → Nat) (t q : Nat) : Nat := if so (b q) = 3 then q + 1 else ruN b t (so (b q)) q
theorem ruN_all {s i : Nat} (h : i ≤ t) : i ≤ ruN b t s i ∧ ruN b t s i ≤ t ∧ (∀ j, i ≤ j → j < ruN b t s i → so (b j) = s) ∧ (ruN b t s i < t → so (b (ruN b t s i)) ≠ s) := by
  obtain ⟨h1, h2, h3, h4⟩ := fiF_all (fun j => decide (so (b j) ≠ s)) (t - i) i
  unfold ruN
  refine ⟨h1, by omega, fun j j1 j2 => ?_, fun z => of_decide_eq_true (h4 (by omega))⟩
  have := of_decide_eq_false (h3 j j1 j2)
  exact Classical.byContradiction (fun z => this z)
/-- the end of a token, blanks behind it: there the next begins -/
theorem sk_nt {q : Nat} (hq : tsB b t q = true) : enN b t q ≤ t ∧ q < enN b t q ∧ skN b t (enN b t q) = ntF b t (q + 1) := by
  obtain ⟨q1, q2, q3⟩ := tsB_iff.mp hq
  have en : enN b t q ≤ t ∧ q < enN b t q ∧ (∀ j, q < j → j < enN b t q → so (b j) = so (b q) ∧ so (b q) ≠ 3) ∧ (enN b t q < t → so (b (enN b t q)) = 3 ∨ so (b (enN b t q)) ≠ so (b (enN b t q - 1))) := by
    unfold enN
    by_cases h3 : so (b q) = 3
    · rw [if_pos h3]
      refine ⟨by omega, by omega, fun j j1 j2 => by omega, fun z => ?_⟩
      rw [Nat.add_sub_cancel, h3]
      by_cases e : so (b (q + 1)) = 3
      · exact Or.inl e
      · exact Or.inr e
    · rw [if_neg h3]
      obtain ⟨r1, r2, r3, r4⟩ := ruN_all (b := b) (t := t) (s := so (b q)) (i := q) (by omega)
      have lt : q < ruN b t (so (b q)) q := by
        rcases Nat.lt_or_eq_of_le r1 with z | z
        · exact z
        · have := r4 (by omega)
          rw [← z] at this
          exact absurd rfl this
      refine ⟨r2, lt, fun j j1 j2 => ⟨r3 j (by omega) j2, h3⟩, fun z => Or.inr ?_⟩
      rw [r3 (ruN b t (so (b q)) q - 1) (by omega) (by omega)]
      exact r4 z
  obtain ⟨e1, e2, e3, e4⟩ := en
  refine ⟨e1, e2, ?_⟩
  obtain ⟨r1, r2, r3, r4⟩ := ruN_all (b := b) (t := t) (s := 0) (i := enN b t q) e1
  symm
  refine fiF_eq (show q + 1 ≤ skN b t (enN b t q) by unfold skN; omega) (by unfold skN; omega) (fun j j1 j2 => ?_) (fun z => ?_)
  · rw [Bool.eq_false_iff]
    intro hts
    obtain ⟨t1, t2, t3⟩ := tsB_iff.mp hts
    by_cases hj : j < enN b t q
    · obtain ⟨y1, y2⟩ := e3 j (by omega) hj
      rcases t3 with z | z | z
      · rw [y1] at z
        exact y2 z
      · omega
      · apply z
        by_cases e : j = q + 1
        · rw [y1, e]
          rfl
        · rw [y1, (e3 (j - 1) (by omega) (by omega)).1]
    · exact t2 (r3 j (by omega) j2)
  · have lt : skN b t (enN b t q) < t := by unfold skN at z ⊢; omega
    have n0 := r4 lt
    refine tsB_iff.mpr ⟨lt, n0, ?_⟩
    by_cases e : skN b t (enN b t q) = enN b t q
    · rw [e] at lt ⊢
      rcases e4 lt with y | y
      · exact Or.inl y
      · exact Or.inr (Or.inr y)
    · right
      right
      have := r3 (skN b t (enN b t q) - 1) (by unfold skN at e ⊢; omega) (by unfold skN at e ⊢; omega)
      rw [this]
      exact n0
theorem sk_0 : skN b t 0 = ntF b t 0 := by
  obtain ⟨r1, r2, r3, r4⟩ := ruN_all (b := b) (t := t) (s := 0) (i := 0) (Nat.zero_le t)
  symm
  refine fiF_eq (Nat.zero_le _) (by unfold skN; omega) (fun j j1 j2 => ?_) (fun z => ?_)
  · rw [Bool.eq_false_iff]
    intro hts
    exact (tsB_iff.mp hts).2.1 (r3 j j1 j2)
  · have lt : skN b t 0 < t := by omega
    have n0 := r4 lt
    refine tsB_iff.mpr ⟨lt, n0, ?_⟩
    by_cases e : skN b t 0 = 0
    · exact Or.inr (Or.inl e)
    · have := r3 (skN b t 0 - 1) (Nat.zero_le _) (by unfold skN at e ⊢; omega)
      right
      right
      rw [this]
      exact n0
/-- a number: the class's way and the reference's -/
def nmC (b : Nat → Nat) (i : Nat) : Nat → Nat
  | 0 => 0
  | k + 1 => min 1001 (nmC b i k * 10 + (b (i + k) - 48))
def nmW (b : Nat → Nat) (i : Nat) : Nat → Nat
  | 0 => 0
  | k + 1 => if 1000000 < nmW b i k then nmW b i k else nmW b i k * 10 + (b (i + k) - 48)
theorem nm_rel (i : Nat) : ∀ k, (nmW b i k ≤ 1000 ∧ nmC b i k = nmW b i k) ∨ (1000 < nmW b i k ∧ nmC b i k = 1001)
  | 0 => Or.inl ⟨Nat.zero_le _, rfl⟩
  | k + 1 => by
    have ec : nmC b i (k + 1) = min 1001 (nmC b i k * 10 + (b (i + k) - 48)) := rfl
    have ew : nmW b i (k + 1) = if 1000000 < nmW b i k then nmW b i k else nmW b i k * 10 + (b (i + k) - 48) := rfl
    rw [ec, ew]
    rcases nm_rel i k with ⟨h1, h2⟩ | ⟨h1, h2⟩
    · rw [h2, if_neg (by omega)]
      omega
    · rw [h2]
      split <;> omega
theorem nmW_le (hb : ∀ k, b k ≤ 255) (i : Nat) : ∀ k, nmW b i k ≤ 20000000
  | 0 => Nat.zero_le _
  | k + 1 => by
    have ih := nmW_le hb i k
    have := hb (i + k)
    show (if 1000000 < nmW b i k then nmW b i k else nmW b i k * 10 + (b (i + k) - 48)) ≤ _
    split <;> omega
/-- a word, in the reference's way -/
def enW (b : Nat → Nat) (i : Nat) : Nat → Int
  | 0 => 0
  | k + 1 => if k < 10 then enW b i k * 32 + ((b (i + k) : Int) - 96) else -1
/-- the words -/
def WDS : List (List Nat) := [[112, 114, 105, 99, 101, 115], [108, 97, 115, 116, 115], [101, 97, 114, 110, 115], [98, 97, 114, 115], [114, 101, 110, 101, 119], [108, 111, 100, 103, 101], [107, 110, 111, 99, 107], [112, 97, 115, 115], [105, 102], [111, 114], [97, 110, 100], [110, 111, 116], [105, 110], [116, 105, 109, 101, 115], [100, 101, 97, 100], [102, 97, 109, 105, 108, 121], [118, 97, 117, 108, 116], [98, 101, 100, 115], [102, 114, 101, 101], [109, 111, 111, 100], [116, 101, 114, 109], [109, 101, 97, 110, 115], [121, 101, 97, 114], [100, 111, 110, 101], [108, 97, 116, 101, 115, 116], [105, 110, 115, 105, 100, 101]]
def wdL (w : Nat) : List Nat := WDS.getD w []
def encL (l : List Nat) : Nat := l.foldl (fun x c => x * 32 + (c - 96)) 0
theorem wd_len : ∀ w, w < 26 → 2 ≤ (wdL w).length ∧ (wdL w).length ≤ 6 := by decide
theorem wd_ltr : ∀ w, w < 26 → ∀ k, k < (wdL w).length → 97 ≤ (wdL w).getD k 0 ∧ (wdL w).getD k 0 ≤ 122 := by decide
theorem wd_inj : ∀ w, w < 26 → ∀ v, v < 26 → wdL w = wdL v → w = v := by decide
/-- the run at i is the word w -/
def isW (b : Nat → Nat) (i L w : Nat) : Prop := L = (wdL w).length ∧ ∀ k, k < L → b (i + k) = (wdL w).getD k 0
theorem isW_inj {i L w v : Nat} (hw : w < 26) (hv : v < 26) (h1 : isW b i L w) (h2 : isW b i L v) : w = v := by
  apply wd_inj w hw v hv
  apply List.ext_getElem
  · rw [← h1.1, ← h2.1]
  · intro k k1 k2
    have e1 := h1.2 k (by rw [h1.1]; exact k1)
    have e2 := h2.2 k (by rw [h2.1]; exact k2)
    rw [List.getD_eq_getElem?_getD, List.getElem?_eq_getElem k1, Option.getD_some] at e1
    rw [List.getD_eq_getElem?_getD, List.getElem?_eq_getElem k2, Option.getD_some] at e2
    rw [← e1, e2]
theorem encL_snoc (l : List Nat) (c : Nat) : encL (l ++ [c]) = encL l * 32 + (c - 96) := by
  unfold encL
  rw [List.foldl_append]
  rfl
theorem encL_pos {l : List Nat} (h : ∀ c ∈ l, 97 ≤ c ∧ c ≤ 122) (hn : l ≠ []) : 1 ≤ encL l := by
  obtain ⟨l', c, rfl⟩ : ∃ l' c, l = l' ++ [c] := ⟨l.dropLast, l.getLast hn, (List.dropLast_concat_getLast hn).symm⟩
  have := h c (by simp)
  rw [encL_snoc]
  omega
/-- two words of one number are one -/
theorem enc_inj {i : Nat} : ∀ (L : Nat) (l : List Nat), L ≤ 10 → (∀ c ∈ l, 97 ≤ c ∧ c ≤ 122) → (∀ k, k < L → 97 ≤ b (i + k) ∧ b (i + k) ≤ 122) → (enW b i L = (encL l : Int) ↔ L = l.length ∧ ∀ k, k < L → b (i + k) = l.getD k 0)
  | 0, l, _, hl, _ => by
    constructor
    · intro h
      have h0 : encL l = 0 := by
        have : enW b i 0 = 0 := rfl
        omega
      have : l = [] := by
        apply Classical.byContradiction
        intro hn
        have := encL_pos hl hn
        omega
      subst this
      exact ⟨rfl, fun k hk => absurd hk (Nat.not_lt_zero k)⟩
    · intro ⟨h, _⟩
      have : l = [] := List.eq_nil_of_length_eq_zero h.symm
      subst this
      rfl
  | L + 1, l, hL, hl, hb => by
    have e : enW b i (L + 1) = enW b i L * 32 + ((b (i + L) : Int) - 96) := by
      show (if L < 10 then _ else _) = _
      rw [if_pos (by omega)]
    have bL := hb L (by omega)
    have nn : ∀ L, L ≤ 10 → (∀ k, k < L → 97 ≤ b (i + k) ∧ b (i + k) ≤ 122) → 0 ≤ enW b i L := by
      intro L
      induction L with
      | zero =>
        intro _ _
        exact Int.le_refl 0
      | succ L ih =>
        intro hL hb
        have := ih (by omega) (fun k hk => hb k (by omega))
        have := hb L (by omega)
        show 0 ≤ (if L < 10 then enW b i L * 32 + ((b (i + L) : Int) - 96) else -1)
        rw [if_pos (by omega)]
        omega
    have n0 := nn L (by omega) (fun k hk => hb k (by omega))
    by_cases hn : l = []
    · subst hn
      constructor
      · intro h
        have : encL [] = 0 := rfl
        omega
      · intro ⟨h, _⟩
        cases h
    · obtain ⟨l', c, rfl⟩ : ∃ l' c, l = l' ++ [c] := ⟨l.dropLast, l.getLast hn, (List.dropLast_concat_getLast hn).symm⟩
      have hc := hl c (by simp)
      have ih := enc_inj L l' (by omega) (fun q hq => hl q (by simp [hq])) (fun k hk => hb k (by omega))
      rw [e, encL_snoc, List.length_append, List.length_singleton]
      constructor
      · intro h
        have h1 : enW b i L = (encL l' : Int) := by omega
        have h2 : b (i + L) = c := by omega
        obtain ⟨i1, i2⟩ := ih.mp h1
        refine ⟨by omega, fun k hk => ?_⟩
        by_cases ek : k = L
        · rw [ek, h2, i1]
          simp
        · rw [i2 k (by omega)]
          rw [List.getD_eq_getElem?_getD, List.getD_eq_getElem?_getD, List.getElem?_append_left (by omega)]
      · intro ⟨h1, h2⟩
        have hLl : L = l'.length := by omega
        have i1 := ih.mpr ⟨hLl, fun k hk => by
          have := h2 k (by omega)
          rw [List.getD_eq_getElem?_getD, List.getElem?_append_left (by omega)] at this
          rw [this, List.getD_eq_getElem?_getD]⟩
        have i2 := h2 L (by omega)
        rw [hLl] at i2
        simp at i2
        rw [← hLl] at i2
        omega
end TK
