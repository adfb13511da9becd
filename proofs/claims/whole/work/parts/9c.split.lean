/-! the class's tokens -/
def rlL (b : Nat → Nat) (i L : Nat) : List Nat := (List.range L).map (fun k => b (i + k))
def wdX (b : Nat → Nat) (i L : Nat) : Nat := (fsV (fun w => decide (rlL b i L = wdL w)) 26).getD 26
/-- what the token at q means -/
def mnT (b : Nat → Nat) (t q : Nat) : Nat := if q < t then (if so (b q) = 1 then 2000 + wdX b q (ruN b t 1 q - q) else if so (b q) = 2 then nmC b q (ruN b t 2 q - q) else 3000 + b q) else 4000
section SPL
variable {b : Nat → Nat} {t : Nat}
theorem rlL_iff {i L w : Nat} : rlL b i L = wdL w ↔ isW b i L w := by
  unfold rlL isW
  constructor
  · intro h
    have hl : L = (wdL w).length := by rw [← h]; simp
    refine ⟨hl, fun k hk => ?_⟩
    rw [← h]
    simp [List.getD_eq_getElem?_getD, hk]
  · intro ⟨h1, h2⟩
    apply List.ext_getElem
    · simp [h1]
    · intro k k1 k2
      have := h2 k (by rw [h1]; exact k2)
      rw [List.getD_eq_getElem?_getD, List.getElem?_eq_getElem k2, Option.getD_some] at this
      simp [this]
theorem wdX_iff {i L w : Nat} (hw : w < 26) : wdX b i L = w ↔ isW b i L w := by
  obtain ⟨f1, f2⟩ := fsV_all (fun w => decide (rlL b i L = wdL w)) 26
  unfold wdX
  cases h : fsV (fun w => decide (rlL b i L = wdL w)) 26 with
  | some v =>
    obtain ⟨g1, g2, -⟩ := f1 v h
    have iv := rlL_iff.mp (of_decide_eq_true g2)
    show v = w ↔ _
    exact ⟨fun e => by rw [← e]; exact iv, fun z => isW_inj g1 hw iv z⟩
  | none =>
    show 26 = w ↔ _
    refine ⟨fun e => by omega, fun z => ?_⟩
    have := of_decide_eq_false (f2 h w hw)
    exact absurd (rlL_iff.mpr z) this
theorem wdX_le (i L : Nat) : wdX b i L ≤ 26 := by
  obtain ⟨f1, f2⟩ := fsV_all (fun w => decide (rlL b i L = wdL w)) 26
  unfold wdX
  cases h : fsV (fun w => decide (rlL b i L = wdL w)) 26 with
  | some v =>
    have := (f1 v h).1
    show v ≤ 26
    omega
  | none => exact Nat.le_refl 26
theorem nmC_le (i : Nat) : ∀ k, nmC b i k ≤ 1001
  | 0 => Nat.zero_le _
  | k + 1 => Nat.min_le_left _ _
theorem mnT_le (hb : ∀ k, b k ≤ 255) (q : Nat) : mnT b t q ≤ 4000 := by
  have := wdX_le (b := b) q (ruN b t 1 q - q)
  have := nmC_le (b := b) q (ruN b t 2 q - q)
  have := hb q
  unfold mnT
  split
  · split
    · omega
    · split <;> omega
  · omega
end SPL
theorem chs_all : ∀ w, w < 26 → ∀ k, k < 6 → chA (nI (w * 6 + k)) = some (nI (if k < (wdL w).length then (wdL w).getD k 0 else 32)) := by decide +kernel
theorem so_all : ∀ c, c < 256 → (if nI c = nI 32 then nI 0 else if nI c < nI 97 then (if nI c < nI 48 then nI 3 else (if nI 57 < nI c then nI 3 else nI 2)) else if nI 122 < nI c then (if nI c < nI 48 then nI 3 else (if nI 57 < nI c then nI 3 else nI 2)) else nI 1) = nI (so c) := by decide +kernel
section SPH
variable {O : mO} {d u n : Nat} {T : Nat → mT} {I : Nat → Nat → Int32} {J : Nat → Nat → Int64} {R : Nat → Nat → Option Nat} {b : Nat → Nat} {t i w : Nat} {K : mH}
theorem c_sort {c : Nat} (h : c < 256) : ev O (d + 1) MX6_sortOf [.int (nI c)] K = some (some (.int (nI (so c))), K) := by
  refine e_X6_sortOf ?_
  have e := so_all c h
  unfold F_X6_sortOf F_X6_sortOf_j22
  rw [← e]
  by_cases h1 : nI c = nI 32
  · rw [if_pos h1, if_pos h1]
  · rw [if_neg h1, if_neg h1]
    by_cases h2 : nI c < nI 97
    · rw [if_pos h2, if_pos h2]
    · rw [if_neg h2, if_neg h2]
      by_cases h3 : nI 122 < nI c
      · rw [if_pos h3, if_pos h3]
      · rw [if_neg h3, if_neg h3]
theorem c_spells (hS : St n T R) (hb : ∀ k, b k ≤ 255) (ht : t ≤ 400) (hT : ∀ k, k < t → I 23 k &&& 255 = nI (b k)) (hw : w < 26) (hi : i < t) : ev O (d + 2) MX6_spells [.int (nI w), .ref 23, .int (nI i), .int (nI t)] (hp u n T I J R) = some (some (.int (bI (decide (rlL b i (ruN b t 1 i - i) = wdL w)))), hp u n T I J R) := by
  obtain ⟨r1, r2, r3, r4⟩ := ruN_all (b := b) (t := t) (s := 1) (i := i) (by omega)
  obtain ⟨wl1, wl2⟩ := wd_len w hw
  have LL : ∃ z, lupF (fun (q : Int32) => F_X6_spells_l3 O (d + 1) (nI w) 23 (nI i) (nI t) (hp u n T I J R) q) FU (nI 0) = some z ∧ (fun z => z = .inr (bI (decide (rlL b i (ruN b t 1 i - i) = wdL w)), hp u n T I J R)) z := by
    refine lup_P0 (fun k z => z = nI k ∧ ∀ j, j < k → j < (wdL w).length ∧ i + j < t ∧ b (i + j) = (wdL w).getD j 0) _ (N := 7) (by decide) ⟨rfl, fun j hj => absurd hj (Nat.not_lt_zero j)⟩ ?_ ?_
    · intro k z hk ⟨hz, mt⟩
      subst hz
      have kl : k ≤ (wdL w).length := by
        apply Nat.le_of_not_lt
        intro z
        have := (mt (k - 1) (by omega)).1
        omega
      -- the sign that stands there, and the one that is due
      have top : ∀ z, F_X6_spells_j33 O (d + 1) (nI w) 23 (nI i) (nI t) (nI k) (nI (if i + k < t then b (i + k) else 32)) (hp u n T I J R) = z → F_X6_spells_l3 O (d + 1) (nI w) 23 (nI i) (nI t) (hp u n T I J R) (nI k) = z := by
        intro z hz
        unfold F_X6_spells_l3
        rw [if_neg (fun z => absurd ((nI_ltI (by omega) (by omega)).mp z) (by omega)), nI_add]
        by_cases h : i + k < t
        · rw [if_pos h] at hz
          rw [if_neg (nI_ge h (by omega)), rd_23 hS (by omega), Option.bind_some, show (nI 255 : Int32) = 255 from rfl, hT _ h]
          exact hz
        · rw [if_neg h] at hz
          rw [if_pos (nI_le (by omega) (by omega))]
          exact hz
      have top2 : ∀ z, F_X6_spells_j59 O (d + 1) (nI w) 23 (nI i) (nI t) (nI k) (nI (if i + k < t then b (i + k) else 32)) (nI (if k < (wdL w).length then (wdL w).getD k 0 else 32)) (hp u n T I J R) = z → F_X6_spells_l3 O (d + 1) (nI w) 23 (nI i) (nI t) (hp u n T I J R) (nI k) = z := by
        intro z hz
        refine top z ?_
        unfold F_X6_spells_j33
        by_cases h6 : k < 6
        · rw [if_neg (nI_ge h6 (by omega)), nI_mul, nI_add, chs_all w hw k h6, Option.bind_some]
          exact hz
        · rw [if_neg (show ¬ k < (wdL w).length by omega)] at hz
          rw [if_pos (nI_le (by omega) (by omega))]
          exact hz
      have sg : (if i + k < t then b (i + k) else 32) < 256 := by
        have := hb (i + k)
        split <;> omega
      by_cases hkl : k < (wdL w).length
      · obtain ⟨c1, c2⟩ := wd_ltr w hw k hkl
        rw [if_pos hkl] at top2
        have n32 : ¬ nI ((wdL w).getD k 0) = nI 32 := fun z => by have := (nI_eq (by omega) (by omega)).mp z; omega
        by_cases heq : (if i + k < t then b (i + k) else 32) = (wdL w).getD k 0
        · left
          have hit : i + k < t := by
            apply Classical.byContradiction
            intro z
            rw [if_neg z] at heq
            omega
          refine ⟨nI (k + 1), top2 _ ?_, rfl, fun j hj => ?_⟩
          · unfold F_X6_spells_j59
            rw [if_neg n32, if_pos (by rw [heq]), nI_add]
          · by_cases e : j = k
            · rw [if_pos hit] at heq
              rw [e]
              exact ⟨hkl, hit, heq⟩
            · exact mt j (by omega)
        · right
          refine ⟨_, top2 _ ?_, rfl⟩
          unfold F_X6_spells_j59
          rw [if_neg n32, if_neg (fun z => heq ((nI_eq (by omega) (by omega)).mp z)), decide_eq_false]
          · rfl
          · intro z
            obtain ⟨z1, z2⟩ := rlL_iff.mp z
            have := z2 k (by omega)
            rw [if_pos (by omega)] at heq
            exact heq this
      · have ek : k = (wdL w).length := by omega
        rw [if_neg hkl] at top2
        right
        refine ⟨_, top2 _ ?_, rfl⟩
        unfold F_X6_spells_j59
        rw [if_pos rfl, c_sort sg, toI_i, Option.bind_some]
        dsimp only
        -- the run is as long, or longer
        have ge : i + k ≤ ruN b t 1 i := by
          apply Nat.le_of_not_lt
          intro z
          have lt : ruN b t 1 i - i < k := by omega
          obtain ⟨y1, y2, y3⟩ := mt (ruN b t 1 i - i) lt
          have := r4 (by omega)
          rw [show i + (ruN b t 1 i - i) = ruN b t 1 i by omega] at y3
          obtain ⟨c1, c2⟩ := wd_ltr w hw (ruN b t 1 i - i) y1
          exact this (by rw [y3]; exact so_1.mpr ⟨c1, c2⟩)
        by_cases h1 : so (if i + k < t then b (i + k) else 32) = 1
        · rw [if_pos (by rw [h1]), decide_eq_false]
          · rfl
          · intro z
            obtain ⟨z1, z2⟩ := rlL_iff.mp z
            by_cases hit : i + k < t
            · rw [if_pos hit] at h1
              have := r4 (by omega)
              rw [show ruN b t 1 i = i + k by omega] at this
              exact this h1
            · rw [if_neg hit] at h1
              exact absurd h1 (by decide)
        · have s3 := so_le (if i + k < t then b (i + k) else 32)
          rw [if_neg (fun z => h1 ((nI_eq (by omega) (by omega)).mp z)), decide_eq_true]
          · rfl
          · have e : ruN b t 1 i = i + k := by
              rcases Nat.lt_or_eq_of_le ge with z | z
              · have := r3 (i + k) (by omega) z
                rw [if_pos (by omega)] at h1
                exact absurd this h1
              · omega
            refine rlL_iff.mpr ⟨by omega, fun j hj => (mt j (by omega)).2.2⟩
    · intro z ⟨hz, mt⟩
      have := (mt 6 (by decide)).1
      omega
  obtain ⟨z, e, rfl⟩ := LL
  refine e_X6_spells (d := d + 1) ?_
  unfold F_X6_spells
  rw [e, Option.bind_some]
theorem c_wordAt (hS : St n T R) (hb : ∀ k, b k ≤ 255) (ht : t ≤ 400) (hT : ∀ k, k < t → I 23 k &&& 255 = nI (b k)) (hi : i < t) : ev O (d + 3) MX6_wordAt [.ref 23, .int (nI i), .int (nI t)] (hp u n T I J R) = some (some (.int (nI (wdX b i (ruN b t 1 i - i)))), hp u n T I J R) := by
  obtain ⟨f1, f2⟩ := fsV_all (fun w => decide (rlL b i (ruN b t 1 i - i) = wdL w)) 26
  have LL : ∃ z, lupF (fun (q : Int32 × mH) => F_X6_wordAt_l2 O (d + 2) 23 (nI i) (nI t) q.1 q.2) FU (nI 0, hp u n T I J R) = some z ∧ (fun z => (z = .inl (hp u n T I J R) ∧ wdX b i (ruN b t 1 i - i) = 26) ∨ z = .inr (nI (wdX b i (ruN b t 1 i - i)), hp u n T I J R)) z := by
    refine lup_P0 (fun w z => z = (nI w, hp u n T I J R) ∧ ∀ v, v < w → decide (rlL b i (ruN b t 1 i - i) = wdL v) = false) _ (N := 26) (by decide) ⟨rfl, fun v hv => absurd hv (Nat.not_lt_zero v)⟩ ?_ ?_
    · intro w z hw ⟨hz, no⟩
      subst hz
      dsimp only
      unfold F_X6_wordAt_l2
      rw [if_neg (nI_ge hw (by omega)), c_spells hS hb ht hT hw hi, toI_i, Option.bind_some]
      dsimp only
      cases hx : decide (rlL b i (ruN b t 1 i - i) = wdL w) with
      | true =>
        right
        refine ⟨_, by rw [if_neg nbt], Or.inr ?_⟩
        rw [(wdX_iff hw).mpr (rlL_iff.mp (of_decide_eq_true hx))]
      | false =>
        left
        refine ⟨(nI (w + 1), hp u n T I J R), by rw [if_pos (show bI false = 0 from rfl), nI_add], rfl, fun v hv => ?_⟩
        by_cases e : v = w
        · rw [e]
          exact hx
        · exact no v (by omega)
    · intro z ⟨hz, no⟩
      subst hz
      refine ⟨_, ?_, Or.inl ⟨rfl, ?_⟩⟩
      · dsimp only
        unfold F_X6_wordAt_l2
        rw [if_pos (nI_le (Nat.le_refl 26) (by omega))]
      · unfold wdX
        cases h : fsV (fun w => decide (rlL b i (ruN b t 1 i - i) = wdL w)) 26 with
        | none => rfl
        | some v =>
          obtain ⟨g1, g2, -⟩ := f1 v h
          rw [no v g1] at g2
          cases g2
  obtain ⟨z, e, hz⟩ := LL
  refine e_X6_wordAt (d := d + 2) ?_
  unfold F_X6_wordAt
  rcases hz with ⟨rfl, h⟩ | rfl
  · rw [e, Option.bind_some, h]
  · rw [e, Option.bind_some]
/-- what a token means so far -/
def pmT (b : Nat → Nat) (t i q : Nat) : Nat := if so (b q) = 2 then nmC b q (min i (ruN b t 2 q) - q) else mnT b t q
/-- the tokens laid so far -/
def SpI (b : Nat → Nat) (t i : Nat) (I : Nat → Nat → Int32) : Prop := I 1 3 = nI (ctF (tsB b t) i) ∧ (∀ k, k < ctF (tsB b t) i → I 5 k = nI (plN b t k) ∧ I 6 k = nI (pmT b t i (plN b t k))) ∧ (0 < i → so (b (i - 1)) = 2 → 1 ≤ ctF (tsB b t) i ∧ plN b t (ctF (tsB b t) i - 1) < i ∧ ∀ j, plN b t (ctF (tsB b t) i - 1) ≤ j → j < i → so (b j) = 2)
theorem c_split (hS : St n T R) (hb : ∀ k, b k ≤ 255) (ht : t ≤ 400) (hT : ∀ k, k < t → I 23 k &&& 255 = nI (b k)) : ∃ I', ev O (d + 4) MX6_split [.ref 1, .ref 23, .int (nI t)] (hp u n T I J R) = some (none, hp u n T I' J R) ∧ (∀ a, a ≠ 1 → a ≠ 5 → a ≠ 6 → I' a = I a) ∧ (∀ k, k ≠ 3 → I' 1 k = I 1 k) ∧ I' 1 3 = nI (tkN b t) ∧ ∀ k, k ≤ tkN b t → I' 5 k = nI (plN b t k) ∧ I' 6 k = nI (mnT b t (plN b t k)) := by
  have LL : ∃ z, lupF (fun (q : Int32 × Int32 × mH) => F_X6_split_l10 O (d + 3) 1 23 (nI t) q.1 q.2.1 q.2.2) FU (nI 0, nI 0, hp u n T (up2 I 1 3 (nI 0)) J R) = some z ∧ (fun z => ∃ I1, z = hp u n T I1 J R ∧ (∀ a, a ≠ 1 → a ≠ 5 → a ≠ 6 → I1 a = I a) ∧ (∀ k, k ≠ 3 → I1 1 k = I 1 k) ∧ SpI b t t I1) z := by
    refine lup_P0 (fun i z => ∃ I1, z = (nI (if i = 0 then 0 else so (b (i - 1))), nI i, hp u n T I1 J R) ∧ (∀ a, a ≠ 1 → a ≠ 5 → a ≠ 6 → I1 a = I a) ∧ (∀ k, k ≠ 3 → I1 1 k = I 1 k) ∧ SpI b t i I1) _ (N := t) (by omega) ⟨_, rfl, fun a h1 _ _ => up2_off _ _ _ h1, fun k hk => up2_nk hk, up2_at _ _ _ _, fun k hk => absurd hk (Nat.not_lt_zero k), fun z => absurd z (Nat.lt_irrefl 0)⟩ ?_ ?_
    · intro i z hi ⟨I1, hz, o1, o2, p1, p2, p3⟩
      subst hz
      left
      have b255 := hb i
      have cle := ctF_le (tsB b t) i
      have i23 : I1 23 = I 23 := o1 23 (by decide) (by decide) (by decide)
      have s3 := so_le (b i)
      have pc := plN_ct (b := b) (t := t) i (by omega)
      have nts := ntF_ts (b := b) (t := t) (p := i) hi
      have plt : ∀ k, k < ctF (tsB b t) i → plN b t k < i := by
        -- tokens laid begin before
        have mono : ∀ i, i ≤ t → ∀ k, k < ctF (tsB b t) i → plN b t k < i := by
          intro i
          induction i with
          | zero => intro _ k hk; exact absurd hk (Nat.not_lt_zero k)
          | succ i ih =>
            intro hi k hk
            have e : ctF (tsB b t) (i + 1) = ctF (tsB b t) i + (if tsB b t i = true then 1 else 0) := rfl
            rw [e] at hk
            by_cases hs : tsB b t i = true
            · rw [if_pos hs] at hk
              by_cases ek : k = ctF (tsB b t) i
              · rw [ek, plN_ct i (by omega), ntF_ts (by omega), if_pos hs]
                omega
              · have := ih (by omega) k (by omega)
                omega
            · rw [if_neg hs] at hk
              have := ih (by omega) k (by omega)
              omega
        exact mono i (by omega)
      -- a token's meaning, one sign on, where it isn't a number that goes on
      have same : ∀ q, q < i → (so (b i) ≠ 2 ∨ ∃ j, q ≤ j ∧ j < i ∧ so (b j) ≠ 2) → pmT b t (i + 1) q = pmT b t i q := by
        intro q hq hh
        unfold pmT
        by_cases h2 : so (b q) = 2
        · rw [if_pos h2, if_pos h2]
          obtain ⟨y1, y2, y3, y4⟩ := ruN_all (b := b) (t := t) (s := 2) (i := q) (by omega)
          have : ruN b t 2 q ≤ i := by
            apply Nat.le_of_not_lt
            intro z
            rcases hh with h | ⟨j, j1, j2, j3⟩
            · exact h (y3 i (by omega) z)
            · exact j3 (y3 j j1 (by omega))
          rw [show min (i + 1) (ruN b t 2 q) = min i (ruN b t 2 q) by omega]
        · rw [if_neg h2, if_neg h2]
      have read : ∀ z, (if nI (so (b i)) = 0 then F_X6_split_j122 O (d + 3) 1 23 (nI t) (nI i) (nI (b i)) (nI (so (b i))) (hp u n T I1 J R) else if nI (so (b i)) = nI 3 then F_X6_split_j50 O (d + 3) 1 23 (nI t) (nI i) (nI (b i)) (nI (so (b i))) (hp u n T I1 J R) else if nI (so (b i)) = nI (if i = 0 then 0 else so (b (i - 1))) then F_X6_split_j122 O (d + 3) 1 23 (nI t) (nI i) (nI (b i)) (nI (so (b i))) (hp u n T I1 J R) else F_X6_split_j50 O (d + 3) 1 23 (nI t) (nI i) (nI (b i)) (nI (so (b i))) (hp u n T I1 J R)) = z → F_X6_split_l10 O (d + 3) 1 23 (nI t) (nI (if i = 0 then 0 else so (b (i - 1)))) (nI i) (hp u n T I1 J R) = z := by
        intro z hz
        unfold F_X6_split_l10
        rw [if_neg (nI_ge hi (by omega)), rd_23 hS (by omega), Option.bind_some, i23, show (nI 255 : Int32) = 255 from rfl, hT i hi, c_sort (by omega), toI_i, Option.bind_some]
        exact hz
      have eN : ∀ a c : Nat, a ≤ 3 → c ≤ 3 → (nI a = nI c ↔ a = c) := fun a c ha hc => nI_eq (by omega) (by omega)
      have e1 : (nI (if i + 1 = 0 then 0 else so (b (i + 1 - 1)))) = nI (so (b i)) := by rw [if_neg (by omega), Nat.add_sub_cancel]
      have ect : ctF (tsB b t) (i + 1) = ctF (tsB b t) i + (if tsB b t i = true then 1 else 0) := rfl
      by_cases hts : tsB b t i = true
      · -- a token begins
        obtain ⟨t1, t2, t3⟩ := tsB_iff.mp hts
        rw [if_pos hts] at ect nts
        rw [nts] at pc
        have lay : ∀ (m : Int32), m = nI (if so (b i) = 1 then 2000 + wdX b i (ruN b t 1 i - i) else 3000 + b i) → ∃ s', F_X6_split_j95 O (d + 3) 1 23 (nI t) (nI i) (nI (b i)) (nI (so (b i))) m (nI (ctF (tsB b t) i)) 6 (hp u n T (up2 I1 5 (ctF (tsB b t) i) (nI i)) J R) = some (.inl s') ∧ ∃ I1, s' = (nI (if i + 1 = 0 then 0 else so (b (i + 1 - 1))), nI (i + 1), hp u n T I1 J R) ∧ (∀ a, a ≠ 1 → a ≠ 5 → a ≠ 6 → I1 a = I a) ∧ (∀ k, k ≠ 3 → I1 1 k = I 1 k) ∧ SpI b t (i + 1) I1 := by
          intro m hm
          have oth : ∀ Ix : Nat → Nat → Int32, (∀ a, a ≠ 1 → a ≠ 5 → a ≠ 6 → Ix a = I1 a) → (∀ k, k ≠ 3 → Ix 1 k = I1 1 k) → Ix 1 3 = nI (ctF (tsB b t) i + 1) → (∀ k, k ≠ ctF (tsB b t) i → Ix 5 k = I1 5 k ∧ Ix 6 k = I1 6 k) → Ix 5 (ctF (tsB b t) i) = nI i → Ix 6 (ctF (tsB b t) i) = nI (pmT b t (i + 1) i) → (∀ a, a ≠ 1 → a ≠ 5 → a ≠ 6 → Ix a = I a) ∧ (∀ k, k ≠ 3 → Ix 1 k = I 1 k) ∧ SpI b t (i + 1) Ix := by
            intro Ix x1 x2 x3 x4 x5 x6
            refine ⟨fun a h1 h2 h3 => (x1 a h1 h2 h3).trans (o1 a h1 h2 h3), fun k hk => (x2 k hk).trans (o2 k hk), by rw [ect]; exact x3, fun k hk => ?_, fun _ h2 => ?_⟩
            · rw [ect] at hk
              by_cases ek : k = ctF (tsB b t) i
              · rw [ek, x5, x6, pc]
                exact ⟨rfl, rfl⟩
              · have kl := plt k (by omega)
                rw [(x4 k ek).1, (x4 k ek).2, same _ kl ?_]
                · exact p2 k (by omega)
                · by_cases hs2 : so (b i) = 2
                  · right
                    rcases t3 with z | z | z
                    · omega
                    · omega
                    · exact ⟨i - 1, by omega, by omega, fun y => z (by rw [hs2, y])⟩
                  · exact Or.inl hs2
            · rw [Nat.add_sub_cancel] at h2
              rw [ect, Nat.add_sub_cancel, pc]
              refine ⟨by omega, by omega, fun j j1 j2 => ?_⟩
              rw [show j = i by omega]
              exact h2
          have wm : m = m := rfl
          unfold F_X6_split_j95
          rw [wr_6 hS (by omega), Option.bind_some]
          have i13 : ∀ m : Int32, up2 (up2 I1 5 (ctF (tsB b t) i) (nI i)) 6 (ctF (tsB b t) i) m 1 3 = nI (ctF (tsB b t) i) := fun m => by rw [up2_na (by decide), up2_na (by decide)]; exact p1
          by_cases hs2 : so (b i) = 2
          · obtain ⟨y1, y2⟩ := so_2.mp hs2
            obtain ⟨g1, g2, g3, g4⟩ := ruN_all (b := b) (t := t) (s := 2) (i := i) (by omega)
            have gi : i < ruN b t 2 i := by
              rcases Nat.lt_or_eq_of_le g1 with z | z
              · exact z
              · have := g4 (by omega)
                rw [← z] at this
                exact absurd hs2 this
            have pv : pmT b t (i + 1) i = b i - 48 := by
              unfold pmT
              rw [if_pos hs2, show min (i + 1) (ruN b t 2 i) - i = 1 by omega]
              show min 1001 (0 * 10 + (b (i + 0) - 48)) = _
              rw [Nat.add_zero]
              omega
            have dv : (if nI 0 * nI 10 + nI (b i) - nI 48 < nI 1001 then nI 0 * nI 10 + nI (b i) - nI 48 else nI 1001) = nI (b i - 48) := by
              rw [nI_mul, nI_add, nI_sub (by omega), Nat.zero_mul, Nat.zero_add, if_pos ((nI_ltI (by omega) (by omega)).mpr (by omega))]
            refine ⟨_, ?_, up2 (up2 (up2 (up2 (up2 I1 5 (ctF (tsB b t) i) (nI i)) 6 (ctF (tsB b t) i) m) 6 (ctF (tsB b t) i) (nI 0)) 1 3 (nI (ctF (tsB b t) i + 1))) 6 (ctF (tsB b t) i) (nI (b i - 48)), rfl, oth _ (fun a h1 h2 h3 => by rw [up2_off _ _ _ h3, up2_off _ _ _ h1, up2_off _ _ _ h3, up2_off _ _ _ h3, up2_off _ _ _ h2]) (fun k hk => by rw [up2_na (by decide), up2_nk hk, up2_na (by decide), up2_na (by decide), up2_na (by decide)]) (by rw [up2_na (by decide), up2_at]) (fun k hk => ⟨by rw [up2_na (by decide), up2_na (by decide), up2_na (by decide), up2_na (by decide), up2_nk hk], by rw [up2_nk hk, up2_na (by decide), up2_nk hk, up2_nk hk, up2_na (by decide)]⟩) (by rw [up2_na (by decide), up2_na (by decide), up2_na (by decide), up2_na (by decide), up2_at]) (by rw [up2_at, pv])⟩
            rw [if_pos (by rw [hs2]), ga_1_2 hS, Option.bind_some, gi_1_3 hS, Option.bind_some, i13, wr_6 hS (by omega), Option.bind_some]
            unfold F_X6_split_j112
            rw [gi_1_3 hS, Option.bind_some, up2_na (by decide), i13, nI_add, pi_1_3 hS, Option.bind_some]
            unfold F_X6_split_j122
            rw [if_pos (by rw [hs2]), gi_1_3 hS, Option.bind_some, up2_at, if_neg (show ¬ nI (ctF (tsB b t) i + 1) ≤ 0 from nI_ge (show 0 < ctF (tsB b t) i + 1 by omega) (by omega)), ga_1_2 hS, Option.bind_some, Option.bind_some, nI_sub (by omega), Nat.add_sub_cancel, rd_6 hS (by omega), Option.bind_some, up2_na (by decide), up2_at, Option.bind_some, Option.bind_some, dv, nI_sub (by omega), Nat.add_sub_cancel, wr_6 hS (by omega), Option.bind_some]
            unfold F_X6_split_j176
            rw [nI_add, e1]
          · have pv : m = nI (pmT b t (i + 1) i) := by
              unfold pmT mnT
              rw [hm, if_neg hs2, if_pos hi]
              by_cases hs1 : so (b i) = 1
              · rw [if_pos hs1, if_pos hs1]
              · rw [if_neg hs1, if_neg hs1, if_neg hs2]
            refine ⟨_, ?_, up2 (up2 (up2 I1 5 (ctF (tsB b t) i) (nI i)) 6 (ctF (tsB b t) i) m) 1 3 (nI (ctF (tsB b t) i + 1)), rfl, oth _ (fun a h1 h2 h3 => by rw [up2_off _ _ _ h1, up2_off _ _ _ h3, up2_off _ _ _ h2]) (fun k hk => by rw [up2_nk hk, up2_na (by decide), up2_na (by decide)]) (up2_at _ _ _ _) (fun k hk => ⟨by rw [up2_na (by decide), up2_na (by decide), up2_nk hk], by rw [up2_na (by decide), up2_nk hk, up2_na (by decide)]⟩) (by rw [up2_na (by decide), up2_na (by decide), up2_at]) (by rw [up2_na (by decide), up2_at]; exact pv)⟩
            rw [if_neg (fun z => hs2 ((eN _ 2 s3 (by decide)).mp z))]
            unfold F_X6_split_j112
            rw [gi_1_3 hS, Option.bind_some, i13, nI_add, pi_1_3 hS, Option.bind_some]
            unfold F_X6_split_j122
            rw [if_neg (fun z => hs2 ((eN _ 2 s3 (by decide)).mp z))]
            unfold F_X6_split_j176
            rw [nI_add, e1]
        have j50 : ∃ s', F_X6_split_j50 O (d + 3) 1 23 (nI t) (nI i) (nI (b i)) (nI (so (b i))) (hp u n T I1 J R) = some (.inl s') ∧ ∃ I1, s' = (nI (if i + 1 = 0 then 0 else so (b (i + 1 - 1))), nI (i + 1), hp u n T I1 J R) ∧ (∀ a, a ≠ 1 → a ≠ 5 → a ≠ 6 → I1 a = I a) ∧ (∀ k, k ≠ 3 → I1 1 k = I 1 k) ∧ SpI b t (i + 1) I1 := by
          unfold F_X6_split_j50
          rw [ga_1_1 hS, Option.bind_some, gi_1_3 hS, Option.bind_some, p1, wr_5 hS (by omega), Option.bind_some, ga_1_2 hS, Option.bind_some, gi_1_3 hS, Option.bind_some, up2_na (by decide), p1]
          by_cases hs1 : so (b i) = 1
          · have hTa : ∀ k, k < t → up2 I1 5 (ctF (tsB b t) i) (nI i) 23 k &&& 255 = nI (b k) := fun k hk => by rw [up2_na (by decide), i23]; exact hT k hk
            rw [if_pos (by rw [hs1]), c_wordAt hS hb ht hTa hi, toI_i, Option.bind_some]
            dsimp only
            rw [nI_add]
            exact lay _ (by rw [if_pos hs1])
          · rw [if_neg (fun z => hs1 ((eN _ 1 s3 (by decide)).mp z)), nI_add]
            exact lay _ (by rw [if_neg hs1])
        obtain ⟨s', h1, h2⟩ := j50
        refine ⟨s', read _ ?_, h2⟩
        rw [if_neg (show ¬ nI (so (b i)) = 0 from fun z => t2 ((eN _ 0 s3 (by decide)).mp z))]
        by_cases hs3 : so (b i) = 3
        · rw [if_pos (by rw [hs3])]
          exact h1
        · rw [if_neg (fun z => hs3 ((eN _ 3 s3 (by decide)).mp z)), if_neg (fun z => ?_)]
          · exact h1
          · by_cases i0 : i = 0
            · rw [if_pos i0] at z
              exact t2 ((eN _ 0 s3 (by decide)).mp z)
            · rw [if_neg i0] at z
              have e := (eN _ _ s3 (so_le _)).mp z
              rcases t3 with y | y | y
              · exact hs3 y
              · exact i0 y
              · exact y e
      · -- none begins
        rw [if_neg hts, Nat.add_zero] at ect
        have nots : so (b i) = 0 ∨ (so (b i) ≠ 3 ∧ 0 < i ∧ so (b i) = so (b (i - 1))) := by
          by_cases h0 : so (b i) = 0
          · exact Or.inl h0
          · right
            have := fun z => hts (tsB_iff.mpr ⟨hi, h0, z⟩)
            refine ⟨fun z => this (Or.inl z), ?_, Classical.byContradiction (fun z => this (Or.inr (Or.inr z)))⟩
            apply Nat.pos_of_ne_zero
            intro z
            exact this (Or.inr (Or.inl z))
        have j122 : ∃ s', F_X6_split_j122 O (d + 3) 1 23 (nI t) (nI i) (nI (b i)) (nI (so (b i))) (hp u n T I1 J R) = some (.inl s') ∧ ∃ I1, s' = (nI (if i + 1 = 0 then 0 else so (b (i + 1 - 1))), nI (i + 1), hp u n T I1 J R) ∧ (∀ a, a ≠ 1 → a ≠ 5 → a ≠ 6 → I1 a = I a) ∧ (∀ k, k ≠ 3 → I1 1 k = I 1 k) ∧ SpI b t (i + 1) I1 := by
          unfold F_X6_split_j122
          by_cases hs2 : so (b i) = 2
          · obtain ⟨y1, y2⟩ := so_2.mp hs2
            obtain ⟨n1, n2, n3⟩ := nots.resolve_left (by omega)
            obtain ⟨c1, q1, q2⟩ := p3 n2 (by rw [← n3]; exact hs2)
            -- the number goes on
            have qs := q2 _ (Nat.le_refl _) q1
            obtain ⟨g1, g2, g3, g4⟩ := ruN_all (b := b) (t := t) (s := 2) (i := plN b t (ctF (tsB b t) i - 1)) (by omega)
            have gi : i < ruN b t 2 (plN b t (ctF (tsB b t) i - 1)) := by
              apply Nat.lt_of_not_le
              intro z
              have lt : ruN b t 2 (plN b t (ctF (tsB b t) i - 1)) < t := by omega
              apply g4 lt
              by_cases e : ruN b t 2 (plN b t (ctF (tsB b t) i - 1)) = i
              · rw [e]
                exact hs2
              · exact q2 _ g1 (by omega)
            have old : pmT b t i (plN b t (ctF (tsB b t) i - 1)) = nmC b (plN b t (ctF (tsB b t) i - 1)) (i - plN b t (ctF (tsB b t) i - 1)) := by
              unfold pmT
              rw [if_pos qs, show min i (ruN b t 2 (plN b t (ctF (tsB b t) i - 1))) = i by omega]
            have new : pmT b t (i + 1) (plN b t (ctF (tsB b t) i - 1)) = min 1001 (nmC b (plN b t (ctF (tsB b t) i - 1)) (i - plN b t (ctF (tsB b t) i - 1)) * 10 + (b i - 48)) := by
              unfold pmT
              rw [if_pos qs, show min (i + 1) (ruN b t 2 (plN b t (ctF (tsB b t) i - 1))) - plN b t (ctF (tsB b t) i - 1) = (i - plN b t (ctF (tsB b t) i - 1)) + 1 by omega]
              show min 1001 (_ * 10 + (b (plN b t (ctF (tsB b t) i - 1) + (i - plN b t (ctF (tsB b t) i - 1))) - 48)) = _
              rw [show plN b t (ctF (tsB b t) i - 1) + (i - plN b t (ctF (tsB b t) i - 1)) = i by omega]
            have m6 : I1 6 (ctF (tsB b t) i - 1) = nI (nmC b (plN b t (ctF (tsB b t) i - 1)) (i - plN b t (ctF (tsB b t) i - 1))) := by rw [(p2 _ (by omega)).2, old]
            have nl := nmC_le (b := b) (plN b t (ctF (tsB b t) i - 1)) (i - plN b t (ctF (tsB b t) i - 1))
            generalize hv : nmC b (plN b t (ctF (tsB b t) i - 1)) (i - plN b t (ctF (tsB b t) i - 1)) = v at *
            have dv : (if nI v * nI 10 + nI (b i) - nI 48 < nI 1001 then nI v * nI 10 + nI (b i) - nI 48 else nI 1001) = nI (min 1001 (v * 10 + (b i - 48))) := by
              rw [nI_mul, nI_add, nI_sub (by omega), mi_n (by omega) (by omega)]
              congr 1
              omega
            refine ⟨_, ?_, up2 I1 6 (ctF (tsB b t) i - 1) (nI (min 1001 (v * 10 + (b i - 48)))), rfl, fun a h1 h2 h3 => by rw [up2_off _ _ _ h3]; exact o1 a h1 h2 h3, fun k hk => by rw [up2_na (by decide)]; exact o2 k hk, by rw [up2_na (by decide), ect]; exact p1, fun k hk => ?_, fun _ _ => ?_⟩
            · rw [if_pos (by rw [hs2]), gi_1_3 hS, Option.bind_some, p1, if_neg (show ¬ nI (ctF (tsB b t) i) ≤ 0 from nI_ge (show 0 < ctF (tsB b t) i by omega) (by omega)), ga_1_2 hS, Option.bind_some, Option.bind_some, nI_sub (by omega), rd_6 hS (by omega), Option.bind_some, m6, Option.bind_some, Option.bind_some, dv, nI_sub (by omega), wr_6 hS (by omega), Option.bind_some]
              unfold F_X6_split_j176
              rw [nI_add, e1]
            · rw [ect] at hk
              rw [up2_na (by decide)]
              by_cases ek : k = ctF (tsB b t) i - 1
              · rw [ek, up2_at, new]
                exact ⟨(p2 _ (by omega)).1, rfl⟩
              · have kl := plt k (by omega)
                rw [up2_nk ek, same _ kl (Or.inr ?_)]
                · exact p2 k (by omega)
                · -- a later token begins behind it
                  have lk : plN b t k < plN b t (ctF (tsB b t) i - 1) := by
                    have mm : ∀ x, plN b t k < plN b t (k + 1 + x) ∨ plN b t (k + 1 + x) = t := by
                      intro x
                      induction x with
                      | zero =>
                        left
                        show plN b t k < (if plN b t k < t then ntF b t (plN b t k + 1) else t)
                        rw [if_pos (by omega)]
                        have := (fiF_all (tsB b t) (t - (plN b t k + 1)) (plN b t k + 1)).1
                        unfold ntF
                        omega
                      | succ x ih =>
                        show _ < (if plN b t (k + 1 + x) < t then ntF b t (plN b t (k + 1 + x) + 1) else t) ∨ (if plN b t (k + 1 + x) < t then ntF b t (plN b t (k + 1 + x) + 1) else t) = t
                        by_cases hx : plN b t (k + 1 + x) < t
                        · rw [if_pos hx]
                          left
                          have := (fiF_all (tsB b t) (t - (plN b t (k + 1 + x) + 1)) (plN b t (k + 1 + x) + 1)).1
                          unfold ntF
                          rcases ih with y | y <;> omega
                        · rw [if_neg hx]
                          exact Or.inr rfl
                    have := mm (ctF (tsB b t) i - 1 - (k + 1))
                    rw [show k + 1 + (ctF (tsB b t) i - 1 - (k + 1)) = ctF (tsB b t) i - 1 by omega] at this
                    rcases this with y | y
                    · exact y
                    · omega
                  have tsq := plN_ts (b := b) (t := t) (k := ctF (tsB b t) i - 1) (by omega)
                  obtain ⟨w1, w2, w3⟩ := tsB_iff.mp tsq
                  refine ⟨plN b t (ctF (tsB b t) i - 1) - 1, by omega, by omega, fun z => ?_⟩
                  rcases w3 with y | y | y
                  · omega
                  · omega
                  · exact y (by rw [qs, z])
            · rw [ect]
              refine ⟨c1, Nat.lt_succ_of_lt q1, fun j j1 j2 => ?_⟩
              by_cases ej : j = i
              · rw [ej]
                exact hs2
              · exact q2 j j1 (by omega)
          · refine ⟨_, ?_, I1, rfl, o1, o2, by rw [ect]; exact p1, fun k hk => ?_, fun _ h2 => ?_⟩
            · rw [if_neg (fun z => hs2 ((eN _ 2 s3 (by decide)).mp z))]
              unfold F_X6_split_j176
              rw [nI_add, e1]
            · rw [ect] at hk
              rw [same _ (plt k hk) (Or.inl hs2)]
              exact p2 k hk
            · rw [Nat.add_sub_cancel] at h2
              exact absurd h2 hs2
        obtain ⟨s', h1, h2⟩ := j122
        refine ⟨s', read _ ?_, h2⟩
        rcases nots with n0 | ⟨n1, n2, n3⟩
        · rw [if_pos (by rw [n0]; rfl)]
          exact h1
        · by_cases h0 : so (b i) = 0
          · rw [if_pos (by rw [h0]; rfl)]
            exact h1
          · rw [if_neg (show ¬ nI (so (b i)) = 0 from fun z => h0 ((eN _ 0 s3 (by decide)).mp z)), if_neg (fun z => n1 ((eN _ 3 s3 (by decide)).mp z)), if_pos (by rw [if_neg (by omega), n3])]
            exact h1
    · intro z ⟨I1, hz, o1, o2, p⟩
      subst hz
      refine ⟨_, ?_, I1, rfl, o1, o2, p⟩
      dsimp only
      unfold F_X6_split_l10
      rw [if_pos (nI_le (Nat.le_refl t) (by omega))]
  obtain ⟨z, e, I1, hz, o1, o2, p1, p2, -⟩ := LL
  have tl := tkN_le (b := b) (t := t)
  have p1 : I1 1 3 = nI (tkN b t) := p1
  refine ⟨up2 (up2 I1 5 (tkN b t) (nI t)) 6 (tkN b t) (nI 4000), e_X6_split (d := d + 3) ?_, fun a h1 h2 h3 => by rw [up2_off _ _ _ h3, up2_off _ _ _ h2]; exact o1 a h1 h2 h3, fun k hk => by rw [up2_na (by decide), up2_na (by decide)]; exact o2 k hk, by rw [up2_na (by decide), up2_na (by decide)]; exact p1, fun k hk => ?_⟩
  · unfold F_X6_split
    rw [pi_1_3 hS, Option.bind_some, e, hz, Option.bind_some, ga_1_1 hS, Option.bind_some, gi_1_3 hS, Option.bind_some, p1, wr_5 hS (by omega), Option.bind_some, ga_1_2 hS, Option.bind_some, gi_1_3 hS, Option.bind_some, up2_na (by decide), p1, wr_6 hS (by omega), Option.bind_some]
  · by_cases ek : k = tkN b t
    · rw [ek, up2_na (by decide), up2_at, up2_at, plN_tk]
      unfold mnT
      rw [if_neg (Nat.lt_irrefl t)]
      exact ⟨rfl, rfl⟩
    · have kl := (plN_lt (b := b) (t := t) k).mpr (by omega)
      obtain ⟨q1, q2⟩ := p2 k (show k < tkN b t by omega)
      rw [up2_na (by decide), up2_nk ek, up2_nk ek, up2_na (by decide)]
      refine ⟨q1, ?_⟩
      rw [q2]
      congr 1
      unfold pmT mnT
      obtain ⟨g1, g2, -⟩ := ruN_all (b := b) (t := t) (s := 2) (i := plN b t k) (by omega)
      by_cases hs2 : so (b (plN b t k)) = 2
      · rw [if_pos hs2, if_pos kl, if_neg (by omega), if_pos hs2, Nat.min_eq_right g2]
      · rw [if_neg hs2]
end SPH
