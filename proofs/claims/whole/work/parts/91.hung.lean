/-! the cheapest pairing, as mathematics -/
def smI (f : Nat → Int) : Nat → Int
  | 0 => 0
  | n + 1 => smI f n + f n
theorem smI_s (f : Nat → Int) (n : Nat) : smI f (n + 1) = smI f n + f n := rfl
theorem smI_cg {f g : Nat → Int} : ∀ {n : Nat}, (∀ i, i < n → f i = g i) → smI f n = smI g n
  | 0, _ => rfl
  | n + 1, h => by rw [smI_s, smI_s, smI_cg (fun i hi => h i (by omega)), h n (by omega)]
theorem smI_le {f g : Nat → Int} : ∀ {n : Nat}, (∀ i, i < n → f i ≤ g i) → smI f n ≤ smI g n
  | 0, _ => Int.le_refl 0
  | n + 1, h => by
    have := smI_le (f := f) (g := g) (n := n) (fun i hi => h i (by omega))
    have := h n (by omega)
    rw [smI_s, smI_s]
    omega
theorem smI_add (f g : Nat → Int) : ∀ n, smI (fun i => f i + g i) n = smI f n + smI g n
  | 0 => rfl
  | n + 1 => by
    rw [smI_s, smI_s, smI_s, smI_add f g n]
    omega
theorem smI_0 : ∀ n, smI (fun _ => 0) n = 0
  | 0 => rfl
  | n + 1 => by rw [smI_s, smI_0 n]; rfl
theorem smI_1 {f : Nat → Int} {a : Nat} : ∀ {n : Nat}, a < n → (∀ i, i < n → i ≠ a → f i = 0) → smI f n = f a
  | 0, h, _ => absurd h (Nat.not_lt_zero a)
  | n + 1, h, h0 => by
    rw [smI_s]
    by_cases e : a = n
    · subst e
      rw [smI_cg (g := fun _ => 0) (fun i hi => h0 i (by omega) (by omega)), smI_0]
      omega
    · rw [smI_1 (f := f) (a := a) (by omega) (fun i hi hn => h0 i (by omega) hn), h0 n (by omega) (Ne.symm e)]
      omega
theorem smI_swap (f : Nat → Nat → Int) (m : Nat) : ∀ n, smI (fun i => smI (f i) m) n = smI (fun j => smI (fun i => f i j) n) m
  | 0 => by
    show 0 = smI (fun j => 0) m
    rw [smI_0]
  | n + 1 => by
    rw [smI_s, smI_swap f m n, ← smI_add]
    rfl
/-- sums over columns are sums over rows -/
theorem smI_match {r c : Nat} {M m : Nat → Nat} (h : Nat → Nat → Int) (hM : ∀ j, 1 ≤ j → j ≤ c → M j ≤ r) (hinj : ∀ j k, 1 ≤ j → j ≤ c → 1 ≤ k → k ≤ c → M j = M k → M j ≠ 0 → j = k) (hm : ∀ i, 1 ≤ i → i ≤ r → 1 ≤ m i ∧ m i ≤ c ∧ M (m i) = i) : smI (fun j => if M (j + 1) = 0 then 0 else h (M (j + 1)) (j + 1)) c = smI (fun i => h (i + 1) (m (i + 1))) r := by
  have e1 : smI (fun j => if M (j + 1) = 0 then 0 else h (M (j + 1)) (j + 1)) c = smI (fun j => smI (fun i => if M (j + 1) = i + 1 then h (i + 1) (j + 1) else 0) r) c := by
    apply smI_cg
    intro j hj
    have hr := hM (j + 1) (by omega) (by omega)
    by_cases e : M (j + 1) = 0
    · rw [if_pos e, smI_cg (g := fun _ => 0) (fun i _ => if_neg (by omega)), smI_0]
    · obtain ⟨q, hq⟩ : ∃ q, M (j + 1) = q + 1 := ⟨M (j + 1) - 1, by omega⟩
      rw [if_neg e, smI_1 (a := q) (by omega) (fun i _ hn => if_neg (by omega)), if_pos hq, hq]
  rw [e1, smI_swap]
  apply smI_cg
  intro i hi
  obtain ⟨m1, m2, m3⟩ := hm (i + 1) (by omega) (by omega)
  obtain ⟨q, hq⟩ : ∃ q, m (i + 1) = q + 1 := ⟨m (i + 1) - 1, by omega⟩
  rw [hq] at m1 m2 m3
  rw [smI_1 (a := q) (by omega) (fun j hj hn => ?_), if_pos m3, hq]
  refine if_neg (fun z => hn ?_)
  have := hinj (j + 1) (q + 1) (by omega) (by omega) (by omega) (by omega) (by rw [z, m3]) (by omega)
  omega
/-- how many are out before d -/
def rnB (ot : Nat → Bool) : Nat → Nat
  | 0 => 0
  | d + 1 => rnB ot d + (if ot d = true then 1 else 0)
def dsm (ot : Nat → Bool) (h : Nat → Int) : Nat → Nat → Int
  | 0, _ => 0
  | k + 1, d => (if ot d = true then h (rnB ot d + 1) else 0) + dsm ot h k (d + 1)
section HG
variable {V D : Nat} {bar : Nat → Nat → Bool} {ot : Nat → Bool} {wi : Nat → Nat → Nat} {x y : Nat → Nat}
theorem rnB_s (d : Nat) : rnB ot (d + 1) = rnB ot d + (if ot d = true then 1 else 0) := rfl
theorem dsm_s (h : Nat → Int) (k d : Nat) : dsm ot h (k + 1) d = (if ot d = true then h (rnB ot d + 1) else 0) + dsm ot h k (d + 1) := rfl
theorem rnB_F : ∀ (k d : Nat), rnB ot d + rnF ot k d = rnB ot (d + k)
  | 0, d => rfl
  | k + 1, d => by
    have ih := rnB_F k (d + 1)
    rw [rnF_s, show d + (k + 1) = d + 1 + k by omega, ← ih, rnB_s]
    omega
theorem dsm_eq (h : Nat → Int) : ∀ (k d : Nat), smI (fun i => h (i + 1)) (rnB ot d) + dsm ot h k d = smI (fun i => h (i + 1)) (rnB ot (d + k))
  | 0, d => by
    show _ + 0 = _
    rw [Int.add_zero]
    rfl
  | k + 1, d => by
    have ih := dsm_eq h k (d + 1)
    rw [dsm_s, show d + (k + 1) = d + 1 + k by omega, ← ih, rnB_s]
    by_cases e : ot d = true
    · rw [if_pos e, if_pos e, smI_s]
      omega
    · rw [if_neg e, if_neg e]
      simp
theorem dsm_cg {g h : Nat → Int} : ∀ (k d : Nat), (∀ i, d ≤ i → i < d + k → ot i = true → g (rnB ot i + 1) = h (rnB ot i + 1)) → dsm ot g k d = dsm ot h k d
  | 0, _, _ => rfl
  | k + 1, d, hh => by
    rw [dsm_s, dsm_s, dsm_cg k (d + 1) (fun i h1 h2 => hh i (by omega) (by omega))]
    by_cases e : ot d = true
    · rw [if_pos e, if_pos e, hh d (by omega) (by omega) e]
    · rw [if_neg e, if_neg e]
theorem dsm_le {g h : Nat → Int} : ∀ (k d : Nat), (∀ i, d ≤ i → i < d + k → ot i = true → g (rnB ot i + 1) ≤ h (rnB ot i + 1)) → dsm ot g k d ≤ dsm ot h k d
  | 0, _, _ => Int.le_refl 0
  | k + 1, d, hh => by
    have ih := dsm_le k (d + 1) (fun i h1 h2 => hh i (by omega) (by omega))
    rw [dsm_s, dsm_s]
    by_cases e : ot d = true
    · have := hh d (by omega) (by omega) e
      rw [if_pos e, if_pos e]
      omega
    · rw [if_neg e, if_neg e]
      omega
theorem rnB_le : ∀ d, rnB ot d ≤ d
  | 0 => Nat.le_refl 0
  | d + 1 => by
    have := rnB_le d
    rw [rnB_s]
    split <;> omega
theorem rnB_mono {d e : Nat} (h : d ≤ e) : rnB ot d ≤ rnB ot e := by
  have := rnB_F (ot := ot) (e - d) d
  rw [show d + (e - d) = e by omega] at this
  omega
/-- sums of beds -/
def bsm (f : Nat) (mW : Nat → Int) (V : Nat) : Int := smI (fun v => (blF f v : Int) * mW v) V
theorem bsm_dc {mW : Nat → Int} (h5 : V ≤ 5) {f v : Nat} (hf : f < 1024) (hv : v < V) (h0 : blF f v ≠ 0) : bsm (f - 4 ^ v) mW V = bsm f mW V - mW v := by
  have e : bsm f mW V = smI (fun u => (blF (f - 4 ^ v) u : Int) * mW u + (if u = v then mW v else 0)) V := by
    unfold bsm
    apply smI_cg
    intro u hu
    have dc := bl_dc f hf v (by omega) h0 u (by omega)
    have dc' : blF (f - 4 ^ v) u = if u = v then blF f v - 1 else blF f u := dc
    rw [dc']
    by_cases e : u = v
    · subst e
      rw [if_pos rfl, if_pos rfl]
      obtain ⟨b, hb⟩ : ∃ b, blF f u = b + 1 := ⟨blF f u - 1, by omega⟩
      rw [hb, Nat.add_sub_cancel, Int.natCast_add, Int.add_mul]
      simp
    · rw [if_neg e, if_neg e, Int.add_zero]
  rw [e, smI_add, smI_1 (a := v) hv (fun i _ hn => if_neg hn), if_pos rfl]
  unfold bsm
  omega
/-- the dual bound -/
theorem hung_lb {C : Nat → Nat → Int} {U mW : Nat → Int} {fb : Nat → Nat} (h5 : V ≤ 5) (hC : ∀ d, d < D → ot d = true → (∀ v, v < V → bar d v = false → C (rnB ot d + 1) v = ((v * 6 ^ rnF ot (D - (d + 1)) (d + 1) : Nat) : Int) - (268435456 + 2097152 * (wi d v : Int))) ∧ C (rnB ot d + 1) 5 = ((5 * 6 ^ rnF ot (D - (d + 1)) (d + 1) : Nat) : Int)) (hm0 : ∀ v, mW v ≤ 0) (hd : ∀ d v, d < D → ot d = true → (v < V ∧ fb v ≠ 0 ∨ v = 5) → U (rnB ot d + 1) + mW v ≤ C (rnB ot d + 1) v) : ∀ (k d f : Nat), d + k = D → f < 1024 → (∀ v, v < V → blF f v ≤ fb v) → fe V bar ot x k d f → dsm ot U k d + (bsm f mW V + (rnF ot k d : Int) * mW 5) ≤ cTt V ot wi x k d
  | 0, d, f, _, _, _, _ => by
    have le : bsm f mW V ≤ 0 := by
      have := smI_le (f := fun v => (blF f v : Int) * mW v) (g := fun _ => 0) (n := V) (fun v _ => Int.mul_nonpos_of_nonneg_of_nonpos (Int.natCast_nonneg _) (hm0 v))
      rw [smI_0] at this
      exact this
    show 0 + (bsm f mW V + ((0 : Nat) : Int) * mW 5) ≤ 0
    simp
    exact le
  | k + 1, d, f, hk, hf, hb, h => by
    have ih := fun f => hung_lb h5 hC hm0 hd k (d + 1) f (by omega)
    have ek : D - (d + 1) = k := by omega
    unfold fe at h
    rw [dsm_s, rnF_s, cTt_s]
    by_cases e : ot d = true
    · obtain ⟨c1, c2⟩ := hC d (by omega) e
      rw [ek] at c1 c2
      rw [if_pos e] at h
      rw [if_pos e, if_pos e, if_pos e]
      have m5 := hm0 5
      have rs : (((1 + rnF ot k (d + 1) : Nat)) : Int) * mW 5 = mW 5 + (rnF ot k (d + 1) : Int) * mW 5 := by
        rw [Int.natCast_add, Int.add_mul]
        simp
      rw [rs]
      rcases h with ⟨h1, h2⟩ | ⟨h1, h2, h3, h4⟩
      · have i := ih f hf hb h2
        have q := hd d 5 (by omega) e (Or.inr rfl)
        rw [c2] at q
        rw [h1, if_neg (by omega)]
        omega
      · have i := ih (f - 4 ^ x d) (Nat.lt_of_le_of_lt (Nat.sub_le _ _) hf) (fun v hv => by
          have dc : blF (f - 4 ^ x d) v = if v = x d then blF f (x d) - 1 else blF f v := bl_dc f hf (x d) (by omega) h3 v (by omega)
          have := hb v hv
          rw [dc]
          split
          · rename_i ev
            rw [ev] at this ⊢
            omega
          · exact this) h4
        have q := hd d (x d) (by omega) e (Or.inl ⟨h1, by have := hb (x d) h1; omega⟩)
        rw [c1 (x d) h1 h2] at q
        rw [bsm_dc h5 hf h1 h3] at i
        rw [if_pos h1]
        omega
    · rw [if_neg e] at h
      have i := ih f hf hb h
      rw [if_neg e, if_neg e, if_neg e]
      simp
      exact i
/-- so many choose v -/
def cnx (ot : Nat → Bool) (x : Nat → Nat) (v : Nat) : Nat → Nat → Nat
  | 0, _ => 0
  | k + 1, d => (if ot d = true ∧ x d = v then 1 else 0) + cnx ot x v k (d + 1)
theorem fe_of (h5 : V ≤ 5) : ∀ (k d f : Nat), f < 1024 → (∀ i, d ≤ i → i < d + k → ot i = true → x i = 5 ∨ (x i < V ∧ bar i (x i) = false)) → (∀ v, v < V → cnx ot x v k d ≤ blF f v) → fe V bar ot x k d f
  | 0, _, _, _, _, _ => trivial
  | k + 1, d, f, hf, h, hc => by
    unfold fe
    by_cases e : ot d = true
    · rw [if_pos e]
      rcases h d (by omega) (by omega) e with h1 | ⟨h1, h2⟩
      · left
        refine ⟨h1, fe_of h5 k (d + 1) f hf (fun i a b => h i (by omega) (by omega)) (fun v hv => ?_)⟩
        have := hc v hv
        unfold cnx at this
        omega
      · right
        have c0 := hc (x d) h1
        unfold cnx at c0
        rw [if_pos ⟨e, rfl⟩] at c0
        have h3 : blF f (x d) ≠ 0 := by omega
        refine ⟨h1, h2, h3, fe_of h5 k (d + 1) _ (Nat.lt_of_le_of_lt (Nat.sub_le _ _) hf) (fun i a b => h i (by omega) (by omega)) (fun v hv => ?_)⟩
        have dc : blF (f - 4 ^ x d) v = if v = x d then blF f (x d) - 1 else blF f v := bl_dc f hf (x d) (by omega) h3 v (by omega)
        have := hc v hv
        unfold cnx at this
        rw [dc]
        by_cases ev : v = x d
        · rw [if_pos ev, ev]
          omega
        · rw [if_neg ev]
          omega
    · rw [if_neg e]
      refine fe_of h5 k (d + 1) f hf (fun i a b => h i (by omega) (by omega)) (fun v hv => ?_)
      have := hc v hv
      unfold cnx at this
      omega
/-- a greatest one -/
theorem max_ex {p : Nat → Prop} {W : Nat → Int} : ∀ c, (∃ j, j < c ∧ p j) → ∃ j, j < c ∧ p j ∧ ∀ i, i < c → p i → W i ≤ W j
  | 0, h => by
    obtain ⟨j, hj, -⟩ := h
    exact absurd hj (Nat.not_lt_zero j)
  | c + 1, h => by
    by_cases hc : ∃ j, j < c ∧ p j
    · obtain ⟨j, h1, h2, h3⟩ := max_ex (W := W) c hc
      by_cases hp : p c ∧ W j < W c
      · refine ⟨c, by omega, hp.1, fun i hi hpi => ?_⟩
        by_cases ei : i = c
        · rw [ei]
          exact Int.le_refl _
        · have := h3 i (by omega) hpi
          omega
      · refine ⟨j, by omega, h2, fun i hi hpi => ?_⟩
        by_cases ei : i = c
        · rw [ei] at hpi ⊢
          by_cases hl : W j < W c
          · exact absurd ⟨hpi, hl⟩ hp
          · omega
        · exact h3 i (by omega) hpi
    · obtain ⟨j, hj, hp⟩ := h
      have ej : j = c := by
        by_cases e : j = c
        · exact e
        · exact absurd ⟨j, by omega, hp⟩ hc
      subst ej
      refine ⟨j, by omega, hp, fun i hi hpi => ?_⟩
      by_cases ei : i = j
      · rw [ei]
        exact Int.le_refl _
      · exact absurd ⟨i, by omega, hpi⟩ hc
end HG
