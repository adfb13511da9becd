/-! beds for all: Hall's theorem -/
def smB (c : Nat → Nat) (P : Nat → Bool) : Nat → Nat
  | 0 => 0
  | v + 1 => smB c P v + (if P v = true then c v else 0)
def sbB (bar : Nat → Nat → Bool) (i : Nat) (P : Nat → Bool) : Nat → Bool
  | 0 => true
  | v + 1 => sbB bar i P v && (bar i v || P v)
def cnB (V : Nat) (bar : Nat → Nat → Bool) (lies : Nat → Bool) (P : Nat → Bool) : Nat → Nat → Nat
  | 0, _ => 0
  | k + 1, d => (if (lies d && sbB bar d P V) = true then 1 else 0) + cnB V bar lies P k (d + 1)
def dcF (c : Nat → Nat) (v : Nat) : Nat → Nat := fun u => if u = v then c v - 1 else c u
def fsb (V : Nat) (bar : Nat → Nat → Bool) (lies : Nat → Bool) : Nat → Nat → (Nat → Nat) → Prop
  | 0, _, _ => True
  | k + 1, d, c => if lies d = true then ∃ v, v < V ∧ bar d v = false ∧ 0 < c v ∧ fsb V bar lies k (d + 1) (dcF c v) else fsb V bar lies k (d + 1) c
section HALL
variable {V : Nat} {bar : Nat → Nat → Bool} {lies : Nat → Bool} {P Q : Nat → Bool} {c c' : Nat → Nat}
theorem smB_s (v : Nat) : smB c P (v + 1) = smB c P v + (if P v = true then c v else 0) := rfl
theorem sbB_iff {i : Nat} : ∀ {V : Nat}, sbB bar i P V = true ↔ ∀ v, v < V → bar i v = false → P v = true
  | 0 => ⟨fun _ v hv => absurd hv (Nat.not_lt_zero v), fun _ => rfl⟩
  | V + 1 => by
    have ih := sbB_iff (i := i) (V := V)
    show (sbB bar i P V && (bar i V || P V)) = true ↔ _
    rw [Bool.and_eq_true, ih]
    constructor
    · intro ⟨h1, h2⟩ v hv hb
      by_cases e : v = V
      · subst e
        rw [hb] at h2
        exact h2
      · exact h1 v (by omega) hb
    · intro h
      refine ⟨fun v hv => h v (by omega), ?_⟩
      cases hb : bar i V with
      | true => rfl
      | false => exact h V (by omega) hb
theorem smB_cg : ∀ {V : Nat}, (∀ v, v < V → P v = true → c' v = c v) → smB c' P V = smB c P V
  | 0, _ => rfl
  | V + 1, h => by
    rw [smB_s, smB_s, smB_cg (fun v hv => h v (by omega))]
    by_cases e : P V = true
    · rw [if_pos e, if_pos e, h V (by omega) e]
    · rw [if_neg e, if_neg e]
theorem smB_cP : ∀ {V : Nat}, (∀ v, v < V → P v = Q v) → smB c P V = smB c Q V
  | 0, _ => rfl
  | V + 1, h => by rw [smB_s, smB_s, smB_cP (fun v hv => h v (by omega)), h V (by omega)]
theorem smB_dc : ∀ {V : Nat} {v : Nat}, 0 < c v → smB (dcF c v) P V + (if v < V ∧ P v = true then 1 else 0) = smB c P V
  | 0, v, _ => by
    rw [if_neg (by omega)]
    rfl
  | V + 1, v, h => by
    have ih := smB_dc (V := V) (v := v) h
    rw [smB_s, smB_s, ← ih]
    by_cases e : v = V
    · subst e
      rw [if_neg (show ¬ (v < v ∧ P v = true) by omega), show dcF c v v = c v - 1 from if_pos rfl]
      by_cases hp : P v = true
      · rw [if_pos hp, if_pos hp, if_pos ⟨by omega, hp⟩]
        omega
      · rw [if_neg hp, if_neg hp, if_neg (fun z => hp z.2)]
    · rw [show dcF c v V = c V from if_neg (Ne.symm e)]
      have e1 : (if v < V ∧ P v = true then 1 else 0 : Nat) = (if v < V + 1 ∧ P v = true then 1 else 0) := by
        by_cases hp : P v = true
        · by_cases hv : v < V
          · rw [if_pos ⟨hv, hp⟩, if_pos ⟨by omega, hp⟩]
          · rw [if_neg (fun z => hv z.1), if_neg (fun z => by have := z.1; omega)]
        · rw [if_neg (fun z => hp z.2), if_neg (fun z => hp z.2)]
      rw [← e1]
      omega
theorem smB_sub : ∀ {V : Nat}, smB c (fun v => P v || Q v) V + smB c (fun v => P v && Q v) V = smB c P V + smB c Q V
  | 0 => rfl
  | V + 1 => by
    have ih := smB_sub (V := V)
    rw [smB_s, smB_s, smB_s, smB_s]
    cases P V <;> cases Q V <;> simp <;> omega
theorem cnB_s (k d : Nat) : cnB V bar lies P (k + 1) d = (if (lies d && sbB bar d P V) = true then 1 else 0) + cnB V bar lies P k (d + 1) := rfl
theorem cnB_mono (h : ∀ v, v < V → P v = true → Q v = true) : ∀ (k d : Nat), cnB V bar lies P k d ≤ cnB V bar lies Q k d
  | 0, _ => Nat.le_refl 0
  | k + 1, d => by
    have ih := cnB_mono h k (d + 1)
    rw [cnB_s, cnB_s]
    by_cases e : (lies d && sbB bar d P V) = true
    · have e2 : (lies d && sbB bar d Q V) = true := by
        rw [Bool.and_eq_true, sbB_iff] at e ⊢
        exact ⟨e.1, fun v hv hb => h v hv (e.2 v hv hb)⟩
      rw [if_pos e, if_pos e2]
      omega
    · rw [if_neg e]
      omega
theorem cnB_sub : ∀ (k d : Nat), cnB V bar lies P k d + cnB V bar lies Q k d ≤ cnB V bar lies (fun v => P v || Q v) k d + cnB V bar lies (fun v => P v && Q v) k d
  | 0, _ => Nat.le_refl 0
  | k + 1, d => by
    have ih := cnB_sub k (d + 1)
    rw [cnB_s, cnB_s, cnB_s, cnB_s]
    have key : (if (lies d && sbB bar d P V) = true then 1 else 0) + (if (lies d && sbB bar d Q V) = true then 1 else 0) ≤ (if (lies d && sbB bar d (fun v => P v || Q v) V) = true then 1 else 0) + (if (lies d && sbB bar d (fun v => P v && Q v) V) = true then 1 else 0) := by
      by_cases e : (lies d && sbB bar d P V) = true
      · have e2 : (lies d && sbB bar d (fun v => P v || Q v) V) = true := by
          rw [Bool.and_eq_true, sbB_iff] at e ⊢
          exact ⟨e.1, fun v hv hb => by rw [e.2 v hv hb]; rfl⟩
        rw [if_pos e, if_pos e2]
        by_cases f : (lies d && sbB bar d Q V) = true
        · have f2 : (lies d && sbB bar d (fun v => P v && Q v) V) = true := by
            rw [Bool.and_eq_true, sbB_iff] at e f ⊢
            exact ⟨e.1, fun v hv hb => by rw [e.2 v hv hb, f.2 v hv hb]; rfl⟩
          rw [if_pos f, if_pos f2]
          omega
        · rw [if_neg f]
          omega
      · rw [if_neg e]
        by_cases f : (lies d && sbB bar d Q V) = true
        · have f2 : (lies d && sbB bar d (fun v => P v || Q v) V) = true := by
            rw [Bool.and_eq_true, sbB_iff] at f ⊢
            exact ⟨f.1, fun v hv hb => by rw [f.2 v hv hb, Bool.or_true]⟩
          rw [if_pos f, if_pos f2]
          omega
        · rw [if_neg f]
          omega
    omega
theorem fsb_cg : ∀ (k d : Nat) (c c' : Nat → Nat), (∀ v, v < V → c' v = c v) → fsb V bar lies k d c → fsb V bar lies k d c'
  | 0, _, _, _, _, _ => trivial
  | k + 1, d, c, c', h, hf => by
    unfold fsb at hf ⊢
    by_cases e : lies d = true
    · rw [if_pos e] at hf ⊢
      obtain ⟨v, h1, h2, h3, h4⟩ := hf
      refine ⟨v, h1, h2, by rw [h v h1]; exact h3, fsb_cg k (d + 1) _ _ (fun u hu => ?_) h4⟩
      unfold dcF
      rw [h u hu, h v h1]
    · rw [if_neg e] at hf ⊢
      exact fsb_cg k (d + 1) _ _ h hf
theorem hal_nec : ∀ (k d : Nat) (c : Nat → Nat), fsb V bar lies k d c → ∀ P, cnB V bar lies P k d ≤ smB c P V
  | 0, _, _, _, _ => Nat.zero_le _
  | k + 1, d, c, hf, P => by
    unfold fsb at hf
    rw [cnB_s]
    by_cases e : lies d = true
    · rw [if_pos e] at hf
      obtain ⟨v, h1, h2, h3, h4⟩ := hf
      have ih := hal_nec k (d + 1) _ h4 P
      have sd := smB_dc (c := c) (P := P) (V := V) h3
      by_cases hs : (lies d && sbB bar d P V) = true
      · have hs2 := hs
        rw [Bool.and_eq_true, sbB_iff] at hs2
        rw [if_pos ⟨h1, hs2.2 v h1 h2⟩] at sd
        rw [if_pos hs]
        omega
      · rw [if_neg hs]
        omega
    · rw [if_neg e] at hf
      have ih := hal_nec k (d + 1) _ hf P
      rw [if_neg (fun z => e (by rw [Bool.and_eq_true] at z; exact z.1))]
      omega
theorem hal_suf : ∀ (k d : Nat) (c : Nat → Nat), (∀ P, cnB V bar lies P k d ≤ smB c P V) → fsb V bar lies k d c
  | 0, _, _, _ => trivial
  | k + 1, d, c, hH => by
    unfold fsb
    have hR : ∀ P, cnB V bar lies P k (d + 1) ≤ smB c P V := fun P => by
      have := hH P
      rw [cnB_s] at this
      omega
    by_cases e : lies d = true
    · rw [if_pos e]
      apply Classical.byContradiction
      intro hN
      have tight : ∀ v, v < V → bar d v = false → 0 < c v → ∃ P : Nat → Bool, P v = true ∧ cnB V bar lies P k (d + 1) = smB c P V := by
        intro v h1 h2 h3
        have nf : ¬ fsb V bar lies k (d + 1) (dcF c v) := fun z => hN ⟨v, h1, h2, h3, z⟩
        have nh : ¬ ∀ P, cnB V bar lies P k (d + 1) ≤ smB (dcF c v) P V := fun z => nf (hal_suf k (d + 1) _ z)
        obtain ⟨P, hP⟩ := Classical.not_forall.mp nh
        have sd := smB_dc (c := c) (P := P) (V := V) h3
        have hr := hR P
        by_cases hp : P v = true
        · rw [if_pos ⟨h1, hp⟩] at sd
          exact ⟨P, hp, by omega⟩
        · rw [if_neg (fun z => hp z.2)] at sd
          omega
      have grow : ∀ j, j ≤ V → ∃ U : Nat → Bool, cnB V bar lies U k (d + 1) = smB c U V ∧ ∀ v, v < j → bar d v = false → U v = true := by
        intro j
        induction j with
        | zero =>
          intro _
          have z : ∀ V, smB c (fun _ => false) V = 0 := by
            intro V
            induction V with
            | zero => rfl
            | succ V ih => rw [smB_s, ih]; rfl
          have := hR (fun _ => false)
          rw [z] at this
          exact ⟨fun _ => false, by rw [z]; omega, fun v hv => absurd hv (Nat.not_lt_zero v)⟩
        | succ j ih =>
          intro hj
          obtain ⟨U, t, cov⟩ := ih (by omega)
          cases hb : bar d j with
          | true =>
            refine ⟨U, t, fun v hv h2 => ?_⟩
            by_cases ev : v = j
            · subst ev
              rw [hb] at h2
              cases h2
            · exact cov v (by omega) h2
          | false =>
            have un : ∀ P : Nat → Bool, P j = true → cnB V bar lies P k (d + 1) = smB c P V → ∃ U : Nat → Bool, cnB V bar lies U k (d + 1) = smB c U V ∧ ∀ v, v < j + 1 → bar d v = false → U v = true := by
              intro P hp tp
              have s1 := smB_sub (c := c) (P := U) (Q := P) (V := V)
              have s2 := cnB_sub (V := V) (bar := bar) (lies := lies) (P := U) (Q := P) k (d + 1)
              have s3 := hR (fun v => U v || P v)
              have s4 := hR (fun v => U v && P v)
              refine ⟨fun v => U v || P v, by omega, fun v hv h2 => ?_⟩
              by_cases ev : v = j
              · subst ev
                dsimp only
                rw [hp, Bool.or_true]
              · dsimp only
                rw [cov v (by omega) h2]
                rfl
            by_cases hc : c j = 0
            · have se : smB c (fun v => U v || decide (v = j)) V = smB c U V := by
                have : ∀ W, smB c (fun v => U v || decide (v = j)) W = smB c U W := by
                  intro W
                  induction W with
                  | zero => rfl
                  | succ W ih =>
                    rw [smB_s, smB_s, ih]
                    by_cases ew : W = j
                    · subst ew
                      rw [hc]
                      split <;> split <;> rfl
                    · (try dsimp only)
                      rw [decide_eq_false ew, Bool.or_false]
                exact this V
              have m := cnB_mono (V := V) (bar := bar) (lies := lies) (P := U) (Q := fun v => U v || decide (v = j)) (fun v _ h => by rw [h]; rfl) k (d + 1)
              have s3 := hR (fun v => U v || decide (v = j))
              refine ⟨fun v => U v || decide (v = j), by omega, fun v hv h2 => ?_⟩
              by_cases ev : v = j
              · subst ev
                dsimp only
                rw [decide_eq_true rfl, Bool.or_true]
              · dsimp only
                rw [cov v (by omega) h2]
                rfl
            · obtain ⟨P, hp, tp⟩ := tight j (by omega) hb (by omega)
              exact un P hp tp
      obtain ⟨U, t, cov⟩ := grow V (Nat.le_refl V)
      have := hH U
      rw [cnB_s, if_pos (by rw [Bool.and_eq_true, sbB_iff]; exact ⟨e, cov⟩)] at this
      omega
    · rw [if_neg e]
      exact hal_suf k (d + 1) c hR
end HALL
