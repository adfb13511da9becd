/-! one phase of the pairing, as mathematics -/
/-- the rows below 'row' are paired -/
def HM (c row : Nat) (M : Nat → Nat) : Prop :=
  (∀ j, 1 ≤ j → j ≤ c → M j < row) ∧
  (∀ j k, 1 ≤ j → j ≤ c → 1 ≤ k → k ≤ c → M j = M k → M j ≠ 0 → j = k) ∧
  (∀ i, 1 ≤ i → i < row → ∃ j, 1 ≤ j ∧ j ≤ c ∧ M j = i)
theorem HM.lt {c row : Nat} {M : Nat → Nat} (h : HM c row M) : ∀ j, 1 ≤ j → j ≤ c → M j < row := h.1
theorem HM.inj {c row : Nat} {M : Nat → Nat} (h : HM c row M) : ∀ j k, 1 ≤ j → j ≤ c → 1 ≤ k → k ≤ c → M j = M k → M j ≠ 0 → j = k := h.2.1
theorem HM.sur {c row : Nat} {M : Nat → Nat} (h : HM c row M) : ∀ i, 1 ≤ i → i < row → ∃ j, 1 ≤ j ∧ j ≤ c ∧ M j = i := h.2.2
def HD (c row : Nat) (cst : Nat → Nat → Int) (M : Nat → Nat) (U W : Nat → Int) : Prop :=
  (∀ i j, 1 ≤ i → i < row → 1 ≤ j → j ≤ c → U i + W j ≤ cst i j) ∧
  (∀ j, 1 ≤ j → j ≤ c → M j ≠ 0 → U (M j) + W j = cst (M j) j) ∧
  (∀ j, 1 ≤ j → j ≤ c → W j ≤ 0) ∧
  (∀ j, 1 ≤ j → j ≤ c → M j = 0 → W j = 0)
theorem HD.fea {c row : Nat} {cst : Nat → Nat → Int} {M : Nat → Nat} {U W : Nat → Int} (h : HD c row cst M U W) : ∀ i j, 1 ≤ i → i < row → 1 ≤ j → j ≤ c → U i + W j ≤ cst i j := h.1
theorem HD.tig {c row : Nat} {cst : Nat → Nat → Int} {M : Nat → Nat} {U W : Nat → Int} (h : HD c row cst M U W) : ∀ j, 1 ≤ j → j ≤ c → M j ≠ 0 → U (M j) + W j = cst (M j) j := h.2.1
theorem HD.neg {c row : Nat} {cst : Nat → Nat → Int} {M : Nat → Nat} {U W : Nat → Int} (h : HD c row cst M U W) : ∀ j, 1 ≤ j → j ≤ c → W j ≤ 0 := h.2.2.1
theorem HD.zer {c row : Nat} {cst : Nat → Nat → Int} {M : Nat → Nat} {U W : Nat → Int} (h : HD c row cst M U W) : ∀ j, 1 ≤ j → j ≤ c → M j = 0 → W j = 0 := h.2.2.2
def HP (r c row : Nat) (cst : Nat → Nat → Int) (M : Nat → Nat) (U W : Nat → Int) : Prop :=
  (HM c row M) ∧
  (HD c row cst M U W) ∧
  (∀ i, row ≤ i → i ≤ r → U i = 0) ∧
  (∀ i, 1 ≤ i → i ≤ r → -536870912 ≤ U i)
theorem HP.m {r c row : Nat} {cst : Nat → Nat → Int} {M : Nat → Nat} {U W : Nat → Int} (h : HP r c row cst M U W) : HM c row M := h.1
theorem HP.d {r c row : Nat} {cst : Nat → Nat → Int} {M : Nat → Nat} {U W : Nat → Int} (h : HP r c row cst M U W) : HD c row cst M U W := h.2.1
theorem HP.z {r c row : Nat} {cst : Nat → Nat → Int} {M : Nat → Nat} {U W : Nat → Int} (h : HP r c row cst M U W) : ∀ i, row ≤ i → i ≤ r → U i = 0 := h.2.2.1
theorem HP.b {r c row : Nat} {cst : Nat → Nat → Int} {M : Nat → Nat} {U W : Nat → Int} (h : HP r c row cst M U W) : ∀ i, 1 ≤ i → i ≤ r → -536870912 ≤ U i := h.2.2.2
/-- what holds of the columns reached, if any is -/
def HR (c row t : Nat) (cst : Nat → Nat → Int) (M : Nat → Nat) (U W S : Nat → Int) (F : Nat → Nat) (Q : Nat → Bool) (ρ : Nat → Nat) (col : Nat) : Prop :=
  (Q 0 = true) ∧
  (∀ j, 1 ≤ j → j ≤ c → U row + W j ≤ cst row j) ∧
  (∀ j, 1 ≤ j → j ≤ c → Q j = false → F j ≤ c ∧ Q (F j) = true ∧ S j = cst (M (F j)) j - U (M (F j)) - W j ∧ ∀ q, q ≤ c → Q q = true → S j ≤ cst (M q) j - U (M q) - W j) ∧
  (∀ j, 1 ≤ j → j ≤ c → Q j = true → F j ≤ c ∧ Q (F j) = true ∧ ρ (F j) < ρ j ∧ U (M (F j)) + W j = cst (M (F j)) j) ∧
  (1 ≤ col) ∧
  (col ≤ c) ∧
  (Q col = false) ∧
  (S col = 0)
theorem HR.q0 {c row t : Nat} {cst : Nat → Nat → Int} {M : Nat → Nat} {U W S : Nat → Int} {F : Nat → Nat} {Q : Nat → Bool} {ρ : Nat → Nat} {col : Nat} (h : HR c row t cst M U W S F Q ρ col) : Q 0 = true := h.1
theorem HR.fea {c row t : Nat} {cst : Nat → Nat → Int} {M : Nat → Nat} {U W S : Nat → Int} {F : Nat → Nat} {Q : Nat → Bool} {ρ : Nat → Nat} {col : Nat} (h : HR c row t cst M U W S F Q ρ col) : ∀ j, 1 ≤ j → j ≤ c → U row + W j ≤ cst row j := h.2.1
theorem HR.out {c row t : Nat} {cst : Nat → Nat → Int} {M : Nat → Nat} {U W S : Nat → Int} {F : Nat → Nat} {Q : Nat → Bool} {ρ : Nat → Nat} {col : Nat} (h : HR c row t cst M U W S F Q ρ col) : ∀ j, 1 ≤ j → j ≤ c → Q j = false → F j ≤ c ∧ Q (F j) = true ∧ S j = cst (M (F j)) j - U (M (F j)) - W j ∧ ∀ q, q ≤ c → Q q = true → S j ≤ cst (M q) j - U (M q) - W j := h.2.2.1
theorem HR.inn {c row t : Nat} {cst : Nat → Nat → Int} {M : Nat → Nat} {U W S : Nat → Int} {F : Nat → Nat} {Q : Nat → Bool} {ρ : Nat → Nat} {col : Nat} (h : HR c row t cst M U W S F Q ρ col) : ∀ j, 1 ≤ j → j ≤ c → Q j = true → F j ≤ c ∧ Q (F j) = true ∧ ρ (F j) < ρ j ∧ U (M (F j)) + W j = cst (M (F j)) j := h.2.2.2.1
theorem HR.c1 {c row t : Nat} {cst : Nat → Nat → Int} {M : Nat → Nat} {U W S : Nat → Int} {F : Nat → Nat} {Q : Nat → Bool} {ρ : Nat → Nat} {col : Nat} (h : HR c row t cst M U W S F Q ρ col) : 1 ≤ col := h.2.2.2.2.1
theorem HR.cc {c row t : Nat} {cst : Nat → Nat → Int} {M : Nat → Nat} {U W S : Nat → Int} {F : Nat → Nat} {Q : Nat → Bool} {ρ : Nat → Nat} {col : Nat} (h : HR c row t cst M U W S F Q ρ col) : col ≤ c := h.2.2.2.2.2.1
theorem HR.cq {c row t : Nat} {cst : Nat → Nat → Int} {M : Nat → Nat} {U W S : Nat → Int} {F : Nat → Nat} {Q : Nat → Bool} {ρ : Nat → Nat} {col : Nat} (h : HR c row t cst M U W S F Q ρ col) : Q col = false := h.2.2.2.2.2.2.1
theorem HR.cs {c row t : Nat} {cst : Nat → Nat → Int} {M : Nat → Nat} {U W S : Nat → Int} {F : Nat → Nat} {Q : Nat → Bool} {ρ : Nat → Nat} {col : Nat} (h : HR c row t cst M U W S F Q ρ col) : S col = 0 := h.2.2.2.2.2.2.2
def HQ (r c row t : Nat) (cst : Nat → Nat → Int) (M : Nat → Nat) (U W S : Nat → Int) (F : Nat → Nat) (Q : Nat → Bool) (ρ : Nat → Nat) (col : Nat) : Prop :=
  (HM c row M) ∧
  (HD c row cst M U W) ∧
  (M 0 = row) ∧
  (1 ≤ row) ∧
  (row ≤ r) ∧
  (∀ i, row < i → i ≤ r → U i = 0) ∧
  (∀ i, 1 ≤ i → i ≤ r → -536870912 ≤ U i) ∧
  (W 0 = - U row) ∧
  (∀ j, j ≤ c → Q j = true → (j = 0 ∨ M j ≠ 0) ∧ ρ j < t) ∧
  (smI (fun j => if Q j = true then 1 else 0) (c + 1) = t) ∧
  ((t = 0 ∧ col = 0 ∧ (∀ j, j ≤ c → Q j = false) ∧ (∀ j, j ≤ c → S j = 1125899906842624) ∧ U row = 0) ∨ (1 ≤ t ∧ HR c row t cst M U W S F Q ρ col))
theorem HQ.p {r c row t : Nat} {cst : Nat → Nat → Int} {M : Nat → Nat} {U W S : Nat → Int} {F : Nat → Nat} {Q : Nat → Bool} {ρ : Nat → Nat} {col : Nat} (h : HQ r c row t cst M U W S F Q ρ col) : HM c row M := h.1
theorem HQ.d {r c row t : Nat} {cst : Nat → Nat → Int} {M : Nat → Nat} {U W S : Nat → Int} {F : Nat → Nat} {Q : Nat → Bool} {ρ : Nat → Nat} {col : Nat} (h : HQ r c row t cst M U W S F Q ρ col) : HD c row cst M U W := h.2.1
theorem HQ.m0 {r c row t : Nat} {cst : Nat → Nat → Int} {M : Nat → Nat} {U W S : Nat → Int} {F : Nat → Nat} {Q : Nat → Bool} {ρ : Nat → Nat} {col : Nat} (h : HQ r c row t cst M U W S F Q ρ col) : M 0 = row := h.2.2.1
theorem HQ.r1 {r c row t : Nat} {cst : Nat → Nat → Int} {M : Nat → Nat} {U W S : Nat → Int} {F : Nat → Nat} {Q : Nat → Bool} {ρ : Nat → Nat} {col : Nat} (h : HQ r c row t cst M U W S F Q ρ col) : 1 ≤ row := h.2.2.2.1
theorem HQ.r2 {r c row t : Nat} {cst : Nat → Nat → Int} {M : Nat → Nat} {U W S : Nat → Int} {F : Nat → Nat} {Q : Nat → Bool} {ρ : Nat → Nat} {col : Nat} (h : HQ r c row t cst M U W S F Q ρ col) : row ≤ r := h.2.2.2.2.1
theorem HQ.z {r c row t : Nat} {cst : Nat → Nat → Int} {M : Nat → Nat} {U W S : Nat → Int} {F : Nat → Nat} {Q : Nat → Bool} {ρ : Nat → Nat} {col : Nat} (h : HQ r c row t cst M U W S F Q ρ col) : ∀ i, row < i → i ≤ r → U i = 0 := h.2.2.2.2.2.1
theorem HQ.b {r c row t : Nat} {cst : Nat → Nat → Int} {M : Nat → Nat} {U W S : Nat → Int} {F : Nat → Nat} {Q : Nat → Bool} {ρ : Nat → Nat} {col : Nat} (h : HQ r c row t cst M U W S F Q ρ col) : ∀ i, 1 ≤ i → i ≤ r → -536870912 ≤ U i := h.2.2.2.2.2.2.1
theorem HQ.w0 {r c row t : Nat} {cst : Nat → Nat → Int} {M : Nat → Nat} {U W S : Nat → Int} {F : Nat → Nat} {Q : Nat → Bool} {ρ : Nat → Nat} {col : Nat} (h : HQ r c row t cst M U W S F Q ρ col) : W 0 = - U row := h.2.2.2.2.2.2.2.1
theorem HQ.q {r c row t : Nat} {cst : Nat → Nat → Int} {M : Nat → Nat} {U W S : Nat → Int} {F : Nat → Nat} {Q : Nat → Bool} {ρ : Nat → Nat} {col : Nat} (h : HQ r c row t cst M U W S F Q ρ col) : ∀ j, j ≤ c → Q j = true → (j = 0 ∨ M j ≠ 0) ∧ ρ j < t := h.2.2.2.2.2.2.2.2.1
theorem HQ.cnt {r c row t : Nat} {cst : Nat → Nat → Int} {M : Nat → Nat} {U W S : Nat → Int} {F : Nat → Nat} {Q : Nat → Bool} {ρ : Nat → Nat} {col : Nat} (h : HQ r c row t cst M U W S F Q ρ col) : smI (fun j => if Q j = true then 1 else 0) (c + 1) = t := h.2.2.2.2.2.2.2.2.2.1
theorem HQ.h {r c row t : Nat} {cst : Nat → Nat → Int} {M : Nat → Nat} {U W S : Nat → Int} {F : Nat → Nat} {Q : Nat → Bool} {ρ : Nat → Nat} {col : Nat} (h : HQ r c row t cst M U W S F Q ρ col) : (t = 0 ∧ col = 0 ∧ (∀ j, j ≤ c → Q j = false) ∧ (∀ j, j ≤ c → S j = 1125899906842624) ∧ U row = 0) ∨ (1 ≤ t ∧ HR c row t cst M U W S F Q ρ col) := h.2.2.2.2.2.2.2.2.2.2
section PH
variable {r c row t : Nat} {cst : Nat → Nat → Int} {M M' : Nat → Nat} {U W S U' W' S1 S' : Nat → Int} {F F1 ρ : Nat → Nat} {Q : Nat → Bool} {col near a : Nat} {δ : Int}
theorem HM.mz (h : HM c row M) {j k : Nat} (h0 : M 0 = row) (hj : j ≤ c) (hk : k ≤ c) (e : M j = M k) (hn : M j ≠ 0) : j = k := by
  by_cases ej : j = 0
  · by_cases ek : k = 0
    · omega
    · have := h.lt k (by omega) hk
      rw [ej, h0] at e
      omega
  · by_cases ek : k = 0
    · have := h.lt j (by omega) hj
      rw [ek, h0] at e
      omega
    · exact h.inj j k (by omega) hj (by omega) hk e hn
/-- no more than there are rows -/
theorem pig {n m : Nat} (h1 : ∀ j, j < n → Q j = true → 1 ≤ M j ∧ M j ≤ m) (h2 : ∀ j k, j < n → k < n → Q j = true → Q k = true → M j = M k → j = k) : smI (fun j => if Q j = true then 1 else 0) n ≤ (m : Int) := by
  have e1 : smI (fun j => if Q j = true then 1 else 0) n = smI (fun j => smI (fun i => if Q j = true ∧ M j = i + 1 then 1 else 0) m) n := by
    apply smI_cg
    intro j hj
    by_cases hq : Q j = true
    · obtain ⟨a1, a2⟩ := h1 j hj hq
      rw [if_pos hq, smI_1 (a := M j - 1) (by omega) (fun i _ hn => if_neg (fun z => hn (by omega))), if_pos ⟨hq, by omega⟩]
    · rw [if_neg hq, smI_cg (g := fun _ => 0) (fun i _ => if_neg (fun z => hq z.1)), smI_0]
  rw [e1, smI_swap]
  have one : ∀ m : Nat, smI (fun _ => 1) m = (m : Int) := by
    intro m
    induction m with
    | zero => rfl
    | succ m ih => rw [smI_s, ih, Int.natCast_add]; rfl
  rw [← one m]
  apply smI_le
  intro i _
  by_cases hx : ∃ j, j < n ∧ Q j = true ∧ M j = i + 1
  · obtain ⟨j, j1, j2, j3⟩ := hx
    rw [smI_1 (a := j) j1 (fun k hk hn => if_neg (fun z => hn (h2 k j hk j1 z.1 j2 (by rw [z.2, j3])))), if_pos ⟨j2, j3⟩]
    exact Int.le_refl _
  · rw [smI_cg (g := fun _ => 0) (fun j hj => if_neg (fun z => hx ⟨j, hj, z⟩)), smI_0]
    omega
/-- a column is free -/
theorem free_ex (h : HM c row M) (h1 : 1 ≤ row) (hc : row ≤ c) : ∃ j, 1 ≤ j ∧ j ≤ c ∧ M j = 0 := by
  apply Classical.byContradiction
  intro hN
  have p := pig (Q := fun j => decide (1 ≤ j)) (M := M) (n := c + 1) (m := row - 1) (fun j hj hq => by
    have hq := of_decide_eq_true hq
    have := h.lt j hq (by omega)
    have : M j ≠ 0 := fun z => hN ⟨j, hq, by omega, z⟩
    omega) (fun j k hj hk hq hq2 e => by
    have hq := of_decide_eq_true hq
    have hq2 := of_decide_eq_true hq2
    exact h.inj j k hq (by omega) hq2 (by omega) e (fun z => hN ⟨j, hq, by omega, z⟩))
  have e : ∀ c : Nat, smI (fun j => if decide (1 ≤ j) = true then 1 else 0) (c + 1) = (c : Int) := by
    intro c
    induction c with
    | zero => rfl
    | succ c ih =>
      rw [smI_s, ih, if_pos (decide_eq_true (by omega)), Int.natCast_add]
      rfl
  rw [e] at p
  omega
/-- how many are reached -/
theorem HQ.cnt_le (h : HQ r c row t cst M U W S F Q ρ col) : t ≤ row := by
  have p := pig (Q := Q) (M := M) (n := c + 1) (m := row) (fun j hj hq => by
    have := (h.q j (by omega) hq).1
    have r1 := h.r1
    by_cases e : j = 0
    · rw [e, h.m0]
      omega
    · have := h.p.lt j (by omega) (by omega)
      omega) (fun j k hj hk hq hq2 e => by
    refine h.p.mz h.m0 (by omega) (by omega) e ?_
    have := (h.q j (by omega) hq).1
    have r1 := h.r1
    rcases this with z | z
    · rw [z, h.m0]
      omega
    · exact z)
  rw [h.cnt] at p
  omega
/-- the worths stay small -/
theorem HQ.up (h : HQ r c row t cst M U W S F Q ρ col) (hc : row ≤ c) (hb : ∀ i j, 1 ≤ i → i ≤ r → 1 ≤ j → j ≤ c → cst i j ≤ 1099511627776) : ∀ i, 1 ≤ i → i ≤ r → U i ≤ 1099511627776 := by
  intro i h1 h2
  obtain ⟨j, j1, j2, j3⟩ := free_ex h.p h.r1 hc
  have z := h.d.zer j j1 j2 j3
  have cb := hb i j h1 h2 j1 j2
  by_cases e : i < row
  · have := h.d.fea i j h1 e j1 j2
    omega
  · by_cases e2 : i = row
    · subst e2
      rcases h.h with ⟨-, -, -, -, q⟩ | ⟨-, q⟩
      · omega
      · have := q.fea j j1 j2
        omega
    · have := h.z i (by omega) h2
      omega
theorem HQ.wb (h : HQ r c row t cst M U W S F Q ρ col) (hc : row ≤ c) (hb : ∀ i j, 1 ≤ i → i ≤ r → 1 ≤ j → j ≤ c → -536870912 ≤ cst i j ∧ cst i j ≤ 1099511627776) : ∀ j, j ≤ c → -2199023255552 ≤ W j ∧ W j ≤ 2199023255552 := by
  intro j hj
  have up := h.up hc (fun i j a b c d => (hb i j a b c d).2)
  have r1 := h.r1
  have r2 := h.r2
  by_cases e : j = 0
  · have w0 := h.w0
    have u1 := up row h.r1 h.r2
    have u2 := h.b row h.r1 h.r2
    rw [e]
    omega
  · have n := h.d.neg j (by omega) hj
    by_cases e2 : M j = 0
    · have := h.d.zer j (by omega) hj e2
      omega
    · have lt := h.p.lt j (by omega) hj
      have t := h.d.tig j (by omega) hj e2
      have u1 := up (M j) (by omega) (by omega)
      have cb := (hb (M j) j (by omega) (by omega) (by omega) hj).1
      omega
/-- one column more is reached -/
theorem HQ.step (h : HQ r c row t cst M U W S F Q ρ col) (hcc : row ≤ c) (hb : ∀ i j, 1 ≤ i → i ≤ r → 1 ≤ j → j ≤ c → -536870912 ≤ cst i j ∧ cst i j ≤ 1099511627776) (hcol : M col ≠ 0)
    (hs : ∀ j, 1 ≤ j → j ≤ c → Q j = false → j ≠ col → (cst (M col) j - U (M col) - W j < S j → S1 j = cst (M col) j - U (M col) - W j ∧ F1 j = col) ∧ (¬ cst (M col) j - U (M col) - W j < S j → S1 j = S j ∧ F1 j = F j))
    (hf : ∀ j, 1 ≤ j → j ≤ c → (Q j = true ∨ j = col) → F1 j = F j)
    (n1 : 1 ≤ near) (n2 : near ≤ c) (n3 : Q near = false) (n4 : near ≠ col) (n5 : S1 near = δ) (n6 : ∀ j, 1 ≤ j → j ≤ c → Q j = false → j ≠ col → δ ≤ S1 j) (n7 : δ < 1125899906842624)
    (hu1 : ∀ j, j ≤ c → (Q j = true ∨ j = col) → U' (M j) = U (M j) + δ) (hu2 : ∀ i, (∀ j, j ≤ c → (Q j = true ∨ j = col) → M j ≠ i) → U' i = U i)
    (hw1 : ∀ j, j ≤ c → (Q j = true ∨ j = col) → W' j = W j - δ) (hw2 : ∀ j, j ≤ c → Q j = false → j ≠ col → W' j = W j) (hs2 : ∀ j, 1 ≤ j → j ≤ c → Q j = false → j ≠ col → S' j = S1 j - δ) :
    HQ r c row (t + 1) cst M U' W' S' F1 (fun j => Q j || decide (j = col)) (fun j => if j = col then t else ρ j) near := by
  have r1 := h.r1
  have r2 := h.r2
  have m0 := h.m0
  have colc : col ≤ c := by
    rcases h.h with ⟨-, e, -⟩ | ⟨-, q⟩
    · omega
    · exact q.cc
  have q1t : ∀ j, (Q j || decide (j = col)) = true ↔ (Q j = true ∨ j = col) := by
    intro j
    rw [Bool.or_eq_true, decide_eq_true_iff]
  have q1f : ∀ j, (Q j || decide (j = col)) = false → Q j = false ∧ j ≠ col := by
    intro j hj
    rw [Bool.or_eq_false_iff] at hj
    exact ⟨hj.1, of_decide_eq_false hj.2⟩
  -- what is reached has rows of its own
  have row1 : ∀ j, j ≤ c → (Q j = true ∨ j = col) → 1 ≤ M j ∧ M j ≤ row := by
    intro j hj hq
    by_cases e : j = 0
    · rw [e, m0]
      omega
    · have lt := h.p.lt j (by omega) hj
      have : M j ≠ 0 := by
        rcases hq with z | z
        · exact ((h.q j hj z).1).resolve_left e
        · rw [z]
          exact hcol
      omega
  have same : ∀ j k, j ≤ c → k ≤ c → (Q j = true ∨ j = col) → M j = M k → j = k := by
    intro j k hj hk hq e
    have := row1 j hj hq
    exact h.p.mz m0 hj hk e (by omega)
  have wbb := h.wb hcc hb
  -- the first step, and the later ones
  have dpos : 1 ≤ t → 0 ≤ δ := by
    intro ht
    obtain ⟨-, q⟩ := h.h.resolve_left (fun z => by omega)
    have hsn := hs near n1 n2 n3 n4
    obtain ⟨f1, f2, f3, f4⟩ := q.out near n1 n2 n3
    have ov : 0 ≤ cst (M col) near - U (M col) - W near := by
      obtain ⟨a1, a2⟩ := row1 col colc (Or.inr rfl)
      by_cases e : M col < row
      · have := h.d.fea (M col) near a1 e n1 n2
        omega
      · have e2 : M col = row := by omega
        have := q.fea near n1 n2
        rw [e2]
        omega
    have sp : 0 ≤ S near := by
      obtain ⟨a1, a2⟩ := row1 (F near) f1 (Or.inl f2)
      by_cases e : M (F near) < row
      · have := h.d.fea (M (F near)) near a1 e n1 n2
        omega
      · have e2 : M (F near) = row := by omega
        have := q.fea near n1 n2
        rw [e2] at f3
        omega
    by_cases lt : cst (M col) near - U (M col) - W near < S near
    · have := (hsn.1 lt).1
      omega
    · have := (hsn.2 lt).1
      omega
  -- slacks against all that is reached
  have sl : ∀ j, 1 ≤ j → j ≤ c → Q j = false → j ≠ col → F1 j ≤ c ∧ (Q (F1 j) = true ∨ F1 j = col) ∧ S1 j = cst (M (F1 j)) j - U (M (F1 j)) - W j ∧ ∀ q, q ≤ c → (Q q = true ∨ q = col) → S1 j ≤ cst (M q) j - U (M q) - W j := by
    intro j j1 j2 j3 j4
    obtain ⟨a1, a2⟩ := hs j j1 j2 j3 j4
    have big : t = 0 → cst (M col) j - U (M col) - W j < S j := by
      intro ht
      rcases h.h with ⟨-, z1, -, z2, z3⟩ | ⟨z, -⟩
      · have sj := z2 j (by omega)
        have wb := (wbb j j2).1
        have cb := (hb row j r1 r2 j1 j2).2
        rw [z1, m0, z3, sj]
        omega
      · omega
    by_cases lt : cst (M col) j - U (M col) - W j < S j
    · obtain ⟨e1, e2⟩ := a1 lt
      rw [e2]
      refine ⟨colc, Or.inr rfl, e1, fun q hq hqq => ?_⟩
      rcases hqq with z | z
      · rcases h.h with ⟨-, -, z2, -⟩ | ⟨-, y⟩
        · rw [z2 q hq] at z
          cases z
        · have := (y.out j j1 j2 j3).2.2.2 q hq z
          omega
      · rw [z]
        omega
    · obtain ⟨e1, e2⟩ := a2 lt
      rcases h.h with ⟨z, -⟩ | ⟨-, y⟩
      · exact absurd (big z) lt
      · obtain ⟨f1, f2, f3, f4⟩ := y.out j j1 j2 j3
        rw [e2, e1]
        refine ⟨f1, Or.inl f2, f3, fun q hq hqq => ?_⟩
        rcases hqq with z | z
        · exact f4 q hq z
        · rw [z]
          omega
  have t0 : t = 0 → col = 0 ∧ (∀ j, j ≤ c → Q j = false) ∧ U row = 0 := by
    intro ht
    rcases h.h with ⟨-, z1, z2, -, z3⟩ | ⟨z, -⟩
    · exact ⟨z1, z2, z3⟩
    · omega
  have t1 : 1 ≤ t → HR c row t cst M U W S F Q ρ col := fun ht => (h.h.resolve_left (fun z => by omega)).2
  have notin : ∀ j, 1 ≤ j → j ≤ c → (Q j = true ∨ j = col) → 1 ≤ t := by
    intro j j1 j2 hq
    apply Nat.pos_of_ne_zero
    intro ht
    obtain ⟨z1, z2, -⟩ := t0 ht
    rcases hq with z | z
    · rw [z2 j j2] at z
      cases z
    · omega
  have q0 : Q 0 = true ∨ 0 = col := by
    by_cases ht : 1 ≤ t
    · exact Or.inl (t1 ht).q0
    · exact Or.inr (t0 (by omega)).1.symm
  have qcol : Q col = false := by
    by_cases ht : 1 ≤ t
    · exact (t1 ht).cq
    · exact (t0 (by omega)).2.1 col colc
  have urow : U' row = U row + δ := by
    have := hu1 0 (Nat.zero_le c) q0
    rw [m0] at this
    exact this
  have dec : ∀ j, (Q j = true ∨ j = col) ∨ (Q j = false ∧ j ≠ col) := by
    intro j
    by_cases e : j = col
    · exact Or.inl (Or.inr e)
    · cases hq : Q j with
      | true => exact Or.inl (Or.inl rfl)
      | false => exact Or.inr ⟨rfl, e⟩
  refine ⟨h.p, ⟨fun i j i1 i2 j1 j2 => ?_, fun j j1 j2 hj => ?_, fun j j1 j2 => ?_, fun j j1 j2 hj => ?_⟩, m0, r1, r2, fun i i1 i2 => ?_, fun i i1 i2 => ?_, ?_, fun j hj hq => ?_, ?_, Or.inr ⟨by omega, ?_⟩⟩
  · have old := h.d.fea i j i1 i2 j1 j2
    by_cases hi : ∃ q, q ≤ c ∧ (Q q = true ∨ q = col) ∧ M q = i
    · obtain ⟨q, y1, y2, y3⟩ := hi
      have eu := hu1 q y1 y2
      rw [y3] at eu
      rcases dec j with hj | ⟨hj, hn⟩
      · rw [eu, hw1 j j2 hj]
        omega
      · have := (sl j j1 j2 hj hn).2.2.2 q y1 y2
        have := n6 j j1 j2 hj hn
        rw [y3] at *
        rw [eu, hw2 j j2 hj hn]
        omega
    · have eu := hu2 i (fun q y1 y2 y3 => hi ⟨q, y1, y2, y3⟩)
      rcases dec j with hj | ⟨hj, hn⟩
      · have := dpos (notin j j1 j2 hj)
        rw [eu, hw1 j j2 hj]
        omega
      · rw [eu, hw2 j j2 hj hn]
        exact old
  · have old := h.d.tig j j1 j2 hj
    rcases dec j with hq | ⟨hq, hn⟩
    · rw [hu1 j j2 hq, hw1 j j2 hq]
      omega
    · rw [hw2 j j2 hq hn, hu2 (M j) (fun q y1 y2 y3 => ?_)]
      · exact old
      · have e := same q j y1 j2 y2 y3
        subst e
        rcases y2 with z | z
        · rw [hq] at z
          cases z
        · exact hn z
  · have old := h.d.neg j j1 j2
    rcases dec j with hq | ⟨hq, hn⟩
    · have := dpos (notin j j1 j2 hq)
      rw [hw1 j j2 hq]
      omega
    · rw [hw2 j j2 hq hn]
      exact old
  · rcases dec j with hq | ⟨hq, hn⟩
    · have := row1 j j2 hq
      omega
    · rw [hw2 j j2 hq hn]
      exact h.d.zer j j1 j2 hj
  · rw [hu2 i (fun q y1 y2 y3 => by have := row1 q y1 y2; omega)]
    exact h.z i i1 i2
  · have old := h.b i i1 i2
    by_cases hi : ∃ q, q ≤ c ∧ (Q q = true ∨ q = col) ∧ M q = i
    · obtain ⟨q, y1, y2, y3⟩ := hi
      have eu := hu1 q y1 y2
      rw [y3] at eu
      rw [eu]
      by_cases ht : 1 ≤ t
      · have := dpos ht
        omega
      · obtain ⟨z1, z2, z3⟩ := t0 (by omega)
        have eq : q = 0 := by
          rcases y2 with z | z
          · rw [z2 q y1] at z
            cases z
          · omega
        rw [eq, m0] at y3
        have e := (sl near n1 n2 n3 n4).2.2.2 0 (Nat.zero_le c) q0
        have e2 := (sl near n1 n2 n3 n4).2.1
        have e3 := (sl near n1 n2 n3 n4).2.2.1
        have e4 : F1 near = 0 := by
          rcases e2 with z | z
          · have fc := (sl near n1 n2 n3 n4).1
            rw [z2 _ fc] at z
            cases z
          · omega
        have cb := (hb row near r1 r2 n1 n2).1
        have ng := h.d.neg near n1 n2
        rw [e4, m0, z3] at e3
        rw [← y3, z3]
        omega
    · rw [hu2 i (fun q y1 y2 y3 => hi ⟨q, y1, y2, y3⟩)]
      exact old
  · rw [hw1 0 (Nat.zero_le c) q0, urow, h.w0]
    omega
  · have hq := (q1t j).mp hq
    dsimp only
    by_cases e : j = col
    · rw [if_pos e]
      exact ⟨Or.inr (by rw [e]; exact hcol), by omega⟩
    · rw [if_neg e]
      have := h.q j hj (hq.resolve_right e)
      exact ⟨this.1, by omega⟩
  · have e : smI (fun j => if (Q j || decide (j = col)) = true then 1 else 0) (c + 1) = smI (fun j => (if Q j = true then 1 else 0) + (if j = col then 1 else 0)) (c + 1) := by
      apply smI_cg
      intro j hj
      by_cases e : j = col
      · rw [if_pos ((q1t j).mpr (Or.inr e)), if_pos e, e, qcol]
        rfl
      · rw [if_neg e]
        cases hq : Q j with
        | true =>
          rw [if_pos (by simp), if_pos rfl]
          rfl
        | false =>
          rw [if_neg (by simp [e]), if_neg (by decide)]
          rfl
    rw [e, smI_add, h.cnt, smI_1 (a := col) (by omega) (fun i _ hn => if_neg hn), if_pos rfl, Int.natCast_add]
    rfl
  · refine ⟨(q1t 0).mpr q0, fun j j1 j2 => ?_, fun j j1 j2 hj => ?_, fun j j1 j2 hj => ?_, n1, n2, ?_, ?_⟩
    · rw [urow]
      rcases dec j with hq | ⟨hq, hn⟩
      · have := (t1 (notin j j1 j2 hq)).fea j j1 j2
        rw [hw1 j j2 hq]
        omega
      · have e := (sl j j1 j2 hq hn).2.2.2 0 (Nat.zero_le c) q0
        have := n6 j j1 j2 hq hn
        rw [m0] at e
        rw [hw2 j j2 hq hn]
        omega
    · obtain ⟨hq, hn⟩ := q1f j hj
      obtain ⟨f1, f2, f3, f4⟩ := sl j j1 j2 hq hn
      refine ⟨f1, (q1t _).mpr f2, ?_, fun q y1 y2 => ?_⟩
      · rw [hs2 j j1 j2 hq hn, hu1 _ f1 f2, hw2 j j2 hq hn]
        omega
      · have y2 := (q1t q).mp y2
        have := f4 q y1 y2
        rw [hs2 j j1 j2 hq hn, hu1 q y1 y2, hw2 j j2 hq hn]
        omega
    · have hq := (q1t j).mp hj
      have ht := notin j j1 j2 hq
      rw [hf j j1 j2 hq]
      by_cases e : j = col
      · obtain ⟨f1, f2, f3, f4⟩ := (t1 ht).out col (t1 ht).c1 (t1 ht).cc qcol
        have cs := (t1 ht).cs
        have rf := (h.q _ f1 f2).2
        have nf : F col ≠ col := fun z => by rw [z, qcol] at f2; cases f2
        rw [e]
        refine ⟨f1, (q1t _).mpr (Or.inl f2), ?_, ?_⟩
        · dsimp only
          rw [if_neg nf, if_pos rfl]
          exact rf
        · rw [hu1 _ f1 (Or.inl f2), hw1 col colc (Or.inr rfl)]
          omega
      · have hq := hq.resolve_right e
        obtain ⟨f1, f2, f3, f4⟩ := (t1 ht).inn j j1 j2 hq
        have nf : F j ≠ col := fun z => by rw [z, qcol] at f2; cases f2
        refine ⟨f1, (q1t _).mpr (Or.inl f2), ?_, ?_⟩
        · dsimp only
          rw [if_neg nf, if_neg e]
          exact f3
        · rw [hu1 _ f1 (Or.inl f2), hw1 j j2 (Or.inl hq)]
          omega
    · show (Q near || decide (near = col)) = false
      rw [n3, decide_eq_false n4]
      rfl
    · rw [hs2 near n1 n2 n3 n4, n5]
      omega
/-- the way back -/
def AG (c row : Nat) (cst : Nat → Nat → Int) (M : Nat → Nat) (U W : Nat → Int) (F : Nat → Nat) (Q : Nat → Bool) (ρ : Nat → Nat) (Mc : Nat → Nat) (a ra : Nat) : Prop :=
  (1 ≤ a) ∧
  (a ≤ c) ∧
  (Mc 0 = row) ∧
  (∀ j, 1 ≤ j → j ≤ c → j ≠ a → Mc j < row) ∧
  (∀ j k, 1 ≤ j → j ≤ c → 1 ≤ k → k ≤ c → j ≠ a → k ≠ a → Mc j = Mc k → Mc j ≠ 0 → j = k) ∧
  (∀ i, 1 ≤ i → i < row → ∃ j, 1 ≤ j ∧ j ≤ c ∧ j ≠ a ∧ Mc j = i) ∧
  (∀ j, 1 ≤ j → j ≤ c → j ≠ a → Mc j ≠ 0 → U (Mc j) + W j = cst (Mc j) j) ∧
  (∀ j, 1 ≤ j → j ≤ c → j ≠ a → Mc j = 0 → W j = 0) ∧
  (F a ≤ c) ∧
  (Q (F a) = true) ∧
  (ρ (F a) < ra) ∧
  (U (M (F a)) + W a = cst (M (F a)) a) ∧
  (∀ q, q ≤ c → Q q = true → ρ q < ra → q ≠ a) ∧
  (∀ q, q ≤ c → Q q = true → ρ q < ra → Mc q = M q)
theorem AG.a1 {c row : Nat} {cst : Nat → Nat → Int} {M : Nat → Nat} {U W : Nat → Int} {F : Nat → Nat} {Q : Nat → Bool} {ρ : Nat → Nat} {Mc : Nat → Nat} {a ra : Nat} (h : AG c row cst M U W F Q ρ Mc a ra) : 1 ≤ a := h.1
theorem AG.a2 {c row : Nat} {cst : Nat → Nat → Int} {M : Nat → Nat} {U W : Nat → Int} {F : Nat → Nat} {Q : Nat → Bool} {ρ : Nat → Nat} {Mc : Nat → Nat} {a ra : Nat} (h : AG c row cst M U W F Q ρ Mc a ra) : a ≤ c := h.2.1
theorem AG.m0 {c row : Nat} {cst : Nat → Nat → Int} {M : Nat → Nat} {U W : Nat → Int} {F : Nat → Nat} {Q : Nat → Bool} {ρ : Nat → Nat} {Mc : Nat → Nat} {a ra : Nat} (h : AG c row cst M U W F Q ρ Mc a ra) : Mc 0 = row := h.2.2.1
theorem AG.lt {c row : Nat} {cst : Nat → Nat → Int} {M : Nat → Nat} {U W : Nat → Int} {F : Nat → Nat} {Q : Nat → Bool} {ρ : Nat → Nat} {Mc : Nat → Nat} {a ra : Nat} (h : AG c row cst M U W F Q ρ Mc a ra) : ∀ j, 1 ≤ j → j ≤ c → j ≠ a → Mc j < row := h.2.2.2.1
theorem AG.inj {c row : Nat} {cst : Nat → Nat → Int} {M : Nat → Nat} {U W : Nat → Int} {F : Nat → Nat} {Q : Nat → Bool} {ρ : Nat → Nat} {Mc : Nat → Nat} {a ra : Nat} (h : AG c row cst M U W F Q ρ Mc a ra) : ∀ j k, 1 ≤ j → j ≤ c → 1 ≤ k → k ≤ c → j ≠ a → k ≠ a → Mc j = Mc k → Mc j ≠ 0 → j = k := h.2.2.2.2.1
theorem AG.sur {c row : Nat} {cst : Nat → Nat → Int} {M : Nat → Nat} {U W : Nat → Int} {F : Nat → Nat} {Q : Nat → Bool} {ρ : Nat → Nat} {Mc : Nat → Nat} {a ra : Nat} (h : AG c row cst M U W F Q ρ Mc a ra) : ∀ i, 1 ≤ i → i < row → ∃ j, 1 ≤ j ∧ j ≤ c ∧ j ≠ a ∧ Mc j = i := h.2.2.2.2.2.1
theorem AG.tig {c row : Nat} {cst : Nat → Nat → Int} {M : Nat → Nat} {U W : Nat → Int} {F : Nat → Nat} {Q : Nat → Bool} {ρ : Nat → Nat} {Mc : Nat → Nat} {a ra : Nat} (h : AG c row cst M U W F Q ρ Mc a ra) : ∀ j, 1 ≤ j → j ≤ c → j ≠ a → Mc j ≠ 0 → U (Mc j) + W j = cst (Mc j) j := h.2.2.2.2.2.2.1
theorem AG.zer {c row : Nat} {cst : Nat → Nat → Int} {M : Nat → Nat} {U W : Nat → Int} {F : Nat → Nat} {Q : Nat → Bool} {ρ : Nat → Nat} {Mc : Nat → Nat} {a ra : Nat} (h : AG c row cst M U W F Q ρ Mc a ra) : ∀ j, 1 ≤ j → j ≤ c → j ≠ a → Mc j = 0 → W j = 0 := h.2.2.2.2.2.2.2.1
theorem AG.fc {c row : Nat} {cst : Nat → Nat → Int} {M : Nat → Nat} {U W : Nat → Int} {F : Nat → Nat} {Q : Nat → Bool} {ρ : Nat → Nat} {Mc : Nat → Nat} {a ra : Nat} (h : AG c row cst M U W F Q ρ Mc a ra) : F a ≤ c := h.2.2.2.2.2.2.2.2.1
theorem AG.fq {c row : Nat} {cst : Nat → Nat → Int} {M : Nat → Nat} {U W : Nat → Int} {F : Nat → Nat} {Q : Nat → Bool} {ρ : Nat → Nat} {Mc : Nat → Nat} {a ra : Nat} (h : AG c row cst M U W F Q ρ Mc a ra) : Q (F a) = true := h.2.2.2.2.2.2.2.2.2.1
theorem AG.fr {c row : Nat} {cst : Nat → Nat → Int} {M : Nat → Nat} {U W : Nat → Int} {F : Nat → Nat} {Q : Nat → Bool} {ρ : Nat → Nat} {Mc : Nat → Nat} {a ra : Nat} (h : AG c row cst M U W F Q ρ Mc a ra) : ρ (F a) < ra := h.2.2.2.2.2.2.2.2.2.2.1
theorem AG.ft {c row : Nat} {cst : Nat → Nat → Int} {M : Nat → Nat} {U W : Nat → Int} {F : Nat → Nat} {Q : Nat → Bool} {ρ : Nat → Nat} {Mc : Nat → Nat} {a ra : Nat} (h : AG c row cst M U W F Q ρ Mc a ra) : U (M (F a)) + W a = cst (M (F a)) a := h.2.2.2.2.2.2.2.2.2.2.2.1
theorem AG.na {c row : Nat} {cst : Nat → Nat → Int} {M : Nat → Nat} {U W : Nat → Int} {F : Nat → Nat} {Q : Nat → Bool} {ρ : Nat → Nat} {Mc : Nat → Nat} {a ra : Nat} (h : AG c row cst M U W F Q ρ Mc a ra) : ∀ q, q ≤ c → Q q = true → ρ q < ra → q ≠ a := h.2.2.2.2.2.2.2.2.2.2.2.2.1
theorem AG.old {c row : Nat} {cst : Nat → Nat → Int} {M : Nat → Nat} {U W : Nat → Int} {F : Nat → Nat} {Q : Nat → Bool} {ρ : Nat → Nat} {Mc : Nat → Nat} {a ra : Nat} (h : AG c row cst M U W F Q ρ Mc a ra) : ∀ q, q ≤ c → Q q = true → ρ q < ra → Mc q = M q := h.2.2.2.2.2.2.2.2.2.2.2.2.2
theorem HQ.ag (h : HQ r c row t cst M U W S F Q ρ col) (hcol : M col = 0) : AG c row cst M U W F Q ρ M col t := by
  have r1 := h.r1
  obtain ⟨ht, y⟩ := h.h.resolve_left (fun z => by
    have := h.m0
    rw [z.2.1] at hcol
    omega)
  obtain ⟨f1, f2, f3, f4⟩ := y.out col y.c1 y.cc y.cq
  have cs := y.cs
  refine ⟨y.c1, y.cc, h.m0, fun j j1 j2 _ => h.p.lt j j1 j2, fun j k j1 j2 k1 k2 _ _ => h.p.inj j k j1 j2 k1 k2, fun i i1 i2 => ?_, fun j j1 j2 _ => h.d.tig j j1 j2, fun j j1 j2 _ => h.d.zer j j1 j2, f1, f2, (h.q _ f1 f2).2, by omega, fun q q1 q2 _ e => ?_, fun _ _ _ _ => rfl⟩
  · obtain ⟨j, j1, j2, j3⟩ := h.p.sur i i1 i2
    exact ⟨j, j1, j2, fun e => by rw [e] at j3; omega, j3⟩
  · rw [e, y.cq] at q2
    cases q2
/-- a step of the way back, or its end -/
theorem AG.step {Mc : Nat → Nat} {ra : Nat} (hq : HQ r c row t cst M U W S F Q ρ col) (h : AG c row cst M U W F Q ρ Mc a ra) : Mc (F a) = M (F a) ∧ F a ≠ a ∧ (F a ≠ 0 → AG c row cst M U W F Q ρ (fun j => if j = a then M (F a) else Mc j) (F a) (ρ (F a))) ∧ (F a = 0 → HM c (row + 1) (fun j => if j = a then M (F a) else Mc j) ∧ HD c (row + 1) cst (fun j => if j = a then M (F a) else Mc j) U W) := by
  have r1 := hq.r1
  have eb := h.old (F a) h.fc h.fq h.fr
  have nb := h.na (F a) h.fc h.fq h.fr
  have a1 := h.a1
  have a2 := h.a2
  obtain ⟨ht, y⟩ : 1 ≤ t ∧ HR c row t cst M U W S F Q ρ col := hq.h.resolve_left (fun z => by
    have := h.fq
    rw [z.2.2.1 _ h.fc] at this
    cases this)
  refine ⟨eb, nb, fun b0 => ?_, fun b0 => ?_⟩
  · have q := (hq.q (F a) h.fc h.fq).1.resolve_left b0
    have lt := hq.p.lt (F a) (by omega) h.fc
    obtain ⟨f1, f2, f3, f4⟩ := y.inn (F a) (by omega) h.fc h.fq
    refine ⟨by omega, h.fc, ?_, fun j j1 j2 jn => ?_, fun j k j1 j2 k1 k2 jn kn e en => ?_, fun i i1 i2 => ?_, fun j j1 j2 jn hj => ?_, fun j j1 j2 jn hj => ?_, f1, f2, f3, f4, fun q q1 q2 q3 e => ?_, fun q q1 q2 q3 => ?_⟩
    · dsimp only
      rw [if_neg (by omega)]
      exact h.m0
    · dsimp only
      by_cases e : j = a
      · rw [if_pos e]
        exact lt
      · rw [if_neg e]
        exact h.lt j j1 j2 e
    · dsimp only at e en
      by_cases ej : j = a
      · by_cases ek : k = a
        · omega
        · rw [if_pos ej, if_neg ek] at e
          exact absurd (h.inj k (F a) k1 k2 (by omega) h.fc ek nb (by rw [eb]; exact e.symm) (by rw [← e]; exact q)) kn
      · rw [if_neg ej] at e en
        by_cases ek : k = a
        · rw [if_pos ek] at e
          exact absurd (h.inj j (F a) j1 j2 (by omega) h.fc ej nb (by rw [eb]; exact e) en) jn
        · rw [if_neg ek] at e
          exact h.inj j k j1 j2 k1 k2 ej ek e en
    · obtain ⟨j, j1, j2, j3, j4⟩ := h.sur i i1 i2
      by_cases e : j = F a
      · refine ⟨a, a1, a2, Ne.symm nb, ?_⟩
        dsimp only
        rw [if_pos rfl, ← eb, ← e]
        exact j4
      · refine ⟨j, j1, j2, e, ?_⟩
        dsimp only
        rw [if_neg j3]
        exact j4
    · dsimp only at hj ⊢
      by_cases e : j = a
      · rw [if_pos e, e]
        exact h.ft
      · rw [if_neg e] at hj ⊢
        exact h.tig j j1 j2 e hj
    · dsimp only at hj
      by_cases e : j = a
      · rw [if_pos e] at hj
        exact absurd hj q
      · rw [if_neg e] at hj
        exact h.zer j j1 j2 e hj
    · rw [e] at q3
      omega
    · have fr := h.fr
      dsimp only
      rw [if_neg (h.na q q1 q2 (by omega))]
      exact h.old q q1 q2 (by omega)
  · have mrow : M (F a) = row := by rw [b0]; exact hq.m0
    refine ⟨⟨fun j j1 j2 => ?_, fun j k j1 j2 k1 k2 e en => ?_, fun i i1 i2 => ?_⟩, ⟨fun i j i1 i2 j1 j2 => ?_, fun j j1 j2 hj => ?_, fun j j1 j2 => hq.d.neg j j1 j2, fun j j1 j2 hj => ?_⟩⟩
    · dsimp only
      by_cases e : j = a
      · rw [if_pos e, mrow]
        omega
      · have := h.lt j j1 j2 e
        rw [if_neg e]
        omega
    · dsimp only at e en
      rw [mrow] at e en
      by_cases ej : j = a
      · by_cases ek : k = a
        · omega
        · have := h.lt k k1 k2 ek
          rw [if_pos ej, if_neg ek] at e
          omega
      · rw [if_neg ej] at e en
        have lj := h.lt j j1 j2 ej
        by_cases ek : k = a
        · rw [if_pos ek] at e
          omega
        · rw [if_neg ek] at e
          exact h.inj j k j1 j2 k1 k2 ej ek e en
    · by_cases e : i = row
      · refine ⟨a, a1, a2, ?_⟩
        dsimp only
        rw [if_pos rfl, mrow, e]
      · obtain ⟨j, j1, j2, j3, j4⟩ := h.sur i i1 (by omega)
        refine ⟨j, j1, j2, ?_⟩
        dsimp only
        rw [if_neg j3]
        exact j4
    · by_cases e : i = row
      · rw [e]
        exact y.fea j j1 j2
      · exact hq.d.fea i j i1 (by omega) j1 j2
    · dsimp only at hj ⊢
      by_cases e : j = a
      · rw [if_pos e, e]
        exact h.ft
      · rw [if_neg e] at hj ⊢
        exact h.tig j j1 j2 e hj
    · dsimp only at hj
      by_cases e : j = a
      · rw [if_pos e, mrow] at hj
        omega
      · rw [if_neg e] at hj
        exact h.zer j j1 j2 e hj
end PH
