/-! the class's plan of beds -/
def lgR (M vc : Nat → Nat) : Nat → Nat
  | 0 => 0
  | k + 1 => lgR M vc k + (if M (k + 1) ≠ 0 ∧ vc (k + 1) ≠ 5 then 1 else 0)
def wsR (wi : Nat → Nat → Nat) (dd M vc : Nat → Nat) : Nat → Nat
  | 0 => 0
  | k + 1 => wsR wi dd M vc k + (if M (k + 1) ≠ 0 ∧ vc (k + 1) ≠ 5 then wi (dd (M (k + 1))) (vc (k + 1)) else 0)
theorem lgR_I (M vc : Nat → Nat) : ∀ k, (lgR M vc k : Int) = smI (fun j => if M (j + 1) = 0 then 0 else (if vc (j + 1) = 5 then 0 else 1)) k
  | 0 => rfl
  | k + 1 => by
    rw [smI_s, ← lgR_I M vc k]
    show ((lgR M vc k + (if M (k + 1) ≠ 0 ∧ vc (k + 1) ≠ 5 then 1 else 0) : Nat) : Int) = _
    by_cases h1 : M (k + 1) = 0
    · rw [if_neg (fun z => z.1 h1), if_pos h1]
      simp
    · by_cases h2 : vc (k + 1) = 5
      · rw [if_neg (fun z => z.2 h2), if_neg h1, if_pos h2]
        simp
      · rw [if_pos ⟨h1, h2⟩, if_neg h1, if_neg h2]
        simp
theorem wsR_I (wi : Nat → Nat → Nat) (dd M vc : Nat → Nat) : ∀ k, (wsR wi dd M vc k : Int) = smI (fun j => if M (j + 1) = 0 then 0 else (if vc (j + 1) = 5 then 0 else (wi (dd (M (j + 1))) (vc (j + 1)) : Int))) k
  | 0 => rfl
  | k + 1 => by
    rw [smI_s, ← wsR_I wi dd M vc k]
    show ((wsR wi dd M vc k + (if M (k + 1) ≠ 0 ∧ vc (k + 1) ≠ 5 then wi (dd (M (k + 1))) (vc (k + 1)) else 0) : Nat) : Int) = _
    by_cases h1 : M (k + 1) = 0
    · rw [if_neg (fun z => z.1 h1), if_pos h1]
      simp
    · by_cases h2 : vc (k + 1) = 5
      · rw [if_neg (fun z => z.2 h2), if_neg h1, if_pos h2]
        simp
      · rw [if_pos ⟨h1, h2⟩, if_neg h1, if_neg h2]
        simp
theorem gL_dsm {V D : Nat} {ot : Nat → Bool} {x : Nat → Nat} {h : Nat → Int} (hh : ∀ d, d < D → ot d = true → h (rnB ot d + 1) = if x d < V then 1 else 0) : ∀ (k d : Nat), d + k = D → dsm ot h k d = (gL V ot x k d : Int)
  | 0, _, _ => rfl
  | k + 1, d, hk => by
    rw [dsm_s, gL_s, gL_dsm hh k (d + 1) (by omega), Int.natCast_add]
    by_cases e : ot d = true
    · rw [if_pos e, hh d (by omega) e]
      by_cases e2 : x d < V
      · rw [if_pos e2, if_pos ⟨e, e2⟩]
        rfl
      · rw [if_neg e2, if_neg (fun z => e2 z.2)]
        rfl
    · rw [if_neg e, if_neg (fun z => e z.1)]
      rfl
theorem gW_dsm {V D : Nat} {ot : Nat → Bool} {wi : Nat → Nat → Nat} {x : Nat → Nat} {h : Nat → Int} (hh : ∀ d, d < D → ot d = true → h (rnB ot d + 1) = if x d < V then (wi d (x d) : Int) else 0) : ∀ (k d : Nat), d + k = D → dsm ot h k d = (gW V ot wi x k d : Int)
  | 0, _, _ => rfl
  | k + 1, d, hk => by
    rw [dsm_s, gW_s, gW_dsm hh k (d + 1) (by omega), Int.natCast_add]
    by_cases e : ot d = true
    · rw [if_pos e, hh d (by omega) e]
      by_cases e2 : x d < V
      · rw [if_pos e2, if_pos ⟨e, e2⟩]
      · rw [if_neg e2, if_neg (fun z => e2 z.2)]
        rfl
    · rw [if_neg e, if_neg (fun z => e z.1)]
      rfl
/-- the free beds, as one number -/
def rmf (w : Nat → Int32) (V D : Nat) : Nat := csN (fun v => rmB w D v * 4 ^ v) (2 ^ V - 1) V
/-- the reference's choices -/
def rmy (w : Nat → Int32) (V D d : Nat) : Nat := yv V (bsB w D) (bsL w false) (rmI w) D (rmf w V D) d
theorem rmf_bl {w : Nat → Int32} {V F D S N : Nat} (hw : Wf w V F D S N) : rmf w V D < 1024 ∧ ∀ v, v < V → blF (rmf w V D) v = rmB w D v := by
  have h8 := hw.1
  obtain ⟨f1, f2⟩ := fr_bl (b := rmB w D) (s := 2 ^ V - 1) (V := V) h8.1 (by have := Nat.two_pow_pos V; omega) (fun v hv => by
    have := (pkB_n hw hv).2
    unfold rmB
    omega)
  refine ⟨f1, fun v hv => ?_⟩
  have := f2 v hv
  rw [Nat.testBit_two_pow_sub_one, decide_eq_true hv, if_pos rfl] at this
  exact this
section PLN
variable {O : mO} {d u n : Nat} {T : Nat → mT} {I : Nat → Nat → Int32} {J : Nat → Nat → Int64} {R : Nat → Nat → Option Nat} {g V F D S N c r : Nat} {w : Nat → Int32}
/-- which row whose is -/
theorem row_of (w : Nat → Int32) : ∀ D i, 1 ≤ i → i ≤ rnB (bsL w false) D → ∃ k, k < D ∧ bsL w false k = true ∧ rnB (bsL w false) k + 1 = i := by
  intro D
  induction D with
  | zero =>
    intro i i1 i2
    have : rnB (bsL w false) 0 = 0 := rfl
    omega
  | succ D ih =>
    intro i i1 i2
    by_cases hl : i ≤ rnB (bsL w false) D
    · obtain ⟨k, g1, g2, g3⟩ := ih i i1 hl
      exact ⟨k, by omega, g2, g3⟩
    · rw [rnB_s] at i2
      by_cases e : bsL w false D = true
      · rw [if_pos e] at i2
        exact ⟨D, by omega, e, by omega⟩
      · rw [if_neg e] at i2
        omega
theorem c_plan (hS : St n T R) (hG : Gnd n T I R g w V F D S N) (hw : Wf w V F D S N) : ∃ I' J', ev O (d + 7) MX7_plan [.ref 10, .ref g] (hp u n T I J R) = some (none, hp u n T I' J' R) ∧ (∀ a, a ≠ 10 → a ≠ 11 → a ≠ 12 → a ≠ 15 → a ≠ 16 → a ≠ 17 → a ≠ 20 → a ≠ 28 → a ≠ 29 → a ≠ 31 → I' a = I a) ∧ (∀ a, a ≠ 13 → a ≠ 14 → a ≠ 18 → a ≠ 19 → J' a = J a) ∧ I' 10 12 = nI (gL V (bsL w false) (rmy w V D) D 0) ∧ I' 10 13 = nI (gW V (bsL w false) (rmI w) (rmy w V D) D 0) ∧ ∀ k, k < D → I' 11 k = if bsL w false k = true then (if rmy w V D k < V then nI (rmy w V D k) else nI 100) else -1 := by
  have hn := hS.2.1
  have h8 := hw.1
  have h31 := hG.1.2.2.1
  have rD := rnB_le (ot := bsL w false) D
  obtain ⟨I1, J1, e1, a1, a2, sr, cs⟩ := c_setRows (O := O) (d := d) (u := u) (J := J) hS hG hw
  have hG1 : Gnd n T I1 R g w V F D S N := Gnd_cg hG (fun a ha => a1 a (by omega) (by omega) (by omega) (by omega) (by omega) (by omega))
  obtain ⟨I2, J2, c, e2, b1, b2, b3, cl, c23, rc, sm⟩ := c_setCols (O := O) (d := d + 4) (u := u) (J := J1) hS hG1 hw sr.r (by omega)
  -- costs, as they stand
  have cs2 : ∀ k, k < D → bsL w false k = true → (∀ v, v < V → rmC J2 (rnB (bsL w false) k + 1) v = cstV (bsB w D) (rmI w) k v (6 ^ rnF (bsL w false) (D - (k + 1)) (k + 1))) ∧ rmC J2 (rnB (bsL w false) k + 1) 5 = ((5 * 6 ^ rnF (bsL w false) (D - (k + 1)) (k + 1) : Nat) : Int) := by
    unfold rmC
    rw [b3 13 (by decide)]
    exact cs
  have hC : ∀ i j, 1 ≤ i → i ≤ rnB (bsL w false) D → 1 ≤ j → j ≤ c → -536870912 ≤ rmC J2 i (rmV I2 j) ∧ rmC J2 i (rmV I2 j) ≤ 1099511627776 := by
    intro i j i1 i2 j1 j2
    obtain ⟨k, k1, k2, k3⟩ := row_of w D i i1 i2
    obtain ⟨y1, y2⟩ := cs2 k k1 k2
    rw [k3] at y1 y2
    have p8 : 6 ^ rnF (bsL w false) (D - (k + 1)) (k + 1) ≤ 1679616 := Nat.le_trans (Nat.pow_le_pow_right (by decide) (Nat.le_trans (rnF_le _ _) (show D - (k + 1) ≤ 8 by omega))) (by decide)
    rcases (cl.v j j1 j2).2 with z | z
    · have wl := rmI_le w k (rmV I2 j)
      rw [y1 _ z]
      unfold cstV
      split
      · omega
      · have := Nat.mul_le_mul (show rmV I2 j ≤ 5 by omega) p8
        generalize rmV I2 j * 6 ^ rnF (bsL w false) (D - (k + 1)) (k + 1) = q at *
        omega
    · rw [z, y2]
      omega
  have m0 : ∀ j, 1 ≤ j → j ≤ c → rmM I2 j = 0 := fun j j1 j2 => by unfold rmM; rw [cl.m j j1 j2]; rfl
  have hb2 : HB (rnB (bsL w false) D) c (rmV I2) I2 := by
    refine ⟨by omega, c23, rc, by rw [b2 10 (by decide)]; exact sr.r, cl.n, fun j j1 j2 => ?_, fun j j1 j2 => ⟨(cl.v j j1 j2).1, ?_⟩⟩
    · rw [m0 j j1 j2]
      exact ⟨cl.m j j1 j2, by omega⟩
    · rcases (cl.v j j1 j2).2 with z | z <;> omega
  have u0 : ∀ i, 1 ≤ i → i ≤ rnB (bsL w false) D → rmU J2 i = 0 := fun i i1 i2 => by unfold rmU; rw [b3 14 (by decide)]; exact sr.u i i1 i2
  have hp0 : HP (rnB (bsL w false) D) c 1 (fun i j => rmC J2 i (rmV I2 j)) (rmM I2) (rmU J2) (rmW J2) := by
    refine ⟨⟨fun j j1 j2 => by rw [m0 j j1 j2]; omega, fun j k j1 j2 k1 k2 _ h => absurd (m0 j j1 j2) h, fun i i1 i2 => by omega⟩, ⟨fun i j i1 i2 => by omega, fun j j1 j2 h => absurd (m0 j j1 j2) h, fun j j1 j2 => ?_, fun j j1 j2 _ => cl.w j j1 j2⟩, u0, fun i i1 i2 => by rw [u0 i i1 i2]; omega⟩
    have := cl.w j j1 j2
    unfold rmW
    omega
  -- all rows are paired
  have L1 : ∃ z, lupF (fun (q : Int32 × mH) => F_X7_plan_l12 O (d + 6) 10 g q.1 q.2) FU (nI 1, hp u n T I2 J2 R) = some z ∧ (fun z => ∃ I3 J3, z = hp u n T I3 J3 R ∧ HB (rnB (bsL w false) D) c (rmV I2) I3 ∧ HP (rnB (bsL w false) D) c (rnB (bsL w false) D + 1) (fun i j => rmC J3 i (rmV I2 j)) (rmM I3) (rmU J3) (rmW J3) ∧ (∀ a, a ≠ 16 → a ≠ 17 → a ≠ 20 → I3 a = I2 a) ∧ (∀ a, a ≠ 14 → a ≠ 18 → a ≠ 19 → J3 a = J2 a)) z := by
    refine lup_P0 (fun k z => ∃ I3 J3, z = (nI (k + 1), hp u n T I3 J3 R) ∧ HB (rnB (bsL w false) D) c (rmV I2) I3 ∧ HP (rnB (bsL w false) D) c (k + 1) (fun i j => rmC J3 i (rmV I2 j)) (rmM I3) (rmU J3) (rmW J3) ∧ (∀ a, a ≠ 16 → a ≠ 17 → a ≠ 20 → I3 a = I2 a) ∧ (∀ a, a ≠ 14 → a ≠ 18 → a ≠ 19 → J3 a = J2 a)) _ (N := rnB (bsL w false) D) (by omega) ⟨I2, J2, rfl, hb2, hp0, fun _ _ _ _ => rfl, fun _ _ _ _ => rfl⟩ ?_ ?_
    · intro k z hk ⟨I3, J3, hz, x1, x2, x3, x4⟩
      subst hz
      left
      obtain ⟨I4, J4, e4, y1, y2, y3, y4⟩ := c_pair (O := O) (d := d + 4) (u := u) hS x1 (by omega) (by omega) x2 (fun i j i1 i2 j1 j2 => by
        have : rmC J3 i (rmV I2 j) = rmC J2 i (rmV I2 j) := by unfold rmC; rw [x4 13 (by decide) (by decide) (by decide)]
        rw [this]
        exact hC i j i1 i2 j1 j2)
      refine ⟨(nI (k + 1 + 1), hp u n T I4 J4 R), ?_, I4, J4, rfl, y1, y2, fun a h1 h2 h3 => (y3 a h1 h2 h3).trans (x3 a h1 h2 h3), fun a h1 h2 h3 => (y4 a h1 h2 h3).trans (x4 a h1 h2 h3)⟩
      dsimp only
      unfold F_X7_plan_l12
      rw [gi_10_10 hS, Option.bind_some, x1.r, if_neg (fun z => absurd ((nI_ltI (by omega) (by omega)).mp z) (by omega)), vc_10 hS, e4, toV_v, Option.bind_some, nI_add]
    · intro z ⟨I3, J3, hz, x1, x2, x3, x4⟩
      subst hz
      refine ⟨_, ?_, I3, J3, rfl, x1, x2, x3, x4⟩
      dsimp only
      unfold F_X7_plan_l12
      rw [gi_10_10 hS, Option.bind_some, x1.r, if_pos ((nI_ltI (by omega) (by omega)).mpr (by omega))]
  obtain ⟨z3, e3, I3, J3, hz3, hb3, hp3, x3, x4⟩ := L1
  -- the columns of the rows
  have hmx : ∃ m : Nat → Nat, ∀ i, 1 ≤ i → i ≤ rnB (bsL w false) D → 1 ≤ m i ∧ m i ≤ c ∧ rmM I3 (m i) = i := by
    refine ⟨fun i => if h : 1 ≤ i ∧ i ≤ rnB (bsL w false) D then Classical.choose (hp3.m.sur i h.1 (by omega)) else 0, fun i i1 i2 => ?_⟩
    dsimp only
    rw [dif_pos (show 1 ≤ i ∧ i ≤ rnB (bsL w false) D from ⟨i1, i2⟩)]
    exact Classical.choose_spec (hp3.m.sur i i1 (by omega))
  obtain ⟨m, hm⟩ := hmx
  obtain ⟨f1, f2⟩ := rmf_bl hw
  have opt := hung_opt (V := V) (D := D) (r := rnB (bsL w false) D) (c := c) (f0 := rmf w V D) (bar := bsB w D) (ot := bsL w false) (wi := rmI w) (C := rmC J3) (vc := rmV I2) (M := rmM I3) (m := m) (fb := rmB w D) (U := rmU J3) (W := rmW J3) h8.1 h8.2.2.1 (rmI_le w) rfl f1 f2 (by
      unfold rmC
      rw [x4 13 (by decide) (by decide) (by decide)]
      exact cs2) (fun j j1 j2 => (cl.v j j1 j2).2) sm (fun j j1 j2 => by have := hp3.m.lt j j1 j2; omega) hp3.m.inj hm (fun i j i1 i2 j1 j2 => hp3.d.fea i j i1 (by omega) j1 j2) hp3.d.tig hp3.d.neg hp3.d.zer
  have opt : ∀ k, k < D → bsL w false k = true → rmV I2 (m (rnB (bsL w false) k + 1)) = rmy w V D k := opt
  have rows : ∀ k, k < D → bsL w false k = true → rnB (bsL w false) k + 1 ≤ rnB (bsL w false) D := by
    intro k hk ho
    have h1 := rnB_mono (ot := bsL w false) (show k + 1 ≤ D by omega)
    rw [rnB_s, if_pos ho] at h1
    omega
  -- whose row it is
  have ddx : ∃ dd : Nat → Nat, ∀ i, 1 ≤ i → i ≤ rnB (bsL w false) D → dd i < D ∧ bsL w false (dd i) = true ∧ rnB (bsL w false) (dd i) + 1 = i := by
    refine ⟨fun i => if h : 1 ≤ i ∧ i ≤ rnB (bsL w false) D then Classical.choose (row_of w D i h.1 h.2) else 0, fun i i1 i2 => ?_⟩
    dsimp only
    rw [dif_pos (show 1 ≤ i ∧ i ≤ rnB (bsL w false) D from ⟨i1, i2⟩)]
    exact Classical.choose_spec (row_of w D i i1 i2)
  obtain ⟨dd, hdd⟩ := ddx
  have dinj : ∀ i j, 1 ≤ i → i ≤ rnB (bsL w false) D → 1 ≤ j → j ≤ rnB (bsL w false) D → dd i = dd j → i = j := by
    intro i j i1 i2 j1 j2 e
    rw [← (hdd i i1 i2).2.2, ← (hdd j j1 j2).2.2, e]
  have ddr : ∀ k, k < D → bsL w false k = true → dd (rnB (bsL w false) k + 1) = k := by
    intro k hk ho
    obtain ⟨y1, y2, y3⟩ := hdd (rnB (bsL w false) k + 1) (by omega) (rows k hk ho)
    rcases Nat.lt_trichotomy (dd (rnB (bsL w false) k + 1)) k with lt | eq | gt
    · have mm := rnB_mono (ot := bsL w false) (show dd (rnB (bsL w false) k + 1) + 1 ≤ k by omega)
      rw [rnB_s, y2, if_pos rfl] at mm
      omega
    · exact eq
    · have mm := rnB_mono (ot := bsL w false) (show k + 1 ≤ dd (rnB (bsL w false) k + 1) by omega)
      rw [rnB_s, ho, if_pos rfl] at mm
      omega
  have i12 : ∀ i, 1 ≤ i → i ≤ rnB (bsL w false) D → I3 12 i = nI (dd i) := by
    intro i i1 i2
    obtain ⟨y1, y2, y3⟩ := hdd i i1 i2
    have := sr.d (dd i) y1 y2
    rw [y3] at this
    rw [x3 12 (by decide) (by decide) (by decide), b1 12 (by decide) (by decide) (by decide)]
    exact this
  have i11 : I3 11 = I1 11 := by rw [x3 11 (by decide) (by decide) (by decide), b1 11 (by decide) (by decide) (by decide)]
  have hG3 : Gnd n T I3 R g w V F D S N := Gnd_cg hG1 (fun a ha => by rw [x3 a (by omega) (by omega) (by omega), b1 a (by omega) (by omega) (by omega)])
  have lgb : ∀ k, lgR (rmM I3) (rmV I2) k ≤ k := by
    intro k
    induction k with
    | zero => exact Nat.le_refl 0
    | succ k ih =>
      show lgR (rmM I3) (rmV I2) k + _ ≤ _
      split <;> omega
  have wsb : ∀ k, wsR (rmI w) dd (rmM I3) (rmV I2) k ≤ 9 * k := by
    intro k
    induction k with
    | zero => exact Nat.le_refl 0
    | succ k ih =>
      have := rmI_le w (dd (rmM I3 (k + 1))) (rmV I2 (k + 1))
      show wsR (rmI w) dd (rmM I3) (rmV I2) k + _ ≤ _
      split <;> omega
  -- what is written down of it
  have L2 : ∃ z, lupF (fun (q : Int32 × mH) => F_X7_plan_l43 O (d + 6) 10 g q.1 q.2) FU (nI 1, hp u n T (up2 (up2 I3 10 12 (nI 0)) 10 13 (nI 0)) J3 R) = some z ∧ (fun z => ∃ I4, z = hp u n T I4 J3 R ∧ (∀ a, a ≠ 10 → a ≠ 11 → I4 a = I3 a) ∧ I4 10 12 = nI (lgR (rmM I3) (rmV I2) c) ∧ I4 10 13 = nI (wsR (rmI w) dd (rmM I3) (rmV I2) c) ∧ (∀ j, 1 ≤ j → j ≤ c → rmM I3 j ≠ 0 → rmV I2 j ≠ 5 → I4 11 (dd (rmM I3 j)) = nI (rmV I2 j)) ∧ ∀ q, (∀ j, 1 ≤ j → j ≤ c → rmM I3 j ≠ 0 → rmV I2 j ≠ 5 → dd (rmM I3 j) ≠ q) → I4 11 q = I3 11 q) z := by
    refine lup_P0 (fun k z => ∃ I4, z = (nI (k + 1), hp u n T I4 J3 R) ∧ (∀ a, a ≠ 10 → a ≠ 11 → I4 a = I3 a) ∧ I4 10 11 = nI c ∧ I4 10 12 = nI (lgR (rmM I3) (rmV I2) k) ∧ I4 10 13 = nI (wsR (rmI w) dd (rmM I3) (rmV I2) k) ∧ (∀ j, 1 ≤ j → j ≤ k → rmM I3 j ≠ 0 → rmV I2 j ≠ 5 → I4 11 (dd (rmM I3 j)) = nI (rmV I2 j)) ∧ ∀ q, (∀ j, 1 ≤ j → j ≤ k → rmM I3 j ≠ 0 → rmV I2 j ≠ 5 → dd (rmM I3 j) ≠ q) → I4 11 q = I3 11 q) _ (N := c) (by omega) ⟨_, rfl, fun a h1 _ => by rw [up2_off _ _ _ h1, up2_off _ _ _ h1], by rw [up2_nk (by decide), up2_nk (by decide)]; exact hb3.c, by rw [up2_nk (by decide), up2_at]; rfl, up2_at _ _ _ _, fun j j1 j2 => by omega, fun q _ => by rw [up2_na (by decide), up2_na (by decide)]⟩ ?_ ?_
    · intro k z hk ⟨I4, hz, y1, y2, y3, y4, y5, y6⟩
      subst hz
      left
      obtain ⟨q1, q2⟩ := hb3.m (k + 1) (by omega) (by omega)
      obtain ⟨q3, q4⟩ := hb3.v (k + 1) (by omega) (by omega)
      have i16 : I4 16 (k + 1) = nI (rmM I3 (k + 1)) := by rw [y1 16 (by decide) (by decide)]; exact q1
      have i15 : I4 15 (k + 1) = nI (rmV I2 (k + 1)) := by rw [y1 15 (by decide) (by decide)]; exact q3
      have lb := lgb k
      have wb := wsb k
      have top : ∀ z, (if nI (rmM I3 (k + 1)) ≤ 0 then some (.inl ((nI (k + 1) + nI 1), hp u n T I4 J3 R)) else if nI (rmV I2 (k + 1)) = (nI 5) then some (.inl ((nI (k + 1) + nI 1), hp u n T I4 J3 R)) else (gtA (hp u n T I4 J3 R) 10 7 0).bind fun x20 => (gtA (hp u n T I4 J3 R) 10 7 1).bind fun x21 => (rdI O (hp u n T I4 J3 R) x21 (nI (rmM I3 (k + 1)))).bind fun x22 => (wrI (hp u n T I4 J3 R) x20 x22 (nI (rmV I2 (k + 1)))).bind fun K23 => (gtI K23 10 7 12).bind fun x24 => (ptI K23 10 7 12 (x24 + (nI 1))).bind fun K25 => (gtI K25 10 7 13).bind fun x26 => (gtA K25 10 7 1).bind fun x27 => (rdI O K25 x27 (nI (rmM I3 (k + 1)))).bind fun x28 => (toI (vc O (d + 6) 2 MX2_wishOf g [.int x28, .int (nI (rmV I2 (k + 1)))] K25)).bind fun p29 => (ptI p29.2 10 7 13 (x26 + p29.1)).bind fun K30 => some (.inl ((nI (k + 1) + nI 1), K30))) = z → F_X7_plan_l43 O (d + 6) 10 g (nI (k + 1)) (hp u n T I4 J3 R) = z := by
        intro z hz
        unfold F_X7_plan_l43
        rw [gi_10_11 hS, Option.bind_some, y2, if_neg (fun z => absurd ((nI_ltI (by omega) (by omega)).mp z) (by omega)), ga_10_5 hS, Option.bind_some, rd_16 hS (by omega), Option.bind_some, i16, ga_10_4 hS, Option.bind_some, rd_15 hS (by omega), Option.bind_some, i15]
        exact hz
      have stay : ¬ (rmM I3 (k + 1) ≠ 0 ∧ rmV I2 (k + 1) ≠ 5) → ∃ I4', (nI (k + 1 + 1), hp u n T I4 J3 R) = (nI (k + 1 + 1), hp u n T I4' J3 R) ∧ (∀ a, a ≠ 10 → a ≠ 11 → I4' a = I3 a) ∧ I4' 10 11 = nI c ∧ I4' 10 12 = nI (lgR (rmM I3) (rmV I2) (k + 1)) ∧ I4' 10 13 = nI (wsR (rmI w) dd (rmM I3) (rmV I2) (k + 1)) ∧ (∀ j, 1 ≤ j → j ≤ k + 1 → rmM I3 j ≠ 0 → rmV I2 j ≠ 5 → I4' 11 (dd (rmM I3 j)) = nI (rmV I2 j)) ∧ ∀ q, (∀ j, 1 ≤ j → j ≤ k + 1 → rmM I3 j ≠ 0 → rmV I2 j ≠ 5 → dd (rmM I3 j) ≠ q) → I4' 11 q = I3 11 q := by
        intro hn
        refine ⟨I4, rfl, y1, y2, ?_, ?_, fun j j1 j2 j3 j4 => y5 j j1 (by
          by_cases e : j = k + 1
          · subst e
            exact absurd ⟨j3, j4⟩ hn
          · omega) j3 j4, fun q hq => y6 q (fun j j1 j2 => hq j j1 (by omega))⟩
        · show _ = nI (lgR (rmM I3) (rmV I2) k + (if _ then 1 else 0))
          rw [if_neg hn]
          exact y3
        · show _ = nI (wsR (rmI w) dd (rmM I3) (rmV I2) k + (if _ then _ else 0))
          rw [if_neg hn]
          exact y4
      by_cases h1 : rmM I3 (k + 1) = 0
      · refine ⟨_, top _ ?_, stay (fun z => z.1 h1)⟩
        rw [if_pos (by rw [h1]; exact Int32.le_refl _), nI_add]
      · have p1 : ¬ nI (rmM I3 (k + 1)) ≤ 0 := nI_ge (show 0 < rmM I3 (k + 1) by omega) (by omega)
        by_cases h2 : rmV I2 (k + 1) = 5
        · refine ⟨_, top _ ?_, stay (fun z => z.2 h2)⟩
          rw [if_neg p1, if_pos (by rw [h2]), nI_add]
        · have n2 : ¬ nI (rmV I2 (k + 1)) = nI 5 := fun z => h2 ((nI_eq (by omega) (by omega)).mp z)
          have mr : rmM I3 (k + 1) ≤ rnB (bsL w false) D := by have := hp3.m.lt (k + 1) (by omega) (by omega); omega
          obtain ⟨z1, z2, z3'⟩ := hdd (rmM I3 (k + 1)) (by omega) mr
          have vV : rmV I2 (k + 1) < V := (cl.v (k + 1) (by omega) (by omega)).2.resolve_right h2
          have j12 : I4 12 (rmM I3 (k + 1)) = nI (dd (rmM I3 (k + 1))) := by rw [y1 12 (by decide) (by decide)]; exact i12 _ (by omega) mr
          -- the wish
          have hG4 : Gnd n T (up2 (up2 I4 11 (dd (rmM I3 (k + 1))) (nI (rmV I2 (k + 1)))) 10 12 (nI (lgR (rmM I3) (rmV I2) k + 1))) R g w V F D S N := Gnd_cg hG3 (fun a ha => by rw [up2_off _ _ _ (by omega), up2_off _ _ _ (by omega)]; exact y1 a (by omega) (by omega))
          obtain ⟨⟨c1', c2', c3', c4', c5', c6', c7', c8', c9', c10', c11', c12'⟩, r1', r2', r3', r4', r5', r6', r7', r8', -⟩ := id hG4
          have wo := v_wishOf (O := O) (d := d + 5) (u := u) (J := J3) (I := up2 (up2 I4 11 (dd (rmM I3 (k + 1))) (nI (rmV I2 (k + 1)))) 10 12 (nI (lgR (rmM I3) (rmV I2) k + 1))) (e := nI (dd (rmM I3 (k + 1)))) (v := nI (rmV I2 (k + 1))) c2' hn c5' c6' c9' c10'
          obtain ⟨⟨y, v1, v2⟩, -⟩ := hw.2.2.2.2.2.1 (dd (rmM I3 (k + 1))) (rmV I2 (k + 1)) (by omega) (by omega)
          have ey : rmI w (dd (rmM I3 (k + 1))) (rmV I2 (k + 1)) = y := by unfold rmI; rw [nv_n v2 (by omega), Nat.mod_eq_of_lt (by omega)]
          rw [inR_nI z1 (by omega), inR_nI vV (by omega), if_pos (by rfl), nI_clamp (by omega), nI_clamp (by omega), show dd (rmM I3 (k + 1)) * 5 + rmV I2 (k + 1) = 5 * dd (rmM I3 (k + 1)) + rmV I2 (k + 1) by omega, r8' _ _ (by omega) (by omega), v2, ← ey] at wo
          refine ⟨(nI (k + 1 + 1), hp u n T (up2 (up2 (up2 I4 11 (dd (rmM I3 (k + 1))) (nI (rmV I2 (k + 1)))) 10 12 (nI (lgR (rmM I3) (rmV I2) k + 1))) 10 13 (nI (wsR (rmI w) dd (rmM I3) (rmV I2) k + rmI w (dd (rmM I3 (k + 1))) (rmV I2 (k + 1))))) J3 R), top _ ?_, _, rfl, fun a a1 a2 => by rw [up2_off _ _ _ a1, up2_off _ _ _ a1, up2_off _ _ _ a2]; exact y1 a a1 a2, ?_, ?_, ?_, fun j j1 j2 j3 j4 => ?_, fun q hq => ?_⟩
          · rw [if_neg p1, if_neg n2, ga_10_0 hS, Option.bind_some, ga_10_1 hS, Option.bind_some, rd_12 hS (by omega), Option.bind_some, j12, wr_11 hS (by omega), Option.bind_some, gi_10_12 hS, Option.bind_some, up2_na (by decide), y3, nI_add, pi_10_12 hS, Option.bind_some, gi_10_13 hS, Option.bind_some, up2_nk (by decide), up2_na (by decide), y4, ga_10_1 hS, Option.bind_some, rd_12 hS (by omega), Option.bind_some, up2_na (by decide), up2_na (by decide), j12, vc_g c2' hn, wo, toI_i, Option.bind_some]
            dsimp only
            rw [nI_add, pi_10_13 hS, Option.bind_some, nI_add]
          · rw [up2_nk (by decide), up2_nk (by decide), up2_na (by decide)]
            exact y2
          · show _ = nI (lgR (rmM I3) (rmV I2) k + (if _ then 1 else 0))
            rw [if_pos ⟨h1, h2⟩, up2_nk (by decide), up2_at]
          · show _ = nI (wsR (rmI w) dd (rmM I3) (rmV I2) k + (if _ then _ else 0))
            rw [if_pos ⟨h1, h2⟩, up2_at]
          · rw [up2_na (by decide), up2_na (by decide)]
            by_cases e : j = k + 1
            · rw [e, up2_at]
            · have jr : rmM I3 j ≤ rnB (bsL w false) D := by have := hp3.m.lt j j1 (by omega); omega
              rw [up2_nk (fun z => e (hp3.m.inj j (k + 1) j1 (by omega) (by omega) (by omega) (dinj _ _ (by omega) jr (by omega) mr z) j3))]
              exact y5 j j1 (by omega) j3 j4
          · rw [up2_na (by decide), up2_na (by decide), up2_nk (fun z => hq (k + 1) (by omega) (by omega) h1 h2 z.symm)]
            exact y6 q (fun j j1 j2 => hq j j1 (by omega))
    · intro z ⟨I4, hz, y1, y2, y3, y4, y5, y6⟩
      subst hz
      refine ⟨_, ?_, I4, rfl, y1, y3, y4, y5, y6⟩
      dsimp only
      unfold F_X7_plan_l43
      rw [gi_10_11 hS, Option.bind_some, y2, if_pos ((nI_ltI (by omega) (by omega)).mpr (by omega))]
  obtain ⟨z4, e4, I4, hz4, y1, y3, y4, y5, y6⟩ := L2
  -- sums over the columns are the row's
  have yV : ∀ k, k < D → bsL w false k = true → (rmy w V D k < V ↔ rmV I2 (m (rnB (bsL w false) k + 1)) ≠ 5) := by
    intro k hk ho
    obtain ⟨m1, m2, -⟩ := hm (rnB (bsL w false) k + 1) (by omega) (rows k hk ho)
    rw [← opt k hk ho]
    rcases (cl.v _ m1 m2).2 with z | z <;> omega
  have tot : ∀ h : Nat → Int, smI (fun i => h (i + 1)) (rnB (bsL w false) D) = dsm (bsL w false) h D 0 := by
    intro h
    have := dsm_eq (ot := bsL w false) h D 0
    rw [Nat.zero_add] at this
    have z : smI (fun i => h (i + 1)) (rnB (bsL w false) 0) = 0 := rfl
    rw [z] at this
    omega
  have hMr : ∀ j, 1 ≤ j → j ≤ c → rmM I3 j ≤ rnB (bsL w false) D := fun j j1 j2 => by have := hp3.m.lt j j1 j2; omega
  have eL : lgR (rmM I3) (rmV I2) c = gL V (bsL w false) (rmy w V D) D 0 := by
    have q1 := lgR_I (rmM I3) (rmV I2) c
    have q2 := smI_match (M := rmM I3) (m := m) (fun _ j => if rmV I2 j = 5 then 0 else 1) hMr hp3.m.inj hm
    have q3 := gL_dsm (V := V) (D := D) (ot := bsL w false) (x := rmy w V D) (h := fun i => if rmV I2 (m i) = 5 then 0 else 1) (fun k hk ho => by
      have := yV k hk ho
      by_cases e : rmV I2 (m (rnB (bsL w false) k + 1)) = 5
      · rw [if_pos e, if_neg (fun z => this.mp z e)]
      · rw [if_neg e, if_pos (this.mpr e)]) D 0 (by omega)
    have q4 := tot (fun i => if rmV I2 (m i) = 5 then 0 else 1)
    rw [q2, q4, q3] at q1
    omega
  have eW : wsR (rmI w) dd (rmM I3) (rmV I2) c = gW V (bsL w false) (rmI w) (rmy w V D) D 0 := by
    have q1 := wsR_I (rmI w) dd (rmM I3) (rmV I2) c
    have q2 := smI_match (M := rmM I3) (m := m) (fun i j => if rmV I2 j = 5 then 0 else (rmI w (dd i) (rmV I2 j) : Int)) hMr hp3.m.inj hm
    have q3 := gW_dsm (V := V) (D := D) (ot := bsL w false) (wi := rmI w) (x := rmy w V D) (h := fun i => if rmV I2 (m i) = 5 then 0 else (rmI w (dd i) (rmV I2 (m i)) : Int)) (fun k hk ho => by
      have := yV k hk ho
      by_cases e : rmV I2 (m (rnB (bsL w false) k + 1)) = 5
      · rw [if_pos e, if_neg (fun z => this.mp z e)]
      · rw [if_neg e, if_pos (this.mpr e), ddr k hk ho, opt k hk ho]) D 0 (by omega)
    have q4 := tot (fun i => if rmV I2 (m i) = 5 then 0 else (rmI w (dd i) (rmV I2 (m i)) : Int))
    rw [q2, q4, q3] at q1
    omega
  refine ⟨I4, J3, e_X7_plan (d := d + 6) ?_, fun a a1' a2' a3 a4 a5 a6 a7 a8 a9 a10 => ?_, fun a a1' a2' a3 a4 => ?_, by rw [y3, eL], by rw [y4, eW], fun k hk => ?_⟩
  · unfold F_X7_plan
    rw [vc_10 hS, e1, toV_v, Option.bind_some, vc_10 hS, e2, toV_v, Option.bind_some, e3, hz3, Option.bind_some, pi_10_12 hS, Option.bind_some, pi_10_13 hS, Option.bind_some, e4, hz4]
    rfl
  · rw [y1 a a1' a2', x3 a a5 a6 a7, b1 a a1' a4 a5]
    exact a1 a a1' a2' a3 a8 a9 a10
  · rw [x4 a a2' a3 a4, b3 a a3]
    exact a2 a a1' a2'
  · cases ho : bsL w false k with
    | false =>
      rw [if_neg (by decide), y6 k (fun j j1 j2 j3 j4 e => ?_), i11, sr.v k hk, ho]
      · rfl
      · have := (hdd (rmM I3 j) (by omega) (hMr j j1 j2)).2.1
        rw [e, ho] at this
        cases this
    | true =>
      obtain ⟨m1, m2, m3⟩ := hm (rnB (bsL w false) k + 1) (by omega) (rows k hk ho)
      have yv' := yV k hk ho
      rw [if_pos rfl]
      by_cases hy : rmy w V D k < V
      · have := y5 _ m1 m2 (by omega) (yv'.mp hy)
        rw [m3, ddr k hk ho, opt k hk ho] at this
        rw [if_pos hy]
        exact this
      · rw [if_neg hy, y6 k (fun j j1 j2 j3 j4 e => ?_), i11, sr.v k hk, ho, if_pos rfl]
        have e2 := dinj (rmM I3 j) (rnB (bsL w false) k + 1) (by omega) (hMr j j1 j2) (by omega) (rows k hk ho) (by rw [e, ddr k hk ho])
        have e3 := hp3.m.inj j (m (rnB (bsL w false) k + 1)) j1 j2 m1 m2 (by rw [e2, m3]) j3
        rw [e3] at j4
        exact hy (yv'.mpr j4)
end PLN
