/-! the row: what stands on the ground, as the reference keeps it; both sides are told by it -/
/-- a place of the row is a number, m at most -/
def Bd (w : Nat → Int32) (k m : Nat) : Prop := w k = nI (nv w k) ∧ nv w k ≤ m
theorem nv_of {w : Nat → Int32} {k x : Nat} (h : w k = nI x) (hx : x < 2 ^ 31) : nv w k = x := by
  unfold nv
  rw [h, nI_clamp hx]
theorem Bd_of {w : Nat → Int32} {k m x : Nat} (h : w k = nI x) (hx : x ≤ m) (hm : m < 2 ^ 31) : Bd w k m := by
  have e := nv_of h (by omega)
  exact ⟨by rw [e]; exact h, by omega⟩
theorem Bd_cg {w w' : Nat → Int32} {k m : Nat} (e : w' k = w k) (h : Bd w k m) : Bd w' k m := by
  unfold Bd nv at h ⊢
  rw [e]
  exact h
theorem nv_cg {w w' : Nat → Int32} {k : Nat} (e : w' k = w k) : nv w' k = nv w k := by
  unfold nv
  rw [e]
theorem cnt_cg {f f' : Nat → Int32} {v : Int32} : ∀ k, (∀ j, j < k → f' j = f j) → cnt f' v k = cnt f v k
  | 0, _ => rfl
  | k + 1, h => by
    unfold cnt
    rw [h k (by omega), cnt_cg k (fun j hj => h j (by omega))]
/-- one of the dead lies somewhere, or is out -/
def WhO (w : Nat → Int32) (k : Nat) : Prop := (w (9 + k) = -1 ∧ w (17 + k) = nI 0) ∨ (Bd w (9 + k) 4 ∧ Bd w (17 + k) 99 ∧ (k < nv w 2 → nv w (9 + k) < nv w 0 ∧ 1 ≤ nv w (17 + k)))
/-- who lies where -/
abbrev whr (w : Nat → Int32) : Nat → Int32 := fun j => w (9 + j)
/-- the row is sound -/
def WOK (w : Nat → Int32) : Prop := (Bd w 0 5 ∧ Bd w 1 4 ∧ Bd w 2 8 ∧ Bd w 3 8 ∧ Bd w 4 6) ∧ (w 5 = -1 ∨ (Bd w 5 5 ∧ nv w 5 < nv w 4)) ∧ (Bd w 6 999 ∧ Bd w 7 10 ∧ Bd w 8 9) ∧ (∀ k, k < 8 → WhO w k) ∧ (∀ k, k < 8 → Bd w (25 + k) 1) ∧ (∀ k, k < 4 → Bd w (33 + k) 999) ∧ (∀ k, k < 5 → Bd w (37 + k) 3 ∧ (k < nv w 0 → 1 ≤ nv w (37 + k))) ∧
  (∀ k, k < 8 → Bd w (42 + k) 3 ∧ (k < nv w 2 → nv w (42 + k) < nv w 1)) ∧ (∀ k, k < 40 → Bd w (50 + k) 9) ∧ (∀ e v, e < 8 → v < 5 → (nv w 2 ≤ e ∨ nv w 0 ≤ v) → w (50 + 5 * e + v) = nI 0) ∧ (∀ e, e < 8 → nv w 2 ≤ e → w (25 + e) = nI 0) ∧ (∀ k, k < 8 → Bd w (90 + 2 * k) 99 ∧ Bd w (91 + 2 * k) 1) ∧ (∀ v, v < nv w 0 → cnt (whr w) (nI v) (nv w 2) ≤ nv w (37 + v))
section WOKS
variable {w w' : Nat → Int32}
theorem WOK.v (h : WOK w) : w 0 = nI (nv w 0) ∧ nv w 0 ≤ 5 := h.1.1
theorem WOK.f (h : WOK w) : w 1 = nI (nv w 1) ∧ nv w 1 ≤ 4 := h.1.2.1
theorem WOK.d (h : WOK w) : w 2 = nI (nv w 2) ∧ nv w 2 ≤ 8 := h.1.2.2.1
theorem WOK.s (h : WOK w) : w 3 = nI (nv w 3) ∧ nv w 3 ≤ 8 := h.1.2.2.2.1
theorem WOK.l (h : WOK w) : w 4 = nI (nv w 4) ∧ nv w 4 ≤ 6 := h.1.2.2.2.2
theorem WOK.fo (h : WOK w) : w 5 = -1 ∨ (Bd w 5 5 ∧ nv w 5 < nv w 4) := h.2.1
theorem WOK.y (h : WOK w) : w 6 = nI (nv w 6) ∧ nv w 6 ≤ 999 := h.2.2.1.1
theorem WOK.di (h : WOK w) : w 7 = nI (nv w 7) ∧ nv w 7 ≤ 10 := h.2.2.1.2.1
theorem WOK.mo (h : WOK w) : w 8 = nI (nv w 8) ∧ nv w 8 ≤ 9 := h.2.2.1.2.2
theorem WOK.wh (h : WOK w) {k : Nat} (hk : k < 8) : WhO w k := h.2.2.2.1 k hk
theorem WOK.kn (h : WOK w) {k : Nat} (hk : k < 8) : w (25 + k) = nI (nv w (25 + k)) ∧ nv w (25 + k) ≤ 1 := h.2.2.2.2.1 k hk
theorem WOK.me (h : WOK w) {k : Nat} (hk : k < 4) : w (33 + k) = nI (nv w (33 + k)) ∧ nv w (33 + k) ≤ 999 := h.2.2.2.2.2.1 k hk
theorem WOK.be (h : WOK w) {k : Nat} (hk : k < 5) : w (37 + k) = nI (nv w (37 + k)) ∧ nv w (37 + k) ≤ 3 := (h.2.2.2.2.2.2.1 k hk).1
theorem WOK.be1 (h : WOK w) {k : Nat} (hk : k < nv w 0) : 1 ≤ nv w (37 + k) := (h.2.2.2.2.2.2.1 k (by have := h.v; omega)).2 hk
theorem WOK.fa (h : WOK w) {k : Nat} (hk : k < 8) : w (42 + k) = nI (nv w (42 + k)) ∧ nv w (42 + k) ≤ 3 := (h.2.2.2.2.2.2.2.1 k hk).1
theorem WOK.fa1 (h : WOK w) {k : Nat} (hk : k < nv w 2) : nv w (42 + k) < nv w 1 := (h.2.2.2.2.2.2.2.1 k (by have := h.d; omega)).2 hk
theorem WOK.wi (h : WOK w) {k : Nat} (hk : k < 40) : w (50 + k) = nI (nv w (50 + k)) ∧ nv w (50 + k) ≤ 9 := h.2.2.2.2.2.2.2.2.1 k hk
theorem WOK.wi0 (h : WOK w) {e v : Nat} (he : e < 8) (hv : v < 5) (hz : nv w 2 ≤ e ∨ nv w 0 ≤ v) : w (50 + 5 * e + v) = nI 0 := h.2.2.2.2.2.2.2.2.2.1 e v he hv hz
theorem WOK.kn0 (h : WOK w) {e : Nat} (he : e < 8) (hz : nv w 2 ≤ e) : w (25 + e) = nI 0 := h.2.2.2.2.2.2.2.2.2.2.1 e he hz
theorem WOK.se (h : WOK w) {k : Nat} (hk : k < 8) : w (90 + 2 * k) = nI (nv w (90 + 2 * k)) ∧ nv w (90 + 2 * k) ≤ 99 := (h.2.2.2.2.2.2.2.2.2.2.2.1 k hk).1
theorem WOK.so (h : WOK w) {k : Nat} (hk : k < 8) : w (91 + 2 * k) = nI (nv w (91 + 2 * k)) ∧ nv w (91 + 2 * k) ≤ 1 := (h.2.2.2.2.2.2.2.2.2.2.2.1 k hk).2
theorem WOK.fu (h : WOK w) {v : Nat} (hv : v < nv w 0) : cnt (whr w) (nI v) (nv w 2) ≤ nv w (37 + v) := h.2.2.2.2.2.2.2.2.2.2.2.2 v hv
theorem WOK.vo (h : WOK w) {k : Nat} (hk : k < 8) : VoK (w (9 + k)) := by
  rcases h.wh hk with ⟨h1, -⟩ | ⟨⟨h1, h2⟩, -⟩
  · exact Or.inl h1
  · exact Or.inr ⟨nv w (9 + k), by omega, h1⟩
theorem WOK.te (h : WOK w) {k : Nat} (hk : k < 8) : w (17 + k) = nI (nv w (17 + k)) ∧ nv w (17 + k) ≤ 99 := by
  rcases h.wh hk with ⟨-, h1⟩ | ⟨-, h1, -⟩
  · exact Bd_of h1 (by decide) (by decide)
  · exact h1
/-- one who is in -/
theorem WOK.isin (h : WOK w) {k : Nat} (hk : k < nv w 2) (hi : w (9 + k) ≠ -1) : w (9 + k) = nI (nv w (9 + k)) ∧ nv w (9 + k) < nv w 0 ∧ 1 ≤ nv w (17 + k) := by
  rcases h.wh (show k < 8 by have := h.d; omega) with ⟨h1, -⟩ | ⟨⟨h1, -⟩, -, h2⟩
  · exact absurd h1 hi
  · exact ⟨h1, h2 hk⟩
theorem WOK.isout (h : WOK w) {k : Nat} (hk : k < 8) (hi : w (9 + k) = -1) : w (17 + k) = nI 0 := by
  rcases h.wh hk with ⟨-, h1⟩ | ⟨⟨h1, h2⟩, -, -⟩
  · exact h1
  · rw [hi] at h1
    exact absurd h1.symm (nI_ne1 (by omega))
/-- a row that differs where acts write -/
theorem WOK_act (h : WOK w) (ho : ∀ k, (k < 6 ∨ k = 7 ∨ k = 8 ∨ 37 ≤ k) → w' k = w k) (hy : Bd w' 6 999) (hwh : ∀ k, k < 8 → WhO w' k) (hkn : ∀ k, k < 8 → Bd w' (25 + k) 1 ∧ (nv w 2 ≤ k → w' (25 + k) = nI 0)) (hme : ∀ k, k < 4 → Bd w' (33 + k) 999) (hfu : ∀ v, v < nv w 0 → cnt (whr w') (nI v) (nv w 2) ≤ nv w (37 + v)) : WOK w' := by
  have c : ∀ k, (k < 6 ∨ k = 7 ∨ k = 8 ∨ 37 ≤ k) → nv w' k = nv w k := fun k hk => nv_cg (ho k hk)
  obtain ⟨⟨a0, a1, a2, a3, a4⟩, b, ⟨b6, b7, b8⟩, -, -, -, c1, c2, c3, c4, -, c6, -⟩ := h
  refine ⟨⟨Bd_cg (ho _ (by omega)) a0, Bd_cg (ho _ (by omega)) a1, Bd_cg (ho _ (by omega)) a2, Bd_cg (ho _ (by omega)) a3, Bd_cg (ho _ (by omega)) a4⟩, ?_, ⟨hy, Bd_cg (ho _ (by omega)) b7, Bd_cg (ho _ (by omega)) b8⟩, hwh, fun k hk => (hkn k hk).1, hme, ?_, ?_, ?_, ?_, ?_, ?_, ?_⟩
  · rcases b with b | ⟨b, b'⟩
    · exact Or.inl ((ho _ (by omega)).trans b)
    · exact Or.inr ⟨Bd_cg (ho _ (by omega)) b, by rw [c 5 (by omega), c 4 (by omega)]; exact b'⟩
  · intro k hk
    rw [c 0 (by omega), c (37 + k) (by omega)]
    exact ⟨Bd_cg (ho _ (by omega)) (c1 k hk).1, (c1 k hk).2⟩
  · intro k hk
    rw [c 1 (by omega), c 2 (by omega), c (42 + k) (by omega)]
    exact ⟨Bd_cg (ho _ (by omega)) (c2 k hk).1, (c2 k hk).2⟩
  · intro k hk
    exact Bd_cg (ho _ (by omega)) (c3 k hk)
  · intro e v he hv
    rw [c 0 (by omega), c 2 (by omega), ho _ (by omega)]
    exact c4 e v he hv
  · intro e he
    rw [c 2 (by omega)]
    exact (hkn e he).2
  · intro k hk
    exact ⟨Bd_cg (ho _ (by omega)) (c6 k hk).1, Bd_cg (ho _ (by omega)) (c6 k hk).2⟩
  · intro v
    rw [c 0 (by omega), c 2 (by omega), c (37 + v) (by omega)]
    exact hfu v
theorem rk_cg2 {oc ac oc' ac' : Nat → Nat} {lf : Nat → Nat → Int64} {last : Nat} (hl : ∀ k, k < last → oc' k = oc k ∧ ac' k = ac k) : ∀ (G k m : Nat) (X : Nat → Int64), rk oc' ac' lf last G k m X = rk oc ac lf last G k m X := by
  intro G
  induction G with
  | zero =>
    intro k m X
    rfl
  | succ G ih =>
    intro k m X
    unfold rk
    by_cases h1 : last ≤ k
    · rw [if_pos h1, if_pos h1]
    · rw [if_neg h1, if_neg h1, (hl k (by omega)).1, (hl k (by omega)).2]
      simp only [ih]
/-- the laws of the row are sound -/
def LwsOK (w : Nat → Int32) : Prop := ∀ l, l < nv w 4 → LwM w (110 + 900 * l)
theorem LwM_cg {lb : Nat} (h : ∀ k, k < 900 → w' (lb + k) = w (lb + k)) (hL : LwM w lb) : LwM w' lb := by
  obtain ⟨cc, nc, hcc, hnc, hw1, hcode, hkind, hpt, hrk⟩ := hL
  have e : ∀ k, k < 900 → nv w' (lb + k) = nv w (lb + k) := fun k hk => nv_cg (h k hk)
  have es : ∀ (S : Nat → Int64) (a b : Nat), b ≤ nc → rkS w' lb S a b = rkS w lb S a b := by
    intro S a b hb
    unfold rkS
    refine rk_cg2 ?_ _ _ _ _
    intro k hk
    unfold ocR acR
    rw [Nat.add_assoc, Nat.add_assoc, Nat.add_assoc, e _ (by omega), e _ (by omega)]
    exact ⟨rfl, rfl⟩
  have ep : ∀ c j, c < cc → j ≤ 7 → w' (lb + 2 + 8 * c + j) = w (lb + 2 + 8 * c + j) := by
    intro c j hc hj
    rw [Nat.add_assoc, Nat.add_assoc]
    exact h _ (by omega)
  refine ⟨cc, nc, hcc, hnc, by rw [h 1 (by omega)]; exact hw1, ?_, ?_, ?_, ?_⟩
  · intro k hk
    obtain ⟨o, a, g1, g2, g3⟩ := hcode k hk
    rw [Nat.add_assoc] at g1
    rw [Nat.add_assoc, Nat.add_assoc] at g2
    refine ⟨o, a, ?_, ?_, g3⟩
    · rw [Nat.add_assoc, h _ (by omega)]
      exact g1
    · rw [Nat.add_assoc, Nat.add_assoc, h _ (by omega)]
      exact g2
  · intro c hc
    have := ep c 0 hc (by omega)
    rw [Nat.add_zero] at this
    rw [this]
    exact hkind c hc
  · intro c j hc h3 h6
    rw [ep c j hc (by omega)]
    exact hpt c j hc h3 h6
  · intro S c hc
    obtain ⟨a4, ha4, e4⟩ := hpt c 4 hc (by decide) (by decide)
    obtain ⟨a6, ha6, e6⟩ := hpt c 6 hc (by decide) (by decide)
    rw [nv_cg (ep c 3 hc (by omega)), nv_cg (ep c 4 hc (by omega)), nv_cg (ep c 5 hc (by omega)), nv_cg (ep c 6 hc (by omega)), es S _ _ (by rw [nv_of e4 (by omega)]; exact ha4), es S _ _ (by rw [nv_of e6 (by omega)]; exact ha6)]
    exact hrk S c hc
theorem LwsOK_act (h : LwsOK w) (hw : WOK w) (ho : ∀ k, (k < 6 ∨ k = 7 ∨ k = 8 ∨ 37 ≤ k) → w' k = w k) : LwsOK w' := by
  intro l hl
  rw [nv_cg (ho 4 (by omega))] at hl
  exact LwM_cg (fun k hk => ho _ (by omega)) (h l hl)
theorem FcM_of (h : LwsOK w) (hw : WOK w) : FcM w := by
  rcases hw.fo with e | ⟨⟨e1, e2⟩, e3⟩
  · exact Or.inl e
  · exact Or.inr ⟨nv w 5, by omega, e1, h _ e3⟩
/-! what is priced, lasts, is earned, as numbers -/
theorem wiF_of (v : Int64) {lo hi : Nat} (hl : lo ≤ hi) (hh : hi < 2 ^ 31) : wiF v (nI lo) (nI hi) = nI (wiF v (nI lo) (nI hi)).toNatClampNeg ∧ lo ≤ (wiF v (nI lo) (nI hi)).toNatClampNeg ∧ (wiF v (nI lo) (nI hi)).toNatClampNeg ≤ hi := by
  have key : ∃ x, lo ≤ x ∧ x ≤ hi ∧ wiF v (nI lo) (nI hi) = nI x := by
    unfold wiF
    split
    · exact ⟨lo, by omega, hl, rfl⟩
    · rename_i h1
      split
      · exact ⟨hi, hl, by omega, rfl⟩
      · rename_i h2
        rw [nI_l (by omega), Int64.lt_iff_toInt_lt, lN_toInt (by omega)] at h1
        rw [nI_l (by omega), Int64.lt_iff_toInt_lt, lN_toInt (by omega)] at h2
        refine ⟨v.toInt.toNat, by omega, by omega, ?_⟩
        apply Int32.toInt_inj.mp
        rw [nI_toInt (by omega)]
        have hb := Int64.toInt32_toInt v
        omega
  obtain ⟨x, h1, h2, h3⟩ := key
  rw [h3, nI_clamp (by omega)]
  exact ⟨rfl, h1, h2⟩
def prN (w : Nat → Int32) (k : Nat) : Nat := (prR w (nv w 2) k).toNatClampNeg
def laN (w : Nat → Int32) (k : Nat) : Nat := (laR w (nv w 2) k).toNatClampNeg
def eaN (w : Nat → Int32) (f : Nat) : Nat := (eaR w f).toNatClampNeg
theorem prN_of (w : Nat → Int32) (k : Nat) : prR w (nv w 2) k = nI (prN w k) ∧ 1 ≤ prN w k ∧ prN w k ≤ 99 := wiF_of _ (by decide) (by decide)
theorem laN_of (w : Nat → Int32) (k : Nat) : laR w (nv w 2) k = nI (laN w k) ∧ 1 ≤ laN w k ∧ laN w k ≤ 20 := wiF_of _ (by decide) (by decide)
theorem eaN_of (w : Nat → Int32) (f : Nat) : eaR w f = nI (eaN w f) ∧ 0 ≤ eaN w f ∧ eaN w f ≤ 99 := wiF_of _ (by decide) (by decide)
theorem wiF_nI {x lo hi : Nat} (hl : lo ≤ x) (hx : x < 2 ^ 31) (hlh : lo ≤ hi) (hh : hi < 2 ^ 31) : wiF (nI x).toInt64 (nI lo) (nI hi) = nI (min hi x) := by
  unfold wiF
  rw [nI_l hx, nI_l (by omega), nI_l hh, if_neg (fun z => by rw [lN_lt hx (by omega)] at z; omega)]
  by_cases h : hi < x
  · rw [if_pos ((lN_lt hh hx).mpr h), Nat.min_eq_left (by omega)]
  · rw [if_neg (fun z => h ((lN_lt hh hx).mp z)), Nat.min_eq_right (by omega), lN_i]
end WOKS
