/-! what holds between the class and the reference, between two calls -/
theorem up2_self {α : Type} (F : Nat → Nat → α) (a k : Nat) (x : α) : up2 F a k x a = upK (F a) k x := by
  rw [up2_row]
  rfl
/-- a number up to b -/
def Nn (x : Int32) (b : Nat) : Prop := ∃ a, a ≤ b ∧ x = nI a
/-- the part of a row that can be undone is sound -/
def WfS (z : Nat → Int32) (bd : Nat → Int32) (V F D : Nat) : Prop :=
  Nn (z 6) 999 ∧ Nn (z 7) 10 ∧ Nn (z 8) 9 ∧
  (∀ k, k < D → (z (9 + k) = -1 ∧ z (17 + k) = nI 0) ∨ ∃ v t, v < V ∧ 1 ≤ t ∧ t ≤ 99 ∧ z (9 + k) = nI v ∧ z (17 + k) = nI t) ∧
  (∀ k, k < 8 → Nn (z (25 + k)) 1 ∧ (D ≤ k → z (25 + k) = nI 0)) ∧
  (∀ k, k < F → Nn (z (33 + k)) 999) ∧
  (∀ v, v < V → ∃ b, bd v = nI b ∧ 1 ≤ b ∧ b ≤ 3 ∧ cnt (fun j => z (9 + j)) (nI v) D ≤ b)
/-- a row is sound -/
def Wf (w : Nat → Int32) (V F D S N : Nat) : Prop :=
  (V ≤ 5 ∧ F ≤ 4 ∧ D ≤ 8 ∧ S ≤ 8 ∧ (N ≤ 6 ∧ (0 < D → 0 < V))) ∧ (w 0 = nI V ∧ w 1 = nI F ∧ w 2 = nI D ∧ w 3 = nI S ∧ w 4 = nI N) ∧
  (w 5 = -1 ∨ ∃ l, l < N ∧ w 5 = nI l) ∧ WfS w (fun v => w (37 + v)) V F D ∧
  (∀ k, k < D → ∃ f, f < F ∧ w (42 + k) = nI f) ∧
  (∀ d v, d < 8 → v < 5 → Nn (w (50 + 5 * d + v)) 9 ∧ (D ≤ d ∨ V ≤ v → w (50 + 5 * d + v) = nI 0)) ∧
  (∀ k, k < S → Nn (w (90 + 2 * k)) 99 ∧ Nn (w (90 + 2 * k + 1)) 1) ∧
  (∀ l, l < N → LwM w (110 + 900 * l))
/-- the words of a law, of the class (X) and of the reference (S) -/
def WR (X : Int32 → Int32) (S : Nat → Int64) : Prop := S 1 = (X (nI 0)).toInt64 ∧ S 2 = (X (nI 1)).toInt64 ∧ S 3 = (X (nI 2)).toInt64 ∧ S 4 = (X (nI 6)).toInt64 ∧ S 5 = (X (nI 7)).toInt64 ∧ S 6 = (X (nI 3)).toInt64 ∧ S 7 = (X (nI 4)).toInt64 ∧ S 8 = (X (nI 8)).toInt64 ∧ S 9 = (X (nI 5)).toInt64
/-- the law at p tells as the one in the row -/
def LwEq (I : Nat → Nat → Int32) (p : Nat) (w : Nat → Int32) (lb : Nat) : Prop :=
  nv w (lb + 1) = (I p 3).toNatClampNeg ∧ ∀ c, c < nv w (lb + 1) → I (p + 2) (c * 6) = w (lb + 2 + 8 * c) ∧
  ∀ (X : Int32 → Int32) (S : Nat → Int64), WR X S → teR w lb S c = decide ((woC (I (p + 1)) (I (p + 2)) X (I p 2).toNatClampNeg c 4).getD (nI 0) = nI 1) ∧
    (w (lb + 2 + 8 * c) ≠ nI 3 → (rkS w lb S (nv w (lb + 2 + 8 * c + 3)) (nv w (lb + 2 + 8 * c + 4))).getD none = (woC (I (p + 1)) (I (p + 2)) X (I p 2).toNatClampNeg c 2).map Int32.toInt64)
/-- one knocked -/
def kb (x : Int32) (k : Nat) : Int32 := (x >>> (nI k &&& 31)) &&& nI 1
/-- the ground at g is the row w -/
def Gnd (n : Nat) (T : Nat → mT) (I : Nat → Nat → Int32) (R : Nat → Nat → Option Nat) (g : Nat) (w : Nat → Int32) (V F D S N : Nat) : Prop :=
  GrN n T I R g V F D N ∧ I g 15 = nI S ∧ I g 17 = w 5 ∧
  (∀ k, k < 5 → I (g + 1) k = w (37 + k)) ∧ (∀ k, k < 4 → I (g + 2) k = w (33 + k)) ∧ (∀ k, k < 8 → I (g + 3) k = w (42 + k)) ∧ (∀ k, k < 8 → I (g + 4) k = w (9 + k)) ∧ (∀ k, k < 8 → I (g + 5) k = w (17 + k)) ∧
  (∀ d v, d < 8 → v < 5 → I (g + 6) (5 * d + v) = w (50 + 5 * d + v)) ∧ (∀ k, k < 8 → I (g + 7) k = w (90 + 2 * k) ∧ I (g + 8) k = w (90 + 2 * k + 1)) ∧ (∀ k, k < 3 → I (g + 9) k = w (6 + k)) ∧
  (∀ k, k < 8 → kb (I g 14) k = w (25 + k)) ∧
  (∀ l, l < N → ∃ p sc cc, R (g + 10) l = some p ∧ 97 < p ∧ PrV n T I R p sc cc ∧ LwEq I p w (110 + 900 * l))
/-- which ground and which history stand -/
def GH (R : Nat → Nat → Option Nat) (g h : Nat) : Prop := (g = 32 ∧ h = 26 ∧ R 54 2 = some 58 ∧ R 54 3 = some 56 ∨ g = 58 ∧ h = 56 ∧ R 54 2 = some 32 ∧ R 54 3 = some 26) ∧ R 0 10 = some g ∧ R 0 11 = some h
/-- a row of what was (hr, at y) is the reference's (z) -/
def HsR (hr : Nat → Int32) (y : Nat) (z : Nat → Int32) : Prop :=
  hr (y * 23 + 1) = z 6 ∧ (∀ k, k < 8 → kb (hr (y * 23 + 2)) k = z (25 + k)) ∧ (∀ k, k < 4 → hr (y * 23 + 3 + k) = z (33 + k)) ∧ (∀ k, k < 8 → hr (y * 23 + 7 + k) = z (9 + k)) ∧ (∀ k, k < 8 → hr (y * 23 + 15 + k) = z (17 + k))
/-- the reference's j-th snapshot, by the places of the row -/
def snp (u74 : Nat → Int32) (j : Nat) : Nat → Int32 := fun i => u74 (31 * j + (i - 6))
/-- what can be undone: x the next place, s how many -/
def Und (ih hr u69 u74 u75 w : Nat → Int32) (V F D x s : Nat) : Prop :=
  (ih 1 = nI x ∧ x < 17 ∧ ih 2 = nI s ∧ s ≤ 16 ∧ u69 8 = nI s) ∧
  ∀ j, j < s → hr ((x + 16 - j) % 17 * 23) = u75 (s - 1 - j) ∧ Nn (u75 (s - 1 - j)) 3 ∧ HsR hr ((x + 16 - j) % 17) (snp u74 (s - 1 - j)) ∧ snp u74 (s - 1 - j) 7 = w 7 ∧ snp u74 (s - 1 - j) 8 = w 8 ∧ WfS (snp u74 (s - 1 - j)) (fun v => w (37 + v)) V F D
/-- the images -/
def Img (n : Nat) (T : Nat → mT) (I : Nat → Nat → Int32) (R : Nat → Nat → Option Nat) (k : Nat) : Prop :=
  (I 73 k = nI 0 ∧ R 25 k = none) ∨ (I 73 k = nI 1 ∧ ∃ p V F D S N, R 25 k = some p ∧ 97 < p ∧ Gnd n T I R p (fun i => I 72 (5510 * k + i)) V F D S N ∧ Wf (fun i => I 72 (5510 * k + i)) V F D S N)
/-- a ground's places for laws: empty, or programs -/
def RfG (n : Nat) (T : Nat → mT) (R : Nat → Nat → Option Nat) (g : Nat) : Prop := ∀ l, l < 6 → R (g + 10) l = none ∨ ∃ p, R (g + 10) l = some p ∧ p < n ∧ 97 < p ∧ T p = (100 + 5, kd5)
def RfI (n : Nat) (T : Nat → mT) (R : Nat → Nat → Option Nat) : Prop := ∀ g, g = 32 ∨ g = 58 ∨ R 25 0 = some g ∨ R 25 1 = some g → RfG n T R g
def Imgs (n : Nat) (T : Nat → mT) (I : Nat → Nat → Int32) (R : Nat → Nat → Option Nat) : Prop := Img n T I R 0 ∧ Img n T I R 1 ∧ (∀ p, R 25 0 = some p → R 25 1 = some p → False) ∧ RfI n T R
/-- the tapes -/
def Tap (i0 u69 t23 t78 : Nat → Int32) : Prop := ∃ t, t ≤ 400 ∧ i0 12 = nI t ∧ u69 13 = nI t ∧ ∀ k, k < t → t23 k &&& 255 = t78 k ∧ Nn (t78 k) 255
/-- small things that both keep -/
def Sml (i0 u69 r24 r70 : Nat → Int32) : Prop := (i0 13 = u69 18 ∧ i0 14 = u69 50 ∧ i0 15 = u69 11 ∧ i0 16 = u69 1 ∧ u69 20 = nI 0) ∧ (r24 0 = r70 1 ∧ r24 1 = r70 2 ∧ r24 2 = r70 3 ∧ r24 3 = r70 5 ∧ r24 4 = r70 6)
/-- the latest centuries -/
def Drn (I : Nat → Nat → Int32) (u69 u97 : Nat → Int32) : Prop := ∃ D F, D ≤ 8 ∧ F ≤ 4 ∧ I 43 13 = nI D ∧ I 43 12 = nI F ∧ ((D = 0 ∧ F = 0 ∧ u69 54 = -1 ∧ u69 55 = -1) ∨ (u69 54 = nI D ∧ u69 55 = nI F ∧ (∀ k, k < 8 → I 47 k = u97 (3 + k) ∧ I 48 k = u97 (11 + k)) ∧ (∀ k, k < 4 → I 45 k = u97 (27 + k))))
/-- the reference's words -/
def Cns (J : Nat → Nat → Int64) : Prop := (∀ k, k < 9 → J 84 k = ([136228, 202810777, 23123348, 661069, 13796819, 70803, 215205, 824370, 441828] : List Int64).getD k 0) ∧ (∀ k, k < 6 → J 85 k = ([824370, 146885, 404362868, 317301893, 661069, 13796819] : List Int64).getD k 0) ∧ (∀ k, k < 4 → J 86 k = ([556043443, 12635795, 5294547, 67155] : List Int64).getD k 0) ∧ (∀ k, k < 4 → J 95 k = ([19052727, 13078757, 12008555, 525939] : List Int64).getD k 0)
/-- WHAT HOLDS between two calls -/
def IvW (c u n : Nat) (T : Nat → mT) (I : Nat → Nat → Int32) (J : Nat → Nat → Int64) (R : Nat → Nat → Option Nat) (g h V F D S N x s : Nat) : Prop :=
  (St n T R ∧ n ≤ 98 + 16 * c ∧ u ≤ 60000 + 600 * c) ∧ GH R g h ∧ Wf (I 71) V F D S N ∧ Gnd n T I R g (I 71) V F D S N ∧ Und (I h) (I (h + 1)) (I 69) (I 74) (I 75) (I 71) V F D x s ∧ Imgs n T I R ∧ Tap (I 0) (I 69) (I 23) (I 78) ∧ Sml (I 0) (I 69) (I 24) (I 70) ∧ Drn I (I 69) (I 97) ∧ Cns J
def Inv (c : Nat) (K : mH) : Prop := ∃ u n T I J R g h V F D S N x s, K = hp u n T I J R ∧ IvW c u n T I J R g h V F D S N x s
theorem evr {O : mO} {d : Nat} {M : mM} {as : List Value} {K K1 : mH} {v : Option Value} (h : Rn O d M as K (fun r K' => r = v ∧ K' = K1)) : ev O d M as K = some (v, K1) := by
  obtain ⟨r, K', h1, h2, h3⟩ := Rn_ev h
  rw [h1, h2, h3]
theorem St_M {n : Nat} {T : Nat → mT} {R : Nat → Nat → Option Nat} (hS : St n T R) : IsM n T R 69 := by
  have t := hS.1.2
  have r := hS.2.2
  refine ⟨⟨t 69 (by decide), hS.1.1⟩, ⟨t 70 (by decide), t 71 (by decide), t 72 (by decide), t 73 (by decide), t 74 (by decide), t 75 (by decide), t 76 (by decide), t 77 (by decide), t 78 (by decide), t 79 (by decide), t 80 (by decide), t 81 (by decide), t 82 (by decide), t 83 (by decide), t 84 (by decide), t 85 (by decide), t 86 (by decide), t 87 (by decide), t 88 (by decide), t 89 (by decide), t 90 (by decide), t 91 (by decide), t 92 (by decide), t 93 (by decide), t 94 (by decide), t 95 (by decide), t 96 (by decide), t 97 (by decide)⟩, ?_⟩
  exact ⟨r (69, 2, 70) (by decide), r (69, 3, 71) (by decide), r (69, 4, 72) (by decide), r (69, 5, 73) (by decide), r (69, 6, 74) (by decide), r (69, 7, 75) (by decide), r (69, 9, 76) (by decide), r (69, 10, 77) (by decide), r (69, 12, 78) (by decide), r (69, 22, 79) (by decide), r (69, 24, 80) (by decide), r (69, 25, 81) (by decide), r (69, 27, 82) (by decide), r (69, 28, 83) (by decide), r (69, 31, 84) (by decide), r (69, 32, 85) (by decide), r (69, 33, 86) (by decide), r (69, 35, 87) (by decide), r (69, 36, 88) (by decide), r (69, 37, 89) (by decide), r (69, 41, 90) (by decide), r (69, 42, 91) (by decide), r (69, 43, 92) (by decide), r (69, 44, 93) (by decide), r (69, 45, 94) (by decide), r (69, 46, 95) (by decide), r (69, 47, 96) (by decide), r (69, 53, 97) (by decide)⟩
theorem St_H26 {n : Nat} {T : Nat → mT} {R : Nat → Nat → Option Nat} (hS : St n T R) : IsH n T R 26 := ⟨hS.1.2 26 (by decide), hS.1.2 27 (by decide), hS.2.2 (26, 0, 27) (by decide), by have := hS.1.1; omega⟩
theorem St_H56 {n : Nat} {T : Nat → mT} {R : Nat → Nat → Option Nat} (hS : St n T R) : IsH n T R 56 := ⟨hS.1.2 56 (by decide), hS.1.2 57 (by decide), hS.2.2 (56, 0, 57) (by decide), by have := hS.1.1; omega⟩
theorem St_G32 {n : Nat} {T : Nat → mT} {R : Nat → Nat → Option Nat} (hS : St n T R) : IsG n T R 32 := by
  have t := hS.1.2
  have r := hS.2.2
  refine ⟨⟨t 32 (by decide), by have := hS.1.1; omega⟩, ⟨t 33 (by decide), t 34 (by decide), t 35 (by decide), t 36 (by decide), t 37 (by decide), t 38 (by decide), t 39 (by decide), t 40 (by decide), t 41 (by decide), t 42 (by decide)⟩, ?_⟩
  exact ⟨r (32, 1, 33) (by decide), r (32, 2, 34) (by decide), r (32, 3, 35) (by decide), r (32, 4, 36) (by decide), r (32, 5, 37) (by decide), r (32, 6, 38) (by decide), r (32, 7, 39) (by decide), r (32, 8, 40) (by decide), r (32, 9, 41) (by decide), r (32, 10, 42) (by decide)⟩
theorem St_G43 {n : Nat} {T : Nat → mT} {R : Nat → Nat → Option Nat} (hS : St n T R) : IsG n T R 43 := by
  have t := hS.1.2
  have r := hS.2.2
  refine ⟨⟨t 43 (by decide), by have := hS.1.1; omega⟩, ⟨t 44 (by decide), t 45 (by decide), t 46 (by decide), t 47 (by decide), t 48 (by decide), t 49 (by decide), t 50 (by decide), t 51 (by decide), t 52 (by decide), t 53 (by decide)⟩, ?_⟩
  exact ⟨r (43, 1, 44) (by decide), r (43, 2, 45) (by decide), r (43, 3, 46) (by decide), r (43, 4, 47) (by decide), r (43, 5, 48) (by decide), r (43, 6, 49) (by decide), r (43, 7, 50) (by decide), r (43, 8, 51) (by decide), r (43, 9, 52) (by decide), r (43, 10, 53) (by decide)⟩
theorem St_G58 {n : Nat} {T : Nat → mT} {R : Nat → Nat → Option Nat} (hS : St n T R) : IsG n T R 58 := by
  have t := hS.1.2
  have r := hS.2.2
  refine ⟨⟨t 58 (by decide), by have := hS.1.1; omega⟩, ⟨t 59 (by decide), t 60 (by decide), t 61 (by decide), t 62 (by decide), t 63 (by decide), t 64 (by decide), t 65 (by decide), t 66 (by decide), t 67 (by decide), t 68 (by decide)⟩, ?_⟩
  exact ⟨r (58, 1, 59) (by decide), r (58, 2, 60) (by decide), r (58, 3, 61) (by decide), r (58, 4, 62) (by decide), r (58, 5, 63) (by decide), r (58, 6, 64) (by decide), r (58, 7, 65) (by decide), r (58, 8, 66) (by decide), r (58, 9, 67) (by decide), r (58, 10, 68) (by decide)⟩
theorem St_C {n : Nat} {T : Nat → mT} {R : Nat → Nat → Option Nat} (hS : St n T R) : IsC n T R := ⟨⟨hS.1.2 28 (by decide), hS.1.2 29 (by decide), hS.1.2 30 (by decide), hS.1.2 31 (by decide)⟩, ⟨hS.2.2 (28, 0, 29) (by decide), hS.2.2 (30, 0, 28) (by decide), hS.2.2 (30, 1, 31) (by decide)⟩, by have := hS.1.1; omega⟩
theorem GH.hH {n : Nat} {T : Nat → mT} {R : Nat → Nat → Option Nat} {g h : Nat} (hg : GH R g h) (hS : St n T R) : IsH n T R h := by
  rcases hg.1 with ⟨-, rfl, -⟩ | ⟨-, rfl, -⟩
  · exact St_H26 hS
  · exact St_H56 hS
/-- loops whose state is known at each turn -/
theorem lup_S {σ ρ : Type} {f : σ → Option (σ ⊕ ρ)} (S : Nat → σ) {r : ρ} {N : Nat} (h1 : ∀ k, k < N → f (S k) = some (.inl (S (k + 1)))) (h2 : f (S N) = some (.inr r)) : ∀ (m fu : Nat), m ≤ N → m < fu → lupF f fu (S (N - m)) = some r := by
  intro m
  induction m with
  | zero =>
    intro fu _ h
    obtain ⟨q, rfl⟩ : ∃ q, fu = q + 1 := ⟨fu - 1, by omega⟩
    unfold lupF
    rw [Nat.sub_zero, h2]
  | succ m ih =>
    intro fu hm h
    obtain ⟨q, rfl⟩ : ∃ q, fu = q + 1 := ⟨fu - 1, by omega⟩
    unfold lupF
    rw [h1 (N - (m + 1)) (by omega)]
    dsimp only
    rw [show N - (m + 1) + 1 = N - m by omega]
    exact ih q (by omega) (by omega)
theorem lup_0 {σ ρ : Type} {f : σ → Option (σ ⊕ ρ)} (S : Nat → σ) {r : ρ} {N : Nat} (hN : N < 99999) {s0 : σ} (h0 : s0 = S 0) (h1 : ∀ k, k < N → f (S k) = some (.inl (S (k + 1)))) (h2 : f (S N) = some (.inr r)) : lupF f FU s0 = some r := by
  have := lup_S S h1 h2 N FU (Nat.le_refl N) (by unfold FU; omega)
  rw [Nat.sub_self] at this
  rw [h0]
  exact this
/-- loops with a condition that holds at each turn, and perhaps an early end -/
theorem lup_P {σ ρ : Type} {f : σ → Option (σ ⊕ ρ)} (P : Nat → σ → Prop) (Q : ρ → Prop) {N : Nat} (h1 : ∀ k s, k < N → P k s → (∃ s', f s = some (.inl s') ∧ P (k + 1) s') ∨ (∃ r, f s = some (.inr r) ∧ Q r)) (h2 : ∀ s, P N s → ∃ r, f s = some (.inr r) ∧ Q r) : ∀ (m fu : Nat) (s : σ), m ≤ N → m < fu → P (N - m) s → ∃ r, lupF f fu s = some r ∧ Q r := by
  intro m
  induction m with
  | zero =>
    intro fu s _ h hp
    obtain ⟨q, rfl⟩ : ∃ q, fu = q + 1 := ⟨fu - 1, by omega⟩
    obtain ⟨r, e, hr⟩ := h2 s hp
    refine ⟨r, ?_, hr⟩
    unfold lupF
    rw [e]
  | succ m ih =>
    intro fu s hm h hp
    obtain ⟨q, rfl⟩ : ∃ q, fu = q + 1 := ⟨fu - 1, by omega⟩
    rcases h1 (N - (m + 1)) s (by omega) hp with ⟨s', e, hs⟩ | ⟨r, e, hr⟩
    · rw [show N - (m + 1) + 1 = N - m by omega] at hs
      obtain ⟨r, e2, hr⟩ := ih q s' (by omega) (by omega) hs
      refine ⟨r, ?_, hr⟩
      unfold lupF
      rw [e]
      exact e2
    · refine ⟨r, ?_, hr⟩
      unfold lupF
      rw [e]
theorem lup_P0 {σ ρ : Type} {f : σ → Option (σ ⊕ ρ)} (P : Nat → σ → Prop) (Q : ρ → Prop) {N : Nat} (hN : N < 99999) {s0 : σ} (h0 : P 0 s0) (h1 : ∀ k s, k < N → P k s → (∃ s', f s = some (.inl s') ∧ P (k + 1) s') ∨ (∃ r, f s = some (.inr r) ∧ Q r)) (h2 : ∀ s, P N s → ∃ r, f s = some (.inr r) ∧ Q r) : ∃ r, lupF f FU s0 = some r ∧ Q r := by
  refine lup_P P Q h1 h2 N FU s0 (Nat.le_refl N) (by unfold FU; omega) ?_
  rw [Nat.sub_self]
  exact h0
