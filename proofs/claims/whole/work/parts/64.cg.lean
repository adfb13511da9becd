/-! what stays the same where rows stay the same -/
theorem cnt_cg {w w' : Nat → Int32} {v : Int32} : ∀ {D : Nat}, (∀ j, j < D → w' j = w j) → cnt w' v D = cnt w v D
  | 0, _ => rfl
  | D + 1, h => by
    have e := cnt_cg (v := v) (D := D) (fun j hj => h j (by omega))
    unfold cnt
    rw [h D (by omega), e]
theorem WfS_cg {z z' bd bd' : Nat → Int32} {V F D : Nat} (h : WfS z bd V F D) (h8 : D ≤ 8) (h4 : F ≤ 4) (hz : ∀ i, 6 ≤ i → i < 37 → z' i = z i) (hb : ∀ v, v < V → bd' v = bd v) : WfS z' bd' V F D := by
  obtain ⟨a1, a2, a3, a4, a5, a6, a7⟩ := h
  refine ⟨by rw [hz 6 (by omega) (by omega)]; exact a1, by rw [hz 7 (by omega) (by omega)]; exact a2, by rw [hz 8 (by omega) (by omega)]; exact a3, fun k hk => ?_, fun k hk => ?_, fun k hk => ?_, fun v hv => ?_⟩
  · rw [hz (9 + k) (by omega) (by omega), hz (17 + k) (by omega) (by omega)]
    exact a4 k hk
  · rw [hz (25 + k) (by omega) (by omega)]
    exact a5 k hk
  · rw [hz (33 + k) (by omega) (by omega)]
    exact a6 k hk
  · rw [hb v hv, cnt_cg (fun j hj => hz (9 + j) (by omega) (by omega))]
    exact a7 v hv
section TAIL
variable {w w' : Nat → Int32} {lb : Nat}
theorem rkS_cg (ht : ∀ i, 110 ≤ i → w' i = w i) (hl : 110 ≤ lb) (S : Nat → Int64) (a b : Nat) : rkS w' lb S a b = rkS w lb S a b := by
  have e1 : ocR w' lb = ocR w lb := by
    funext k
    unfold ocR nv
    rw [ht _ (by omega)]
  have e2 : acR w' lb = acR w lb := by
    funext k
    unfold acR nv
    rw [ht _ (by omega)]
  unfold rkS
  rw [e1, e2]
theorem nv_cg (ht : ∀ i, 110 ≤ i → w' i = w i) {i : Nat} (hi : 110 ≤ i) : nv w' i = nv w i := by
  unfold nv
  rw [ht i hi]
theorem teR_cg (ht : ∀ i, 110 ≤ i → w' i = w i) (hl : 110 ≤ lb) (S : Nat → Int64) (c : Nat) : teR w' lb S c = teR w lb S c := by
  unfold teR
  rw [nv_cg ht (by omega), nv_cg ht (by omega), rkS_cg ht hl]
theorem LwM_cg (ht : ∀ i, 110 ≤ i → w' i = w i) (hl : 110 ≤ lb) (h : LwM w lb) : LwM w' lb := by
  obtain ⟨cc, nc, h1, h2, h3, h4, h5, h6, h7⟩ := h
  refine ⟨cc, nc, h1, h2, by rw [ht _ (by omega)]; exact h3, fun k hk => ?_, fun c hc => ?_, fun c j hc h3 h6' => ?_, fun S c hc => ?_⟩
  · rw [ht _ (by omega), ht _ (by omega)]
    exact h4 k hk
  · rw [ht _ (by omega)]
    exact h5 c hc
  · rw [ht _ (by omega)]
    exact h6 c j hc h3 h6'
  · rw [nv_cg ht (by omega), nv_cg ht (by omega), nv_cg ht (by omega), nv_cg ht (by omega), rkS_cg ht hl, rkS_cg ht hl]
    exact h7 S c hc
theorem LwEq_cg {I I' : Nat → Nat → Int32} {p : Nat} (ht : ∀ i, 110 ≤ i → w' i = w i) (hl : 110 ≤ lb) (h0 : I' p = I p) (h1 : I' (p + 1) = I (p + 1)) (h2 : I' (p + 2) = I (p + 2)) (h : LwEq I p w lb) : LwEq I' p w' lb := by
  obtain ⟨a1, a2⟩ := h
  refine ⟨by rw [nv_cg ht (by omega), h0]; exact a1, fun c hc => ?_⟩
  rw [nv_cg ht (by omega)] at hc
  obtain ⟨b1, b2⟩ := a2 c hc
  rw [ht _ (by omega), h0, h1, h2]
  refine ⟨b1, fun X S hX => ?_⟩
  rw [teR_cg ht hl, rkS_cg ht hl, nv_cg ht (by omega), nv_cg ht (by omega)]
  exact b2 X S hX
end TAIL
theorem PrV_cg2 {n : Nat} {T : Nat → mT} {I I' : Nat → Nat → Int32} {R : Nat → Nat → Option Nat} {p sc cc : Nat} (h0 : I' p = I p) (h1 : I' (p + 1) = I (p + 1)) (h2 : I' (p + 2) = I (p + 2)) (h : PrV n T I R p sc cc) : PrV n T I' R p sc cc := by
  unfold PrV at h ⊢
  rw [h0, h1, h2]
  exact h
/-- the laws of a ground -/
def Lws (n : Nat) (T : Nat → mT) (I : Nat → Nat → Int32) (R : Nat → Nat → Option Nat) (g : Nat) (w : Nat → Int32) (N : Nat) : Prop := ∀ l, l < N → ∃ p sc cc, R (g + 10) l = some p ∧ 97 < p ∧ PrV n T I R p sc cc ∧ LwEq I p w (110 + 900 * l)
theorem Lws_cg {n : Nat} {T : Nat → mT} {I I' : Nat → Nat → Int32} {R : Nat → Nat → Option Nat} {g : Nat} {w w' : Nat → Int32} {N : Nat} (h : Lws n T I R g w N) (ht : ∀ i, 110 ≤ i → w' i = w i) (hI : ∀ a, 98 ≤ a → I' a = I a) : Lws n T I' R g w' N := by
  intro l hl
  obtain ⟨p, sc, cc, h1, h2, h3, h4⟩ := h l hl
  exact ⟨p, sc, cc, h1, h2, PrV_cg2 (hI p (by omega)) (hI _ (by omega)) (hI _ (by omega)) h3, LwEq_cg ht (by omega) (hI p (by omega)) (hI _ (by omega)) (hI _ (by omega)) h4⟩
theorem Und_cg {ih hr u69 u74 u75 w ih' hr' u69' u74' u75' w' : Nat → Int32} {V F D x s : Nat} (h : Und ih hr u69 u74 u75 w V F D x s) (h1 : ih' 1 = ih 1) (h2 : ih' 2 = ih 2) (h3 : hr' = hr) (h4 : u69' 8 = u69 8) (h5 : u74' = u74) (h6 : u75' = u75) (hw : ∀ k, k = 7 ∨ k = 8 ∨ (37 ≤ k ∧ k < 42) → w' k = w k) (h8 : D ≤ 8) (h4' : F ≤ 4) (hV : V ≤ 5) : Und ih' hr' u69' u74' u75' w' V F D x s := by
  obtain ⟨a, b⟩ := h
  subst h3 h5 h6
  refine ⟨by rw [h1, h2, h4]; exact a, fun j hj => ?_⟩
  obtain ⟨b1, b2, b3, b4, b5, b6⟩ := b j hj
  rw [hw 7 (by omega), hw 8 (by omega)]
  exact ⟨b1, b2, b3, b4, b5, WfS_cg b6 h8 h4' (fun _ _ _ => rfl) (fun v hv => hw _ (by omega))⟩
/-- nothing can be undone -/
theorem Und_0 {ih hr u69 u74 u75 w : Nat → Int32} {V F D x : Nat} (h1 : ih 1 = nI x) (hx : x < 17) (h2 : ih 2 = nI 0) (h3 : u69 8 = nI 0) : Und ih hr u69 u74 u75 w V F D x 0 := ⟨⟨h1, hx, h2, by decide, h3⟩, fun j hj => absurd hj (Nat.not_lt_zero j)⟩
section IV2
variable {O : mO} {c u n : Nat} {T : Nat → mT} {I I' : Nat → Nat → Int32} {J J' : Nat → Nat → Int64} {R : Nat → Nat → Option Nat} {g h V F D S N x s V' F' D' S' N' x' s' : Nat}
/-- the ground, the row, what can be undone may have changed -/
theorem Iv_ch (hI : IvW c u n T I J R g h V F D S N x s) (hr : ∀ a, a = 23 ∨ a = 72 ∨ a = 73 ∨ a = 78 ∨ a = 97 ∨ (43 ≤ a ∧ a ≤ 53) ∨ 98 ≤ a → I' a = I a) (h0 : I' 0 12 = I 0 12) (h13 : I' 69 13 = I 69 13) (h54 : I' 69 54 = I 69 54) (h55 : I' 69 55 = I 69 55) (hw : Wf (I' 71) V' F' D' S' N') (hg : Gnd n T I' R g (I' 71) V' F' D' S' N') (hu : Und (I' h) (I' (h + 1)) (I' 69) (I' 74) (I' 75) (I' 71) V' F' D' x' s') (hs : Sml (I' 0) (I' 69) (I' 24) (I' 70)) (hJ : Cns J') : IvW (c + 1) u n T I' J' R g h V' F' D' S' N' x' s' := by
  obtain ⟨⟨a1, a2, a3⟩, a4, a5, a6, a7, a8, a9, a10, a11, a12⟩ := hI
  refine ⟨⟨a1, by omega, by omega⟩, a4, hw, hg, hu, Img_cg a8 (fun a ha => hr a (by omega)), ?_, hs, Drn_cg a11 (hr _ (by omega)) (hr _ (by omega)) (hr _ (by omega)) (hr _ (by omega)) (hr _ (by omega)) h54 h55, hJ⟩
  unfold Tap at a9 ⊢
  rw [hr 23 (by omega), hr 78 (by omega), h0, h13]
  exact a9
theorem ga_gr (hS : St n T R) (hr : R 0 10 = some g) : ∀ (u : Nat) (I : Nat → Nat → Int32) (J : Nat → Nat → Int64), gtA (hp u n T I J R) 0 10 10 = some g := fun _ _ _ => gtA_hp (hS.1.2 0 (by decide)) rfl (hS.lt (by decide)) hS.2.1 hr
theorem ga_hi (hS : St n T R) (hr : R 0 11 = some h) : ∀ (u : Nat) (I : Nat → Nat → Int32) (J : Nat → Nat → Int64), gtA (hp u n T I J R) 0 10 11 = some h := fun _ _ _ => gtA_hp (hS.1.2 0 (by decide)) rfl (hS.lt (by decide)) hS.2.1 hr
/-- all that is used again and again -/
theorem Iv_all (hI : IvW c u n T I J R g h V F D S N x s) : St n T R ∧ n ≤ oB ∧ (∀ (u : Nat) (I : Nat → Nat → Int32) (J : Nat → Nat → Int64), gtA (hp u n T I J R) 0 10 10 = some g) ∧ (∀ (u : Nat) (I : Nat → Nat → Int32) (J : Nat → Nat → Int64), gtA (hp u n T I J R) 0 10 11 = some h) ∧ IsG n T R g ∧ IsH n T R h ∧ Wf (I 71) V F D S N ∧ Gnd n T I R g (I 71) V F D S N ∧ ((g = 32 ∧ h = 26) ∨ (g = 58 ∧ h = 56)) :=
  ⟨hI.1.1, hI.1.1.2.1, ga_gr hI.1.1 hI.2.1.2.1, ga_hi hI.1.1 hI.2.1.2.2, hI.2.2.2.1.1.2.1, hI.2.1.hH hI.1.1, hI.2.2.1, hI.2.2.2.1, Iv_g hI⟩
end IV2
theorem arg_0 (a : Int32) {hi : Nat} (h : hi < 2 ^ 31) : (∃ k, k ≤ hi ∧ a = nI k) ∨ (rg a 0 hi = false ∧ (a < 0 ∨ (¬ a < 0 ∧ ¬ a ≤ nI hi ∧ nI hi < a))) := by
  rcases arg_c a (lo := 0) (Nat.zero_le hi) h with ⟨k, -, hk, e⟩ | hb
  · exact Or.inl ⟨k, hk, e⟩
  · rw [nI_0] at hb
    exact Or.inr hb
theorem lup_b {σ ρ τ : Type} {f : σ → Option (σ ⊕ ρ)} {s0 : σ} {k : ρ → Option τ} {y : Option τ} (S : Nat → σ) (r : ρ) (N : Nat) (hN : N < 99999) (h0 : s0 = S 0) (h1 : ∀ k, k < N → f (S k) = some (.inl (S (k + 1)))) (h2 : f (S N) = some (.inr r)) (hk : k r = y) : (lupF f FU s0).bind k = y := by
  rw [lup_0 S hN h0 h1 h2]
  exact hk
theorem lup_q {σ ρ τ : Type} {f : σ → Option (σ ⊕ ρ)} {s0 : σ} {k : ρ → Option τ} {Z : Option τ → Prop} (P : Nat → σ → Prop) (Q : ρ → Prop) (N : Nat) (hN : N < 99999) (h0 : P 0 s0) (h1 : ∀ k s, k < N → P k s → (∃ s', f s = some (.inl s') ∧ P (k + 1) s') ∨ (∃ r, f s = some (.inr r) ∧ Q r)) (h2 : ∀ s, P N s → ∃ r, f s = some (.inr r) ∧ Q r) (hk : ∀ r, Q r → Z (k r)) : Z ((lupF f FU s0).bind k) := by
  obtain ⟨r, e, hr⟩ := lup_P0 P Q hN h0 h1 h2
  rw [e]
  exact hk r hr
