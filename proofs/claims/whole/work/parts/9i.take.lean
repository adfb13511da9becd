/-! the class's reader: its small steps -/
def CTk (b : Nat → Nat) (t : Nat) (I : Nat → Nat → Int32) : Prop := (∀ j, j ≤ tkN b t → I 5 j = nI (plN b t j) ∧ I 6 j = nI (mnT b t (plN b t j))) ∧ I 1 3 = nI (tkN b t)
/-- all is right, at the k-th token: q parts, br brackets, s steps -/
def CGd (b : Nat → Nat) (t k q br s : Nat) (I : Nat → Nat → Int32) : Prop := CTk b t I ∧ k ≤ tkN b t ∧ I 1 4 = nI k ∧ I 1 5 = nI (mnT b t (plN b t k)) ∧ I 1 6 = -1 ∧ I 1 7 = nI q ∧ I 1 8 = nI br ∧ I 2 2 = nI s
/-- a fault was found at x: the end is all that is seen -/
def CBd (b : Nat → Nat) (t x : Nat) (I : Nat → Nat → Int32) : Prop := CTk b t I ∧ I 1 5 = nI 4000 ∧ I 1 6 = nI x ∧ x ≤ 400 ∧ (∃ q, q ≤ 50 ∧ I 1 7 = nI q) ∧ ∃ s, s ≤ 400 ∧ I 2 2 = nI s
/-- what reading leaves as it is -/
def CEx (I I' : Nat → Nat → Int32) : Prop := (∀ a, a ≠ 1 → a ≠ 2 → a ≠ 3 → I' a = I a) ∧ I' 1 9 = I 1 9 ∧ I' 2 3 = I 2 3
theorem CEx.refl (I : Nat → Nat → Int32) : CEx I I := ⟨fun _ _ _ _ => rfl, rfl, rfl⟩
theorem CEx.trans {A B C : Nat → Nat → Int32} (h : CEx A B) (k : CEx B C) : CEx A C := ⟨fun a h1 h2 h3 => (k.1 a h1 h2 h3).trans (h.1 a h1 h2 h3), k.2.1.trans h.2.1, k.2.2.trans h.2.2⟩
theorem CTk_cg {b : Nat → Nat} {t : Nat} {I I' : Nat → Nat → Int32} (h : CTk b t I) (h5 : I' 5 = I 5) (h6 : I' 6 = I 6) (h3 : I' 1 3 = I 1 3) : CTk b t I' := ⟨fun j hj => by rw [h5, h6]; exact h.1 j hj, h3.trans h.2⟩
section CTA
variable {O : mO} {d u n : Nat} {T : Nat → mT} {I : Nat → Nat → Int32} {J : Nat → Nat → Int64} {R : Nat → Nat → Option Nat} {b : Nat → Nat} {t k q br s x : Nat} {K : mH}
theorem c_step {x : Nat} (h : x ≤ 4000) : ev O (d + 1) MX6_stepOf [.int (nI x)] K = some (some (.int (if sgO x = 0 then -1 else nI (sgO x))), K) := by
  refine e_X6_stepOf ?_
  unfold F_X6_stepOf
  have ne : ∀ c, c < 100 → (nI x - nI 3000 = nI c ↔ x = 3000 + c) := by
    intro c hc
    constructor
    · intro z
      have z2 : nI x = nI (3000 + c) := by
        have : nI x - nI 3000 + nI 3000 = nI c + nI 3000 := by rw [z]
        rw [Int32.sub_add_cancel, nI_add, Nat.add_comm] at this
        exact this
      exact (nI_eq (by omega) (by omega)).mp z2
    · intro z
      rw [z, nI_sub (by omega), Nat.add_sub_cancel_left]
  simp only [ne 37 (by decide), ne 42 (by decide), ne 43 (by decide), ne 45 (by decide), ne 47 (by decide), ne 60 (by decide), ne 61 (by decide), ne 62 (by decide)]
  unfold sgO
  by_cases h1 : x = 3037
  · subst h1; rfl
  by_cases h2 : x = 3042
  · subst h2; rfl
  by_cases h3 : x = 3043
  · subst h3; rfl
  by_cases h4 : x = 3045
  · subst h4; rfl
  by_cases h5 : x = 3047
  · subst h5; rfl
  by_cases h6 : x = 3060
  · subst h6; rfl
  by_cases h7 : x = 3061
  · subst h7; rfl
  by_cases h8 : x = 3062
  · subst h8; rfl
  simp only [Nat.reduceAdd, if_neg h1, if_neg h2, if_neg h3, if_neg h4, if_neg h5, if_neg h6, if_neg h7, if_neg h8, if_pos]
theorem c_takeOk (hS : St n T R) (ht : t ≤ 400) (h : CGd b t k q br s I) (hk : k < tkN b t) {x : Int32} (hx : x = nI (mnT b t (plN b t k))) : ∃ I', ev O (d + 1) MX6_take [.ref 1, .int x] (hp u n T I J R) = some (none, hp u n T I' J R) ∧ CGd b t (k + 1) q br s I' ∧ CEx I I' ∧ I' 3 = I 3 ∧ I' 2 = I 2 := by
  obtain ⟨hC, hk', h4, h5, h6, h7, h8, h2⟩ := h
  have tl := tkN_le (b := b) (t := t)
  refine ⟨up2 (up2 I 1 4 (nI (k + 1))) 1 5 (nI (mnT b t (plN b t (k + 1)))), e_X6_take ?_, ⟨?_, by omega, ?_, up2_at _ _ _ _, ?_, ?_, ?_, ?_⟩, ⟨fun a h1 _ _ => by rw [up2_off _ _ _ h1, up2_off _ _ _ h1], ?_, ?_⟩, ?_, ?_⟩
  · unfold F_X6_take
    rw [gi_1_5 hS, Option.bind_some, h5, if_pos hx.symm]
    unfold F_X6_take_j29
    rw [gi_1_6 hS, Option.bind_some, h6, if_pos rfl, gi_1_4 hS, Option.bind_some, gi_1_3 hS, Option.bind_some, h4, hC.2, nI_add, if_neg (fun z => absurd ((nI_ltI (by omega) (by omega)).mp z) (by omega))]
    unfold F_X6_take_j58
    rw [pi_1_4 hS, Option.bind_some, ga_1_2 hS, Option.bind_some, gi_1_4 hS, Option.bind_some, up2_at, rd_6 hS (by omega), Option.bind_some, up2_na (by decide), (hC.1 (k + 1) (by omega)).2, pi_1_5 hS, Option.bind_some]
  · exact CTk_cg hC (by rw [up2_off _ _ _ (by decide), up2_off _ _ _ (by decide)]) (by rw [up2_off _ _ _ (by decide), up2_off _ _ _ (by decide)]) (by rw [up2_nk (by decide), up2_nk (by decide)])
  · rw [up2_nk (by decide), up2_at]
  · rw [up2_nk (by decide), up2_nk (by decide)]; exact h6
  · rw [up2_nk (by decide), up2_nk (by decide)]; exact h7
  · rw [up2_nk (by decide), up2_nk (by decide)]; exact h8
  · rw [up2_na (by decide), up2_na (by decide)]; exact h2
  · rw [up2_nk (by decide), up2_nk (by decide)]
  · rw [up2_na (by decide), up2_na (by decide)]
  · rw [up2_off _ _ _ (by decide), up2_off _ _ _ (by decide)]
  · rw [up2_off _ _ _ (by decide), up2_off _ _ _ (by decide)]
theorem mn_end : mnT b t (plN b t (tkN b t)) = 4000 := by
  unfold mnT
  rw [plN_tk, if_neg (Nat.lt_irrefl t)]
/-- another token is due: the fault -/
theorem c_takeNo (hS : St n T R) (ht : t ≤ 400) (h : CGd b t k q br s I) (hq : q ≤ 50) (hs : s ≤ 400) {x : Int32} (hx : x ≠ nI (mnT b t (plN b t k))) : ∃ I', ev O (d + 1) MX6_take [.ref 1, .int x] (hp u n T I J R) = some (none, hp u n T I' J R) ∧ CBd b t (plN b t k) I' ∧ CEx I I' := by
  obtain ⟨hC, hk', h4, h5, h6, h7, h8, h2⟩ := h
  have tl := tkN_le (b := b) (t := t)
  have pl := plN_le (b := b) (t := t) k
  have n1 : ¬ nI (plN b t k) = -1 := nI_ne1 (by omega)
  refine ⟨up2 (up2 (up2 I 1 6 (nI (plN b t k))) 1 4 (nI (tkN b t))) 1 5 (nI 4000), e_X6_take ?_, ⟨?_, up2_at _ _ _ _, ?_, by omega, ⟨q, hq, ?_⟩, s, hs, ?_⟩, ⟨fun a h1 _ _ => by rw [up2_off _ _ _ h1, up2_off _ _ _ h1, up2_off _ _ _ h1], ?_, ?_⟩⟩
  · unfold F_X6_take
    rw [gi_1_5 hS, Option.bind_some, h5, if_neg (fun z => hx z.symm), gi_1_6 hS, Option.bind_some, h6, if_pos rfl, ga_1_1 hS, Option.bind_some, gi_1_4 hS, Option.bind_some, h4, rd_5 hS (by omega), Option.bind_some, (hC.1 k hk').1, pi_1_6 hS, Option.bind_some]
    unfold F_X6_take_j29
    rw [gi_1_6 hS, Option.bind_some, up2_at, if_neg n1, gi_1_3 hS, Option.bind_some, up2_nk (by decide), hC.2]
    unfold F_X6_take_j58
    rw [pi_1_4 hS, Option.bind_some, ga_1_2 hS, Option.bind_some, gi_1_4 hS, Option.bind_some, up2_at, rd_6 hS (by omega), Option.bind_some, up2_na (by decide), up2_na (by decide), (hC.1 _ (Nat.le_refl _)).2, mn_end, pi_1_5 hS, Option.bind_some]
  · exact CTk_cg hC (by rw [up2_off _ _ _ (by decide), up2_off _ _ _ (by decide), up2_off _ _ _ (by decide)]) (by rw [up2_off _ _ _ (by decide), up2_off _ _ _ (by decide), up2_off _ _ _ (by decide)]) (by rw [up2_nk (by decide), up2_nk (by decide), up2_nk (by decide)])
  · rw [up2_nk (by decide), up2_nk (by decide), up2_at]
  · rw [up2_nk (by decide), up2_nk (by decide), up2_nk (by decide)]; exact h7
  · rw [up2_na (by decide), up2_na (by decide), up2_na (by decide)]; exact h2
  · rw [up2_nk (by decide), up2_nk (by decide), up2_nk (by decide)]
  · rw [up2_na (by decide), up2_na (by decide), up2_na (by decide)]
/-- behind a fault -/
theorem c_takeBd (hS : St n T R) (ht : t ≤ 400) {y : Nat} (h : CBd b t y I) {x : Int32} : ∃ I', ev O (d + 1) MX6_take [.ref 1, .int x] (hp u n T I J R) = some (none, hp u n T I' J R) ∧ CBd b t y I' ∧ CEx I I' := by
  obtain ⟨hC, h5, h6, hy, ⟨q, hq, h7⟩, s, hs, h2⟩ := h
  have tl := tkN_le (b := b) (t := t)
  have n1 : ¬ nI y = -1 := nI_ne1 (by omega)
  have j29 : F_X6_take_j29 O d 1 (hp u n T I J R) = some (hp u n T (up2 (up2 I 1 4 (nI (tkN b t))) 1 5 (nI 4000)) J R) := by
    unfold F_X6_take_j29
    rw [gi_1_6 hS, Option.bind_some, h6, if_neg n1, gi_1_3 hS, Option.bind_some, hC.2]
    unfold F_X6_take_j58
    rw [pi_1_4 hS, Option.bind_some, ga_1_2 hS, Option.bind_some, gi_1_4 hS, Option.bind_some, up2_at, rd_6 hS (by omega), Option.bind_some, up2_na (by decide), (hC.1 _ (Nat.le_refl _)).2, mn_end, pi_1_5 hS, Option.bind_some]
  refine ⟨up2 (up2 I 1 4 (nI (tkN b t))) 1 5 (nI 4000), e_X6_take ?_, ⟨?_, up2_at _ _ _ _, ?_, hy, ⟨q, hq, ?_⟩, s, hs, ?_⟩, ⟨fun a h1 _ _ => by rw [up2_off _ _ _ h1, up2_off _ _ _ h1], ?_, ?_⟩⟩
  · unfold F_X6_take
    rw [gi_1_5 hS, Option.bind_some, gi_1_6 hS, Option.bind_some, h6, if_neg n1, j29]
    split <;> rfl
  · exact CTk_cg hC (by rw [up2_off _ _ _ (by decide), up2_off _ _ _ (by decide)]) (by rw [up2_off _ _ _ (by decide), up2_off _ _ _ (by decide)]) (by rw [up2_nk (by decide), up2_nk (by decide)])
  · rw [up2_nk (by decide), up2_nk (by decide)]; exact h6
  · rw [up2_nk (by decide), up2_nk (by decide)]; exact h7
  · rw [up2_na (by decide), up2_na (by decide)]; exact h2
  · rw [up2_nk (by decide), up2_nk (by decide)]
  · rw [up2_na (by decide), up2_na (by decide)]
theorem c_addV (hS : St n T R) (hs : I 2 2 = nI s) (hl : s < 400) (a c : Int32) : ev O (d + 1) MX5_add [.ref 2, .int a, .int c] (hp u n T I J R) = some (some (.int (nI s)), hp u n T (up2 (up2 I 3 s (a + nI 16 * c)) 2 2 (nI (s + 1))) J R) := by
  refine e_X5_add ?_
  unfold F_X5_add
  rw [gi_2_2 hS, Option.bind_some, ga_2_0 hS, Option.bind_some, ln_3 hS, Option.bind_some, hs, if_neg (nI_ge hl (by decide)), Option.bind_some, Option.bind_some, wr_3 hS hl, Option.bind_some, gi_2_2 hS, Option.bind_some, up2_na (by decide), hs, pi_2_2 hS, Option.bind_some, nI_add]
  unfold F_X5_add_j37
  rw [gi_2_2 hS, Option.bind_some, up2_at, nI_sub (by omega), Nat.add_sub_cancel]
theorem c_addB (hS : St n T R) (hs : I 2 2 = nI s) (hl : s ≤ 400) (a c : Int32) : ∃ I', ev O (d + 1) MX5_add [.ref 2, .int a, .int c] (hp u n T I J R) = some (some (.int (nI s - (if s < 400 then 0 else nI 1))), hp u n T I' J R) ∧ (∀ a, a ≠ 2 → a ≠ 3 → I' a = I a) ∧ I' 2 3 = I 2 3 ∧ ∃ s', s' ≤ 400 ∧ I' 2 2 = nI s' := by
  by_cases h : s < 400
  · refine ⟨_, by rw [if_pos h, Int32.sub_zero]; exact c_addV hS hs h a c, fun x h1 h2 => by rw [up2_off _ _ _ h1, up2_off _ _ _ h2], by rw [up2_nk (by decide), up2_na (by decide)], s + 1, by omega, up2_at _ _ _ _⟩
  · have e : s = 400 := by omega
    refine ⟨I, e_X5_add ?_, fun _ _ _ => rfl, rfl, s, hl, hs⟩
    unfold F_X5_add
    rw [gi_2_2 hS, Option.bind_some, ga_2_0 hS, Option.bind_some, ln_3 hS, Option.bind_some, hs, if_pos (nI_le (by omega) (by omega)), if_neg h]
    unfold F_X5_add_j37
    rw [gi_2_2 hS, Option.bind_some, hs]
theorem c_aimV (hS : St n T R) (hs : I 2 2 = nI s) (hl : s ≤ 400) (hk : k < s) : ev O (d + 1) MX5_aim [.ref 2, .int (nI k)] (hp u n T I J R) = some (none, hp u n T (up2 I 3 k ((I 3 k &&& nI 15) + nI 16 * nI s)) J R) := by
  refine e_X5_aim ?_
  unfold F_X5_aim
  rw [if_neg (show ¬ nI k < 0 from fun z => absurd ((nI_ltI (b := 0) (by omega) (by omega)).mp z) (by omega)), gi_2_2 hS, Option.bind_some, hs, if_neg (nI_ge hk (by omega)), ga_2_0 hS, Option.bind_some, Option.bind_some, rd_3 hS (by omega), Option.bind_some, Option.bind_some, wr_3 hS (by omega), Option.bind_some]
theorem c_aimB (hS : St n T R) (hs : I 2 2 = nI s) (hl : s ≤ 400) (hk : k ≤ 400) : ∃ I', ev O (d + 1) MX5_aim [.ref 2, .int (nI k)] (hp u n T I J R) = some (none, hp u n T I' J R) ∧ ∀ a, a ≠ 3 → I' a = I a := by
  by_cases h : k < s
  · exact ⟨_, c_aimV hS hs hl h, fun a ha => up2_off _ _ _ ha⟩
  · refine ⟨I, e_X5_aim ?_, fun _ _ => rfl⟩
    unfold F_X5_aim
    rw [if_neg (show ¬ nI k < 0 from fun z => absurd ((nI_ltI (b := 0) (by omega) (by omega)).mp z) (by omega)), gi_2_2 hS, Option.bind_some, hs, if_pos (nI_le (by omega) (by omega))]
end CTA
