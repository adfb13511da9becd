/-! the reference's tokens -/
theorem up2_eq {α : Type} {G : Nat → Nat → α} {a k : Nat} {x : α} (h : G a k = x) : up2 G a k x = G := by
  funext i j
  by_cases e : i = a
  · rw [e]
    by_cases ej : j = k
    · rw [ej, up2_at, h]
    · rw [up2_nk ej]
  · rw [up2_off _ _ _ e]
theorem l64_nI {x : Nat} (h : x < 2 ^ 31) : (nI x).toInt64 = Int64.ofInt x := by
  apply Int64.toInt_inj.mp
  have hz : Int64.size = 18446744073709551616 := rfl
  rw [Int32.toInt_toInt64, Int64.toInt_ofInt, nI_toInt h]
  exact (Int.bmod_eq_of_le (by omega) (by omega)).symm
theorem sm_all : ∀ c, c < 256 → zz (if nI c < nI 97 then nI 0 else (if nI 122 < nI c then nI 0 else nI 1)) = some (bI (decide (so c = 1))) := by decide +kernel
theorem dg_all : ∀ c, c < 256 → zz (if nI c < nI 48 then nI 0 else (if nI 57 < nI c then nI 0 else nI 1)) = some (bI (decide (so c = 2))) := by decide +kernel
theorem b32_all : ∀ c, c < 256 → (nI c = nI 32 ↔ so c = 0) := by decide +kernel
/-- what the reference holds of the token at p -/
def wrT (b : Nat → Nat) (t p : Nat) : Int := if p < t then (if so (b p) = 1 then enW b p (ruN b t 1 p - p) else if so (b p) = 2 then (nmW b p (ruN b t 2 p - p) : Int) else (b p : Int)) else 0
def MTk (b : Nat → Nat) (t p : Nat) (u69 : Nat → Int32) (j69 : Nat → Int64) : Prop := u69 14 = nI p ∧ u69 15 = nI (if p < t then enN b t p else t) ∧ u69 16 = nI (if p < t then so (b p) else 0) ∧ j69 17 = Int64.ofInt (wrT b t p)
/-- only the token is other -/
def MOt (I I' : Nat → Nat → Int32) (J J' : Nat → Nat → Int64) : Prop := (∀ a, a ≠ 69 → I' a = I a) ∧ (∀ k, k ≠ 14 → k ≠ 15 → k ≠ 16 → I' 69 k = I 69 k) ∧ (∀ a, a ≠ 69 → J' a = J a) ∧ ∀ k, k ≠ 17 → J' 69 k = J 69 k
section NXT
variable {O : mO} {d u n : Nat} {T : Nat → mT} {I : Nat → Nat → Int32} {J : Nat → Nat → Int64} {R : Nat → Nat → Option Nat} {b : Nat → Nat} {t p : Nat} {K : mH}
theorem m_small {c : Nat} (h : c < 256) : ev O (d + 1) MX11_isSmall [.int (nI c)] K = some (some (.int (bI (decide (so c = 1)))), K) := by
  refine e_X11_isSmall ?_
  unfold F_X11_isSmall
  rw [sm_all c h]
  rfl
theorem m_digit {c : Nat} (h : c < 256) : ev O (d + 1) MX11_isDigit [.int (nI c)] K = some (some (.int (bI (decide (so c = 2)))), K) := by
  refine e_X11_isDigit ?_
  unfold F_X11_isDigit
  rw [dg_all c h]
  rfl
theorem m_skip (hS : St n T R) (hb : ∀ k, b k ≤ 255) (ht : t ≤ 400) (hT : ∀ k, k < t → I 78 k = nI (b k)) (h13 : I 69 13 = nI t) {e : Nat} (he : e ≤ t) : lupF (fun (q : mH) => F_X11_next_l8 O d 69 q) FU (hp u n T (up2 I 69 14 (nI e)) J R) = some (hp u n T (up2 I 69 14 (nI (skN b t e))) J R) := by
  obtain ⟨g1, g2, g3, g4⟩ := ruN_all (b := b) (t := t) (s := 0) (i := e) he
  unfold skN
  refine lup_0 (fun k => hp u n T (up2 I 69 14 (nI (e + k))) J R) (N := ruN b t 0 e - e) (by omega) (by rw [Nat.add_zero]) (fun k hk => ?_) ?_
  · have hs := g3 (e + k) (by omega) (by omega)
    have hc := (b32_all (b (e + k)) (by have := hb (e + k); omega)).mpr hs
    unfold F_X11_next_l8
    rw [gi_69_14 hS, Option.bind_some, gi_69_13 hS, Option.bind_some, up2_at, up2_nk (by decide), h13, if_neg (nI_ge (show e + k < t by omega) (by omega)), ga_69_12 hS, Option.bind_some, Option.bind_some, rd_78 hS (by omega), Option.bind_some, up2_na (by decide), hT _ (by omega), if_pos hc, Option.bind_some, pi_69_14 hS, Option.bind_some, up2_up2, nI_add, Nat.add_assoc]
  · rw [show e + (ruN b t 0 e - e) = ruN b t 0 e by omega]
    unfold F_X11_next_l8
    rw [gi_69_14 hS, Option.bind_some, gi_69_13 hS, Option.bind_some, up2_at, up2_nk (by decide), h13]
    by_cases hl : ruN b t 0 e < t
    · have hc := fun z => g4 hl ((b32_all (b (ruN b t 0 e)) (by have := hb (ruN b t 0 e); omega)).mp z)
      rw [if_neg (nI_ge hl (by omega)), ga_69_12 hS, Option.bind_some, Option.bind_some, rd_78 hS (by omega), Option.bind_some, up2_na (by decide), hT _ hl, if_neg hc]
    · rw [if_pos (nI_le (by omega) (by omega))]
theorem m_noW (hS : St n T R) {s : Nat} (h16 : I 69 16 = nI s) (h : s ≤ 3) (h1 : s ≠ 1) : lupF (fun (q : mH) => F_X11_next_l149 O d 69 q) FU (hp u n T I J R) = some (hp u n T I J R) := by
  refine lup_0 (fun _ => hp u n T I J R) (N := 0) (by decide) rfl (fun k hk => absurd hk (Nat.not_lt_zero k)) ?_
  unfold F_X11_next_l149
  rw [gi_69_16 hS, Option.bind_some, h16, if_neg (fun z => h1 ((nI_eq (by omega) (by omega)).mp z))]
theorem m_noN (hS : St n T R) {s : Nat} (h16 : I 69 16 = nI s) (h : s ≤ 3) (h1 : s ≠ 2) : lupF (fun (q : mH) => F_X11_next_l243 O d 69 q) FU (hp u n T I J R) = some (hp u n T I J R) := by
  refine lup_0 (fun _ => hp u n T I J R) (N := 0) (by decide) rfl (fun k hk => absurd hk (Nat.not_lt_zero k)) ?_
  unfold F_X11_next_l243
  rw [gi_69_16 hS, Option.bind_some, h16, if_neg (fun z => h1 ((nI_eq (by omega) (by omega)).mp z))]
theorem m_words (hS : St n T R) (hb : ∀ k, b k ≤ 255) (ht : t ≤ 400) (hT : ∀ k, k < t → I 78 k = nI (b k)) (h13 : I 69 13 = nI t) (h14 : I 69 14 = nI p) (h15 : I 69 15 = nI p) (h16 : I 69 16 = nI 1) (h17 : J 69 17 = 0) (hp' : p ≤ t) : lupF (fun (q : mH) => F_X11_next_l149 O (d + 1) 69 q) FU (hp u n T I J R) = some (hp u n T (up2 I 69 15 (nI (ruN b t 1 p))) (up2 J 69 17 (Int64.ofInt (enW b p (ruN b t 1 p - p)))) R) := by
  obtain ⟨g1, g2, g3, g4⟩ := ruN_all (b := b) (t := t) (s := 1) (i := p) hp'
  refine lup_0 (fun k => hp u n T (up2 I 69 15 (nI (p + k))) (up2 J 69 17 (Int64.ofInt (enW b p k))) R) (N := ruN b t 1 p - p) (by omega) (by rw [Nat.add_zero, up2_eq h15, up2_eq (show J 69 17 = Int64.ofInt (enW b p 0) from h17.trans rfl)]) (fun k hk => ?_) ?_
  · have hs := g3 (p + k) (by omega) (by omega)
    have hc := hb (p + k)
    unfold F_X11_next_l149
    rw [gi_69_16 hS, Option.bind_some, up2_nk (by decide), h16, if_pos rfl, gi_69_15 hS, Option.bind_some, gi_69_13 hS, Option.bind_some, up2_at, up2_nk (by decide), h13, if_neg (nI_ge (show p + k < t by omega) (by omega)), ga_69_12 hS, Option.bind_some, Option.bind_some, rd_78 hS (by omega), Option.bind_some, up2_na (by decide), hT _ (by omega), m_small (by omega), toI_i, Option.bind_some, decide_eq_true hs]
    dsimp only
    rw [if_neg (by decide), gi_69_15 hS, Option.bind_some, gi_69_14 hS, Option.bind_some, up2_at, up2_nk (by decide), h14, nI_sub (by omega), Nat.add_sub_cancel_left]
    have en : enW b p (k + 1) = if k < 10 then enW b p k * 32 + ((b (p + k) : Int) - 96) else -1 := rfl
    by_cases h10 : k < 10
    · rw [if_neg (nI_ge h10 (by omega)), gj_69_17 hS, Option.bind_some, ga_69_12 hS, Option.bind_some, Option.bind_some, up2_at, rd_78 hS (by omega), Option.bind_some, up2_na (by decide), hT _ (by omega)]
      unfold F_X11_next_j227
      rw [pj_69_17 hS, Option.bind_some, gi_69_15 hS, Option.bind_some, up2_at, pi_69_15 hS, Option.bind_some, up2_up2, up2_up2, nI_add, Nat.add_assoc, en, if_pos h10, l64_nI (by omega), Int64.ofInt_add, Int64.ofInt_sub, Int64.ofInt_mul]
      congr 4
      rw [Int64.sub_eq_add_neg, Int64.sub_eq_add_neg, Int64.add_assoc]
      rfl
    · rw [if_pos (nI_le (by omega) (by omega))]
      unfold F_X11_next_j227
      rw [pj_69_17 hS, Option.bind_some, gi_69_15 hS, Option.bind_some, up2_at, pi_69_15 hS, Option.bind_some, up2_up2, up2_up2, nI_add, Nat.add_assoc, en, if_neg h10]
      rfl
  · rw [show p + (ruN b t 1 p - p) = ruN b t 1 p by omega]
    unfold F_X11_next_l149
    rw [gi_69_16 hS, Option.bind_some, up2_nk (by decide), h16, if_pos rfl, gi_69_15 hS, Option.bind_some, gi_69_13 hS, Option.bind_some, up2_at, up2_nk (by decide), h13]
    by_cases hl : ruN b t 1 p < t
    · have hc := hb (ruN b t 1 p)
      rw [if_neg (nI_ge hl (by omega)), ga_69_12 hS, Option.bind_some, Option.bind_some, rd_78 hS (by omega), Option.bind_some, up2_na (by decide), hT _ hl, m_small (by omega), toI_i, Option.bind_some, decide_eq_false (g4 hl)]
      dsimp only
      rw [if_pos (by decide)]
    · rw [if_pos (nI_le (by omega) (by omega))]
theorem m_digits (hS : St n T R) (hb : ∀ k, b k ≤ 255) (ht : t ≤ 400) (hT : ∀ k, k < t → I 78 k = nI (b k)) (h13 : I 69 13 = nI t) (h15 : I 69 15 = nI p) (h16 : I 69 16 = nI 2) (h17 : J 69 17 = 0) (hp' : p ≤ t) : lupF (fun (q : mH) => F_X11_next_l243 O (d + 1) 69 q) FU (hp u n T I J R) = some (hp u n T (up2 I 69 15 (nI (ruN b t 2 p))) (up2 J 69 17 (Int64.ofInt (nmW b p (ruN b t 2 p - p)))) R) := by
  obtain ⟨g1, g2, g3, g4⟩ := ruN_all (b := b) (t := t) (s := 2) (i := p) hp'
  refine lup_0 (fun k => hp u n T (up2 I 69 15 (nI (p + k))) (up2 J 69 17 (Int64.ofInt (nmW b p k))) R) (N := ruN b t 2 p - p) (by omega) (by rw [Nat.add_zero, up2_eq h15, up2_eq (show J 69 17 = Int64.ofInt (nmW b p 0 : Nat) from h17.trans rfl)]) (fun k hk => ?_) ?_
  · have hs := g3 (p + k) (by omega) (by omega)
    have hc := hb (p + k)
    obtain ⟨d1, d2⟩ := so_2.mp hs
    unfold F_X11_next_l243
    rw [gi_69_16 hS, Option.bind_some, up2_nk (by decide), h16, if_pos rfl, gi_69_15 hS, Option.bind_some, gi_69_13 hS, Option.bind_some, up2_at, up2_nk (by decide), h13, if_neg (nI_ge (show p + k < t by omega) (by omega)), ga_69_12 hS, Option.bind_some, Option.bind_some, rd_78 hS (by omega), Option.bind_some, up2_na (by decide), hT _ (by omega), m_digit (by omega), toI_i, Option.bind_some, decide_eq_true hs]
    dsimp only
    rw [if_neg (by decide), gj_69_17 hS, Option.bind_some, up2_at]
    have nl := nmW_le hb p k
    have en : nmW b p (k + 1) = if 1000000 < nmW b p k then nmW b p k else nmW b p k * 10 + (b (p + k) - 48) := rfl
    have ti : (Int64.ofInt (nmW b p k)).toInt = nmW b p k := by
      have hz : Int64.size = 18446744073709551616 := rfl
      rw [Int64.toInt_ofInt]
      exact Int.bmod_eq_of_le (by omega) (by omega)
    have cm : lg_cmp (Int64.ofInt (nmW b p k)) 1000000 ≤ 0 ↔ nmW b p k ≤ 1000000 := by
      rw [lg_cmp_le, Int64.le_iff_toInt_le, ti, show (1000000 : Int64).toInt = 1000000 by decide +kernel]
      omega
    by_cases h10 : nmW b p k ≤ 1000000
    · rw [if_pos (cm.mpr h10), Option.bind_some, ga_69_12 hS, Option.bind_some, gi_69_15 hS, Option.bind_some, up2_at, rd_78 hS (by omega), Option.bind_some, up2_na (by decide), hT _ (by omega)]
      unfold F_X11_next_j319
      rw [pj_69_17 hS, Option.bind_some, gi_69_15 hS, Option.bind_some, up2_at, pi_69_15 hS, Option.bind_some, up2_up2, up2_up2, nI_add, Nat.add_assoc, en, if_neg (by omega), l64_nI (by omega)]
      have ec : ((nmW b p k * 10 + (b (p + k) - 48) : Nat) : Int) = (nmW b p k : Int) * 10 + (b (p + k) : Int) - 48 := by omega
      rw [ec, Int64.ofInt_sub, Int64.ofInt_add, Int64.ofInt_mul]
      rfl
    · rw [if_neg (fun z => h10 (cm.mp z)), Option.bind_some]
      unfold F_X11_next_j319
      rw [pj_69_17 hS, Option.bind_some, gi_69_15 hS, Option.bind_some, up2_at, pi_69_15 hS, Option.bind_some, up2_up2, up2_up2, nI_add, Nat.add_assoc, en, if_pos (by omega)]
  · rw [show p + (ruN b t 2 p - p) = ruN b t 2 p by omega]
    unfold F_X11_next_l243
    rw [gi_69_16 hS, Option.bind_some, up2_nk (by decide), h16, if_pos rfl, gi_69_15 hS, Option.bind_some, gi_69_13 hS, Option.bind_some, up2_at, up2_nk (by decide), h13]
    by_cases hl : ruN b t 2 p < t
    · have hc := hb (ruN b t 2 p)
      rw [if_neg (nI_ge hl (by omega)), ga_69_12 hS, Option.bind_some, Option.bind_some, rd_78 hS (by omega), Option.bind_some, up2_na (by decide), hT _ hl, m_digit (by omega), toI_i, Option.bind_some, decide_eq_false (g4 hl)]
      dsimp only
      rw [if_pos (by decide)]
    · rw [if_pos (nI_le (by omega) (by omega))]
theorem m_next (hS : St n T R) (hb : ∀ k, b k ≤ 255) (ht : t ≤ 400) (hT : ∀ k, k < t → I 78 k = nI (b k)) (h13 : I 69 13 = nI t) {e : Nat} (he : e ≤ t) (h15 : I 69 15 = nI e) : ∃ I' J', ev O (d + 2) MX11_next [.ref 69] (hp u n T I J R) = some (none, hp u n T I' J' R) ∧ MOt I I' J J' ∧ MTk b t (skN b t e) (I' 69) (J' 69) := by
  obtain ⟨g1, g2, g3, g4⟩ := ruN_all (b := b) (t := t) (s := 0) (i := e) he
  have sk := m_skip (O := O) (d := d + 1) (u := u) (J := J) hS hb ht hT h13 he
  have g2 : skN b t e ≤ t := g2
  have g4 : skN b t e < t → so (b (skN b t e)) ≠ 0 := g4
  generalize skN b t e = p at *
  -- behind the sort
  have fin : ∀ (s : Nat) (I' : Nat → Nat → Int32) (J' : Nat → Nat → Int64), (∃ x y, I' = up2 (up2 (up2 (up2 I 69 14 (nI p)) 69 15 (nI p)) 69 16 (nI s)) 69 15 (nI x) ∧ J' = up2 (up2 J 69 17 0) 69 17 y ∧ x = (if p < t then enN b t p else t) ∧ s = (if p < t then so (b p) else 0) ∧ y = Int64.ofInt (wrT b t p)) → MOt I I' J J' ∧ MTk b t p (I' 69) (J' 69) := by
    intro s I' J' ⟨x, y, e1, e2, e3, e4, e5⟩
    rw [e1, e2]
    refine ⟨⟨fun a ha => by rw [up2_off _ _ _ ha, up2_off _ _ _ ha, up2_off _ _ _ ha, up2_off _ _ _ ha], fun k k1 k2 k3 => by rw [up2_nk k2, up2_nk k3, up2_nk k2, up2_nk k1], fun a ha => by rw [up2_off _ _ _ ha, up2_off _ _ _ ha], fun k hk => by rw [up2_nk hk, up2_nk hk]⟩, ?_, ?_, ?_, ?_⟩
    · rw [up2_nk (by decide), up2_nk (by decide), up2_nk (by decide), up2_at]
    · rw [up2_at, e3]
    · rw [up2_nk (by decide), up2_at, e4]
    · rw [up2_at, e5]
  have h78 : ∀ s k, up2 (up2 (up2 I 69 14 (nI p)) 69 15 (nI p)) 69 16 (nI s) 78 k = I 78 k := fun s k => by rw [up2_na (by decide), up2_na (by decide), up2_na (by decide)]
  have h13' : ∀ s, up2 (up2 (up2 I 69 14 (nI p)) 69 15 (nI p)) 69 16 (nI s) 69 13 = nI t := fun s => by rw [up2_nk (by decide), up2_nk (by decide), up2_nk (by decide)]; exact h13
  have h14' : ∀ s, up2 (up2 (up2 I 69 14 (nI p)) 69 15 (nI p)) 69 16 (nI s) 69 14 = nI p := fun s => by rw [up2_nk (by decide), up2_nk (by decide), up2_at]
  have h15' : ∀ s, up2 (up2 (up2 I 69 14 (nI p)) 69 15 (nI p)) 69 16 (nI s) 69 15 = nI p := fun s => by rw [up2_nk (by decide), up2_at]
  have h16' : ∀ s, up2 (up2 (up2 I 69 14 (nI p)) 69 15 (nI p)) 69 16 (nI s) 69 16 = nI s := fun s => up2_at _ _ _ _
  have h17' : up2 J 69 17 0 69 17 = 0 := up2_at _ _ _ _
  have st : ∀ {I' J'}, F_X11_next_j46 O (d + 1) 69 (hp u n T (up2 I 69 14 (nI p)) J R) = some (hp u n T I' J' R) → ev O (d + 2) MX11_next [.ref 69] (hp u n T I J R) = some (none, hp u n T I' J' R) := by
    intro I' J' h
    refine e_X11_next (d := d + 1) ?_
    unfold F_X11_next
    rw [gi_69_15 hS, Option.bind_some, h15, pi_69_14 hS, Option.bind_some, sk, Option.bind_some]
    exact h
  have hd : F_X11_next_j46 O (d + 1) 69 (hp u n T (up2 I 69 14 (nI p)) J R) = if nI p = nI t then F_X11_next_j114 O (d + 1) 69 (nI 0) 69 (hp u n T (up2 (up2 I 69 14 (nI p)) 69 15 (nI p)) (up2 J 69 17 0) R) else (rdI O (hp u n T (up2 (up2 I 69 14 (nI p)) 69 15 (nI p)) (up2 J 69 17 0) R) 78 (nI p)).bind fun x22 => (toI (ev O (d + 1) MX11_isSmall [.int x22] (hp u n T (up2 (up2 I 69 14 (nI p)) 69 15 (nI p)) (up2 J 69 17 0) R))).bind fun p23 => if p23.1 = 0 then (gtA p23.2 69 11 12).bind fun x26 => (gtI p23.2 69 11 14).bind fun x27 => (rdI O p23.2 x26 x27).bind fun x28 => (toI (ev O (d + 1) MX11_isDigit [.int x28] p23.2)).bind fun p29 => F_X11_next_j114 O (d + 1) 69 (if p29.1 = 0 then (nI 3) else (nI 2)) 69 p29.2 else F_X11_next_j114 O (d + 1) 69 (nI 1) 69 p23.2 := by
    unfold F_X11_next_j46
    rw [gi_69_14 hS, Option.bind_some, up2_at, pi_69_15 hS, Option.bind_some, pj_69_17 hS, Option.bind_some, gi_69_14 hS, Option.bind_some, gi_69_13 hS, Option.bind_some, up2_nk (by decide), up2_at, up2_nk (by decide), up2_nk (by decide), h13, ga_69_12 hS, Option.bind_some, Option.bind_some]
  have go : ∀ (s : Nat) {I' J'}, s ≤ 3 → s ≠ 3 → ((lupF (fun (q : mH) => F_X11_next_l149 O (d + 1) 69 q) FU (hp u n T (up2 (up2 (up2 I 69 14 (nI p)) 69 15 (nI p)) 69 16 (nI s)) (up2 J 69 17 0) R)).bind fun r55 => lupF (fun (q : mH) => F_X11_next_l243 O (d + 1) 69 q) FU r55) = some (hp u n T I' J' R) → F_X11_next_j114 O (d + 1) 69 (nI s) 69 (hp u n T (up2 (up2 I 69 14 (nI p)) 69 15 (nI p)) (up2 J 69 17 0) R) = some (hp u n T I' J' R) := by
    intro s I' J' s3 n3 h
    unfold F_X11_next_j114
    rw [pi_69_16 hS, Option.bind_some, gi_69_16 hS, Option.bind_some, up2_at, if_neg (fun z => n3 ((nI_eq (by omega) (by omega)).mp z))]
    cases h1 : lupF (fun (q : mH) => F_X11_next_l149 O (d + 1) 69 q) FU (hp u n T (up2 (up2 (up2 I 69 14 (nI p)) 69 15 (nI p)) 69 16 (nI s)) (up2 J 69 17 0) R) with
    | none => rw [h1] at h; cases h
    | some x =>
      rw [h1, Option.bind_some] at h
      rw [Option.bind_some, h]
      rfl
  by_cases hl : p < t
  · have hc := hb p
    have ne : ¬ nI p = nI t := fun z => absurd ((nI_eq (by omega) (by omega)).mp z) (by omega)
    rw [if_neg ne, rd_78 hS (by omega), Option.bind_some, up2_na (by decide), up2_na (by decide), hT p hl, m_small (by omega), toI_i, Option.bind_some] at hd
    dsimp only at hd
    by_cases s1 : so (b p) = 1
    · have w := m_words (O := O) (d := d) (u := u) (R := R) hS hb ht (fun k hk => (h78 1 k).trans (hT k hk)) (h13' 1) (h14' 1) (h15' 1) (h16' 1) h17' g2
      have h16w : up2 (up2 (up2 (up2 I 69 14 (nI p)) 69 15 (nI p)) 69 16 (nI 1)) 69 15 (nI (ruN b t 1 p)) 69 16 = nI 1 := by rw [up2_nk (by decide), up2_at]
      rw [decide_eq_true s1, if_neg (by decide)] at hd
      refine ⟨_, _, st (hd.trans (go 1 (by decide) (by decide) (by rw [w, Option.bind_some]; exact m_noN hS h16w (by decide) (by decide)))), fin 1 _ _ ⟨_, _, rfl, rfl, ?_, ?_, ?_⟩⟩
      · rw [if_pos hl]
        unfold enN
        rw [if_neg (by omega), s1]
      · rw [if_pos hl, s1]
      · unfold wrT
        rw [if_pos hl, if_pos s1]
    · rw [decide_eq_false s1, if_pos (by decide), ga_69_12 hS, Option.bind_some, gi_69_14 hS, Option.bind_some, up2_nk (by decide), up2_at, rd_78 hS (by omega), Option.bind_some, up2_na (by decide), up2_na (by decide), hT p hl, m_digit (by omega), toI_i, Option.bind_some] at hd
      dsimp only at hd
      by_cases s2 : so (b p) = 2
      · have w := m_digits (O := O) (d := d) (u := u) (R := R) hS hb ht (fun k hk => (h78 2 k).trans (hT k hk)) (h13' 2) (h15' 2) (h16' 2) h17' g2
        rw [decide_eq_true s2, if_neg (by decide)] at hd
        refine ⟨_, _, st (hd.trans (go 2 (by decide) (by decide) (by rw [m_noW hS (h16' 2) (by decide) (by decide), Option.bind_some]; exact w))), fin 2 _ _ ⟨_, _, rfl, rfl, ?_, ?_, ?_⟩⟩
        · rw [if_pos hl]
          unfold enN
          rw [if_neg (by omega), s2]
        · rw [if_pos hl, s2]
        · unfold wrT
          rw [if_pos hl, if_neg s1, if_pos s2]
      · have s3 : so (b p) = 3 := by
          have := so_le (b p)
          have := g4 hl
          omega
        rw [decide_eq_false s2, if_pos (by decide)] at hd
        have fi : F_X11_next_j114 O (d + 1) 69 (nI 3) 69 (hp u n T (up2 (up2 I 69 14 (nI p)) 69 15 (nI p)) (up2 J 69 17 0) R) = some (hp u n T (up2 (up2 (up2 (up2 I 69 14 (nI p)) 69 15 (nI p)) 69 16 (nI 3)) 69 15 (nI (p + 1))) (up2 (up2 J 69 17 0) 69 17 (nI (b p)).toInt64) R) := by
          have q16 : up2 (up2 (up2 (up2 I 69 14 (nI p)) 69 15 (nI p)) 69 16 (nI 3)) 69 15 (nI (p + 1)) 69 16 = nI 3 := by rw [up2_nk (by decide), up2_at]
          unfold F_X11_next_j114
          rw [pi_69_16 hS, Option.bind_some, gi_69_16 hS, Option.bind_some, up2_at, if_pos rfl, ga_69_12 hS, Option.bind_some, gi_69_14 hS, Option.bind_some, h14' 3, rd_78 hS (by omega), Option.bind_some, h78, hT p hl, pj_69_17 hS, Option.bind_some, gi_69_15 hS, Option.bind_some, h15' 3, pi_69_15 hS, Option.bind_some, nI_add, m_noW hS q16 (by decide) (by decide), Option.bind_some, m_noN hS q16 (by decide) (by decide), Option.bind_some]
        refine ⟨_, _, st (hd.trans fi), fin 3 _ _ ⟨_, _, rfl, rfl, ?_, ?_, ?_⟩⟩
        · rw [if_pos hl]
          unfold enN
          rw [if_pos s3]
        · rw [if_pos hl, s3]
        · unfold wrT
          rw [if_pos hl, if_neg s1, if_neg s2, l64_nI (by omega)]
  · have pt : p = t := by omega
    rw [if_pos (by rw [pt])] at hd
    have w1 := m_noW (O := O) (d := d + 1) (u := u) (J := up2 J 69 17 0) hS (h16' 0) (by decide) (by decide)
    have w2 := m_noN (O := O) (d := d + 1) (u := u) (J := up2 J 69 17 0) hS (h16' 0) (by decide) (by decide)
    refine ⟨_, _, st (hd.trans (go 0 (by decide) (by decide) (by rw [w1, Option.bind_some]; exact w2))), fin 0 _ _ ⟨p, 0, (up2_eq (h15' 0)).symm, (up2_eq h17').symm, ?_, ?_, ?_⟩⟩
    · rw [if_neg hl, pt]
    · rw [if_neg hl]
    · unfold wrT
      rw [if_neg hl]
      rfl
theorem sk_tok (k : Nat) : skN b t (if plN b t k < t then enN b t (plN b t k) else t) = plN b t (k + 1) := by
  show _ = if plN b t k < t then ntF b t (plN b t k + 1) else t
  by_cases h : plN b t k < t
  · rw [if_pos h, if_pos h]
    exact (sk_nt (plN_ts h)).2.2
  · rw [if_neg h, if_neg h]
    obtain ⟨g1, g2, -⟩ := ruN_all (b := b) (t := t) (s := 0) (i := t) (Nat.le_refl t)
    unfold skN
    omega
/-- the reference stands at the k-th token -/
def MTs (b : Nat → Nat) (t k : Nat) (I : Nat → Nat → Int32) (J : Nat → Nat → Int64) : Prop := (∀ k, k < t → I 78 k = nI (b k)) ∧ I 69 13 = nI t ∧ MTk b t (plN b t k) (I 69) (J 69)
theorem m_nextT (hS : St n T R) (hb : ∀ k, b k ≤ 255) (ht : t ≤ 400) {k : Nat} (h : MTs b t k I J) : ∃ I' J', ev O (d + 2) MX11_next [.ref 69] (hp u n T I J R) = some (none, hp u n T I' J' R) ∧ MOt I I' J J' ∧ MTs b t (k + 1) I' J' := by
  obtain ⟨hT, h13, -, h15, -⟩ := h
  have el : (if plN b t k < t then enN b t (plN b t k) else t) ≤ t := by
    by_cases h : plN b t k < t
    · rw [if_pos h]
      exact (sk_nt (plN_ts h)).1
    · rw [if_neg h]
      exact Nat.le_refl t
  obtain ⟨I', J', e1, e2, e3⟩ := m_next (O := O) (d := d) (u := u) (J := J) hS hb ht hT h13 el h15
  rw [sk_tok] at e3
  exact ⟨I', J', e1, e2, fun k hk => by rw [e2.1 78 (by decide)]; exact hT k hk, by rw [e2.2.1 13 (by decide) (by decide) (by decide)]; exact h13, e3⟩
end NXT
