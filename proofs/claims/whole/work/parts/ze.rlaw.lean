/-! the reference reads a law's clauses -/
theorem cn_86 : ∀ k, k < 4 → ([556043443, 12635795, 5294547, 67155] : List Int64).getD k 0 = Int64.ofInt (encL (wdL (0 + k))) ∧ 0 + k < 26 := by decide
theorem cn_95 : ∀ k, k < 4 → ([19052727, 13078757, 12008555, 525939] : List Int64).getD k 0 = Int64.ofInt (encL (wdL (4 + k))) ∧ 4 + k < 26 := by decide
def hAt (e x : Nat) : Nat → Int32
  | 0 => -1
  | i + 1 => if x = 2000 + (e + i) then nI i else hAt e x i
theorem hAt_4 (e x : Nat) : hAt e x 4 = if 2000 + e ≤ x ∧ x ≤ 2000 + e + 3 then nI (x - (2000 + e)) else -1 := by
  show (if x = 2000 + (e + 3) then nI 3 else if x = 2000 + (e + 2) then nI 2 else if x = 2000 + (e + 1) then nI 1 else if x = 2000 + (e + 0) then nI 0 else -1) = _
  by_cases h : 2000 + e ≤ x ∧ x ≤ 2000 + e + 3
  · rw [if_pos h]
    by_cases h3 : x = 2000 + (e + 3)
    · rw [if_pos h3]
      exact congrArg nI (by omega)
    · rw [if_neg h3]
      by_cases h2 : x = 2000 + (e + 2)
      · rw [if_pos h2]
        exact congrArg nI (by omega)
      · rw [if_neg h2]
        by_cases h1 : x = 2000 + (e + 1)
        · rw [if_pos h1]
          exact congrArg nI (by omega)
        · rw [if_neg h1, if_pos (by omega)]
          exact congrArg nI (by omega)
  · rw [if_neg h, if_neg (by omega), if_neg (by omega), if_neg (by omega), if_neg (by omega)]
/-- what the reading of a clause leaves as it is: rows are in cl -/
def MEy (s0 cl : Nat) (I I' : Nat → Nat → Int32) (J J' : Nat → Nat → Int64) : Prop := (∀ a, a ≠ 69 → a ≠ 80 → a ≠ 81 → a ≠ 82 → a ≠ 83 → a ≠ cl → I' a = I a) ∧ (∀ k, Mf k = false → k ≠ 21 → I' 69 k = I 69 k) ∧ (∀ a, a ≠ 69 → J' a = J a) ∧ (∀ k, k ≠ 17 → J' 69 k = J 69 k) ∧ ∀ i, i < s0 → I' 80 i = I 80 i ∧ I' 81 i = I 81 i
theorem MEy.of {s0 cl : Nat} {I I' : Nat → Nat → Int32} {J J' : Nat → Nat → Int64} (h : MEx s0 I I' J J') : MEy s0 cl I I' J J' := ⟨fun a h1 h2 h3 h4 h5 _ => h.1 a h1 h2 h3 h4 h5, fun k hk _ => h.2.1 k hk, h.2.2.1, h.2.2.2.1, h.2.2.2.2⟩
theorem MEy.ofs {s0 s1 cl : Nat} {I I' : Nat → Nat → Int32} {J J' : Nat → Nat → Int64} (h : MEx s1 I I' J J') (hs : s0 ≤ s1) : MEy s0 cl I I' J J' := ⟨fun a h1 h2 h3 h4 h5 _ => h.1 a h1 h2 h3 h4 h5, fun k hk _ => h.2.1 k hk, h.2.2.1, h.2.2.2.1, fun i hi => h.2.2.2.2 i (by omega)⟩
theorem MEy.refl (s0 cl : Nat) (I : Nat → Nat → Int32) (J : Nat → Nat → Int64) : MEy s0 cl I I J J := ⟨fun _ _ _ _ _ _ _ => rfl, fun _ _ _ => rfl, fun _ _ => rfl, fun _ _ => rfl, fun _ _ => ⟨rfl, rfl⟩⟩
theorem MEy.trans {s0 cl : Nat} {A B C : Nat → Nat → Int32} {E F G : Nat → Nat → Int64} (h : MEy s0 cl A B E F) (k : MEy s0 cl B C F G) : MEy s0 cl A C E G := ⟨fun a h1 h2 h3 h4 h5 h6 => (k.1 a h1 h2 h3 h4 h5 h6).trans (h.1 a h1 h2 h3 h4 h5 h6), fun x hx h2 => (k.2.1 x hx h2).trans (h.2.1 x hx h2), fun a ha => (k.2.2.1 a ha).trans (h.2.2.1 a ha), fun x hx => (k.2.2.2.1 x hx).trans (h.2.2.2.1 x hx), fun i hi => ⟨(k.2.2.2.2 i hi).1.trans (h.2.2.2.2 i hi).1, (k.2.2.2.2 i hi).2.trans (h.2.2.2.2 i hi).2⟩⟩
theorem MEy_c {s0 cl : Nat} (I : Nat → Nat → Int32) (J : Nat → Nat → Int64) (i : Nat) (v : Int32) (h1 : cl ≠ 69) (h2 : cl ≠ 80) (h3 : cl ≠ 81) : MEy s0 cl I (up2 I cl i v) J J := ⟨fun a _ _ _ _ _ h6 => up2_off _ _ _ h6, fun k _ _ => up2_na (fun z => h1 z.symm), fun _ _ => rfl, fun _ _ => rfl, fun i _ => ⟨up2_na (fun z => h2 z.symm), up2_na (fun z => h3 z.symm)⟩⟩
theorem MEy_21 {s0 cl : Nat} (I : Nat → Nat → Int32) (J : Nat → Nat → Int64) (v : Int32) : MEy s0 cl I (up2 I 69 21 v) J J := ⟨fun a h1 _ _ _ _ _ => up2_off _ _ _ h1, fun k _ h2 => up2_nk h2, fun _ _ => rfl, fun _ _ => rfl, fun i _ => ⟨up2_na (by decide), up2_na (by decide)⟩⟩
/-- behind a fault -/
def MBb (x : Nat) (I : Nat → Nat → Int32) : Prop := I 69 19 = nI 1 ∧ I 69 18 = nI x
theorem MBb_c {x : Nat} {I : Nat → Nat → Int32} (h : MBb x I) (a i : Nat) (v : Int32) (ha : a ≠ 69) : MBb x (up2 I a i v) := ⟨by rw [up2_na (fun z => ha z.symm)]; exact h.1, by rw [up2_na (fun z => ha z.symm)]; exact h.2⟩
theorem MHd_c {b : Nat → Nat} {t : Nat} {md : Bool} {s0 k q : Nat} {I : Nat → Nat → Int32} {J : Nat → Nat → Int64} (h : MHd b t md s0 k q I J) (a i : Nat) (v : Int32) (ha : a ≠ 69) (ha2 : a ≠ 78) : MHd b t md s0 k q (up2 I a i v) J := by
  obtain ⟨⟨h1, h2, h3, h3'⟩, ⟨h4, h5, h6⟩, h7, h8⟩ := h
  have o : up2 I a i v 69 = I 69 := up2_off _ _ _ (fun z => ha z.symm)
  exact ⟨⟨MTs_cg h1 (up2_off _ _ _ (fun z => ha2 z.symm)) (fun k _ _ => by rw [o]), h2, h3, by rw [o]; exact h3'⟩, ⟨by rw [o]; exact h4, by rw [o]; exact h5, by rw [o]; exact h6⟩, by rw [o]; exact h7, h8⟩
theorem MHd_21 {b : Nat → Nat} {t : Nat} {md : Bool} {s0 k q : Nat} {I : Nat → Nat → Int32} {J : Nat → Nat → Int64} (h : MHd b t md s0 k q I J) (v : Int32) : MHd b t md s0 k q (up2 I 69 21 v) J := by
  obtain ⟨⟨h1, h2, h3, h3'⟩, ⟨h4, h5, h6⟩, h7, h8⟩ := h
  have o : ∀ j, j ≠ 21 → up2 I 69 21 v 69 j = I 69 j := fun j hj => up2_nk hj
  exact ⟨⟨MTs_cg h1 (up2_off _ _ _ (by decide)) (fun k _ _ => o k (by omega)), h2, h3, by rw [o 18 (by decide)]; exact h3'⟩, ⟨by rw [o 19 (by decide)]; exact h4, by rw [o 20 (by decide)]; exact h5, by rw [o 26 (by decide)]; exact h6⟩, by rw [o 23 (by decide)]; exact h7, h8⟩
/-- the places of a row, emptied -/
def zrw (I : Nat → Nat → Int32) (cl x : Nat) : Nat → Nat → Nat → Int32
  | 0 => I
  | i + 1 => up2 (zrw I cl x i) cl (x + i) (nI 0)
theorem zrw_off {I : Nat → Nat → Int32} {cl x : Nat} : ∀ (N : Nat), (∀ a, a ≠ cl → zrw I cl x N a = I a) ∧ (∀ j, j < x ∨ x + N ≤ j → zrw I cl x N cl j = I cl j) ∧ ∀ j, j < N → zrw I cl x N cl (x + j) = nI 0
  | 0 => ⟨fun _ _ => rfl, fun _ _ => rfl, fun j hj => absurd hj (Nat.not_lt_zero j)⟩
  | N + 1 => by
    obtain ⟨h1, h2, h3⟩ := zrw_off (I := I) (cl := cl) (x := x) N
    refine ⟨fun a ha => ?_, fun j hj => ?_, fun j hj => ?_⟩
    · show up2 (zrw I cl x N) cl (x + N) (nI 0) a = _
      rw [up2_off _ _ _ ha, h1 a ha]
    · show up2 (zrw I cl x N) cl (x + N) (nI 0) cl j = _
      rw [up2_nk (by omega), h2 j (by omega)]
    · show up2 (zrw I cl x N) cl (x + N) (nI 0) cl (x + j) = _
      by_cases e : j = N
      · rw [e, up2_at]
      · rw [up2_nk (by omega), h3 j (by omega)]
section RLW
variable {O : mO} {d u n : Nat} {T : Nat → mT} {I : Nat → Nat → Int32} {J : Nat → Nat → Int64} {R : Nat → Nat → Option Nat} {b : Nat → Nat} {t : Nat} {md : Bool} {s0 k q c : Nat}
theorem MHd_O {I' : Nat → Nat → Int32} {J' : Nat → Nat → Int64} (h : MHd b t md s0 k q I J) (ho : MOt I I' J J') (hm : MTs b t (k + 1) I' J') (hk : k < tkN b t) : MHd b t md s0 (k + 1) q I' J' := by
  obtain ⟨⟨h1, h2, h3, h3'⟩, ⟨h4, h5, h6⟩, h7, h8⟩ := h
  obtain ⟨o1, o2, o3, o4⟩ := ho
  exact ⟨⟨hm, hk, Cns_cg h3 o3, by rw [o2 18 (by decide) (by decide) (by decide)]; exact h3'⟩, ⟨by rw [o2 19 (by decide) (by decide) (by decide)]; exact h4, by rw [o2 20 (by decide) (by decide) (by decide)]; exact h5, by rw [o2 26 (by decide) (by decide) (by decide)]; exact h6⟩, by rw [o2 23 (by decide) (by decide) (by decide)]; exact h7, by omega⟩
theorem m_nextH (hS : St n T R) (hb : ∀ k, b k ≤ 255) (ht : t ≤ 400) (h : MHd b t md s0 k q I J) (hk : k < tkN b t) : ∃ I' J', ev O (d + 2) MX11_next [.ref 69] (hp u n T I J R) = some (none, hp u n T I' J' R) ∧ MHd b t md s0 (k + 1) q I' J' ∧ MOt I I' J J' := by
  obtain ⟨I', J', e1, e2, e3⟩ := m_nextT (O := O) (d := d) (u := u) hS hb ht h.1.1
  exact ⟨I', J', e1, MHd_O h e2 e3 hk, e2⟩
theorem m_mustHG (hS : St n T R) (hb : ∀ k, b k ≤ 255) (ht : t ≤ 400) (h : MHd b t md s0 k q I J) (hk : k < tkN b t) {v : Int32} (hv : ¬ v = 0) : ∃ I' J', ev O (d + 3) MX11_must [.ref 69, .int v] (hp u n T I J R) = some (none, hp u n T I' J' R) ∧ MHd b t md s0 (k + 1) q I' J' ∧ MOt I I' J J' := by
  obtain ⟨I', J', e1, e2, e3⟩ := m_nextH (O := O) (d := d) (u := u) hS hb ht h hk
  refine ⟨I', J', e_X11_must ?_, e2, e3⟩
  unfold F_X11_must F_X11_must_j24
  rw [gi_69_19 hS, Option.bind_some, h.2.1.1, if_pos (show nI 0 = 0 from rfl), if_neg hv, Option.bind_some, if_pos (show nI 0 = 0 from rfl), vc_69 hS, e1, toV_v, Option.bind_some]
theorem m_mustHB (hS : St n T R) (h : MHd b t md s0 k q I J) {v : Int32} (hv : v = 0) : ∃ I', ev O (d + 1) MX11_must [.ref 69, .int v] (hp u n T I J R) = some (none, hp u n T I' J R) ∧ MBb (plN b t k) I' ∧ ∀ s, MEx s I I' J J := by
  obtain ⟨⟨h1, h2, h3⟩, ⟨h4, h5, h6⟩, h7, h8⟩ := h
  refine ⟨up2 (up2 I 69 19 (nI 1)) 69 18 (I 69 14), e_X11_must ?_, ⟨by rw [up2_nk (by decide), up2_at], by rw [up2_at]; exact h1.2.2.1⟩, fun s => (MEx.of69 I J (nI 1) (by decide)).trans (MEx.of69 _ J (I 69 14) (by decide))⟩
  unfold F_X11_must F_X11_must_j24
  rw [gi_69_19 hS, Option.bind_some, h4, if_pos (show nI 0 = 0 from rfl), if_pos hv, pi_69_19 hS, Option.bind_some, gi_69_14 hS, Option.bind_some, up2_nk (by decide), pi_69_18 hS, Option.bind_some, gi_69_19 hS, Option.bind_some, up2_nk (by decide), up2_at, if_neg (show ¬ nI 1 = 0 by decide)]
theorem m_headL (hS : St n T R) (hb : ∀ k, b k ≤ 255) (ht : t ≤ 400) (h : MTs b t k I J) (hC : Cns J) : lupF (fun (q : Int32 × Int32 × mH) => F_X11_readLaw_l4 O (d + 1) 69 q.1 q.2.1 q.2.2) FU (-1, nI 0, hp u n T I J R) = some (hAt 0 (fT b t k) 4, hp u n T I J R) := by
  refine lup_0 (fun i => (hAt 0 (fT b t k) i, nI i, hp u n T I J R)) (N := 4) (by decide) rfl ?_ ?_
  · intro i hi
    unfold F_X11_readLaw_l4
    dsimp only
    rw [if_neg (nI_ge hi (by decide)), ga_69_33 hS, Option.bind_some, rd_86 hS hi, Option.bind_some, hC.2.2.1 i hi, vc_69 hS, m_isWord hS hb ht h (cn_86 i hi).2 (cn_86 i hi).1, toI_i, Option.bind_some, nI_add]
    dsimp only
    congr 2
    show ((if bI (decide (fT b t k = 2000 + (0 + i))) = 0 then hAt 0 (fT b t k) i else nI i), _) = ((if fT b t k = 2000 + (0 + i) then nI i else hAt 0 (fT b t k) i), _)
    by_cases e : fT b t k = 2000 + (0 + i)
    · rw [if_pos e, decide_eq_true e, if_neg (by decide)]
    · rw [if_neg e, decide_eq_false e, if_pos (by decide)]
  · unfold F_X11_readLaw_l4
    dsimp only
    rw [if_pos (by decide)]
theorem m_zeroL (hS : St n T R) (hc : c < 12) (v1 : Int32) : lupF (fun (q : Int32 × mH) => F_X11_readLaw_l75 O d 69 v1 (nI 8 * nI c) q.1 q.2) FU (nI 0, hp u n T I J R) = some (hp u n T (zrw I 79 (8 * c) 8) J R) := by
  refine lup_0 (fun i => (nI i, hp u n T (zrw I 79 (8 * c) i) J R)) (N := 8) (by decide) rfl ?_ ?_
  · intro i hi
    unfold F_X11_readLaw_l75
    dsimp only
    rw [if_neg (nI_ge hi (by decide)), ga_69_22 hS, Option.bind_some, nI_mul, nI_add, wr_79 hS (by omega), Option.bind_some, nI_add]
    rfl
  · unfold F_X11_readLaw_l75
    dsimp only
    rw [if_pos (by decide)]
/-- a law's clause: its row and its codes -/
def ClL (I : Nat → Nat → Int32) (c s : Nat) (x : CL) : Prop := I 79 (8 * c) = nI x.1 ∧ I 79 (8 * c + 3) = nI s ∧ I 79 (8 * c + 4) = nI (s + x.2.2.2.1.length) ∧ I 79 (8 * c + 5) = nI (s + x.2.2.2.1.length) ∧ I 79 (8 * c + 6) = nI (s + lnM x) ∧ AtH (I 80) (I 81) s (x.2.2.2.1 ++ x.2.2.2.2.2.2.2)
theorem m_l185 (hS : St n T R) (hc : c < 12) {v : Int32} (hv : v = nI (8 * c)) : F_X11_readLaw_j185 O d 69 v (hp u n T I J R) = some (hp u n T (up2 I 79 (8 * c + 6) (I 69 23)) J R) := by
  unfold F_X11_readLaw_j185
  rw [ga_69_22 hS, Option.bind_some, gi_69_23 hS, Option.bind_some, hv, nI_add, wr_79 hS (by omega), Option.bind_some]
theorem m_l135B (hS : St n T R) (hc : c < 12) {x : Nat} (h : MBb x I) {v : Int32} (hv : v = nI (8 * c)) : ∃ I', F_X11_readLaw_j135 O d 69 v (hp u n T I J R) = some (hp u n T I' J R) ∧ MBb x I' ∧ ∀ s, MEy s 79 I I' J J := by
  refine ⟨up2 (up2 (up2 I 79 (8 * c + 4) (I 69 23)) 79 (8 * c + 5) (I 69 23)) 79 (8 * c + 6) (I 69 23), ?_, MBb_c (MBb_c (MBb_c h _ _ _ (by decide)) _ _ _ (by decide)) _ _ _ (by decide), fun s => ((MEy_c I J _ _ (by decide) (by decide) (by decide)).trans (MEy_c _ J _ _ (by decide) (by decide) (by decide))).trans (MEy_c _ J _ _ (by decide) (by decide) (by decide))⟩
  unfold F_X11_readLaw_j135
  rw [ga_69_22 hS, Option.bind_some, gi_69_23 hS, Option.bind_some, hv, nI_add, wr_79 hS (by omega), Option.bind_some, ga_69_22 hS, Option.bind_some, gi_69_23 hS, Option.bind_some, up2_na (by decide), nI_add, wr_79 hS (by omega), Option.bind_some, gi_69_19 hS, Option.bind_some, up2_na (by decide), up2_na (by decide), h.1, if_neg (show ¬ nI 1 = 0 by decide), m_l185 hS hc rfl, up2_na (by decide), up2_na (by decide)]
/-- behind the sum -/
theorem m_l135 (hS : St n T R) (hb : ∀ k, b k ≤ 255) (ht : t ≤ 400) (hc : c < 12) {r : GT} (h : MHd b t false s0 k q I J) (hq : q ≤ 50) (hr : gC4 false (fT b t) k q = some r) {v : Int32} (hv : v = nI (8 * c)) : ∃ I' J', F_X11_readLaw_j135 O (d + 9) 69 v (hp u n T I J R) = some (hp u n T I' J' R) ∧ MEy s0 79 I I' J J' ∧ (∀ j, r = .inl j → MBb (plN b t j) I') ∧ ∀ c4 m4 k4 q4, r = .inr (c4, m4, k4, q4) → MHd b t false (s0 + m4.length) k4 q4 I' J' ∧ AtH (I' 80) (I' 81) s0 m4 ∧ I' 69 21 = I 69 21 ∧ (∀ i, i < 8 * c + 4 → I' 79 i = I 79 i) ∧ I' 79 (8 * c + 4) = nI s0 ∧ I' 79 (8 * c + 5) = nI s0 ∧ I' 79 (8 * c + 6) = nI (s0 + m4.length) := by
  have h23 : I 69 23 = nI s0 := h.2.2.1
  have hd : ∀ {y}, ((toI (vc O (d + 9) 11 MX11_isWord 69 [.long 294] (hp u n T (up2 (up2 I 79 (8 * c + 4) (nI s0)) 79 (8 * c + 5) (nI s0)) J R))).bind fun p38 => if p38.1 = 0 then F_X11_readLaw_j185 O (d + 9) 69 v p38.2 else (toV (vc O (d + 9) 11 MX11_next 69 [] p38.2)).bind fun K41 => (toV (vc O (d + 9) 11 MX11_readExpression 69 [.int (nI 1)] K41)).bind fun K42 => F_X11_readLaw_j185 O (d + 9) 69 v K42) = y → F_X11_readLaw_j135 O (d + 9) 69 v (hp u n T I J R) = y := by
    intro y e
    unfold F_X11_readLaw_j135
    rw [ga_69_22 hS, Option.bind_some, gi_69_23 hS, Option.bind_some, h23, hv, nI_add, wr_79 hS (by omega), Option.bind_some, ga_69_22 hS, Option.bind_some, gi_69_23 hS, Option.bind_some, up2_na (by decide), h23, nI_add, wr_79 hS (by omega), Option.bind_some, gi_69_19 hS, Option.bind_some, up2_na (by decide), up2_na (by decide), h.2.1.1, if_pos (show nI 0 = 0 from rfl), ← hv]
    exact e
  have hH : MHd b t false s0 k q (up2 (up2 I 79 (8 * c + 4) (nI s0)) 79 (8 * c + 5) (nI s0)) J := MHd_c (MHd_c h _ _ _ (by decide) (by decide)) _ _ _ (by decide) (by decide)
  have ex : MEy s0 79 I (up2 (up2 I 79 (8 * c + 4) (nI s0)) 79 (8 * c + 5) (nI s0)) J J := (MEy_c I J _ _ (by decide) (by decide) (by decide)).trans (MEy_c _ J _ _ (by decide) (by decide) (by decide))
  have r4 : up2 (up2 I 79 (8 * c + 4) (nI s0)) 79 (8 * c + 5) (nI s0) 79 (8 * c + 4) = nI s0 := by rw [up2_nk (by omega), up2_at]
  have r5 : up2 (up2 I 79 (8 * c + 4) (nI s0)) 79 (8 * c + 5) (nI s0) 79 (8 * c + 5) = nI s0 := up2_at _ _ _ _
  have rl : ∀ i, i < 8 * c + 4 → up2 (up2 I 79 (8 * c + 4) (nI s0)) 79 (8 * c + 5) (nI s0) 79 i = I 79 i := fun i hi => by rw [up2_nk (by omega), up2_nk (by omega)]
  have r21 : up2 (up2 I 79 (8 * c + 4) (nI s0)) 79 (8 * c + 5) (nI s0) 69 21 = I 69 21 := by rw [up2_na (by decide), up2_na (by decide)]
  generalize up2 (up2 I 79 (8 * c + 4) (nI s0)) 79 (8 * c + 5) (nI s0) = I0 at *
  have wd := m_isWord (O := O) (d := d + 8) (u := u) hS hb ht hH.1.1 (w := 8) (x := 294) (by decide) (by decide)
  unfold gC4 at hr
  by_cases e : fT b t k = 2008
  · rw [if_pos e] at hr
    obtain ⟨I1, J1, a1, a2, a3⟩ := m_nextH (O := O) (d := d + 7) (u := u) hS hb ht hH (fT_lt (by omega))
    obtain ⟨I2, J2, b1, b2, b3, b4⟩ := m_expr (O := O) (d := d) (u := u) (tst := true) hS hb ht a2 hq hr
    refine ⟨up2 I2 79 (8 * c + 6) (I2 69 23), J2, hd ?_, ex.trans ((MEy.of (MEx.ofO a3)).trans ((MEy.of b2).trans (MEy_c _ J2 _ _ (by decide) (by decide) (by decide)))), fun j e => ?_, fun c4 m4 k4 q4 e => ?_⟩
    · rw [vc_69 hS, wd, toI_i, Option.bind_some]
      dsimp only
      rw [decide_eq_true (show mnT b t (plN b t k) = 2000 + 8 from e), if_neg (show ¬ bI true = 0 by decide), vc_69 hS, a1, toV_v, Option.bind_some, vc_69 hS, show (nI 1 : Int32) = bI true from rfl, b1, toV_v, Option.bind_some, m_l185 hS hc hv]
    · exact MBb_c ⟨(b3 j e).1, (b3 j e).2.1⟩ _ _ _ (by decide)
    · obtain ⟨g1, g2⟩ := b4 c4 m4 k4 q4 e
      have i79 : I2 79 = I0 79 := (b2.1 79 (by decide) (by decide) (by decide) (by decide) (by decide)).trans (a3.1 79 (by decide))
      refine ⟨MHd_c g1 _ _ _ (by decide) (by decide), by rw [up2_off _ _ _ (by decide), up2_off _ _ _ (by decide)]; exact g2, ?_, fun i hi => ?_, ?_, ?_, ?_⟩
      · rw [up2_na (by decide), b2.2.1 21 (by decide), a3.2.1 21 (by decide) (by decide) (by decide), r21]
      · rw [up2_nk (by omega), i79, rl i hi]
      · rw [up2_nk (by omega), i79, r4]
      · rw [up2_nk (by omega), i79, r5]
      · rw [up2_at]
        exact g1.2.2.1
  · rw [if_neg e] at hr
    have hr := Option.some.inj hr
    refine ⟨up2 I0 79 (8 * c + 6) (I0 69 23), J, hd ?_, ex.trans (MEy_c _ J _ _ (by decide) (by decide) (by decide)), fun j e => ?_, fun c4 m4 k4 q4 e => ?_⟩
    · rw [vc_69 hS, wd, toI_i, Option.bind_some]
      dsimp only
      rw [decide_eq_false (show ¬ mnT b t (plN b t k) = 2000 + 8 from e), if_pos (show bI false = 0 by decide), m_l185 hS hc hv]
    · rw [← hr] at e
      cases e
    · rw [← hr] at e
      cases e
      refine ⟨MHd_c hH _ _ _ (by decide) (by decide), trivial, by rw [up2_na (by decide), r21], fun i hi => by rw [up2_nk (by omega), rl i hi], by rw [up2_nk (by omega), r4], by rw [up2_nk (by omega), r5], ?_⟩
      rw [up2_at]
      exact hH.2.2.1
/-- what a clause leaves -/
def MCv (b : Nat → Nat) (t : Nat) (md : Bool) (s0 c cl : Nat) (I I' : Nat → Nat → Int32) (J J' : Nat → Nat → Int64) (r : Nat ⊕ (CL × Nat × Nat)) (Q : CL → Prop) : Prop := (∀ j, r = .inl j → MBb (plN b t j) I') ∧ (∀ x k' q', r = .inr (x, k', q') → MHd b t md (s0 + lnM x) k' q' I' J' ∧ I' 69 21 = nI (c + 1) ∧ Q x ∧ ∀ i, i < 8 * c → I' cl i = I cl i) ∧ MEy s0 cl I I' J J'
theorem m_readLaw (hS : St n T R) (hb : ∀ k, b k ≤ 255) (ht : t ≤ 400) (hc : c < 12) {r : Nat ⊕ (CL × Nat × Nat)} (h : MHd b t false s0 k q I J) (h21 : I 69 21 = nI c) (hq : q ≤ 50) (hr : gC false (fT b t) k q = some r) : ∃ I' J', ev O (d + 10) MX11_readLaw [.ref 69] (hp u n T I J R) = some (none, hp u n T I' J' R) ∧ MCv b t false s0 c 79 I I' J J' r (fun x => ClL I' c s0 x) := by
  have hh := m_headL (O := O) (d := d + 8) (u := u) hS hb ht h.1.1 h.1.2.2.1
  rw [hAt_4] at hh
  unfold gC at hr
  by_cases hk0 : bsK false ≤ fT b t k ∧ fT b t k ≤ bsK false + 3
  · rw [if_pos hk0] at hr
    have hk1 : 2000 ≤ fT b t k ∧ fT b t k ≤ 2003 := hk0
    rw [if_pos (show 2000 + 0 ≤ fT b t k ∧ fT b t k ≤ 2000 + 0 + 3 from hk0)] at hh
    have hh : lupF (fun (q : Int32 × Int32 × mH) => F_X11_readLaw_l4 O (d + 9) 69 q.1 q.2.1 q.2.2) FU (-1, nI 0, hp u n T I J R) = some (nI (fT b t k - 2000), hp u n T I J R) := hh
    obtain ⟨I1, J1, a1, a2, a3⟩ := m_mustHG (O := O) (d := d + 6) (u := u) (v := nI 1) hS hb ht h (fT_lt (by omega)) (by decide)
    have n21 : I1 69 21 = nI c := by rw [a3.2.1 21 (by decide) (by decide) (by decide)]; exact h21
    let I2 : Nat → Nat → Int32 := up2 (up2 (up2 (zrw I1 79 (8 * c) 8) 79 (8 * c) (nI (fT b t k - 2000))) 69 21 (nI (c + 1))) 79 (8 * c + 3) (nI s0)
    obtain ⟨z1, z2, z3⟩ := zrw_off (I := I1) (cl := 79) (x := 8 * c) 8
    have zH : MHd b t false s0 (k + 1) q (zrw I1 79 (8 * c) 8) J1 := by
      obtain ⟨⟨h1, h2, h3, h3'⟩, ⟨h4, h5, h6⟩, h7, h8⟩ := a2
      exact ⟨⟨MTs_cg h1 (z1 78 (by decide)) (fun k _ _ => by rw [z1 69 (by decide)]), h2, h3, by rw [z1 69 (by decide)]; exact h3'⟩, ⟨by rw [z1 69 (by decide)]; exact h4, by rw [z1 69 (by decide)]; exact h5, by rw [z1 69 (by decide)]; exact h6⟩, by rw [z1 69 (by decide)]; exact h7, h8⟩
    have hH : MHd b t false s0 (k + 1) q I2 J1 := MHd_c (MHd_21 (MHd_c zH _ _ _ (by decide) (by decide)) _) _ _ _ (by decide) (by decide)
    have ex : MEy s0 79 I I2 J J1 := by
      refine (MEy.of (MEx.ofO a3)).trans ((((MEy.trans (B := zrw I1 79 (8 * c) 8) ?_ (MEy_c _ J1 _ _ (by decide) (by decide) (by decide))).trans (MEy_21 _ J1 _)).trans (MEy_c _ J1 _ _ (by decide) (by decide) (by decide))))
      exact ⟨fun a _ _ _ _ _ h6 => z1 a h6, fun k _ _ => by rw [z1 69 (by decide)], fun _ _ => rfl, fun _ _ => rfl, fun i _ => ⟨by rw [z1 80 (by decide)], by rw [z1 81 (by decide)]⟩⟩
    have q21 : I2 69 21 = nI (c + 1) := by
      show up2 (up2 (up2 (zrw I1 79 (8 * c) 8) 79 (8 * c) (nI (fT b t k - 2000))) 69 21 (nI (c + 1))) 79 (8 * c + 3) (nI s0) 69 21 = _
      rw [up2_na (by decide), up2_at]
    have q0 : I2 79 (8 * c) = nI (fT b t k - 2000) := by
      show up2 (up2 (up2 (zrw I1 79 (8 * c) 8) 79 (8 * c) (nI (fT b t k - 2000))) 69 21 (nI (c + 1))) 79 (8 * c + 3) (nI s0) 79 (8 * c) = _
      rw [up2_nk (by omega), up2_na (by decide), up2_at]
    have q3 : I2 79 (8 * c + 3) = nI s0 := up2_at _ _ _ _
    have ql : ∀ i, i < 8 * c → I2 79 i = I 79 i := by
      intro i hi
      show up2 (up2 (up2 (zrw I1 79 (8 * c) 8) 79 (8 * c) (nI (fT b t k - 2000))) 69 21 (nI (c + 1))) 79 (8 * c + 3) (nI s0) 79 i = _
      rw [up2_nk (by omega), up2_na (by decide), up2_nk (by omega), z2 i (Or.inl hi), a3.1 79 (by decide)]
    have hd : ∀ {Y}, (if nI (fT b t k - 2000) = nI 3 then F_X11_readLaw_j135 O (d + 9) 69 (nI 8 * nI c) (hp u n T I2 J1 R) else (toV (ev O (d + 9) MX11_readExpression [.ref 69, .int (nI 0)] (hp u n T I2 J1 R))).bind fun K60 => F_X11_readLaw_j135 O (d + 9) 69 (nI 8 * nI c) K60) = some Y → ev O (d + 10) MX11_readLaw [.ref 69] (hp u n T I J R) = some (none, Y) := by
      intro Y e
      refine e_X11_readLaw ?_
      unfold F_X11_readLaw
      rw [hh, Option.bind_some]
      dsimp only
      rw [if_neg (nI_ne1 (by omega)), gi_69_21 hS, Option.bind_some, h21, if_neg (nI_ge hc (by decide)), vc_69 hS, a1, toV_v, Option.bind_some, gi_69_19 hS, Option.bind_some, a2.2.1.1, if_pos (show nI 0 = 0 from rfl), gi_69_21 hS, Option.bind_some, n21, m_zeroL hS hc, Option.bind_some, ga_69_22 hS, Option.bind_some, nI_mul, wr_79 hS (by omega), Option.bind_some, gi_69_21 hS, Option.bind_some, up2_na (by decide), z1 69 (by decide), n21, nI_add, pi_69_21 hS, Option.bind_some, ga_69_22 hS, Option.bind_some, gi_69_23 hS, Option.bind_some, up2_nk (by decide), up2_na (by decide), z1 69 (by decide), a2.2.2.1, nI_add, wr_79 hS (by omega), Option.bind_some, vc_69 hS]
      rw [nI_mul] at e
      exact e
    generalize I2 = I2 at *
    have e8 : nI 8 * nI c = nI (8 * c) := nI_mul 8 c
    -- behind the sum
    have rest : ∀ (c1 m1 : GC) (k1 q1 : Nat) (I3 : Nat → Nat → Int32) (J3 : Nat → Nat → Int64), MHd b t false (s0 + m1.length) k1 q1 I3 J3 → q1 ≤ 50 → AtH (I3 80) (I3 81) s0 m1 → I3 69 21 = nI (c + 1) → I3 79 = I2 79 → MEy s0 79 I I3 J J3 → (gWd (gC2 false (fT b t) k k1 q1) fun x2 => gWd (gC3 false (fT b t) x2.2.2.1) fun x3 => gWd (gC4 false (fT b t) x3.2 x2.2.2.2) fun x4 => some (Sum.inr ((fT b t k - bsK false, x3.1, c1, m1, x2.1, x2.2.1, x4.1, x4.2.1), x4.2.2.1, x4.2.2.2) : Nat ⊕ (CL × Nat × Nat))) = some r → ∃ I' J', F_X11_readLaw_j135 O (d + 9) 69 (nI 8 * nI c) (hp u n T I3 J3 R) = some (hp u n T I' J' R) ∧ MCv b t false s0 c 79 I I' J J' r (fun x => ClL I' c s0 x) := by
      intro c1 m1 k1 q1 I3 J3 i1 i2 i3 i4 i5 i6 hr
      have g2 : gC2 false (fT b t) k k1 q1 = some (.inr ([], [], k1, q1)) := if_neg (fun z => by cases z.1)
      have g3 : gC3 false (fT b t) k1 = some (.inr (1, k1)) := if_neg (fun z => by cases z.1)
      rw [g2] at hr
      have hr : (gWd (gC3 false (fT b t) k1) fun x3 => gWd (gC4 false (fT b t) x3.2 q1) fun x4 => some (Sum.inr ((fT b t k - bsK false, x3.1, c1, m1, [], [], x4.1, x4.2.1), x4.2.2.1, x4.2.2.2) : Nat ⊕ (CL × Nat × Nat))) = some r := hr
      rw [g3] at hr
      have hr : (gWd (gC4 false (fT b t) k1 q1) fun x4 => some (Sum.inr ((fT b t k - bsK false, 1, c1, m1, [], [], x4.1, x4.2.1), x4.2.2.1, x4.2.2.2) : Nat ⊕ (CL × Nat × Nat))) = some r := hr
      cases hy : gC4 false (fT b t) k1 q1 with
      | none =>
        rw [hy] at hr
        cases hr
      | some z =>
        obtain ⟨I', J', f1, f2, f3, f4⟩ := m_l135 (O := O) (d := d) (u := u) hS hb ht hc i1 i2 hy e8
        refine ⟨I', J', f1, ?_⟩
        have f2' : MEy s0 79 I3 I' J3 J' := ⟨f2.1, f2.2.1, f2.2.2.1, f2.2.2.2.1, fun i hi => f2.2.2.2.2 i (by omega)⟩
        rw [hy] at hr
        cases z with
        | inl j =>
          rw [← Option.some.inj hr]
          exact ⟨(fun j' e => by cases e; exact f3 j rfl), (fun x k' q' e => by cases e), i6.trans f2'⟩
        | inr w =>
          obtain ⟨c4, m4, k4, q4⟩ := w
          rw [← Option.some.inj hr]
          obtain ⟨p1, p2, p3, p4, p5, p6, p7⟩ := f4 c4 m4 k4 q4 rfl
          refine ⟨(fun j' e => by cases e), fun x k' q' e => ?_, i6.trans f2'⟩
          obtain ⟨e1, e2⟩ := Prod.mk.inj (Sum.inr.inj e)
          obtain ⟨e2, e3⟩ := Prod.mk.inj e2
          subst e1 e2 e3
          have ln : s0 + lnM (fT b t k - bsK false, 1, c1, m1, [], [], c4, m4) = s0 + m1.length + m4.length := by
            show s0 + (m1.length + 0 + m4.length) = _
            omega
          refine ⟨by rw [ln]; exact p1, by rw [p3]; exact i4, ⟨?_, ?_, p5, p6, by rw [ln]; exact p7, ?_⟩, fun i hi => by rw [p4 i (by omega), i5, ql i hi]⟩
          · rw [p4 _ (by omega), i5, q0]
            rfl
          · rw [p4 _ (by omega), i5, q3]
          · show AtH (I' 80) (I' 81) s0 (m1 ++ m4)
            rw [AtH_ap]
            exact ⟨AtH_cg _ _ (fun j _ hj => f2.2.2.2.2 j hj) i3, p2⟩
    have hr : (gWd (gC1 false (fT b t) k q) fun x1 => gWd (gC2 false (fT b t) k x1.2.2.1 x1.2.2.2) fun x2 => gWd (gC3 false (fT b t) x2.2.2.1) fun x3 => gWd (gC4 false (fT b t) x3.2 x2.2.2.2) fun x4 => some (Sum.inr ((fT b t k - bsK false, x3.1, x1.1, x1.2.1, x2.1, x2.2.1, x4.1, x4.2.1), x4.2.2.1, x4.2.2.2) : Nat ⊕ (CL × Nat × Nat))) = some r := hr
    unfold gC1 at hr
    by_cases e3 : fT b t k = bsK false + 3
    · rw [if_pos e3] at hr
      have e3' : fT b t k = 2003 := e3
      obtain ⟨I', J', f1, f2⟩ := rest [] [] (k + 1) q I2 J1 hH hq trivial q21 rfl ex hr
      exact ⟨I', J', hd (by rw [if_pos (by rw [e3']), f1]), f2⟩
    · rw [if_neg e3] at hr
      have n3 : ¬ nI (fT b t k - 2000) = nI 3 := fun z => e3 (by have := (nI_eq (by omega) (by omega)).mp z; show fT b t k = 2003; omega)
      cases hx : gE false (fT b t) 2 (k + 1) q with
      | none =>
        rw [hx] at hr
        cases hr
      | some x =>
        obtain ⟨I3, J3, b1, b2, b3, b4⟩ := m_expr (O := O) (d := d) (u := u) (tst := false) hS hb ht hH hq hx
        rw [show bI false = nI 0 from rfl] at b1
        have ex3 := ex.trans (MEy.of b2)
        rw [hx] at hr
        cases x with
        | inl j =>
          rw [← Option.some.inj hr]
          have hB := b3 j rfl
          obtain ⟨I', f1, f2, f3⟩ := m_l135B (O := O) (d := d + 9) (u := u) (J := J3) hS hc (show MBb (plN b t j) I3 from ⟨hB.1, hB.2.1⟩) e8
          refine ⟨I', J3, hd ?_, (fun j' e => by cases e; exact f2), (fun x k' q' e => by cases e), ex3.trans (f3 s0)⟩
          rw [if_neg n3, b1, toV_v, Option.bind_some, f1]
        | inr y =>
          obtain ⟨c1, m1, k1, q1⟩ := y
          obtain ⟨g1, g2⟩ := b4 _ _ _ _ rfl
          have v3 : q1 ≤ 50 := by
            have tl := tkN_le (b := b) (t := t)
            rcases gE_ok (md := false) (T := tkN b t) (f := fT b t) (by omega) (fun k => fT_lt) (Or.inl rfl) (show k + 1 ≤ tkN b t from hH.1.2.1) hq with ⟨j, z, _⟩ | ⟨c', m', k', q', z, w1, w2, w3, w4, w5, _⟩
            · rw [hx] at z
              cases z
            · rw [hx] at z
              cases z
              exact w4
          obtain ⟨I', J', f1, f2⟩ := rest c1 m1 k1 q1 I3 J3 g1 v3 g2 (by rw [b2.2.1 21 (by decide)]; exact q21) (b2.1 79 (by decide) (by decide) (by decide) (by decide) (by decide)) ex3 hr
          refine ⟨I', J', hd ?_, f2⟩
          rw [if_neg n3, b1, toV_v, Option.bind_some, f1]
  · rw [if_neg hk0] at hr
    rw [← Option.some.inj hr]
    rw [if_neg (show ¬ (2000 + 0 ≤ fT b t k ∧ fT b t k ≤ 2000 + 0 + 3) from hk0)] at hh
    obtain ⟨I1, a1, a2, a3⟩ := m_mustHB (O := O) (d := d + 8) (u := u) (v := nI 0) hS h rfl
    refine ⟨I1, J, e_X11_readLaw ?_, (fun j e => by cases e; exact a2), (fun x k' q' e => by cases e), MEy.of (a3 s0)⟩
    unfold F_X11_readLaw F_X11_readLaw_j53 F_X11_readLaw_j54
    rw [hh, Option.bind_some]
    dsimp only
    rw [if_pos rfl, vc_69 hS, a1, toV_v, Option.bind_some, gi_69_19 hS, Option.bind_some, a2.1, if_neg (show ¬ nI 1 = 0 by decide)]
/-- no clause more may begin -/
theorem m_readLaw12 (hS : St n T R) (hb : ∀ k, b k ≤ 255) (ht : t ≤ 400) (h : MHd b t false s0 k q I J) (h21 : I 69 21 = nI 12) : ∃ I', ev O (d + 10) MX11_readLaw [.ref 69] (hp u n T I J R) = some (none, hp u n T I' J R) ∧ MBb (plN b t k) I' ∧ ∀ s, MEx s I I' J J := by
  have hh := m_headL (O := O) (d := d + 8) (u := u) hS hb ht h.1.1 h.1.2.2.1
  obtain ⟨I1, a1, a2, a3⟩ := m_mustHB (O := O) (d := d + 8) (u := u) (v := nI 0) hS h rfl
  refine ⟨I1, e_X11_readLaw ?_, a2, a3⟩
  unfold F_X11_readLaw F_X11_readLaw_j53 F_X11_readLaw_j54
  rw [hh, Option.bind_some]
  dsimp only
  rw [gi_69_21 hS, Option.bind_some, h21, if_pos (show nI 12 ≤ nI 12 by decide), vc_69 hS, a1, toV_v, Option.bind_some, gi_69_19 hS, Option.bind_some, a2.1, if_neg (show ¬ nI 1 = 0 by decide)]
  split <;> rfl
end RLW
