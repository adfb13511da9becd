/-! the class's clauses follow the grammar -/
theorem kd_neg : (∀ x, x < 2000 → nI x - nI 2000 - nI 0 < 0) ∧ ∀ x, x < 2004 → nI x - nI 2000 - nI 4 < 0 := by decide +kernel
def CEy (I I' : Nat → Nat → Int32) : Prop := (∀ a, a ≠ 1 → a ≠ 2 → a ≠ 3 → a ≠ 4 → I' a = I a) ∧ I' 1 9 = I 1 9
theorem CEy.of {I I' : Nat → Nat → Int32} (h : CEx I I') : CEy I I' := ⟨fun a h1 h2 h3 _ => h.1 a h1 h2 h3, h.2.1⟩
theorem CEy.refl (I : Nat → Nat → Int32) : CEy I I := ⟨fun _ _ _ _ _ => rfl, rfl⟩
theorem CEy.trans {A B C : Nat → Nat → Int32} (h : CEy A B) (k : CEy B C) : CEy A C := ⟨fun a h1 h2 h3 h4 => (k.1 a h1 h2 h3 h4).trans (h.1 a h1 h2 h3 h4), k.2.trans h.2⟩
theorem CEy_4 (I : Nat → Nat → Int32) (i : Nat) (v : Int32) : CEy I (up2 I 4 i v) := ⟨fun a _ _ _ h4 => up2_off _ _ _ h4, up2_na (by decide)⟩
theorem CGd_4 {b : Nat → Nat} {t k q br s : Nat} {I : Nat → Nat → Int32} (h : CGd b t k q br s I) (i : Nat) (v : Int32) : CGd b t k q br s (up2 I 4 i v) := by
  obtain ⟨y1, y2, y3, y4, y5, y6, y7, y8⟩ := h
  have o1 : up2 I 4 i v 1 = I 1 := up2_off _ _ _ (by decide)
  have o2 : up2 I 4 i v 2 = I 2 := up2_off _ _ _ (by decide)
  exact ⟨CTk_cg y1 (up2_off _ _ _ (by decide)) (up2_off _ _ _ (by decide)) (by rw [o1]), y2, by rw [o1]; exact y3, by rw [o1]; exact y4, by rw [o1]; exact y5, by rw [o1]; exact y6, by rw [o1]; exact y7, by rw [o2]; exact y8⟩
theorem CBd_4 {b : Nat → Nat} {t x : Nat} {I : Nat → Nat → Int32} (h : CBd b t x I) (i : Nat) (v : Int32) : CBd b t x (up2 I 4 i v) := by
  obtain ⟨y1, y2, y3, y4, ⟨q, y5, y6⟩, s, y7, y8⟩ := h
  have o1 : up2 I 4 i v 1 = I 1 := up2_off _ _ _ (by decide)
  have o2 : up2 I 4 i v 2 = I 2 := up2_off _ _ _ (by decide)
  exact ⟨CTk_cg y1 (up2_off _ _ _ (by decide)) (up2_off _ _ _ (by decide)) (by rw [o1]), by rw [o1]; exact y2, by rw [o1]; exact y3, y4, ⟨q, y5, by rw [o1]; exact y6⟩, s, y7, by rw [o2]; exact y8⟩
section CCL
variable {O : mO} {u n : Nat} {T : Nat → mT} {I : Nat → Nat → Int32} {J : Nat → Nat → Int64} {R : Nat → Nat → Option Nat} {b : Nat → Nat} {t : Nat} {md : Bool}
theorem cl_set (hS : St n T R) {d c w : Nat} (h3 : I 2 3 = nI (c + 1)) (hc : c < 12) (hw : w < 6) (v : Int32) : ev O (d + 1) MX5_set [.ref 2, .int (nI w), .int v] (hp u n T I J R) = some (none, hp u n T (up2 I 4 (c * 6 + w) v) J R) := by
  refine e_X5_set ?_
  unfold F_X5_set
  have e : (nI (c + 1) - nI 1) * nI 6 + nI w = nI (c * 6 + w) := by rw [nI_sub (by omega), Nat.add_sub_cancel, nI_mul, nI_add]
  rw [gi_2_3 hS, Option.bind_some, h3, e, if_neg (show ¬ nI (c * 6 + w) < 0 from fun z => absurd ((nI_ltI (b := 0) (by omega) (by omega)).mp z) (by omega)), ga_2_1 hS, Option.bind_some, ln_4 hS, Option.bind_some, if_neg (nI_ge (show c * 6 + w < 72 by omega) (by omega)), Option.bind_some, wr_4 hS (by omega), Option.bind_some]
theorem cl_open (hS : St n T R) {d c s : Nat} (h3 : I 2 3 = nI c) (hc : c < 12) (h2 : I 2 2 = nI s) (kd : Int32) : ev O (d + 2) MX5_openClause [.ref 2, .int kd] (hp u n T I J R) = some (none, hp u n T (up2 (up2 (up2 (up2 I 2 3 (nI (c + 1))) 4 (c * 6 + 0) kd) 4 (c * 6 + 1) (nI 1)) 4 (c * 6 + 2) (nI s)) J R) := by
  refine e_X5_openClause ?_
  unfold F_X5_openClause
  have s1 := cl_set (O := O) (u := u) (J := J) (d := d) (I := up2 I 2 3 (nI (c + 1))) hS (w := 0) (up2_at _ _ _ _) hc (by decide) kd
  have s2 := cl_set (O := O) (u := u) (J := J) (d := d) (I := up2 (up2 I 2 3 (nI (c + 1))) 4 (c * 6 + 0) kd) hS (w := 1) (by rw [up2_na (by decide), up2_at]) hc (by decide) (nI 1)
  have s3 := cl_set (O := O) (u := u) (J := J) (d := d) (I := up2 (up2 (up2 I 2 3 (nI (c + 1))) 4 (c * 6 + 0) kd) 4 (c * 6 + 1) (nI 1)) hS (w := 2) (by rw [up2_na (by decide), up2_na (by decide), up2_at]) hc (by decide) (nI s)
  rw [gi_2_3 hS, Option.bind_some, h3, nI_add, pi_2_3 hS, Option.bind_some, vc_2 hS, s1, toV_v, Option.bind_some, vc_2 hS, s2, toV_v, Option.bind_some, gi_2_2 hS, Option.bind_some, up2_na (by decide), up2_na (by decide), up2_nk (by decide), h2, vc_2 hS, s3, toV_v, Option.bind_some]
theorem c_j215 (hS : St n T R) {d c : Nat} (h3 : I 2 3 = nI (c + 1)) (hc : c < 12) : F_X6_clause_j215 O (d + 1) 1 (hp u n T I J R) = some (hp u n T (up2 I 4 (c * 6 + 5) (I 2 2)) J R) := by
  unfold F_X6_clause_j215
  rw [ga_1_0 hS, Option.bind_some, Option.bind_some, gi_2_2 hS, Option.bind_some, vc_2 hS, cl_set hS h3 hc (by decide), toV_v, Option.bind_some]
theorem c_j193B (hS : St n T R) {d c x : Nat} (h3 : I 2 3 = nI (c + 1)) (hc : c < 12) (h : CBd b t x I) : ∃ I', F_X6_clause_j193 O (d + 1) 1 (hp u n T I J R) = some (hp u n T I' J R) ∧ CBd b t x I' ∧ CEy I I' := by
  refine ⟨up2 I 4 (c * 6 + 5) (I 2 2), ?_, CBd_4 h _ _, CEy_4 _ _ _⟩
  unfold F_X6_clause_j193
  rw [gi_1_5 hS, Option.bind_some, h.2.1, if_neg (show ¬ nI 4000 = nI 2008 by decide), c_j215 hS h3 hc]
theorem c_j113B (hS : St n T R) {d c x : Nat} (h3 : I 2 3 = nI (c + 1)) (hc : c < 12) (h : CBd b t x I) : ∃ I', F_X6_clause_j113 O (d + 1) 1 (hp u n T I J R) = some (hp u n T I' J R) ∧ CBd b t x I' ∧ CEy I I' := by
  obtain ⟨I', e1, e2, e3⟩ := c_j193B (O := O) (u := u) (J := J) (d := d) (I := up2 I 4 (c * 6 + 4) (I 2 2)) hS (by rw [up2_na (by decide)]; exact h3) hc (CBd_4 h _ _)
  refine ⟨I', ?_, e2, (CEy_4 _ _ _).trans e3⟩
  unfold F_X6_clause_j113
  have h5 : up2 I 4 (c * 6 + 4) (I 2 2) 1 5 = nI 4000 := by rw [up2_na (by decide)]; exact h.2.1
  rw [ga_1_0 hS, Option.bind_some, Option.bind_some, gi_2_2 hS, Option.bind_some, vc_2 hS, cl_set hS h3 hc (by decide), toV_v, Option.bind_some, gi_1_9 hS, Option.bind_some, gi_1_5 hS, Option.bind_some, h5, if_neg (show ¬ nI 4000 = nI 2013 by decide), e1]
  split <;> rfl
theorem c_j74B (hS : St n T R) (ht : t ≤ 400) {d c x : Nat} (h3 : I 2 3 = nI (c + 1)) (hc : c < 12) (h : CBd b t x I) (v : Int32) : ∃ I', F_X6_clause_j74 O (d + 5) 1 v (hp u n T I J R) = some (hp u n T I' J R) ∧ CBd b t x I' ∧ CEy I I' := by
  have h3' : up2 I 4 (c * 6 + 3) (I 2 2) 2 3 = nI (c + 1) := by rw [up2_na (by decide)]; exact h3
  obtain ⟨Ia, a1, a2, a3⟩ := c_j113B (O := O) (u := u) (J := J) (d := d + 4) (I := up2 I 4 (c * 6 + 3) (I 2 2)) hS h3' hc (CBd_4 h _ _)
  obtain ⟨Ib, b1, b2, b3⟩ := c_takeBd (O := O) (d := d + 4) (u := u) (J := J) (x := nI 2012) hS ht (CBd_4 h (c * 6 + 3) (I 2 2))
  obtain ⟨Ic, c1, c2, c3⟩ := c_sumBd (O := O) (d := d) (u := u) (J := J) hS ht b2
  obtain ⟨Id, d1, d2, d3⟩ := c_j113B (O := O) (u := u) (J := J) (d := d + 4) (I := Ic) hS (by rw [c3.2.2, b3.2.2]; exact h3') hc c2
  have hd : ∀ {y}, (if up2 I 4 (c * 6 + 3) (I 2 2) 1 9 = 0 then F_X6_clause_j113 O (d + 5) 1 (hp u n T (up2 I 4 (c * 6 + 3) (I 2 2)) J R) else if v = nI 1 then (toV (vc O (d + 5) 6 MX6_take 1 [.int (nI 2012)] (hp u n T (up2 I 4 (c * 6 + 3) (I 2 2)) J R))).bind fun K56 => (toV (vc O (d + 5) 6 MX6_sum 1 [.int (nI 0)] K56)).bind fun K57 => F_X6_clause_j113 O (d + 5) 1 K57 else F_X6_clause_j113 O (d + 5) 1 (hp u n T (up2 I 4 (c * 6 + 3) (I 2 2)) J R)) = y → F_X6_clause_j74 O (d + 5) 1 v (hp u n T I J R) = y := by
    intro y e
    unfold F_X6_clause_j74
    rw [ga_1_0 hS, Option.bind_some, Option.bind_some, gi_2_2 hS, Option.bind_some, vc_2 hS, cl_set hS h3 hc (by decide), toV_v, Option.bind_some, gi_1_9 hS, Option.bind_some]
    exact e
  by_cases h9 : up2 I 4 (c * 6 + 3) (I 2 2) 1 9 = 0
  · exact ⟨Ia, hd (by rw [if_pos h9, a1]), a2, (CEy_4 _ _ _).trans a3⟩
  · by_cases hv : v = nI 1
    · refine ⟨Id, hd ?_, d2, (CEy_4 _ _ _).trans ((CEy.of b3).trans ((CEy.of c3).trans d3))⟩
      rw [if_neg h9, if_pos hv, vc_1 hS, b1, toV_v, Option.bind_some, vc_1 hS, c1, toV_v, Option.bind_some, d1]
    · exact ⟨Ia, hd (by rw [if_neg h9, if_neg hv, a1]), a2, (CEy_4 _ _ _).trans a3⟩
/-- what a stage of a clause leaves -/
def CVo (b : Nat → Nat) (t c s : Nat) (I I' : Nat → Nat → Int32) {α : Type} (r : Nat ⊕ α) (Q : α → Prop) : Prop := (∀ j, r = .inl j → CBd b t (plN b t j) I') ∧ (∀ x, r = .inr x → Q x ∧ (∀ i, i < s → I' 3 i = I 3 i) ∧ I' 2 3 = nI (c + 1)) ∧ CEy I I'
theorem CVo_bad {b : Nat → Nat} {t c s j : Nat} {I I' : Nat → Nat → Int32} {α : Type} {Q : α → Prop} (h : CBd b t (plN b t j) I') (h2 : CEy I I') : CVo b t c s I I' (.inl j : Nat ⊕ α) Q := ⟨fun j' e => by cases e; exact h, (fun x e => by cases e), h2⟩
theorem CVo_ok {b : Nat → Nat} {t c s : Nat} {I I' : Nat → Nat → Int32} {α : Type} {Q : α → Prop} {x : α} (h : Q x) (h1 : ∀ i, i < s → I' 3 i = I 3 i) (h3 : I' 2 3 = nI (c + 1)) (h2 : CEy I I') : CVo b t c s I I' (.inr x : Nat ⊕ α) Q := ⟨(fun j' e => by cases e), fun y e => by cases e; exact ⟨h, h1, h3⟩, h2⟩
theorem c_eSum (hS : St n T R) (hb : ∀ k, b k ≤ 255) (ht : t ≤ 400) (d : Nat) : CSub O u n T J R b t md (d + 185) MX6_sum [.int (nI 0)] 0 (fun k q => gE md (fT b t) 2 k q) := c_expr hS hb ht 60 d 2 0 (by decide) (by decide) (by decide)
theorem c_eTest (hS : St n T R) (hb : ∀ k, b k ≤ 255) (ht : t ≤ 400) (d : Nat) : CSub O u n T J R b t md (d + 185) MX6_test [.int (nI 0)] 0 (fun k q => gE md (fT b t) 5 k q) := c_expr hS hb ht 60 d 5 0 (by decide) (by decide) (by decide)
theorem c_j193 (hS : St n T R) (hb : ∀ k, b k ≤ 255) (ht : t ≤ 400) {d c k q s : Nat} {r : GT} (h3 : I 2 3 = nI (c + 1)) (hc : c < 12) (h : CGd b t k q 0 s I) (h9 : I 1 9 = bI md) (hs : s ≤ k) (hq : q ≤ 50) (hr : gC4 md (fT b t) k q = some r) : ∃ I', F_X6_clause_j193 O (d + 185) 1 (hp u n T I J R) = some (hp u n T I' J R) ∧ CVo b t c s I I' r (fun x => CGd b t x.2.2.1 x.2.2.2 0 (s + x.1.length) I' ∧ AtC (I' 3) s x.1 ∧ (∀ i, i < c * 6 + 5 → I' 4 i = I 4 i) ∧ I' 4 (c * 6 + 5) = nI (s + x.1.length)) := by
  have h5 : I 1 5 = nI (fT b t k) := h.2.2.2.1
  have mle : fT b t k ≤ 4000 := mnT_le hb _
  unfold gC4 at hr
  by_cases e : fT b t k = 2008
  · rw [if_pos e] at hr
    obtain ⟨Ia, a1, a2, a3, a4, a5⟩ := c_takeOk (O := O) (d := d + 184) (u := u) (J := J) (x := nI 2008) hS ht h (fT_lt (by omega)) (by rw [← e]; rfl)
    obtain ⟨Ib, b1, b2⟩ := c_eTest (O := O) (u := u) (J := J) (md := md) hS hb ht d (k + 1) q s Ia r a2 (by rw [a3.2.1]; exact h9) (by omega) hq hr
    have hn : Ib 2 3 = nI (c + 1) := by rw [b2.2.2.2.2, a3.2.2]; exact h3
    refine ⟨up2 Ib 4 (c * 6 + 5) (Ib 2 2), ?_, ?_⟩
    · unfold F_X6_clause_j193
      rw [gi_1_5 hS, Option.bind_some, h5, e, if_pos rfl, vc_1 hS, a1, toV_v, Option.bind_some, vc_1 hS, b1, toV_v, Option.bind_some, c_j215 hS hn hc]
    · have ey := (CEy.of a3).trans ((CEy.of b2.2.2).trans (CEy_4 Ib (c * 6 + 5) (Ib 2 2)))
      cases r with
      | inl j => exact CVo_bad (CBd_4 (b2.1 j rfl) _ _) ey
      | inr x =>
        obtain ⟨c4, m4, k4, q4⟩ := x
        obtain ⟨g1, g2, g3⟩ := b2.2.1 _ _ _ _ rfl
        have o3 : up2 Ib 4 (c * 6 + 5) (Ib 2 2) 3 = Ib 3 := up2_off _ _ _ (by decide)
        refine CVo_ok ⟨CGd_4 g1 _ _, by rw [o3]; exact g3, fun i hi => ?_, ?_⟩ (fun i hi => by rw [o3, g2 i hi, a4]) (by rw [up2_na (by decide)]; exact hn) ey
        · rw [up2_nk (by omega), b2.2.2.1 4 (by decide) (by decide) (by decide), a3.1 4 (by decide) (by decide) (by decide)]
        · rw [up2_at]
          exact g1.2.2.2.2.2.2.2
  · rw [if_neg e] at hr
    rw [← Option.some.inj hr]
    refine ⟨up2 I 4 (c * 6 + 5) (I 2 2), ?_, CVo_ok ⟨CGd_4 h _ _, trivial, fun i hi => up2_nk (by omega), by rw [up2_at]; exact h.2.2.2.2.2.2.2⟩ (fun i hi => by rw [up2_na (by decide)]) (by rw [up2_na (by decide)]; exact h3) (CEy_4 _ _ _)⟩
    unfold F_X6_clause_j193
    rw [gi_1_5 hS, Option.bind_some, h5, if_neg (fun z => e ((nI_eq (by omega) (by omega)).mp z)), c_j215 hS h3 hc]
/-- times and test -/
noncomputable def gC34 (md : Bool) (f : Nat → Nat) (k q : Nat) : Option (Nat ⊕ (Nat × GC × GC × Nat × Nat)) := gWd (gC3 md f k) fun x3 => gWd (gC4 md f x3.2 q) fun x4 => some (.inr (x3.1, x4))
theorem c_j113 (hS : St n T R) (hb : ∀ k, b k ≤ 255) (ht : t ≤ 400) {d c k q s : Nat} {r : Nat ⊕ (Nat × GC × GC × Nat × Nat)} (h3 : I 2 3 = nI (c + 1)) (hc : c < 12) (h : CGd b t k q 0 s I) (h9 : I 1 9 = bI md) (hs : s ≤ k) (hq : q ≤ 50) (h1 : I 4 (c * 6 + 1) = nI 1) (hr : gC34 md (fT b t) k q = some r) : ∃ I', F_X6_clause_j113 O (d + 185) 1 (hp u n T I J R) = some (hp u n T I' J R) ∧ CVo b t c s I I' r (fun x => CGd b t x.2.2.2.1 x.2.2.2.2 0 (s + x.2.1.length) I' ∧ AtC (I' 3) s x.2.1 ∧ (∀ i, i < c * 6 + 4 → i ≠ c * 6 + 1 → I' 4 i = I 4 i) ∧ I' 4 (c * 6 + 1) = nI x.1 ∧ I' 4 (c * 6 + 4) = nI s ∧ I' 4 (c * 6 + 5) = nI (s + x.2.1.length)) := by
  have tl := tkN_le (b := b) (t := t)
  have h5 : I 1 5 = nI (fT b t k) := h.2.2.2.1
  have h2 : I 2 2 = nI s := h.2.2.2.2.2.2.2
  have mle : fT b t k ≤ 4000 := mnT_le hb _
  have mle1 : fT b t (k + 1) ≤ 4000 := mnT_le hb _
  have g4 := CGd_4 h (c * 6 + 4) (nI s)
  have n3 : up2 I 4 (c * 6 + 4) (nI s) 2 3 = nI (c + 1) := by rw [up2_na (by decide)]; exact h3
  have n9 : up2 I 4 (c * 6 + 4) (nI s) 1 9 = bI md := by rw [up2_na (by decide)]; exact h9
  have n5 : up2 I 4 (c * 6 + 4) (nI s) 1 5 = nI (fT b t k) := by rw [up2_na (by decide)]; exact h5
  have hd : ∀ {y}, (if bI md = 0 then F_X6_clause_j193 O (d + 185) 1 (hp u n T (up2 I 4 (c * 6 + 4) (nI s)) J R) else if nI (fT b t k) = nI 2013 then (toV (vc O (d + 185) 6 MX6_take 1 [.int (nI 2013)] (hp u n T (up2 I 4 (c * 6 + 4) (nI s)) J R))).bind fun K42 => (gtA K42 1 6 0).bind fun x43 => (gtI K42 1 6 5).bind fun x44 => (toV (vc O (d + 185) 5 MX5_set x43 [.int (nI 1), .int x44] K42)).bind fun K45 => (gtI K45 1 6 5).bind fun x46 => if x46 < nI 1 then F_X6_clause_j189 O (d + 185) 1 1 K45 else (gtI K45 1 6 5).bind fun x50 => if nI 20 < x50 then F_X6_clause_j189 O (d + 185) 1 1 K45 else (gtI K45 1 6 5).bind fun x53 => F_X6_clause_j190 O (d + 185) 1 x53 1 K45 else F_X6_clause_j193 O (d + 185) 1 (hp u n T (up2 I 4 (c * 6 + 4) (nI s)) J R)) = y → F_X6_clause_j113 O (d + 185) 1 (hp u n T I J R) = y := by
    intro y e
    unfold F_X6_clause_j113
    rw [ga_1_0 hS, Option.bind_some, Option.bind_some, gi_2_2 hS, Option.bind_some, h2, vc_2 hS, cl_set hS h3 hc (by decide), toV_v, Option.bind_some, gi_1_9 hS, Option.bind_some, n9, gi_1_5 hS, Option.bind_some, n5]
    exact e
  unfold gC34 gC3 at hr
  by_cases e : md = true ∧ fT b t k = 2013
  · rw [if_pos e] at hr
    obtain ⟨Ia, a1, a2, a3, a4, a5⟩ := c_takeOk (O := O) (d := d + 184) (u := u) (J := J) (x := nI 2013) hS ht g4 (fT_lt (by omega)) (by rw [← e.2]; rfl)
    have m3 : Ia 2 3 = nI (c + 1) := by rw [a3.2.2]; exact n3
    have m5 : Ia 1 5 = nI (fT b t (k + 1)) := a2.2.2.2.1
    have gs := CGd_4 a2 (c * 6 + 1) (nI (fT b t (k + 1)))
    have q5 : up2 Ia 4 (c * 6 + 1) (nI (fT b t (k + 1))) 1 5 = nI (fT b t (k + 1)) := by rw [up2_na (by decide)]; exact m5
    have q3 : up2 Ia 4 (c * 6 + 1) (nI (fT b t (k + 1))) 2 3 = nI (c + 1) := by rw [up2_na (by decide)]; exact m3
    have ey := (CEy_4 I (c * 6 + 4) (nI s)).trans ((CEy.of a3).trans (CEy_4 Ia (c * 6 + 1) (nI (fT b t (k + 1)))))
    have hd2 : ∀ {y}, (if nI (fT b t (k + 1)) < nI 1 then F_X6_clause_j189 O (d + 185) 1 1 (hp u n T (up2 Ia 4 (c * 6 + 1) (nI (fT b t (k + 1)))) J R) else if nI 20 < nI (fT b t (k + 1)) then F_X6_clause_j189 O (d + 185) 1 1 (hp u n T (up2 Ia 4 (c * 6 + 1) (nI (fT b t (k + 1)))) J R) else F_X6_clause_j190 O (d + 185) 1 (nI (fT b t (k + 1))) 1 (hp u n T (up2 Ia 4 (c * 6 + 1) (nI (fT b t (k + 1)))) J R)) = y → F_X6_clause_j113 O (d + 185) 1 (hp u n T I J R) = y := by
      intro y z
      apply hd
      rw [e.1, e.2, if_neg (by decide), if_pos rfl, vc_1 hS, a1, toV_v, Option.bind_some, ga_1_0 hS, Option.bind_some, gi_1_5 hS, Option.bind_some, m5, vc_2 hS, cl_set hS m3 hc (by decide), toV_v, Option.bind_some, gi_1_5 hS, Option.bind_some, q5, Option.bind_some, Option.bind_some]
      exact z
    by_cases e2 : 1 ≤ fT b t (k + 1) ∧ fT b t (k + 1) ≤ 20
    · rw [if_pos e2] at hr
      have hr : gWd (gC4 md (fT b t) (k + 2) q) (fun x4 => some (.inr (fT b t (k + 1), x4))) = some r := hr
      obtain ⟨Ib, b1, b2, b3, b4, b5⟩ := c_takeOk (O := O) (d := d + 184) (u := u) (J := J) (x := nI (fT b t (k + 1))) hS ht gs (fT_lt (by omega)) rfl
      cases hx : gC4 md (fT b t) (k + 2) q with
      | none =>
        rw [hx] at hr
        cases hr
      | some x =>
        obtain ⟨I', f1, f2⟩ := c_j193 (O := O) (u := u) (J := J) (d := d) hS hb ht (by rw [b3.2.2]; exact q3) hc b2 (by rw [b3.2.1, up2_na (by decide), a3.2.1]; exact n9) (by omega) hq hx
        refine ⟨I', hd2 ?_, ?_⟩
        · rw [if_neg (fun z => absurd ((nI_ltI (by omega) (by omega)).mp z) (by omega)), if_neg (fun z => absurd ((nI_ltI (by omega) (by omega)).mp z) (by omega))]
          unfold F_X6_clause_j190
          rw [vc_1 hS, b1, toV_v, Option.bind_some, f1]
        · rw [hx] at hr
          have ey2 := ey.trans ((CEy.of b3).trans f2.2.2)
          cases x with
          | inl j =>
            rw [← Option.some.inj hr]
            exact CVo_bad (f2.1 j rfl) ey2
          | inr y =>
            obtain ⟨c4, m4, k4, q4⟩ := y
            rw [← Option.some.inj hr]
            obtain ⟨⟨g1, g2, g3, g5⟩, g6, g7⟩ := f2.2.1 _ rfl
            have r4 : Ib 4 = up2 Ia 4 (c * 6 + 1) (nI (fT b t (k + 1))) 4 := b3.1 4 (by decide) (by decide) (by decide)
            have ra : Ia 4 = up2 I 4 (c * 6 + 4) (nI s) 4 := a3.1 4 (by decide) (by decide) (by decide)
            refine CVo_ok ⟨g1, g2, fun i hi hn => ?_, ?_, ?_, g5⟩ (fun i hi => by rw [g6 i hi, b4, up2_na (by decide), a4, up2_na (by decide)]) g7 ey2
            · rw [g3 i (by omega), r4, up2_nk hn, ra, up2_nk (by omega)]
            · rw [g3 _ (by omega), r4, up2_at]
            · rw [g3 _ (by omega), r4, up2_nk (by omega), ra, up2_at]
    · rw [if_neg e2] at hr
      rw [← Option.some.inj hr]
      have mle2 : mnT b t (plN b t (k + 1)) ≤ 4000 := mle1
      obtain ⟨Ib, b1, b2, b3⟩ := c_takeNo (O := O) (d := d + 184) (u := u) (J := J) (x := -1) hS ht gs hq (by have := h.2.1; omega) (fun z => nI_ne1 (k := mnT b t (plN b t (k + 1))) (by omega) z.symm)
      obtain ⟨I', f1, f2, f3⟩ := c_j193B (O := O) (u := u) (J := J) (d := d + 184) (I := Ib) hS (by rw [b3.2.2]; exact q3) hc b2
      have j189 : F_X6_clause_j189 O (d + 185) 1 1 (hp u n T (up2 Ia 4 (c * 6 + 1) (nI (fT b t (k + 1)))) J R) = some (hp u n T I' J R) := by
        unfold F_X6_clause_j189 F_X6_clause_j190
        rw [vc_1 hS, b1, toV_v, Option.bind_some, f1]
      refine ⟨I', hd2 ?_, CVo_bad f2 (ey.trans ((CEy.of b3).trans f3))⟩
      rw [j189]
      by_cases z1 : nI (fT b t (k + 1)) < nI 1
      · rw [if_pos z1]
      · have z2 : 1 ≤ fT b t (k + 1) := by
          apply Nat.le_of_not_lt
          intro w
          exact z1 ((nI_ltI (by omega) (by omega)).mpr w)
        rw [if_neg z1, if_pos ((nI_ltI (by omega) (by omega)).mpr (by omega))]
  · rw [if_neg e] at hr
    have hr : gWd (gC4 md (fT b t) k q) (fun x4 => some (.inr (1, x4))) = some r := hr
    cases hx : gC4 md (fT b t) k q with
    | none =>
      rw [hx] at hr
      cases hr
    | some x =>
      obtain ⟨I', f1, f2⟩ := c_j193 (O := O) (u := u) (J := J) (d := d) hS hb ht n3 hc g4 n9 hs hq hx
      refine ⟨I', hd ?_, ?_⟩
      · rw [f1]
        cases md with
        | false => rw [if_pos (by decide)]
        | true => rw [if_neg (by decide), if_neg (fun z => e ⟨rfl, (nI_eq (by omega) (by omega)).mp z⟩)]
      · rw [hx] at hr
        have ey2 := (CEy_4 I (c * 6 + 4) (nI s)).trans f2.2.2
        cases x with
        | inl j =>
          rw [← Option.some.inj hr]
          exact CVo_bad (f2.1 j rfl) ey2
        | inr y =>
          obtain ⟨c4, m4, k4, q4⟩ := y
          rw [← Option.some.inj hr]
          obtain ⟨⟨g1, g2, g3, g5⟩, g6, g7⟩ := f2.2.1 _ rfl
          refine CVo_ok ⟨g1, g2, fun i hi hn => ?_, ?_, ?_, g5⟩ (fun i hi => by rw [g6 i hi, up2_na (by decide)]) g7 ey2
          · rw [g3 i (by omega), up2_nk (by omega)]
          · rw [g3 _ (by omega), up2_nk (by omega), h1]
          · rw [g3 _ (by omega), up2_at]
/-- second sum, times and test -/
noncomputable def gC234 (md : Bool) (f : Nat → Nat) (k k1 q1 : Nat) : Option (Nat ⊕ (GC × GC × Nat × GC × GC × Nat × Nat)) := gWd (gC2 md f k k1 q1) fun x2 => gWd (gC34 md f x2.2.2.1 x2.2.2.2) fun y => some (.inr (x2.1, x2.2.1, y))
theorem c_j74 (hS : St n T R) (hb : ∀ k, b k ≤ 255) (ht : t ≤ 400) {d c k0 k q s : Nat} {r : Nat ⊕ (GC × GC × Nat × GC × GC × Nat × Nat)} (h3 : I 2 3 = nI (c + 1)) (hc : c < 12) (h : CGd b t k q 0 s I) (h9 : I 1 9 = bI md) (hs : s ≤ k) (hq : q ≤ 50) (hk0 : bsK md ≤ fT b t k0 ∧ fT b t k0 ≤ bsK md + 3) (h1 : I 4 (c * 6 + 1) = nI 1) (hr : gC234 md (fT b t) k0 k q = some r) : ∃ I', F_X6_clause_j74 O (d + 185) 1 (nI (fT b t k0 - bsK md)) (hp u n T I J R) = some (hp u n T I' J R) ∧ CVo b t c s I I' r (fun x => CGd b t x.2.2.2.2.2.1 x.2.2.2.2.2.2 0 (s + x.1.length + x.2.2.2.1.length) I' ∧ AtC (I' 3) s (x.1 ++ x.2.2.2.1) ∧ (∀ i, i < c * 6 + 3 → i ≠ c * 6 + 1 → I' 4 i = I 4 i) ∧ I' 4 (c * 6 + 1) = nI x.2.2.1 ∧ I' 4 (c * 6 + 3) = nI s ∧ I' 4 (c * 6 + 4) = nI (s + x.1.length) ∧ I' 4 (c * 6 + 5) = nI (s + x.1.length + x.2.2.2.1.length)) := by
  have tl := tkN_le (b := b) (t := t)
  have h2 : I 2 2 = nI s := h.2.2.2.2.2.2.2
  have hkT := h.2.1
  have g4 := CGd_4 h (c * 6 + 3) (nI s)
  have n3 : up2 I 4 (c * 6 + 3) (nI s) 2 3 = nI (c + 1) := by rw [up2_na (by decide)]; exact h3
  have n9 : up2 I 4 (c * 6 + 3) (nI s) 1 9 = bI md := by rw [up2_na (by decide)]; exact h9
  have hd : ∀ {y}, (if bI md = 0 then F_X6_clause_j113 O (d + 185) 1 (hp u n T (up2 I 4 (c * 6 + 3) (nI s)) J R) else if nI (fT b t k0 - bsK md) = nI 1 then (toV (vc O (d + 185) 6 MX6_take 1 [.int (nI 2012)] (hp u n T (up2 I 4 (c * 6 + 3) (nI s)) J R))).bind fun K56 => (toV (vc O (d + 185) 6 MX6_sum 1 [.int (nI 0)] K56)).bind fun K57 => F_X6_clause_j113 O (d + 185) 1 K57 else F_X6_clause_j113 O (d + 185) 1 (hp u n T (up2 I 4 (c * 6 + 3) (nI s)) J R)) = y → F_X6_clause_j74 O (d + 185) 1 (nI (fT b t k0 - bsK md)) (hp u n T I J R) = y := by
    intro y e
    unfold F_X6_clause_j74
    rw [ga_1_0 hS, Option.bind_some, Option.bind_some, gi_2_2 hS, Option.bind_some, h2, vc_2 hS, cl_set hS h3 hc (by decide), toV_v, Option.bind_some, gi_1_9 hS, Option.bind_some, n9]
    exact e
  have eqk : nI (fT b t k0 - bsK md) = nI 1 ↔ fT b t k0 = bsK md + 1 := by
    rw [nI_eq (by omega) (by omega)]
    omega
  unfold gC234 gC2 at hr
  by_cases e : md = true ∧ fT b t k0 = bsK md + 1
  · rw [if_pos e] at hr
    have hd2 : ∀ {y}, ((toV (vc O (d + 185) 6 MX6_take 1 [.int (nI 2012)] (hp u n T (up2 I 4 (c * 6 + 3) (nI s)) J R))).bind fun K56 => (toV (vc O (d + 185) 6 MX6_sum 1 [.int (nI 0)] K56)).bind fun K57 => F_X6_clause_j113 O (d + 185) 1 K57) = y → F_X6_clause_j74 O (d + 185) 1 (nI (fT b t k0 - bsK md)) (hp u n T I J R) = y := by
      intro y z
      apply hd
      rw [if_neg (by rw [e.1]; decide), if_pos (eqk.mpr e.2)]
      exact z
    by_cases e2 : fT b t k = 2012
    · rw [if_pos e2] at hr
      obtain ⟨Ia, a1, a2, a3, a4, a5⟩ := c_takeOk (O := O) (d := d + 184) (u := u) (J := J) (x := nI 2012) hS ht g4 (fT_lt (by omega)) (by rw [← e2]; rfl)
      cases hx : gE md (fT b t) 2 (k + 1) q with
      | none =>
        rw [hx] at hr
        cases hr
      | some x =>
        obtain ⟨Ib, b1, b2⟩ := c_eSum (O := O) (u := u) (J := J) (md := md) hS hb ht d (k + 1) q s Ia x a2 (by rw [a3.2.1]; exact n9) (by omega) hq hx
        have m3 : Ib 2 3 = nI (c + 1) := by rw [b2.2.2.2.2, a3.2.2]; exact n3
        rw [hx] at hr
        have ey := (CEy_4 I (c * 6 + 3) (nI s)).trans ((CEy.of a3).trans (CEy.of b2.2.2))
        cases x with
        | inl j =>
          rw [← Option.some.inj hr]
          obtain ⟨I', f1, f2, f3⟩ := c_j113B (O := O) (u := u) (J := J) (d := d + 184) (I := Ib) hS m3 hc (b2.1 j rfl)
          refine ⟨I', hd2 ?_, CVo_bad f2 (ey.trans f3)⟩
          rw [vc_1 hS, a1, toV_v, Option.bind_some, vc_1 hS, b1, toV_v, Option.bind_some, f1]
        | inr y =>
          obtain ⟨c2, m2, k2, q2⟩ := y
          have hr : gWd (gC34 md (fT b t) k2 q2) (fun y => some (.inr (c2, m2, y))) = some r := hr
          obtain ⟨g1, g2, g3⟩ := b2.2.1 _ _ _ _ rfl
          obtain ⟨v1, v2, v3, v4, v5⟩ : k + 1 ≤ k2 ∧ k2 ≤ tkN b t ∧ q2 ≤ 50 ∧ c2.length ≤ k2 - (k + 1) ∧ True := by
            rcases gE_ok (md := md) (T := tkN b t) (f := fT b t) (by omega) (fun k => fT_lt) (Or.inl rfl) (show k + 1 ≤ tkN b t from a2.2.1) hq with ⟨j, z, _⟩ | ⟨c', m', k', q', z, w1, w2, w3, w4, w5, _⟩
            · rw [hx] at z
              cases z
            · rw [hx] at z
              cases z
              exact ⟨w1, w2, w4, w5, trivial⟩
          cases hy : gC34 md (fT b t) k2 q2 with
          | none =>
            rw [hy] at hr
            cases hr
          | some z =>
            have r4 : Ib 4 = up2 I 4 (c * 6 + 3) (nI s) 4 := (b2.2.2.1 4 (by decide) (by decide) (by decide)).trans (a3.1 4 (by decide) (by decide) (by decide))
            obtain ⟨I', f1, f2⟩ := c_j113 (O := O) (u := u) (J := J) (d := d) (md := md) hS hb ht m3 hc g1 (by rw [b2.2.2.2.1, a3.2.1]; exact n9) (by omega) v3 (by rw [r4, up2_nk (by omega)]; exact h1) hy
            refine ⟨I', hd2 (by rw [vc_1 hS, a1, toV_v, Option.bind_some, vc_1 hS, b1, toV_v, Option.bind_some, f1]), ?_⟩
            rw [hy] at hr
            have ey2 := ey.trans f2.2.2
            cases z with
            | inl j =>
              rw [← Option.some.inj hr]
              exact CVo_bad (f2.1 j rfl) ey2
            | inr w =>
              obtain ⟨tm, c4, m4, k4, q4⟩ := w
              rw [← Option.some.inj hr]
              obtain ⟨⟨p1, p2, p3, p4, p5, p6⟩, p7, p8⟩ := f2.2.1 _ rfl
              refine CVo_ok ⟨p1, ?_, fun i hi hn => ?_, p4, ?_, p5, p6⟩ (fun i hi => by rw [p7 i (by omega), g2 i hi, a4, up2_na (by decide)]) p8 ey2
              · rw [AtC_ap]
                exact ⟨AtC_cg _ _ (fun j _ hj => p7 j hj) g3, p2⟩
              · rw [p3 i (by omega) hn, r4, up2_nk (by omega)]
              · rw [p3 _ (by omega) (by omega), r4, up2_at]
    · rw [if_neg e2] at hr
      rw [← Option.some.inj hr]
      have mle2 : mnT b t (plN b t k) ≤ 4000 := mnT_le hb _
      obtain ⟨Ia, a1, a2, a3⟩ := c_takeNo (O := O) (d := d + 184) (u := u) (J := J) (x := nI 2012) hS ht g4 hq (by omega) (fun z => e2 ((nI_eq (by omega) (by omega)).mp z).symm)
      obtain ⟨Ib, b1, b2, b3⟩ := c_sumBd (O := O) (d := d + 180) (u := u) (J := J) hS ht a2
      obtain ⟨I', f1, f2, f3⟩ := c_j113B (O := O) (u := u) (J := J) (d := d + 184) (I := Ib) hS (by rw [b3.2.2, a3.2.2]; exact n3) hc b2
      refine ⟨I', hd2 ?_, CVo_bad f2 ((CEy_4 I (c * 6 + 3) (nI s)).trans ((CEy.of a3).trans ((CEy.of b3).trans f3)))⟩
      rw [vc_1 hS, a1, toV_v, Option.bind_some, vc_1 hS, b1, toV_v, Option.bind_some, f1]
  · rw [if_neg e] at hr
    have hr : gWd (gC34 md (fT b t) k q) (fun y => some (.inr ([], [], y))) = some r := hr
    cases hy : gC34 md (fT b t) k q with
    | none =>
      rw [hy] at hr
      cases hr
    | some z =>
      obtain ⟨I', f1, f2⟩ := c_j113 (O := O) (u := u) (J := J) (d := d) (md := md) hS hb ht n3 hc g4 n9 hs hq (by rw [up2_nk (by omega)]; exact h1) hy
      refine ⟨I', hd ?_, ?_⟩
      · rw [f1]
        cases md with
        | false => rw [if_pos (by decide)]
        | true => rw [if_neg (by decide), if_neg (fun z => e ⟨rfl, eqk.mp z⟩)]
      · rw [hy] at hr
        have ey2 := (CEy_4 I (c * 6 + 3) (nI s)).trans f2.2.2
        cases z with
        | inl j =>
          rw [← Option.some.inj hr]
          exact CVo_bad (f2.1 j rfl) ey2
        | inr w =>
          obtain ⟨tm, c4, m4, k4, q4⟩ := w
          rw [← Option.some.inj hr]
          obtain ⟨⟨p1, p2, p3, p4, p5, p6⟩, p7, p8⟩ := f2.2.1 _ rfl
          refine CVo_ok ⟨p1, p2, fun i hi hn => ?_, p4, ?_, p5, p6⟩ (fun i hi => by rw [p7 i hi, up2_na (by decide)]) p8 ey2
          · rw [p3 i (by omega) hn, up2_nk (by omega)]
          · rw [p3 _ (by omega) (by omega), up2_at]
/-- a clause's row and steps -/
def ClC (I : Nat → Nat → Int32) (c s : Nat) (x : CL) : Prop := I 4 (c * 6) = nI x.1 ∧ I 4 (c * 6 + 1) = nI x.2.1 ∧ I 4 (c * 6 + 2) = nI s ∧ I 4 (c * 6 + 3) = nI (s + x.2.2.1.length) ∧ I 4 (c * 6 + 4) = nI (s + x.2.2.1.length + x.2.2.2.2.1.length) ∧ I 4 (c * 6 + 5) = nI (s + lnC x) ∧ AtC (I 3) s (x.2.2.1 ++ x.2.2.2.2.1 ++ x.2.2.2.2.2.2.1)
theorem c_clause (hS : St n T R) (hb : ∀ k, b k ≤ 255) (ht : t ≤ 400) {d c k q s : Nat} {r : Nat ⊕ (CL × Nat × Nat)} (h3 : I 2 3 = nI c) (hc : c < 12) (h : CGd b t k q 0 s I) (h9 : I 1 9 = bI md) (hs : s ≤ k) (hq : q ≤ 50) (hr : gC md (fT b t) k q = some r) : ∃ I', ev O (d + 186) MX6_clause [.ref 1] (hp u n T I J R) = some (none, hp u n T I' J R) ∧ CVo b t c s I I' r (fun x => CGd b t x.2.1 x.2.2 0 (s + lnC x.1) I' ∧ ClC I' c s x.1 ∧ ∀ i, i < c * 6 → I' 4 i = I 4 i) := by
  have tl := tkN_le (b := b) (t := t)
  have h5 : I 1 5 = nI (fT b t k) := h.2.2.2.1
  have h2 : I 2 2 = nI s := h.2.2.2.2.2.2.2
  have hkT := h.2.1
  have mle : fT b t k ≤ 4000 := mnT_le hb _
  have mle2 : mnT b t (plN b t k) ≤ 4000 := mle
  have hbs : bsK md = 2000 + (if md = true then 4 else 0) := by unfold bsK; split <;> rfl
  have hb4 : bsK md ≤ 2004 := by unfold bsK; split <;> decide
  have e9 : (if bI md = 0 then nI 0 else nI 4) = nI (if md = true then 4 else 0) := by cases md <;> rfl
  obtain ⟨In, w1, w2, w3⟩ := c_takeNo (O := O) (d := d + 184) (u := u) (J := J) (x := -1) hS ht h hq (by omega) (fun z => nI_ne1 (k := mnT b t (plN b t k)) (by omega) z.symm)
  have j31 : F_X6_clause_j31 O (d + 185) 1 (hp u n T I J R) = some (hp u n T In J R) := by
    unfold F_X6_clause_j31
    rw [vc_1 hS, w1, toV_v, Option.bind_some]
  unfold gC at hr
  by_cases hk0 : bsK md ≤ fT b t k ∧ fT b t k ≤ bsK md + 3
  · rw [if_pos hk0] at hr
    have ek : nI (fT b t k) - nI 2000 - nI (if md = true then 4 else 0) = nI (fT b t k - bsK md) := by
      rw [nI_sub (by omega), nI_sub (by omega)]
      exact congrArg nI (by omega)
    obtain ⟨Ia, a1, a2, a3, a4, a5⟩ := c_takeOk (O := O) (d := d + 184) (u := u) (J := J) (x := nI (fT b t k)) hS ht h (fT_lt (by omega)) rfl
    have op := cl_open (O := O) (u := u) (J := J) (d := d + 183) (I := Ia) hS (by rw [a3.2.2]; exact h3) hc a2.2.2.2.2.2.2.2 (nI (fT b t k - bsK md))
    have hG : CGd b t (k + 1) q 0 s (up2 (up2 (up2 (up2 Ia 2 3 (nI (c + 1))) 4 (c * 6 + 0) (nI (fT b t k - bsK md))) 4 (c * 6 + 1) (nI 1)) 4 (c * 6 + 2) (nI s)) := by
      refine CGd_4 (CGd_4 (CGd_4 ?_ _ _) _ _) _ _
      obtain ⟨y1, y2, y3, y4, y5, y6, y7, y8⟩ := a2
      have o1 : up2 Ia 2 3 (nI (c + 1)) 1 = Ia 1 := up2_off _ _ _ (by decide)
      exact ⟨CTk_cg y1 (up2_off _ _ _ (by decide)) (up2_off _ _ _ (by decide)) (by rw [o1]), y2, by rw [o1]; exact y3, by rw [o1]; exact y4, by rw [o1]; exact y5, by rw [o1]; exact y6, by rw [o1]; exact y7, by rw [up2_nk (by decide)]; exact y8⟩
    have o3 : up2 (up2 (up2 (up2 Ia 2 3 (nI (c + 1))) 4 (c * 6 + 0) (nI (fT b t k - bsK md))) 4 (c * 6 + 1) (nI 1)) 4 (c * 6 + 2) (nI s) 3 = I 3 := by
      rw [up2_off _ _ _ (by decide), up2_off _ _ _ (by decide), up2_off _ _ _ (by decide), up2_off _ _ _ (by decide), a4]
    have o9 : up2 (up2 (up2 (up2 Ia 2 3 (nI (c + 1))) 4 (c * 6 + 0) (nI (fT b t k - bsK md))) 4 (c * 6 + 1) (nI 1)) 4 (c * 6 + 2) (nI s) 1 9 = bI md := by
      rw [up2_na (by decide), up2_na (by decide), up2_na (by decide), up2_na (by decide), a3.2.1]
      exact h9
    have o23 : up2 (up2 (up2 (up2 Ia 2 3 (nI (c + 1))) 4 (c * 6 + 0) (nI (fT b t k - bsK md))) 4 (c * 6 + 1) (nI 1)) 4 (c * 6 + 2) (nI s) 2 3 = nI (c + 1) := by
      rw [up2_na (by decide), up2_na (by decide), up2_na (by decide), up2_at]
    have a44 : Ia 4 = I 4 := a3.1 4 (by decide) (by decide) (by decide)
    have r0 : up2 (up2 (up2 (up2 Ia 2 3 (nI (c + 1))) 4 (c * 6 + 0) (nI (fT b t k - bsK md))) 4 (c * 6 + 1) (nI 1)) 4 (c * 6 + 2) (nI s) 4 (c * 6) = nI (fT b t k - bsK md) := by
      rw [up2_nk (by omega), up2_nk (by omega)]
      exact up2_at _ _ _ _
    have r1 : up2 (up2 (up2 (up2 Ia 2 3 (nI (c + 1))) 4 (c * 6 + 0) (nI (fT b t k - bsK md))) 4 (c * 6 + 1) (nI 1)) 4 (c * 6 + 2) (nI s) 4 (c * 6 + 1) = nI 1 := by
      rw [up2_nk (by omega), up2_at]
    have r2 : up2 (up2 (up2 (up2 Ia 2 3 (nI (c + 1))) 4 (c * 6 + 0) (nI (fT b t k - bsK md))) 4 (c * 6 + 1) (nI 1)) 4 (c * 6 + 2) (nI s) 4 (c * 6 + 2) = nI s := up2_at _ _ _ _
    have rl : ∀ i, i < c * 6 → up2 (up2 (up2 (up2 Ia 2 3 (nI (c + 1))) 4 (c * 6 + 0) (nI (fT b t k - bsK md))) 4 (c * 6 + 1) (nI 1)) 4 (c * 6 + 2) (nI s) 4 i = I 4 i := by
      intro i hi
      rw [up2_nk (by omega), up2_nk (by omega), up2_nk (by omega), up2_na (by decide), a44]
    have ey : CEy I (up2 (up2 (up2 (up2 Ia 2 3 (nI (c + 1))) 4 (c * 6 + 0) (nI (fT b t k - bsK md))) 4 (c * 6 + 1) (nI 1)) 4 (c * 6 + 2) (nI s)) := by
      refine ((((CEy.of a3).trans (B := Ia) ?_).trans (CEy_4 _ _ _)).trans (CEy_4 _ _ _)).trans (CEy_4 _ _ _)
      exact ⟨fun a _ h2 _ _ => up2_off _ _ _ h2, up2_na (by decide)⟩
    have hd : ∀ {Y Y'}, (if nI (fT b t k - bsK md) = nI 3 then F_X6_clause_j74 O (d + 185) 1 (nI (fT b t k - bsK md)) (hp u n T (up2 (up2 (up2 (up2 Ia 2 3 (nI (c + 1))) 4 (c * 6 + 0) (nI (fT b t k - bsK md))) 4 (c * 6 + 1) (nI 1)) 4 (c * 6 + 2) (nI s)) J R) else (toV (ev O (d + 185) MX6_sum [.ref 1, .int (nI 0)] (hp u n T (up2 (up2 (up2 (up2 Ia 2 3 (nI (c + 1))) 4 (c * 6 + 0) (nI (fT b t k - bsK md))) 4 (c * 6 + 1) (nI 1)) 4 (c * 6 + 2) (nI s)) J R))).bind fun K58 => F_X6_clause_j74 O (d + 185) 1 (nI (fT b t k - bsK md)) K58) = some Y → Y = Y' → ev O (d + 186) MX6_clause [.ref 1] (hp u n T I J R) = some (none, Y') := by
      intro Y Y' e ey
      refine e_X6_clause ?_
      unfold F_X6_clause
      rw [gi_1_5 hS, Option.bind_some, gi_1_9 hS, Option.bind_some, h5, h9, e9, ek, if_neg (show ¬ nI (fT b t k - bsK md) < 0 from fun z => absurd ((nI_ltI (b := 0) (by omega) (by omega)).mp z) (by omega)), if_pos (nI_le (by omega) (by omega)), Option.bind_some, vc_1 hS, a1, toV_v, Option.bind_some, ga_1_0 hS, Option.bind_some, vc_2 hS, op, toV_v, Option.bind_some, gi_1_9 hS, Option.bind_some, vc_1 hS, e, ey]
    generalize up2 (up2 (up2 (up2 Ia 2 3 (nI (c + 1))) 4 (c * 6 + 0) (nI (fT b t k - bsK md))) 4 (c * 6 + 1) (nI 1)) 4 (c * 6 + 2) (nI s) = I0 at *
    have hr : (gWd (gC1 md (fT b t) k q) fun x1 => gWd (gC2 md (fT b t) k x1.2.2.1 x1.2.2.2) fun x2 => gWd (gC3 md (fT b t) x2.2.2.1) fun x3 => gWd (gC4 md (fT b t) x3.2 x2.2.2.2) fun x4 => some (.inr ((fT b t k - bsK md, x3.1, x1.1, x1.2.1, x2.1, x2.2.1, x4.1, x4.2.1), x4.2.2.1, x4.2.2.2))) = some r := hr
    have fold : ∀ (c1 m1 : GC) (k1 q1 : Nat), (gWd (gC2 md (fT b t) k k1 q1) fun x2 => gWd (gC3 md (fT b t) x2.2.2.1) fun x3 => gWd (gC4 md (fT b t) x3.2 x2.2.2.2) fun x4 => some (Sum.inr ((fT b t k - bsK md, x3.1, c1, m1, x2.1, x2.2.1, x4.1, x4.2.1), x4.2.2.1, x4.2.2.2) : Nat ⊕ (CL × Nat × Nat))) = gWd (gC234 md (fT b t) k k1 q1) fun y => some (.inr ((fT b t k - bsK md, y.2.2.1, c1, m1, y.1, y.2.1, y.2.2.2.1, y.2.2.2.2.1), y.2.2.2.2.2.1, y.2.2.2.2.2.2)) := by
      intro c1 m1 k1 q1
      unfold gC234
      cases gC2 md (fT b t) k k1 q1 with
      | none => rfl
      | some x =>
        cases x with
        | inl j => rfl
        | inr x =>
          show (gWd (gC3 md (fT b t) x.2.2.1) fun x3 => _) = gWd (gWd (gC34 md (fT b t) x.2.2.1 x.2.2.2) _) _
          unfold gC34
          cases gC3 md (fT b t) x.2.2.1 with
          | none => rfl
          | some y =>
            cases y with
            | inl j => rfl
            | inr y =>
              show (gWd (gC4 md (fT b t) y.2 x.2.2.2) fun x4 => _) = gWd (gWd (gWd (gC4 md (fT b t) y.2 x.2.2.2) _) _) _
              cases gC4 md (fT b t) y.2 x.2.2.2 with
              | none => rfl
              | some z =>
                cases z with
                | inl j => rfl
                | inr z => rfl
    -- behind the first sum
    have rest : ∀ (c1 m1 : GC) (k1 q1 : Nat) (I1 : Nat → Nat → Int32), CGd b t k1 q1 0 (s + c1.length) I1 → I1 1 9 = bI md → s + c1.length ≤ k1 → q1 ≤ 50 → I1 2 3 = nI (c + 1) → I1 4 = I0 4 → (∀ i, i < s → I1 3 i = I0 3 i) → AtC (I1 3) s c1 → CEy I I1 → (gWd (gC2 md (fT b t) k k1 q1) fun x2 => gWd (gC3 md (fT b t) x2.2.2.1) fun x3 => gWd (gC4 md (fT b t) x3.2 x2.2.2.2) fun x4 => some (Sum.inr ((fT b t k - bsK md, x3.1, c1, m1, x2.1, x2.2.1, x4.1, x4.2.1), x4.2.2.1, x4.2.2.2) : Nat ⊕ (CL × Nat × Nat))) = some r → ∃ I', F_X6_clause_j74 O (d + 185) 1 (nI (fT b t k - bsK md)) (hp u n T I1 J R) = some (hp u n T I' J R) ∧ CVo b t c s I I' r (fun x => CGd b t x.2.1 x.2.2 0 (s + lnC x.1) I' ∧ ClC I' c s x.1 ∧ ∀ i, i < c * 6 → I' 4 i = I 4 i) := by
      intro c1 m1 k1 q1 I1 i1 i2 i3 i4 i5 i6 i7 i8 i9 hr
      rw [fold] at hr
      cases hy : gC234 md (fT b t) k k1 q1 with
      | none =>
        rw [hy] at hr
        cases hr
      | some z =>
        obtain ⟨I', f1, f2⟩ := c_j74 (O := O) (u := u) (J := J) (d := d) (md := md) hS hb ht i5 hc i1 i2 i3 i4 hk0 (by rw [i6]; exact r1) hy
        refine ⟨I', f1, ?_⟩
        rw [hy] at hr
        have ey2 := i9.trans f2.2.2
        cases z with
        | inl j =>
          rw [← Option.some.inj hr]
          exact CVo_bad (f2.1 j rfl) ey2
        | inr w =>
          obtain ⟨c2, m2, tm, c4, m4, k4, q4⟩ := w
          rw [← Option.some.inj hr]
          obtain ⟨⟨p1, p2, p3, p4, p5, p6, p7⟩, p8, p9⟩ := f2.2.1 _ rfl
          have ln : s + c1.length + c2.length + c4.length = s + lnC (fT b t k - bsK md, tm, c1, m1, c2, m2, c4, m4) := by
            show _ = s + (c1.length + c2.length + c4.length)
            omega
          refine CVo_ok ⟨by rw [← ln]; exact p1, ⟨?_, p4, ?_, p5, p6, by rw [← ln]; exact p7, ?_⟩, fun i hi => ?_⟩ (fun i hi => by rw [p8 i (by omega), i7 i hi, o3]) p9 ey2
          · rw [p3 _ (by omega) (by omega), i6, r0]
          · rw [p3 _ (by omega) (by omega), i6, r2]
          · show AtC (I' 3) s (c1 ++ c2 ++ c4)
            rw [List.append_assoc, AtC_ap]
            exact ⟨AtC_cg _ _ (fun j _ hj => p8 j hj) i8, p2⟩
          · rw [p3 i (by omega) (by omega), i6, rl i hi]
    unfold gC1 at hr
    have eq3 : nI (fT b t k - bsK md) = nI 3 ↔ fT b t k = bsK md + 3 := by
      rw [nI_eq (by omega) (by omega)]
      omega
    by_cases e3 : fT b t k = bsK md + 3
    · rw [if_pos e3] at hr
      obtain ⟨I', f1, f2⟩ := rest [] [] (k + 1) q I0 hG o9 (by show s + 0 ≤ _; omega) hq o23 rfl (fun _ _ => rfl) trivial ey hr
      exact ⟨I', hd (by rw [if_pos (eq3.mpr e3)]; exact f1) rfl, f2⟩
    · rw [if_neg e3] at hr
      cases hx : gE md (fT b t) 2 (k + 1) q with
      | none =>
        rw [hx] at hr
        cases hr
      | some x =>
        obtain ⟨Ib, b1, b2⟩ := c_eSum (O := O) (u := u) (J := J) (md := md) hS hb ht d (k + 1) q s I0 x hG o9 (by omega) hq hx
        have m3 : Ib 2 3 = nI (c + 1) := by rw [b2.2.2.2.2]; exact o23
        have ey1 := ey.trans (CEy.of b2.2.2)
        rw [hx] at hr
        cases x with
        | inl j =>
          rw [← Option.some.inj hr]
          obtain ⟨I', f1, f2, f3⟩ := c_j74B (O := O) (u := u) (J := J) (d := d + 180) (I := Ib) hS ht m3 hc (b2.1 j rfl) (nI (fT b t k - bsK md))
          refine ⟨I', hd ?_ rfl, CVo_bad f2 (ey1.trans f3)⟩
          rw [if_neg (fun z => e3 (eq3.mp z)), b1, toV_v, Option.bind_some, f1]
        | inr y =>
          obtain ⟨c1, m1, k1, q1⟩ := y
          obtain ⟨g1, g2, g3⟩ := b2.2.1 _ _ _ _ rfl
          obtain ⟨v1, v2, v3, v4⟩ : k + 1 ≤ k1 ∧ k1 ≤ tkN b t ∧ q1 ≤ 50 ∧ c1.length ≤ k1 - (k + 1) := by
            rcases gE_ok (md := md) (T := tkN b t) (f := fT b t) (by omega) (fun k => fT_lt) (Or.inl rfl) (show k + 1 ≤ tkN b t from hG.2.1) hq with ⟨j, z, _⟩ | ⟨c', m', k', q', z, w1, w2, w3, w4, w5, _⟩
            · rw [hx] at z
              cases z
            · rw [hx] at z
              cases z
              exact ⟨w1, w2, w4, w5⟩
          obtain ⟨I', f1, f2⟩ := rest c1 m1 k1 q1 Ib g1 (by rw [b2.2.2.2.1]; exact o9) (by omega) v3 m3 (b2.2.2.1 4 (by decide) (by decide) (by decide)) g2 g3 ey1 hr
          refine ⟨I', hd ?_ rfl, f2⟩
          rw [if_neg (fun z => e3 (eq3.mp z)), b1, toV_v, Option.bind_some, f1]
  · rw [if_neg hk0] at hr
    rw [← Option.some.inj hr]
    refine ⟨In, e_X6_clause ?_, CVo_bad w2 (CEy.of w3)⟩
    unfold F_X6_clause
    rw [gi_1_5 hS, Option.bind_some, gi_1_9 hS, Option.bind_some, h5, h9, e9]
    by_cases lo : fT b t k < bsK md
    · have neg : nI (fT b t k) - nI 2000 - nI (if md = true then 4 else 0) < 0 := by
        cases md with
        | false => exact kd_neg.1 _ lo
        | true => exact kd_neg.2 _ lo
      rw [if_pos neg, j31]
    · have ek : nI (fT b t k) - nI 2000 - nI (if md = true then 4 else 0) = nI (fT b t k - bsK md) := by
        rw [nI_sub (by omega), nI_sub (by omega)]
        exact congrArg nI (by omega)
      rw [ek, if_neg (show ¬ nI (fT b t k - bsK md) < 0 from fun z => absurd ((nI_ltI (b := 0) (by omega) (by omega)).mp z) (by omega)), if_neg (nI_ge (show 3 < fT b t k - bsK md by omega) (by omega)), j31]
end CCL
