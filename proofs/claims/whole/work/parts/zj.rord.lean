/-! the reference reads orders' clauses -/
def ClR (I : Nat → Nat → Int32) (c s : Nat) (x : CL) : Prop := (I 96 (8 * c) = nI x.1 ∧ (if x.1 = 3 then I 96 (8 * c + 1) = nI 0 ∧ I 96 (8 * c + 2) = nI 0 else I 96 (8 * c + 1) = nI s ∧ I 96 (8 * c + 2) = nI (s + x.2.2.2.1.length)) ∧ (if x.1 = 1 then I 96 (8 * c + 3) = nI (s + x.2.2.2.1.length) ∧ I 96 (8 * c + 4) = nI (s + x.2.2.2.1.length + x.2.2.2.2.2.1.length) else I 96 (8 * c + 3) = nI 0 ∧ I 96 (8 * c + 4) = nI 0)) ∧ I 96 (8 * c + 5) = nI (s + x.2.2.2.1.length + x.2.2.2.2.2.1.length) ∧ I 96 (8 * c + 6) = nI (s + lnM x) ∧ I 96 (8 * c + 7) = nI x.2.1 ∧ AtH (I 80) (I 81) s (x.2.2.2.1 ++ x.2.2.2.2.2.1 ++ x.2.2.2.2.2.2.2)
theorem ClR_cg (I I' : Nat → Nat → Int32) (c s : Nat) (x : CL) (h : ClR I c s x) (h1 : ∀ i, i < 8 * (c + 1) → I' 96 i = I 96 i) (h2 : ∀ i, i < s + lnM x → I' 80 i = I 80 i ∧ I' 81 i = I 81 i) : ClR I' c s x := by
  obtain ⟨⟨a1, a2, a3⟩, a4, a5, a6, a7⟩ := h
  refine ⟨⟨(h1 _ (by omega)).trans a1, ?_, ?_⟩, (h1 _ (by omega)).trans a4, (h1 _ (by omega)).trans a5, (h1 _ (by omega)).trans a6, AtH_cg _ _ (fun j _ hj => h2 j ?_) a7⟩
  · rw [h1 (8 * c + 1) (by omega), h1 (8 * c + 2) (by omega)]
    exact a2
  · rw [h1 (8 * c + 3) (by omega), h1 (8 * c + 4) (by omega)]
    exact a3
  · rw [List.length_append, List.length_append] at hj
    exact hj
section ROD
variable {O : mO} {d u n : Nat} {T : Nat → mT} {I : Nat → Nat → Int32} {J : Nat → Nat → Int64} {R : Nat → Nat → Option Nat} {b : Nat → Nat} {t : Nat} {md : Bool} {s0 k q c : Nat}
theorem m_numberH (hS : St n T R) (hb : ∀ k, b k ≤ 255) (ht : t ≤ 400) {lo hi : Nat} {l h' : Int64} (hl : l = Int64.ofInt lo) (hh : h' = Int64.ofInt hi) (hhi : hi ≤ 1000) (hlo : lo ≤ hi) (h : MHd b t md s0 k q I J) : ∃ v I' J', ev O (d + 4) MX11_number [.ref 69, .long l, .long h'] (hp u n T I J R) = some (some (.int v), hp u n T I' J' R) ∧ (lo ≤ fT b t k ∧ fT b t k ≤ hi → v = nI (fT b t k) ∧ MHd b t md s0 (k + 1) q I' J') ∧ (¬ (lo ≤ fT b t k ∧ fT b t k ≤ hi) → MBb (plN b t k) I') ∧ (∀ s, MEx s I I' J J') ∧ I' 69 21 = I 69 21 := by
  obtain ⟨w1, w2, w3⟩ := m_worth hS hb h.1.1
  by_cases hf : lo ≤ fT b t k ∧ fT b t k ≤ hi
  · obtain ⟨v, v1, v2, v3⟩ := w2 (by show fT b t k ≤ 1001; omega)
    have v3 : v ≤ 1000 ∧ fT b t k = v ∨ 1000 < v ∧ fT b t k = 1001 := v3
    have vE : fT b t k = v := by omega
    obtain ⟨I', J', a1, a2, a3⟩ := m_mustHG (O := O) (d := d) (u := u) (v := nI 1) hS hb ht h (fT_lt (by omega)) (by decide)
    refine ⟨nI v, I', J', e_X11_number ?_, fun _ => ⟨by rw [vE], a2⟩, fun z => absurd hf z, fun s => MEx.ofO a3, a3.2.1 21 (by decide) (by decide) (by decide)⟩
    unfold F_X11_number
    rw [gj_69_17 hS, Option.bind_some, gi_69_16 hS, Option.bind_some, if_pos (w1.mpr (by show fT b t k ≤ 1001; omega)), Option.bind_some, v1, evr (k_in _ _ _), toI_i, Option.bind_some]
    dsimp only
    have ok : decide (l ≤ Int64.ofInt v ∧ Int64.ofInt v ≤ h') = true := by
      rw [hl, hh]
      exact decide_eq_true ⟨(o64_le (by omega) (by omega)).mpr (by omega), (o64_le (by omega) (by omega)).mpr (by omega)⟩
    rw [ok, if_neg (show ¬ bI true = 0 by decide), vc_69 hS, a1, toV_v, Option.bind_some, o64_32 (by omega)]
  · obtain ⟨I', a1, a2, a3⟩ := m_mustHB (O := O) (d := d + 2) (u := u) (v := nI 0) hS h rfl
    have e21 : I' 69 21 = I 69 21 := (a3 0).2.1 21 (by decide)
    by_cases h16 : I 69 16 = nI 2
    · obtain ⟨v, v1, v2, v3⟩ := w2 (w1.mp h16)
      have v3 : v ≤ 1000 ∧ fT b t k = v ∨ 1000 < v ∧ fT b t k = 1001 := v3
      refine ⟨nI v, I', J, e_X11_number ?_, fun z => absurd z hf, fun _ => a2, a3, e21⟩
      unfold F_X11_number
      rw [gj_69_17 hS, Option.bind_some, gi_69_16 hS, Option.bind_some, if_pos h16, Option.bind_some, v1, evr (k_in _ _ _), toI_i, Option.bind_some]
      dsimp only
      have ok : decide (l ≤ Int64.ofInt v ∧ Int64.ofInt v ≤ h') = false := by
        rw [hl, hh]
        refine decide_eq_false (fun z => hf ?_)
        have z1 := (o64_le (by omega) (by omega)).mp z.1
        have z2 := (o64_le (by omega) (by omega)).mp z.2
        omega
      rw [ok, if_pos (show bI false = 0 by decide), vc_69 hS, a1, toV_v, Option.bind_some, o64_32 (by omega)]
    · refine ⟨(J 69 17).toInt32, I', J, e_X11_number ?_, fun z => absurd z hf, fun _ => a2, a3, e21⟩
      unfold F_X11_number F_X11_number_j32 F_X11_number_j33
      rw [gj_69_17 hS, Option.bind_some, gi_69_16 hS, Option.bind_some, if_neg h16, vc_69 hS, a1, toV_v, Option.bind_some]
theorem m_rsB (hS : St n T R) {x a : Nat} (h : MBb x I) (ha : a + 1 < 96) : ∃ I', ev O (d + 1) MX11_readSum [.ref 69, .int (nI a)] (hp u n T I J R) = some (none, hp u n T I' J R) ∧ MBb x I' ∧ ∀ s, MEy s 96 I I' J J := by
  refine ⟨up2 (up2 I 96 a (I 69 23)) 96 (a + 1) (I 69 23), e_X11_readSum ?_, MBb_c (MBb_c h _ _ _ (by decide)) _ _ _ (by decide), fun s => (MEy_c I J _ _ (by decide) (by decide) (by decide)).trans (MEy_c _ J _ _ (by decide) (by decide) (by decide))⟩
  unfold F_X11_readSum F_X11_readSum_j22
  rw [ga_69_47 hS, Option.bind_some, gi_69_23 hS, Option.bind_some, wr_96 hS (by omega), Option.bind_some, gi_69_19 hS, Option.bind_some, up2_na (by decide), h.1, if_neg (show ¬ nI 1 = 0 by decide), ga_69_47 hS, Option.bind_some, gi_69_23 hS, Option.bind_some, up2_na (by decide), nI_add, wr_96 hS ha, Option.bind_some]
theorem m_rsG (hS : St n T R) (hb : ∀ k, b k ≤ 255) (ht : t ≤ 400) {a : Nat} {r : GT} (h : MHd b t md s0 k q I J) (hq : q ≤ 50) (ha : a + 1 < 96) (hr : gE md (fT b t) 2 k q = some r) : ∃ I' J', ev O (d + 10) MX11_readSum [.ref 69, .int (nI a)] (hp u n T I J R) = some (none, hp u n T I' J' R) ∧ MEy s0 96 I I' J J' ∧ (∀ j, r = .inl j → MBb (plN b t j) I') ∧ ∀ c1 m1 k1 q1, r = .inr (c1, m1, k1, q1) → MHd b t md (s0 + m1.length) k1 q1 I' J' ∧ AtH (I' 80) (I' 81) s0 m1 ∧ I' 69 21 = I 69 21 ∧ (∀ i, i ≠ a → i ≠ a + 1 → I' 96 i = I 96 i) ∧ I' 96 a = nI s0 ∧ I' 96 (a + 1) = nI (s0 + m1.length) := by
  have h23 : I 69 23 = nI s0 := h.2.2.1
  have hH : MHd b t md s0 k q (up2 I 96 a (nI s0)) J := MHd_c h _ _ _ (by decide) (by decide)
  obtain ⟨I2, J2, b1, b2, b3, b4⟩ := m_expr (O := O) (d := d) (u := u) (tst := false) hS hb ht hH hq hr
  rw [show bI false = nI 0 from rfl] at b1
  have i96 : I2 96 = up2 I 96 a (nI s0) 96 := b2.1 96 (by decide) (by decide) (by decide) (by decide) (by decide)
  refine ⟨up2 I2 96 (a + 1) (I2 69 23), J2, e_X11_readSum ?_, (MEy_c I J _ _ (by decide) (by decide) (by decide)).trans ((MEy.of b2).trans (MEy_c _ J2 _ _ (by decide) (by decide) (by decide))), fun j e => MBb_c ⟨(b3 j e).1, (b3 j e).2.1⟩ _ _ _ (by decide), fun c1 m1 k1 q1 e => ?_⟩
  · unfold F_X11_readSum F_X11_readSum_j22
    rw [ga_69_47 hS, Option.bind_some, gi_69_23 hS, Option.bind_some, h23, wr_96 hS (by omega), Option.bind_some, gi_69_19 hS, Option.bind_some, up2_na (by decide), h.2.1.1, if_pos (show nI 0 = 0 from rfl), vc_69 hS, b1, toV_v, Option.bind_some, ga_69_47 hS, Option.bind_some, gi_69_23 hS, Option.bind_some, nI_add, wr_96 hS ha, Option.bind_some]
  · obtain ⟨g1, g2⟩ := b4 c1 m1 k1 q1 e
    refine ⟨MHd_c g1 _ _ _ (by decide) (by decide), by rw [up2_off _ _ _ (by decide), up2_off _ _ _ (by decide)]; exact g2, by rw [up2_na (by decide), b2.2.1 21 (by decide), up2_na (by decide)], fun i h1 h2 => by rw [up2_nk h2, i96, up2_nk h1], by rw [up2_nk (by omega), i96, up2_at], ?_⟩
    rw [up2_at]
    exact g1.2.2.1
theorem m_o241 (hS : St n T R) (hc : c < 12) {v : Int32} (hv : v = nI (8 * c)) : F_X11_readOrder_j241 O d 69 v (hp u n T I J R) = some (hp u n T (up2 I 96 (8 * c + 6) (I 69 23)) J R) := by
  unfold F_X11_readOrder_j241
  rw [ga_69_47 hS, Option.bind_some, gi_69_23 hS, Option.bind_some, hv, nI_add, wr_96 hS (by omega), Option.bind_some]
theorem m_o203B (hS : St n T R) (hc : c < 12) {x : Nat} (h : MBb x I) {v : Int32} (hv : v = nI (8 * c)) : ∃ I', F_X11_readOrder_j203 O d 69 v (hp u n T I J R) = some (hp u n T I' J R) ∧ MBb x I' ∧ ∀ s, MEy s 96 I I' J J := by
  refine ⟨up2 (up2 I 96 (8 * c + 5) (I 69 23)) 96 (8 * c + 6) (I 69 23), ?_, MBb_c (MBb_c h _ _ _ (by decide)) _ _ _ (by decide), fun s => (MEy_c I J _ _ (by decide) (by decide) (by decide)).trans (MEy_c _ J _ _ (by decide) (by decide) (by decide))⟩
  unfold F_X11_readOrder_j203
  rw [ga_69_47 hS, Option.bind_some, gi_69_23 hS, Option.bind_some, hv, nI_add, wr_96 hS (by omega), Option.bind_some, gi_69_19 hS, Option.bind_some, up2_na (by decide), h.1, if_neg (show ¬ nI 1 = 0 by decide), m_o241 hS hc rfl, up2_na (by decide)]
theorem m_o155B (hS : St n T R) (hc : c < 12) {x : Nat} (h : MBb x I) {v : Int32} (hv : v = nI (8 * c)) : ∃ I', F_X11_readOrder_j155 O d 69 v (hp u n T I J R) = some (hp u n T I' J R) ∧ MBb x I' ∧ ∀ s, MEy s 96 I I' J J := by
  obtain ⟨I', e1, e2, e3⟩ := m_o203B (O := O) (d := d) (u := u) (J := J) hS hc (MBb_c h 96 (8 * c + 7) (nI 1) (by decide)) hv
  refine ⟨I', ?_, e2, fun s => (MEy_c I J _ _ (by decide) (by decide) (by decide)).trans (e3 s)⟩
  unfold F_X11_readOrder_j155
  rw [ga_69_47 hS, Option.bind_some, hv, nI_add, wr_96 hS (by omega), Option.bind_some, gi_69_19 hS, Option.bind_some, up2_na (by decide), h.1, if_neg (show ¬ nI 1 = 0 by decide), ← hv, e1]
theorem m_o148B (hS : St n T R) (hc : c < 12) {x : Nat} (h : MBb x I) {v : Int32} (hv : v = nI (8 * c)) : ∃ I', F_X11_readOrder_j148 O (d + 1) 69 v (hp u n T I J R) = some (hp u n T I' J R) ∧ MBb x I' ∧ ∀ s, MEy s 96 I I' J J := by
  obtain ⟨I1, a1, a2, a3⟩ := m_rsB (O := O) (d := d) (u := u) (J := J) (a := 8 * c + 3) hS h (by omega)
  obtain ⟨I', e1, e2, e3⟩ := m_o155B (O := O) (d := d + 1) (u := u) (J := J) hS hc a2 hv
  refine ⟨I', ?_, e2, fun s => (a3 s).trans (e3 s)⟩
  unfold F_X11_readOrder_j148
  rw [hv, nI_add, vc_69 hS, a1, toV_v, Option.bind_some, ← hv, e1]
theorem m_o125B (hS : St n T R) (hc : c < 12) {x : Nat} (h : MBb x I) {v : Int32} (hv : v = nI (8 * c)) (v1 : Int32) : ∃ I', F_X11_readOrder_j125 O (d + 1) 69 v1 v (hp u n T I J R) = some (hp u n T I' J R) ∧ MBb x I' ∧ ∀ s, MEy s 96 I I' J J := by
  by_cases e : v1 = nI 1
  · obtain ⟨I', e1, e2, e3⟩ := m_o148B (O := O) (d := d) (u := u) (J := J) hS hc h hv
    refine ⟨I', ?_, e2, e3⟩
    unfold F_X11_readOrder_j125
    rw [if_pos e, gi_69_19 hS, Option.bind_some, h.1, if_neg (show ¬ nI 1 = 0 by decide), e1]
  · obtain ⟨I', e1, e2, e3⟩ := m_o155B (O := O) (d := d + 1) (u := u) (J := J) hS hc h hv
    refine ⟨I', ?_, e2, e3⟩
    unfold F_X11_readOrder_j125
    rw [if_neg e, e1]
theorem m_o203 (hS : St n T R) (hb : ∀ k, b k ≤ 255) (ht : t ≤ 400) (hc : c < 12) {r : GT} (h : MHd b t md s0 k q I J) (hq : q ≤ 50) (hr : gC4 md (fT b t) k q = some r) {v : Int32} (hv : v = nI (8 * c)) : ∃ I' J', F_X11_readOrder_j203 O (d + 9) 69 v (hp u n T I J R) = some (hp u n T I' J' R) ∧ MEy s0 96 I I' J J' ∧ (∀ j, r = .inl j → MBb (plN b t j) I') ∧ ∀ c4 m4 k4 q4, r = .inr (c4, m4, k4, q4) → MHd b t md (s0 + m4.length) k4 q4 I' J' ∧ AtH (I' 80) (I' 81) s0 m4 ∧ I' 69 21 = I 69 21 ∧ (∀ i, i ≠ 8 * c + 5 → i ≠ 8 * c + 6 → I' 96 i = I 96 i) ∧ I' 96 (8 * c + 5) = nI s0 ∧ I' 96 (8 * c + 6) = nI (s0 + m4.length) := by
  have h23 : I 69 23 = nI s0 := h.2.2.1
  have hd : ∀ {y}, ((toI (vc O (d + 9) 11 MX11_isWord 69 [.long 294] (hp u n T (up2 I 96 (8 * c + 5) (nI s0)) J R))).bind fun p38 => if p38.1 = 0 then F_X11_readOrder_j241 O (d + 9) 69 v p38.2 else (toV (vc O (d + 9) 11 MX11_next 69 [] p38.2)).bind fun K41 => (toV (vc O (d + 9) 11 MX11_readExpression 69 [.int (nI 1)] K41)).bind fun K42 => F_X11_readOrder_j241 O (d + 9) 69 v K42) = y → F_X11_readOrder_j203 O (d + 9) 69 v (hp u n T I J R) = y := by
    intro y e
    unfold F_X11_readOrder_j203
    rw [ga_69_47 hS, Option.bind_some, gi_69_23 hS, Option.bind_some, h23, hv, nI_add, wr_96 hS (by omega), Option.bind_some, gi_69_19 hS, Option.bind_some, up2_na (by decide), h.2.1.1, if_pos (show nI 0 = 0 from rfl), ← hv]
    exact e
  have hH : MHd b t md s0 k q (up2 I 96 (8 * c + 5) (nI s0)) J := MHd_c h _ _ _ (by decide) (by decide)
  have ex : MEy s0 96 I (up2 I 96 (8 * c + 5) (nI s0)) J J := MEy_c I J _ _ (by decide) (by decide) (by decide)
  have r5 : up2 I 96 (8 * c + 5) (nI s0) 96 (8 * c + 5) = nI s0 := up2_at _ _ _ _
  have rl : ∀ i, i ≠ 8 * c + 5 → up2 I 96 (8 * c + 5) (nI s0) 96 i = I 96 i := fun i hi => up2_nk hi
  have r21 : up2 I 96 (8 * c + 5) (nI s0) 69 21 = I 69 21 := up2_na (by decide)
  generalize up2 I 96 (8 * c + 5) (nI s0) = I0 at *
  have wd := m_isWord (O := O) (d := d + 8) (u := u) hS hb ht hH.1.1 (w := 8) (x := 294) (by decide) (by decide)
  unfold gC4 at hr
  by_cases e : fT b t k = 2008
  · rw [if_pos e] at hr
    obtain ⟨I1, J1, a1, a2, a3⟩ := m_nextH (O := O) (d := d + 7) (u := u) hS hb ht hH (fT_lt (by omega))
    obtain ⟨I2, J2, b1, b2, b3, b4⟩ := m_expr (O := O) (d := d) (u := u) (tst := true) hS hb ht a2 hq hr
    refine ⟨up2 I2 96 (8 * c + 6) (I2 69 23), J2, hd ?_, ex.trans ((MEy.of (MEx.ofO a3)).trans ((MEy.of b2).trans (MEy_c _ J2 _ _ (by decide) (by decide) (by decide)))), fun j e => ?_, fun c4 m4 k4 q4 e => ?_⟩
    · rw [vc_69 hS, wd, toI_i, Option.bind_some]
      dsimp only
      rw [decide_eq_true (show mnT b t (plN b t k) = 2000 + 8 from e), if_neg (show ¬ bI true = 0 by decide), vc_69 hS, a1, toV_v, Option.bind_some, vc_69 hS, show (nI 1 : Int32) = bI true from rfl, b1, toV_v, Option.bind_some, m_o241 hS hc hv]
    · exact MBb_c ⟨(b3 j e).1, (b3 j e).2.1⟩ _ _ _ (by decide)
    · obtain ⟨g1, g2⟩ := b4 c4 m4 k4 q4 e
      have i96 : I2 96 = I0 96 := (b2.1 96 (by decide) (by decide) (by decide) (by decide) (by decide)).trans (a3.1 96 (by decide))
      refine ⟨MHd_c g1 _ _ _ (by decide) (by decide), by rw [up2_off _ _ _ (by decide), up2_off _ _ _ (by decide)]; exact g2, ?_, fun i h1 h2 => ?_, ?_, ?_⟩
      · rw [up2_na (by decide), b2.2.1 21 (by decide), a3.2.1 21 (by decide) (by decide) (by decide), r21]
      · rw [up2_nk h2, i96, rl i h1]
      · rw [up2_nk (by omega), i96, r5]
      · rw [up2_at]
        exact g1.2.2.1
  · rw [if_neg e] at hr
    have hr := Option.some.inj hr
    refine ⟨up2 I0 96 (8 * c + 6) (I0 69 23), J, hd ?_, ex.trans (MEy_c _ J _ _ (by decide) (by decide) (by decide)), fun j e => ?_, fun c4 m4 k4 q4 e => ?_⟩
    · rw [vc_69 hS, wd, toI_i, Option.bind_some]
      dsimp only
      rw [decide_eq_false (show ¬ mnT b t (plN b t k) = 2000 + 8 from e), if_pos (show bI false = 0 by decide), m_o241 hS hc hv]
    · rw [← hr] at e
      cases e
    · rw [← hr] at e
      cases e
      refine ⟨MHd_c hH _ _ _ (by decide) (by decide), trivial, by rw [up2_na (by decide), r21], fun i h1 h2 => by rw [up2_nk h2, rl i h1], by rw [up2_nk (by omega), r5], ?_⟩
      rw [up2_at]
      exact hH.2.2.1
/-- times and test -/
theorem m_o155 (hS : St n T R) (hb : ∀ k, b k ≤ 255) (ht : t ≤ 400) (hc : c < 12) {r : Nat ⊕ (Nat × GC × GC × Nat × Nat)} (h : MHd b t true s0 k q I J) (hq : q ≤ 50) (hr : gC34 true (fT b t) k q = some r) {v : Int32} (hv : v = nI (8 * c)) : ∃ I' J', F_X11_readOrder_j155 O (d + 9) 69 v (hp u n T I J R) = some (hp u n T I' J' R) ∧ MEy s0 96 I I' J J' ∧ (∀ j, r = .inl j → MBb (plN b t j) I') ∧ ∀ tm c4 m4 k4 q4, r = .inr (tm, c4, m4, k4, q4) → MHd b t true (s0 + m4.length) k4 q4 I' J' ∧ AtH (I' 80) (I' 81) s0 m4 ∧ I' 69 21 = I 69 21 ∧ (∀ i, i < 8 * c + 5 → I' 96 i = I 96 i) ∧ I' 96 (8 * c + 5) = nI s0 ∧ I' 96 (8 * c + 6) = nI (s0 + m4.length) ∧ I' 96 (8 * c + 7) = nI tm := by
  have hd : ∀ {y}, ((toI (vc O (d + 9) 11 MX11_isWord 69 [.long 21279923] (hp u n T (up2 I 96 (8 * c + 7) (nI 1)) J R))).bind fun p44 => if p44.1 = 0 then F_X11_readOrder_j203 O (d + 9) 69 v p44.2 else (toV (vc O (d + 9) 11 MX11_next 69 [] p44.2)).bind fun K47 => (gtA K47 69 11 47).bind fun x48 => (toI (vc O (d + 9) 11 MX11_number 69 [.long 1, .long (20)] K47)).bind fun p49 => (wrI p49.2 x48 (v + (nI 7)) p49.1).bind fun K50 => F_X11_readOrder_j203 O (d + 9) 69 v K50) = y → F_X11_readOrder_j155 O (d + 9) 69 v (hp u n T I J R) = y := by
    intro y e
    unfold F_X11_readOrder_j155
    rw [ga_69_47 hS, Option.bind_some, hv, nI_add, wr_96 hS (by omega), Option.bind_some, gi_69_19 hS, Option.bind_some, up2_na (by decide), h.2.1.1, if_pos (show nI 0 = 0 from rfl), ← nI_add, ← hv]
    exact e
  have hH : MHd b t true s0 k q (up2 I 96 (8 * c + 7) (nI 1)) J := MHd_c h _ _ _ (by decide) (by decide)
  have ex : MEy s0 96 I (up2 I 96 (8 * c + 7) (nI 1)) J J := MEy_c I J _ _ (by decide) (by decide) (by decide)
  have r7 : up2 I 96 (8 * c + 7) (nI 1) 96 (8 * c + 7) = nI 1 := up2_at _ _ _ _
  have rl : ∀ i, i < 8 * c + 5 → up2 I 96 (8 * c + 7) (nI 1) 96 i = I 96 i := fun i hi => up2_nk (by omega)
  have r21 : up2 I 96 (8 * c + 7) (nI 1) 69 21 = I 69 21 := up2_na (by decide)
  generalize up2 I 96 (8 * c + 7) (nI 1) = I0 at *
  have wd := m_isWord (O := O) (d := d + 8) (u := u) hS hb ht hH.1.1 (w := 13) (x := 21279923) (by decide) (by decide)
  -- behind the times
  have rest : ∀ (tm k3 : Nat) (I3 : Nat → Nat → Int32) (J3 : Nat → Nat → Int64), MHd b t true s0 k3 q I3 J3 → MEy s0 96 I I3 J J3 → I3 69 21 = I 69 21 → (∀ i, i < 8 * c + 5 → I3 96 i = I 96 i) → I3 96 (8 * c + 7) = nI tm → (gWd (gC4 true (fT b t) k3 q) fun x4 => some (Sum.inr (tm, x4) : Nat ⊕ (Nat × GC × GC × Nat × Nat))) = some r → ∃ I' J', F_X11_readOrder_j203 O (d + 9) 69 v (hp u n T I3 J3 R) = some (hp u n T I' J' R) ∧ MEy s0 96 I I' J J' ∧ (∀ j, r = .inl j → MBb (plN b t j) I') ∧ ∀ tm c4 m4 k4 q4, r = .inr (tm, c4, m4, k4, q4) → MHd b t true (s0 + m4.length) k4 q4 I' J' ∧ AtH (I' 80) (I' 81) s0 m4 ∧ I' 69 21 = I 69 21 ∧ (∀ i, i < 8 * c + 5 → I' 96 i = I 96 i) ∧ I' 96 (8 * c + 5) = nI s0 ∧ I' 96 (8 * c + 6) = nI (s0 + m4.length) ∧ I' 96 (8 * c + 7) = nI tm := by
    intro tm k3 I3 J3 i1 i2 i3 i4 i5 hr
    cases hy : gC4 true (fT b t) k3 q with
    | none =>
      rw [hy] at hr
      cases hr
    | some z =>
      obtain ⟨I', J', f1, f2, f3, f4⟩ := m_o203 (O := O) (d := d) (u := u) hS hb ht hc i1 hq hy hv
      refine ⟨I', J', f1, i2.trans f2, ?_⟩
      rw [hy] at hr
      cases z with
      | inl j =>
        rw [← Option.some.inj hr]
        exact ⟨(fun j' e => by cases e; exact f3 j rfl), (fun _ _ _ _ _ e => by cases e)⟩
      | inr w =>
        obtain ⟨c4, m4, k4, q4⟩ := w
        rw [← Option.some.inj hr]
        refine ⟨(fun j' e => by cases e), fun tm' c4' m4' k4' q4' e => ?_⟩
        cases e
        obtain ⟨p1, p2, p3, p4, p5, p6⟩ := f4 _ _ _ _ rfl
        exact ⟨p1, p2, p3.trans i3, fun i hi => by rw [p4 i (by omega) (by omega), i4 i hi], p5, p6, by rw [p4 _ (by omega) (by omega), i5]⟩
  unfold gC34 gC3 at hr
  by_cases e : true = true ∧ fT b t k = 2013
  · rw [if_pos e] at hr
    obtain ⟨I1, J1, a1, a2, a3⟩ := m_nextH (O := O) (d := d + 7) (u := u) hS hb ht hH (fT_lt (by omega))
    obtain ⟨nv, I2, J2, b1, b2, b3, b4, b5⟩ := m_numberH (O := O) (d := d + 5) (u := u) (lo := 1) (hi := 20) (l := 1) (h' := 20) hS hb ht (by decide) (by decide) (by decide) (by decide) a2
    have i96 : I2 96 = I0 96 := ((b4 0).1 96 (by decide) (by decide) (by decide) (by decide) (by decide)).trans (a3.1 96 (by decide))
    have ex2 : MEy s0 96 I (up2 I2 96 (8 * c + 7) nv) J J2 := ex.trans ((MEy.of (MEx.ofO a3)).trans ((MEy.of (b4 s0)).trans (MEy_c _ J2 _ _ (by decide) (by decide) (by decide))))
    have hd2 : ∀ {y}, F_X11_readOrder_j203 O (d + 9) 69 v (hp u n T (up2 I2 96 (8 * c + 7) nv) J2 R) = y → F_X11_readOrder_j155 O (d + 9) 69 v (hp u n T I J R) = y := by
      intro y z
      apply hd
      rw [vc_69 hS, wd, toI_i, Option.bind_some]
      dsimp only
      rw [decide_eq_true (show mnT b t (plN b t k) = 2000 + 13 from e.2), if_neg (show ¬ bI true = 0 by decide), vc_69 hS, a1, toV_v, Option.bind_some, ga_69_47 hS, Option.bind_some, vc_69 hS, b1, toI_i, Option.bind_some]
      dsimp only
      rw [hv, nI_add, wr_96 hS (by omega), Option.bind_some, ← hv]
      exact z
    by_cases e2 : 1 ≤ fT b t (k + 1) ∧ fT b t (k + 1) ≤ 20
    · rw [if_pos e2] at hr
      obtain ⟨nE, nH⟩ := b2 e2
      obtain ⟨I', J', f1, f2⟩ := rest (fT b t (k + 1)) (k + 2) (up2 I2 96 (8 * c + 7) nv) J2 (MHd_c nH _ _ _ (by decide) (by decide)) ex2 (by rw [up2_na (by decide), b5, a3.2.1 21 (by decide) (by decide) (by decide), r21]) (fun i hi => by rw [up2_nk (by omega), i96, rl i hi]) (by rw [up2_at, nE]) hr
      exact ⟨I', J', hd2 f1, f2⟩
    · rw [if_neg e2] at hr
      rw [← Option.some.inj hr]
      obtain ⟨I', f1, f2, f3⟩ := m_o203B (O := O) (d := d + 9) (u := u) (J := J2) hS hc (MBb_c (b3 e2) 96 (8 * c + 7) nv (by decide)) hv
      exact ⟨I', J2, hd2 f1, ex2.trans (f3 s0), (fun j e => by cases e; exact f2), (fun _ _ _ _ _ e => by cases e)⟩
  · rw [if_neg e] at hr
    have e' : ¬ fT b t k = 2013 := fun z => e ⟨rfl, z⟩
    obtain ⟨I', J', f1, f2⟩ := rest 1 k I0 J hH ex r21 rl r7 hr
    refine ⟨I', J', hd ?_, f2⟩
    rw [vc_69 hS, wd, toI_i, Option.bind_some]
    dsimp only
    rw [decide_eq_false (show ¬ mnT b t (plN b t k) = 2000 + 13 from e'), if_pos (show bI false = 0 by decide), f1]
end ROD
