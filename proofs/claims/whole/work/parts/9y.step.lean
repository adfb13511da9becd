/-! the reference's reading: its steps -/
def wLw (k : Nat) : Nat := [14, 15, 16, 20, 21, 17, 18, 22, 19].getD k 0
def wOw (k : Nat) : Nat := [22, 23, 24, 25, 20, 21].getD k 0
theorem cn_84 : ∀ k, k < 9 → ([136228, 202810777, 23123348, 661069, 13796819, 70803, 215205, 824370, 441828] : List Int64).getD k 0 = Int64.ofInt (encL (wdL (wLw k))) ∧ wLw k < 26 := by decide
theorem cn_85 : ∀ k, k < 6 → ([824370, 146885, 404362868, 317301893, 661069, 13796819] : List Int64).getD k 0 = Int64.ofInt (encL (wdL (wOw k))) ∧ wOw k < 26 := by decide
/-- which of the words it is, the last of those that fit -/
def pAt (w : Nat → Nat) (x : Nat) : Nat → Int32
  | 0 => -1
  | i + 1 => if x = 2000 + w i then nI (i + 1) else pAt w x i
theorem pAt_no {w : Nat → Nat} {x : Nat} : ∀ N, (∀ i, i < N → x ≠ 2000 + w i) → pAt w x N = -1
  | 0, _ => rfl
  | N + 1, h => by
    show (if x = 2000 + w N then nI (N + 1) else pAt w x N) = -1
    rw [if_neg (h N (Nat.lt_succ_self N)), pAt_no N (fun i hi => h i (by omega))]
/-- the reference's word for a part -/
def itL (md : Bool) (x : Nat) : Int32 := if wdI md x ≠ 0 then nI (wdO md (wdI md x - 1)).1 else if md = true ∧ x = 2020 then nI 5 else if md = true ∧ x = 2021 then nI 6 else -1
theorem pAt_L (x : Nat) : pAt wLw x 9 = itL false x := by
  by_cases h : x < 2030
  · have : ∀ x, x < 2030 → pAt wLw x 9 = itL false x := by decide +kernel
    exact this x h
  · rw [pAt_no 9 (fun i hi z => absurd (show wLw i < 26 from (cn_84 i hi).2) (by omega))]
    unfold itL
    rw [wdI_0 false (by omega), if_neg (fun z => z rfl), if_neg (fun z => by cases z.1), if_neg (fun z => by cases z.1)]
theorem pAt_O (x : Nat) : pAt wOw x 6 = itL true x := by
  by_cases h : x < 2030
  · have : ∀ x, x < 2030 → pAt wOw x 6 = itL true x := by decide +kernel
    exact this x h
  · rw [pAt_no 6 (fun i hi z => absurd (show wOw i < 26 from (cn_85 i hi).2) (by omega))]
    unfold itL
    rw [wdI_0 true (by omega), if_neg (fun z => z rfl), if_neg (fun z => absurd z.2 (by omega)), if_neg (fun z => absurd z.2 (by omega))]
/-- what a step leaves -/
def MRs (b : Nat → Nat) (t : Nat) (md : Bool) (s0 : Nat) (x : Nat ⊕ CF) (v : Int32) (I I' : Nat → Nat → Int32) (J J' : Nat → Nat → Int64) : Prop := (∀ j, x = .inl j → MBd s0 (plN b t j) I') ∧ (∀ y, x = .inr y → v = nI y.1 ∧ MGd b t md s0 y.2.1 (brk y.2.2.2.1) y.2.1 y.2.2.1 y.2.2.2.1 y.2.2.2.2 I' J') ∧ MEx s0 I I' J J'
theorem MRs_bad {b : Nat → Nat} {t : Nat} {md : Bool} {s0 j : Nat} {v : Int32} {I I' : Nat → Nat → Int32} {J J' : Nat → Nat → Int64} (h : MBd s0 (plN b t j) I') (h2 : MEx s0 I I' J J') : MRs b t md s0 (.inl j) v I I' J J' := ⟨fun j' e => by cases e; exact h, (fun y e => by cases e), h2⟩
theorem MRs_ok {b : Nat → Nat} {t : Nat} {md : Bool} {s0 s k q : Nat} {P : PL} {c : GC} {I I' : Nat → Nat → Int32} {J J' : Nat → Nat → Int64} (h : MGd b t md s0 k (brk P) k q P c I' J') (h2 : MEx s0 I I' J J') : MRs b t md s0 (.inr (s, k, q, P, c)) (nI s) I I' J J' := ⟨(fun y e => by cases e), fun y e => by cases e; exact ⟨rfl, h⟩, h2⟩
section MSP
variable {O : mO} {d u n : Nat} {T : Nat → mT} {I : Nat → Nat → Int32} {J : Nat → Nat → Int64} {R : Nat → Nat → Option Nat} {b : Nat → Nat} {t : Nat} {md : Bool} {s0 w r k q : Nat} {P : PL} {c : GC}
theorem MGd_w {w' : Nat} (h : MGd b t md s0 w r k q P c I J) (hw : w ≤ w') : MGd b t md s0 w' r k q P c I J := ⟨h.1, h.2.1, MSh_w h.2.2.1 hw, h.2.2.2⟩
theorem m_partAt (hS : St n T R) (hb : ∀ k, b k ≤ 255) (ht : t ≤ 400) (h : MTs b t k I J) (hC : Cns J) : ev O (d + 2) MX11_partAt [.ref 69] (hp u n T I J R) = some (some (.int (itL false (fT b t k))), hp u n T I J R) := by
  refine e_X11_partAt ?_
  unfold F_X11_partAt
  rw [lup_0 (fun i => (pAt wLw (fT b t k) i, nI i, hp u n T I J R)) (N := 9) (s0 := (-1, nI 0, hp u n T I J R)) (by decide) rfl (r := (pAt wLw (fT b t k) 9, hp u n T I J R)), Option.bind_some, pAt_L]
  · intro i hi
    unfold F_X11_partAt_l4
    dsimp only
    rw [if_neg (nI_ge hi (by decide)), ga_69_31 hS, Option.bind_some, rd_84 hS hi, Option.bind_some, hC.1 i hi, vc_69 hS, m_isWord hS hb ht h (cn_84 i hi).2 (cn_84 i hi).1, toI_i, Option.bind_some, nI_add]
    dsimp only
    congr 2
    show ((if bI (decide (fT b t k = 2000 + wLw i)) = 0 then pAt wLw (fT b t k) i else nI (i + 1)), _) = ((if fT b t k = 2000 + wLw i then nI (i + 1) else pAt wLw (fT b t k) i), _)
    by_cases e : fT b t k = 2000 + wLw i
    · rw [if_pos e, decide_eq_true e, if_neg (by decide)]
    · rw [if_neg e, decide_eq_false e, if_pos (by decide)]
  · unfold F_X11_partAt_l4
    dsimp only
    rw [if_pos (by decide)]
theorem m_orderPartAt (hS : St n T R) (hb : ∀ k, b k ≤ 255) (ht : t ≤ 400) (h : MTs b t k I J) (hC : Cns J) : ev O (d + 2) MX11_orderPartAt [.ref 69] (hp u n T I J R) = some (some (.int (itL true (fT b t k))), hp u n T I J R) := by
  refine e_X11_orderPartAt ?_
  unfold F_X11_orderPartAt
  rw [lup_0 (fun i => (pAt wOw (fT b t k) i, nI i, hp u n T I J R)) (N := 6) (s0 := (-1, nI 0, hp u n T I J R)) (by decide) rfl (r := (pAt wOw (fT b t k) 6, hp u n T I J R)), Option.bind_some, pAt_O]
  · intro i hi
    unfold F_X11_orderPartAt_l4
    dsimp only
    rw [if_neg (nI_ge hi (by decide)), ga_69_32 hS, Option.bind_some, rd_85 hS hi, Option.bind_some, hC.2.1 i hi, vc_69 hS, m_isWord hS hb ht h (cn_85 i hi).2 (cn_85 i hi).1, toI_i, Option.bind_some, nI_add]
    dsimp only
    congr 2
    show ((if bI (decide (fT b t k = 2000 + wOw i)) = 0 then pAt wOw (fT b t k) i else nI (i + 1)), _) = ((if fT b t k = 2000 + wOw i then nI (i + 1) else pAt wOw (fT b t k) i), _)
    by_cases e : fT b t k = 2000 + wOw i
    · rw [if_pos e, decide_eq_true e, if_neg (by decide)]
    · rw [if_neg e, decide_eq_false e, if_pos (by decide)]
  · unfold F_X11_orderPartAt_l4
    dsimp only
    rw [if_pos (by decide)]
theorem m_openG (hS : St n T R) (hb : ∀ k, b k ≤ 255) (ht : t ≤ 400) {o : Nat} (ho : o = 31 ∨ o = 32) (hk : k < tkN b t) (h : MGd b t md s0 k (brk P) k q P c I J) : ∃ I' J', ev O (d + 4) MX11_openBracket [.ref 69, .int (nI o)] (hp u n T I J R) = some (none, hp u n T I' J' R) ∧ (brk P < 8 → MGd b t md s0 (k + 1) (brk ((o, c) :: P)) (k + 1) q ((o, c) :: P) [] I' J') ∧ (¬ brk P < 8 → MBd s0 (plN b t k) I') ∧ MEx s0 I I' J J' := by
  have tl := tkN_le (b := b) (t := t)
  have bl : brk P ≤ P.length := by
    clear h
    induction P with
    | nil => exact Nat.le_refl _
    | cons x P ih =>
      obtain ⟨o, s⟩ := x
      show brk P + (if 31 ≤ o then 1 else 0) ≤ P.length + 1
      split <;> omega
  have l3 := off_le s0 P
  have hwt := h.2.2.1.2.2.2
  have eb : brk ((o, c) :: P) = brk P + 1 := by
    show brk P + (if 31 ≤ o then 1 else 0) = _
    rw [if_pos (by omega)]
  by_cases h8 : brk P < 8
  · obtain ⟨I1, J1, a1, a2, a3⟩ := m_mustG (O := O) (d := d) (u := u) (v := nI 1) hS hb ht h hk (by decide)
    have a4 := MGd_30 a2 (brk P + 1)
    obtain ⟨I2, b1, b2, b3⟩ := m_pushG (O := O) (d := d + 2) (u := u) (o := o) hS (by omega) (by omega) (by omega) (by omega) a4
    refine ⟨I2, J1, e_X11_openBracket ?_, fun _ => by rw [eb]; exact b2, fun z => absurd h8 z, a3.trans ((MEx.of69 I1 J1 _ (by decide)).trans b3)⟩
    unfold F_X11_openBracket
    rw [gi_69_30 hS, Option.bind_some, h.2.1.2.2.2, if_neg (nI_ge h8 (by decide)), vc_69 hS, a1, toV_v, Option.bind_some, gi_69_19 hS, Option.bind_some, a2.2.1.1, if_pos (show nI 0 = 0 from rfl), gi_69_30 hS, Option.bind_some, a2.2.1.2.2.2, nI_add, pi_69_30 hS, Option.bind_some, vc_69 hS, b1, toV_v, Option.bind_some]
  · obtain ⟨I1, a1, a2, a3⟩ := m_mustB (O := O) (d := d + 2) (u := u) (v := nI 0) hS (by omega) h rfl
    refine ⟨I1, J, e_X11_openBracket ?_, fun z => absurd z h8, fun _ => a2, a3⟩
    unfold F_X11_openBracket
    rw [gi_69_30 hS, Option.bind_some, h.2.1.2.2.2, if_pos (nI_le (by omega) (by omega)), vc_69 hS, a1, toV_v, Option.bind_some, gi_69_19 hS, Option.bind_some, a2.1, if_neg (show ¬ nI 1 = 0 by decide)]
theorem m_leafG (hS : St n T R) (hb : ∀ k, b k ≤ 255) (ht : t ≤ 400) {o a : Nat} {v : Int32} (hv : ¬ v = 0) (ho : ¬ (o = 29 ∨ o = 30)) (hk : k < tkN b t) (hq : q < 50) (h : MGd b t md s0 k r k q P c I J) : ∃ I' J', ev O (d + 4) MX11_leaf [.ref 69, .int v, .int (nI o), .int (nI a)] (hp u n T I J R) = some (none, hp u n T I' J' R) ∧ MGd b t md s0 (k + 1) r (k + 1) (q + 1) P (c ++ [(o, a)]) I' J' ∧ MEx s0 I I' J J' := by
  have tl := tkN_le (b := b) (t := t)
  obtain ⟨I1, J1, a1, a2, a3⟩ := m_mustG (O := O) (d := d) (u := u) (v := nI 1) hS hb ht h hk (by decide)
  obtain ⟨I2, b1, b2, b3⟩ := m_emitG (O := O) (d := d + 2) (u := u) (o := o) (a := a) hS ho (by omega) a2
  refine ⟨up2 I2 69 26 (nI (q + 1)), J1, e_X11_leaf ?_, MGd_26 b2 _, a3.trans (b3.trans (MEx.of69 I2 J1 _ (by decide)))⟩
  unfold F_X11_leaf
  rw [if_neg hv, gi_69_26 hS, Option.bind_some, h.2.1.2.2.1, if_neg (nI_ge hq (by decide)), vc_69 hS, a1, toV_v, Option.bind_some, gi_69_19 hS, Option.bind_some, a2.2.1.1, if_pos (show nI 0 = 0 from rfl), vc_69 hS, b1, toV_v, Option.bind_some, gi_69_26 hS, Option.bind_some, b2.2.1.2.2.1, nI_add, pi_69_26 hS, Option.bind_some]
theorem m_leafB (hS : St n T R) (hw : w ≤ 400) {x y v : Int32} (hq' : q ≤ 50) (hv : v = 0 ∨ 50 ≤ q) (h : MGd b t md s0 w r k q P c I J) : ∃ I', ev O (d + 2) MX11_leaf [.ref 69, .int v, .int x, .int y] (hp u n T I J R) = some (none, hp u n T I' J R) ∧ MBd s0 (plN b t k) I' ∧ MEx s0 I I' J J := by
  obtain ⟨I1, a1, a2, a3⟩ := m_mustB (O := O) (d := d) (u := u) (v := nI 0) hS hw h rfl
  refine ⟨I1, e_X11_leaf ?_, a2, a3⟩
  unfold F_X11_leaf
  by_cases v0 : v = 0
  · unfold F_X11_leaf_j18 F_X11_leaf_j19
    rw [if_pos v0, vc_69 hS, a1, toV_v, Option.bind_some, gi_69_19 hS, Option.bind_some, a2.1, if_neg (show ¬ nI 1 = 0 by decide)]
  · have h50 := hv.resolve_left v0
    rw [if_neg v0, gi_69_26 hS, Option.bind_some, h.2.1.2.2.1, if_pos (nI_le (by omega) (by omega)), vc_69 hS, a1, toV_v, Option.bind_some, gi_69_19 hS, Option.bind_some, a2.1, if_neg (show ¬ nI 1 = 0 by decide)]
theorem o64_32 {v : Nat} (h : v < 2 ^ 31) : (Int64.ofInt v).toInt32 = nI v := by
  rw [← l64_nI h]
  exact Int32.toInt32_toInt64 _
theorem o64_le {x y : Nat} (hx : x < 2 ^ 31) (hy : y < 2 ^ 31) : (Int64.ofInt x ≤ Int64.ofInt y) ↔ x ≤ y := by
  rw [← l64_nI hx, ← l64_nI hy, Int64.le_iff_toInt_le, Int32.toInt_toInt64, Int32.toInt_toInt64, ← Int32.le_iff_toInt_le]
  exact nI_leI hx hy
/-- a number is read: low to high -/
theorem m_numberG (hS : St n T R) (hb : ∀ k, b k ≤ 255) (ht : t ≤ 400) {lo hi : Nat} {l h' : Int64} (hl : l = Int64.ofInt lo) (hh : h' = Int64.ofInt hi) (hhi : hi ≤ 1000) (hlo : lo ≤ hi) (hw : w ≤ 400) (h : MGd b t md s0 w r k q P c I J) : ∃ v I' J', ev O (d + 4) MX11_number [.ref 69, .long l, .long h'] (hp u n T I J R) = some (some (.int v), hp u n T I' J' R) ∧ (lo ≤ fT b t k ∧ fT b t k ≤ hi → v = nI (fT b t k) ∧ MGd b t md s0 w r (k + 1) q P c I' J') ∧ (¬ (lo ≤ fT b t k ∧ fT b t k ≤ hi) → MBd s0 (plN b t k) I' ∧ MSh s0 w P c I') ∧ MEx s0 I I' J J' := by
  obtain ⟨w1, w2, w3⟩ := m_worth hS hb h.1.1
  by_cases hf : lo ≤ fT b t k ∧ fT b t k ≤ hi
  · obtain ⟨v, v1, v2, v3⟩ := w2 (by show fT b t k ≤ 1001; omega)
    have v3 : v ≤ 1000 ∧ fT b t k = v ∨ 1000 < v ∧ fT b t k = 1001 := v3
    have vE : fT b t k = v := by omega
    obtain ⟨I', J', a1, a2, a3⟩ := m_mustG (O := O) (d := d) (u := u) (v := nI 1) hS hb ht h (fT_lt (by omega)) (by decide)
    refine ⟨nI v, I', J', e_X11_number ?_, fun _ => ⟨by rw [vE], a2⟩, fun z => absurd hf z, a3⟩
    unfold F_X11_number
    rw [gj_69_17 hS, Option.bind_some, gi_69_16 hS, Option.bind_some, if_pos (w1.mpr (by show fT b t k ≤ 1001; omega)), Option.bind_some, v1, evr (k_in _ _ _), toI_i, Option.bind_some]
    dsimp only
    have ok : decide (l ≤ Int64.ofInt v ∧ Int64.ofInt v ≤ h') = true := by
      rw [hl, hh]
      exact decide_eq_true ⟨(o64_le (by omega) (by omega)).mpr (by omega), (o64_le (by omega) (by omega)).mpr (by omega)⟩
    rw [ok, if_neg (show ¬ bI true = 0 by decide), vc_69 hS, a1, toV_v, Option.bind_some, o64_32 (by omega)]
  · obtain ⟨I', a1, ⟨a2, a3⟩, sh⟩ := m_mustBs (O := O) (d := d + 2) (u := u) (v := nI 0) hS hw h rfl
    by_cases h16 : I 69 16 = nI 2
    · obtain ⟨v, v1, v2, v3⟩ := w2 (w1.mp h16)
      have v3 : v ≤ 1000 ∧ fT b t k = v ∨ 1000 < v ∧ fT b t k = 1001 := v3
      refine ⟨nI v, I', J, e_X11_number ?_, fun z => absurd z hf, fun _ => ⟨a2, sh⟩, a3⟩
      unfold F_X11_number
      rw [gj_69_17 hS, Option.bind_some, gi_69_16 hS, Option.bind_some, if_pos h16, Option.bind_some, v1, evr (k_in _ _ _), toI_i, Option.bind_some]
      dsimp only
      have ok : decide (l ≤ Int64.ofInt v ∧ Int64.ofInt v ≤ h') = false := by
        rw [hl, hh]
        refine decide_eq_false (fun z => hf ?_)
        have z1 := (o64_le (by omega) (by omega)).mp z.1
        have z2 := (o64_le (by omega) (by omega)).mp z.2
        omega
      rw [ok, if_pos (show bI false = 0 by decide), vc_69 hS, a1, toV_v, Option.bind_some, o64_32 (by omega)]
    · refine ⟨(J 69 17).toInt32, I', J, e_X11_number ?_, fun z => absurd z hf, fun _ => ⟨a2, sh⟩, a3⟩
      unfold F_X11_number F_X11_number_j32 F_X11_number_j33
      rw [gj_69_17 hS, Option.bind_some, gi_69_16 hS, Option.bind_some, if_neg h16, vc_69 hS, a1, toV_v, Option.bind_some]
end MSP
