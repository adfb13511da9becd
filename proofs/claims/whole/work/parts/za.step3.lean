/-! the reference's reading: behind a sum, behind a test, and all of it -/
theorem inn_32 {s0 : Nat} {I : Nat → Nat → Int32} : ∀ P : PL, PiH s0 I P → inn P ≤ 32
  | [], _ => Nat.zero_le _
  | (o, s) :: P, h => by
    show (if 31 ≤ o then o else inn P) ≤ 32
    split
    · exact h.2.2.2.1
    · exact inn_32 P h.1
section MSR
variable {O : mO} {d u n : Nat} {T : Nat → mT} {I : Nat → Nat → Int32} {J : Nat → Nat → Int64} {R : Nat → Nat → Option Nat} {b : Nat → Nat} {t : Nat} {md : Bool} {s0 w r k q : Nat} {P : PL} {c : GC}
/-- the operator of a sum -/
theorem m_bsOp (hS : St n T R) (hb : ∀ k, b k ≤ 255) (h : MTs b t k I J) (a1 : Int32) : F_X11_behindSum O (d + 1) 69 a1 (hp u n T I J R) = F_X11_behindSum_j71 O (d + 1) 69 a1 (if 5 ≤ sgO (fT b t k) ∧ sgO (fT b t k) ≤ 9 then nI (sgO (fT b t k) + 15) else -1) (hp u n T I J R) := by
  have sg : ∀ x, x ≤ 255 → ev O (d + 1) MX11_isSign [.ref 69, .int (nI x)] (hp u n T I J R) = some (some (.int (bI (decide (fT b t k = 3000 + x)))), hp u n T I J R) := fun x hx => m_isSign hS hb h hx
  unfold F_X11_behindSum
  rw [vc_69 hS, sg 43 (by decide), toI_i, Option.bind_some]
  dsimp only
  by_cases h1 : fT b t k = 3043
  · rw [decide_eq_true (show fT b t k = 3000 + 43 from h1), if_neg (show ¬ bI true = 0 by decide), h1]
    rfl
  · rw [decide_eq_false (show ¬ fT b t k = 3000 + 43 from h1), if_pos (show bI false = 0 by decide), vc_69 hS, sg 45 (by decide), toI_i, Option.bind_some]
    dsimp only
    by_cases h2 : fT b t k = 3045
    · rw [decide_eq_true (show fT b t k = 3000 + 45 from h2), if_neg (show ¬ bI true = 0 by decide), h2]
      rfl
    · rw [decide_eq_false (show ¬ fT b t k = 3000 + 45 from h2), if_pos (show bI false = 0 by decide), vc_69 hS, sg 42 (by decide), toI_i, Option.bind_some]
      dsimp only
      by_cases h3 : fT b t k = 3042
      · rw [decide_eq_true (show fT b t k = 3000 + 42 from h3), if_neg (show ¬ bI true = 0 by decide), h3]
        rfl
      · rw [decide_eq_false (show ¬ fT b t k = 3000 + 42 from h3), if_pos (show bI false = 0 by decide), vc_69 hS, sg 47 (by decide), toI_i, Option.bind_some]
        dsimp only
        by_cases h4 : fT b t k = 3047
        · rw [decide_eq_true (show fT b t k = 3000 + 47 from h4), if_neg (show ¬ bI true = 0 by decide), h4]
          rfl
        · rw [decide_eq_false (show ¬ fT b t k = 3000 + 47 from h4), if_pos (show bI false = 0 by decide), vc_69 hS, sg 37 (by decide), toI_i, Option.bind_some]
          dsimp only
          by_cases h5 : fT b t k = 3037
          · rw [decide_eq_true (show fT b t k = 3000 + 37 from h5), if_neg (show ¬ bI true = 0 by decide), h5]
            rfl
          · rw [decide_eq_false (show ¬ fT b t k = 3000 + 37 from h5), if_pos (show bI false = 0 by decide), if_neg]
            intro z
            unfold sgO at z
            rw [if_neg h1, if_neg h2, if_neg h3, if_neg h4, if_neg h5] at z
            repeat' (split at z)
            all_goals omega
/-- an operator is joined on, behind its token -/
theorem m_joinG (hS : St n T R) (hb : ∀ k, b k ≤ 255) (ht : t ≤ 400) {o l : Nat} (ho : ¬ (o = 29 ∨ o = 30)) (h20 : 20 ≤ o) (h31 : o < 31) (h1 : 1 ≤ l) (hl : l ≤ 6) (hw : w < 400) (h : MGd b t md s0 w (brk P) k q P c I J) : ∃ I1 I', ev O (d + 2) MX11_settle [.ref 69, .int (nI l)] (hp u n T I J R) = some (none, hp u n T I1 J R) ∧ ev O (d + 2) MX11_push [.ref 69, .int (nI o), .int (nI 0)] (hp u n T I1 J R) = some (none, hp u n T I' J R) ∧ MGd b t md s0 (w + 1) (brk ((o, (stl l P c).2) :: (stl l P c).1)) k q ((o, (stl l P c).2) :: (stl l P c).1) [] I' J ∧ MEx s0 I I' J J := by
  obtain ⟨I1, a1, a2, a3⟩ := m_settleG (O := O) (d := d) (u := u) hS (by omega) hl h
  obtain ⟨I2, b1, b2, b3⟩ := m_pushG (O := O) (d := d + 1) (u := u) (o := o) hS ho h20 (by omega) hw a2
  have e : brk ((o, (stl l P c).2) :: (stl l P c).1) = brk P := by
    show brk (stl l P c).1 + (if 31 ≤ o then 1 else 0) = _
    rw [if_neg (by omega), brk_stl h1]
    rfl
  exact ⟨I1, I2, a1, b1, by rw [e]; exact b2, a3.trans b3⟩
/-- a bracket is shut, behind its token -/
theorem m_shutG (hS : St n T R) {l s k' : Nat} {x : Nat ⊕ CF} (h1 : 1 ≤ l) (hl : l ≤ 6) (hw : w ≤ 400) (hk : w ≤ k) (h : MGd b t md s0 w (brk P) k q P c I J) (hx : shM s k q (stl l P c) = some x) : ∃ I1, ev O (d + 2) MX11_settle [.ref 69, .int (nI l)] (hp u n T I J R) = some (none, hp u n T I1 J R) ∧ MRs b t md s0 x (nI s) I (up2 (up2 I1 69 29 (I1 69 29 - nI 1)) 69 30 (I1 69 30 - nI 1)) J J := by
  obtain ⟨I1, a1, a2, a3⟩ := m_settleG (O := O) (d := d) (u := u) hS hw hl h
  refine ⟨I1, a1, ?_⟩
  have hbr := brk_stl h1 P c
  cases hp : stl l P c with
  | mk Q e =>
    rw [hp] at a2 hx hbr
    cases Q with
    | nil => cases hx
    | cons y Q =>
      obtain ⟨o, s'⟩ := y
      have hx : (if 31 ≤ o then some (Sum.inr (s, k, q, Q, s' ++ e)) else none) = some x := hx
      by_cases ho : 31 ≤ o
      · rw [if_pos ho] at hx
        rw [← Option.some.inj hx]
        have hbr : brk Q + (if 31 ≤ o then 1 else 0) = brk P := hbr
        rw [if_pos ho] at hbr
        obtain ⟨p1, p2⟩ := m_popG ho a2 (brk Q)
        have e29 : I1 69 29 - nI 1 = nI Q.length := by
          rw [a2.2.2.1.2.1]
          show nI (Q.length + 1) - nI 1 = _
          rw [nI_sub (by omega), Nat.add_sub_cancel]
        have e30 : I1 69 30 - nI 1 = nI (brk Q) := by
          rw [a2.2.1.2.2.2, ← hbr, nI_sub (by omega), Nat.add_sub_cancel]
        rw [e29, e30]
        exact MRs_ok (MGd_w p1 hk) (a3.trans p2)
      · rw [if_neg ho] at hx
        cases hx
theorem m_behindSum (hS : St n T R) (hb : ∀ k, b k ≤ 255) (ht : t ≤ 400) {tst : Bool} {x : Nat ⊕ CF} (h : MGd b t md s0 k (brk P) k q P c I J) (hx : mSt md tst (fT b t) 3 k q P c = some x) : ∃ v I' J', ev O (d + 5) MX11_behindSum [.ref 69, .int (bI tst)] (hp u n T I J R) = some (some (.int v), hp u n T I' J' R) ∧ MRs b t md s0 x v I I' J J' := by
  have tl := tkN_le (b := b) (t := t)
  have hkT := h.1.2.1
  have mle : fT b t k ≤ 4000 := mnT_le hb _
  have hx : (if 5 ≤ sgO (fT b t k) ∧ sgO (fT b t k) ≤ 9 then puM 1 (k + 1) q (sgO (fT b t k) + 15) (stl (bnd (sgO (fT b t k) + 15)) P c)
    else if inn P = 32 then (if fT b t k = 3093 then shM 3 (k + 1) q (stl 5 P c) else some (.inl k))
    else if inn P = 0 ∧ tst = false then some (.inr (4, k, q, P, c))
    else if cmpd P = true then some (.inr (2, k, q, P, c))
    else if 10 ≤ sgO (fT b t k) then puM 1 (k + 1) q (sgO (fT b t k) + 15) (stl 5 P c) else some (.inl k)) = some x := hx
  have hd : ∀ {y : Int32 × mH}, F_X11_behindSum_j71 O (d + 4) 69 (bI tst) (if 5 ≤ sgO (fT b t k) ∧ sgO (fT b t k) ≤ 9 then nI (sgO (fT b t k) + 15) else -1) (hp u n T I J R) = some y → ev O (d + 5) MX11_behindSum [.ref 69, .int (bI tst)] (hp u n T I J R) = some (some (.int y.1), y.2) := fun e => e_X11_behindSum ((m_bsOp (d := d + 3) hS hb h.1.1 _).trans e)
  obtain ⟨sl1, sl2⟩ := sgO_le (fT b t k)
  have hkl : sgO (fT b t k) ≠ 0 → k < tkN b t := fun z => fT_lt (by have := sl2 z; omega)
  by_cases h9 : 5 ≤ sgO (fT b t k) ∧ sgO (fT b t k) ≤ 9
  · rw [if_pos h9] at hx hd
    have hk := hkl (by omega)
    generalize sgO (fT b t k) = o at *
    have bo : 1 ≤ bnd (o + 15) ∧ bnd (o + 15) ≤ 6 := by
      unfold bnd
      rw [if_neg (by omega), if_neg (by omega), if_neg (by omega), if_neg (by omega), if_neg (by omega)]
      split <;> decide
    obtain ⟨I1, I2, a1, a2, a3, a4⟩ := m_joinG (O := O) (d := d + 2) (u := u) (o := o + 15) (l := bnd (o + 15)) hS hb ht (by omega) (by omega) (by omega) bo.1 bo.2 (by omega) h
    obtain ⟨I3, J3, b1, b2, b3⟩ := m_nextG (O := O) (d := d + 2) (u := u) hS hb ht a3 hk
    refine ⟨nI 1, I3, J3, hd (y := (nI 1, hp u n T I3 J3 R)) ?_, ?_⟩
    · unfold F_X11_behindSum_j71
      rw [if_neg (nI_ne1 (by omega)), m_binds (by omega), toI_i, Option.bind_some]
      dsimp only
      rw [vc_69 hS, a1, toV_v, Option.bind_some, vc_69 hS, a2, toV_v, Option.bind_some, vc_69 hS, b1, toV_v, Option.bind_some]
    · rw [← Option.some.inj hx]
      exact MRs_ok b2 (a4.trans b3)
  · rw [if_neg h9] at hx hd
    have inE := m_inner (O := O) (d := d + 3) (u := u) (J := J) hS (show k ≤ 400 by omega) h.2.2.1
    by_cases h32 : inn P = 32
    · rw [if_pos h32] at hx
      rw [h32, if_neg (by decide)] at inE
      have sg := m_isSign (O := O) (d := d + 3) (u := u) hS hb h.1.1 (c := 93) (by decide)
      by_cases h93 : fT b t k = 3093
      · rw [if_pos h93] at hx
        obtain ⟨I1, J1, a1, a2, a3⟩ := m_mustG (O := O) (d := d + 1) (u := u) (v := bI true) hS hb ht h (fT_lt (by omega)) (by decide)
        obtain ⟨I2, b1, b2⟩ := m_shutG (O := O) (d := d + 2) (u := u) (l := 5) (s := 3) (k' := 0) hS (by decide) (by decide) (by omega) (Nat.le_succ k) a2 hx
        refine ⟨nI 3, _, J1, hd (y := (nI 3, hp u n T (up2 (up2 I2 69 29 (I2 69 29 - nI 1)) 69 30 (I2 69 30 - nI 1)) J1 R)) ?_, ⟨b2.1, b2.2.1, a3.trans b2.2.2⟩⟩
        unfold F_X11_behindSum_j71
        rw [if_pos rfl, vc_69 hS, inE, toI_i, Option.bind_some]
        dsimp only
        rw [if_pos rfl, vc_69 hS, sg, toI_i, Option.bind_some]
        dsimp only
        rw [decide_eq_true (show mnT b t (plN b t k) = 3000 + 93 from h93), vc_69 hS, a1, toV_v, Option.bind_some, gi_69_19 hS, Option.bind_some, a2.2.1.1, if_pos (show nI 0 = 0 from rfl), vc_69 hS, b1, toV_v, Option.bind_some, gi_69_29 hS, Option.bind_some, pi_69_29 hS, Option.bind_some, gi_69_30 hS, Option.bind_some, up2_nk (by decide), pi_69_30 hS, Option.bind_some]
      · rw [if_neg h93] at hx
        rw [← Option.some.inj hx]
        obtain ⟨I1, a1, a2, a3⟩ := m_mustB (O := O) (d := d + 3) (u := u) (v := bI false) hS (show k ≤ 400 by omega) h (by decide)
        refine ⟨nI 3, I1, J, hd (y := (nI 3, hp u n T I1 J R)) ?_, MRs_bad a2 a3⟩
        unfold F_X11_behindSum_j71
        rw [if_pos rfl, vc_69 hS, inE, toI_i, Option.bind_some]
        dsimp only
        rw [if_pos rfl, vc_69 hS, sg, toI_i, Option.bind_some]
        dsimp only
        rw [decide_eq_false (show ¬ mnT b t (plN b t k) = 3000 + 93 from h93), vc_69 hS, a1, toV_v, Option.bind_some, gi_69_19 hS, Option.bind_some, a2.1, if_neg (show ¬ nI 1 = 0 by decide)]
    · rw [if_neg h32] at hx
      have i32 := inn_32 P h.2.2.1.2.2.1
      have n32 : ¬ (if inn P = 0 then -1 else nI (inn P)) = nI 32 := by
        by_cases z : inn P = 0
        · rw [if_pos z]
          decide
        · rw [if_neg z]
          exact fun y => h32 ((nI_eq (by omega) (by omega)).mp y)
      -- down to the comparison
      by_cases hov : inn P = 0 ∧ tst = false
      · rw [if_pos hov] at hx
        rw [← Option.some.inj hx]
        rw [hov.1, if_pos rfl] at inE
        refine ⟨nI 4, I, J, hd (y := (nI 4, hp u n T I J R)) ?_, MRs_ok h (MEx.refl _ _ _)⟩
        unfold F_X11_behindSum_j71
        rw [if_pos rfl, vc_69 hS, inE, toI_i, Option.bind_some]
        dsimp only
        rw [if_neg (show ¬ (-1 : Int32) = nI 32 by decide), if_pos rfl, hov.2, if_pos (show bI false = 0 by decide)]
      · rw [if_neg hov] at hx
        have hd2 : ∀ {y : Int32 × mH}, F_X11_behindSum_j163 O (d + 4) 69 (hp u n T I J R) = some y → ev O (d + 5) MX11_behindSum [.ref 69, .int (bI tst)] (hp u n T I J R) = some (some (.int y.1), y.2) := by
          intro y e
          apply hd
          unfold F_X11_behindSum_j71
          rw [if_pos rfl, vc_69 hS, inE, toI_i, Option.bind_some]
          dsimp only
          rw [if_neg n32]
          by_cases z : inn P = 0
          · have tt : tst = true := by
              cases tst with
              | true => rfl
              | false => exact absurd ⟨z, rfl⟩ hov
            rw [if_pos z, if_pos rfl, tt, if_neg (show ¬ bI true = 0 by decide), e]
          · rw [if_neg z, if_neg (nI_ne1 (by omega)), e]
        have cmE := m_cmp (O := O) (d := d + 3) (u := u) (J := J) hS (show k ≤ 400 by omega) h.2.2.1
        by_cases hc : cmpd P = true
        · rw [if_pos hc] at hx
          rw [← Option.some.inj hx]
          refine ⟨nI 2, I, J, hd2 (y := (nI 2, hp u n T I J R)) ?_, MRs_ok h (MEx.refl _ _ _)⟩
          unfold F_X11_behindSum_j163
          rw [vc_69 hS, cmE, toI_i, Option.bind_some]
          dsimp only
          rw [hc, if_neg (show ¬ bI true = 0 by decide)]
        · rw [if_neg hc] at hx
          have hc' : cmpd P = false := by
            cases hz : cmpd P with
            | true => exact absurd hz hc
            | false => rfl
          have sg : ∀ x, x ≤ 255 → ev O (d + 4) MX11_isSign [.ref 69, .int (nI x)] (hp u n T I J R) = some (some (.int (bI (decide (fT b t k = 3000 + x)))), hp u n T I J R) := fun x hx => m_isSign hS hb h.1.1 hx
          -- with the operator known
          have fin : ∀ v : Int32, ¬ v = 0 → 10 ≤ sgO (fT b t k) → ∃ I' J', F_X11_behindSum_j224 O (d + 4) 69 (nI (sgO (fT b t k) + 15)) v 69 (hp u n T I J R) = some (nI 1, hp u n T I' J' R) ∧ ((toV (vc O (d + 4) 11 MX11_must 69 [.int v] (hp u n T I J R))).bind fun K36 => (gtI K36 69 11 19).bind fun x37 => if x37 = 0 then (toV (vc O (d + 4) 11 MX11_settle 69 [.int (nI 5)] K36)).bind fun K40 => (toV (vc O (d + 4) 11 MX11_push 69 [.int (nI (sgO (fT b t k) + 15)), .int (nI 0)] K40)).bind fun K41 => some (nI 1, K41) else some (nI 1, K36)) = some (nI 1, hp u n T I' J' R) ∧ MRs b t md s0 (.inr (1, k + 1, q, (sgO (fT b t k) + 15, (stl 5 P c).2) :: (stl 5 P c).1, [])) (nI 1) I I' J J' := by
            intro v hv h10
            have hk := hkl (by omega)
            obtain ⟨I1, J1, a1, a2, a3⟩ := m_mustG (O := O) (d := d + 1) (u := u) (v := v) hS hb ht h hk hv
            obtain ⟨I2, I3, b1, b2, b3, b4⟩ := m_joinG (O := O) (d := d + 2) (u := u) (o := sgO (fT b t k) + 15) (l := 5) hS hb ht (by omega) (by omega) (by omega) (by decide) (by decide) (by omega) a2
            refine ⟨I3, J1, ?_, ?_, MRs_ok b3 (a3.trans b4)⟩
            · unfold F_X11_behindSum_j224
              rw [vc_69 hS, a1, toV_v, Option.bind_some, gi_69_19 hS, Option.bind_some, a2.2.1.1, if_pos (show nI 0 = 0 from rfl), vc_69 hS, b1, toV_v, Option.bind_some, vc_69 hS, b2, toV_v, Option.bind_some]
            · rw [vc_69 hS, a1, toV_v, Option.bind_some, gi_69_19 hS, Option.bind_some, a2.2.1.1, if_pos (show nI 0 = 0 from rfl), vc_69 hS, b1, toV_v, Option.bind_some, vc_69 hS, b2, toV_v, Option.bind_some]
          have hd3 : ∀ {y : Int32 × mH}, (if bI (decide (fT b t k = 3060)) = 0 then F_X11_behindSum_j202 O (d + 4) 69 (if bI (decide (fT b t k = 3062)) = 0 then nI 27 else nI 26) (hp u n T I J R) else F_X11_behindSum_j202 O (d + 4) 69 (nI 25) (hp u n T I J R)) = some y → ev O (d + 5) MX11_behindSum [.ref 69, .int (bI tst)] (hp u n T I J R) = some (some (.int y.1), y.2) := by
            intro y e
            apply hd2
            unfold F_X11_behindSum_j163
            rw [vc_69 hS, cmE, toI_i, Option.bind_some]
            dsimp only
            rw [hc', if_pos (show bI false = 0 by decide), vc_69 hS, sg 60 (by decide), toI_i, Option.bind_some]
            dsimp only
            rw [vc_69 hS, sg 62 (by decide), toI_i, Option.bind_some]
            exact e
          by_cases e60 : fT b t k = 3060
          · have so : sgO (fT b t k) = 10 := by rw [e60]; rfl
            rw [if_pos (by omega)] at hx
            obtain ⟨I', J', f1, f2, f3⟩ := fin (nI 1) (by decide) (by omega)
            rw [so] at f1
            refine ⟨nI 1, I', J', hd3 (y := (nI 1, hp u n T I' J' R)) ?_, by rw [← Option.some.inj hx]; exact f3⟩
            rw [decide_eq_true e60, if_neg (show ¬ bI true = 0 by decide)]
            unfold F_X11_behindSum_j202 F_X11_behindSum_j219
            rw [if_neg (show ¬ nI 25 = nI 27 by decide)]
            exact f1
          · by_cases e62 : fT b t k = 3062
            · have so : sgO (fT b t k) = 11 := by rw [e62]; rfl
              rw [if_pos (by omega)] at hx
              obtain ⟨I', J', f1, f2, f3⟩ := fin (nI 1) (by decide) (by omega)
              rw [so] at f1
              refine ⟨nI 1, I', J', hd3 (y := (nI 1, hp u n T I' J' R)) ?_, by rw [← Option.some.inj hx]; exact f3⟩
              rw [decide_eq_false e60, if_pos (show bI false = 0 by decide), decide_eq_true e62, if_neg (show ¬ bI true = 0 by decide)]
              unfold F_X11_behindSum_j202 F_X11_behindSum_j219
              rw [if_neg (show ¬ nI 26 = nI 27 by decide)]
              exact f1
            · have hd4 : ∀ {y : Int32 × mH}, ((toV (vc O (d + 4) 11 MX11_must 69 [.int (if bI (decide (fT b t k = 3061)) = 0 then nI 0 else nI 1)] (hp u n T I J R))).bind fun K36 => (gtI K36 69 11 19).bind fun x37 => if x37 = 0 then (toV (vc O (d + 4) 11 MX11_settle 69 [.int (nI 5)] K36)).bind fun K40 => (toV (vc O (d + 4) 11 MX11_push 69 [.int (nI 27), .int (nI 0)] K40)).bind fun K41 => some (nI 1, K41) else some (nI 1, K36)) = some y → ev O (d + 5) MX11_behindSum [.ref 69, .int (bI tst)] (hp u n T I J R) = some (some (.int y.1), y.2) := by
                intro y e
                apply hd3
                rw [decide_eq_false e60, if_pos (show bI false = 0 by decide), decide_eq_false e62, if_pos (show bI false = 0 by decide)]
                unfold F_X11_behindSum_j202
                rw [if_pos rfl, vc_69 hS, sg 61 (by decide), toI_i, Option.bind_some]
                exact e
              by_cases e61 : fT b t k = 3061
              · have so : sgO (fT b t k) = 12 := by rw [e61]; rfl
                rw [if_pos (by omega)] at hx
                obtain ⟨I', J', f1, f2, f3⟩ := fin (nI 1) (by decide) (by omega)
                rw [so] at f2
                refine ⟨nI 1, I', J', hd4 (y := (nI 1, hp u n T I' J' R)) ?_, by rw [← Option.some.inj hx]; exact f3⟩
                rw [decide_eq_true e61, if_neg (show ¬ bI true = 0 by decide)]
                exact f2
              · have so : ¬ 10 ≤ sgO (fT b t k) := by
                  intro z
                  unfold sgO at z
                  rw [if_neg e60, if_neg e62, if_neg e61] at z
                  repeat' (split at z)
                  all_goals omega
                rw [if_neg so] at hx
                rw [← Option.some.inj hx]
                obtain ⟨I1, a1, a2, a3⟩ := m_mustB (O := O) (d := d + 3) (u := u) (v := nI 0) hS (show k ≤ 400 by omega) h rfl
                refine ⟨nI 1, I1, J, hd4 (y := (nI 1, hp u n T I1 J R)) ?_, MRs_bad a2 a3⟩
                rw [decide_eq_false e61, if_pos (show bI false = 0 by decide), vc_69 hS, a1, toV_v, Option.bind_some, gi_69_19 hS, Option.bind_some, a2.1, if_neg (show ¬ nI 1 = 0 by decide)]
theorem m_behindTest (hS : St n T R) (hb : ∀ k, b k ≤ 255) (ht : t ≤ 400) {tst : Bool} {x : Nat ⊕ CF} (h : MGd b t md s0 k (brk P) k q P c I J) (hx : mSt md tst (fT b t) 2 k q P c = some x) : ∃ v I' J', ev O (d + 5) MX11_behindTest [.ref 69] (hp u n T I J R) = some (some (.int v), hp u n T I' J' R) ∧ MRs b t md s0 x v I I' J J' := by
  have tl := tkN_le (b := b) (t := t)
  have hkT := h.1.2.1
  have hx : (if fT b t k = 2010 then puM 0 (k + 1) q 29 (stl 2 P c) else if fT b t k = 2009 then puM 0 (k + 1) q 30 (stl 1 P c) else if inn P = 0 then some (.inr (4, k, q, P, c)) else if fT b t k = 3041 then shM 2 (k + 1) q (stl 1 P c) else some (.inl k)) = some x := hx
  have wa := m_isWord (O := O) (d := d + 3) (u := u) hS hb ht h.1.1 (w := 10) (x := 1476) (by decide) (by decide)
  have wo := m_isWord (O := O) (d := d + 3) (u := u) hS hb ht h.1.1 (w := 9) (x := 498) (by decide) (by decide)
  have jn : ∀ v1 : Int32, ∀ o l : Nat, (v1 = 0 ∧ o = 30 ∧ l = 1 ∨ ¬ v1 = 0 ∧ o = 29 ∧ l = 2) → k < tkN b t → puM 0 (k + 1) q o (stl l P c) = some x → ∃ I' J', F_X11_behindTest_j22 O (d + 4) 69 v1 (hp u n T I J R) = some (nI 0, hp u n T I' J' R) ∧ MRs b t md s0 x (nI 0) I I' J J' := by
    intro v1 o l hv hk hx
    obtain ⟨I1, a1, a2, a3⟩ := m_settleG (O := O) (d := d + 2) (u := u) (l := l) hS (show k ≤ 400 by omega) (by omega) h
    obtain ⟨I2, I3, b1, b2, b3, b4⟩ := m_andG (O := O) (d := d + 3) (u := u) (o := o) hS (by omega) (show k < 400 by omega) a2
    obtain ⟨I4, J4, c1, c2, c3⟩ := m_nextG (O := O) (d := d + 2) (u := u) hS hb ht b3 hk
    refine ⟨I4, J4, ?_, ?_⟩
    · unfold F_X11_behindTest_j22
      have e1 : (if v1 = 0 then nI 1 else nI 2) = nI l ∧ (if v1 = 0 then nI 30 else nI 29) = nI o := by
        rcases hv with ⟨z1, z2, z3⟩ | ⟨z1, z2, z3⟩
        · rw [if_pos z1, if_pos z1, z2, z3]
          exact ⟨rfl, rfl⟩
        · rw [if_neg z1, if_neg z1, z2, z3]
          exact ⟨rfl, rfl⟩
      rw [e1.1, e1.2, vc_69 hS, a1, toV_v, Option.bind_some, gi_69_23 hS, Option.bind_some, vc_69 hS, b1, toV_v, Option.bind_some, vc_69 hS, b2, toV_v, Option.bind_some, vc_69 hS, c1, toV_v, Option.bind_some]
    · rw [← Option.some.inj hx]
      refine MRs_ok ?_ (a3.trans (b4.trans c3))
      have e : brk ((o, (stl l P c).2) :: (stl l P c).1) = brk P := by
        show brk (stl l P c).1 + (if 31 ≤ o then 1 else 0) = _
        rw [if_neg (by omega), brk_stl (by omega)]
        rfl
      rw [e]
      exact c2
  by_cases ha : fT b t k = 2010
  · rw [if_pos ha] at hx
    obtain ⟨I', J', f1, f2⟩ := jn (bI true) 29 2 (Or.inr ⟨by decide, rfl, rfl⟩) (fT_lt (by omega)) hx
    refine ⟨nI 0, I', J', e_X11_behindTest ?_, f2⟩
    unfold F_X11_behindTest
    rw [vc_69 hS, wa, toI_i, Option.bind_some]
    dsimp only
    rw [decide_eq_true (show mnT b t (plN b t k) = 2000 + 10 from ha), if_neg (show ¬ bI true = 0 by decide), f1]
  · rw [if_neg ha] at hx
    by_cases ho : fT b t k = 2009
    · rw [if_pos ho] at hx
      obtain ⟨I', J', f1, f2⟩ := jn (bI false) 30 1 (Or.inl ⟨by decide, rfl, rfl⟩) (fT_lt (by omega)) hx
      refine ⟨nI 0, I', J', e_X11_behindTest ?_, f2⟩
      unfold F_X11_behindTest
      rw [vc_69 hS, wa, toI_i, Option.bind_some]
      dsimp only
      rw [decide_eq_false (show ¬ mnT b t (plN b t k) = 2000 + 10 from ha), if_pos (show bI false = 0 by decide), vc_69 hS, wo, toI_i, Option.bind_some]
      dsimp only
      rw [decide_eq_true (show mnT b t (plN b t k) = 2000 + 9 from ho), if_neg (show ¬ bI true = 0 by decide), f1]
    · rw [if_neg ho] at hx
      have inE := m_inner (O := O) (d := d + 3) (u := u) (J := J) hS (show k ≤ 400 by omega) h.2.2.1
      have hd : ∀ {y : Int32 × mH}, (if (if inn P = 0 then -1 else nI (inn P)) = (-1 : Int32) then some (nI 4, hp u n T I J R) else (toI (vc O (d + 4) 11 MX11_isSign 69 [.int (nI 41)] (hp u n T I J R))).bind fun p15 => (toV (vc O (d + 4) 11 MX11_must 69 [.int p15.1] p15.2)).bind fun K16 => (gtI K16 69 11 19).bind fun x17 => if x17 = 0 then (toV (vc O (d + 4) 11 MX11_settle 69 [.int (nI 1)] K16)).bind fun K20 => (gtI K20 69 11 29).bind fun x21 => (ptI K20 69 11 29 (x21 - (nI 1))).bind fun K22 => (gtI K22 69 11 30).bind fun x23 => (ptI K22 69 11 30 (x23 - (nI 1))).bind fun K24 => some ((nI 2), K24) else some ((nI 2), K16)) = some y → ev O (d + 5) MX11_behindTest [.ref 69] (hp u n T I J R) = some (some (.int y.1), y.2) := by
        intro y e
        refine e_X11_behindTest ?_
        unfold F_X11_behindTest
        rw [vc_69 hS, wa, toI_i, Option.bind_some]
        dsimp only
        rw [decide_eq_false (show ¬ mnT b t (plN b t k) = 2000 + 10 from ha), if_pos (show bI false = 0 by decide), vc_69 hS, wo, toI_i, Option.bind_some]
        dsimp only
        rw [decide_eq_false (show ¬ mnT b t (plN b t k) = 2000 + 9 from ho), if_pos (show bI false = 0 by decide), vc_69 hS, inE, toI_i, Option.bind_some]
        exact e
      by_cases hi : inn P = 0
      · rw [if_pos hi] at hx
        rw [← Option.some.inj hx]
        refine ⟨nI 4, I, J, hd (y := (nI 4, hp u n T I J R)) ?_, MRs_ok h (MEx.refl _ _ _)⟩
        rw [if_pos hi, if_pos rfl]
      · rw [if_neg hi] at hx
        have i32 := inn_32 P h.2.2.1.2.2.1
        have nn : ¬ (if inn P = 0 then -1 else nI (inn P)) = (-1 : Int32) := by
          rw [if_neg hi]
          exact nI_ne1 (by omega)
        have sg := m_isSign (O := O) (d := d + 3) (u := u) hS hb h.1.1 (c := 41) (by decide)
        by_cases h41 : fT b t k = 3041
        · rw [if_pos h41] at hx
          obtain ⟨I1, J1, a1, a2, a3⟩ := m_mustG (O := O) (d := d + 1) (u := u) (v := bI true) hS hb ht h (fT_lt (by omega)) (by decide)
          obtain ⟨I2, b1, b2⟩ := m_shutG (O := O) (d := d + 2) (u := u) (l := 1) (s := 2) (k' := 0) hS (by decide) (by decide) (by omega) (Nat.le_succ k) a2 hx
          refine ⟨nI 2, _, J1, hd (y := (nI 2, hp u n T (up2 (up2 I2 69 29 (I2 69 29 - nI 1)) 69 30 (I2 69 30 - nI 1)) J1 R)) ?_, ⟨b2.1, b2.2.1, a3.trans b2.2.2⟩⟩
          rw [if_neg nn, vc_69 hS, sg, toI_i, Option.bind_some]
          dsimp only
          rw [decide_eq_true (show mnT b t (plN b t k) = 3000 + 41 from h41), vc_69 hS, a1, toV_v, Option.bind_some, gi_69_19 hS, Option.bind_some, a2.2.1.1, if_pos (show nI 0 = 0 from rfl), vc_69 hS, b1, toV_v, Option.bind_some, gi_69_29 hS, Option.bind_some, pi_69_29 hS, Option.bind_some, gi_69_30 hS, Option.bind_some, up2_nk (by decide), pi_69_30 hS, Option.bind_some]
        · rw [if_neg h41] at hx
          rw [← Option.some.inj hx]
          obtain ⟨I1, a1, a2, a3⟩ := m_mustB (O := O) (d := d + 3) (u := u) (v := bI false) hS (show k ≤ 400 by omega) h (by decide)
          refine ⟨nI 2, I1, J, hd (y := (nI 2, hp u n T I1 J R)) ?_, MRs_bad a2 a3⟩
          rw [if_neg nn, vc_69 hS, sg, toI_i, Option.bind_some]
          dsimp only
          rw [decide_eq_false (show ¬ mnT b t (plN b t k) = 3000 + 41 from h41), vc_69 hS, a1, toV_v, Option.bind_some, gi_69_19 hS, Option.bind_some, a2.1, if_neg (show ¬ nI 1 = 0 by decide)]
end MSR
