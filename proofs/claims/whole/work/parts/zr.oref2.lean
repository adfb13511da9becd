/-! orders: the reference runs them, turn by turn -/
/-- what a run leaves as it is, since the text was read -/
def OMb (I4 I : Nat → Nat → Int32) (J : Nat → Nat → Int64) : Prop := (∀ a, a ≠ 69 → a ≠ 71 → a ≠ 74 → a ≠ 75 → a ≠ 90 → I a = I4 a) ∧ (∀ k, k ≠ 8 → k ≠ 20 → k ≠ 34 → k ≠ 38 → k ≠ 48 → k ≠ 49 → k ≠ 51 → I 69 k = I4 69 k) ∧ I 69 20 = nI 0 ∧ (∀ j, 496 ≤ j → I 74 j = I4 74 j) ∧ Cns J
def OMf (w0 : Nat → Int32) (I4 I : Nat → Nat → Int32) (J : Nat → Nat → Int64) : Prop := OMb I4 I J ∧ Kp w0 (I 71)
def OMl (V F D S N : Nat) (w0 : Nat → Int32) (I4 I : Nat → Nat → Int32) (J : Nat → Nat → Int64) (z : OS) : Prop := OMb I4 I J ∧ I 71 = z.1 ∧ Wf z.1 V F D S N ∧ Kp w0 z.1 ∧ I 69 48 = nI z.2.1 ∧ I 69 49 = z.2.2.1 ∧ MHi (I 69) (I 74) (I 75) z.2.2.2.1 z.2.2.2.2.1
/-- a change of small things -/
theorem OMl_cg {V F D S N : Nat} {w0 : Nat → Int32} {I4 I I' : Nat → Nat → Int32} {J J' : Nat → Nat → Int64} {z : OS} (h : OMl V F D S N w0 I4 I J z) (h1 : ∀ a, a ≠ 69 → I' a = I a) (h2 : ∀ k, k ≠ 20 → k ≠ 38 → k ≠ 51 → I' 69 k = I 69 k) (h3 : I' 69 20 = nI 0) (h4 : ∀ a, a ≠ 69 → a ≠ 88 → a ≠ 89 → J' a = J a) : OMl V F D S N w0 I4 I' J' z := by
  obtain ⟨⟨b1, b2, b3, b4, b5⟩, a1, a2, a3, a4, a5, a6, a7, a8⟩ := h
  refine ⟨⟨fun a q1 q2 q3 q4 q5 => by rw [h1 a q1, b1 a q1 q2 q3 q4 q5], fun k q1 q2 q3 q4 q5 q6 q7 => by rw [h2 k q2 q4 q7, b2 k q1 q2 q3 q4 q5 q6 q7], h3, fun j hj => by rw [h1 74 (by decide), b4 j hj], ?_⟩, by rw [h1 71 (by decide)]; exact a1, a2, a3, by rw [h2 48 (by decide) (by decide) (by decide)]; exact a4, by rw [h2 49 (by decide) (by decide) (by decide)]; exact a5, by rw [h2 8 (by decide) (by decide) (by decide)]; exact a6, a7, fun j hj => by rw [h1 75 (by decide), h1 74 (by decide)]; exact a8 j hj⟩
  unfold Cns
  rw [h4 84 (by decide) (by decide) (by decide), h4 85 (by decide) (by decide) (by decide), h4 86 (by decide) (by decide) (by decide), h4 95 (by decide) (by decide) (by decide)]
  exact b5
section ORG
variable {O : mO} {Lx : Nat} {xs : Nat → Int32} {d u n : Nat} {T : Nat → mT} {I I4 : Nat → Nat → Int32} {J : Nat → Nat → Int64} {R : Nat → Nat → Option Nat} {V F D S N nc c s : Nat} {w0 : Nat → Int32} {x : CL} {z : OS}
/-- the words for a run -/
def ONw (J : Nat → Nat → Int64) (w : Nat → Int32) (D dn : Nat) (la : Int32) : Prop := J 88 1 = (w 6).toInt64 ∧ J 88 2 = (nI dn).toInt64 ∧ J 88 3 = la.toInt64 ∧ J 88 4 = (nI (D - cnt (fun j => w (9 + j)) (-1) D)).toInt64
/-- the sums and the act -/
theorem m_run93 (hO : O = mOl Lx xs) (hS : St n T R) (hc : c < 12) (hR : ClR I4 c s x) (hx : ClO true x) (hs : s + lnM x ≤ nc) (hlc : lnC x ≤ 400) (hCo : OCo I4 nc) (hz : OMl V F D S N w0 I4 I J z) (h51 : I 69 51 = nI 0) (hN : ONw J z.1 D z.2.1 z.2.2.1) : ∃ I' J' v, F_X11_run_j93 O (d + 10) 69 (nI (8 * c)) (hp u n T I J R) = some (v, hp u n T I' J' R) ∧ (oCan O d V F D S N x z = none → v = -3 ∧ OMf w0 I4 I' J') ∧ ∀ z', oCan O d V F D S N x z = some z' → v = nI 0 ∧ OMl V F D S N w0 I4 I' J' z' := by
  have hk3 := hx.1
  obtain ⟨⟨r0, r12, r34⟩, r5, r6, r7, rA⟩ := id hR
  rw [AtH_ap, AtH_ap, List.length_append] at rA
  obtain ⟨⟨A1, A2⟩, A3⟩ := rA
  have lm : lnM x = x.2.2.2.1.length + x.2.2.2.2.2.1.length + x.2.2.2.2.2.2.2.length := rfl
  have lc : lnC x = x.2.2.1.length + x.2.2.2.2.1.length + x.2.2.2.2.2.2.1.length := rfl
  obtain ⟨-, -, -, -, e1, e2, e3⟩ := hx
  -- at any state of this kind the rows and codes are those that were read
  have r96 : ∀ {I J}, OMl V F D S N w0 I4 I J z → I 96 = I4 96 ∧ I 80 = I4 80 ∧ I 81 = I4 81 := fun h => ⟨h.1.1 96 (by decide) (by decide) (by decide) (by decide) (by decide), h.1.1 80 (by decide) (by decide) (by decide) (by decide) (by decide), h.1.1 81 (by decide) (by decide) (by decide) (by decide) (by decide)⟩
  have co : ∀ {I J}, OMl V F D S N w0 I4 I J z → OCo I nc := fun h => ⟨hCo.1, fun k hk => by rw [(r96 h).2.1, (r96 h).2.2]; exact hCo.2 k hk⟩
  -- the first sum
  have one : ∃ I1 J1 v1, ev O (d + 10) MX11_sumOf [.ref 69, .int (nI (8 * c + 1))] (hp u n T I J R) = some (some (.int v1), hp u n T I1 J1 R) ∧ OMl V F D S N w0 I4 I1 J1 z ∧ ONw J1 z.1 D z.2.1 z.2.2.1 ∧ (vOf (oX z.1 D F z.2.1 z.2.2.1) x.2.2.1 = none → I1 69 51 = nI 1) ∧ ∀ y, vOf (oX z.1 D F z.2.1 z.2.2.1) x.2.2.1 = some y → I1 69 51 = nI 0 ∧ (x.1 ≠ 3 → v1 = y) := by
    by_cases k3 : x.1 = 3
    · rw [if_pos k3] at e1 r12
      refine ⟨I, J, -1, m_sumNo (d := d + 9) hS (by omega) (Or.inr ⟨h51, ?_⟩), hz, hN, fun q => ?_, fun y q => ⟨h51, fun q => absurd k3 q⟩⟩
      · rw [(r96 hz).1, r12.1, r12.2]
      · rw [e1.1] at q
        cases q
    · rw [if_neg k3] at e1 r12
      obtain ⟨I1, J1, v1, b1, b2, b3, b4, b5, b6, b7⟩ := m_sumOf (O := O) (d := d + 7) (u := u) (J := J) (I := I) (V := V) (F := F) (S := S) (N := N) (a := 8 * c + 1) (p := s) (c := x.2.2.1) (m := x.2.2.2.1) (ts := false) (dn := z.2.1) (la := z.2.2.1) hS (by rw [hz.2.1]; exact hz.2.2.1) (co hz) (by omega) h51 (by rw [(r96 hz).1]; exact r12.1) (by rw [(r96 hz).1]; exact r12.2) (by rw [(r96 hz).2.1, (r96 hz).2.2]; exact A1) (by omega) e1 (by omega) (by rw [hz.2.1]; exact hN.1) hN.2.1 hN.2.2.1 (by rw [hz.2.1]; exact hN.2.2.2)
      rw [hz.2.1] at b2 b3
      have j88 : J1 88 = J 88 := b7 88 (by decide) (by decide)
      refine ⟨I1, J1, v1, b1, OMl_cg hz b4 b5 b6 (fun a q1 _ q3 => b7 a q1 q3), ?_, b2, fun y q => ⟨(b3 y q).1, fun _ => (b3 y q).2⟩⟩
      unfold ONw
      rw [j88]
      exact hN
  obtain ⟨I1, J1, v1, o1, o2, o3, o4, o5⟩ := one
  have oE : oCan O d V F D S N x z = (vOf (oX z.1 D F z.2.1 z.2.2.1) x.2.2.1).bind fun a => (vOf (oX z.1 D F z.2.1 z.2.2.1) x.2.2.2.2.1).bind fun b => oDo O d V F D S N x z a b := rfl
  have hd : ∀ {y : Int32 × mH}, ((toI (ev O (d + 10) MX11_sumOf [.ref 69, .int (nI (8 * c + 3))] (hp u n T I1 J1 R))).bind fun p21 => (gtI p21.2 69 11 51).bind fun x22 => if x22 = 0 then (gtA p21.2 69 11 47).bind fun x24 => (rdI O p21.2 x24 (nI (8 * c))).bind fun x25 => (toI (vc O (d + 10) 11 MX11_act 69 [.int x25, .int v1, .int p21.1] p21.2)).bind fun p26 => if 0 ≤ p26.1 then (gtA p26.2 69 11 47).bind fun x28 => (rdI O p26.2 x28 (nI (8 * c))).bind fun x29 => if x29 = 0 then F_X11_run_j160 O (d + 10) 69 p26.1 69 p26.2 else (gtI p26.2 69 11 49).bind fun x32 => F_X11_run_j160 O (d + 10) 69 x32 69 p26.2 else some ((-3), p26.2) else some ((-3), p21.2)) = some y → F_X11_run_j93 O (d + 10) 69 (nI (8 * c)) (hp u n T I J R) = some y := by
    intro y e
    unfold F_X11_run_j93
    rw [nI_add, vc_69 hS, o1, toI_i, Option.bind_some]
    dsimp only
    rw [nI_add, vc_69 hS]
    exact e
  cases ea : vOf (oX z.1 D F z.2.1 z.2.2.1) x.2.2.1 with
  | none =>
    have q51 := o4 ea
    rw [oE, ea]
    refine ⟨I1, J1, -3, hd (y := (-3, hp u n T I1 J1 R)) ?_, fun _ => ⟨rfl, o2.1, by rw [o2.2.1]; exact o2.2.2.2.1⟩, (fun z' q => by cases q)⟩
    rw [m_sumNo (d := d + 9) hS (by omega) (Or.inl q51), toI_i, Option.bind_some]
    dsimp only
    rw [gi_69_51 hS, Option.bind_some, q51, if_neg (show ¬ nI 1 = 0 by decide)]
  | some a =>
    obtain ⟨q51, q1⟩ := o5 a ea
    rw [oE, ea, Option.bind_some]
    -- the second sum
    have two : ∃ I2 J2 v2, ev O (d + 10) MX11_sumOf [.ref 69, .int (nI (8 * c + 3))] (hp u n T I1 J1 R) = some (some (.int v2), hp u n T I2 J2 R) ∧ OMl V F D S N w0 I4 I2 J2 z ∧ (vOf (oX z.1 D F z.2.1 z.2.2.1) x.2.2.2.2.1 = none → I2 69 51 = nI 1) ∧ ∀ y, vOf (oX z.1 D F z.2.1 z.2.2.1) x.2.2.2.2.1 = some y → I2 69 51 = nI 0 ∧ (x.1 = 1 → v2 = y) := by
      by_cases k1 : x.1 = 1
      · rw [if_pos ⟨rfl, k1⟩] at e2
        rw [if_pos k1] at r34
        obtain ⟨I2, J2, v2, b1, b2, b3, b4, b5, b6, b7⟩ := m_sumOf (O := O) (d := d + 7) (u := u) (J := J1) (I := I1) (V := V) (F := F) (S := S) (N := N) (a := 8 * c + 3) (p := s + x.2.2.2.1.length) (c := x.2.2.2.2.1) (m := x.2.2.2.2.2.1) (ts := false) (dn := z.2.1) (la := z.2.2.1) hS (by rw [o2.2.1]; exact o2.2.2.1) (co o2) (by omega) q51 (by rw [(r96 o2).1]; exact r34.1) (by rw [(r96 o2).1]; exact r34.2) (by rw [(r96 o2).2.1, (r96 o2).2.2]; exact A2) (by omega) e2 (by omega) (by rw [o2.2.1]; exact o3.1) o3.2.1 o3.2.2.1 (by rw [o2.2.1]; exact o3.2.2.2)
        rw [o2.2.1] at b2 b3
        exact ⟨I2, J2, v2, b1, OMl_cg o2 b4 b5 b6 (fun a q1 _ q3 => b7 a q1 q3), b2, fun y q => ⟨(b3 y q).1, fun _ => (b3 y q).2⟩⟩
      · rw [if_neg (fun q => k1 q.2)] at e2
        rw [if_neg k1] at r34
        refine ⟨I1, J1, -1, m_sumNo (d := d + 9) hS (by omega) (Or.inr ⟨q51, ?_⟩), o2, fun q => ?_, fun y q => ⟨q51, fun q => absurd q k1⟩⟩
        · rw [(r96 o2).1, r34.1, r34.2]
        · rw [e2.1] at q
          cases q
    obtain ⟨I2, J2, v2, t1, t2, t3, t4⟩ := two
    cases eb : vOf (oX z.1 D F z.2.1 z.2.2.1) x.2.2.2.2.1 with
    | none =>
      have p51 := t3 eb
      refine ⟨I2, J2, -3, hd (y := (-3, hp u n T I2 J2 R)) ?_, fun _ => ⟨rfl, t2.1, by rw [t2.2.1]; exact t2.2.2.2.1⟩, (fun z' q => by cases q)⟩
      rw [t1, toI_i, Option.bind_some]
      dsimp only
      rw [gi_69_51 hS, Option.bind_some, p51, if_neg (show ¬ nI 1 = 0 by decide)]
    | some b =>
      obtain ⟨p51, q2⟩ := t4 b eb
      rw [Option.bind_some]
      obtain ⟨⟨b1, b2, b3, b4, b5⟩, a1, hW, hK, a4, a5, a6, a7, a8⟩ := id t2
      obtain ⟨⟨aw, ak, ar⟩, -, aM⟩ := oAct_s (O := O) (d := d) (S := S) (N := N) (kk := x.1) (a := a) (b := b) hO hW hk3
      unfold oDo
      generalize oAct O d z.1 V F D S N x.1 a b = p at aw ak ar aM ⊢
      obtain ⟨I3, J3, n1, n2, n3, n4⟩ := aM u n T I2 J2 R z.2.2.2.2.1 hS a1 b3 a6 a7
      have act : ev O (d + 10) MX11_act [.ref 69, .int (nI x.1), .int v1, .int v2] (hp u n T I2 J2 R) = some (some (.int p.1), hp u n T I3 J3 R) := by
        refine e_X11_act ?_
        unfold F_X11_act
        have n1' := ev_up n1 2
        rcases (show x.1 = 0 ∨ x.1 = 1 ∨ x.1 = 2 ∨ x.1 = 3 by omega) with k | k | k | k
        · have va : v1 = a := q1 (by omega)
          rw [k] at n1' ⊢
          rw [if_pos rfl, va, vc_69 hS]
          have n1' : ev O (d + 9) MX11_renewNow [.ref 69, .int a] (hp u n T I2 J2 R) = some (some (.int p.1), hp u n T I3 J3 R) := n1'
          rw [n1', toI_i, Option.bind_some]
        · have va : v1 = a := q1 (by omega)
          have vb : v2 = b := q2 k
          rw [k] at n1' ⊢
          rw [if_neg (show ¬ nI 1 = nI 0 by decide), if_pos rfl, va, vb, vc_69 hS]
          have n1' : ev O (d + 9) MX11_lodgeNow [.ref 69, .int a, .int b] (hp u n T I2 J2 R) = some (some (.int p.1), hp u n T I3 J3 R) := n1'
          rw [n1', toI_i, Option.bind_some]
        · have va : v1 = a := q1 (by omega)
          rw [k] at n1' ⊢
          rw [if_neg (show ¬ nI 2 = nI 0 by decide), if_neg (show ¬ nI 2 = nI 1 by decide), if_pos rfl, va, vc_69 hS]
          have n1' : ev O (d + 9) MX11_knockNow [.ref 69, .int a] (hp u n T I2 J2 R) = some (some (.int p.1), hp u n T I3 J3 R) := n1'
          rw [n1', toI_i, Option.bind_some]
        · rw [k] at n1' ⊢
          rw [if_neg (show ¬ nI 3 = nI 0 by decide), if_neg (show ¬ nI 3 = nI 1 by decide), if_neg (show ¬ nI 3 = nI 2 by decide), vc_69 hS]
          have n1' : ev O (d + 9) MX11_passNow [.ref 69] (hp u n T I2 J2 R) = some (some (.int p.1), hp u n T I3 J3 R) := n1'
          rw [n1', toI_i, Option.bind_some]
      obtain ⟨m1, m2, m3, m4, m5⟩ := n2
      have i96 : I3 96 = I4 96 := by rw [n3 96 (by decide) (by decide) (by decide) (by decide) (by decide), (r96 t2).1]
      have hd2 : ∀ {y : Int32 × mH}, (if 0 ≤ p.1 then if nI x.1 = 0 then F_X11_run_j160 O (d + 10) 69 p.1 69 (hp u n T I3 J3 R) else (gtI (hp u n T I3 J3 R) 69 11 49).bind fun x32 => F_X11_run_j160 O (d + 10) 69 x32 69 (hp u n T I3 J3 R) else some ((-3), hp u n T I3 J3 R)) = some y → F_X11_run_j93 O (d + 10) 69 (nI (8 * c)) (hp u n T I J R) = some y := by
        intro y e
        apply hd
        rw [t1, toI_i, Option.bind_some]
        dsimp only
        rw [gi_69_51 hS, Option.bind_some, p51, if_pos (show nI 0 = 0 from rfl), ga_69_47 hS, Option.bind_some, rd_96 hS (by omega), Option.bind_some, (r96 t2).1, r0, vc_69 hS, act, toI_i, Option.bind_some]
        dsimp only
        rw [ga_69_47 hS, Option.bind_some, rd_96 hS (by omega), Option.bind_some, i96, r0]
        exact e
      have bf : OMb I4 I3 J3 ∨ True := Or.inr trivial
      have cj : Cns J3 := Cns_J b5 m4
      have e20 : I3 69 20 = nI 0 := by rw [n4 20 (by decide) (by decide) (by decide)]; exact b3
      have fr1 : ∀ a, a ≠ 69 → a ≠ 71 → a ≠ 74 → a ≠ 75 → a ≠ 90 → I3 a = I4 a := fun a q1 q2 q3 q4 q5 => by rw [n3 a q1 q2 q3 q4 q5, b1 a q1 q2 q3 q4 q5]
      have fr2 : ∀ k, k ≠ 8 → k ≠ 20 → k ≠ 34 → k ≠ 38 → k ≠ 48 → k ≠ 49 → k ≠ 51 → I3 69 k = I4 69 k := fun k q1 q2 q3 q4 q5 q6 q7 => by rw [n4 k q1 q3 q4, b2 k q1 q2 q3 q4 q5 q6 q7]
      by_cases hp0 : 0 ≤ p.1
      · rw [if_pos hp0]
        have hlt : ¬ p.1 < 0 := Int32.not_lt.mpr hp0
        rcases m5 with ⟨y1, -⟩ | ⟨-, Ia, Ib, y1, y2, y3, y4, y5, y6, y7, y8⟩
        · exact absurd y1 hlt
        have f74 : ∀ j, 496 ≤ j → I3 74 j = I4 74 j := fun j hj => by rw [y7, y5.2.2.2.2.2.2 j hj, y3, b4 j hj]
        have hM : MHi (I3 69) (I3 74) (I3 75) (oPu x.1 z.1 z.2.2.2.1) (min 16 (z.2.2.2.2.1 + 1)) := by
          have := MHi_push (U := z.2.2.2.1) (k := x.1) (I := Ia) (I' := Ib) (s := z.2.2.2.2.1) ⟨by rw [y2]; exact a6, a7, by rw [y3, y4]; exact a8⟩ y5
          rw [y1, a1] at this
          obtain ⟨g1, g2, g3⟩ := this
          exact ⟨by rw [y6]; exact g1, g2, by rw [y7, y8]; exact g3⟩
        let la' : Int32 := if x.1 = 0 then p.1 else z.2.2.1
        let I6 : Nat → Nat → Int32 := up2 (up2 I3 69 49 la') 69 48 (nI (z.2.1 + 1))
        have o6 : ∀ a, a ≠ 69 → I6 a = I3 a := fun a ha => by
          show up2 (up2 I3 69 49 la') 69 48 (nI (z.2.1 + 1)) a = _
          rw [up2_off _ _ _ ha, up2_off _ _ _ ha]
        have o69 : ∀ k, k ≠ 48 → k ≠ 49 → I6 69 k = I3 69 k := fun k k1 k2 => by
          show up2 (up2 I3 69 49 la') 69 48 (nI (z.2.1 + 1)) 69 k = _
          rw [up2_nk k1, up2_nk k2]
        have e48 : I3 69 48 = nI z.2.1 := by rw [n4 48 (by decide) (by decide) (by decide)]; exact a4
        have e49 : I3 69 49 = z.2.2.1 := by rw [n4 49 (by decide) (by decide) (by decide)]; exact a5
        refine ⟨I6, J3, nI 0, hd2 (y := (nI 0, hp u n T I6 J3 R)) ?_, (fun q => by cases q), fun z' q => ?_⟩
        · rw [if_pos hp0]
          unfold F_X11_run_j160
          by_cases k00 : x.1 = 0
          · rw [if_pos (show nI x.1 = 0 by rw [k00]; rfl), pi_69_49 hS, Option.bind_some, gi_69_48 hS, Option.bind_some, up2_nk (by decide), e48, nI_add, pi_69_48 hS, Option.bind_some]
            show some (nI 0, hp u n T (up2 (up2 I3 69 49 p.1) 69 48 (nI (z.2.1 + 1))) J3 R) = some (nI 0, hp u n T (up2 (up2 I3 69 49 (if x.1 = 0 then p.1 else z.2.2.1)) 69 48 (nI (z.2.1 + 1))) J3 R)
            rw [if_pos k00]
          · rw [if_neg (show ¬ nI x.1 = 0 from fun q => k00 ((nI_eq (b := 0) (by omega) (by omega)).mp q)), gi_69_49 hS, Option.bind_some, e49, pi_69_49 hS, Option.bind_some, gi_69_48 hS, Option.bind_some, up2_nk (by decide), e48, nI_add, pi_69_48 hS, Option.bind_some]
            show some (nI 0, hp u n T (up2 (up2 I3 69 49 z.2.2.1) 69 48 (nI (z.2.1 + 1))) J3 R) = some (nI 0, hp u n T (up2 (up2 I3 69 49 (if x.1 = 0 then p.1 else z.2.2.1)) 69 48 (nI (z.2.1 + 1))) J3 R)
            rw [if_neg k00]
        · cases q
          refine ⟨rfl, ⟨fun a q1 q2 q3 q4 q5 => by rw [o6 a q1, fr1 a q1 q2 q3 q4 q5], fun k q1 q2 q3 q4 q5 q6 q7 => by rw [o69 k q5 q6, fr2 k q1 q2 q3 q4 q5 q6 q7], by rw [o69 20 (by decide) (by decide)]; exact e20, fun j hj => by rw [o6 74 (by decide), f74 j hj], cj⟩, by rw [o6 71 (by decide)]; exact m1, aw, hK.trans ak, up2_at _ _ _ _, ?_, ?_⟩
          · show up2 (up2 I3 69 49 la') 69 48 (nI (z.2.1 + 1)) 69 49 = _
            rw [up2_nk (by decide), up2_at]
          · obtain ⟨g1, g2, g3⟩ := hM
            exact ⟨by rw [o69 8 (by decide) (by decide)]; exact g1, g2, by rw [o6 74 (by decide), o6 75 (by decide)]; exact g3⟩
      · rw [if_neg hp0]
        have hlt : p.1 < 0 := Int32.not_le.mp hp0
        have w'E : p.2 = z.1 := by
          rcases ar with ⟨m, hm, e⟩ | ⟨-, e⟩
          · rw [e] at hlt
            exact absurd hlt (nI_pos hm)
          · exact e
        rcases m5 with ⟨-, y1, y2, y3⟩ | ⟨y1, -⟩
        · refine ⟨I3, J3, -3, hd2 (y := (-3, hp u n T I3 J3 R)) (by rw [if_neg hp0]), fun _ => ⟨rfl, ⟨fr1, fr2, e20, fun j hj => by rw [y2, b4 j hj], cj⟩, by rw [m1, w'E]; exact hK⟩, (fun z' q => by cases q)⟩
        · exact absurd y1 hp0
theorem m_run (hO : O = mOl Lx xs) (hS : St n T R) (hc : c < 12) (hR : ClR I4 c s x) (hx : ClO true x) (hs : s + lnM x ≤ nc) (hlc : lnC x ≤ 400) (hCo : OCo I4 nc) (hz : OMl V F D S N w0 I4 I J z) : ∃ I' J' v, ev O (d + 11) MX11_run [.ref 69, .int (nI (8 * c))] (hp u n T I J R) = some (some (.int v), hp u n T I' J' R) ∧ (oStp O d V F D S N x z = none → v = -3 ∧ OMf w0 I4 I' J') ∧ ∀ z', oStp O d V F D S N x z = some z' → v = nI 0 ∧ OMl V F D S N w0 I4 I' J' z' := by
  obtain ⟨⟨b1, b2, b3, b4, b5⟩, a1, hW, hK, a4, a5, a6⟩ := id hz
  obtain ⟨⟨v5, f4, d8, s8, n6⟩, ⟨w0', w1, w2, w3, w4⟩, -⟩ := id hW
  let J1 : Nat → Nat → Int64 := up2 (up2 (up2 (up2 J 88 1 (z.1 6).toInt64) 88 2 (nI z.2.1).toInt64) 88 3 z.2.2.1.toInt64) 88 4 (nI (D - cnt (fun j => z.1 (9 + j)) (-1) D)).toInt64
  have oj : ∀ a, a ≠ 88 → J1 a = J a := fun a ha => by
    show up2 (up2 (up2 (up2 J 88 1 (z.1 6).toInt64) 88 2 (nI z.2.1).toInt64) 88 3 z.2.2.1.toInt64) 88 4 (nI (D - cnt (fun j => z.1 (9 + j)) (-1) D)).toInt64 a = _
    rw [up2_off _ _ _ ha, up2_off _ _ _ ha, up2_off _ _ _ ha, up2_off _ _ _ ha]
  have hN : ONw J1 z.1 D z.2.1 z.2.2.1 := by
    refine ⟨?_, ?_, ?_, up2_at _ _ _ _⟩
    · show up2 (up2 (up2 (up2 J 88 1 (z.1 6).toInt64) 88 2 (nI z.2.1).toInt64) 88 3 z.2.2.1.toInt64) 88 4 (nI (D - cnt (fun j => z.1 (9 + j)) (-1) D)).toInt64 88 1 = _
      rw [up2_nk (by decide), up2_nk (by decide), up2_nk (by decide), up2_at]
    · show up2 (up2 (up2 (up2 J 88 1 (z.1 6).toInt64) 88 2 (nI z.2.1).toInt64) 88 3 z.2.2.1.toInt64) 88 4 (nI (D - cnt (fun j => z.1 (9 + j)) (-1) D)).toInt64 88 2 = _
      rw [up2_nk (by decide), up2_nk (by decide), up2_at]
    · show up2 (up2 (up2 (up2 J 88 1 (z.1 6).toInt64) 88 2 (nI z.2.1).toInt64) 88 3 z.2.2.1.toInt64) 88 4 (nI (D - cnt (fun j => z.1 (9 + j)) (-1) D)).toInt64 88 3 = _
      rw [up2_nk (by decide), up2_at]
  have hz1 : OMl V F D S N w0 I4 (up2 I 69 51 (nI 0)) J1 z := OMl_cg hz (fun a ha => up2_off _ _ _ ha) (fun k _ _ h => up2_nk h) (by rw [up2_nk (by decide)]; exact b3) (fun a _ h _ => oj a h)
  have e51 : up2 I 69 51 (nI 0) 69 51 = nI 0 := up2_at _ _ _ _
  obtain ⟨⟨r0, r12, r34⟩, r5, r6, r7, rA⟩ := id hR
  rw [AtH_ap, AtH_ap, List.length_append] at rA
  obtain ⟨⟨A1, A2⟩, A3⟩ := rA
  have lm : lnM x = x.2.2.2.1.length + x.2.2.2.2.2.1.length + x.2.2.2.2.2.2.2.length := rfl
  have lc : lnC x = x.2.2.1.length + x.2.2.2.2.1.length + x.2.2.2.2.2.2.1.length := rfl
  have hnc := hCo.1
  have i96 : up2 I 69 51 (nI 0) 96 = I4 96 := by rw [up2_off _ _ _ (by decide), b1 96 (by decide) (by decide) (by decide) (by decide) (by decide)]
  have i80 : up2 I 69 51 (nI 0) 80 = I4 80 := by rw [up2_off _ _ _ (by decide), b1 80 (by decide) (by decide) (by decide) (by decide) (by decide)]
  have i81 : up2 I 69 51 (nI 0) 81 = I4 81 := by rw [up2_off _ _ _ (by decide), b1 81 (by decide) (by decide) (by decide) (by decide) (by decide)]
  have hd : ∀ {y : Int32 × mH}, (if nI (s + lnM x) ≤ nI (s + x.2.2.2.1.length + x.2.2.2.2.2.1.length) then F_X11_run_j93 O (d + 10) 69 (nI (8 * c)) (hp u n T (up2 I 69 51 (nI 0)) J1 R) else (toI (ev O (d + 10) MX11_sumOf [.ref 69, .int (nI (8 * c + 5))] (hp u n T (up2 I 69 51 (nI 0)) J1 R))).bind fun p36 => (gtI p36.2 69 11 51).bind fun x37 => if x37 = 0 then if p36.1 = 0 then some ((nI 0), p36.2) else F_X11_run_j93 O (d + 10) 69 (nI (8 * c)) p36.2 else some ((nI 0), p36.2)) = some y → ev O (d + 11) MX11_run [.ref 69, .int (nI (8 * c))] (hp u n T I J R) = some (some (.int y.1), y.2) := by
    intro y e
    refine e_X11_run ?_
    have ins := v_insideNow (O := O) (u := u) (n := n) (T := T) (I := I) (R := R) (d := d + 9) (D := D) (J := up2 (up2 (up2 J 88 1 (z.1 6).toInt64) 88 2 (nI z.2.1).toInt64) 88 3 z.2.2.1.toInt64) hS (by rw [a1]; exact w2) d8
    rw [a1] at ins
    unfold F_X11_run
    rw [ga_69_36 hS, Option.bind_some, ga_69_3 hS, Option.bind_some, rd_71 hS (by decide), Option.bind_some, a1, wr_88 hS (by decide), Option.bind_some, ga_69_36 hS, Option.bind_some, gi_69_48 hS, Option.bind_some, a4, wr_88 hS (by decide), Option.bind_some, ga_69_36 hS, Option.bind_some, gi_69_49 hS, Option.bind_some, a5, wr_88 hS (by decide), Option.bind_some, ga_69_36 hS, Option.bind_some, vc_69 hS, ins, toI_i, Option.bind_some]
    dsimp only
    rw [wr_88 hS (by decide), Option.bind_some, pi_69_51 hS, Option.bind_some, ga_69_47 hS, Option.bind_some, nI_add, rd_96 hS (by omega), Option.bind_some, i96, r5, Option.bind_some, nI_add, rd_96 hS (by omega), Option.bind_some, i96, r6, vc_69 hS]
    exact e
  unfold oStp
  by_cases hm3 : x.2.2.2.2.2.2.2 = []
  · -- no test
    have hc3 : x.2.2.2.2.2.2.1 = [] := by
      rcases hx.2.2.2.2.2.2 with q | q
      · exact absurd hm3 q.2.1
      · exact q.1
    rw [hc3, vOf_nil, if_pos (show (some (nI 1)).getD (nI 0) = nI 1 from rfl)]
    obtain ⟨I', J', v, f1, f2, f3⟩ := m_run93 (O := O) (d := d) (u := u) hO hS hc hR hx hs hlc hCo hz1 e51 hN
    refine ⟨I', J', v, hd (y := (v, hp u n T I' J' R)) ?_, f2, f3⟩
    have l0 : x.2.2.2.2.2.2.2.length = 0 := by rw [hm3]; rfl
    rw [if_pos (nI_le (by omega) (by omega)), f1]
  · have hE : ExO true true x.2.2.2.2.2.2.1 x.2.2.2.2.2.2.2 := by
      rcases hx.2.2.2.2.2.2 with q | q
      · exact q
      · exact absurd q.2 hm3
    have ml : 0 < x.2.2.2.2.2.2.2.length := List.length_pos_iff.mpr hm3
    have nle : ¬ nI (s + lnM x) ≤ nI (s + x.2.2.2.1.length + x.2.2.2.2.2.1.length) := fun q => absurd ((nI_leI (by omega) (by omega)).mp q) (by omega)
    obtain ⟨I2, J2, v2, t1, t2, t3, t4, t5, t6, t7⟩ := m_sumOf (O := O) (d := d + 7) (u := u) (J := J1) (I := up2 I 69 51 (nI 0)) (V := V) (F := F) (S := S) (N := N) (nc := nc) (a := 8 * c + 5) (p := s + x.2.2.2.1.length + x.2.2.2.2.2.1.length) (c := x.2.2.2.2.2.2.1) (m := x.2.2.2.2.2.2.2) (ts := true) (dn := z.2.1) (la := z.2.2.1) hS (by rw [hz1.2.1]; exact hW) ⟨hCo.1, fun k hk => by rw [i80, i81]; exact hCo.2 k hk⟩ (by omega) e51 (by rw [i96]; exact r5) (by rw [i96, show 8 * c + 5 + 1 = 8 * c + 6 by omega, r6]; exact congrArg nI (by omega)) (by rw [i80, i81, Nat.add_assoc]; exact A3) (by omega) hE (by omega) (by rw [hz1.2.1]; exact hN.1) hN.2.1 hN.2.2.1 (by rw [hz1.2.1]; exact hN.2.2.2)
    rw [hz1.2.1] at t2 t3
    have hz2 := OMl_cg hz1 t4 t5 t6 (fun a q1 _ q3 => t7 a q1 q3)
    have hN2 : ONw J2 z.1 D z.2.1 z.2.2.1 := by
      unfold ONw
      rw [t7 88 (by decide) (by decide)]
      exact hN
    have hd2 : ∀ {y : Int32 × mH}, ((gtI (hp u n T I2 J2 R) 69 11 51).bind fun x37 => if x37 = 0 then if v2 = 0 then some ((nI 0), hp u n T I2 J2 R) else F_X11_run_j93 O (d + 10) 69 (nI (8 * c)) (hp u n T I2 J2 R) else some ((nI 0), hp u n T I2 J2 R)) = some y → ev O (d + 11) MX11_run [.ref 69, .int (nI (8 * c))] (hp u n T I J R) = some (some (.int y.1), y.2) := by
      intro y e
      apply hd
      rw [if_neg nle, t1, toI_i, Option.bind_some]
      exact e
    have lfx : LfR true (oX z.1 D F z.2.1 z.2.2.1) (lfF true (fun _ => 0) (J1 88) z.1 D F) := oX_lf hN.1 hN.2.1 hN.2.2.1 hN.2.2.2
    obtain ⟨hh, hh1, -, -, hts⟩ := ExO_v hE (by omega) lfx
    cases ev' : vOf (oX z.1 D F z.2.1 z.2.2.1) x.2.2.2.2.2.2.1 with
    | none =>
      rw [if_neg (show ¬ (none : Option Int32).getD (nI 0) = nI 1 by decide)]
      refine ⟨I2, J2, nI 0, hd2 (y := (nI 0, hp u n T I2 J2 R)) ?_, (fun q => by cases q), fun z' q => ?_⟩
      · rw [gi_69_51 hS, Option.bind_some, t2 ev', if_neg (show ¬ nI 1 = 0 by decide)]
      · cases q
        exact ⟨rfl, hz2⟩
    | some y =>
      obtain ⟨q51, qv⟩ := t3 y ev'
      rcases hts rfl y ev' with e | e
      · subst e
        rw [if_neg (show ¬ (some (nI 0)).getD (nI 0) = nI 1 from by show ¬ nI 0 = nI 1; decide)]
        refine ⟨I2, J2, nI 0, hd2 (y := (nI 0, hp u n T I2 J2 R)) ?_, (fun q => by cases q), fun z' q => ?_⟩
        · rw [gi_69_51 hS, Option.bind_some, q51, if_pos (show nI 0 = 0 from rfl), qv, if_pos (show nI 0 = 0 from rfl)]
        · cases q
          exact ⟨rfl, hz2⟩
      · subst e
        rw [if_pos (show (some (nI 1)).getD (nI 0) = nI 1 from rfl)]
        obtain ⟨I', J', v, f1, f2, f3⟩ := m_run93 (O := O) (d := d) (u := u) hO hS hc hR hx hs hlc hCo hz2 q51 hN2
        refine ⟨I', J', v, hd2 (y := (v, hp u n T I' J' R)) ?_, f2, f3⟩
        rw [gi_69_51 hS, Option.bind_some, q51, if_pos (show nI 0 = 0 from rfl), qv, if_neg (show ¬ nI 1 = 0 by decide), f1]
end ORG
