/-! orders: the reference runs them -/
theorem TxR_co {Im : Nat → Nat → Int32} : ∀ (L : List CL) (c0 s0 : Nat), TxM ClR Im c0 s0 L → (∀ x, x ∈ L → ClO true x) → s0 + (lnL L).2 ≤ 400 → ∀ k, s0 ≤ k → k < s0 + (lnL L).2 → ∃ o a, Im 80 k = nI o ∧ Im 81 k = nI a ∧ o ≤ 30 ∧ a ≤ 1000 ∧ (o < 20 → o ≤ 6)
  | [], c0, s0, _, _, _, k, h1, h2 => absurd h2 (by show ¬ k < s0 + 0; omega)
  | x :: L, c0, s0, h, hx, hl, k, h1, h2 => by
    have h2 : k < s0 + (lnM x + (lnL L).2) := h2
    have hl : s0 + (lnM x + (lnL L).2) ≤ 400 := hl
    by_cases e : k < s0 + lnM x
    · have hO := hx x (List.mem_cons_self ..)
      obtain ⟨m1, m2, m3, o1, o2, o3⟩ := ClO_M hO
      obtain ⟨y, y1, y2, y3⟩ := AtH_el _ _ k h.1.2.2.2.2 h1 (by rw [List.length_append, List.length_append]; exact e)
      have ok : y.1 ≤ 30 ∧ y.2 ≤ 1000 ∧ (20 ≤ y.1 → y.2 ≤ 400) ∧ (y.1 < 20 → y.1 ≤ 6) := by
        rcases List.mem_append.mp y1 with z | z
        · rcases List.mem_append.mp z with z | z
          · exact m1 y z
          · exact m2 y z
        · exact m3 y z
      refine ⟨y.1, _, y2, y3, ok.1, ?_, ok.2.2.2⟩
      split
      · have := ok.2.2.1 (by omega)
        omega
      · exact ok.2.1
    · exact TxR_co L (c0 + 1) (s0 + lnM x) h.2 (fun y hy => hx y (List.mem_cons_of_mem _ hy)) (by omega) k (by omega) (by omega)
section ORF
variable {O : mO} {d u n : Nat} {T : Nat → mT} {I : Nat → Nat → Int32} {J : Nat → Nat → Int64} {R : Nat → Nat → Option Nat} {V F D S N nc : Nat}
/-- the codes are sound up to nc -/
def OCo (I : Nat → Nat → Int32) (nc : Nat) : Prop := nc ≤ 400 ∧ ∀ k, k < nc → ∃ o a, I 80 k = nI o ∧ I 81 k = nI a ∧ o ≤ 30 ∧ a ≤ 1000 ∧ (o < 20 → o ≤ 6)
theorem i64_3b (y : Int32) : y.toInt64.toInt32 = y := Int32.toInt32_toInt64 y
/-- a sum or test of orders -/
theorem m_sumOf (hS : St n T R) (hw : Wf (I 71) V F D S N) (hC : OCo I nc) {a p dn : Nat} {la : Int32} {ts : Bool} {c m : GC} (ha : a + 1 < 96) (h51 : I 69 51 = nI 0) (hp1 : I 96 a = nI p) (hp2 : I 96 (a + 1) = nI (p + m.length)) (hA : AtH (I 80) (I 81) p m) (hn : p + m.length ≤ nc) (hE : ExO true ts c m) (hcl : c.length ≤ 400) (j1 : J 88 1 = (I 71 6).toInt64) (j2 : J 88 2 = (nI dn).toInt64) (j3 : J 88 3 = la.toInt64) (j4 : J 88 4 = (nI (D - cnt (fun j => I 71 (9 + j)) (-1) D)).toInt64) : ∃ I' J' v, ev O (d + 3) MX11_sumOf [.ref 69, .int (nI a)] (hp u n T I J R) = some (some (.int v), hp u n T I' J' R) ∧ (vOf (oX (I 71) D F dn la) c = none → I' 69 51 = nI 1) ∧ (∀ y, vOf (oX (I 71) D F dn la) c = some y → I' 69 51 = nI 0 ∧ v = y) ∧ (∀ a, a ≠ 69 → I' a = I a) ∧ (∀ k, k ≠ 20 → k ≠ 38 → k ≠ 51 → I' 69 k = I 69 k) ∧ I' 69 20 = nI 0 ∧ ∀ a, a ≠ 69 → a ≠ 89 → J' a = J a := by
  obtain ⟨hnc, hco⟩ := hC
  obtain ⟨⟨v5, f4, d8, s8, n6⟩, ⟨w0, w1, w2, w3, w4⟩, -⟩ := id hw
  have ml : 0 < m.length := List.length_pos_iff.mpr hE.2.1
  have hL := oX_lf (F := F) (S := J 87) (Y := J 88) j1 j2 j3 j4
  obtain ⟨hh, hh1, -, hM, -⟩ := ExO_v hE hcl hL
  have okM := hE.2.2.2.2
  have hAm : AtM (fun k => (I 80 k).toNatClampNeg) (fun k => (I 81 k).toNatClampNeg) p m := AtH_M m p hA (fun x hx => ⟨(okM x hx).1, (okM x hx).2.1⟩) (by omega) (fun k _ _ => ⟨rfl, rfl⟩)
  have hrk := rk_all (Z := J 89) hM (by omega) hAm (by omega)
  have hRk : RkH (up2 I 69 20 (nI 1)) 69 true 110 (p + m.length) D F (fun k => (I 80 k).toNatClampNeg) (fun k => (I 81 k).toNatClampNeg) := by
    refine ⟨up2_at _ _ _ _, (fun z => by cases z), by decide, by omega, by rw [up2_na (by decide)]; exact w2, d8, by rw [up2_na (by decide)]; exact w1, f4, fun k hk => ?_⟩
    obtain ⟨o, b, e1, e2, e3, e4, e5⟩ := hco k (by omega)
    have c1 : (I 80 k).toNatClampNeg = o := by rw [e1, cl_nI (by omega)]
    have c2 : (I 81 k).toNatClampNeg = b := by rw [e2, cl_nI (by omega)]
    refine ⟨by show (I 80 k).toNatClampNeg ≤ 30; rw [c1]; exact e3, by show (I 81 k).toNatClampNeg ≤ 1000; rw [c2]; exact e4, fun z => ?_, (fun z => by cases z), fun _ => ?_⟩
    · have z : (I 80 k).toNatClampNeg < 20 := z
      show (I 80 k).toNatClampNeg ≤ 6
      rw [c1] at z ⊢
      exact e5 z
    · show up2 I 69 20 (nI 1) 80 k = nI (I 80 k).toNatClampNeg ∧ up2 I 69 20 (nI 1) 81 k = nI (I 81 k).toNatClampNeg
      rw [up2_na (by decide), up2_na (by decide), c1, c2]
      exact ⟨e1, e2⟩
  have hrk' : rk (fun k => (I 80 k).toNatClampNeg) (fun k => (I 81 k).toNatClampNeg) (lfF true (J (69 + 18)) (J (69 + 19)) (up2 I 69 20 (nI 1) (69 + 2)) D F) (p + m.length) 401 p 0 (J (69 + 20)) = some ((vOf (oX (I 71) D F dn la) c).map Int32.toInt64) := by
    have e71 : up2 I 69 20 (nI 1) (69 + 2) = I 71 := up2_off _ _ _ (by decide)
    rw [e71]
    exact hrk
  obtain ⟨r, K1, h1, h2, X', v', h3, h4⟩ := Rn_ev (k_reckonAll (O := O) (d := d) (u := u) (first := p) (G := 401) (St_M hS) hS.2.1 hRk (by omega) hrk')
  subst h2 h4
  generalize hval : vOf (oX (I 71) D F dn la) c = val at *
  have iso : (val.map Int32.toInt64).isNone = val.isNone := by cases val <;> rfl
  rw [iso] at h1
  let I3 : Nat → Nat → Int32 := up2 (up2 (up2 (up2 I 69 20 (nI 1)) 69 38 (bI val.isNone)) 69 20 (nI 0)) 69 51 (bI val.isNone)
  refine ⟨I3, up2 (up1 J 89 X') 69 39 v', v'.toInt32, e_X11_sumOf ?_, fun z => ?_, fun y z => ⟨?_, ?_⟩, fun a ha => ?_, fun k k1 k2 k3 => ?_, ?_, fun a a1 a2 => by rw [up2_off _ _ _ a1, up1_ne _ _ a2]⟩
  · unfold F_X11_sumOf
    have ne : ¬ nI p = nI (p + m.length) := fun z => absurd ((nI_eq (by omega) (by omega)).mp z) (by omega)
    have jv : up2 (up1 J 89 X') 69 39 v' 69 39 = v' := up2_at _ _ _ _
    rw [gi_69_51 hS, Option.bind_some, h51, if_pos (show nI 0 = 0 from rfl), ga_69_47 hS, Option.bind_some, rd_96 hS (by omega), Option.bind_some, hp1, Option.bind_some, nI_add, rd_96 hS ha, Option.bind_some, hp2, if_neg ne, pi_69_20 hS, Option.bind_some, ga_69_47 hS, Option.bind_some, rd_96 hS (by omega), Option.bind_some, up2_na (by decide), hp1, Option.bind_some, rd_96 hS ha, Option.bind_some, up2_na (by decide), hp2, vc_69 hS, h1, toV_v, Option.bind_some, pi_69_20 hS, Option.bind_some, gi_69_38 hS, Option.bind_some, up2_nk (by decide), up2_at, zz_b, Option.bind_some, pi_69_51 hS, Option.bind_some, gj_69_39 hS, Option.bind_some, jv]
  · show up2 (up2 (up2 (up2 I 69 20 (nI 1)) 69 38 (bI val.isNone)) 69 20 (nI 0)) 69 51 (bI val.isNone) 69 51 = _
    rw [up2_at, z]
    rfl
  · show up2 (up2 (up2 (up2 I 69 20 (nI 1)) 69 38 (bI val.isNone)) 69 20 (nI 0)) 69 51 (bI val.isNone) 69 51 = _
    rw [up2_at, z]
    rfl
  · rw [h3 y.toInt64 (by rw [z]; rfl), i64_3b]
  · show up2 (up2 (up2 (up2 I 69 20 (nI 1)) 69 38 (bI val.isNone)) 69 20 (nI 0)) 69 51 (bI val.isNone) a = _
    rw [up2_off _ _ _ ha, up2_off _ _ _ ha, up2_off _ _ _ ha, up2_off _ _ _ ha]
  · show up2 (up2 (up2 (up2 I 69 20 (nI 1)) 69 38 (bI val.isNone)) 69 20 (nI 0)) 69 51 (bI val.isNone) 69 k = _
    rw [up2_nk k3, up2_nk k1, up2_nk k2, up2_nk k1]
  · show up2 (up2 (up2 (up2 I 69 20 (nI 1)) 69 38 (bI val.isNone)) 69 20 (nI 0)) 69 51 (bI val.isNone) 69 20 = _
    rw [up2_nk (by decide), up2_at]
theorem m_sumNo (hS : St n T R) {a : Nat} (ha : a + 1 < 96) (h : I 69 51 = nI 1 ∨ I 69 51 = nI 0 ∧ I 96 a = I 96 (a + 1)) : ev O (d + 1) MX11_sumOf [.ref 69, .int (nI a)] (hp u n T I J R) = some (some (.int (-1)), hp u n T I J R) := by
  refine e_X11_sumOf ?_
  unfold F_X11_sumOf
  rcases h with h | ⟨h, e⟩
  · rw [gi_69_51 hS, Option.bind_some, h, if_neg (show ¬ nI 1 = 0 by decide)]
  · rw [gi_69_51 hS, Option.bind_some, h, if_pos (show nI 0 = 0 from rfl), ga_69_47 hS, Option.bind_some, rd_96 hS (by omega), Option.bind_some, Option.bind_some, nI_add, rd_96 hS ha, Option.bind_some, if_pos e]
theorem m_giveBack (hS : St n T R) {hv : Int32} : ∃ I', ev O (d + 2) MX11_giveBack [.ref 69, .int hv] (hp u n T I J R) = some (none, hp u n T I' J R) ∧ (∀ a, a ≠ 69 → a ≠ 71 → a ≠ 74 → a ≠ 75 → I' a = I a) ∧ (∀ i, i < 31 → I' 71 (6 + i) = I 74 (527 + i)) ∧ (∀ j, j < 6 ∨ 37 ≤ j → I' 71 j = I 71 j) ∧ (∀ j, j < 496 → I' 74 j = I 76 j) ∧ (∀ j, j < 16 → I' 75 j = I 77 j) ∧ I' 69 8 = hv ∧ ∀ k, k ≠ 8 → I' 69 k = I 69 k := by
  obtain ⟨I1, e1, a1, a2, a3⟩ := v_putBack (O := O) (d := d) (u := u) (J := J) (I := I) (k := 17) hS (by decide)
  obtain ⟨r1, f1, I2, rfl, b1, b2⟩ := lup_P0 (f := fun (q : Int32 × mH) => F_X11_giveBack_l8 O (d + 1) 69 hv q.1 q.2) (s0 := (nI 0, hp u n T I1 J R)) (fun m s => ∃ I2, s = (nI m, hp u n T I2 J R) ∧ (∀ a, a ≠ 74 → I2 a = I1 a) ∧ ∀ j, j < m → I2 74 j = I1 76 j) (fun r => ∃ I2, r = hp u n T I2 J R ∧ (∀ a, a ≠ 74 → I2 a = I1 a) ∧ ∀ j, j < 496 → I2 74 j = I1 76 j) (N := 496) (by decide) ⟨I1, rfl, fun _ _ => rfl, fun j hj => absurd hj (Nat.not_lt_zero j)⟩ (by
    intro m s hm ⟨I2, hs, b1, b2⟩
    subst hs
    left
    refine ⟨(nI (m + 1), hp u n T (up2 I2 74 m (I1 76 m)) J R), ?_, _, rfl, fun a ha => by rw [up2_off _ _ _ ha]; exact b1 a ha, fun j hj => ?_⟩
    · dsimp only
      unfold F_X11_giveBack_l8
      rw [if_neg (nI_ge hm (by decide)), ga_69_6 hS, Option.bind_some, ga_69_9 hS, Option.bind_some, rd_76 hS hm, Option.bind_some, b1 76 (by decide), wr_74 hS (by omega), Option.bind_some, nI_add]
    · by_cases e : j = m
      · rw [e, up2_at]
      · rw [up2_nk e]
        exact b2 j (by omega)) (by
    intro s ⟨I2, hs, b1, b2⟩
    subst hs
    refine ⟨_, ?_, I2, rfl, b1, b2⟩
    dsimp only
    unfold F_X11_giveBack_l8
    rw [if_pos (by decide)])
  obtain ⟨r2, f2, I3, rfl, c1, c2⟩ := lup_P0 (f := fun (q : Int32 × mH) => F_X11_giveBack_l35 O (d + 1) 69 hv q.1 q.2) (s0 := (nI 0, hp u n T I2 J R)) (fun m s => ∃ I3, s = (nI m, hp u n T I3 J R) ∧ (∀ a, a ≠ 75 → I3 a = I2 a) ∧ ∀ j, j < m → I3 75 j = I2 77 j) (fun r => ∃ I3, r = hp u n T I3 J R ∧ (∀ a, a ≠ 75 → I3 a = I2 a) ∧ ∀ j, j < 16 → I3 75 j = I2 77 j) (N := 16) (by decide) ⟨I2, rfl, fun _ _ => rfl, fun j hj => absurd hj (Nat.not_lt_zero j)⟩ (by
    intro m s hm ⟨I3, hs, b1, b2⟩
    subst hs
    left
    refine ⟨(nI (m + 1), hp u n T (up2 I3 75 m (I2 77 m)) J R), ?_, _, rfl, fun a ha => by rw [up2_off _ _ _ ha]; exact b1 a ha, fun j hj => ?_⟩
    · dsimp only
      unfold F_X11_giveBack_l35
      rw [if_neg (nI_ge hm (by decide)), ga_69_7 hS, Option.bind_some, ga_69_10 hS, Option.bind_some, rd_77 hS hm, Option.bind_some, b1 77 (by decide), wr_75 hS (by omega), Option.bind_some, nI_add]
    · by_cases e : j = m
      · rw [e, up2_at]
      · rw [up2_nk e]
        exact b2 j (by omega)) (by
    intro s ⟨I3, hs, b1, b2⟩
    subst hs
    refine ⟨_, ?_, I3, rfl, b1, b2⟩
    dsimp only
    unfold F_X11_giveBack_l35
    rw [if_pos (by decide)])
  refine ⟨up2 I3 69 8 hv, e_X11_giveBack ?_, fun a h1 h2 h3 h4 => by rw [up2_off _ _ _ h1, c1 a h4, b1 a h3, a1 a h2], fun i hi => by rw [up2_na (by decide), c1 71 (by decide), b1 71 (by decide)]; exact a2 i hi, fun j hj => by rw [up2_na (by decide), c1 71 (by decide), b1 71 (by decide)]; exact a3 j hj, fun j hj => by rw [up2_na (by decide), c1 74 (by decide), b2 j hj, a1 76 (by decide)], fun j hj => by rw [up2_na (by decide), c2 j hj, b1 77 (by decide), a1 77 (by decide)], up2_at _ _ _ _, fun k hk => by rw [up2_nk hk, c1 69 (by decide), b1 69 (by decide), a1 69 (by decide)]⟩
  unfold F_X11_giveBack
  rw [vc_69 hS, e1, toV_v, Option.bind_some, f1, Option.bind_some, f2, Option.bind_some, pi_69_8 hS, Option.bind_some]
end ORF
