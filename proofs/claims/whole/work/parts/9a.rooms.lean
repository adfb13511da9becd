/-! calls: rooms -/
theorem oI_inj {a b : Option Nat} (h1 : Bd 1000000 a) (h2 : Bd 1000000 b) : oI a = oI b ↔ a = b := by
  constructor
  · intro h
    cases a with
    | none =>
      cases b with
      | none => rfl
      | some y => exact absurd h.symm (nI_ne1 (by have := h2 y rfl; omega))
    | some x =>
      have x1 := h1 x rfl
      cases b with
      | none => exact absurd h (nI_ne1 (by omega))
      | some y =>
        have y1 := h2 y rfl
        have : x = y := (nI_eq (by omega) (by omega)).mp h
        rw [this]
  · intro h
    rw [h]
theorem bsG_w (w : Nat → Int32) : bsG w false = gnW (rmI w) := by
  funext d v
  unfold bsG gnW rmI
  rw [if_neg (by decide)]
theorem bsT_w (w : Nat → Int32) (V D d : Nat) : bsT w V D false d = btW V (bsB w D) (bsL w false) (rmI w) (D - d) d := by
  funext f
  unfold bsT
  rw [bsG_w]
section RMS
variable {O : mO} {c d u n : Nat} {T : Nat → mT} {I : Nat → Nat → Int32} {J : Nat → Nat → Int64} {R : Nat → Nat → Option Nat} {V F D S N k : Nat} {K : mH}
/-- the beds that are free -/
theorem m_rfree {a1 : Int32} (hS : St n T R) (hw : Wf (I 71) V F D S N) : lupF (fun (q : Int32 × Int32 × mH) => F_X11_rooms_l34 O (d + 1) 69 a1 q.1 q.2.1 q.2.2) FU (nI 0, nI 0, hp u n T I J R) = some (nI (rmf (I 71) V D), hp u n T I J R) := by
  have h8 := hw.1
  refine lup_0 (fun v => (nI (csN (fun v => rmB (I 71) D v * 4 ^ v) (2 ^ V - 1) v), nI v, hp u n T I J R)) (N := V) (by omega) rfl (fun v hv => ?_) ?_
  · have fr := v_freeIn (O := O) (d := d) (u := u) (J := J) (I := I) (k := v) hS hw.2.1.2.2.1 h8.2.2.1 (by omega)
    obtain ⟨b, eb, b1, b2, b4⟩ := hw.2.2.2.1.2.2.2.2.2.2 v hv
    have eb : I 71 (37 + v) = nI b := eb
    have pb : pkB (I 71) v = b := by unfold pkB; rw [nv_n eb (by omega)]
    rw [eb, nI_sub b4] at fr
    have er : b - cnt (fun j => I 71 (9 + j)) (nI v) D = rmB (I 71) D v := by unfold rmB; rw [pb]
    rw [er] at fr
    have b3 : rmB (I 71) D v < 4 := by unfold rmB; rw [pb]; omega
    dsimp only
    unfold F_X11_rooms_l34
    rw [ga_69_3 hS, Option.bind_some, rd_71 hS (by omega), Option.bind_some, hw.2.1.1, if_neg (nI_ge hv (by omega)), vc_69 hS, fr, toI_i, Option.bind_some]
    dsimp only
    rw [shl_all _ b3 v (by omega), nI_add, nI_add, csN_s, Nat.testBit_two_pow_sub_one, decide_eq_true hv, if_pos rfl]
  · dsimp only
    unfold F_X11_rooms_l34
    rw [ga_69_3 hS, Option.bind_some, rd_71 hS (by omega), Option.bind_some, hw.2.1.1, if_pos (nI_le (Nat.le_refl V) (by omega))]
    rfl
/-- the first vault that is as good as any -/
theorem m_first {a1 : Int32} {f : Nat} (hS : St n T R) (hw : Wf (I 71) V F D S N) (hb : ∀ i v, i < D → v < V → I 93 (5 * i + v) = bI (bsB (I 71) D i v)) (ht : TbR I (I 71) V D false 0) (hk : k < D) (hf : f < 1024) : lupF (fun (q : Int32 × mH) => F_X11_rooms_l122 O (d + 2) 69 a1 (nI f) (nI k) q.1 q.2) FU (nI 0, hp u n T I J R) = some (nI ((fsV (fun v => decide (bnF (btW V (bsB (I 71) D) (bsL (I 71) false) (rmI (I 71)) (D - (k + 1)) (k + 1)) (bsB (I 71) D k) (gnW (rmI (I 71)) k) f v = btW V (bsB (I 71) D) (bsL (I 71) false) (rmI (I 71)) (D - (k + 1) + 1) k f)) V).getD V), hp u n T I J R) := by
  have h8 := hw.1
  have tb := ht k f (Nat.zero_le k) (by omega) hf
  have ek : D - (k + 1) + 1 = D - k := by omega
  have bd1 : ∀ v, Bd 1000000 (bnF (bsT (I 71) V D false (k + 1)) (bsB (I 71) D k) (bsG (I 71) false k) f v) := fun v => (bnF_bd (fun f => bsT_bd h8.2.2.1 (k + 1) f) (bsG_le (I 71) false k) f v).mono (by decide)
  have bd2 : Bd 1000000 (bsT (I 71) V D false k f) := (bsT_bd h8.2.2.1 k f).mono (by decide)
  have pe : ∀ v, decide (bnF (btW V (bsB (I 71) D) (bsL (I 71) false) (rmI (I 71)) (D - (k + 1)) (k + 1)) (bsB (I 71) D k) (gnW (rmI (I 71)) k) f v = btW V (bsB (I 71) D) (bsL (I 71) false) (rmI (I 71)) (D - (k + 1) + 1) k f) = decide (oI (bnF (bsT (I 71) V D false (k + 1)) (bsB (I 71) D k) (bsG (I 71) false k) f v) = oI (bsT (I 71) V D false k f)) := by
    intro v
    rw [ek, ← bsT_w, ← bsT_w, ← bsG_w]
    exact decide_eq_decide.mpr (oI_inj (bd1 v) bd2).symm
  generalize hp' : (fun v => decide (bnF (btW V (bsB (I 71) D) (bsL (I 71) false) (rmI (I 71)) (D - (k + 1)) (k + 1)) (bsB (I 71) D k) (gnW (rmI (I 71)) k) f v = btW V (bsB (I 71) D) (bsL (I 71) false) (rmI (I 71)) (D - (k + 1) + 1) k f)) = p
  have pe' : ∀ v, p v = decide (oI (bnF (bsT (I 71) V D false (k + 1)) (bsB (I 71) D k) (bsG (I 71) false k) f v) = oI (bsT (I 71) V D false k f)) := fun v => by rw [← hp']; exact pe v
  have LL : ∃ z, lupF (fun (q : Int32 × mH) => F_X11_rooms_l122 O (d + 2) 69 a1 (nI f) (nI k) q.1 q.2) FU (nI 0, hp u n T I J R) = some z ∧ (fun z => z = (nI ((fsV p V).getD V), hp u n T I J R)) z := by
    refine lup_P0 (fun v z => z = (nI v, hp u n T I J R) ∧ ∀ q, q < v → p q = false) _ (N := V) (by omega) ⟨rfl, fun q hq => absurd hq (Nat.not_lt_zero q)⟩ ?_ ?_
    · intro v z hv ⟨hz, no⟩
      subst hz
      have top : ∀ z, (if oI (bnF (bsT (I 71) V D false (k + 1)) (bsB (I 71) D k) (bsG (I 71) false k) f v) = oI (bsT (I 71) V D false k f) then some (.inr (nI v, hp u n T I J R)) else some (.inl (nI v + nI 1, hp u n T I J R))) = z → F_X11_rooms_l122 O (d + 2) 69 a1 (nI f) (nI k) (nI v) (hp u n T I J R) = z := by
        intro z hz
        unfold F_X11_rooms_l122
        rw [ga_69_3 hS, Option.bind_some, rd_71 hS (by omega), Option.bind_some, hw.2.1.1, if_neg (nI_ge hv (by omega)), vc_69 hS, show nI 0 = bI false from rfl, m_bestIn hS hw hb hk hv hf (fun j f h1 h2 h3 => ht j f (Nat.zero_le j) h2 h3), toI_i, Option.bind_some]
        dsimp only
        rw [ga_69_43 hS, Option.bind_some, nI_mul, nI_add, rd_92 hS (by omega), Option.bind_some, tb]
        exact hz
      cases hpv : p v with
      | true =>
        right
        have hpv' := hpv
        rw [pe'] at hpv'
        refine ⟨_, top _ (by rw [if_pos (of_decide_eq_true hpv')]), ?_⟩
        obtain ⟨f1, f2⟩ := fsV_all p V
        cases hs : fsV p V with
        | none =>
          rw [f2 hs v hv] at hpv
          cases hpv
        | some q =>
          obtain ⟨g1, g2, g3⟩ := f1 q hs
          have : q = v := by
            rcases Nat.lt_trichotomy q v with lt | eq | gt
            · rw [no q lt] at g2
              cases g2
            · exact eq
            · rw [g3 v gt] at hpv
              cases hpv
          rw [this]
          rfl
      | false =>
        left
        have hpv' := hpv
        rw [pe'] at hpv'
        refine ⟨_, top _ (by rw [if_neg (of_decide_eq_false hpv')]), by rw [nI_add], fun q hq => ?_⟩
        by_cases e : q = v
        · rw [e]
          exact hpv
        · exact no q (by omega)
    · intro z ⟨hz, no⟩
      subst hz
      refine ⟨_, ?_, rfl⟩
      have hs : fsV p V = none := by
        cases hs : fsV p V with
        | none => rfl
        | some q =>
          obtain ⟨g1, g2, g3⟩ := (fsV_all p V).1 q hs
          rw [no q g1] at g2
          cases g2
      rw [hs]
      dsimp only
      unfold F_X11_rooms_l122
      rw [ga_69_3 hS, Option.bind_some, rd_71 hS (by omega), Option.bind_some, hw.2.1.1, if_pos (nI_le (Nat.le_refl V) (by omega))]
      rfl
  obtain ⟨z, e, rfl⟩ := LL
  exact e
/-- what is answered of one -/
def rmA (w : Nat → Int32) (V D k : Nat) : Int32 := if bsL w false k = true then (if rmy w V D k < V then nI (rmy w V D k) else nI 100) else -1
theorem m_walk {q : Nat} (hS : St n T R) (hw : Wf (I 71) V F D S N) (hb : ∀ i v, i < D → v < V → I 93 (5 * i + v) = bI (bsB (I 71) D i v)) (ht : TbR I (I 71) V D false 0) (hq : q < D) : lupF (fun (z : Int32 × Int32 × Int32 × mH) => F_X11_rooms_l100 O (d + 2) 69 (nI (q + 2)) z.1 z.2.1 z.2.2.1 z.2.2.2) FU (nI (rmf (I 71) V D), -1, nI 0, hp u n T I J R) = some (rmA (I 71) V D q, hp u n T I J R) := by
  have h8 := hw.1
  obtain ⟨f1, -⟩ := rmf_bl hw
  have ylt : ∀ k, yst V (bsB (I 71) D) (bsL (I 71) false) (rmI (I 71)) D (rmf (I 71) V D) k < 1024 := by
    intro k
    induction k with
    | zero => exact f1
    | succ k ih =>
      rw [yst_s]
      split
      · exact Nat.lt_of_le_of_lt (Nat.sub_le _ _) ih
      · exact ih
  refine lup_0 (fun k => (nI (yst V (bsB (I 71) D) (bsL (I 71) false) (rmI (I 71)) D (rmf (I 71) V D) k), (if k = 0 then -1 else rmA (I 71) V D (k - 1)), nI k, hp u n T I J R)) (N := q + 1) (by omega) rfl (fun k hk => ?_) ?_
  · dsimp only
    unfold F_X11_rooms_l100
    rw [nI_sub (by omega), show q + 2 - 2 = q by omega, if_neg (fun z => absurd ((nI_ltI (by omega) (by omega)).mp z) (by omega)), vc_69 hS, v_isIn hS (by omega), toI_i, Option.bind_some, if_neg (show ¬ k + 1 = 0 by omega), show k + 1 - 1 = k by omega]
    dsimp only
    have ot := ot_t (I 71) k
    have ys := yst_s (V := V) (bar := bsB (I 71) D) (ot := bsL (I 71) false) (wi := rmI (I 71)) (D := D) (rmf (I 71) V D) k
    have yk := ylt k
    by_cases hin : I 71 (9 + k) = -1
    · have ho : bsL (I 71) false k = true := by rw [ot, decide_eq_true hin]
      have ey : rmy (I 71) V D k = yC V (bsB (I 71) D) (bsL (I 71) false) (rmI (I 71)) (D - (k + 1)) k (yst V (bsB (I 71) D) (bsL (I 71) false) (rmI (I 71)) D (rmf (I 71) V D) k) := by
        unfold rmy yv
        rw [if_pos ho]
      generalize hyf : yst V (bsB (I 71) D) (bsL (I 71) false) (rmI (I 71)) D (rmf (I 71) V D) k = f at *
      have fst := m_first (O := O) (d := d) (u := u) (J := J) (a1 := nI (q + 2)) hS hw hb ht (show k < D by omega) yk
      have ec : yC V (bsB (I 71) D) (bsL (I 71) false) (rmI (I 71)) (D - (k + 1)) k f = (fsV (fun v => decide (bnF (btW V (bsB (I 71) D) (bsL (I 71) false) (rmI (I 71)) (D - (k + 1)) (k + 1)) (bsB (I 71) D k) (gnW (rmI (I 71)) k) f v = btW V (bsB (I 71) D) (bsL (I 71) false) (rmI (I 71)) (D - (k + 1) + 1) k f)) V).getD 5 := rfl
      obtain ⟨g1, g2⟩ := fsV_all (fun v => decide (bnF (btW V (bsB (I 71) D) (bsL (I 71) false) (rmI (I 71)) (D - (k + 1)) (k + 1)) (bsB (I 71) D k) (gnW (rmI (I 71)) k) f v = btW V (bsB (I 71) D) (bsL (I 71) false) (rmI (I 71)) (D - (k + 1) + 1) k f)) V
      rw [if_pos (by rw [decide_eq_false (fun z => z hin)]; rfl), fst, Option.bind_some]
      dsimp only
      unfold F_X11_rooms_j165 rmA
      rw [ga_69_3 hS, Option.bind_some, rd_71 hS (by omega), Option.bind_some, Option.bind_some, rd_71 hS (by omega), Option.bind_some, hw.2.1.1, if_pos ho, ys, ey, ec]
      cases hs : fsV (fun v => decide (bnF (btW V (bsB (I 71) D) (bsL (I 71) false) (rmI (I 71)) (D - (k + 1)) (k + 1)) (bsB (I 71) D k) (gnW (rmI (I 71)) k) f v = btW V (bsB (I 71) D) (bsL (I 71) false) (rmI (I 71)) (D - (k + 1) + 1) k f)) V with
      | some v =>
        obtain ⟨v1, v2, -⟩ := g1 v hs
        have nv' : ¬ nI V ≤ nI v := nI_ge v1 (by omega)
        have hle : 4 ^ v ≤ f := by
          have v2 := of_decide_eq_true v2
          obtain ⟨b, hb'⟩ := btW_y (V := V) (bar := bsB (I 71) D) (ot := bsL (I 71) false) (wi := rmI (I 71)) (D - (k + 1) + 1) k f
          have nn : bnF (btW V (bsB (I 71) D) (bsL (I 71) false) (rmI (I 71)) (D - (k + 1)) (k + 1)) (bsB (I 71) D k) (gnW (rmI (I 71)) k) f v ≠ none := by rw [v2, hb']; simp
          exact bl_ge (bnF_n.mp nn).2.1
        show some (Sum.inl (nI f - (if nI V ≤ nI v then nI 0 else nI 1 <<< ((nI 2 * nI v) &&& 31)), (if nI V ≤ nI v then nI 100 else nI v), nI k + nI 1, hp u n T I J R)) = some (Sum.inl (nI (if bsL (I 71) false k = true ∧ v < V then f - 4 ^ v else f), (if v < V then nI v else nI 100), nI (k + 1), hp u n T I J R))
        rw [if_neg nv', if_neg nv', if_pos ⟨ho, v1⟩, if_pos v1, sh4 v (by omega), nI_sub hle, nI_add]
      | none =>
        have le : nI V ≤ nI V := Int32.le_refl _
        show some (Sum.inl (nI f - (if nI V ≤ nI V then nI 0 else nI 1 <<< ((nI 2 * nI V) &&& 31)), (if nI V ≤ nI V then nI 100 else nI V), nI k + nI 1, hp u n T I J R)) = some (Sum.inl (nI (if bsL (I 71) false k = true ∧ 5 < V then f - 4 ^ 5 else f), (if 5 < V then nI 5 else nI 100), nI (k + 1), hp u n T I J R))
        rw [if_pos le, if_pos le, if_neg (fun z => by omega), if_neg (by omega), nI_sub (Nat.zero_le f), Nat.sub_zero, nI_add]
    · have ho : bsL (I 71) false k = false := by rw [ot, decide_eq_false hin]
      rw [if_neg (by rw [decide_eq_true hin]; exact nbt), ys, if_neg (fun z => by rw [ho] at z; cases z.1), nI_add]
      unfold rmA
      rw [ho]
      rfl
  · dsimp only
    unfold F_X11_rooms_l100
    rw [nI_sub (by omega), show q + 2 - 2 = q by omega, if_pos ((nI_ltI (by omega) (by omega)).mpr (by omega)), if_neg (by omega), show q + 1 - 1 = q by omega]
theorem b_rooms {a1 : Int32} (hI : Inv c K) : Bo O Inv MX10_rooms MX11_rooms [.int a1] c K := by
  obtain ⟨u, n, T, I, J, R, g, h, V, F, D, S, N, x, s, rfl, hI⟩ := hI
  obtain ⟨hS, hn, gg, hh, hG, hH, hw, hgd, hg⟩ := Iv_all hI
  obtain ⟨⟨v5, f4, d8, s8, n6⟩, ⟨w0, w1, w2, w3, w4⟩, hf, hs, hfam, hwi, hsn, hlw⟩ := hw
  obtain ⟨⟨c1, c2, c3, c4, c5, c6, c7, c8, c9, c10, c11, c12⟩, q1, q2, q3, q4, q5, q6, q7, q8, q9, q10, q11, ql⟩ := hgd
  obtain ⟨⟨b1, b2, b3, b4, b5⟩, b6, b7, b8, b9, b10⟩ := hI.2.2.2.2.2.2.2.1
  have hJ := hI.2.2.2.2.2.2.2.2.2
  have hu := hI.2.2.2.2.1
  have hw := hI.2.2.1
  have hgd := hI.2.2.2.1
  have h1D : (1 : Int64) + (nI D).toInt64 = (nI (1 + D)).toInt64 := by
    apply Int64.toInt_inj.mp
    rw [j_add (by rw [i64_n (by omega), show (1 : Int64).toInt = 1 by decide]; omega) (by rw [i64_n (by omega), show (1 : Int64).toInt = 1 by decide]; omega), i64_n (by omega), i64_n (by omega), show (1 : Int64).toInt = 1 by decide]
    omega
  have vin : ∀ (K : mH), ev O 199 MX11_in [.long a1.toInt64, .long 0, .long (1 + (nI D).toInt64)] K = some (some (.int (bI (rg a1 0 (1 + D)))), K) := fun K => v_inL (by decide) h1D (by decide) (by omega)
  have no : F_X10_rooms O 199 0 a1 (hp u n T I J R) = some (-1, hp u n T I J R) → F_X11_rooms O 199 69 a1 (hp u n T I J R) = some (-1, hp u n T (up2 I 69 0 (nI 0)) J R) → Bo O Inv MX10_rooms MX11_rooms [.int a1] c (hp u n T I J R) := fun h1 h2 => Bo_i (u1 := u) (J1 := J) (J2 := J) (e_X10_rooms (d := 199) h1) hS (e_X11_rooms (d := 199) h2) (Iv_thr hI (nI 0)).e
  rcases arg_0 a1 (hi := 1 + D) (by omega) with ⟨q, hq, rfl⟩ | ⟨hb5, hb2⟩
  · obtain ⟨I1, J1, e1, a1', a2', y12, y13, y11⟩ := c_plan (O := O) (d := 192) (u := u) (J := J) hS hgd hw
    have i71 : up2 I1 69 0 (nI 0) 71 = I 71 := by rw [up2_off _ _ _ (by decide)]; exact a1' 71 (by decide) (by decide) (by decide) (by decide) (by decide) (by decide) (by decide) (by decide) (by decide) (by decide)
    have i69 : I1 69 = I 69 := a1' 69 (by decide) (by decide) (by decide) (by decide) (by decide) (by decide) (by decide) (by decide) (by decide) (by decide)
    obtain ⟨I2, J2, e3, p1, p2, p3, p4, p5⟩ := m_layBest (O := O) (d := 192) (u := u) (J := J1) (I := up2 I1 69 0 (nI 0)) false hS (by rw [up2_nk (by decide), i69]; exact b5) (by rw [i71]; exact hw)
    have j71 : I2 71 = I 71 := (p1 71 (by decide) (by decide) (by decide)).trans i71
    rw [i71] at p4 p5
    have hw2 : Wf (I2 71) V F D S N := by rw [j71]; exact hw
    have p4' : ∀ i v, i < D → v < V → I2 93 (5 * i + v) = bI (bsB (I2 71) D i v) := by rw [j71]; exact p4
    have p5' : TbR I2 (I2 71) V D false 0 := by rw [j71]; exact p5
    have e4 := m_rfree (O := O) (d := 198) (u := u) (J := J2) (I := I2) (a1 := nI q) hS hw2
    rw [j71] at e4
    obtain ⟨f1, f2⟩ := rmf_bl hw
    -- the table's first place
    obtain ⟨-, b, i2, i3, -⟩ := cho_best (V := V) (bar := bsB (I 71) D) (ot := bsL (I 71) false) (wi := rmI (I 71)) (D := D) v5 (rmf (I 71) V D) D 0 (by omega)
    have wl := gW_le (V := V) (ot := bsL (I 71) false) (x := rmy (I 71) V D) (rmI_le (I 71)) D 0
    have i3 : 1000 * gL V (bsL (I 71) false) (rmy (I 71) V D) D 0 + gW V (bsL (I 71) false) (rmI (I 71)) (rmy (I 71) V D) D 0 = b := i3
    have tb := p5 0 (rmf (I 71) V D) (Nat.le_refl 0) (Nat.zero_le D) f1
    rw [Nat.mul_zero, Nat.zero_add, bsT_w, Nat.sub_zero, show btW V (bsB (I 71) D) (bsL (I 71) false) (rmI (I 71)) D 0 (rmf (I 71) V D) = some b from i2] at tb
    have bb := bsT_bd (w := I 71) (V := V) (all := false) d8 0 (rmf (I 71) V D) b (by rw [bsT_w, Nat.sub_zero]; exact i2)
    have tb : I2 92 (rmf (I 71) V D) = nI b := tb
    -- both answers
    refine Bo_rd (a := if q = 0 then nI (gL V (bsL (I 71) false) (rmy (I 71) V D) D 0) else if q = 1 then nI (gW V (bsL (I 71) false) (rmI (I 71)) (rmy (I 71) V D) D 0) else rmA (I 71) V D (q - 2)) (I1 := I1) (J1 := J1) hI (e_X10_rooms (d := 199) ?_) (fun a ha => a1' a (by unfold Rlv rl at ha; omega) (by unfold Rlv rl at ha; omega) (by unfold Rlv rl at ha; omega) (by unfold Rlv rl at ha; omega) (by unfold Rlv rl at ha; omega) (by unfold Rlv rl at ha; omega) (by unfold Rlv rl at ha; omega) (by unfold Rlv rl at ha; omega) (by unfold Rlv rl at ha; omega) (by unfold Rlv rl at ha; omega)) (fun a ha => a2' a (by omega) (by omega) (by omega) (by omega)) (e_X11_rooms (d := 199) ?_) ((MSx_thr I1 (nI 0)).tr ⟨fun a h1 h2 => p1 a h1 (by omega) (by omega), fun k hk => p2 k (by omega) (by omega)⟩) p3
    · unfold F_X10_rooms
      rw [if_neg (nI_pos (by omega)), gg, Option.bind_some, gi_g_13 hG hn, Option.bind_some, c9, nI_add, if_pos ((nI_ltI (by omega) (by omega)).mpr (by omega)), ga_0_2 hS, Option.bind_some, Option.bind_some, vc_10 hS, e1, toV_v, Option.bind_some]
      by_cases q0 : q = 0
      · rw [if_pos (by rw [q0]; rfl), if_pos q0, ga_0_2 hS, Option.bind_some, gi_10_12 hS, Option.bind_some, y12]
      · rw [if_neg (show ¬ nI q = 0 from fun z => q0 ((nI_eq (b := 0) (by omega) (by omega)).mp z)), if_neg q0]
        by_cases q1 : q = 1
        · rw [if_pos (by rw [q1]), if_pos q1, ga_0_2 hS, Option.bind_some, gi_10_13 hS, Option.bind_some, y13]
        · rw [if_neg (show ¬ nI q = nI 1 from fun z => q1 ((nI_eq (by omega) (by omega)).mp z)), if_neg q1, ga_0_2 hS, Option.bind_some, ga_10_0 hS, Option.bind_some, nI_sub (by omega), rd_11 hS (by omega), Option.bind_some, y11 (q - 2) (by omega)]
          rfl
    · unfold F_X11_rooms
      rw [pi_69_0 hS, Option.bind_some, ga_69_3 hS, Option.bind_some, rd_71 hS (by omega), Option.bind_some, i71, w2, vin, rg_t (Nat.zero_le q) hq (by omega), toI_i, Option.bind_some, if_neg nbt]
      dsimp only
      rw [show bI false = nI 0 from rfl] at e3
      rw [vc_69 hS, e3, toV_v, Option.bind_some, e4, Option.bind_some]
      dsimp only
      have n1000 : ¬ nI 1000 = 0 := by decide
      by_cases q2 : 2 ≤ q
      · have wk := m_walk (O := O) (d := 197) (u := u) (J := J2) (I := I2) (q := q - 2) hS hw2 p4' p5' (by omega)
        rw [j71, show q - 2 + 2 = q by omega] at wk
        rw [if_pos (nI_le q2 (by omega)), wk, Option.bind_some, if_neg (by omega), if_neg (by omega)]
      · rw [if_neg (nI_ge (by omega) (by omega))]
        by_cases q0 : q = 0
        · rw [if_pos (by rw [q0]; rfl), if_pos q0, ga_69_43 hS, Option.bind_some, rd_92 hS (by omega), Option.bind_some, tb, if_neg n1000, nI_div (by omega) (by omega), show b / 1000 = gL V (bsL (I 71) false) (rmy (I 71) V D) D 0 by omega]
        · rw [if_neg (show ¬ nI q = 0 from fun z => q0 ((nI_eq (b := 0) (by omega) (by omega)).mp z)), if_neg q0, if_pos (show q = 1 by omega), ga_69_43 hS, Option.bind_some, rd_92 hS (by omega), Option.bind_some, tb, if_neg n1000, nI_div (by omega) (by omega), nI_mul, nI_sub (by omega), show b - b / 1000 * 1000 = gW V (bsL (I 71) false) (rmI (I 71)) (rmy (I 71) V D) D 0 by omega]
  · refine no ?_ ?_
    · unfold F_X10_rooms
      rcases hb2 with z | ⟨z1, z2, z3⟩
      · rw [if_pos z]
      · rw [if_neg z1, gg, Option.bind_some, gi_g_13 hG hn, Option.bind_some, c9, nI_add, if_neg]
        rw [Int32.lt_iff_toInt_lt] at z3 ⊢
        rw [nI_toI (by omega)] at z3 ⊢
        omega
    · unfold F_X11_rooms
      rw [pi_69_0 hS, Option.bind_some, ga_69_3 hS, Option.bind_some, rd_71 hS (by omega), Option.bind_some, up2_na (by decide), w2, vin, hb5]
      rfl
end RMS
