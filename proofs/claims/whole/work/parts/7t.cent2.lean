/-! centuries: years, one after another -/
section CE2
variable {O : mO} {L : Nat} {xs : Nat → Int32} {c d u n : Nat} {T : Nat → mT} {I : Nat → Nat → Int32} {J : Nat → Nat → Int64} {R : Nat → Nat → Option Nat} {V F D S N s k v t y m i : Nat} {w : Nat → Int32} {K : mH}
theorem ceR_6 : ceR w D k v t 6 = w 6 := by
  unfold ceR
  by_cases h0 : t = 0
  · rw [if_pos h0]
    by_cases ho : reOk w D k = true
    · rw [if_pos ho]
      unfold reW
      (try simp (disch := omega) only [upK_at, upK_ne])
    · rw [if_neg ho]
  · rw [if_neg h0]
    by_cases h1 : t = 1
    · rw [if_pos h1]
      by_cases ho : loOk w D k v = true
      · rw [if_pos ho]
        unfold loW
        (try simp (disch := omega) only [upK_at, upK_ne])
      · rw [if_neg ho]
    · rw [if_neg h1]
      by_cases ho : knOk w k = true
      · rw [if_pos ho]
        unfold knW
        (try simp (disch := omega) only [upK_at, upK_ne])
      · rw [if_neg ho]
theorem lvN_le (z : Nat → Int32) : ∀ k, lvN z k ≤ k
  | 0 => Nat.le_refl 0
  | k + 1 => by
    have ih := lvN_le z k
    show (if z (9 + k) = -1 then lvN z k else lvN z k + (if z (17 + k) - nI 1 = 0 then 1 else 0)) ≤ k + 1
    split
    · omega
    · split <;> omega
/-- the row with the act that is drawn -/
def ceA (V D : Nat) (w : Nat → Int32) (s : Nat) : Nat → Int32 := ceR w D (drN s % D) (drN (drN s) % V) (drN (drN (drN s)) % 3)
/-- a year on: the row, the seed, how many left -/
def ceI (V F D : Nat) (w : Nat → Int32) (s : Nat) : Nat → (Nat → Int32) × Nat × Nat
  | 0 => (w, s, 0)
  | i + 1 => (paW (ceA V D (ceI V F D w s i).1 (ceI V F D w s i).2.1) F D, drN (drN (drN (ceI V F D w s i).2.1)), (ceI V F D w s i).2.2 + lvN (paP (ceA V D (ceI V F D w s i).1 (ceI V F D w s i).2.1) F) D)
theorem Kp.tr {w w1 w2 : Nat → Int32} (h1 : Kp w w1) (h2 : Kp w1 w2) : Kp w w2 := fun i hi => (h2 i hi).trans (h1 i hi)
theorem Wf_ceA (hw : Wf w V F D S N) (h0 : 0 < D) : Wf (ceA V D w s) V F D S N ∧ Kp w (ceA V D w s) := Wf_ceR hw (Nat.mod_lt _ h0) (Nat.mod_lt _ (hw.1.2.2.2.2.2 h0))
theorem ce_all (hw : Wf w V F D S N) (h6 : w 6 = nI y) (hs : s < 1000004) (h0 : 0 < D) : ∀ i, y + i ≤ 999 → Wf (ceI V F D w s i).1 V F D S N ∧ Kp w (ceI V F D w s i).1 ∧ (ceI V F D w s i).1 6 = nI (y + i) ∧ (ceI V F D w s i).2.1 < 1000004 ∧ (ceI V F D w s i).2.2 ≤ 8 * i
  | 0, _ => ⟨hw, Kp.rf w, h6, hs, Nat.zero_le _⟩
  | i + 1, h => by
    obtain ⟨a1, a2, a3, a4, a5⟩ := ce_all hw h6 hs h0 i (by omega)
    obtain ⟨b1, b2⟩ := Wf_ceA (s := (ceI V F D w s i).2.1) a1 h0
    have b6 : ceA V D (ceI V F D w s i).1 (ceI V F D w s i).2.1 6 = nI (y + i) := by
      unfold ceA
      rw [ceR_6]
      exact a3
    obtain ⟨c1, c2⟩ := Wf_paW b1 b6 (by omega)
    have h8 := hw.1
    have l8 := lvN_le (paP (ceA V D (ceI V F D w s i).1 (ceI V F D w s i).2.1) F) D
    have lt := drN_lt (drN (drN (ceI V F D w s i).2.1))
    refine ⟨c1, (a2.tr b2).tr c2, ?_, ?_, ?_⟩
    · show paW (ceA V D (ceI V F D w s i).1 (ceI V F D w s i).2.1) F D 6 = _
      unfold paW
      rw [upK_at, b6, nI_add]
      rfl
    · show drN (drN (drN (ceI V F D w s i).2.1)) < _
      omega
    · show (ceI V F D w s i).2.2 + lvN (paP (ceA V D (ceI V F D w s i).1 (ceI V F D w s i).2.1) F) D ≤ _
      omega
theorem v_ins {g : Nat} (hG : Gnd n T I R g w V F D S N) (hn : n ≤ oB) : ev O (d + 1) MX2_insideCount [.ref g] (hp u n T I J R) = some (some (.int (nI (D - cnt (fun j => w (9 + j)) (-1) D))), hp u n T I J R) := by
  obtain ⟨⟨c1, c2, c3, c4, c5, c6, c7, c8, c9, c10, c11, c12⟩, q1, q2, q3, q4, q5, q6, q7, -⟩ := id hG
  rw [v_insideCount c2 hn c9 c10, cnt_cg (w := fun j => w (9 + j)) (w' := I (g + 4)) (fun j hj => q6 j (by omega))]
/-- the class's years -/
theorem c_cent (hO : O = mOl L xs) (hS : St n T R) (hG : Gnd n T I R 43 w V F D S N) (hw : Wf w V F D S N) (h6 : w 6 = nI y) (hy : y ≤ 999) (h21 : I 21 0 = nI s) (hs : s < 1000004) (h0 : 0 < D) (hm : m ≤ 60) : ∃ r, lupF (fun (q : Int32 × Int32 × mH) => F_X10_centuries_l69 O (d + 4) 0 (nI m) q.1 q.2.1 q.2.2) FU (nI 0, nI 0, hp u n T I J R) = some r ∧ (fun r => ∃ I1, r = (nI (ceI V F D w s (min m (999 - y))).2.2, hp u n T I1 J R) ∧ Gnd n T I1 R 43 (ceI V F D w s (min m (999 - y))).1 V F D S N ∧ ∀ a, (a < 43 ∨ 53 < a) → a ≠ 21 → a ≠ 28 → a ≠ 29 → a ≠ 31 → I1 a = I a) r := by
  have hn := hS.2.1
  have h8 := hw.1
  have g43 := hG.1.2.1
  refine lup_P0 (fun i q => ∃ I1, q = (nI (ceI V F D w s i).2.2, nI i, hp u n T I1 J R) ∧ Gnd n T I1 R 43 (ceI V F D w s i).1 V F D S N ∧ I1 21 0 = nI (ceI V F D w s i).2.1 ∧ ∀ a, (a < 43 ∨ 53 < a) → a ≠ 21 → a ≠ 28 → a ≠ 29 → a ≠ 31 → I1 a = I a) _ (N := min m (999 - y)) (by omega) ⟨I, rfl, hG, h21, fun _ _ _ _ _ _ => rfl⟩ ?_ ?_
  · intro i q hi ⟨I1, hq, g1, s1, o1⟩
    subst hq
    left
    obtain ⟨a1, a2, a3, a4, a5⟩ := ce_all hw h6 hs h0 i (by omega)
    obtain ⟨b1, b2⟩ := Wf_ceA (s := (ceI V F D w s i).2.1) a1 h0
    have b6 : ceA V D (ceI V F D w s i).1 (ceI V F D w s i).2.1 6 = nI (y + i) := by
      unfold ceA
      rw [ceR_6]
      exact a3
    obtain ⟨I2, e2, g2, s2, o2⟩ := c_one (d := d) (u := u) (J := J) hO hS g1 a1 s1 a4 h0
    have n2 := v_ins (O := O) (d := d + 3) (u := u) (J := J) g2 hn
    obtain ⟨I3, e3, g3, o3⟩ := c_pa (d := d + 1) (u := u) (J := J) hO hS g2 b1 hn (by decide) b6 (by omega)
    rw [if_pos (by omega)] at e3 g3
    have n3 := v_ins (O := O) (d := d + 3) (u := u) (J := J) g3 hn
    have lv := lv_d (w := ceA V D (ceI V F D w s i).1 (ceI V F D w s i).2.1) h8.2.2.1 F
    have r9 : rdI O (hp u n T I1 J R) 52 (nI 0) = some (nI (y + i)) := by
      have q10 : I1 52 0 = (ceI V F D w s i).1 6 := g1.2.2.2.2.2.2.2.2.2.2.1 0 (by decide)
      simp (disch := first | assumption | omega) only [rd_52, wr_52, ln_52, q10, a3]
    refine ⟨(nI ((ceI V F D w s (i + 1)).2.2), nI (i + 1), hp u n T I3 J R), ?_, I3, rfl, g3, ?_, fun a z1 z2 z3 z4 z5 => (o3 a (by omega) z3 z4 z5).trans ((o2 a z1 z2 z3 z4 z5).trans (o1 a z1 z2 z3 z4 z5))⟩
    · dsimp only
      unfold F_X10_centuries_l69
      rw [if_neg (nI_ge (show i < m by omega) (by omega)), ga_0_9 hS, Option.bind_some, ga_g_9 g43 hn, Option.bind_some, r9, Option.bind_some, if_neg (nI_ge (show y + i < 999 by omega) (by omega)), vc_0 hS, e2, toV_v, Option.bind_some, ga_0_9 hS, Option.bind_some, vc_g g43 hn, n2, toI_i, Option.bind_some]
      dsimp only
      rw [ga_0_9 hS, Option.bind_some, vc_g g43 hn, e3, toI_i, Option.bind_some]
      dsimp only
      rw [ga_0_9 hS, Option.bind_some, vc_g g43 hn, n3, toI_i, Option.bind_some]
      dsimp only
      unfold ceA at lv
      rw [lv, lvF_n, nI_add, nI_add]
      rfl
    · rw [o3 21 (by omega) (by decide) (by decide) (by decide)]
      exact s2
  · intro q ⟨I1, hq, g1, s1, o1⟩
    subst hq
    obtain ⟨a1, a2, a3, a4, a5⟩ := ce_all hw h6 hs h0 (min m (999 - y)) (by omega)
    have r9 : rdI O (hp u n T I1 J R) 52 (nI 0) = some (nI (y + min m (999 - y))) := by
      have q10 : I1 52 0 = (ceI V F D w s (min m (999 - y))).1 6 := g1.2.2.2.2.2.2.2.2.2.2.1 0 (by decide)
      simp (disch := first | assumption | omega) only [rd_52, wr_52, ln_52, q10, a3]
    refine ⟨_, ?_, I1, rfl, g1, o1⟩
    dsimp only
    unfold F_X10_centuries_l69
    by_cases hmm : m ≤ min m (999 - y)
    · rw [if_pos (nI_le hmm (by omega))]
    · rw [if_neg (nI_ge (show min m (999 - y) < m by omega) (by omega)), ga_0_9 hS, Option.bind_some, ga_g_9 g43 hn, Option.bind_some, r9, Option.bind_some, if_pos (nI_le (show 999 ≤ y + min m (999 - y) by omega) (by omega))]
/-- what the reference's years change -/
def CeM (I I2 : Nat → Nat → Int32) (J J2 : Nat → Nat → Int64) : Prop := (∀ a, a ≠ 69 → a ≠ 71 → a ≠ 90 → I2 a = I a) ∧ (∀ k, k ≠ 34 → k ≠ 38 → I2 69 k = I 69 k) ∧ MJx J J2
theorem CeM.tr {I I1 I2 : Nat → Nat → Int32} {J J1 J2 : Nat → Nat → Int64} (h1 : CeM I I1 J J1) (h2 : CeM I1 I2 J1 J2) : CeM I I2 J J2 := ⟨fun a z1 z2 z3 => (h2.1 a z1 z2 z3).trans (h1.1 a z1 z2 z3), fun k z1 z2 => (h2.2.1 k z1 z2).trans (h1.2.1 k z1 z2), fun a ha => (h2.2.2 a ha).trans (h1.2.2 a ha)⟩
theorem CeM_Sx {I1 : Nat → Nat → Int32} {J1 : Nat → Nat → Int64} (h : SxM 69 I I1 J J1) : CeM I I1 J J1 := ⟨fun a z1 _ _ => h.1 a z1, fun k z1 z2 => h.2.1 k z1 z2, MJx_SxM h⟩
theorem CeM_71 {I1 : Nat → Nat → Int32} (h : ∀ a, a ≠ 71 → I1 a = I a) : CeM I I1 J J := ⟨fun a _ z2 _ => h a z2, fun k _ _ => by rw [h 69 (by decide)], MJx_r J⟩
/-- the reference's year -/
theorem m_year {o : Int32} (hS : St n T R) (h20 : I 69 20 = nI 0) (hw : Wf (I 71) V F D S N) (h6 : I 71 6 = nI y) (hy : y < 999) (h52 : J 69 52 = (nI s).toInt64) (hs : s < 1000004) (h0 : 0 < D) (him : i < m) (hm : m ≤ 60) : ∃ I' J', F_X11_centuries_l68 O (d + 6) 69 (nI m) o (nI i) (hp u n T I J R) = some (.inl (o + nI (lvN (paP (ceA V D (I 71) s) F) D), nI (i + 1), hp u n T I' J' R)) ∧ I' 71 = paW (ceA V D (I 71) s) F D ∧ J' 69 52 = (nI (drN (drN (drN s)))).toInt64 ∧ CeM I I' J J' := by
  have h8 := hw.1
  have hV : 0 < V := hw.1.2.2.2.2.2 h0
  have s1 := drN_lt s
  have s2 := drN_lt (drN s)
  have d1 := v_mDraw (O := O) (d := d + 5) (u := u) (J := J) (I := I) (m := D) hS h52 hs h0 (by omega)
  have d2 := v_mDraw (O := O) (d := d + 5) (u := u) (I := I) (J := up2 J 69 52 (nI (drN s)).toInt64) (m := V) hS (up2_at _ _ _ _) (by omega) hV (by omega)
  have d3 := v_mDraw (O := O) (d := d + 5) (u := u) (I := I) (J := up2 (up2 J 69 52 (nI (drN s)).toInt64) 69 52 (nI (drN (drN s))).toInt64) (m := 3) hS (up2_at _ _ _ _) (by omega) (by decide) (by decide)
  generalize eJ : up2 (up2 (up2 J 69 52 (nI (drN s)).toInt64) 69 52 (nI (drN (drN s))).toInt64) 69 52 (nI (drN (drN (drN s)))).toInt64 = Jd at d3
  have oJ : MJx J Jd := fun a ha => by rw [← eJ, up2_off _ _ _ (by omega), up2_off _ _ _ (by omega), up2_off _ _ _ (by omega)]
  have j52 : Jd 69 52 = (nI (drN (drN (drN s)))).toInt64 := by rw [← eJ, up2_at]
  have m0 : CeM I I J Jd := ⟨fun _ _ _ _ => rfl, fun _ _ _ => rfl, oJ⟩
  have r6 : ∀ (J' : Nat → Nat → Int64), rdI O (hp u n T I J' R) 71 (nI 6) = some (nI y) := fun J' => by simp (disch := first | assumption | omega) only [rd_71, wr_71, ln_71, h6]
  have r2 : ∀ (J' : Nat → Nat → Int64), rdI O (hp u n T I J' R) 71 (nI 2) = some (nI D) := fun J' => by simp (disch := first | assumption | omega) only [rd_71, wr_71, ln_71, hw.2.1.2.2.1]
  have r0 : ∀ (J' : Nat → Nat → Int64), rdI O (hp u n T I J' R) 71 (nI 0) = some (nI V) := fun J' => by simp (disch := first | assumption | omega) only [rd_71, wr_71, ln_71, hw.2.1.1]
  have hk : drN s % D < D := Nat.mod_lt _ h0
  have hv : drN (drN s) % V < V := Nat.mod_lt _ hV
  have h3 : drN (drN (drN s)) % 3 < 3 := Nat.mod_lt _ (by decide)
  unfold ceA
  generalize drN s % D = k at d1 hk ⊢
  generalize drN (drN s) % V = v at d2 hv ⊢
  generalize drN (drN (drN s)) % 3 = t at d3 h3 ⊢
  have wA := Wf_ceR (t := t) hw hk hv
  have fin : ∀ (I1 : Nat → Nat → Int32) (J1 : Nat → Nat → Int64), I1 71 = ceR (I 71) D k v t → J1 69 52 = Jd 69 52 → CeM I I1 J J1 → ∃ I' J', F_X11_centuries_j185 O (d + 6) 69 (nI m) o (nI i) (hp u n T I1 J1 R) = some (.inl (o + nI (lvN (paP (ceR (I 71) D k v t) F) D), nI (i + 1), hp u n T I' J' R)) ∧ I' 71 = paW (ceR (I 71) D k v t) F D ∧ J' 69 52 = (nI (drN (drN (drN s)))).toInt64 ∧ CeM I I' J J' := by
    intro I1 J1 e71 ej mm
    obtain ⟨I2, J2, e2, p1, p2, p3, p4, p5⟩ := m_pa (O := O) (d := d) (u := u) (J := J1) (I := I1) hS (by rw [mm.2.1 20 (by decide) (by decide)]; exact h20) (by rw [e71]; exact wA.1)
    rw [e71] at e2 p1
    refine ⟨I2, J2, ?_, p1, by rw [p5 52 (by decide) (by decide), ej]; exact j52, mm.tr ⟨p2, p3, p4⟩⟩
    unfold F_X11_centuries_j185
    rw [vc_69 hS, e2, toI_i, Option.bind_some]
    dsimp only
    rw [lvF_n, nI_add]
  have start : ∀ z, (if nI t = 0 then (toI (vc O (d + 6) 11 MX11_canRenew 69 [.int (nI k)] (hp u n T I Jd R))).bind fun p38 => if p38.1 = 0 then F_X11_centuries_j139 O (d + 6) 69 (nI m) o (nI i) (nI k) (nI v) (nI t) p38.2 else (toI (vc O (d + 6) 11 MX11_renewIt 69 [.int (nI k)] p38.2)).bind fun p41 => F_X11_centuries_j139 O (d + 6) 69 (nI m) o (nI i) (nI k) (nI v) (nI t) p41.2 else F_X11_centuries_j139 O (d + 6) 69 (nI m) o (nI i) (nI k) (nI v) (nI t) (hp u n T I Jd R)) = z → F_X11_centuries_l68 O (d + 6) 69 (nI m) o (nI i) (hp u n T I J R) = z := by
    intro z hz
    unfold F_X11_centuries_l68
    rw [if_neg (nI_ge him (by omega)), ga_69_3 hS, Option.bind_some, r6, Option.bind_some, if_neg (nI_ge hy (by omega)), Option.bind_some, r2, Option.bind_some, vc_69 hS, d1, toI_i, Option.bind_some]
    dsimp only
    rw [ga_69_3 hS, Option.bind_some, r0, Option.bind_some, vc_69 hS, d2, toI_i, Option.bind_some]
    dsimp only
    rw [vc_69 hS, d3, toI_i, Option.bind_some]
    exact hz
  by_cases t0 : t = 0
  · have n1 : ¬ nI t = nI 1 := fun z => by have := (nI_eq (by omega) (by omega)).mp z; omega
    have n2 : ¬ nI t = nI 2 := fun z => by have := (nI_eq (by omega) (by omega)).mp z; omega
    have j1 : ∀ K, F_X11_centuries_j139 O (d + 6) 69 (nI m) o (nI i) (nI k) (nI v) (nI t) K = F_X11_centuries_j185 O (d + 6) 69 (nI m) o (nI i) K := fun K => by
      unfold F_X11_centuries_j139 F_X11_centuries_j164
      rw [if_neg n1, if_neg n2]
    obtain ⟨I1, J1, e1, x1⟩ := m_canRe (O := O) (d := d) (u := u) (J := Jd) hS h20 hw hk
    have e71 : I1 71 = I 71 := x1.1 71 (by decide)
    by_cases ho : reOk (I 71) D k = true
    · obtain ⟨I2, J2, e2, p1, p2, p3, p4, p5⟩ := m_re (O := O) (d := d) (u := u) (J := J1) (I := I1) (k := k) hS (by rw [x1.2.1 20 (by decide) (by decide)]; exact h20) (by rw [e71]; exact hw) hk (by rw [e71]; exact ho)
      rw [e71] at e2 p1
      obtain ⟨I3, J3, e3, y1, y2, y3⟩ := fin I2 J2 (by rw [p1]; unfold ceR; rw [if_pos t0, if_pos ho]) (by rw [p5 52 (by decide) (by decide), x1.2.2.2 52 (by decide) (by decide)]) ((m0.tr (CeM_Sx x1)).tr ⟨fun a z1 z2 _ => p2 a z1 z2, p3, p4⟩)
      refine ⟨I3, J3, start _ ?_, y1, y2, y3⟩
      rw [if_pos (by rw [t0]; rfl), vc_69 hS, e1, toI_i, Option.bind_some, if_neg (by rw [ho]; exact nbt)]
      dsimp only
      rw [vc_69 hS, e2, toI_i, Option.bind_some, j1]
      exact e3
    · obtain ⟨I3, J3, e3, y1, y2, y3⟩ := fin I1 J1 (by rw [e71]; unfold ceR; rw [if_pos t0, if_neg ho]) (x1.2.2.2 52 (by decide) (by decide)) (m0.tr (CeM_Sx x1))
      refine ⟨I3, J3, start _ ?_, y1, y2, y3⟩
      rw [if_pos (by rw [t0]; rfl), vc_69 hS, e1, toI_i, Option.bind_some, if_pos (by rw [Bool.eq_false_iff.mpr ho]; rfl), j1]
      exact e3
  · have n0 : ¬ nI t = 0 := fun z => t0 ((nI_eq (by omega) (by omega)).mp z)
    by_cases t1 : t = 1
    · have n2 : ¬ nI t = nI 2 := fun z => by have := (nI_eq (by omega) (by omega)).mp z; omega
      have j1 : ∀ K, F_X11_centuries_j164 O (d + 6) 69 (nI m) o (nI i) (nI k) (nI t) K = F_X11_centuries_j185 O (d + 6) 69 (nI m) o (nI i) K := fun K => by
        unfold F_X11_centuries_j164
        rw [if_neg n2]
      obtain ⟨I1, J1, e1, x1⟩ := m_canLo (O := O) (d := d) (u := u) (J := Jd) hS h20 hw hk hv
      have e71 : I1 71 = I 71 := x1.1 71 (by decide)
      by_cases ho : loOk (I 71) D k v = true
      · obtain ⟨I2, e2, p1, p2⟩ := m_lo (O := O) (d := d + 5) (u := u) (J := J1) (I := I1) (k := k) hS (by rw [e71]; exact hw) hk hv
        rw [e71] at p1
        obtain ⟨I3, J3, e3, y1, y2, y3⟩ := fin I2 J1 (by rw [p1]; unfold ceR; rw [if_neg t0, if_pos t1, if_pos ho]) (x1.2.2.2 52 (by decide) (by decide)) ((m0.tr (CeM_Sx x1)).tr (CeM_71 p2))
        refine ⟨I3, J3, start _ ?_, y1, y2, y3⟩
        rw [if_neg n0]
        unfold F_X11_centuries_j139
        rw [if_pos (by rw [t1]), vc_69 hS, e1, toI_i, Option.bind_some, if_neg (by rw [ho]; exact nbt)]
        dsimp only
        rw [vc_69 hS, e2, toV_v, Option.bind_some, j1]
        exact e3
      · obtain ⟨I3, J3, e3, y1, y2, y3⟩ := fin I1 J1 (by rw [e71]; unfold ceR; rw [if_neg t0, if_pos t1, if_neg ho]) (x1.2.2.2 52 (by decide) (by decide)) (m0.tr (CeM_Sx x1))
        refine ⟨I3, J3, start _ ?_, y1, y2, y3⟩
        rw [if_neg n0]
        unfold F_X11_centuries_j139
        rw [if_pos (by rw [t1]), vc_69 hS, e1, toI_i, Option.bind_some, if_pos (by rw [Bool.eq_false_iff.mpr ho]; rfl), j1]
        exact e3
    · have n1 : ¬ nI t = nI 1 := fun z => t1 ((nI_eq (by omega) (by omega)).mp z)
      have t2 : t = 2 := by omega
      have e1 := m_canKn (O := O) (d := d + 5) (u := u) (J := Jd) hS hw hk
      by_cases ho : knOk (I 71) k = true
      · obtain ⟨I2, e2, p1, p2⟩ := m_kn (O := O) (d := d + 5) (u := u) (J := Jd) hS hw hk ho
        obtain ⟨I3, J3, e3, y1, y2, y3⟩ := fin I2 Jd (by rw [p1]; unfold ceR; rw [if_neg t0, if_neg t1, if_pos ho]) rfl (m0.tr (CeM_71 p2))
        refine ⟨I3, J3, start _ ?_, y1, y2, y3⟩
        rw [if_neg n0]
        unfold F_X11_centuries_j139 F_X11_centuries_j164
        rw [if_neg n1, if_pos (by rw [t2]), vc_69 hS, e1, toI_i, Option.bind_some, if_neg (by rw [ho]; exact nbt)]
        dsimp only
        rw [vc_69 hS, e2, toV_v, Option.bind_some]
        exact e3
      · obtain ⟨I3, J3, e3, y1, y2, y3⟩ := fin I Jd (by unfold ceR; rw [if_neg t0, if_neg t1, if_neg ho]) rfl m0
        refine ⟨I3, J3, start _ ?_, y1, y2, y3⟩
        rw [if_neg n0]
        unfold F_X11_centuries_j139 F_X11_centuries_j164
        rw [if_neg n1, if_pos (by rw [t2]), vc_69 hS, e1, toI_i, Option.bind_some, if_pos (by rw [Bool.eq_false_iff.mpr ho]; rfl)]
        exact e3
/-- the reference's years -/
theorem m_cent (hS : St n T R) (h20 : I 69 20 = nI 0) (hw : Wf (I 71) V F D S N) (h6 : I 71 6 = nI y) (hy : y ≤ 999) (h52 : J 69 52 = (nI s).toInt64) (hs : s < 1000004) (h0 : 0 < D) (hm : m ≤ 60) : ∃ r, lupF (fun (q : Int32 × Int32 × mH) => F_X11_centuries_l68 O (d + 6) 69 (nI m) q.1 q.2.1 q.2.2) FU (nI 0, nI 0, hp u n T I J R) = some r ∧ (fun r => ∃ I1 J1, r = (nI (ceI V F D (I 71) s (min m (999 - y))).2.2, hp u n T I1 J1 R) ∧ I1 71 = (ceI V F D (I 71) s (min m (999 - y))).1 ∧ CeM I I1 J J1) r := by
  have h8 := hw.1
  refine lup_P0 (fun i q => ∃ I1 J1, q = (nI (ceI V F D (I 71) s i).2.2, nI i, hp u n T I1 J1 R) ∧ I1 71 = (ceI V F D (I 71) s i).1 ∧ J1 69 52 = (nI (ceI V F D (I 71) s i).2.1).toInt64 ∧ CeM I I1 J J1) _ (N := min m (999 - y)) (by omega) ⟨I, J, rfl, rfl, h52, ⟨fun _ _ _ _ => rfl, fun _ _ _ => rfl, MJx_r J⟩⟩ ?_ ?_
  · intro i q hi ⟨I1, J1, hq, r1, s1, o1⟩
    subst hq
    left
    obtain ⟨a1, a2, a3, a4, a5⟩ := ce_all hw h6 hs h0 i (by omega)
    obtain ⟨I2, J2, e2, p1, p2, p3⟩ := m_year (O := O) (d := d) (u := u) (I := I1) (J := J1) (o := nI (ceI V F D (I 71) s i).2.2) (m := m) (y := y + i) hS (by rw [o1.2.1 20 (by decide) (by decide)]; exact h20) (by rw [r1]; exact a1) (by rw [r1]; exact a3) (by omega) s1 a4 h0 (show i < m by omega) hm
    rw [r1, nI_add] at e2
    rw [r1] at p1
    exact ⟨_, e2, I2, J2, rfl, p1, p2, o1.tr p3⟩
  · intro q ⟨I1, J1, hq, r1, s1, o1⟩
    subst hq
    obtain ⟨a1, a2, a3, a4, a5⟩ := ce_all hw h6 hs h0 (min m (999 - y)) (by omega)
    refine ⟨_, ?_, I1, J1, rfl, r1, o1⟩
    dsimp only
    unfold F_X11_centuries_l68
    have r6 : rdI O (hp u n T I1 J1 R) 71 (nI 6) = some (nI (y + min m (999 - y))) := by
      have : I1 71 6 = nI (y + min m (999 - y)) := by rw [r1]; exact a3
      simp (disch := first | assumption | omega) only [rd_71, wr_71, ln_71, this]
    by_cases hmm : m ≤ min m (999 - y)
    · rw [if_pos (nI_le hmm (by omega))]
    · rw [if_neg (nI_ge (show min m (999 - y) < m by omega) (by omega)), ga_69_3 hS, Option.bind_some, r6, Option.bind_some, if_pos (nI_le (show 999 ≤ y + min m (999 - y) by omega) (by omega))]
/-- what can be undone lies below 496 -/
theorem Und_74 {ih hr u69 u74 u75 ih' hr' u69' u74' u75' w' : Nat → Int32} {x : Nat} (h : Und ih hr u69 u74 u75 w V F D x s) (h1 : ih' 1 = ih 1) (h2 : ih' 2 = ih 2) (h3 : hr' = hr) (h4 : u69' 8 = u69 8) (h5 : ∀ j, j < 496 → u74' j = u74 j) (h6 : ∀ j, j < 16 → u75' j = u75 j) (hw : w' = w) (h8 : D ≤ 8) (h4' : F ≤ 4) : Und ih' hr' u69' u74' u75' w' V F D x s := by
  obtain ⟨a, b⟩ := h
  subst h3 hw
  refine ⟨by rw [h1, h2, h4]; exact a, fun j hj => ?_⟩
  obtain ⟨b1, b2, b3, b4, b5, b6⟩ := b j hj
  have hs16 : s ≤ 16 := a.2.2.2.1
  have e : ∀ i, i < 37 → snp u74' (s - 1 - j) i = snp u74 (s - 1 - j) i := fun i hi => h5 _ (by omega)
  obtain ⟨d1, d2, d3, d4, d5⟩ := b3
  rw [h6 _ (by omega), e 7 (by decide), e 8 (by decide)]
  exact ⟨b1, b2, ⟨by rw [e 6 (by decide)]; exact d1, fun k hk => by rw [e _ (by omega)]; exact d2 k hk, fun k hk => by rw [e _ (by omega)]; exact d3 k hk, fun k hk => by rw [e _ (by omega)]; exact d4 k hk, fun k hk => by rw [e _ (by omega)]; exact d5 k hk⟩, b4, b5, WfS_cg b6 h8 h4' (fun i _ hi => e i hi) (fun _ _ => rfl)⟩
/-- the reference's row is laid aside -/
theorem m_lay {o : Int32} (hS : St n T R) : ∃ r, lupF (fun (q : Int32 × mH) => F_X11_centuries_l201 O d 69 o q.1 q.2) FU (nI 0, hp u n T I J R) = some r ∧ (fun r => ∃ I1, r = hp u n T I1 J R ∧ (∀ a, a ≠ 97 → I1 a = I a) ∧ ∀ j, j < 31 → I1 97 j = I 71 (6 + j)) r := by
  refine lup_P0 (fun i q => ∃ I1, q = (nI i, hp u n T I1 J R) ∧ (∀ a, a ≠ 97 → I1 a = I a) ∧ ∀ j, j < i → I1 97 j = I 71 (6 + j)) _ (N := 31) (by omega) ⟨I, rfl, fun _ _ => rfl, fun j hj => absurd hj (Nat.not_lt_zero j)⟩ ?_ ?_
  · intro i q hi ⟨I1, hq, o1, r1⟩
    subst hq
    left
    have e71 : I1 71 (6 + i) = I 71 (6 + i) := by rw [o1 71 (by decide)]
    refine ⟨(nI (i + 1), hp u n T (up2 I1 97 i (I 71 (6 + i))) J R), ?_, _, rfl, fun a ha => by rw [up2_off _ _ _ ha]; exact o1 a ha, fun j hj => ?_⟩
    · dsimp only
      unfold F_X11_centuries_l201
      rw [if_neg (nI_ge hi (by omega))]
      simp (disch := first | assumption | omega) only [vc_69, gi_69_0, pi_69_0, gi_69_1, pi_69_1, ga_69_2, ga_69_3, ga_69_4, ga_69_5, ga_69_6, ga_69_7, gi_69_8, pi_69_8, ga_69_9, ga_69_10, gi_69_11, pi_69_11, ga_69_12, gi_69_13, pi_69_13, gi_69_14, pi_69_14, gi_69_15, pi_69_15, gi_69_16, pi_69_16, gj_69_17, pj_69_17, gi_69_18, pi_69_18, gi_69_19, pi_69_19, gi_69_20, pi_69_20, gi_69_21, pi_69_21, ga_69_22, gi_69_23, pi_69_23, ga_69_24, ga_69_25, gi_69_26, pi_69_26, ga_69_27, ga_69_28, gi_69_29, pi_69_29, gi_69_30, pi_69_30, ga_69_31, ga_69_32, ga_69_33, gi_69_34, pi_69_34, ga_69_35, ga_69_36, ga_69_37, gi_69_38, pi_69_38, gj_69_39, pj_69_39, gj_69_40, pj_69_40, ga_69_41, ga_69_42, ga_69_43, ga_69_44, ga_69_45, ga_69_46, ga_69_47, gi_69_48, pi_69_48, gi_69_49, pi_69_49, gi_69_50, pi_69_50, gi_69_51, pi_69_51, gj_69_52, pj_69_52, ga_69_53, gi_69_54, pi_69_54, gi_69_55, pi_69_55, rd_71, wr_71, ln_71, rd_97, wr_97, ln_97, Option.bind_some, toI_i, toJ_j, toV_v, toR_r, up2_at, up2_na, up2_nk, up2_off, nI_add, nI_mul, nI_leI, nI_ltI, nI_eq, bI_eq0, e71]
    · by_cases e : j = i
      · rw [e, up2_at]
      · rw [up2_nk e]
        exact r1 j (by omega)
  · intro q ⟨I1, hq, o1, r1⟩
    subst hq
    refine ⟨_, ?_, I1, rfl, o1, r1⟩
    dsimp only
    unfold F_X11_centuries_l201
    rw [if_pos (nI_le (Nat.le_refl 31) (by omega))]
end CE2
