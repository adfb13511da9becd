/-! calls: packed -/
theorem bl_dc : ∀ f, f < 1024 → ∀ v, v < 5 → f / 4 ^ v % 4 ≠ 0 → ∀ u, u < 5 → (f - 4 ^ v) / 4 ^ u % 4 = if u = v then f / 4 ^ v % 4 - 1 else f / 4 ^ u % 4 := by decide +kernel
theorem mxO_n {a b : Option Nat} : mxO a b ≠ none ↔ a ≠ none ∨ b ≠ none := by
  cases a with
  | none => exact ⟨fun z => Or.inr z, fun z => z.resolve_left (fun y => y rfl)⟩
  | some x =>
    cases b with
    | none => exact ⟨fun _ => Or.inl (by simp), fun _ => by simp [mxO]⟩
    | some y => exact ⟨fun _ => Or.inl (by simp), fun _ => by unfold mxO; dsimp only; split <;> simp⟩
theorem mxV_n {b : Nat → Option Nat} {s : Option Nat} : ∀ {V : Nat}, mxV b s V ≠ none ↔ s ≠ none ∨ ∃ v, v < V ∧ b v ≠ none
  | 0 => ⟨fun z => Or.inl z, fun z => z.resolve_right (fun ⟨v, hv, _⟩ => absurd hv (Nat.not_lt_zero v))⟩
  | V + 1 => by
    have ih := mxV_n (b := b) (s := s) (V := V)
    show mxO (mxV b s V) (b V) ≠ none ↔ _
    rw [mxO_n, ih]
    constructor
    · rintro ((h | ⟨v, h1, h2⟩) | h)
      · exact Or.inl h
      · exact Or.inr ⟨v, by omega, h2⟩
      · exact Or.inr ⟨V, by omega, h⟩
    · rintro (h | ⟨v, h1, h2⟩)
      · exact Or.inl (Or.inl h)
      · by_cases e : v = V
        · subst e
          exact Or.inr h2
        · exact Or.inl (Or.inr ⟨v, by omega, h2⟩)
theorem bnF_n {nx : Nat → Option Nat} {br : Nat → Bool} {gn : Nat → Nat} {f v : Nat} : bnF nx br gn f v ≠ none ↔ br v = false ∧ blF f v ≠ 0 ∧ nx (f - 4 ^ v) ≠ none := by
  unfold bnF
  cases hb : br v with
  | true => simp
  | false =>
    by_cases h0 : blF f v = 0
    · simp [h0]
    · rw [decide_eq_false h0, Bool.or_false, if_neg (by decide)]
      cases nx (f - 4 ^ v) with
      | none => simp
      | some x => simp [h0]
theorem bt_fsb {V : Nat} {bar : Nat → Nat → Bool} {lies : Nat → Bool} {gn : Nat → Nat → Nat} (h5 : V ≤ 5) : ∀ (k d f : Nat), f < 1024 → (btF V bar lies gn true k d f ≠ none ↔ fsb V bar lies k d (blF f))
  | 0, _, _, _ => ⟨fun _ => trivial, fun _ => by simp [btF]⟩
  | k + 1, d, f, hf => by
    have ih := fun f => bt_fsb (V := V) (bar := bar) (lies := lies) (gn := gn) h5 k (d + 1) f
    unfold btF fsb
    by_cases hl : lies d = true
    · rw [if_pos hl, if_pos hl, if_pos rfl, mxV_n]
      have dc : ∀ v, v < V → blF f v ≠ 0 → ∀ u, u < V → blF (f - 4 ^ v) u = dcF (blF f) v u := fun v hv h0 u hu => bl_dc f hf v (by omega) h0 u (by omega)
      constructor
      · rintro (h | ⟨v, h1, h2⟩)
        · exact absurd rfl h
        · obtain ⟨g1, g2, g3⟩ := bnF_n.mp h2
          refine ⟨v, h1, g1, Nat.pos_of_ne_zero g2, fsb_cg k (d + 1) (blF (f - 4 ^ v)) _ (fun u hu => (dc v h1 g2 u hu).symm) ((ih (f - 4 ^ v) ?_).mp g3)⟩
          exact Nat.lt_of_le_of_lt (Nat.sub_le _ _) hf
      · rintro ⟨v, h1, g1, g2, g3⟩
        refine Or.inr ⟨v, h1, bnF_n.mpr ⟨g1, Nat.ne_of_gt g2, (ih (f - 4 ^ v) (Nat.lt_of_le_of_lt (Nat.sub_le _ _) hf)).mpr (fsb_cg k (d + 1) _ _ (fun u hu => dc v h1 (Nat.ne_of_gt g2) u hu) g3)⟩⟩
    · rw [if_neg hl, if_neg hl]
      exact ih f hf
/-- the beds of a set of vaults, as digits -/
theorem fr_bl {b : Nat → Nat} {s V : Nat} (h5 : V ≤ 5) (hs : s < 2 ^ V) (hb : ∀ v, v < V → b v ≤ 3) : csN (fun v => b v * 4 ^ v) s V < 1024 ∧ ∀ u, u < V → blF (csN (fun v => b v * 4 ^ v) s V) u = if s.testBit u = true then b u else 0 := by
  have e5 : csN (fun v => b v * 4 ^ v) s V = csN (fun v => b v * 4 ^ v) s 5 := by
    have := csN_hi (kc := fun v => b v * 4 ^ v) hs (5 - V)
    rw [show V + (5 - V) = 5 by omega] at this
    exact this.symm
  have x : ∀ v, (if s.testBit v = true then b v * 4 ^ v else 0) = (if s.testBit v = true then b v else 0) * 4 ^ v := by
    intro v
    split
    · rfl
    · rw [Nat.zero_mul]
  have xb : ∀ v, (if s.testBit v = true then b v else 0) ≤ 3 := by
    intro v
    by_cases h : s.testBit v = true
    · rw [if_pos h]
      exact hb v (tb_lt hs h)
    · rw [if_neg h]
      omega
  have f5 : csN (fun v => b v * 4 ^ v) s 5 = (if s.testBit 0 = true then b 0 else 0) + (if s.testBit 1 = true then b 1 else 0) * 4 + (if s.testBit 2 = true then b 2 else 0) * 16 + (if s.testBit 3 = true then b 3 else 0) * 64 + (if s.testBit 4 = true then b 4 else 0) * 256 := by
    rw [csN_s, csN_s, csN_s, csN_s, csN_s, x 0, x 1, x 2, x 3, x 4, show csN (fun v => b v * 4 ^ v) s 0 = 0 from rfl]
    omega
  have b0 := xb 0
  have b1 := xb 1
  have b2 := xb 2
  have b3 := xb 3
  have b4 := xb 4
  rw [e5, f5]
  refine ⟨by omega, fun u hu => ?_⟩
  unfold blF
  have : u = 0 ∨ u = 1 ∨ u = 2 ∨ u = 3 ∨ u = 4 := by omega
  rcases this with rfl | rfl | rfl | rfl | rfl <;> omega
/-- the best set so far -/
def pkS (ok : Nat → Bool) : Nat → Option Nat
  | 0 => none
  | s + 1 => match pkS ok s with
    | none => if ok s = true then some s else none
    | some b => if ok s = true ∧ popN s < popN b then some s else some b
theorem pkS_lt (ok : Nat → Bool) : ∀ s b, pkS ok s = some b → b < s
  | 0, b, h => by cases h
  | s + 1, b, h => by
    have ih := pkS_lt ok s
    unfold pkS at h
    split at h
    · split at h
      · cases h
        omega
      · cases h
    · rename_i q e
      have := ih q e
      split at h
      · cases h
        omega
      · cases h
        omega
theorem pkS_n {ok : Nat → Bool} {s : Nat} (h : pkS ok s = none) : pkS ok (s + 1) = if ok s = true then some s else none := by
  show (match pkS ok s with | none => _ | some b => _) = _
  rw [h]
theorem pkS_y {ok : Nat → Bool} {s b : Nat} (h : pkS ok s = some b) : pkS ok (s + 1) = if ok s = true ∧ popN s < popN b then some s else some b := by
  show (match pkS ok s with | none => _ | some b => _) = _
  rw [h]
section PK
variable {O : mO} {L : Nat} {xs : Nat → Int32} {c d u n : Nat} {T : Nat → mT} {I : Nat → Nat → Int32} {J : Nat → Nat → Int64} {R : Nat → Nat → Option Nat} {g V F D S N s k p : Nat} {w : Nat → Int32} {K : mH}
/-- the vaults open to one -/
def pkA (w : Nat → Int32) (V D d : Nat) : Nat := stN (fun v => !bsB w D d v) V
def pkB (w : Nat → Int32) (v : Nat) : Nat := nv w (37 + v)
/-- one is bound to a part of a set -/
def pkF (w : Nat → Int32) (V D s p d : Nat) : Bool := decide (w (9 + d) ≠ -1) && decide (nI (pkA w V D d) &&& nI s &&& (nI p ^^^ -1) = 0)
def pkOk (w : Nat → Int32) (V D s p : Nat) : Prop := nI p &&& (nI s ^^^ -1) = 0 → ctF (pkF w V D s p) D ≤ csN (pkB w) p V
def pkC (w : Nat → Int32) (V D s : Nat) : Prop := ∀ p, p ≤ s → pkOk w V D s p
theorem pkB_n (hw : Wf w V F D S N) {v : Nat} (hv : v < V) : w (37 + v) = nI (pkB w v) ∧ pkB w v ≤ 3 := by
  obtain ⟨b, e, h1, h2, -⟩ := hw.2.2.2.1.2.2.2.2.2.2 v hv
  have e' : w (37 + v) = nI b := e
  unfold pkB
  rw [nv_n e' (by omega)]
  exact ⟨e', h2⟩
theorem c_open (hG : Gnd n T I R g w V F D S N) (hw : Wf w V F D S N) (hn : n ≤ oB) (hk : k < D) : ∃ I', ev O (d + 4) MX4_vaultsOpenTo [.ref g, .int (nI k)] (hp u n T I J R) = some (some (.int (nI (pkA w V D k))), hp u n T I' J R) ∧ SxC I I' := by
  have h8 := hw.1
  have LL : ∃ r, lupF (fun (q : Int32 × Int32 × mH) => F_X4_vaultsOpenTo_l4 O (d + 3) g (nI k) q.1 q.2.1 q.2.2) FU (nI 0, nI 0, hp u n T I J R) = some r ∧ (fun r => ∃ I', r = (nI (pkA w V D k), hp u n T I' J R) ∧ SxC I I') r := by
    refine lup_P0 (fun v q => ∃ I', q = (nI (stN (fun v => !bsB w D k v) v), nI v, hp u n T I' J R) ∧ SxC I I') _ (N := V) (by omega) ⟨I, rfl, SxC.rf I⟩ ?_ ?_
    · intro v q hv ⟨I1, hq, hs⟩
      subst hq
      left
      have hG1 := Gnd_Sx hG hs
      have c2 := hG1.1.2.1
      obtain ⟨I2, e2, s2⟩ := v_cBar (O := O) (d := d) (u := u) (J := J) hG1 hw hn hk hv
      refine ⟨_, ?_, I2, rfl, hs.tr s2⟩
      dsimp only
      unfold F_X4_vaultsOpenTo_l4
      rw [gi_g_11 c2 hn, Option.bind_some, hG1.1.2.2.2.2.1, if_neg (nI_ge hv (by omega)), vc_g c2 hn, e2, toI_i, Option.bind_some]
      dsimp only
      rw [stI_s (by omega), nI_add, show baR w D k (nI v) = bsB w D k v from rfl]
      cases bsB w D k v with
      | true => rw [if_neg nbt, if_neg (by decide), nI_0, Int32.or_zero]
      | false => rw [if_pos (show bI false = 0 from rfl), if_pos (by decide)]
    · intro q ⟨I1, hq, hs⟩
      subst hq
      have hG1 := Gnd_Sx hG hs
      refine ⟨_, ?_, I1, rfl, hs⟩
      dsimp only
      unfold F_X4_vaultsOpenTo_l4
      rw [gi_g_11 hG1.1.2.1 hn, Option.bind_some, hG1.1.2.2.2.2.1, if_pos (nI_le (Nat.le_refl V) (by omega))]
      rfl
  obtain ⟨r, e, I', hr, hs⟩ := LL
  refine ⟨I', e_X4_vaultsOpenTo (d := d + 3) ?_, hs⟩
  unfold F_X4_vaultsOpenTo
  rw [e, hr]
  rfl
/-- the class lays the vaults open to each -/
theorem c_layA {o : Int32} (hS : St n T R) (hG : Gnd n T I R g w V F D S N) (hw : Wf w V F D S N) : ∃ r, lupF (fun (q : Int32 × mH) => F_X4_packing_l2 O (d + 4) 7 g o q.1 q.2) FU (nI 0, hp u n T I J R) = some r ∧ (fun r => ∃ I1, r = hp u n T I1 J R ∧ (∀ a, a ≠ 9 → a ≠ 28 → a ≠ 29 → a ≠ 31 → I1 a = I a) ∧ ∀ j, j < D → w (9 + j) ≠ -1 → I1 9 j = nI (pkA w V D j)) r := by
  have hn := hS.2.1
  have h8 := hw.1
  have h31 := hG.1.2.2.1
  refine lup_P0 (fun i q => ∃ I1, q = (nI i, hp u n T I1 J R) ∧ (∀ a, a ≠ 9 → a ≠ 28 → a ≠ 29 → a ≠ 31 → I1 a = I a) ∧ ∀ j, j < i → w (9 + j) ≠ -1 → I1 9 j = nI (pkA w V D j)) _ (N := D) (by omega) ⟨I, rfl, fun _ _ _ _ _ => rfl, fun j hj => absurd hj (Nat.not_lt_zero j)⟩ ?_ ?_
  · intro i q hi ⟨I1, hq, o1, k1⟩
    subst hq
    left
    have hG1 : Gnd n T I1 R g w V F D S N := Gnd_cg hG (fun a ha => o1 a (by omega) (by omega) (by omega) (by omega))
    have z13 : I1 g 13 = nI D := hG1.1.2.2.2.2.2.2.2.2.1
    have c2 := hG1.1.2.1
    have isI := v_cIsIn (O := O) (d := d + 3) (u := u) (I := I1) (J := J) (v := nI i) c2 hn z13 h8.2.2.1
    rw [inR_nI hi (by omega), Bool.true_and, nI_clamp (by omega), hG1.2.2.2.2.2.2.1 i (by omega)] at isI
    have put : ∀ (I2 : Nat → Nat → Int32) (v : Int32), (w (9 + i) ≠ -1 → v = nI (pkA w V D i)) → SxC I1 I2 → ∃ s', F_X4_packing_j32 O (d + 4) 7 g o (nI i) v (nI i) 9 (hp u n T I2 J R) = some (.inl s') ∧ ∃ I1, s' = (nI (i + 1), hp u n T I1 J R) ∧ (∀ a, a ≠ 9 → a ≠ 28 → a ≠ 29 → a ≠ 31 → I1 a = I a) ∧ ∀ j, j < i + 1 → w (9 + j) ≠ -1 → I1 9 j = nI (pkA w V D j) := by
      intro I2 v hv hs
      refine ⟨(nI (i + 1), hp u n T (up2 I2 9 i v) J R), ?_, _, rfl, fun a z1 z2 z3 z4 => by rw [up2_off _ _ _ z1, hs a z2 z3 z4]; exact o1 a z1 z2 z3 z4, fun j hj hin => ?_⟩
      · unfold F_X4_packing_j32
        simp (disch := first | assumption | omega) only [rd_9, wr_9, ln_9, Option.bind_some, toI_i, toJ_j, toV_v, toR_r, up2_at, up2_na, up2_nk, up2_off, nI_add, nI_mul, nI_leI, nI_ltI, nI_eq, bI_eq0]
      · by_cases e : j = i
        · rw [e, up2_at]
          rw [e] at hin
          exact hv hin
        · rw [up2_nk e, hs 9 (by decide) (by decide) (by decide)]
          exact k1 j (by omega) hin
    dsimp only
    unfold F_X4_packing_l2
    rw [gi_g_13 c2 hn, Option.bind_some, z13, if_neg (nI_ge hi (by omega)), ga_7_1 hS, Option.bind_some, vc_g c2 hn, isI, toI_i, Option.bind_some]
    dsimp only
    by_cases hin : w (9 + i) = -1
    · rw [if_pos (by rw [decide_eq_false (fun z => z hin)]; rfl)]
      exact put I1 (nI 0) (fun z => absurd hin z) (SxC.rf I1)
    · obtain ⟨I2, e2, s2⟩ := c_open (O := O) (d := d) (u := u) (J := J) hG1 hw hn hi
      rw [if_neg (by rw [decide_eq_true hin]; exact nbt), e2, toI_i, Option.bind_some]
      exact put I2 _ (fun _ => rfl) s2
  · intro q ⟨I1, hq, o1, k1⟩
    subst hq
    have hG1 : Gnd n T I1 R g w V F D S N := Gnd_cg hG (fun a ha => o1 a (by omega) (by omega) (by omega) (by omega))
    refine ⟨_, ?_, I1, rfl, o1, k1⟩
    dsimp only
    unfold F_X4_packing_l2
    rw [gi_g_13 hG1.1.2.1 hn, Option.bind_some, hG1.1.2.2.2.2.2.2.2.2.1, if_pos (nI_le (Nat.le_refl D) (by omega))]
theorem c_bound (hS : St n T R) (hG : Gnd n T I R g w V F D S N) (hw : Wf w V F D S N) (ha : ∀ j, j < D → w (9 + j) ≠ -1 → I 9 j = nI (pkA w V D j)) : ev O (d + 3) MX4_boundTo [.ref 7, .ref g, .int (nI s), .int (nI p)] (hp u n T I J R) = some (some (.int (nI (ctF (pkF w V D s p) D))), hp u n T I J R) := by
  have hn := hS.2.1
  have h8 := hw.1
  have z13 : I g 13 = nI D := hG.1.2.2.2.2.2.2.2.2.1
  have c2 := hG.1.2.1
  refine e_X4_boundTo (d := d + 2) ?_
  unfold F_X4_boundTo
  refine lup_b (fun i => (nI (ctF (pkF w V D s p) i), nI i, hp u n T I J R)) (nI (ctF (pkF w V D s p) D), hp u n T I J R) D (by omega) rfl (fun i hi => ?_) ?_ rfl
  · have isI := v_cIsIn (O := O) (d := d + 1) (u := u) (I := I) (J := J) (v := nI i) c2 hn z13 h8.2.2.1
    rw [inR_nI hi (by omega), Bool.true_and, nI_clamp (by omega), hG.2.2.2.2.2.2.1 i (by omega)] at isI
    dsimp only
    unfold F_X4_boundTo_l6
    rw [gi_g_13 c2 hn, Option.bind_some, z13, if_neg (nI_ge hi (by omega)), vc_g c2 hn, isI, toI_i, Option.bind_some]
    dsimp only
    have es : ctF (pkF w V D s p) (i + 1) = ctF (pkF w V D s p) i + (if pkF w V D s p i = true then 1 else 0) := rfl
    rw [es]
    by_cases hin : w (9 + i) = -1
    · have e0 : pkF w V D s p i = false := by unfold pkF; rw [decide_eq_false (fun z => z hin)]; rfl
      rw [if_pos (by rw [decide_eq_false (fun z => z hin)]; rfl), e0, if_neg (by decide), nI_add]
      rfl
    · have e0 : pkF w V D s p i = decide (nI (pkA w V D i) &&& nI s &&& (nI p ^^^ -1) = 0) := by unfold pkF; rw [decide_eq_true hin]; rfl
      rw [if_neg (by rw [decide_eq_true hin]; exact nbt), ga_7_1 hS, Option.bind_some, rd_9 hS (by omega), Option.bind_some, ha i hi hin, e0]
      by_cases hz : nI (pkA w V D i) &&& nI s &&& (nI p ^^^ -1) = 0
      · rw [if_pos hz, decide_eq_true hz, if_pos rfl, nI_add, nI_add]
      · rw [if_neg hz, decide_eq_false hz, if_neg (by decide), nI_add]
        rfl
  · dsimp only
    unfold F_X4_boundTo_l6
    rw [gi_g_13 c2 hn, Option.bind_some, z13, if_pos (nI_le (Nat.le_refl D) (by omega))]
theorem c_beds (hS : St n T R) (hG : Gnd n T I R g w V F D S N) (hw : Wf w V F D S N) : ev O (d + 1) MX4_bedsOf [.ref g, .int (nI p)] (hp u n T I J R) = some (some (.int (nI (csN (pkB w) p V))), hp u n T I J R) := by
  have hn := hS.2.1
  have h8 := hw.1
  have c2 := hG.1.2.1
  have z11 : I g 11 = nI V := hG.1.2.2.2.2.1
  refine e_X4_bedsOf ?_
  unfold F_X4_bedsOf
  refine lup_b (fun k => (nI (csN (pkB w) p k), nI k)) (nI (csN (pkB w) p V)) V (by omega) rfl (fun k hk => ?_) ?_ rfl
  · have q3 : I (g + 1) k = nI (pkB w k) := by rw [hG.2.2.2.1 k (by omega)]; exact (pkB_n hw hk).1
    have r1 : rdI O (hp u n T I J R) (g + 1) (nI k) = some (nI (pkB w k)) := by simp (disch := first | assumption | omega) only [ga_g_1, ga_g_2, ga_g_3, ga_g_4, ga_g_5, ga_g_6, ga_g_7, ga_g_8, ga_g_9, ga_g_10, gi_g_11, pi_g_11, gi_g_12, pi_g_12, gi_g_13, pi_g_13, gi_g_14, pi_g_14, gi_g_15, pi_g_15, gi_g_16, pi_g_16, gi_g_17, pi_g_17, ga_g_0, vc_g, rd_g_1, wr_g_1, ln_g_1, rd_g_2, wr_g_2, ln_g_2, rd_g_3, wr_g_3, ln_g_3, rd_g_4, wr_g_4, ln_g_4, rd_g_5, wr_g_5, ln_g_5, rd_g_6, wr_g_6, ln_g_6, rd_g_7, wr_g_7, ln_g_7, rd_g_8, wr_g_8, ln_g_8, rd_g_9, wr_g_9, ln_g_9, rd_g_10, q3]
    dsimp only
    unfold F_X4_bedsOf_l4
    have e : nI (csN (pkB w) p k) + kb (nI p) k * nI (pkB w k) = nI (csN (pkB w) p (k + 1)) := by
      rw [kb_tb (by omega), csN_s]
      by_cases hb : p.testBit k = true
      · rw [if_pos hb, if_pos hb, nI_mul, nI_add, Nat.one_mul]
      · rw [if_neg hb, if_neg hb, nI_0, Int32.zero_mul, Int32.add_zero, Nat.add_zero]
    unfold kb at e
    rw [gi_g_11 c2 hn, Option.bind_some, z11, if_neg (nI_ge hk (by omega)), ga_g_1 c2 hn, Option.bind_some, r1, Option.bind_some, e, nI_add]
  · dsimp only
    unfold F_X4_bedsOf_l4
    rw [gi_g_11 c2 hn, Option.bind_some, z11, if_pos (nI_le (Nat.le_refl V) (by omega))]
theorem c_can (hS : St n T R) (hG : Gnd n T I R g w V F D S N) (hw : Wf w V F D S N) (ha : ∀ j, j < D → w (9 + j) ≠ -1 → I 9 j = nI (pkA w V D j)) (hs : s < 2 ^ V) : ∃ r, ev O (d + 4) MX4_allCanLie [.ref 7, .ref g, .int (nI s)] (hp u n T I J R) = some (some (.int r), hp u n T I J R) ∧ ((r = nI 1 ∧ pkC w V D s) ∨ (r = nI 0 ∧ ¬ pkC w V D s)) := by
  have h8 := hw.1
  have p5 : 2 ^ V ≤ 32 := Nat.pow_le_pow_right (n := 2) (by decide) h8.1
  have bB : ∀ p, csN (pkB w) p V < 1000 := by
    intro p
    have e : csN (pkB w) p V = csN (fun v => if v < V then pkB w v else 0) p V := csN_cg (fun j hj _ => by rw [if_pos hj])
    have le := csN_le (s := p) (kc := fun v => if v < V then pkB w v else 0) (B := 3) (fun j => by
      by_cases hj : j < V
      · rw [if_pos hj]
        exact (pkB_n hw hj).2
      · rw [if_neg hj]
        omega) V
    have := Nat.mul_le_mul_right 3 h8.1
    omega
  have LL : ∃ r, lupF (fun (q : Int32 × mH) => F_X4_allCanLie_l2 O (d + 3) 7 g (nI s) q.1 q.2) FU (nI 0, hp u n T I J R) = some r ∧ (fun r => (r = .inl (hp u n T I J R) ∧ pkC w V D s) ∨ (r = .inr (nI 0, hp u n T I J R) ∧ ¬ pkC w V D s)) r := by
    refine lup_P0 (fun i q => q = (nI i, hp u n T I J R) ∧ ∀ p, p < i → pkOk w V D s p) _ (N := s + 1) (by omega) ⟨rfl, fun p hp => absurd hp (Nat.not_lt_zero p)⟩ ?_ ?_
    · intro i q hi ⟨hq, ok⟩
      subst hq
      dsimp only
      unfold F_X4_allCanLie_l2
      rw [if_neg (fun z => absurd ((nI_ltI (by omega) (by omega)).mp z) (by omega))]
      by_cases hsub : nI i &&& (nI s ^^^ -1) = 0
      · have b1 := ctF_le (pkF w V D s i) D
        have b2 := bB i
        rw [if_pos hsub, vc_7 hS, c_bound hS hG hw ha, toI_i, Option.bind_some]
        dsimp only
        rw [c_beds hS hG hw, toI_i, Option.bind_some]
        dsimp only
        by_cases hle : ctF (pkF w V D s i) D ≤ csN (pkB w) i V
        · left
          refine ⟨(nI (i + 1), hp u n T I J R), by rw [if_pos (nI_le hle (by omega)), nI_add], rfl, fun p hp => ?_⟩
          by_cases e : p = i
          · rw [e]
            exact fun _ => hle
          · exact ok p (by omega)
        · right
          exact ⟨_, by rw [if_neg (nI_ge (by omega) (by omega))], Or.inr ⟨rfl, fun z => hle (z i (by omega) hsub)⟩⟩
      · left
        refine ⟨(nI (i + 1), hp u n T I J R), by rw [if_neg hsub, nI_add], rfl, fun p hp => ?_⟩
        by_cases e : p = i
        · rw [e]
          exact fun z => absurd z hsub
        · exact ok p (by omega)
    · intro q ⟨hq, ok⟩
      subst hq
      refine ⟨_, ?_, Or.inl ⟨rfl, fun p hp => ok p (by omega)⟩⟩
      dsimp only
      unfold F_X4_allCanLie_l2
      rw [if_pos ((nI_ltI (by omega) (by omega)).mpr (by omega))]
  obtain ⟨r, e, hr⟩ := LL
  rcases hr with ⟨rfl, h⟩ | ⟨rfl, h⟩
  · refine ⟨nI 1, e_X4_allCanLie (d := d + 3) ?_, Or.inl ⟨rfl, h⟩⟩
    unfold F_X4_allCanLie
    rw [e]
    rfl
  · refine ⟨nI 0, e_X4_allCanLie (d := d + 3) ?_, Or.inr ⟨rfl, h⟩⟩
    unfold F_X4_allCanLie
    rw [e]
    rfl
/-- the beds of a set -/
def pkR (w : Nat → Int32) (V s : Nat) : Nat := csN (fun v => pkB w v * 4 ^ v) s V
def pkO (w : Nat → Int32) (V D s : Nat) : Bool := (bsT w V D true 0 (pkR w V s)).isSome
theorem smB_cs {b : Nat → Nat} {P : Nat → Bool} {p : Nat} : ∀ {V : Nat}, (∀ v, v < V → P v = p.testBit v) → smB b P V = csN b p V
  | 0, _ => rfl
  | V + 1, h => by rw [smB_s, csN_s, smB_cs (fun v hv => h v (by omega)), h V (by omega)]
theorem cnB_ct {bar : Nat → Nat → Bool} {lies : Nat → Bool} {P : Nat → Bool} {f : Nat → Bool} {V : Nat} : ∀ (k d : Nat), (∀ j, d ≤ j → j < d + k → f j = (lies j && sbB bar j P V)) → ctF f d + cnB V bar lies P k d = ctF f (d + k)
  | 0, d, _ => rfl
  | k + 1, d, h => by
    have ih := cnB_ct (bar := bar) (lies := lies) (P := P) (f := f) (V := V) k (d + 1) (fun j h1 h2 => h j (by omega) (by omega))
    have e : ctF f (d + 1) = ctF f d + (if f d = true then 1 else 0) := rfl
    rw [e, h d (by omega) (by omega)] at ih
    rw [cnB_s, show d + (k + 1) = d + 1 + k by omega, ← ih]
    omega
/-- what the class asks is what the table says -/
theorem pk_iff (hw : Wf w V F D S N) (hs : s < 2 ^ V) : pkC w V D s ↔ pkO w V D s = true := by
  have h8 := hw.1
  have p5 : 2 ^ V ≤ 32 := Nat.pow_le_pow_right (n := 2) (by decide) h8.1
  obtain ⟨f1, f2⟩ := fr_bl (b := pkB w) h8.1 hs (fun v hv => (pkB_n hw hv).2)
  have tb := bt_fsb (bar := bsB w D) (lies := bsL w true) (gn := bsG w true) h8.1 (D - 0) 0 (pkR w V s) f1
  have o1 : pkO w V D s = true ↔ bsT w V D true 0 (pkR w V s) ≠ none := by
    unfold pkO
    cases bsT w V D true 0 (pkR w V s) <;> simp
  rw [o1]
  unfold bsT
  rw [tb, Nat.sub_zero]
  have lie : ∀ j, bsL w true j = decide (w (9 + j) ≠ -1) := fun j => by unfold bsL; cases decide (w (9 + j) ≠ -1) <;> rfl
  -- one is bound to a part
  have bnd : ∀ p P, p < 256 → (∀ v, v < V → P v = (p.testBit v || !s.testBit v)) → ∀ j, pkF w V D s p j = (bsL w true j && sbB (bsB w D) j P V) := by
    intro p P hp hP j
    unfold pkF
    rw [lie]
    congr 1
    have al := stN_lt (fun v => !bsB w D j v) V
    have iff : (nI (pkA w V D j) &&& nI s &&& (nI p ^^^ -1) = 0) ↔ ∀ v, v < V → bsB w D j v = false → P v = true := by
      have e1 : nI (pkA w V D j) &&& nI s = nI (pkA w V D j &&& s) := by
        apply btI_ext
        intro i hi
        rw [btI_and, btI_nI, btI_nI, btI_nI, Nat.testBit_and, decide_eq_true hi]
        simp
      have lt : pkA w V D j &&& s < 256 := Nat.lt_of_le_of_lt Nat.and_le_right (by omega)
      rw [e1, sub_iff lt]
      constructor
      · intro h v hv hb
        rw [hP v hv]
        cases hsv : s.testBit v with
        | false => rw [Bool.not_false, Bool.or_true]
        | true =>
          have := h v (by
            rw [Nat.testBit_and, hsv, Bool.and_true]
            unfold pkA
            rw [stN_bit, decide_eq_true hv, hb]
            rfl)
          rw [this]
          rfl
      · intro h i hi
        rw [Nat.testBit_and, Bool.and_eq_true] at hi
        obtain ⟨h1, h2⟩ := hi
        unfold pkA at h1
        rw [stN_bit, Bool.and_eq_true] at h1
        have hv : i < V := of_decide_eq_true h1.1
        have hb : bsB w D j i = false := by
          have := h1.2
          revert this
          cases bsB w D j i <;> decide
        have := h i hv hb
        rw [hP i hv, h2, Bool.not_true, Bool.or_false] at this
        exact this
    cases hx : sbB (bsB w D) j P V with
    | true => exact decide_eq_true (iff.mpr (sbB_iff.mp hx))
    | false =>
      refine decide_eq_false (fun z => ?_)
      rw [sbB_iff.mpr (iff.mp z)] at hx
      cases hx
  have bl : ∀ P : Nat → Bool, smB (blF (pkR w V s)) P V = smB (pkB w) (fun v => P v && s.testBit v) V := by
    intro P
    have : ∀ W, W ≤ V → smB (blF (pkR w V s)) P W = smB (pkB w) (fun v => P v && s.testBit v) W := by
      intro W
      induction W with
      | zero => intro _; rfl
      | succ W ih =>
        intro hW
        rw [smB_s, smB_s, ih (by omega)]
        have := f2 W (by omega)
        rw [show blF (pkR w V s) W = _ from this]
        cases P W <;> cases s.testBit W <;> rfl
    exact this V (Nat.le_refl V)
  constructor
  · intro hc
    apply hal_suf
    intro P
    -- the part of the set
    have hp : stN (fun v => P v && s.testBit v) V < 2 ^ V := stN_lt _ V
    have bit : ∀ v, (stN (fun v => P v && s.testBit v) V).testBit v = (decide (v < V) && (P v && s.testBit v)) := fun v => stN_bit _ v V
    have sub : ∀ i, (stN (fun v => P v && s.testBit v) V).testBit i = true → s.testBit i = true := by
      intro i hi
      rw [bit, Bool.and_eq_true, Bool.and_eq_true] at hi
      exact hi.2.2
    have ok := hc _ (sub_le sub) ((sub_iff (by omega)).mpr sub)
    rw [bl P, smB_cs (p := stN (fun v => P v && s.testBit v) V) (fun v hv => by rw [bit, decide_eq_true hv, Bool.true_and])]
    refine Nat.le_trans ?_ ok
    have c1 := cnB_ct (bar := bsB w D) (lies := bsL w true) (P := fun v => (stN (fun v => P v && s.testBit v) V).testBit v || !s.testBit v) (f := pkF w V D s (stN (fun v => P v && s.testBit v) V)) (V := V) D 0 (fun j _ _ => bnd _ _ (by omega) (fun v _ => rfl) j)
    rw [Nat.zero_add, show ctF (pkF w V D s (stN (fun v => P v && s.testBit v) V)) 0 = 0 from rfl, Nat.zero_add] at c1
    rw [← c1]
    apply cnB_mono
    intro v hv h
    rw [bit, decide_eq_true hv, h]
    cases s.testBit v <;> rfl
  · intro hf p hp hsub
    have hn := hal_nec D 0 _ hf (fun v => p.testBit v || !s.testBit v)
    have p256 : p < 256 := by omega
    have c1 := cnB_ct (bar := bsB w D) (lies := bsL w true) (P := fun v => p.testBit v || !s.testBit v) (f := pkF w V D s p) (V := V) D 0 (fun j _ _ => bnd _ _ p256 (fun v _ => rfl) j)
    rw [Nat.zero_add, show ctF (pkF w V D s p) 0 = 0 from rfl, Nat.zero_add] at c1
    rw [c1, bl] at hn
    have hsb := (sub_iff p256).mp hsub
    rw [smB_cs (p := p) (fun v hv => by
      have := hsb v
      revert this
      cases p.testBit v <;> cases s.testBit v <;> decide)] at hn
    exact hn
end PK
