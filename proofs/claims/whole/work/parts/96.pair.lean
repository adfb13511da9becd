/-! the class pairs a row more -/
def HB (r c : Nat) (vc : Nat → Nat) (I : Nat → Nat → Int32) : Prop :=
  (r ≤ 8) ∧
  (c ≤ 23) ∧
  (r ≤ c) ∧
  (I 10 10 = nI r) ∧
  (I 10 11 = nI c) ∧
  (∀ j, 1 ≤ j → j ≤ c → I 16 j = nI (rmM I j) ∧ rmM I j ≤ 8) ∧
  (∀ j, 1 ≤ j → j ≤ c → I 15 j = nI (vc j) ∧ vc j ≤ 5)
theorem HB.r8 {r c : Nat} {vc : Nat → Nat} {I : Nat → Nat → Int32} (h : HB r c vc I) : r ≤ 8 := h.1
theorem HB.c23 {r c : Nat} {vc : Nat → Nat} {I : Nat → Nat → Int32} (h : HB r c vc I) : c ≤ 23 := h.2.1
theorem HB.rc {r c : Nat} {vc : Nat → Nat} {I : Nat → Nat → Int32} (h : HB r c vc I) : r ≤ c := h.2.2.1
theorem HB.r {r c : Nat} {vc : Nat → Nat} {I : Nat → Nat → Int32} (h : HB r c vc I) : I 10 10 = nI r := h.2.2.2.1
theorem HB.c {r c : Nat} {vc : Nat → Nat} {I : Nat → Nat → Int32} (h : HB r c vc I) : I 10 11 = nI c := h.2.2.2.2.1
theorem HB.m {r c : Nat} {vc : Nat → Nat} {I : Nat → Nat → Int32} (h : HB r c vc I) : ∀ j, 1 ≤ j → j ≤ c → I 16 j = nI (rmM I j) ∧ rmM I j ≤ 8 := h.2.2.2.2.2.1
theorem HB.v {r c : Nat} {vc : Nat → Nat} {I : Nat → Nat → Int32} (h : HB r c vc I) : ∀ j, 1 ≤ j → j ≤ c → I 15 j = nI (vc j) ∧ vc j ≤ 5 := h.2.2.2.2.2.2
section PAR
variable {O : mO} {d u n : Nat} {T : Nat → mT} {I : Nat → Nat → Int32} {J : Nat → Nat → Int64} {R : Nat → Nat → Option Nat} {r c row t col : Nat} {vc : Nat → Nat}
theorem HM.cg {M M' : Nat → Nat} (h : HM c row M) (e : ∀ j, 1 ≤ j → j ≤ c → M' j = M j) : HM c row M' := by
  refine ⟨fun j j1 j2 => by rw [e j j1 j2]; exact h.lt j j1 j2, fun j k j1 j2 k1 k2 => by rw [e j j1 j2, e k k1 k2]; exact h.inj j k j1 j2 k1 k2, fun i i1 i2 => ?_⟩
  obtain ⟨j, j1, j2, j3⟩ := h.sur i i1 i2
  exact ⟨j, j1, j2, by rw [e j j1 j2]; exact j3⟩
theorem HD.cg {cst : Nat → Nat → Int} {M M' : Nat → Nat} {U W W' : Nat → Int} (h : HD c row cst M U W) (e : ∀ j, 1 ≤ j → j ≤ c → M' j = M j) (e2 : ∀ j, 1 ≤ j → j ≤ c → W' j = W j) : HD c row cst M' U W' :=
  ⟨fun i j i1 i2 j1 j2 => by rw [e2 j j1 j2]; exact h.fea i j i1 i2 j1 j2, fun j j1 j2 => by rw [e j j1 j2, e2 j j1 j2]; exact h.tig j j1 j2, fun j j1 j2 => by rw [e2 j j1 j2]; exact h.neg j j1 j2, fun j j1 j2 => by rw [e j j1 j2, e2 j j1 j2]; exact h.zer j j1 j2⟩
theorem c_pair (hS : St n T R) (hh : HB r c vc I) (h1 : 1 ≤ row) (h2 : row ≤ r) (hp' : HP r c row (fun i j => rmC J i (vc j)) (rmM I) (rmU J) (rmW J)) (hC : ∀ i j, 1 ≤ i → i ≤ r → 1 ≤ j → j ≤ c → -536870912 ≤ rmC J i (vc j) ∧ rmC J i (vc j) ≤ 1099511627776) : ∃ I' J', ev O (d + 2) MX7_pair [.ref 10, .int (nI row)] (hp u n T I J R) = some (none, hp u n T I' J' R) ∧ HB r c vc I' ∧ HP r c (row + 1) (fun i j => rmC J' i (vc j)) (rmM I') (rmU J') (rmW J') ∧ (∀ a, a ≠ 16 → a ≠ 17 → a ≠ 20 → I' a = I a) ∧ (∀ a, a ≠ 14 → a ≠ 18 → a ≠ 19 → J' a = J a) := by
  have r8 := hh.r8
  have c23 := hh.c23
  have rc := hh.rc
  -- all is laid anew
  have L0 : ∃ z, lupF (fun (q : Int32 × mH) => F_X7_pair_l16 O (d + 1) 10 q.1 q.2) FU (nI 0, hp u n T (up2 I 16 0 (nI row)) (up2 J 18 0 0) R) = some z ∧ (fun z => ∃ Ia Ja, z = hp u n T Ia Ja R ∧ (∀ a, a ≠ 20 → Ia a = up2 I 16 0 (nI row) a) ∧ (∀ a, a ≠ 19 → Ja a = up2 J 18 0 0 a) ∧ ∀ j, j ≤ c → Ia 20 j = nI 0 ∧ (Ja 19 j).toInt = 1125899906842624) z := by
    refine lup_P0 (fun k z => ∃ Ia Ja, z = (nI k, hp u n T Ia Ja R) ∧ (∀ a, a ≠ 20 → Ia a = up2 I 16 0 (nI row) a) ∧ (∀ a, a ≠ 19 → Ja a = up2 J 18 0 0 a) ∧ ∀ j, j < k → Ia 20 j = nI 0 ∧ (Ja 19 j).toInt = 1125899906842624) _ (N := c + 1) (by omega) ⟨_, _, rfl, fun _ _ => rfl, fun _ _ => rfl, fun j h => by omega⟩ ?_ ?_
    · intro k z hk ⟨Ia, Ja, hz, a1, a2, a3⟩
      subst hz
      left
      have i10 : Ia 10 11 = nI c := by rw [a1 10 (by decide), up2_off _ _ _ (by decide)]; exact hh.c
      refine ⟨(nI (k + 1), hp u n T (up2 Ia 20 k (nI 0)) (up2 Ja 19 k 1125899906842624) R), ?_, _, _, rfl, fun a ha => by rw [up2_off _ _ _ ha]; exact a1 a ha, fun a ha => by rw [up2_off _ _ _ ha]; exact a2 a ha, fun j hj => ?_⟩
      · dsimp only
        unfold F_X7_pair_l16
        rw [gi_10_11 hS, Option.bind_some, i10, if_neg (fun z => absurd ((nI_ltI (by omega) (by omega)).mp z) (by omega)), ga_10_8 hS, Option.bind_some, wr_19 hS (by omega), Option.bind_some, ga_10_9 hS, Option.bind_some, wr_20 hS (by omega), Option.bind_some, show vp_nar .boolean (nI 0) = nI 0 by decide, nI_add]
      · by_cases e : j = k
        · rw [e, up2_at, up2_at]
          exact ⟨rfl, by decide⟩
        · rw [up2_nk e, up2_nk e]
          exact a3 j (by omega)
    · intro z ⟨Ia, Ja, hz, a1, a2, a3⟩
      subst hz
      have i10 : Ia 10 11 = nI c := by rw [a1 10 (by decide), up2_off _ _ _ (by decide)]; exact hh.c
      refine ⟨_, ?_, Ia, Ja, rfl, a1, a2, fun j hj => a3 j (by omega)⟩
      dsimp only
      unfold F_X7_pair_l16
      rw [gi_10_11 hS, Option.bind_some, i10, if_pos ((nI_ltI (by omega) (by omega)).mpr (by omega))]
  obtain ⟨z0, e0, Ia, Ja, hz0, a1, a2, a3⟩ := L0
  have i16 : Ia 16 0 = nI row := by rw [a1 16 (by decide), up2_at]
  have m0 : rmM Ia 0 = row := by unfold rmM; rw [i16, nI_clamp (by omega)]
  have mj : ∀ j, 1 ≤ j → rmM Ia j = rmM I j := fun j hj => by unfold rmM; rw [a1 16 (by decide), up2_nk (by omega)]
  have qa : ∀ j, j ≤ c → rmQ Ia j = false := fun j hj => by unfold rmQ; rw [(a3 j hj).1]; decide
  have ua : rmU Ja = rmU J := by funext i; unfold rmU; rw [a2 14 (by decide), up2_na (by decide)]
  have wj : ∀ j, 1 ≤ j → rmW Ja j = rmW J j := fun j hj => by unfold rmW; rw [a2 18 (by decide), up2_nk (by omega)]
  have ca : (fun i j => rmC Ja i (vc j)) = (fun i j => rmC J i (vc j)) := by funext i j; unfold rmC; rw [a2 13 (by decide), up2_na (by decide)]
  have hha : HH r c vc Ia := by
    refine ⟨hh.r8, hh.c23, hh.rc, by rw [a1 10 (by decide), up2_off _ _ _ (by decide)]; exact hh.r, by rw [a1 10 (by decide), up2_off _ _ _ (by decide)]; exact hh.c, fun j hj => ?_, fun j hj => by rw [qa j hj, (a3 j hj).1]; rfl, fun j j1 j2 => by rw [a1 15 (by decide), up2_off _ _ _ (by decide)]; exact hh.v j j1 j2⟩
    by_cases e : j = 0
    · rw [e, m0, i16]
      exact ⟨rfl, by omega⟩
    · rw [mj j (by omega), a1 16 (by decide), up2_nk e]
      exact hh.m j (by omega) hj
  have hqa : HQ r c row 0 (fun i j => rmC Ja i (vc j)) (rmM Ia) (rmU Ja) (rmW Ja) (rmS Ja) (rmF Ia) (rmQ Ia) (fun _ => 0) 0 := by
    have u0 : rmU J row = 0 := hp'.z row (Nat.le_refl _) h2
    refine ⟨hp'.m.cg (fun j j1 _ => mj j j1), ?_, m0, h1, h2, fun i i1 i2 => by rw [ua]; exact hp'.z i (by omega) i2, fun i i1 i2 => by rw [ua]; exact hp'.b i i1 i2, ?_, fun j hj hjq => (by rw [qa j hj] at hjq; cases hjq), ?_, Or.inl ⟨rfl, rfl, qa, fun j hj => (a3 j hj).2, by rw [ua]; exact u0⟩⟩
    · rw [ca, ua]
      exact hp'.d.cg (fun j j1 _ => mj j j1) (fun j j1 _ => wj j j1)
    · rw [ua, u0]
      unfold rmW
      rw [a2 18 (by decide), up2_at]
      rfl
    · rw [smI_cg (g := fun _ => 0) (fun j hj => by rw [qa j (by omega)]; rfl), smI_0]
      rfl
  -- columns are reached until one is free
  have L1 : ∃ z, lupF (fun (q : Int32 × Int32 × mH) => F_X7_pair_l50 O (d + 1) 10 q.1 q.2.1 q.2.2) FU (nI 0, nI 0, hp u n T Ia Ja R) = some z ∧ (fun z => ∃ col Ib Jb t ρ, z = (nI col, hp u n T Ib Jb R) ∧ HH r c vc Ib ∧ HQ r c row t (fun i j => rmC Jb i (vc j)) (rmM Ib) (rmU Jb) (rmW Jb) (rmS Jb) (rmF Ib) (rmQ Ib) ρ col ∧ (∀ a, a ≠ 17 → a ≠ 20 → Ib a = Ia a) ∧ (∀ a, a ≠ 14 → a ≠ 18 → a ≠ 19 → Jb a = Ja a) ∧ (1 ≤ t → ∀ j, 1 ≤ j → j ≤ c → Ib 17 j = nI (rmF Ib j)) ∧ rmM Ib col = 0) z := by
    refine lup_P0 (fun t z => ∃ col Ib Jb ρ, z = (nI col, nI t, hp u n T Ib Jb R) ∧ HH r c vc Ib ∧ HQ r c row t (fun i j => rmC Jb i (vc j)) (rmM Ib) (rmU Jb) (rmW Jb) (rmS Jb) (rmF Ib) (rmQ Ib) ρ col ∧ (∀ a, a ≠ 17 → a ≠ 20 → Ib a = Ia a) ∧ (∀ a, a ≠ 14 → a ≠ 18 → a ≠ 19 → Jb a = Ja a) ∧ (1 ≤ t → ∀ j, 1 ≤ j → j ≤ c → Ib 17 j = nI (rmF Ib j))) _ (N := r + 1) (by omega) ⟨0, Ia, Ja, fun _ => 0, rfl, hha, hqa, fun _ _ _ => rfl, fun _ _ _ _ => rfl, fun z => by omega⟩ ?_ ?_
    · intro t z ht ⟨col, Ib, Jb, ρ, hz, b1, b2, b3, b4, b5⟩
      subst hz
      have colc : col ≤ c := by
        rcases b2.h with ⟨-, e, -⟩ | ⟨-, q⟩
        · omega
        · exact q.cc
      have hCb : ∀ i j, 1 ≤ i → i ≤ r → 1 ≤ j → j ≤ c → -536870912 ≤ rmC Jb i (vc j) ∧ rmC Jb i (vc j) ≤ 1099511627776 := by
        intro i j i1 i2 j1 j2
        have : rmC Jb i (vc j) = rmC J i (vc j) := by unfold rmC; rw [b4 13 (by decide) (by decide) (by decide), a2 13 (by decide), up2_na (by decide)]
        rw [this]
        exact hC i j i1 i2 j1 j2
      have top : ∀ z, (if rmM Ib col = 0 then some (.inr (nI col, hp u n T Ib Jb R)) else (toI (ev O (d + 1) MX7_reachFrom [.ref 10, .int (nI col)] (hp u n T Ib Jb R))).bind fun p17 => some (.inl (p17.1, nI (t + 1), p17.2))) = z → F_X7_pair_l50 O (d + 1) 10 (nI col) (nI t) (hp u n T Ib Jb R) = z := by
        intro z hz
        have mb := (b1.m col colc).2
        unfold F_X7_pair_l50
        rw [gi_10_10 hS, Option.bind_some, b1.r, if_neg (fun z => absurd ((nI_ltI (by omega) (by omega)).mp z) (by omega)), ga_10_5 hS, Option.bind_some, rd_16 hS (by omega), Option.bind_some, (b1.m col colc).1, vc_10 hS, nI_add, ← hz]
        by_cases e : rmM Ib col = 0
        · rw [if_pos e, if_pos (by rw [e]; rfl)]
        · rw [if_neg e, if_neg (show ¬ nI (rmM Ib col) = 0 from fun z => e ((nI_eq (b := 0) (by omega) (by omega)).mp z))]
      by_cases hc : rmM Ib col = 0
      · right
        exact ⟨_, top _ (by rw [if_pos hc]), col, Ib, Jb, t, ρ, rfl, b1, b2, b3, b4, b5, hc⟩
      · left
        obtain ⟨near, Ic, Jc, ρ', e, c1, c2, c3, c4, c5⟩ := c_reach (O := O) (d := d) (u := u) hS b1 b2 hCb b5 hc
        exact ⟨_, top _ (by rw [if_neg hc, e, toI_i, Option.bind_some]), near, Ic, Jc, ρ', rfl, c1, c2, fun a h1 h2 => (c3 a h1 h2).trans (b3 a h1 h2), fun a h1 h2 h3 => (c4 a h1 h2 h3).trans (b4 a h1 h2 h3), fun _ => c5⟩
    · intro z ⟨col, Ib, Jb, ρ, hz, b1, b2, b3, b4, b5⟩
      have := b2.cnt_le
      omega
  obtain ⟨z1, e1, col, Ib, Jb, t, ρ, hz1, b1, b2, b3, b4, b5, b6⟩ := L1
  have tl := b2.cnt_le
  have ag0 := b2.ag b6
  have t1 : 1 ≤ t := by have := ag0.fr; omega
  -- the way back
  have L2 : ∃ z, lupF (fun (q : Int32 × Int32 × mH) => F_X7_pair_l81 O (d + 1) 10 q.1 q.2.1 q.2.2) FU (nI col, nI 0, hp u n T Ib Jb R) = some z ∧ (fun z => ∃ Ic, z = hp u n T Ic Jb R ∧ (∀ a, a ≠ 16 → Ic a = Ib a) ∧ (∀ j, j ≤ c → Ic 16 j = nI (rmM Ic j) ∧ rmM Ic j ≤ 8) ∧ HM c (row + 1) (rmM Ic) ∧ HD c (row + 1) (fun i j => rmC Jb i (vc j)) (rmM Ic) (rmU Jb) (rmW Jb)) z := by
    refine lup_P0 (fun k z => ∃ a Ic, z = (nI a, nI k, hp u n T Ic Jb R) ∧ a ≤ c ∧ (∀ a, a ≠ 16 → Ic a = Ib a) ∧ (∀ j, j ≤ c → Ic 16 j = nI (rmM Ic j) ∧ rmM Ic j ≤ 8) ∧ ((a = 0 ∧ HM c (row + 1) (rmM Ic) ∧ HD c (row + 1) (fun i j => rmC Jb i (vc j)) (rmM Ic) (rmU Jb) (rmW Jb)) ∨ ∃ ra, AG c row (fun i j => rmC Jb i (vc j)) (rmM Ib) (rmU Jb) (rmW Jb) (rmF Ib) (rmQ Ib) ρ (rmM Ic) a ra ∧ ra + k ≤ t)) _ (N := r + 1) (by omega) ⟨col, Ib, rfl, ag0.a2, fun _ _ => rfl, b1.m, Or.inr ⟨t, ag0, by omega⟩⟩ ?_ ?_
    · intro k z hk ⟨a, Ic, hz, ac, c1, c2, c3⟩
      subst hz
      have i10 : Ic 10 10 = nI r := by rw [c1 10 (by decide)]; exact b1.r
      rcases c3 with ⟨c3, c4, c5⟩ | ⟨ra, c3, c4⟩
      · right
        refine ⟨hp u n T Ic Jb R, ?_, Ic, rfl, c1, c2, c4, c5⟩
        dsimp only
        unfold F_X7_pair_l81
        rw [gi_10_10 hS, Option.bind_some, i10, if_neg (fun z => absurd ((nI_ltI (by omega) (by omega)).mp z) (by omega)), if_pos (by rw [c3]; rfl)]
      · left
        have aa := c3.a1
        have i17 : Ic 17 a = nI (rmF Ib a) := by rw [c1 17 (by decide)]; exact b5 t1 a c3.a1 c3.a2
        obtain ⟨s1, s2, s3, s4⟩ := c3.step b2
        have fc := c3.fc
        have mb : rmM Ib (rmF Ib a) ≤ 8 := (b1.m _ fc).2
        have eM : rmM (up2 Ic 16 a (nI (rmM Ib (rmF Ib a)))) = fun j => if j = a then rmM Ib (rmF Ib a) else rmM Ic j := by
          funext j
          unfold rmM
          by_cases e : j = a
          · rw [if_pos e, e, up2_at, nI_clamp (by unfold rmM at mb; omega)]
          · rw [if_neg e, up2_nk e]
        refine ⟨(nI (rmF Ib a), nI (k + 1), hp u n T (up2 Ic 16 a (nI (rmM Ib (rmF Ib a)))) Jb R), ?_, rmF Ib a, _, rfl, fc, fun b hb => by rw [up2_off _ _ _ hb]; exact c1 b hb, fun j hj => ?_, ?_⟩
        · dsimp only
          unfold F_X7_pair_l81
          rw [gi_10_10 hS, Option.bind_some, i10, if_neg (fun z => absurd ((nI_ltI (by omega) (by omega)).mp z) (by omega)), if_neg (show ¬ nI a = 0 from fun z => by have := (nI_eq (b := 0) (by omega) (by omega)).mp z; omega), ga_10_6 hS, Option.bind_some, rd_17 hS (by omega), Option.bind_some, i17, ga_10_5 hS, Option.bind_some, Option.bind_some, rd_16 hS (by omega), Option.bind_some, (c2 _ fc).1, s1, wr_16 hS (by omega), Option.bind_some, nI_add]
        · rw [eM]
          dsimp only
          by_cases e : j = a
          · rw [if_pos e, e, up2_at]
            exact ⟨rfl, mb⟩
          · rw [if_neg e, up2_nk e]
            exact c2 j hj
        · rw [eM]
          by_cases e : rmF Ib a = 0
          · exact Or.inl ⟨e, (s4 e).1, (s4 e).2⟩
          · have := c3.fr
            exact Or.inr ⟨_, s3 e, by omega⟩
    · intro z ⟨a, Ic, hz, ac, c1, c2, c3⟩
      subst hz
      have i10 : Ic 10 10 = nI r := by rw [c1 10 (by decide)]; exact b1.r
      rcases c3 with ⟨c3, c4, c5⟩ | ⟨ra, c3, c4⟩
      · refine ⟨hp u n T Ic Jb R, ?_, Ic, rfl, c1, c2, c4, c5⟩
        dsimp only
        unfold F_X7_pair_l81
        rw [gi_10_10 hS, Option.bind_some, i10, if_pos ((nI_ltI (by omega) (by omega)).mpr (by omega))]
      · omega
  obtain ⟨z2, e2, Ic, hz2, c1, c2, c3, c4⟩ := L2
  have eI : ∀ a, a ≠ 16 → a ≠ 17 → a ≠ 20 → Ic a = I a := fun a h1 h2 h3 => by rw [c1 a h1, b3 a h2 h3, a1 a h3, up2_off _ _ _ h1]
  have eJ : ∀ a, a ≠ 14 → a ≠ 18 → a ≠ 19 → Jb a = J a := fun a h1 h2 h3 => by rw [b4 a h1 h2 h3, a2 a h3, up2_off _ _ _ h2]
  refine ⟨Ic, Jb, e_X7_pair (d := d + 1) ?_, ?_, ⟨c3, c4, fun i i1 i2 => b2.z i (by omega) i2, b2.b⟩, eI, eJ⟩
  · unfold F_X7_pair
    rw [ga_10_5 hS, Option.bind_some, wr_16 hS (by omega), Option.bind_some, ga_10_7 hS, Option.bind_some, wr_18 hS (by omega), Option.bind_some, e0, hz0, Option.bind_some, e1, hz1, Option.bind_some]
    unfold F_X7_pair_j79
    dsimp only
    rw [e2, hz2]
    rfl
  · exact ⟨hh.r8, hh.c23, hh.rc, by rw [eI 10 (by decide) (by decide) (by decide)]; exact hh.r, by rw [eI 10 (by decide) (by decide) (by decide)]; exact hh.c, fun j j1 j2 => c2 j j2, fun j j1 j2 => by rw [eI 15 (by decide) (by decide) (by decide)]; exact hh.v j j1 j2⟩
end PAR
