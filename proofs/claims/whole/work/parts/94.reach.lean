/-! the class reaches a column more -/
theorem j_sub {x y : Int64} (h1 : -4611686018427387904 ≤ x.toInt - y.toInt) (h2 : x.toInt - y.toInt ≤ 4611686018427387904) : (x - y).toInt = x.toInt - y.toInt := by
  rw [Int64.toInt_sub]
  exact Int.bmod_eq_of_le (by omega) (by omega)
theorem j_add {x y : Int64} (h1 : -4611686018427387904 ≤ x.toInt + y.toInt) (h2 : x.toInt + y.toInt ≤ 4611686018427387904) : (x + y).toInt = x.toInt + y.toInt := by
  rw [Int64.toInt_add]
  exact Int.bmod_eq_of_le (by omega) (by omega)
def rmM (I : Nat → Nat → Int32) (j : Nat) : Nat := (I 16 j).toNatClampNeg
def rmF (I : Nat → Nat → Int32) (j : Nat) : Nat := (I 17 j).toNatClampNeg
def rmQ (I : Nat → Nat → Int32) (j : Nat) : Bool := decide (I 20 j = nI 1)
def rmU (J : Nat → Nat → Int64) (i : Nat) : Int := (J 14 i).toInt
def rmW (J : Nat → Nat → Int64) (j : Nat) : Int := (J 18 j).toInt
def rmS (J : Nat → Nat → Int64) (j : Nat) : Int := (J 19 j).toInt
def rmC (J : Nat → Nat → Int64) (i v : Nat) : Int := (J 13 (i * 6 + v)).toInt
/-- the rows and columns as they lie in the heap -/
def HH (r c : Nat) (vc : Nat → Nat) (I : Nat → Nat → Int32) : Prop :=
  (r ≤ 8) ∧
  (c ≤ 23) ∧
  (r ≤ c) ∧
  (I 10 10 = nI r) ∧
  (I 10 11 = nI c) ∧
  (∀ j, j ≤ c → I 16 j = nI (rmM I j) ∧ rmM I j ≤ 8) ∧
  (∀ j, j ≤ c → I 20 j = bI (rmQ I j)) ∧
  (∀ j, 1 ≤ j → j ≤ c → I 15 j = nI (vc j) ∧ vc j ≤ 5)
theorem HH.r8 {r c : Nat} {vc : Nat → Nat} {I : Nat → Nat → Int32} (h : HH r c vc I) : r ≤ 8 := h.1
theorem HH.c23 {r c : Nat} {vc : Nat → Nat} {I : Nat → Nat → Int32} (h : HH r c vc I) : c ≤ 23 := h.2.1
theorem HH.rc {r c : Nat} {vc : Nat → Nat} {I : Nat → Nat → Int32} (h : HH r c vc I) : r ≤ c := h.2.2.1
theorem HH.r {r c : Nat} {vc : Nat → Nat} {I : Nat → Nat → Int32} (h : HH r c vc I) : I 10 10 = nI r := h.2.2.2.1
theorem HH.c {r c : Nat} {vc : Nat → Nat} {I : Nat → Nat → Int32} (h : HH r c vc I) : I 10 11 = nI c := h.2.2.2.2.1
theorem HH.m {r c : Nat} {vc : Nat → Nat} {I : Nat → Nat → Int32} (h : HH r c vc I) : ∀ j, j ≤ c → I 16 j = nI (rmM I j) ∧ rmM I j ≤ 8 := h.2.2.2.2.2.1
theorem HH.q {r c : Nat} {vc : Nat → Nat} {I : Nat → Nat → Int32} (h : HH r c vc I) : ∀ j, j ≤ c → I 20 j = bI (rmQ I j) := h.2.2.2.2.2.2.1
theorem HH.v {r c : Nat} {vc : Nat → Nat} {I : Nat → Nat → Int32} (h : HH r c vc I) : ∀ j, 1 ≤ j → j ≤ c → I 15 j = nI (vc j) ∧ vc j ≤ 5 := h.2.2.2.2.2.2.2
section RCH
variable {O : mO} {d u n : Nat} {T : Nat → mT} {I I' : Nat → Nat → Int32} {J J' : Nat → Nat → Int64} {R : Nat → Nat → Option Nat} {r c row t col near : Nat} {vc ρ : Nat → Nat}
/-- the nearest column so far -/
def Nr (I : Nat → Nat → Int32) (J : Nat → Nat → Int64) (col k nr : Nat) (ls : Int64) : Prop := (nr = 0 ∧ ls.toInt = 1125899906842624 ∧ ∀ j, 1 ≤ j → j ≤ k → rmQ I j = false → j ≠ col → 1125899906842624 ≤ rmS J j) ∨ (1 ≤ nr ∧ nr ≤ k ∧ rmQ I nr = false ∧ nr ≠ col ∧ ls.toInt = rmS J nr ∧ ls.toInt < 1125899906842624 ∧ ∀ j, 1 ≤ j → j ≤ k → rmQ I j = false → j ≠ col → ls.toInt ≤ rmS J j)
theorem c_scan (hS : St n T R) (hh : HH r c vc I) (hcc : col ≤ c) (hm1 : 1 ≤ rmM I col) (hmr : rmM I col ≤ r) (hU : -536870912 ≤ rmU J (rmM I col) ∧ rmU J (rmM I col) ≤ 1099511627776) (hW : ∀ j, j ≤ c → -2199023255552 ≤ rmW J j ∧ rmW J j ≤ 2199023255552) (hC : ∀ i v, 1 ≤ i → i ≤ r → v ≤ 5 → (∃ j, 1 ≤ j ∧ j ≤ c ∧ vc j = v) → -536870912 ≤ rmC J i v ∧ rmC J i v ≤ 1099511627776) : ∃ z, lupF (fun (q : Int32 × Int64 × Int32 × mH) => F_X7_reachFrom_l24 O d 10 (nI col) (nI (rmM I col)) q.1 q.2.1 q.2.2.1 q.2.2.2) FU (nI 0, 1125899906842624, nI 1, hp u n T (up2 I 20 col (nI 1)) J R) = some z ∧ (fun z => ∃ Ia Ja nr ls, z = (nI nr, ls, hp u n T Ia Ja R) ∧ (∀ a, a ≠ 17 → Ia a = up2 I 20 col (nI 1) a) ∧ (∀ a, a ≠ 19 → Ja a = J a) ∧ (∀ j, 1 ≤ j → j ≤ c → rmQ I j = false → j ≠ col → (rmC J (rmM I col) (vc j) - rmU J (rmM I col) - rmW J j < rmS J j → rmS Ja j = rmC J (rmM I col) (vc j) - rmU J (rmM I col) - rmW J j ∧ Ia 17 j = nI col) ∧ (¬ rmC J (rmM I col) (vc j) - rmU J (rmM I col) - rmW J j < rmS J j → rmS Ja j = rmS J j ∧ Ia 17 j = I 17 j)) ∧ (∀ j, (rmQ I j = true ∨ j = col) → Ja 19 j = J 19 j ∧ Ia 17 j = I 17 j) ∧ Nr I Ja col c nr ls ∧ nr ≤ c) z := by
  have r8 := hh.r8
  have c23 := hh.c23
  refine lup_P0 (fun k z => ∃ Ia Ja nr ls, z = (nI nr, ls, nI (k + 1), hp u n T Ia Ja R) ∧ (∀ a, a ≠ 17 → Ia a = up2 I 20 col (nI 1) a) ∧ (∀ a, a ≠ 19 → Ja a = J a) ∧ (∀ j, 1 ≤ j → j ≤ k → rmQ I j = false → j ≠ col → (rmC J (rmM I col) (vc j) - rmU J (rmM I col) - rmW J j < rmS J j → rmS Ja j = rmC J (rmM I col) (vc j) - rmU J (rmM I col) - rmW J j ∧ Ia 17 j = nI col) ∧ (¬ rmC J (rmM I col) (vc j) - rmU J (rmM I col) - rmW J j < rmS J j → rmS Ja j = rmS J j ∧ Ia 17 j = I 17 j)) ∧ (∀ j, (k < j ∨ rmQ I j = true ∨ j = col) → Ja 19 j = J 19 j ∧ Ia 17 j = I 17 j) ∧ Nr I Ja col k nr ls ∧ nr ≤ c) _ (N := c) (by omega) ⟨_, J, 0, 1125899906842624, rfl, fun _ _ => rfl, fun _ _ => rfl, fun j h1 h2 => by omega, fun j _ => ⟨rfl, by rw [up2_off _ _ _ (by decide)]⟩, Or.inl ⟨rfl, by decide, fun j h1 h2 => by omega⟩, Nat.zero_le c⟩ ?_ ?_
  · intro k z hk ⟨Ia, Ja, nr, ls, hz, a1, a2, a3, a4, a5, a6⟩
    subst hz
    left
    have i10 : Ia 10 11 = nI c := by rw [a1 10 (by decide), up2_off _ _ _ (by decide)]; exact hh.c
    have i20 : Ia 20 (k + 1) = if k + 1 = col then nI 1 else bI (rmQ I (k + 1)) := by
      rw [a1 20 (by decide)]
      by_cases e : k + 1 = col
      · rw [if_pos e, e, up2_at]
      · rw [if_neg e, up2_nk e]
        exact hh.q (k + 1) (by omega)
    have reads : ∀ z, (if Ia 20 (k + 1) = 0 then (gtA (hp u n T Ia Ja R) 10 7 2).bind fun x11 => (gtA (hp u n T Ia Ja R) 10 7 4).bind fun x12 => (rdI O (hp u n T Ia Ja R) x12 (nI (k + 1))).bind fun x13 => (rdJ O (hp u n T Ia Ja R) x11 ((nI (rmM I col) * (nI 6)) + x13)).bind fun x14 => (gtA (hp u n T Ia Ja R) 10 7 3).bind fun x15 => (rdJ O (hp u n T Ia Ja R) x15 (nI (rmM I col))).bind fun x16 => (gtA (hp u n T Ia Ja R) 10 7 7).bind fun x17 => (rdJ O (hp u n T Ia Ja R) x17 (nI (k + 1))).bind fun x18 => (gtA (hp u n T Ia Ja R) 10 7 8).bind fun x19 => (rdJ O (hp u n T Ia Ja R) x19 (nI (k + 1))).bind fun x20 => if 0 ≤ (lg_cmp ((x14 - x16) - x18) x20) then F_X7_reachFrom_j111 O d 10 (nI col) (nI (rmM I col)) (nI nr) ls (nI (k + 1)) (hp u n T Ia Ja R) else (gtA (hp u n T Ia Ja R) 10 7 8).bind fun x29 => (wrJ (hp u n T Ia Ja R) x29 (nI (k + 1)) ((x14 - x16) - x18)).bind fun K30 => (gtA K30 10 7 6).bind fun x31 => (wrI K30 x31 (nI (k + 1)) (nI col)).bind fun K32 => F_X7_reachFrom_j111 O d 10 (nI col) (nI (rmM I col)) (nI nr) ls (nI (k + 1)) K32 else some (.inl (nI nr, ls, (nI (k + 1) + nI 1), hp u n T Ia Ja R))) = z → F_X7_reachFrom_l24 O d 10 (nI col) (nI (rmM I col)) (nI nr) ls (nI (k + 1)) (hp u n T Ia Ja R) = z := by
      intro z hz
      unfold F_X7_reachFrom_l24
      rw [gi_10_11 hS, Option.bind_some, i10, if_neg (fun z => absurd ((nI_ltI (by omega) (by omega)).mp z) (by omega)), ga_10_9 hS, Option.bind_some, rd_20 hS (by omega), Option.bind_some]
      exact hz
    have skip : (rmQ I (k + 1) = true ∨ k + 1 = col) → ∃ s', some (Sum.inl (β := Int32 × Int64 × mH) (nI nr, ls, nI (k + 1) + nI 1, hp u n T Ia Ja R)) = some (.inl s') ∧ ∃ Ia Ja nr ls, s' = (nI nr, ls, nI (k + 1 + 1), hp u n T Ia Ja R) ∧ (∀ a, a ≠ 17 → Ia a = up2 I 20 col (nI 1) a) ∧ (∀ a, a ≠ 19 → Ja a = J a) ∧ (∀ j, 1 ≤ j → j ≤ k + 1 → rmQ I j = false → j ≠ col → (rmC J (rmM I col) (vc j) - rmU J (rmM I col) - rmW J j < rmS J j → rmS Ja j = rmC J (rmM I col) (vc j) - rmU J (rmM I col) - rmW J j ∧ Ia 17 j = nI col) ∧ (¬ rmC J (rmM I col) (vc j) - rmU J (rmM I col) - rmW J j < rmS J j → rmS Ja j = rmS J j ∧ Ia 17 j = I 17 j)) ∧ (∀ j, (k + 1 < j ∨ rmQ I j = true ∨ j = col) → Ja 19 j = J 19 j ∧ Ia 17 j = I 17 j) ∧ Nr I Ja col (k + 1) nr ls ∧ nr ≤ c := by
      intro hq
      refine ⟨_, rfl, Ia, Ja, nr, ls, by rw [nI_add], a1, a2, fun j j1 j2 j3 j4 => a3 j j1 (by
        by_cases e : j = k + 1
        · subst e
          rcases hq with z | z
          · rw [j3] at z
            cases z
          · exact absurd z j4
        · omega) j3 j4, fun j hj => a4 j (hj.imp (fun z => by omega) id), ?_, a6⟩
      have nk : ∀ j, j ≤ k + 1 → rmQ I j = false → j ≠ col → j ≤ k := by
        intro j j2 j3 j4
        by_cases e : j = k + 1
        · subst e
          rcases hq with z | z
          · rw [j3] at z
            cases z
          · exact absurd z j4
        · omega
      rcases a5 with ⟨e1, e2, e3⟩ | ⟨e1, e2, e3, e4, e5, e6, e7⟩
      · exact Or.inl ⟨e1, e2, fun j j1 j2 j3 j4 => e3 j j1 (nk j j2 j3 j4) j3 j4⟩
      · exact Or.inr ⟨e1, by omega, e3, e4, e5, e6, fun j j1 j2 j3 j4 => e7 j j1 (nk j j2 j3 j4) j3 j4⟩
    by_cases hcol : k + 1 = col
    · obtain ⟨s', h1, h2⟩ := skip (Or.inr hcol)
      refine ⟨s', reads _ ?_, h2⟩
      rw [i20, if_pos hcol, if_neg (show ¬ nI 1 = 0 by decide)]
      exact h1
    · cases hq : rmQ I (k + 1) with
      | true =>
        obtain ⟨s', h1, h2⟩ := skip (Or.inl hq)
        refine ⟨s', reads _ ?_, h2⟩
        rw [i20, if_neg hcol, hq, if_neg nbt]
        exact h1
      | false =>
        obtain ⟨v1, v2⟩ := hh.v (k + 1) (by omega) (by omega)
        have w1 := hW (k + 1) (by omega)
        have c1 := hC (rmM I col) (vc (k + 1)) hm1 hmr v2 ⟨k + 1, by omega, by omega, rfl⟩
        have i15 : Ia 15 (k + 1) = nI (vc (k + 1)) := by rw [a1 15 (by decide), up2_off _ _ _ (by decide)]; exact v1
        have j19 : Ja 19 (k + 1) = J 19 (k + 1) := (a4 (k + 1) (Or.inl (by omega))).1
        have ov : ((J 13 (rmM I col * 6 + vc (k + 1)) - J 14 (rmM I col)) - J 18 (k + 1)).toInt = rmC J (rmM I col) (vc (k + 1)) - rmU J (rmM I col) - rmW J (k + 1) := by
          unfold rmC rmU rmW at *
          have e1 : (J 13 (rmM I col * 6 + vc (k + 1)) - J 14 (rmM I col)).toInt = (J 13 (rmM I col * 6 + vc (k + 1))).toInt - (J 14 (rmM I col)).toInt := j_sub (by omega) (by omega)
          rw [j_sub (by rw [e1]; omega) (by rw [e1]; omega), e1]
        generalize hovr : (J 13 (rmM I col * 6 + vc (k + 1)) - J 14 (rmM I col)) - J 18 (k + 1) = ovr at ov
        -- what stands behind either branch
        have fin : ∀ Ib Jb, (∀ a, a ≠ 17 → Ib a = up2 I 20 col (nI 1) a) → (∀ a, a ≠ 19 → Jb a = J a) → (∀ j, j ≠ k + 1 → Jb 19 j = Ja 19 j ∧ Ib 17 j = Ia 17 j) → ((ovr.toInt < rmS J (k + 1) → rmS Jb (k + 1) = ovr.toInt ∧ Ib 17 (k + 1) = nI col) ∧ (¬ ovr.toInt < rmS J (k + 1) → rmS Jb (k + 1) = rmS J (k + 1) ∧ Ib 17 (k + 1) = I 17 (k + 1))) → ∃ s', F_X7_reachFrom_j111 O d 10 (nI col) (nI (rmM I col)) (nI nr) ls (nI (k + 1)) (hp u n T Ib Jb R) = some (.inl s') ∧ ∃ Ia Ja nr ls, s' = (nI nr, ls, nI (k + 1 + 1), hp u n T Ia Ja R) ∧ (∀ a, a ≠ 17 → Ia a = up2 I 20 col (nI 1) a) ∧ (∀ a, a ≠ 19 → Ja a = J a) ∧ (∀ j, 1 ≤ j → j ≤ k + 1 → rmQ I j = false → j ≠ col → (rmC J (rmM I col) (vc j) - rmU J (rmM I col) - rmW J j < rmS J j → rmS Ja j = rmC J (rmM I col) (vc j) - rmU J (rmM I col) - rmW J j ∧ Ia 17 j = nI col) ∧ (¬ rmC J (rmM I col) (vc j) - rmU J (rmM I col) - rmW J j < rmS J j → rmS Ja j = rmS J j ∧ Ia 17 j = I 17 j)) ∧ (∀ j, (k + 1 < j ∨ rmQ I j = true ∨ j = col) → Ja 19 j = J 19 j ∧ Ia 17 j = I 17 j) ∧ Nr I Ja col (k + 1) nr ls ∧ nr ≤ c := by
          intro Ib Jb b1 b2 b3 b4
          have sO : ∀ j, j ≠ k + 1 → rmS Jb j = rmS Ja j := fun j hj => by unfold rmS; rw [(b3 j hj).1]
          have c3 : ∀ j, 1 ≤ j → j ≤ k + 1 → rmQ I j = false → j ≠ col → (rmC J (rmM I col) (vc j) - rmU J (rmM I col) - rmW J j < rmS J j → rmS Jb j = rmC J (rmM I col) (vc j) - rmU J (rmM I col) - rmW J j ∧ Ib 17 j = nI col) ∧ (¬ rmC J (rmM I col) (vc j) - rmU J (rmM I col) - rmW J j < rmS J j → rmS Jb j = rmS J j ∧ Ib 17 j = I 17 j) := by
            intro j j1 j2 j3 j4
            by_cases e : j = k + 1
            · rw [e, ← ov]
              exact b4
            · rw [sO j e, (b3 j e).2]
              exact a3 j j1 (by omega) j3 j4
          have c4 : ∀ j, (k + 1 < j ∨ rmQ I j = true ∨ j = col) → Jb 19 j = J 19 j ∧ Ib 17 j = I 17 j := by
            intro j hj
            have e : j ≠ k + 1 := by
              intro e
              subst e
              rcases hj with z | z | z
              · omega
              · rw [hq] at z
                cases z
              · exact hcol z
            rw [(b3 j e).1, (b3 j e).2]
            exact a4 j (hj.imp (fun z => by omega) id)
          unfold F_X7_reachFrom_j111
          by_cases hc : 0 ≤ lg_cmp (Jb 19 (k + 1)) ls
          · have hle : ls.toInt ≤ rmS Jb (k + 1) := Int64.le_iff_toInt_le.mp ((lg_cmp_ge _ _).mp hc)
            refine ⟨(nI nr, ls, nI (k + 1 + 1), hp u n T Ib Jb R), ?_, Ib, Jb, nr, ls, rfl, b1, b2, c3, c4, ?_, a6⟩
            · rw [ga_10_8 hS, Option.bind_some, rd_19 hS (by omega), Option.bind_some, if_pos hc, nI_add]
            · rcases a5 with ⟨e1, e2, e3⟩ | ⟨e1, e2, e3, e4, e5, e6, e7⟩
              · refine Or.inl ⟨e1, e2, fun j j1 j2 j3 j4 => ?_⟩
                by_cases e : j = k + 1
                · rw [e]
                  omega
                · rw [sO j e]
                  exact e3 j j1 (by omega) j3 j4
              · refine Or.inr ⟨e1, by omega, e3, e4, by rw [sO nr (by omega)]; exact e5, e6, fun j j1 j2 j3 j4 => ?_⟩
                by_cases e : j = k + 1
                · rw [e]
                  exact hle
                · rw [sO j e]
                  exact e7 j j1 (by omega) j3 j4
          · have hlt : rmS Jb (k + 1) < ls.toInt := by
              have : ¬ ls.toInt ≤ (Jb 19 (k + 1)).toInt := fun z => hc ((lg_cmp_ge _ _).mpr (Int64.le_iff_toInt_le.mpr z))
              unfold rmS
              omega
            refine ⟨(nI (k + 1), Jb 19 (k + 1), nI (k + 1 + 1), hp u n T Ib Jb R), ?_, Ib, Jb, k + 1, Jb 19 (k + 1), rfl, b1, b2, c3, c4, ?_, by omega⟩
            · rw [ga_10_8 hS, Option.bind_some, rd_19 hS (by omega), Option.bind_some, if_neg hc, Option.bind_some, rd_19 hS (by omega), Option.bind_some, nI_add]
            · have l2 : ls.toInt ≤ 1125899906842624 := by
                rcases a5 with ⟨-, e2, -⟩ | ⟨-, -, -, -, -, e6, -⟩ <;> omega
              refine Or.inr ⟨by omega, by omega, hq, hcol, rfl, by show rmS Jb (k + 1) < _; omega, fun j j1 j2 j3 j4 => ?_⟩
              show rmS Jb (k + 1) ≤ _
              by_cases e : j = k + 1
              · rw [e]
                exact Int.le_refl _
              · rw [sO j e]
                rcases a5 with ⟨-, e2, e3⟩ | ⟨-, -, -, -, -, -, e7⟩
                · have := e3 j j1 (by omega) j3 j4
                  omega
                · have := e7 j j1 (by omega) j3 j4
                  omega
        have rd : ∀ z, (if 0 ≤ (lg_cmp ovr (J 19 (k + 1))) then F_X7_reachFrom_j111 O d 10 (nI col) (nI (rmM I col)) (nI nr) ls (nI (k + 1)) (hp u n T Ia Ja R) else F_X7_reachFrom_j111 O d 10 (nI col) (nI (rmM I col)) (nI nr) ls (nI (k + 1)) (hp u n T (up2 Ia 17 (k + 1) (nI col)) (up2 Ja 19 (k + 1) ovr) R)) = z → F_X7_reachFrom_l24 O d 10 (nI col) (nI (rmM I col)) (nI nr) ls (nI (k + 1)) (hp u n T Ia Ja R) = z := by
          intro z hz
          refine reads z ?_
          rw [i20, if_neg hcol, hq, if_pos (show bI false = 0 from rfl), ga_10_2 hS, Option.bind_some, ga_10_4 hS, Option.bind_some, rd_15 hS (by omega), Option.bind_some, i15, nI_mul, nI_add, rd_13 hS (by omega), Option.bind_some, ga_10_3 hS, Option.bind_some, rd_14 hS (by omega), Option.bind_some, ga_10_7 hS, Option.bind_some, rd_18 hS (by omega), Option.bind_some, ga_10_8 hS, Option.bind_some, rd_19 hS (by omega), Option.bind_some, a2 13 (by decide), a2 14 (by decide), a2 18 (by decide), j19, hovr]
          rw [← hz]
          by_cases hc : 0 ≤ lg_cmp ovr (J 19 (k + 1))
          · rw [if_pos hc, if_pos hc]
          · rw [if_neg hc, if_neg hc, Option.bind_some, wr_19 hS (by omega), Option.bind_some, ga_10_6 hS, Option.bind_some, wr_17 hS (by omega), Option.bind_some]
        by_cases hc : 0 ≤ lg_cmp ovr (J 19 (k + 1))
        · have hge : rmS J (k + 1) ≤ ovr.toInt := Int64.le_iff_toInt_le.mp ((lg_cmp_ge _ _).mp hc)
          obtain ⟨s', h1, h2⟩ := fin Ia Ja a1 a2 (fun _ _ => ⟨rfl, rfl⟩) ⟨fun z => by omega, fun _ => ⟨by unfold rmS; rw [j19], (a4 (k + 1) (Or.inl (by omega))).2⟩⟩
          exact ⟨s', rd _ (by rw [if_pos hc]; exact h1), h2⟩
        · have hlt : ovr.toInt < rmS J (k + 1) := by
            have : ¬ (J 19 (k + 1)).toInt ≤ ovr.toInt := fun z => hc ((lg_cmp_ge _ _).mpr (Int64.le_iff_toInt_le.mpr z))
            unfold rmS
            omega
          obtain ⟨s', h1, h2⟩ := fin (up2 Ia 17 (k + 1) (nI col)) (up2 Ja 19 (k + 1) ovr) (fun a ha => by rw [up2_off _ _ _ ha]; exact a1 a ha) (fun a ha => by rw [up2_off _ _ _ ha]; exact a2 a ha) (fun j hj => ⟨up2_nk hj, up2_nk hj⟩) ⟨fun _ => ⟨by unfold rmS; rw [up2_at], up2_at _ _ _ _⟩, fun z => absurd hlt z⟩
          exact ⟨s', rd _ (by rw [if_neg hc]; exact h1), h2⟩
  · intro z ⟨Ia, Ja, nr, ls, hz, a1, a2, a3, a4, a5, a6⟩
    subst hz
    have i10 : Ia 10 11 = nI c := by rw [a1 10 (by decide), up2_off _ _ _ (by decide)]; exact hh.c
    refine ⟨_, ?_, Ia, Ja, nr, ls, rfl, a1, a2, a3, fun j hj => a4 j (Or.inr hj), a5, a6⟩
    dsimp only
    unfold F_X7_reachFrom_l24
    rw [gi_10_11 hS, Option.bind_some, i10, if_pos ((nI_ltI (by omega) (by omega)).mpr (by omega))]
end RCH
