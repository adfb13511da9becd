/-! the start: both objects are made, and what holds between two calls holds -/
def sT0 : Nat → mT := fun _ => (0, [])
def sI0 : Nat → Nat → Int32 := fun _ _ => 0
def sJ0 : Nat → Nat → Int64 := fun _ _ => 0
def sR0 : Nat → Nat → Option Nat := fun _ _ => none
def sT : Nat → mT := iT11 (va_up (iT10 (va_up sT0 0 (100 + 10, kd10)) 1) 69 (100 + 11, kd11)) 70
def sI : Nat → Nat → Int32 := iI11 (up1 (iI10 (up1 sI0 0 zI) 0 1) 69 zI) 69 70
def sJ : Nat → Nat → Int64 := iJ11 (up1 (iJ10 (up1 sJ0 0 zJ) 1) 69 zJ) 70
def sR : Nat → Nat → Option Nat := iR11 (up1 (iR10 (up1 sR0 0 zR) 0 1) 69 zR) 69 70
theorem sT_all : ∀ a, a < 98 → sT a = T0.getD a (0, []) := by decide +kernel
theorem sR_all : ∀ p ∈ RfL, sR p.1 p.2.1 = some p.2.2 := by decide +kernel
theorem sJ_all : Cns sJ := ⟨by decide +kernel, by decide +kernel, by decide +kernel, by decide +kernel⟩
theorem sSt : St 98 sT sR := ⟨⟨Nat.le_refl 98, sT_all⟩, by decide, sR_all⟩
theorem s71 {j : Nat} (h5 : j ≠ 5) (h7 : j ≠ 7) : sI 71 j = nI 0 := by
  show up2 (up2 _ 71 5 (-1)) 71 7 (nI 2) 71 j = nI 0
  rw [up2_nk h7, up2_nk h5]
  rfl
theorem kb_0 : ∀ k, k < 8 → kb (nI 0) k = nI 0 := by decide +kernel
theorem sIv : IvW 0 32866 98 sT sI sJ sR 32 26 0 0 0 0 0 0 0 := by
  have v : ∀ {p : Nat → Prop}, ∀ k, k < 0 → p k := fun k hk => absurd hk (Nat.not_lt_zero k)
  refine ⟨⟨sSt, by decide, by decide⟩, ⟨Or.inl ⟨rfl, rfl, by decide +kernel, by decide +kernel⟩, by decide +kernel, by decide +kernel⟩, ?_, ?_, ?_, ?_, ?_, ?_, ?_, sJ_all⟩
  · refine ⟨⟨by decide, by decide, by decide, by decide, by decide, by decide⟩, ⟨s71 (by decide) (by decide), s71 (by decide) (by decide), s71 (by decide) (by decide), s71 (by decide) (by decide), s71 (by decide) (by decide)⟩, Or.inl (by decide +kernel), ⟨⟨0, by decide, s71 (by decide) (by decide)⟩, ⟨2, by decide, by decide +kernel⟩, ⟨0, by decide, s71 (by decide) (by decide)⟩, fun k hk => absurd hk (Nat.not_lt_zero k), fun k hk => ?_, fun k hk => absurd hk (Nat.not_lt_zero k), fun k hk => absurd hk (Nat.not_lt_zero k)⟩, fun k hk => absurd hk (Nat.not_lt_zero k), fun d v hd hv => ?_, fun k hk => absurd hk (Nat.not_lt_zero k), fun k hk => absurd hk (Nat.not_lt_zero k)⟩
    · rw [s71 (by omega) (by omega)]
      exact ⟨⟨0, by decide, rfl⟩, fun _ => rfl⟩
    · rw [s71 (by omega) (by omega)]
      exact ⟨⟨0, by decide, rfl⟩, fun _ => rfl⟩
  · refine ⟨⟨St_C sSt, St_G32 sSt, by decide, by decide +kernel, by decide +kernel, by decide, by decide +kernel, by decide, by decide +kernel, by decide, by decide +kernel, by decide⟩, by decide +kernel, by decide +kernel, fun k hk => ?_, fun k hk => ?_, fun k hk => ?_, fun k hk => ?_, fun k hk => ?_, fun d v hd hv => ?_, fun k hk => ⟨?_, ?_⟩, by decide +kernel, fun k hk => ?_, fun k hk => absurd hk (Nat.not_lt_zero k)⟩
    all_goals (try (rw [s71 (by omega) (by omega)]; rfl))
    rw [s71 (by omega) (by omega)]
    exact kb_0 k hk
  · exact Und_0 (by decide +kernel) (by decide) (by decide +kernel) (by decide +kernel)
  · refine ⟨Or.inl ⟨by decide +kernel, by decide +kernel⟩, Or.inl ⟨by decide +kernel, by decide +kernel⟩, fun p h _ => ?_, fun g hg => ?_⟩
    · rw [show sR 25 0 = none by decide +kernel] at h
      cases h
    · rcases hg with rfl | rfl | h | h
      · exact fun l hl => Or.inl rfl
      · exact fun l hl => Or.inl rfl
      · rw [show sR 25 0 = none by decide +kernel] at h
        cases h
      · rw [show sR 25 1 = none by decide +kernel] at h
        cases h
  · exact ⟨0, by decide, by decide +kernel, by decide +kernel, fun k hk => absurd hk (Nat.not_lt_zero k)⟩
  · exact ⟨⟨by decide +kernel, by decide +kernel, by decide +kernel, by decide +kernel, by decide +kernel⟩, by decide +kernel, by decide +kernel, by decide +kernel, by decide +kernel, by decide +kernel⟩
  · exact ⟨0, 0, by decide, by decide, by decide +kernel, by decide +kernel, Or.inl ⟨rfl, rfl, by decide +kernel, by decide +kernel⟩⟩
theorem start_of (L : Nat) (xs : Nat → Int32) (P : Option Value → mH → Prop) (h : ∀ K, Inv 0 K → Go (mOl L xs) 201 ML_law 16 [some (.ref (oB + 0)), some (.ref 0), some (.ref 69), none] [] K P) : Go (mOl L xs) 201 ML_law 0 (mEnt [.ref oB] 4) [] (0, []) P := by
  show Go (mOl L xs) 201 ML_law 0 [some (.ref (oB + 0)), none, none, none] [] (hp 0 0 sT0 sI0 sJ0 sR0) P
  refine q_new dL_law_0 (by decide +kernel) (nwO_10 (by decide)) ?_
  refine g_dup dL_law_3 rfl ?_
  refine q_spec (Z := MX10_init) (i_10 (O := mOl L xs) (d := 197) (u := 0 + 17) (n := 0 + 1) (T := va_up sT0 0 (100 + 10, kd10)) (I := up1 sI0 0 zI) (J := up1 sJ0 0 zJ) (R := up1 sR0 0 zR) (a := 0) rfl (by decide) (by decide)) dL_law_4 rfl mL_9.1 mL_9.2 (Nat.le_of_ble_eq_true rfl) rfl rfl (Nat.le_of_ble_eq_true rfl) (Nat.le_of_ble_eq_true rfl) ?_
  refine g_astore_n (ls' := [some (.ref (oB + 0)), some (.ref 0), none, none]) dL_law_7 (by decide) rfl ?_
  refine q_new dL_law_8 (by decide +kernel) (nwO_11 (by decide)) ?_
  refine g_dup dL_law_11 rfl ?_
  refine q_spec (Z := MX11_init) (i_11 (O := mOl L xs) (d := 199) (n := 70) (a := 69) (T := va_up (iT10 (va_up sT0 0 (100 + 10, kd10)) 1) 69 (100 + 11, kd11)) (by decide +kernel) (by decide) (by decide)) dL_law_12 rfl mL_12.1 mL_12.2 (Nat.le_of_ble_eq_true rfl) rfl rfl (Nat.le_of_ble_eq_true rfl) (Nat.le_of_ble_eq_true rfl) ?_
  refine g_astore_n (ls' := [some (.ref (oB + 0)), some (.ref 0), some (.ref 69), none]) dL_law_15 (by decide) rfl ?_
  exact h _ ⟨32866, 98, sT, sI, sJ, sR, 32, 26, 0, 0, 0, 0, 0, 0, 0, rfl, sIv⟩
