/-! the start's facts -/
abbrev gN : Cond := Jvm.Cond.and given_1 narrow_1
theorem lw_els (nm : String) (vs : List Int32) (h : ∀ j, j < 3 → Cond.eq (.elem (.static "VaultLeases" nm "[I") (.int (Int32.ofNat j))) (.int (vs.getD j 0)) ∈ flatC gN) {args : Array Value} {s : State} (hs : ∀ c ∈ flatC gN, c.before args s = true) : ∀ j : Nat, j < 3 → (Term.elem (.static "VaultLeases" nm "[I") (.int (Int32.ofNat j))).eval args s none [] s = some (.int (vs.getD j 0)) := fun j hj => va_eqt (hs _ (h j hj))
theorem lw_e1 : ∀ j, j < 3 → Cond.eq (.elem (.static "VaultLeases" "HIGHEST_TERMS" "[I") (.int (Int32.ofNat j))) (.int (([999, 10, 9] : List Int32).getD j 0)) ∈ flatC gN := by decide +kernel
theorem lw_e2 : ∀ j, j < 3 → Cond.eq (.elem (.static "VaultLeases" "LEAST_TOLD" "[I") (.int (Int32.ofNat j))) (.int (([1, 1, 0] : List Int32).getD j 0)) ∈ flatC gN := by decide +kernel
theorem lw_e3 : ∀ j, j < 3 → Cond.eq (.elem (.static "VaultLeases" "MOST_TOLD" "[I") (.int (Int32.ofNat j))) (.int (([99, 20, 99] : List Int32).getD j 0)) ∈ flatC gN := by decide +kernel
theorem lw_e4 : ∀ j, j < 3 → Cond.eq (.elem (.static "VaultLeases" "TOLD_WITHOUT" "[I") (.int (Int32.ofNat j))) (.int (([5, 10, 10] : List Int32).getD j 0)) ∈ flatC gN := by decide +kernel
theorem lw_stat (nm : String) (vs : List Int32) (base : Nat) {args : Array Value} {s : State} (hb : s.heap.size = base) (hts : ∀ w ∈ lw_tbl, w.before args s = true) (hs : ∀ c ∈ flatC gN, c.before args s = true) (hl : Cond.laysStatic "VaultLeases" nm "[I" ∈ lw_tbl) (ha : Cond.arrayOf (.static "VaultLeases" nm "[I") .int ∈ flatC gN) (hn : Cond.eq (.length (.static "VaultLeases" nm "[I")) (.int (Int32.ofNat 3)) ∈ flatC gN)
    (he : ∀ j, j < 3 → Cond.eq (.elem (.static "VaultLeases" nm "[I") (.int (Int32.ofNat j))) (.int (vs.getD j 0)) ∈ flatC gN) : ∃ t : Nat, va_Z "VaultLeases" nm "[I" (.ref t) (mA base) s s.heap ∧ va_T .int t 3 (fun j => .int (vs.getD j 0)) (mA base) s s.heap := by
  have hA : ∀ a : Nat, a < s.heap.size → ¬ mA base a := fun a h1 h2 => by
    have : base ≤ a := h2
    omega
  obtain ⟨t, h1, h2⟩ := va_Tof (f := fun j => Value.int (vs.getD j 0)) (A := mA base) (by decide) (hs _ ha) (va_eqt (hs _ hn)) (lw_els nm vs he hs) hA
  exact ⟨t, va_Zref (hts _ hl) (hts _ (by decide +kernel)) h1 hA, h2⟩
theorem lw_chl : ((flatC gN).drop 61).take 156 = (List.range 156).map (fun j => Cond.eq (.elem (.field (.string "VaultLeases$Reader" 85) "java/lang/String" "value" "[B") (.int (Int32.ofNat j))) (.int (mByt.getD j 0))) := by decide +kernel
theorem lw_chs (j : Nat) (hj : j < 156) : Cond.eq (.elem (.field (.string "VaultLeases$Reader" 85) "java/lang/String" "value" "[B") (.int (Int32.ofNat j))) (.int (mByt.getD j 0)) ∈ flatC gN := by
  refine List.mem_of_mem_drop (i := 61) (List.mem_of_mem_take (i := 156) ?_)
  rw [lw_chl]
  exact List.mem_map.mpr ⟨j, List.mem_range.mpr hj, rfl⟩
theorem lw_arr {s : State} {args : Array Value} (ty : FieldType) (h : (Cond.arrayClass ty).before args s = true) : ∃ cA, ArrOfT s cA ty ∧ s.vm.findClass ("[" ++ ty.toString) = some cA := by
  obtain ⟨cA, k, comp, h1, h2, h3⟩ := Cond.arrayClass_spec h
  exact ⟨cA, fun n z => ⟨fun k h => (by cases h), k, h2, comp, h3⟩, h1⟩
theorem lw_arq {s : State} {args : Array Value} (C : String) (h : (Cond.arrayOver (.object C)).before args s = true) : ∃ cA, ArrOfT s cA (.object C) ∧ va_RA s cA (.object C) := by
  obtain ⟨comp, cA, k, h1, -, h2, h3, h4⟩ := Cond.arrayOver_spec h
  exact ⟨cA, fun n z => ⟨fun k h => (by cases h), k, h2, comp, h3⟩, k, comp, h2, h3, h1, h4⟩
set_option maxHeartbeats 4000000 in
theorem whole_of {p : Program} {e : Env} {s : State} {m : MethodId} {below : List Frame} {meth : Method} {c : Code} (HL : LawRuns) (l : Launch) {b L : Nat} {xs : Nat → Int32} (hL : L ≤ 3072) (C0 : lw_At p s m meth c b L xs) : W p l e room_1 s m #[Value.ref b] below meth c s.heap [] 0 0 (lw_Z below #[Value.ref b] s) (entryFrame m ([Value.ref b] : List Value).toArray 4) := by
  obtain ⟨hx, hb, hr, hml, hown, hts, hX, hbl, hlocks, hgv⟩ := id C0
  have hs := flat_of_before _ hgv
  have hm : ∀ w ∈ mTbl, w.before #[Value.ref b] s = true := fun w hw => hts w (List.mem_filter.mp hw).1
  have hA : ∀ a : Nat, a < s.heap.size → ¬ mA s.heap.size a := fun a h1 h2 => by
    have : s.heap.size ≤ a := h2
    omega
  obtain ⟨t1, hZ1, hT1⟩ := lw_stat "HIGHEST_TERMS" [999, 10, 9] s.heap.size rfl hts hs (by decide +kernel) (by decide +kernel) (by decide +kernel) lw_e1
  obtain ⟨t2, hZ2, hT2⟩ := lw_stat "LEAST_TOLD" [1, 1, 0] s.heap.size rfl hts hs (by decide +kernel) (by decide +kernel) (by decide +kernel) lw_e2
  obtain ⟨t3, hZ3, hT3⟩ := lw_stat "MOST_TOLD" [99, 20, 99] s.heap.size rfl hts hs (by decide +kernel) (by decide +kernel) (by decide +kernel) lw_e3
  obtain ⟨t4, hZ4, hT4⟩ := lw_stat "TOLD_WITHOUT" [5, 10, 10] s.heap.size rfl hts hs (by decide +kernel) (by decide +kernel) (by decide +kernel) lw_e4
  obtain ⟨adK, adV, hSt, hSe⟩ := vk_Sof (N := 1) (tm := fun _ => .string "VaultLeases$Reader" 85) (len := [156]) (byt := [mByt]) (A := mA s.heap.size) (args := #[Value.ref b]) (s := s) (fun i hi => by rw [show i = 0 by omega]; decide) (fun i _ => hs _ (by decide +kernel)) (fun i _ => hs _ (by decide +kernel)) (fun i _ => hs _ (by decide +kernel)) (fun i hi => by rw [show i = 0 by omega]; exact hs _ (by decide +kernel)) (fun i hi j hj => by
    rw [show i = 0 by omega] at hj ⊢
    simp only [List.getD_cons_zero] at hj ⊢
    exact hs _ (lw_chs j hj)) (fun i j hi hj hne => absurd (show i = j by omega) hne) hA
  have hC : ∀ k : Nat, ∃ (cC : ClassId), ∃ (iS : Nat → Nat), ∀ q, mCls[k]? = some q → u_Kn s q.1 q.2.1 q.2.2 cC iS := by
    intro k
    cases hq : mCls[k]? with
    | none => exact ⟨0, fun _ => 0, fun q h => by cases h⟩
    | some q =>
      obtain ⟨cC, iS, h⟩ := u_known (C := q.1) (T := q.2.1) (N := q.2.2) (n := q.2.2) hm (mCls_ok hq).1 (hm _ (mCls_ok hq).2.2.2.1)
      exact ⟨cC, iS, fun q' h' => by cases h'; exact h⟩
  obtain ⟨dC, hC⟩ := Classical.axiomOfChoice hC
  obtain ⟨dI, hC⟩ := Classical.axiomOfChoice hC
  obtain ⟨a0, ha0, hf0⟩ := lw_arr .int (hts _ mArr0)
  obtain ⟨a1, ha1, hf1⟩ := lw_arr .long (hts _ mArr1)
  obtain ⟨a2, ha2, hf2⟩ := lw_arr .byte (hts _ mArr2)
  obtain ⟨a3, ha3, hf3⟩ := lw_arr .boolean (hts _ mArr3)
  have o4 : (Cond.arrayOver (.object RX2)).before #[Value.ref b] s = true := hts _ (by decide +kernel)
  have o5 : (Cond.arrayOver (.object RX5)).before #[Value.ref b] s = true := hts _ (by decide +kernel)
  obtain ⟨a4, ha4, hf4⟩ := lw_arq RX2 o4
  obtain ⟨a5, ha5, hf5⟩ := lw_arq RX5 o5
  obtain ⟨kA, e0, e1, e2, e3, e4, e5⟩ : ∃ kA : Nat → ClassId, kA 0 = a0 ∧ kA 1 = a1 ∧ kA 2 = a2 ∧ kA 3 = a3 ∧ kA 4 = a4 ∧ kA 5 = a5 := ⟨fun k => ([a0, a1, a2, a3, a4, a5] : List ClassId).getD k 0, rfl, rfl, rfl, rfl, rfl, rfl⟩
  obtain ⟨od, f0, f1, f2, f3, f4, f100, f101⟩ : ∃ od : Nat → Nat, od 0 = b ∧ od 1 = t1 ∧ od 2 = t2 ∧ od 3 = t3 ∧ od 4 = t4 ∧ od 100 = adK 0 ∧ od 101 = adV 0 := ⟨fun k => if k = 100 then adK 0 else if k = 101 then adV 0 else ([b, t1, t2, t3, t4] : List Nat).getD k 0, rfl, rfl, rfl, rfl, rfl, rfl, rfl⟩
  have hK : va_K (dC, dI) mCls (mTys kA) s := by
    refine ⟨fun k q hq => hC k q hq, fun k q hk => ?_⟩
    match k, hk with
    | 0, hk => cases hk; rw [e0]; exact ⟨ha0, hf0⟩
    | 1, hk => cases hk; rw [e1]; exact ⟨ha1, hf1⟩
    | 2, hk => cases hk; rw [e2]; exact ⟨ha2, hf2⟩
    | 3, hk => cases hk; rw [e3]; exact ⟨ha3, hf3⟩
    | 4, hk => cases hk; rw [e4]; exact ⟨ha4, hf4⟩
    | 5, hk => cases hk; rw [e5]; exact ⟨ha5, hf5⟩
    | k + 6, hk => simp [mTys] at hk
  have hctx : mCtx (mOl L xs) s.heap.size od (dC, dI) kA (mX s.heap.size od) s := by
    refine ⟨Nat.le_refl _, hK, va_AO.of o4, va_AO.of o5, fun w hw hn => ?_, fun j x hx => ?_, fun q hq => ?_, fun own i tx hi => ?_, ?_, ?_, ?_⟩
    · cases w with
      | fieldLinkNest => exact va_Nw.of rfl (hts _ hw)
      | methodLinkNest => exact va_Nw.of rfl (hts _ hw)
      | _ => cases hn
    · match j, hx with
      | 0, hx =>
        cases hx
        obtain ⟨scr, g1, g2, g3, g4, g5⟩ := hX
        rw [f0]
        exact ⟨scr, g1, g2, g3, Nat.le_of_eq g4.symm, by rw [g4], g5, hA b hbl⟩
      | 1, hx => cases hx; rw [f1]; exact hT1
      | 2, hx => cases hx; rw [f2]; exact hT2
      | 3, hx => cases hx; rw [f3]; exact hT3
      | 4, hx => cases hx; rw [f4]; exact hT4
      | j + 5, hx => simp [mOl] at hx
    · simp only [mStat, List.mem_cons, List.not_mem_nil, or_false] at hq
      rcases hq with rfl | rfl | rfl | rfl
      · rw [f1]; exact hZ1
      · rw [f2]; exact hZ2
      · rw [f3]; exact hZ3
      · rw [f4]; exact hZ4
    · obtain ⟨g1, g2⟩ := lw_strs_in hi
      have g3 := hts _ hi
      rw [g1, g2] at g3 ⊢
      rw [f100]
      exact vk_R.of g3 (hSe 0 Nat.one_pos)
    · refine ⟨fun i hi => ?_, fun i j hi hj _ => by omega⟩
      rw [show i = 0 by omega, f100, f101]
      exact hSt.1 0 Nat.one_pos
    · exact va_Zof (hts _ (by decide +kernel)) (hts _ (by decide +kernel)) (va_eqi (hs _ (by decide +kernel))) hA
    · exact va_Zqof (hts _ (by decide +kernel)) (hts _ (by decide +kernel)) (hs _ (by decide +kernel)) hA
  obtain ⟨n, d, K', hd, hrun, hk1, hk2⟩ := HL L xs hL
  have hl := lv_entry ([Value.ref b]) (n := 4) (Nat.le_of_ble_eq_true rfl)
  rw [lg_entry_eq]
  generalize (lg_sl ([.ref b]) ++ List.replicate (4 - (lg_sl ([.ref b])).length) Slot.unset).toArray = ls at hl ⊢
  have hl2 : lv_has ls 4 (mLv s.heap.size od (mEnt [.ref oB] 4)) := mEnt_has (by
    rw [show ([Value.ref oB].map (mV s.heap.size od)) = [Value.ref b] from by show [Value.ref (mAd s.heap.size od (oB + 0))] = _; rw [mAd_ge, f0]]
    exact hl)
  have hw := mSim (l := l) (mX_keep s.heap.size od) (mChr_row l (mOl L xs) s.heap.size od (dC, dI) kA) n d yL_law code 4 (some .boolean) (0, []) (some (.int 1)) K' p e s m #[Value.ref b] below meth c hx hb hr hlocks hml hown (fun h => absurd h (by decide)) hm hctx rfl 0 (mEnt [.ref oB] 4) [] (0, []) hrun s.heap [] 0 0 ls (fun k q h => by simp [mWs] at h) va_S.rf hl2 rfl rfl
  refine W_room ?_ ?_ ?_ ?_ (fun t ht => ?_) hw
  · show d + 8 ≤ 2048
    omega
  · show K'.2.length - 0 ≤ 600000
    omega
  · show K'.1 - 0 ≤ 7302250
    omega
  · show (d + 8) * 64 ≤ 84000
    omega
  · obtain ⟨o, q1, q2, ⟨q3, -, -⟩, Lc, ⟨q4, q5, q6⟩, q7⟩ := ht
    refine ⟨o, q1, q2, q3, q4, q5, q6.weaken (fun y hy hlt => absurd hlt (Nat.not_lt.mpr (q7 y hy))) ?_ ?_⟩
    · show K'.2.length - 0 ≤ 600000
      omega
    · show K'.1 - 0 ≤ 7302250
      omega
