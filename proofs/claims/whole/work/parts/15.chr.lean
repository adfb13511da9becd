/-! String.charAt of the words: five methods of the JDK, walked -/
theorem dJ0_charAt_5068e_0 : decode cJ0_charAt_5068e 0 = .ok (.aload_n 0, 1) := by decide +kernel
theorem dJ0_charAt_5068e_1 : decode cJ0_charAt_5068e 1 = .ok (.invokevirtual 492, 3) := by decide +kernel
theorem dJ0_charAt_5068e_4 : decode cJ0_charAt_5068e 4 = .ok (.ifCond .eq 12, 3) := by decide +kernel
theorem dJ0_charAt_5068e_7 : decode cJ0_charAt_5068e 7 = .ok (.aload_n 0, 1) := by decide +kernel
theorem dJ0_charAt_5068e_8 : decode cJ0_charAt_5068e 8 = .ok (.getfield 9, 3) := by decide +kernel
theorem dJ0_charAt_5068e_11 : decode cJ0_charAt_5068e 11 = .ok (.iload_n 1, 1) := by decide +kernel
theorem dJ0_charAt_5068e_12 : decode cJ0_charAt_5068e 12 = .ok (.invokestatic 495, 3) := by decide +kernel
theorem dJ0_charAt_5068e_15 : decode cJ0_charAt_5068e 15 = .ok (.ireturn, 1) := by decide +kernel
theorem dJ0_charAt_5068e_16 : decode cJ0_charAt_5068e 16 = .ok (.aload_n 0, 1) := by decide +kernel
theorem dJ0_charAt_5068e_17 : decode cJ0_charAt_5068e 17 = .ok (.getfield 9, 3) := by decide +kernel
theorem dJ0_charAt_5068e_20 : decode cJ0_charAt_5068e 20 = .ok (.iload_n 1, 1) := by decide +kernel
theorem dJ0_charAt_5068e_21 : decode cJ0_charAt_5068e 21 = .ok (.invokestatic 498, 3) := by decide +kernel
theorem dJ0_charAt_5068e_24 : decode cJ0_charAt_5068e 24 = .ok (.ireturn, 1) := by decide +kernel
theorem dJ0_isLatin1_aae02_0 : decode cJ0_isLatin1_aae02 0 = .ok (.getstatic 38, 3) := by decide +kernel
theorem dJ0_isLatin1_aae02_3 : decode cJ0_isLatin1_aae02 3 = .ok (.ifCond .eq 14, 3) := by decide +kernel
theorem dJ0_isLatin1_aae02_6 : decode cJ0_isLatin1_aae02 6 = .ok (.aload_n 0, 1) := by decide +kernel
theorem dJ0_isLatin1_aae02_7 : decode cJ0_isLatin1_aae02 7 = .ok (.getfield 15, 3) := by decide +kernel
theorem dJ0_isLatin1_aae02_10 : decode cJ0_isLatin1_aae02 10 = .ok (.ifCond .ne 7, 3) := by decide +kernel
theorem dJ0_isLatin1_aae02_13 : decode cJ0_isLatin1_aae02 13 = .ok (.iconst 1, 1) := by decide +kernel
theorem dJ0_isLatin1_aae02_14 : decode cJ0_isLatin1_aae02 14 = .ok (.goto 4, 3) := by decide +kernel
theorem dJ0_isLatin1_aae02_17 : decode cJ0_isLatin1_aae02 17 = .ok (.iconst 0, 1) := by decide +kernel
theorem dJ0_isLatin1_aae02_18 : decode cJ0_isLatin1_aae02 18 = .ok (.ireturn, 1) := by decide +kernel
theorem dJ0_checkIndex_df160_0 : decode cJ0_checkIndex_df160 0 = .ok (.iload_n 0, 1) := by decide +kernel
theorem dJ0_checkIndex_df160_1 : decode cJ0_checkIndex_df160 1 = .ok (.iload_n 1, 1) := by decide +kernel
theorem dJ0_checkIndex_df160_2 : decode cJ0_checkIndex_df160 2 = .ok (.getstatic 1053, 3) := by decide +kernel
theorem dJ0_checkIndex_df160_5 : decode cJ0_checkIndex_df160 5 = .ok (.invokestatic 1059, 3) := by decide +kernel
theorem dJ0_checkIndex_df160_8 : decode cJ0_checkIndex_df160 8 = .ok (.pop, 1) := by decide +kernel
theorem dJ0_checkIndex_df160_9 : decode cJ0_checkIndex_df160 9 = .ok (.return_, 1) := by decide +kernel
theorem dJ1_charAt_3b067_0 : decode cJ1_charAt_3b067 0 = .ok (.iload_n 1, 1) := by decide +kernel
theorem dJ1_charAt_3b067_1 : decode cJ1_charAt_3b067 1 = .ok (.aload_n 0, 1) := by decide +kernel
theorem dJ1_charAt_3b067_2 : decode cJ1_charAt_3b067 2 = .ok (.arraylength, 1) := by decide +kernel
theorem dJ1_charAt_3b067_3 : decode cJ1_charAt_3b067 3 = .ok (.invokestatic 9, 3) := by decide +kernel
theorem dJ1_charAt_3b067_6 : decode cJ1_charAt_3b067 6 = .ok (.aload_n 0, 1) := by decide +kernel
theorem dJ1_charAt_3b067_7 : decode cJ1_charAt_3b067 7 = .ok (.iload_n 1, 1) := by decide +kernel
theorem dJ1_charAt_3b067_8 : decode cJ1_charAt_3b067 8 = .ok (.baload, 1) := by decide +kernel
theorem dJ1_charAt_3b067_9 : decode cJ1_charAt_3b067 9 = .ok (.sipush 255, 3) := by decide +kernel
theorem dJ1_charAt_3b067_12 : decode cJ1_charAt_3b067 12 = .ok (.iand, 1) := by decide +kernel
theorem dJ1_charAt_3b067_13 : decode cJ1_charAt_3b067 13 = .ok (.i2c, 1) := by decide +kernel
theorem dJ1_charAt_3b067_14 : decode cJ1_charAt_3b067 14 = .ok (.ireturn, 1) := by decide +kernel
theorem dJ3_checkIndex_8e157_0 : decode cJ3_checkIndex_8e157 0 = .ok (.iload_n 0, 1) := by decide +kernel
theorem dJ3_checkIndex_8e157_1 : decode cJ3_checkIndex_8e157 1 = .ok (.ifCond .lt 8, 3) := by decide +kernel
theorem dJ3_checkIndex_8e157_4 : decode cJ3_checkIndex_8e157 4 = .ok (.iload_n 0, 1) := by decide +kernel
theorem dJ3_checkIndex_8e157_5 : decode cJ3_checkIndex_8e157 5 = .ok (.iload_n 1, 1) := by decide +kernel
theorem dJ3_checkIndex_8e157_6 : decode cJ3_checkIndex_8e157 6 = .ok (.if_icmp .lt 10, 3) := by decide +kernel
theorem dJ3_checkIndex_8e157_9 : decode cJ3_checkIndex_8e157 9 = .ok (.aload_n 2, 1) := by decide +kernel
theorem dJ3_checkIndex_8e157_10 : decode cJ3_checkIndex_8e157 10 = .ok (.iload_n 0, 1) := by decide +kernel
theorem dJ3_checkIndex_8e157_11 : decode cJ3_checkIndex_8e157 11 = .ok (.iload_n 1, 1) := by decide +kernel
theorem dJ3_checkIndex_8e157_12 : decode cJ3_checkIndex_8e157 12 = .ok (.invokestatic 95, 3) := by decide +kernel
theorem dJ3_checkIndex_8e157_15 : decode cJ3_checkIndex_8e157 15 = .ok (.athrow, 1) := by decide +kernel
theorem dJ3_checkIndex_8e157_16 : decode cJ3_checkIndex_8e157 16 = .ok (.iload_n 0, 1) := by decide +kernel
theorem dJ3_checkIndex_8e157_17 : decode cJ3_checkIndex_8e157 17 = .ok (.ireturn, 1) := by decide +kernel
def mByt : List Int32 := mChs.map nI
def mX (base : Nat) (od : Nat → Nat) : State → Prop := fun s => vk_S 1 [156] [mByt] (fun _ => od 100) (fun _ => od 101) (mA base) s s.heap ∧ va_Z "java/lang/String" "COMPACT_STRINGS" "Z" (.int 1) (mA base) s s.heap ∧ va_Zq "jdk/internal/util/Preconditions" "SIOOBE_FORMATTER" "Ljava/util/function/BiFunction;" (mA base) s s.heap
theorem mX_keep (base : Nat) (od : Nat → Nat) : mKeep base (mX base od) := by
  intro s U hW _ hq h
  exact ⟨(h.1.moved hW.alike).kept hq, (h.2.1.moved hW.alike).kept hq, (h.2.2.moved hW.alike).kept hq⟩
def qH (r : Option Value) : Array Value → State → Outcome → State → Prop := fun _ st oc t => oc = .returned r ∧ t.heap = st.heap
def rH (f : Nat) : Room := { frames := f, cells := 0, slots := 0, locals := f * 64 }
theorem mJ_pre : mCode yJ3_checkIndex_8e157 = some (cJ3_checkIndex_8e157, 3, some .int) := by decide +kernel
theorem mJ_chk : mCode yJ0_checkIndex_df160 = some (cJ0_checkIndex_df160, 2, none) := by decide +kernel
theorem mJ_lat : mCode yJ1_charAt_3b067 = some (cJ1_charAt_3b067, 2, some .char) := by decide +kernel
theorem mJ_isl : mCode yJ0_isLatin1_aae02 = some (cJ0_isLatin1_aae02, 1, some .boolean) := by decide +kernel
theorem mJ_chr : mCode yJ0_charAt_5068e = some (cJ0_charAt_5068e, 2, some .char) := by decide +kernel
section CHR
variable {p : Program} {l : Launch} {e : Env} {R : Room} {s : State} {m : MethodId} {args : Array Value} {below : List Frame} {meth : Method} {c : Code} {H : Heap} {locs : List Loc} {cells slots : Nat} {Q : State → Prop}
theorem mCallH {pc : Nat} {L : Array Slot} {st0 rest : List Value} {r : Option Value} {a : Array Value} (hr : va_Run p l e R s m args below meth c H locs cells slots 0 0 (F0 m pc L st0) rest (qH r a) (fun _ => False))
    (kk : W p l e R s m args below meth c H locs cells slots Q (F0 m (pc + 3) L (r.toList ++ rest))) : W p l e R s m args below meth c H locs cells slots Q (F0 m pc L st0) := by
  intro T hT Y
  obtain ⟨v', st₀, t, T', L', h0, Y', hL, e1, e2, ⟨hv, hh⟩, st⟩ := hr T hT Y
  cases hv
  have : L' = [] := by
    cases L' with
    | nil => rfl
    | cons q _ => exact (hL q List.mem_cons_self).elim
  subst this
  rw [List.append_nil] at Y'
  obtain ⟨t2, a1, b1⟩ := kk T' (by rw [e1, hh, h0]) Y'
  exact ⟨t2, st t2 a1, b1⟩
variable {O : mO} {base : Nat} {od : Nat → Nat} {D : va_G} {kA : Nat → ClassId}
def pH (O : mO) (base : Nat) (od : Nat → Nat) (D : va_G) (kA : Nat → ClassId) (as : List Value) : Array Value → State → Prop := va_Pc as (fun U => mCtx O base od D kA (mX base od) U)
theorem pH_blind (as : List Value) : FrameBlind (pH O base od D kA as) := by
  intro a U g mk h
  exact ⟨h.1, mCtx_to (mX_keep base od) (State.WarmedH.refl U) (Nat.le_refl _) (fun _ _ _ => rfl) h.2⟩
theorem pH_pre {as : List Value} (hC : mCtx O base od D kA (mX base od) s) (hS : va_S (mA base) s.heap H locs) : ∀ U : State, U.heap = H → s.WarmedH U.vm → pH O base od D kA as as.toArray U := fun U hU hW => ⟨rfl, mCtx_to (mX_keep base od) hW (by rw [hU]; exact hS.1) (fun q h1 h2 => by rw [hU]; exact hS.2.1 q h1 h2) hC⟩
theorem gS {own : String} {i : Nat} {z : MethodName} {b : ByteArray} {nL : Nat} {ret : Option FieldType} (h1 : Cond.methodLink own i z ∈ lw_tbl) (h2 : Cond.static z ∈ lw_tbl) (h3 : Cond.initialized z.cls ∈ lw_tbl) (h4 : mCode z = some (b, nL, ret)) : GoodIn mTbl (va_wsS own i z (mWd z b nL ret)) := by
  intro w hw2
  rcases List.mem_append.mp hw2 with h5 | h5
  · simp only [List.mem_cons, List.not_mem_nil, or_false] at h5
    rcases h5 with rfl | rfl | rfl
    · exact mTbl_good (mTbl_in h1 rfl)
    · exact mTbl_good (mTbl_in h2 rfl)
    · exact mTbl_good (mTbl_in h3 rfl)
  · exact mWd_good h4 w h5
theorem gV {own : String} {i : Nat} {z : MethodName} {b : ByteArray} {nL : Nat} {ret : Option FieldType} (h1 : Cond.methodLink own i z ∈ mTbl) (h2 : Cond.instanceMethod z ∈ lw_tbl) (h2' : Cond.selects z.cls z z ∈ lw_tbl) (h3 : Cond.initialized z.cls ∈ lw_tbl) (h4 : mCode z = some (b, nL, ret)) : GoodIn mTbl (wsV own i z.cls z (mWd z b nL ret)) := by
  intro w hw2
  rcases List.mem_append.mp hw2 with h5 | h5
  · simp only [List.mem_cons, List.not_mem_nil, or_false] at h5
    rcases h5 with rfl | rfl | rfl | rfl
    · exact mTbl_good h1
    · exact mTbl_good (mTbl_in h2 rfl)
    · exact mTbl_good (mTbl_in h2' rfl)
    · exact mTbl_good (mTbl_in h3 rfl)
  · exact mWd_good h4 w h5
set_option maxHeartbeats 4000000 in
theorem c_pre (l : Launch) {k n : Nat} (hk : k < n) (hn : n < 2 ^ 31) {fm : Value} (hf : fm = .null ∨ ∃ t, fm = .ref t) : Met l yJ3_checkIndex_8e157 (mWd yJ3_checkIndex_8e157 cJ3_checkIndex_8e157 3 (some .int)) (rH 1) (pH O base od D kA [.int (nI k), .int (nI n), fm]) (qH (some (.int (nI k)))) 0 0 (fun _ => False) := by
  refine Met.ofW (cc := cJ3_checkIndex_8e157) (maxL := 3) (ret := some .int) (by decide) rfl ?_
  intro p e s m args below meth c s₁ B hml hv
  obtain ⟨rfl, hC⟩ := hv
  have hx := B.exec
  have hb := B.bytes
  have hr := B.returns
  have hlocks := B.notSynchronized
  rw [lg_entry_eq]
  have hl := lv_entry ([.int (nI k), .int (nI n), fm]) (n := 3) (by rcases hf with rfl | ⟨t, rfl⟩ <;> exact Nat.le_of_ble_eq_true rfl)
  generalize (lg_sl ([.int (nI k), .int (nI n), fm]) ++ List.replicate (3 - (lg_sl ([.int (nI k), .int (nI n), fm])).length) Slot.unset).toArray = ls at hl ⊢
  have hl : lv_has ls 3 [(0, .int (nI k)), (1, .int (nI n)), (2, fm)] := hl
  refine lv_iload_n hx hb dJ3_checkIndex_8e157_0 rfl (lv_at hl 0 rfl) ?_
  refine lv_if_lt (tgt := 9) hx hb dJ3_checkIndex_8e157_1 (by decide) (fun h => absurd h (nI_pos (by omega))) (fun _ => ?_)
  refine lv_iload_n hx hb dJ3_checkIndex_8e157_4 rfl (lv_at hl 0 rfl) ?_
  refine lv_iload_n hx hb dJ3_checkIndex_8e157_5 rfl (lv_at hl 1 rfl) ?_
  refine lv_icmp_lt (tgt := 16) hx hb dJ3_checkIndex_8e157_6 (by decide) (fun _ => ?_) (fun h => absurd (nI_lt hk hn) h)
  refine lv_iload_n hx hb dJ3_checkIndex_8e157_16 rfl (lv_at hl 0 rfl) ?_
  exact W.iret hx hb hr (fun t ht _ => ⟨rfl, ht⟩) (fun q hq => by cases hq) dJ3_checkIndex_8e157_17
set_option maxHeartbeats 4000000 in
theorem c_chk (l : Launch) {k n : Nat} (hk : k < n) (hn : n < 2 ^ 31) : Met l yJ0_checkIndex_df160 (mWd yJ0_checkIndex_df160 cJ0_checkIndex_df160 2 none) (rH 2) (pH O base od D kA [.int (nI k), .int (nI n)]) (qH none) 0 0 (fun _ => False) := by
  refine Met.ofW (cc := cJ0_checkIndex_df160) (maxL := 2) (ret := none) (by decide) rfl ?_
  intro p e s m args below meth c s₁ B hml hv
  obtain ⟨rfl, hC⟩ := hv
  have hx := B.exec
  have hb := B.bytes
  have hr := B.returns
  have hlocks := B.notSynchronized
  have hown := findClass_of_methodNamed B.named
  have hts : ∀ w ∈ mTbl, w.before _ s = true := fun w hw => atoms_spec (ws := mWd yJ0_checkIndex_df160 cJ0_checkIndex_df160 2 none) B.pre w (List.mem_cons_of_mem _ hw)
  have tw : ∀ {w : Cond}, w ∈ lw_tbl → goodWord w = true → w.before _ s = true := fun h g => hts _ (mTbl_in h g)
  rw [lg_entry_eq]
  have hl := lv_entry ([.int (nI k), .int (nI n)]) (n := 2) (Nat.le_of_ble_eq_true rfl)
  generalize (lg_sl ([.int (nI k), .int (nI n)]) ++ List.replicate (2 - (lg_sl ([.int (nI k), .int (nI n)])).length) Slot.unset).toArray = ls at hl ⊢
  have hl : lv_has ls 2 [(0, .int (nI k)), (1, .int (nI n))] := hl
  have hS : va_S (mA base) s.heap s.heap [] := va_S.rf
  refine lv_iload_n hx hb dJ0_checkIndex_df160_0 rfl (lv_at hl 0 rfl) ?_
  refine lv_iload_n hx hb dJ0_checkIndex_df160_1 rfl (lv_at hl 1 rfl) ?_
  have rest : ∀ fm : Value, (fm = .null ∨ ∃ t, fm = .ref t) → W p l e (headSpec (mWd yJ0_checkIndex_df160 cJ0_checkIndex_df160 2 none) (rH 2)).room s m (([.int (nI k), .int (nI n)] : List Value).toArray) below meth c s.heap [] 0 0 (MQ below (qH none) (([.int (nI k), .int (nI n)] : List Value).toArray) s 0 0 (fun _ => False)) (F0 m 5 ls (fm :: [.int (nI n), .int (nI k)])) := by
    intro fm hf
    refine mCallH (va_runS (n := 3) (As := [.int (nI k), .int (nI n), fm]) (rest := []) ⟨hx, hb, hml, hown, hts⟩ (c_pre (O := O) (base := base) (od := od) (D := D) (kA := kA) l hk hn hf) (va_cwS 3 hts (gS (by decide +kernel) (by decide +kernel) (by decide +kernel) mJ_pre) rfl rfl rfl (by decide +kernel) ⟨Nat.le_of_ble_eq_true rfl, Nat.le_of_ble_eq_true rfl⟩) ⟨pH_blind _, pH_pre hC hS⟩ rfl rfl hl.1 rfl (lv_room (Nat.le_of_ble_eq_true rfl)) dJ0_checkIndex_df160_5 ⟨Nat.le_refl _, Nat.le_refl _⟩) ?_
    refine lv_pop hx hb dJ0_checkIndex_df160_8 rfl ?_
    exact W.vret hx hb hr (fun t ht _ => ⟨rfl, ht⟩) (fun q hq => by cases hq) dJ0_checkIndex_df160_9
  have hX := hC.2.2.2.2.2.2.2.2.2.2
  rcases hX with h | ⟨t, h⟩
  · exact va_gets hx hb h hS hown (tw (by decide +kernel) rfl) (fun x h => h) dJ0_checkIndex_df160_2 (rest _ (Or.inl rfl))
  · exact va_gets hx hb h hS hown (tw (by decide +kernel) rfl) (fun x h => h) dJ0_checkIndex_df160_2 (rest _ (Or.inr ⟨_, rfl⟩))
theorem mCh_ok : ∀ k, k < 156 → ((((mByt.getD k 0) &&& (Int16.ofInt 255).toInt32).toUInt32 % 65536).toInt32 = nI (mChs.getD k 0)) ∧ narrow .char (.int (nI (mChs.getD k 0))) = .int (nI (mChs.getD k 0)) := by decide +kernel
set_option maxHeartbeats 4000000 in
theorem c_lat (l : Launch) {k : Nat} (hk : k < 156) : Met l yJ1_charAt_3b067 (mWd yJ1_charAt_3b067 cJ1_charAt_3b067 2 (some .char)) (rH 3) (pH O base od D kA [.ref (od 101), .int (nI k)]) (qH (some (.int (nI (mChs.getD k 0))))) 0 0 (fun _ => False) := by
  refine Met.ofW (cc := cJ1_charAt_3b067) (maxL := 2) (ret := some .char) (by decide) rfl ?_
  intro p e s m args below meth c s₁ B hml hv
  obtain ⟨rfl, hC⟩ := hv
  have hx := B.exec
  have hb := B.bytes
  have hr := B.returns
  have hlocks := B.notSynchronized
  have hown := findClass_of_methodNamed B.named
  have hts : ∀ w ∈ mTbl, w.before _ s = true := fun w hw => atoms_spec (ws := mWd yJ1_charAt_3b067 cJ1_charAt_3b067 2 (some .char)) B.pre w (List.mem_cons_of_mem _ hw)
  rw [lg_entry_eq]
  have hl := lv_entry ([.ref (od 101), .int (nI k)]) (n := 2) (Nat.le_of_ble_eq_true rfl)
  generalize (lg_sl ([.ref (od 101), .int (nI k)]) ++ List.replicate (2 - (lg_sl ([.ref (od 101), .int (nI k)])).length) Slot.unset).toArray = ls at hl ⊢
  have hl : lv_has ls 2 [(0, .ref (od 101)), (1, .int (nI k))] := hl
  have hS : va_S (mA base) s.heap s.heap [] := va_S.rf
  have hT := (hC.2.2.2.2.2.2.2.2.1.1 0 Nat.one_pos).2.2.2
  refine lv_iload_n hx hb dJ1_charAt_3b067_0 rfl (lv_at hl 1 rfl) ?_
  refine lv_aload_n hx hb dJ1_charAt_3b067_1 rfl (lv_at hl 0 rfl) ?_
  refine va_tlen hx hb hT hS rfl dJ1_charAt_3b067_2 ?_
  refine mCallH (va_runS (n := 2) (As := [.int (nI k), .int (nI 156)]) (rest := []) ⟨hx, hb, hml, hown, hts⟩ (c_chk (O := O) (base := base) (od := od) (D := D) (kA := kA) l hk (by decide)) (va_cwS 2 hts (gS (by decide +kernel) (by decide +kernel) (by decide +kernel) mJ_chk) rfl rfl rfl (by decide +kernel) ⟨Nat.le_of_ble_eq_true rfl, Nat.le_of_ble_eq_true rfl⟩) ⟨pH_blind _, pH_pre hC hS⟩ rfl rfl hl.1 rfl (lv_room (Nat.le_of_ble_eq_true rfl)) dJ1_charAt_3b067_3 ⟨Nat.le_refl _, Nat.le_refl _⟩) ?_
  refine lv_aload_n hx hb dJ1_charAt_3b067_6 rfl (lv_at hl 0 rfl) ?_
  refine lv_iload_n hx hb dJ1_charAt_3b067_7 rfl (lv_at hl 1 rfl) ?_
  have hT' : va_T .byte (od 101) 156 (fun j => .int (mByt.getD j 0)) (mA base) s s.heap := by
    simp only [List.getD_cons_zero] at hT
    exact hT
  refine va_tb hx hb hT' hS (vp_in_nI hk (by decide)) (v := .int (mByt.getD k 0)) (congrArg (fun z => Value.int (mByt.getD z 0)) (nI_clamp (by omega))) dJ1_charAt_3b067_8 ?_
  refine lv_sipush hx hb dJ1_charAt_3b067_9 rfl ?_
  refine lv_iand hx hb dJ1_charAt_3b067_12 ?_
  refine lv_i2c hx hb dJ1_charAt_3b067_13 (mCh_ok k hk).1 ?_
  exact W.zret hx hb hr (mCh_ok k hk).2 (fun t ht _ => ⟨rfl, ht⟩) (fun q hq => by cases hq) dJ1_charAt_3b067_14
set_option maxHeartbeats 4000000 in
theorem c_isl (l : Launch) : Met l yJ0_isLatin1_aae02 (mWd yJ0_isLatin1_aae02 cJ0_isLatin1_aae02 1 (some .boolean)) (rH 1) (pH O base od D kA [.ref (od 100)]) (qH (some (.int 1))) 0 0 (fun _ => False) := by
  refine Met.ofW (cc := cJ0_isLatin1_aae02) (maxL := 1) (ret := some .boolean) (by decide) rfl ?_
  intro p e s m args below meth c s₁ B hml hv
  obtain ⟨rfl, hC⟩ := hv
  have hx := B.exec
  have hb := B.bytes
  have hr := B.returns
  have hlocks := B.notSynchronized
  have hown := findClass_of_methodNamed B.named
  have hts : ∀ w ∈ mTbl, w.before _ s = true := fun w hw => atoms_spec (ws := mWd yJ0_isLatin1_aae02 cJ0_isLatin1_aae02 1 (some .boolean)) B.pre w (List.mem_cons_of_mem _ hw)
  have tw : ∀ {w : Cond}, w ∈ lw_tbl → goodWord w = true → w.before _ s = true := fun h g => hts _ (mTbl_in h g)
  rw [lg_entry_eq]
  have hl := lv_entry ([.ref (od 100)]) (n := 1) (Nat.le_of_ble_eq_true rfl)
  generalize (lg_sl ([.ref (od 100)]) ++ List.replicate (1 - (lg_sl ([.ref (od 100)])).length) Slot.unset).toArray = ls at hl ⊢
  have hl : lv_has ls 1 [(0, .ref (od 100))] := hl
  have hS : va_S (mA base) s.heap s.heap [] := va_S.rf
  refine va_gets hx hb hC.2.2.2.2.2.2.2.2.2.1 hS hown (tw (by decide +kernel) rfl) (fun x h => h) dJ0_isLatin1_aae02_0 ?_
  refine lv_if_eq (tgt := 17) hx hb dJ0_isLatin1_aae02_3 (by decide) (fun h => absurd h (by decide)) (fun _ => ?_)
  refine lv_aload_n hx hb dJ0_isLatin1_aae02_6 rfl (lv_at hl 0 rfl) ?_
  refine vk_getf hx hb (hC.2.2.2.2.2.2.2.2.1.1 0 Nat.one_pos).2.1 hS hown (tw (by decide +kernel) rfl) (fun x h => h) dJ0_isLatin1_aae02_7 ?_
  refine lv_if_ne (tgt := 17) hx hb dJ0_isLatin1_aae02_10 (by decide) (fun h => absurd rfl h) (fun _ => ?_)
  refine lv_iconst (v := 1) hx hb dJ0_isLatin1_aae02_13 (by decide) ?_
  refine lv_goto (tgt := 18) hx hb dJ0_isLatin1_aae02_14 (by decide) ?_
  exact W.zret hx hb hr (by decide) (fun t ht _ => ⟨rfl, ht⟩) (fun q hq => by cases hq) dJ0_isLatin1_aae02_18
set_option maxHeartbeats 4000000 in
theorem c_chr (l : Launch) {k : Nat} (hk : k < 156) : Met l yJ0_charAt_5068e (mWd yJ0_charAt_5068e cJ0_charAt_5068e 2 (some .char)) (rH 4) (pH O base od D kA [.ref (od 100), .int (nI k)]) (qH (some (.int (nI (mChs.getD k 0))))) 0 0 (fun _ => False) := by
  refine Met.ofW (cc := cJ0_charAt_5068e) (maxL := 2) (ret := some .char) (by decide) rfl ?_
  intro p e s m args below meth c s₁ B hml hv
  obtain ⟨rfl, hC⟩ := hv
  have hx := B.exec
  have hb := B.bytes
  have hr := B.returns
  have hlocks := B.notSynchronized
  have hown := findClass_of_methodNamed B.named
  have hts : ∀ w ∈ mTbl, w.before _ s = true := fun w hw => atoms_spec (ws := mWd yJ0_charAt_5068e cJ0_charAt_5068e 2 (some .char)) B.pre w (List.mem_cons_of_mem _ hw)
  have tw : ∀ {w : Cond}, w ∈ lw_tbl → goodWord w = true → w.before _ s = true := fun h g => hts _ (mTbl_in h g)
  rw [lg_entry_eq]
  have hl := lv_entry ([.ref (od 100), .int (nI k)]) (n := 2) (Nat.le_of_ble_eq_true rfl)
  generalize (lg_sl ([.ref (od 100), .int (nI k)]) ++ List.replicate (2 - (lg_sl ([.ref (od 100), .int (nI k)])).length) Slot.unset).toArray = ls at hl ⊢
  have hl : lv_has ls 2 [(0, .ref (od 100)), (1, .int (nI k))] := hl
  have hS : va_S (mA base) s.heap s.heap [] := va_S.rf
  refine lv_aload_n hx hb dJ0_charAt_5068e_0 rfl (lv_at hl 0 rfl) ?_
  refine mCallH (va_runV (C := RJ0) (n := 0) (b := od 100) (As := []) (rest := []) ⟨hx, hb, hml, hown, hts⟩ (c_isl (O := O) (base := base) (od := od) (D := D) (kA := kA) l) (cwV 0 hts (gV (mTbl_in (by decide +kernel) rfl) (by decide +kernel) (by decide +kernel) (by decide +kernel) mJ_isl) rfl rfl rfl (by decide +kernel) ⟨Nat.le_of_ble_eq_true rfl, Nat.le_of_ble_eq_true rfl⟩) ⟨pH_blind _, vk_recv (i := 0) hC.2.2.2.2.2.2.2.2.1 Nat.one_pos hS, pH_pre hC hS⟩ rfl rfl hl.1 rfl (lv_room (Nat.le_of_ble_eq_true rfl)) dJ0_charAt_5068e_1 ⟨Nat.le_refl _, Nat.le_refl _⟩) ?_
  refine lv_if_eq (tgt := 16) hx hb dJ0_charAt_5068e_4 (by decide) (fun h => absurd h (by decide)) (fun _ => ?_)
  refine lv_aload_n hx hb dJ0_charAt_5068e_7 rfl (lv_at hl 0 rfl) ?_
  refine vk_getf hx hb (hC.2.2.2.2.2.2.2.2.1.1 0 Nat.one_pos).2.2.1 hS hown (tw (by decide +kernel) rfl) (fun x h => h) dJ0_charAt_5068e_8 ?_
  refine lv_iload_n hx hb dJ0_charAt_5068e_11 rfl (lv_at hl 1 rfl) ?_
  refine mCallH (va_runS (n := 2) (As := [.ref (od 101), .int (nI k)]) (rest := []) ⟨hx, hb, hml, hown, hts⟩ (c_lat (O := O) (base := base) (od := od) (D := D) (kA := kA) l hk) (va_cwS 2 hts (gS (by decide +kernel) (by decide +kernel) (by decide +kernel) mJ_lat) rfl rfl rfl (by decide +kernel) ⟨Nat.le_of_ble_eq_true rfl, Nat.le_of_ble_eq_true rfl⟩) ⟨pH_blind _, pH_pre hC hS⟩ rfl rfl hl.1 rfl (lv_room (Nat.le_of_ble_eq_true rfl)) dJ0_charAt_5068e_12 ⟨Nat.le_refl _, Nat.le_refl _⟩) ?_
  exact W.zret hx hb hr (mCh_ok k hk).2 (fun t ht _ => ⟨rfl, ht⟩) (fun q hq => by cases hq) dJ0_charAt_5068e_15
theorem mChs_len : mChs.length = 156 := by decide +kernel
set_option maxHeartbeats 4000000 in
theorem mChr_row (l : Launch) (O : mO) (base : Nat) (od : Nat → Nat) (D : va_G) (kA : Nat → ClassId) : mChrRow l O base od D kA (mX base od) := by
  intro p e R s m args below meth c H locs cells slots Q own b nL pc k L j r hx hb hml hLs hown hts hC hlk hdg hS hj hr hRf hRl hRc hRs kk
  obtain ⟨k', hk', rfl⟩ := vp_in_of (mIdx_in hj) (by rw [mChs_len]; decide)
  rw [mChs_len] at hk'
  have k1 := kk locs hS
  rw [nI_clamp (by omega)] at k1
  refine mCallH (va_runV (C := RJ0) (n := 1) (b := od 100) (As := [.int (nI k')]) (rest := r) ⟨hx, hb, hml, hown, hts⟩ (c_chr (O := O) (base := base) (od := od) (D := D) (kA := kA) l hk') (cwV 1 hts (gV hlk (by decide +kernel) (by decide +kernel) (by decide +kernel) mJ_chr) rfl rfl rfl (by decide +kernel) ⟨by show 4 + 1 ≤ R.frames; omega, by show 8 + (2 + 11) + 4 * 64 ≤ R.locals; omega⟩) ⟨pH_blind _, vk_recv (i := 0) hC.2.2.2.2.2.2.2.2.1 Nat.one_pos hS, pH_pre hC hS⟩ rfl rfl hLs rfl (lv_room hr) hdg ⟨hRc, hRs⟩) k1
end CHR
