/-! THE LAW'S LOOP -/
theorem law_sub {L : Nat} (hL : L ≤ 3072) : (nI L - nI 6).toInt = (L : Int) - 6 := by
  rcases Nat.lt_or_ge L 6 with h | h
  · have : ∀ L, L < 6 → (nI L - nI 6).toInt = (L : Int) - 6 := by decide
    exact this L h
  · have e : nI L = nI (L - 6) + nI 6 := by rw [nI_add, Nat.sub_add_cancel h]
    rw [e, Int32.add_sub_cancel, nI_toInt (by omega)]
    omega
theorem law_gt {L i : Nat} (hL : L ≤ 3072) (hi : i ≤ 3072) (h : L < i + 6) : nI L - nI 6 < nI i := by
  rw [Int32.lt_iff_toInt_lt, law_sub hL, nI_toInt (by omega)]
  omega
theorem law_ngt {L i : Nat} (hL : L ≤ 3072) (h : i + 6 ≤ L) : ¬ nI L - nI 6 < nI i := by
  rw [Int32.lt_iff_toInt_lt, law_sub hL, nI_toInt (by omega)]
  omega
theorem and63 (x : Int32) : ∃ b, b < 64 ∧ x &&& nI 63 = nI b := by
  have h : (x &&& nI 63).toInt = ((x &&& nI 63).toBitVec.toNat : Int) ∧ (x &&& nI 63).toBitVec.toNat < 64 := by
    have e : (x &&& nI 63).toBitVec = x.toBitVec &&& 63#32 := rfl
    have hlt : (x.toBitVec &&& 63#32).toNat < 64 := by
      rw [BitVec.toNat_and]
      exact Nat.lt_of_le_of_lt Nat.and_le_right (by decide)
    rw [e]
    refine ⟨?_, hlt⟩
    show (x &&& nI 63).toBitVec.toInt = _
    rw [e, BitVec.toInt_eq_toNat_of_lt (by omega)]
  refine ⟨(x &&& nI 63).toBitVec.toNat, h.2, ?_⟩
  apply Int32.toInt_inj.mp
  rw [h.1, nI_toInt (by omega)]
set_option maxHeartbeats 8000000 in
set_option maxRecDepth 100000 in
theorem lawRuns_of (Inv : (Nat → Int32) → Nat → Nat → mH → Prop) (hF : ∀ xs L c K, Inv xs L c K → c ≤ 512 → HpF K ∧ K.2.length ≤ 600000 ∧ K.1 ≤ 7302250) (hM : ∀ xs L c K, Inv xs L c K → Inv xs L (c + 1) K)
    (hS : ∀ (L : Nat) (xs : Nat → Int32) (P : Option Value → mH → Prop), (∀ K, Inv xs L 0 K → Go (mOl L xs) 201 ML_law 16 [some (.ref (oB + 0)), some (.ref 0), some (.ref 69), none] [] K P) → Go (mOl L xs) 201 ML_law 0 (mEnt [.ref oB] 4) [] (0, []) P)
    (hB : ∀ (L : Nat) (xs : Nat → Int32), OwedB (mOl L xs) (Inv xs L)) : LawRuns := by
  intro L xs hL
  have key : Go (mOl L xs) 201 ML_law 0 (mEnt [.ref oB] 4) [] (0, []) (fun r K' => r = some (.int 1) ∧ K'.2.length ≤ 600000 ∧ K'.1 ≤ 7302250) := by
    refine hS L xs _ (fun K0 hI0 => ?_)
    obtain ⟨o0, o1, o2, o3, o4, o5⟩ := hB L xs
    obtain ⟨h0, h1, h2, h3, h4, h5, h6⟩ := o0
    obtain ⟨h7, h8, h9, h10, h11, h12, h13⟩ := o1
    obtain ⟨h14, h15, h16, h17, h18, h19, h20⟩ := o2
    obtain ⟨h21, h22, h23, h24, h25, h26, h27⟩ := o3
    obtain ⟨h28, h29, h30, h31, h32, h33, h34⟩ := o4
    obtain ⟨h35, h36, h37, h38, h39, h40, h41⟩ := o5
    refine g_iconst (v := nI 0) dL_law_16 (by decide) ?_
    refine g_istore_n (ls' := [_, _, _, some (.int _)]) dL_law_17 (by decide) rfl ?_
    refine lp (Q := fun k => ∀ K, Inv xs L k K → Go (mOl L xs) 201 ML_law 18 [some (.ref (oB + 0)), some (.ref 0), some (.ref 69), some (.int (nI (6 * k)))] [] K (fun r K' => r = some (.int 1) ∧ K'.2.length ≤ 600000 ∧ K'.1 ≤ 7302250)) (D := L / 6) ?_ ?_ K0 hI0
    · intro K hI
      refine g_iload_n dL_law_18 rfl ?_
      refine g_aload_n dL_law_19 rfl ?_
      refine g_olen (o := 0) (x := (L, xs)) dL_law_20 rfl ?_
      refine g_bipush (v := nI 6) dL_law_21 (by decide) ?_
      refine g_isub dL_law_23 ?_
      refine g_ic_gt (t := 1289) dL_law_24 (by decide) (fun z => ?_) (fun z => ?_)
      · refine g_iconst (v := nI 1) dL_law_1289 (by decide) ?_
        exact g_ireturn dL_law_1290 rfl (by decide) ⟨rfl, (hF xs L _ K hI (by omega)).2⟩
      · exfalso
        apply z
        exact law_gt hL (by omega) (by omega)
    · intro k hk ih K hI
      have hk5 : k < 512 := by omega
      have hk6 : 6 * k + 6 ≤ L := by omega
      have next : ∀ K2, Inv xs L (k + 1) K2 → Go (mOl L xs) 201 ML_law 1283 [some (.ref (oB + 0)), some (.ref 0), some (.ref 69), some (.int (nI (6 * k)))] [] K2 (fun r K' => r = some (.int 1) ∧ K'.2.length ≤ 600000 ∧ K'.1 ≤ 7302250) := by
        intro K2 hI2
        refine g_iincN (c := 6) (ls' := [_, _, _, some (.int _)]) dL_law_1283 rfl (by decide) rfl rfl ?_
        refine g_goto (t := 18) dL_law_1286 (by decide) ?_
        exact ih K2 hI2
      obtain ⟨⟨u, n, T, I, J, R, rfl, hT, hn⟩, -, -⟩ := hF xs L k K hI (by omega)
      have t0 : T 0 = (100 + 10, kd10) := hT.2 0 (by decide)
      have h98 := hT.1
      refine g_iload_n dL_law_18 rfl ?_
      refine g_aload_n dL_law_19 rfl ?_
      refine g_olen (o := 0) (x := (L, xs)) dL_law_20 rfl ?_
      refine g_bipush (v := nI 6) dL_law_21 (by decide) ?_
      refine g_isub dL_law_23 ?_
      refine g_ic_gt (t := 1289) dL_law_24 (by decide) (fun z => absurd z (law_ngt hL hk6)) (fun _ => ?_)
      refine g_aload_n dL_law_27 rfl ?_
      refine g_iload_n dL_law_28 rfl ?_
      refine g_oald (o := 0) (x := (L, xs)) dL_law_29 rfl rfl (by show _ < L; omega) (by show L < 2 ^ 31; omega) ?_
      refine g_bipush (v := nI 63) dL_law_30 (by decide) ?_
      refine g_iand dL_law_32 ?_
      obtain ⟨b, hb, eb⟩ := and63 (xs (6 * k))
      rw [eb]
      match b, hb with
      | 0, _ =>
        refine g_tsI (t := 216) dL_law_33 (by decide) rfl (by decide) ?_
        refine g_aload_n dL_law_216 rfl ?_
        refine g_aload_n dL_law_217 rfl ?_
        refine g_iload_n dL_law_218 rfl ?_
        refine g_iconst (v := nI 1) dL_law_219 (by decide) ?_
        refine g_iaddN dL_law_220 ?_
        refine g_oald (o := 0) (x := (L, xs)) dL_law_221 rfl rfl (by show _ < L; omega) (by show L < 2 ^ 31; omega) ?_
        refine g_virt (Z := MX10_vault) dL_law_222 mL_13.1 mL_13.2 (Nat.le_of_ble_eq_true rfl) rfl rfl (Nat.le_of_ble_eq_true rfl) (Nat.le_of_ble_eq_true rfl) t0 rfl rfl (by omega) hn (h0 k _ (xs (6 * k + 1)) hk5 hI) ?_
        rintro _ _ ⟨a, rfl, ⟨u1, n1, T1, I1, J1, R1, rfl, hT1, hn1⟩, hB⟩
        dsimp only [Option.toList, List.cons_append, List.nil_append]
        have t69 : T1 69 = (100 + 11, kd11) := hT1.2 69 (by decide)
        have h981 := hT1.1
        refine g_aload_n dL_law_225 rfl ?_
        refine g_aload_n dL_law_226 rfl ?_
        refine g_iload_n dL_law_227 rfl ?_
        refine g_iconst (v := nI 1) dL_law_228 (by decide) ?_
        refine g_iaddN dL_law_229 ?_
        refine g_oald (o := 0) (x := (L, xs)) dL_law_230 rfl rfl (by show _ < L; omega) (by show L < 2 ^ 31; omega) ?_
        refine g_virt (Z := MX11_vault) dL_law_231 mL_17.1 mL_17.2 (Nat.le_of_ble_eq_true rfl) rfl rfl (Nat.le_of_ble_eq_true rfl) (Nat.le_of_ble_eq_true rfl) t69 rfl rfl (by omega) hn1 hB ?_
        rintro _ K2 ⟨rfl, hI2⟩
        dsimp only [Option.toList, List.cons_append, List.nil_append]
        exact g_ic_eq (t := 1283) dL_law_234 (by decide) (fun _ => next K2 hI2) (fun z => absurd rfl z)
      | 1, _ =>
        refine g_tsI (t := 239) dL_law_33 (by decide) rfl (by decide) ?_
        refine g_aload_n dL_law_239 rfl ?_
        refine g_aload_n dL_law_240 rfl ?_
        refine g_iload_n dL_law_241 rfl ?_
        refine g_iconst (v := nI 1) dL_law_242 (by decide) ?_
        refine g_iaddN dL_law_243 ?_
        refine g_oald (o := 0) (x := (L, xs)) dL_law_244 rfl rfl (by show _ < L; omega) (by show L < 2 ^ 31; omega) ?_
        refine g_aload_n dL_law_245 rfl ?_
        refine g_iload_n dL_law_246 rfl ?_
        refine g_iconst (v := nI 2) dL_law_247 (by decide) ?_
        refine g_iaddN dL_law_248 ?_
        refine g_oald (o := 0) (x := (L, xs)) dL_law_249 rfl rfl (by show _ < L; omega) (by show L < 2 ^ 31; omega) ?_
        refine g_virt (Z := MX10_at) dL_law_250 mL_18.1 mL_18.2 (Nat.le_of_ble_eq_true rfl) rfl rfl (Nat.le_of_ble_eq_true rfl) (Nat.le_of_ble_eq_true rfl) t0 rfl rfl (by omega) hn (h1 k _ (xs (6 * k + 1)) (xs (6 * k + 2)) hk5 hI) ?_
        rintro _ _ ⟨a, rfl, ⟨u1, n1, T1, I1, J1, R1, rfl, hT1, hn1⟩, hB⟩
        dsimp only [Option.toList, List.cons_append, List.nil_append]
        have t69 : T1 69 = (100 + 11, kd11) := hT1.2 69 (by decide)
        have h981 := hT1.1
        refine g_aload_n dL_law_253 rfl ?_
        refine g_aload_n dL_law_254 rfl ?_
        refine g_iload_n dL_law_255 rfl ?_
        refine g_iconst (v := nI 1) dL_law_256 (by decide) ?_
        refine g_iaddN dL_law_257 ?_
        refine g_oald (o := 0) (x := (L, xs)) dL_law_258 rfl rfl (by show _ < L; omega) (by show L < 2 ^ 31; omega) ?_
        refine g_aload_n dL_law_259 rfl ?_
        refine g_iload_n dL_law_260 rfl ?_
        refine g_iconst (v := nI 2) dL_law_261 (by decide) ?_
        refine g_iaddN dL_law_262 ?_
        refine g_oald (o := 0) (x := (L, xs)) dL_law_263 rfl rfl (by show _ < L; omega) (by show L < 2 ^ 31; omega) ?_
        refine g_virt (Z := MX11_at) dL_law_264 mL_22.1 mL_22.2 (Nat.le_of_ble_eq_true rfl) rfl rfl (Nat.le_of_ble_eq_true rfl) (Nat.le_of_ble_eq_true rfl) t69 rfl rfl (by omega) hn1 hB ?_
        rintro _ K2 ⟨rfl, hI2⟩
        dsimp only [Option.toList, List.cons_append, List.nil_append]
        exact g_ic_eq (t := 1283) dL_law_267 (by decide) (fun _ => next K2 hI2) (fun z => absurd rfl z)
      | 2, _ =>
        refine g_tsI (t := 272) dL_law_33 (by decide) rfl (by decide) ?_
        refine g_aload_n dL_law_272 rfl ?_
        refine g_aload_n dL_law_273 rfl ?_
        refine g_iload_n dL_law_274 rfl ?_
        refine g_iconst (v := nI 1) dL_law_275 (by decide) ?_
        refine g_iaddN dL_law_276 ?_
        refine g_oald (o := 0) (x := (L, xs)) dL_law_277 rfl rfl (by show _ < L; omega) (by show L < 2 ^ 31; omega) ?_
        refine g_virt (Z := MX10_family) dL_law_278 mL_23.1 mL_23.2 (Nat.le_of_ble_eq_true rfl) rfl rfl (Nat.le_of_ble_eq_true rfl) (Nat.le_of_ble_eq_true rfl) t0 rfl rfl (by omega) hn (h2 k _ (xs (6 * k + 1)) hk5 hI) ?_
        rintro _ _ ⟨a, rfl, ⟨u1, n1, T1, I1, J1, R1, rfl, hT1, hn1⟩, hB⟩
        dsimp only [Option.toList, List.cons_append, List.nil_append]
        have t69 : T1 69 = (100 + 11, kd11) := hT1.2 69 (by decide)
        have h981 := hT1.1
        refine g_aload_n dL_law_281 rfl ?_
        refine g_aload_n dL_law_282 rfl ?_
        refine g_iload_n dL_law_283 rfl ?_
        refine g_iconst (v := nI 1) dL_law_284 (by decide) ?_
        refine g_iaddN dL_law_285 ?_
        refine g_oald (o := 0) (x := (L, xs)) dL_law_286 rfl rfl (by show _ < L; omega) (by show L < 2 ^ 31; omega) ?_
        refine g_virt (Z := MX11_family) dL_law_287 mL_26.1 mL_26.2 (Nat.le_of_ble_eq_true rfl) rfl rfl (Nat.le_of_ble_eq_true rfl) (Nat.le_of_ble_eq_true rfl) t69 rfl rfl (by omega) hn1 hB ?_
        rintro _ K2 ⟨rfl, hI2⟩
        dsimp only [Option.toList, List.cons_append, List.nil_append]
        exact g_ic_eq (t := 1283) dL_law_290 (by decide) (fun _ => next K2 hI2) (fun z => absurd rfl z)
      | 3, _ =>
        refine g_tsI (t := 295) dL_law_33 (by decide) rfl (by decide) ?_
        refine g_aload_n dL_law_295 rfl ?_
        refine g_aload_n dL_law_296 rfl ?_
        refine g_iload_n dL_law_297 rfl ?_
        refine g_iconst (v := nI 1) dL_law_298 (by decide) ?_
        refine g_iaddN dL_law_299 ?_
        refine g_oald (o := 0) (x := (L, xs)) dL_law_300 rfl rfl (by show _ < L; omega) (by show L < 2 ^ 31; omega) ?_
        refine g_aload_n dL_law_301 rfl ?_
        refine g_iload_n dL_law_302 rfl ?_
        refine g_iconst (v := nI 2) dL_law_303 (by decide) ?_
        refine g_iaddN dL_law_304 ?_
        refine g_oald (o := 0) (x := (L, xs)) dL_law_305 rfl rfl (by show _ < L; omega) (by show L < 2 ^ 31; omega) ?_
        refine g_virt (Z := MX10_has) dL_law_306 mL_27.1 mL_27.2 (Nat.le_of_ble_eq_true rfl) rfl rfl (Nat.le_of_ble_eq_true rfl) (Nat.le_of_ble_eq_true rfl) t0 rfl rfl (by omega) hn (h3 k _ (xs (6 * k + 1)) (xs (6 * k + 2)) hk5 hI) ?_
        rintro _ _ ⟨a, rfl, ⟨u1, n1, T1, I1, J1, R1, rfl, hT1, hn1⟩, hB⟩
        dsimp only [Option.toList, List.cons_append, List.nil_append]
        have t69 : T1 69 = (100 + 11, kd11) := hT1.2 69 (by decide)
        have h981 := hT1.1
        refine g_aload_n dL_law_309 rfl ?_
        refine g_aload_n dL_law_310 rfl ?_
        refine g_iload_n dL_law_311 rfl ?_
        refine g_iconst (v := nI 1) dL_law_312 (by decide) ?_
        refine g_iaddN dL_law_313 ?_
        refine g_oald (o := 0) (x := (L, xs)) dL_law_314 rfl rfl (by show _ < L; omega) (by show L < 2 ^ 31; omega) ?_
        refine g_aload_n dL_law_315 rfl ?_
        refine g_iload_n dL_law_316 rfl ?_
        refine g_iconst (v := nI 2) dL_law_317 (by decide) ?_
        refine g_iaddN dL_law_318 ?_
        refine g_oald (o := 0) (x := (L, xs)) dL_law_319 rfl rfl (by show _ < L; omega) (by show L < 2 ^ 31; omega) ?_
        refine g_virt (Z := MX11_has) dL_law_320 mL_30.1 mL_30.2 (Nat.le_of_ble_eq_true rfl) rfl rfl (Nat.le_of_ble_eq_true rfl) (Nat.le_of_ble_eq_true rfl) t69 rfl rfl (by omega) hn1 hB ?_
        rintro _ K2 ⟨rfl, hI2⟩
        dsimp only [Option.toList, List.cons_append, List.nil_append]
        exact g_ic_eq (t := 1283) dL_law_323 (by decide) (fun _ => next K2 hI2) (fun z => absurd rfl z)
      | 4, _ =>
        refine g_tsI (t := 328) dL_law_33 (by decide) rfl (by decide) ?_
        refine g_aload_n dL_law_328 rfl ?_
        refine g_aload_n dL_law_329 rfl ?_
        refine g_iload_n dL_law_330 rfl ?_
        refine g_iconst (v := nI 1) dL_law_331 (by decide) ?_
        refine g_iaddN dL_law_332 ?_
        refine g_oald (o := 0) (x := (L, xs)) dL_law_333 rfl rfl (by show _ < L; omega) (by show L < 2 ^ 31; omega) ?_
        refine g_aload_n dL_law_334 rfl ?_
        refine g_iload_n dL_law_335 rfl ?_
        refine g_iconst (v := nI 2) dL_law_336 (by decide) ?_
        refine g_iaddN dL_law_337 ?_
        refine g_oald (o := 0) (x := (L, xs)) dL_law_338 rfl rfl (by show _ < L; omega) (by show L < 2 ^ 31; omega) ?_
        refine g_aload_n dL_law_339 rfl ?_
        refine g_iload_n dL_law_340 rfl ?_
        refine g_iconst (v := nI 3) dL_law_341 (by decide) ?_
        refine g_iaddN dL_law_342 ?_
        refine g_oald (o := 0) (x := (L, xs)) dL_law_343 rfl rfl (by show _ < L; omega) (by show L < 2 ^ 31; omega) ?_
        refine g_virt (Z := MX10_dead) dL_law_344 mL_31.1 mL_31.2 (Nat.le_of_ble_eq_true rfl) rfl rfl (Nat.le_of_ble_eq_true rfl) (Nat.le_of_ble_eq_true rfl) t0 rfl rfl (by omega) hn (h4 k _ (xs (6 * k + 1)) (xs (6 * k + 2)) (xs (6 * k + 3)) hk5 hI) ?_
        rintro _ _ ⟨a, rfl, ⟨u1, n1, T1, I1, J1, R1, rfl, hT1, hn1⟩, hB⟩
        dsimp only [Option.toList, List.cons_append, List.nil_append]
        have t69 : T1 69 = (100 + 11, kd11) := hT1.2 69 (by decide)
        have h981 := hT1.1
        refine g_aload_n dL_law_347 rfl ?_
        refine g_aload_n dL_law_348 rfl ?_
        refine g_iload_n dL_law_349 rfl ?_
        refine g_iconst (v := nI 1) dL_law_350 (by decide) ?_
        refine g_iaddN dL_law_351 ?_
        refine g_oald (o := 0) (x := (L, xs)) dL_law_352 rfl rfl (by show _ < L; omega) (by show L < 2 ^ 31; omega) ?_
        refine g_aload_n dL_law_353 rfl ?_
        refine g_iload_n dL_law_354 rfl ?_
        refine g_iconst (v := nI 2) dL_law_355 (by decide) ?_
        refine g_iaddN dL_law_356 ?_
        refine g_oald (o := 0) (x := (L, xs)) dL_law_357 rfl rfl (by show _ < L; omega) (by show L < 2 ^ 31; omega) ?_
        refine g_aload_n dL_law_358 rfl ?_
        refine g_iload_n dL_law_359 rfl ?_
        refine g_iconst (v := nI 3) dL_law_360 (by decide) ?_
        refine g_iaddN dL_law_361 ?_
        refine g_oald (o := 0) (x := (L, xs)) dL_law_362 rfl rfl (by show _ < L; omega) (by show L < 2 ^ 31; omega) ?_
        refine g_virt (Z := MX11_dead) dL_law_363 mL_35.1 mL_35.2 (Nat.le_of_ble_eq_true rfl) rfl rfl (Nat.le_of_ble_eq_true rfl) (Nat.le_of_ble_eq_true rfl) t69 rfl rfl (by omega) hn1 hB ?_
        rintro _ K2 ⟨rfl, hI2⟩
        dsimp only [Option.toList, List.cons_append, List.nil_append]
        exact g_ic_eq (t := 1283) dL_law_366 (by decide) (fun _ => next K2 hI2) (fun z => absurd rfl z)
      | 5, _ =>
        refine g_tsI (t := 371) dL_law_33 (by decide) rfl (by decide) ?_
        refine g_aload_n dL_law_371 rfl ?_
        refine g_aload_n dL_law_372 rfl ?_
        refine g_iload_n dL_law_373 rfl ?_
        refine g_iconst (v := nI 1) dL_law_374 (by decide) ?_
        refine g_iaddN dL_law_375 ?_
        refine g_oald (o := 0) (x := (L, xs)) dL_law_376 rfl rfl (by show _ < L; omega) (by show L < 2 ^ 31; omega) ?_
        refine g_aload_n dL_law_377 rfl ?_
        refine g_iload_n dL_law_378 rfl ?_
        refine g_iconst (v := nI 2) dL_law_379 (by decide) ?_
        refine g_iaddN dL_law_380 ?_
        refine g_oald (o := 0) (x := (L, xs)) dL_law_381 rfl rfl (by show _ < L; omega) (by show L < 2 ^ 31; omega) ?_
        refine g_virt (Z := MX10_of) dL_law_382 mL_36.1 mL_36.2 (Nat.le_of_ble_eq_true rfl) rfl rfl (Nat.le_of_ble_eq_true rfl) (Nat.le_of_ble_eq_true rfl) t0 rfl rfl (by omega) hn (h5 k _ (xs (6 * k + 1)) (xs (6 * k + 2)) hk5 hI) ?_
        rintro _ _ ⟨a, rfl, ⟨u1, n1, T1, I1, J1, R1, rfl, hT1, hn1⟩, hB⟩
        dsimp only [Option.toList, List.cons_append, List.nil_append]
        have t69 : T1 69 = (100 + 11, kd11) := hT1.2 69 (by decide)
        have h981 := hT1.1
        refine g_aload_n dL_law_385 rfl ?_
        refine g_aload_n dL_law_386 rfl ?_
        refine g_iload_n dL_law_387 rfl ?_
        refine g_iconst (v := nI 1) dL_law_388 (by decide) ?_
        refine g_iaddN dL_law_389 ?_
        refine g_oald (o := 0) (x := (L, xs)) dL_law_390 rfl rfl (by show _ < L; omega) (by show L < 2 ^ 31; omega) ?_
        refine g_aload_n dL_law_391 rfl ?_
        refine g_iload_n dL_law_392 rfl ?_
        refine g_iconst (v := nI 2) dL_law_393 (by decide) ?_
        refine g_iaddN dL_law_394 ?_
        refine g_oald (o := 0) (x := (L, xs)) dL_law_395 rfl rfl (by show _ < L; omega) (by show L < 2 ^ 31; omega) ?_
        refine g_virt (Z := MX11_of) dL_law_396 mL_39.1 mL_39.2 (Nat.le_of_ble_eq_true rfl) rfl rfl (Nat.le_of_ble_eq_true rfl) (Nat.le_of_ble_eq_true rfl) t69 rfl rfl (by omega) hn1 hB ?_
        rintro _ K2 ⟨rfl, hI2⟩
        dsimp only [Option.toList, List.cons_append, List.nil_append]
        exact g_ic_eq (t := 1283) dL_law_399 (by decide) (fun _ => next K2 hI2) (fun z => absurd rfl z)
      | 6, _ =>
        refine g_tsI (t := 404) dL_law_33 (by decide) rfl (by decide) ?_
        refine g_aload_n dL_law_404 rfl ?_
        refine g_aload_n dL_law_405 rfl ?_
        refine g_iload_n dL_law_406 rfl ?_
        refine g_iconst (v := nI 1) dL_law_407 (by decide) ?_
        refine g_iaddN dL_law_408 ?_
        refine g_oald (o := 0) (x := (L, xs)) dL_law_409 rfl rfl (by show _ < L; omega) (by show L < 2 ^ 31; omega) ?_
        refine g_aload_n dL_law_410 rfl ?_
        refine g_iload_n dL_law_411 rfl ?_
        refine g_iconst (v := nI 2) dL_law_412 (by decide) ?_
        refine g_iaddN dL_law_413 ?_
        refine g_oald (o := 0) (x := (L, xs)) dL_law_414 rfl rfl (by show _ < L; omega) (by show L < 2 ^ 31; omega) ?_
        refine g_aload_n dL_law_415 rfl ?_
        refine g_iload_n dL_law_416 rfl ?_
        refine g_iconst (v := nI 3) dL_law_417 (by decide) ?_
        refine g_iaddN dL_law_418 ?_
        refine g_oald (o := 0) (x := (L, xs)) dL_law_419 rfl rfl (by show _ < L; omega) (by show L < 2 ^ 31; omega) ?_
        refine g_virt (Z := MX10_asks) dL_law_420 mL_40.1 mL_40.2 (Nat.le_of_ble_eq_true rfl) rfl rfl (Nat.le_of_ble_eq_true rfl) (Nat.le_of_ble_eq_true rfl) t0 rfl rfl (by omega) hn (h6 k _ (xs (6 * k + 1)) (xs (6 * k + 2)) (xs (6 * k + 3)) hk5 hI) ?_
        rintro _ _ ⟨a, rfl, ⟨u1, n1, T1, I1, J1, R1, rfl, hT1, hn1⟩, hB⟩
        dsimp only [Option.toList, List.cons_append, List.nil_append]
        have t69 : T1 69 = (100 + 11, kd11) := hT1.2 69 (by decide)
        have h981 := hT1.1
        refine g_aload_n dL_law_423 rfl ?_
        refine g_aload_n dL_law_424 rfl ?_
        refine g_iload_n dL_law_425 rfl ?_
        refine g_iconst (v := nI 1) dL_law_426 (by decide) ?_
        refine g_iaddN dL_law_427 ?_
        refine g_oald (o := 0) (x := (L, xs)) dL_law_428 rfl rfl (by show _ < L; omega) (by show L < 2 ^ 31; omega) ?_
        refine g_aload_n dL_law_429 rfl ?_
        refine g_iload_n dL_law_430 rfl ?_
        refine g_iconst (v := nI 2) dL_law_431 (by decide) ?_
        refine g_iaddN dL_law_432 ?_
        refine g_oald (o := 0) (x := (L, xs)) dL_law_433 rfl rfl (by show _ < L; omega) (by show L < 2 ^ 31; omega) ?_
        refine g_aload_n dL_law_434 rfl ?_
        refine g_iload_n dL_law_435 rfl ?_
        refine g_iconst (v := nI 3) dL_law_436 (by decide) ?_
        refine g_iaddN dL_law_437 ?_
        refine g_oald (o := 0) (x := (L, xs)) dL_law_438 rfl rfl (by show _ < L; omega) (by show L < 2 ^ 31; omega) ?_
        refine g_virt (Z := MX11_asks) dL_law_439 mL_43.1 mL_43.2 (Nat.le_of_ble_eq_true rfl) rfl rfl (Nat.le_of_ble_eq_true rfl) (Nat.le_of_ble_eq_true rfl) t69 rfl rfl (by omega) hn1 hB ?_
        rintro _ K2 ⟨rfl, hI2⟩
        dsimp only [Option.toList, List.cons_append, List.nil_append]
        exact g_ic_eq (t := 1283) dL_law_442 (by decide) (fun _ => next K2 hI2) (fun z => absurd rfl z)
      | 7, _ =>
        refine g_tsI (t := 447) dL_law_33 (by decide) rfl (by decide) ?_
        refine g_aload_n dL_law_447 rfl ?_
        refine g_aload_n dL_law_448 rfl ?_
        refine g_iload_n dL_law_449 rfl ?_
        refine g_iconst (v := nI 1) dL_law_450 (by decide) ?_
        refine g_iaddN dL_law_451 ?_
        refine g_oald (o := 0) (x := (L, xs)) dL_law_452 rfl rfl (by show _ < L; omega) (by show L < 2 ^ 31; omega) ?_
        refine g_aload_n dL_law_453 rfl ?_
        refine g_iload_n dL_law_454 rfl ?_
        refine g_iconst (v := nI 2) dL_law_455 (by decide) ?_
        refine g_iaddN dL_law_456 ?_
        refine g_oald (o := 0) (x := (L, xs)) dL_law_457 rfl rfl (by show _ < L; omega) (by show L < 2 ^ 31; omega) ?_
        refine g_aload_n dL_law_458 rfl ?_
        refine g_iload_n dL_law_459 rfl ?_
        refine g_iconst (v := nI 3) dL_law_460 (by decide) ?_
        refine g_iaddN dL_law_461 ?_
        refine g_oald (o := 0) (x := (L, xs)) dL_law_462 rfl rfl (by show _ < L; omega) (by show L < 2 ^ 31; omega) ?_
        refine g_virt (Z := MX10_wish) dL_law_463 mL_44.1 mL_44.2 (Nat.le_of_ble_eq_true rfl) rfl rfl (Nat.le_of_ble_eq_true rfl) (Nat.le_of_ble_eq_true rfl) t0 rfl rfl (by omega) hn (h7 k _ (xs (6 * k + 1)) (xs (6 * k + 2)) (xs (6 * k + 3)) hk5 hI) ?_
        rintro _ _ ⟨a, rfl, ⟨u1, n1, T1, I1, J1, R1, rfl, hT1, hn1⟩, hB⟩
        dsimp only [Option.toList, List.cons_append, List.nil_append]
        have t69 : T1 69 = (100 + 11, kd11) := hT1.2 69 (by decide)
        have h981 := hT1.1
        refine g_aload_n dL_law_466 rfl ?_
        refine g_aload_n dL_law_467 rfl ?_
        refine g_iload_n dL_law_468 rfl ?_
        refine g_iconst (v := nI 1) dL_law_469 (by decide) ?_
        refine g_iaddN dL_law_470 ?_
        refine g_oald (o := 0) (x := (L, xs)) dL_law_471 rfl rfl (by show _ < L; omega) (by show L < 2 ^ 31; omega) ?_
        refine g_aload_n dL_law_472 rfl ?_
        refine g_iload_n dL_law_473 rfl ?_
        refine g_iconst (v := nI 2) dL_law_474 (by decide) ?_
        refine g_iaddN dL_law_475 ?_
        refine g_oald (o := 0) (x := (L, xs)) dL_law_476 rfl rfl (by show _ < L; omega) (by show L < 2 ^ 31; omega) ?_
        refine g_aload_n dL_law_477 rfl ?_
        refine g_iload_n dL_law_478 rfl ?_
        refine g_iconst (v := nI 3) dL_law_479 (by decide) ?_
        refine g_iaddN dL_law_480 ?_
        refine g_oald (o := 0) (x := (L, xs)) dL_law_481 rfl rfl (by show _ < L; omega) (by show L < 2 ^ 31; omega) ?_
        refine g_virt (Z := MX11_wish) dL_law_482 mL_47.1 mL_47.2 (Nat.le_of_ble_eq_true rfl) rfl rfl (Nat.le_of_ble_eq_true rfl) (Nat.le_of_ble_eq_true rfl) t69 rfl rfl (by omega) hn1 hB ?_
        rintro _ K2 ⟨rfl, hI2⟩
        dsimp only [Option.toList, List.cons_append, List.nil_append]
        exact g_ic_eq (t := 1283) dL_law_485 (by decide) (fun _ => next K2 hI2) (fun z => absurd rfl z)
      | 8, _ =>
        refine g_tsI (t := 490) dL_law_33 (by decide) rfl (by decide) ?_
        refine g_aload_n dL_law_490 rfl ?_
        refine g_aload_n dL_law_491 rfl ?_
        refine g_iload_n dL_law_492 rfl ?_
        refine g_iconst (v := nI 1) dL_law_493 (by decide) ?_
        refine g_iaddN dL_law_494 ?_
        refine g_oald (o := 0) (x := (L, xs)) dL_law_495 rfl rfl (by show _ < L; omega) (by show L < 2 ^ 31; omega) ?_
        refine g_aload_n dL_law_496 rfl ?_
        refine g_iload_n dL_law_497 rfl ?_
        refine g_iconst (v := nI 2) dL_law_498 (by decide) ?_
        refine g_iaddN dL_law_499 ?_
        refine g_oald (o := 0) (x := (L, xs)) dL_law_500 rfl rfl (by show _ < L; omega) (by show L < 2 ^ 31; omega) ?_
        refine g_virt (Z := MX10_terms) dL_law_501 mL_48.1 mL_48.2 (Nat.le_of_ble_eq_true rfl) rfl rfl (Nat.le_of_ble_eq_true rfl) (Nat.le_of_ble_eq_true rfl) t0 rfl rfl (by omega) hn (h8 k _ (xs (6 * k + 1)) (xs (6 * k + 2)) hk5 hI) ?_
        rintro _ _ ⟨a, rfl, ⟨u1, n1, T1, I1, J1, R1, rfl, hT1, hn1⟩, hB⟩
        dsimp only [Option.toList, List.cons_append, List.nil_append]
        have t69 : T1 69 = (100 + 11, kd11) := hT1.2 69 (by decide)
        have h981 := hT1.1
        refine g_aload_n dL_law_504 rfl ?_
        refine g_aload_n dL_law_505 rfl ?_
        refine g_iload_n dL_law_506 rfl ?_
        refine g_iconst (v := nI 1) dL_law_507 (by decide) ?_
        refine g_iaddN dL_law_508 ?_
        refine g_oald (o := 0) (x := (L, xs)) dL_law_509 rfl rfl (by show _ < L; omega) (by show L < 2 ^ 31; omega) ?_
        refine g_aload_n dL_law_510 rfl ?_
        refine g_iload_n dL_law_511 rfl ?_
        refine g_iconst (v := nI 2) dL_law_512 (by decide) ?_
        refine g_iaddN dL_law_513 ?_
        refine g_oald (o := 0) (x := (L, xs)) dL_law_514 rfl rfl (by show _ < L; omega) (by show L < 2 ^ 31; omega) ?_
        refine g_virt (Z := MX11_terms) dL_law_515 mL_51.1 mL_51.2 (Nat.le_of_ble_eq_true rfl) rfl rfl (Nat.le_of_ble_eq_true rfl) (Nat.le_of_ble_eq_true rfl) t69 rfl rfl (by omega) hn1 hB ?_
        rintro _ K2 ⟨rfl, hI2⟩
        dsimp only [Option.toList, List.cons_append, List.nil_append]
        exact g_ic_eq (t := 1283) dL_law_518 (by decide) (fun _ => next K2 hI2) (fun z => absurd rfl z)
      | 9, _ =>
        refine g_tsI (t := 523) dL_law_33 (by decide) rfl (by decide) ?_
        refine g_aload_n dL_law_523 rfl ?_
        refine g_aload_n dL_law_524 rfl ?_
        refine g_iload_n dL_law_525 rfl ?_
        refine g_iconst (v := nI 1) dL_law_526 (by decide) ?_
        refine g_iaddN dL_law_527 ?_
        refine g_oald (o := 0) (x := (L, xs)) dL_law_528 rfl rfl (by show _ < L; omega) (by show L < 2 ^ 31; omega) ?_
        refine g_aload_n dL_law_529 rfl ?_
        refine g_iload_n dL_law_530 rfl ?_
        refine g_iconst (v := nI 2) dL_law_531 (by decide) ?_
        refine g_iaddN dL_law_532 ?_
        refine g_oald (o := 0) (x := (L, xs)) dL_law_533 rfl rfl (by show _ < L; omega) (by show L < 2 ^ 31; omega) ?_
        refine g_aload_n dL_law_534 rfl ?_
        refine g_iload_n dL_law_535 rfl ?_
        refine g_iconst (v := nI 3) dL_law_536 (by decide) ?_
        refine g_iaddN dL_law_537 ?_
        refine g_oald (o := 0) (x := (L, xs)) dL_law_538 rfl rfl (by show _ < L; omega) (by show L < 2 ^ 31; omega) ?_
        refine g_aload_n dL_law_539 rfl ?_
        refine g_iload_n dL_law_540 rfl ?_
        refine g_iconst (v := nI 4) dL_law_541 (by decide) ?_
        refine g_iaddN dL_law_542 ?_
        refine g_oald (o := 0) (x := (L, xs)) dL_law_543 rfl rfl (by show _ < L; omega) (by show L < 2 ^ 31; omega) ?_
        refine g_aload_n dL_law_544 rfl ?_
        refine g_iload_n dL_law_545 rfl ?_
        refine g_iconst (v := nI 5) dL_law_546 (by decide) ?_
        refine g_iaddN dL_law_547 ?_
        refine g_oald (o := 0) (x := (L, xs)) dL_law_548 rfl rfl (by show _ < L; omega) (by show L < 2 ^ 31; omega) ?_
        refine g_virt (Z := MX10_feed) dL_law_549 mL_52.1 mL_52.2 (Nat.le_of_ble_eq_true rfl) rfl rfl (Nat.le_of_ble_eq_true rfl) (Nat.le_of_ble_eq_true rfl) t0 rfl rfl (by omega) hn (h9 k _ (xs (6 * k + 1)) (xs (6 * k + 2)) (xs (6 * k + 3)) (xs (6 * k + 4)) (xs (6 * k + 5)) hk5 hI) ?_
        rintro _ _ ⟨a, rfl, ⟨u1, n1, T1, I1, J1, R1, rfl, hT1, hn1⟩, hB⟩
        dsimp only [Option.toList, List.cons_append, List.nil_append]
        have t69 : T1 69 = (100 + 11, kd11) := hT1.2 69 (by decide)
        have h981 := hT1.1
        refine g_aload_n dL_law_552 rfl ?_
        refine g_aload_n dL_law_553 rfl ?_
        refine g_iload_n dL_law_554 rfl ?_
        refine g_iconst (v := nI 1) dL_law_555 (by decide) ?_
        refine g_iaddN dL_law_556 ?_
        refine g_oald (o := 0) (x := (L, xs)) dL_law_557 rfl rfl (by show _ < L; omega) (by show L < 2 ^ 31; omega) ?_
        refine g_aload_n dL_law_558 rfl ?_
        refine g_iload_n dL_law_559 rfl ?_
        refine g_iconst (v := nI 2) dL_law_560 (by decide) ?_
        refine g_iaddN dL_law_561 ?_
        refine g_oald (o := 0) (x := (L, xs)) dL_law_562 rfl rfl (by show _ < L; omega) (by show L < 2 ^ 31; omega) ?_
        refine g_aload_n dL_law_563 rfl ?_
        refine g_iload_n dL_law_564 rfl ?_
        refine g_iconst (v := nI 3) dL_law_565 (by decide) ?_
        refine g_iaddN dL_law_566 ?_
        refine g_oald (o := 0) (x := (L, xs)) dL_law_567 rfl rfl (by show _ < L; omega) (by show L < 2 ^ 31; omega) ?_
        refine g_aload_n dL_law_568 rfl ?_
        refine g_iload_n dL_law_569 rfl ?_
        refine g_iconst (v := nI 4) dL_law_570 (by decide) ?_
        refine g_iaddN dL_law_571 ?_
        refine g_oald (o := 0) (x := (L, xs)) dL_law_572 rfl rfl (by show _ < L; omega) (by show L < 2 ^ 31; omega) ?_
        refine g_aload_n dL_law_573 rfl ?_
        refine g_iload_n dL_law_574 rfl ?_
        refine g_iconst (v := nI 5) dL_law_575 (by decide) ?_
        refine g_iaddN dL_law_576 ?_
        refine g_oald (o := 0) (x := (L, xs)) dL_law_577 rfl rfl (by show _ < L; omega) (by show L < 2 ^ 31; omega) ?_
        refine g_virt (Z := MX11_feed) dL_law_578 mL_56.1 mL_56.2 (Nat.le_of_ble_eq_true rfl) rfl rfl (Nat.le_of_ble_eq_true rfl) (Nat.le_of_ble_eq_true rfl) t69 rfl rfl (by omega) hn1 hB ?_
        rintro _ K2 ⟨rfl, hI2⟩
        dsimp only [Option.toList, List.cons_append, List.nil_append]
        exact g_ic_eq (t := 1283) dL_law_581 (by decide) (fun _ => next K2 hI2) (fun z => absurd rfl z)
      | 10, _ =>
        refine g_tsI (t := 586) dL_law_33 (by decide) rfl (by decide) ?_
        refine g_aload_n dL_law_586 rfl ?_
        refine g_aload_n dL_law_587 rfl ?_
        refine g_iload_n dL_law_588 rfl ?_
        refine g_iconst (v := nI 1) dL_law_589 (by decide) ?_
        refine g_iaddN dL_law_590 ?_
        refine g_oald (o := 0) (x := (L, xs)) dL_law_591 rfl rfl (by show _ < L; omega) (by show L < 2 ^ 31; omega) ?_
        refine g_virt (Z := MX10_end) dL_law_592 mL_57.1 mL_57.2 (Nat.le_of_ble_eq_true rfl) rfl rfl (Nat.le_of_ble_eq_true rfl) (Nat.le_of_ble_eq_true rfl) t0 rfl rfl (by omega) hn (h10 k _ (xs (6 * k + 1)) hk5 hI) ?_
        rintro _ _ ⟨a, rfl, ⟨u1, n1, T1, I1, J1, R1, rfl, hT1, hn1⟩, hB⟩
        dsimp only [Option.toList, List.cons_append, List.nil_append]
        have t69 : T1 69 = (100 + 11, kd11) := hT1.2 69 (by decide)
        have h981 := hT1.1
        refine g_aload_n dL_law_595 rfl ?_
        refine g_aload_n dL_law_596 rfl ?_
        refine g_iload_n dL_law_597 rfl ?_
        refine g_iconst (v := nI 1) dL_law_598 (by decide) ?_
        refine g_iaddN dL_law_599 ?_
        refine g_oald (o := 0) (x := (L, xs)) dL_law_600 rfl rfl (by show _ < L; omega) (by show L < 2 ^ 31; omega) ?_
        refine g_virt (Z := MX11_end) dL_law_601 mL_60.1 mL_60.2 (Nat.le_of_ble_eq_true rfl) rfl rfl (Nat.le_of_ble_eq_true rfl) (Nat.le_of_ble_eq_true rfl) t69 rfl rfl (by omega) hn1 hB ?_
        rintro _ K2 ⟨rfl, hI2⟩
        dsimp only [Option.toList, List.cons_append, List.nil_append]
        exact g_ic_eq (t := 1283) dL_law_604 (by decide) (fun _ => next K2 hI2) (fun z => absurd rfl z)
      | 11, _ =>
        refine g_tsI (t := 609) dL_law_33 (by decide) rfl (by decide) ?_
        refine g_aload_n dL_law_609 rfl ?_
        refine g_virt (Z := MX10_row) dL_law_610 mL_61.1 mL_61.2 (Nat.le_of_ble_eq_true rfl) rfl rfl (Nat.le_of_ble_eq_true rfl) (Nat.le_of_ble_eq_true rfl) t0 rfl rfl (by omega) hn (h11 k _  hk5 hI) ?_
        rintro _ _ ⟨a, rfl, ⟨u1, n1, T1, I1, J1, R1, rfl, hT1, hn1⟩, hB⟩
        dsimp only [Option.toList, List.cons_append, List.nil_append]
        have t69 : T1 69 = (100 + 11, kd11) := hT1.2 69 (by decide)
        have h981 := hT1.1
        refine g_aload_n dL_law_613 rfl ?_
        refine g_virt (Z := MX11_row) dL_law_614 mL_65.1 mL_65.2 (Nat.le_of_ble_eq_true rfl) rfl rfl (Nat.le_of_ble_eq_true rfl) (Nat.le_of_ble_eq_true rfl) t69 rfl rfl (by omega) hn1 hB ?_
        rintro _ K2 ⟨rfl, hI2⟩
        dsimp only [Option.toList, List.cons_append, List.nil_append]
        exact g_ic_eq (t := 1283) dL_law_617 (by decide) (fun _ => next K2 hI2) (fun z => absurd rfl z)
      | 12, _ =>
        refine g_tsI (t := 622) dL_law_33 (by decide) rfl (by decide) ?_
        refine g_aload_n dL_law_622 rfl ?_
        refine g_virt (Z := MX10_draughts) dL_law_623 mL_66.1 mL_66.2 (Nat.le_of_ble_eq_true rfl) rfl rfl (Nat.le_of_ble_eq_true rfl) (Nat.le_of_ble_eq_true rfl) t0 rfl rfl (by omega) hn (h12 k _  hk5 hI) ?_
        rintro _ _ ⟨a, rfl, ⟨u1, n1, T1, I1, J1, R1, rfl, hT1, hn1⟩, hB⟩
        dsimp only [Option.toList, List.cons_append, List.nil_append]
        have t69 : T1 69 = (100 + 11, kd11) := hT1.2 69 (by decide)
        have h981 := hT1.1
        refine g_aload_n dL_law_626 rfl ?_
        refine g_virt (Z := MX11_draughts) dL_law_627 mL_69.1 mL_69.2 (Nat.le_of_ble_eq_true rfl) rfl rfl (Nat.le_of_ble_eq_true rfl) (Nat.le_of_ble_eq_true rfl) t69 rfl rfl (by omega) hn1 hB ?_
        rintro _ K2 ⟨rfl, hI2⟩
        dsimp only [Option.toList, List.cons_append, List.nil_append]
        exact g_ic_eq (t := 1283) dL_law_630 (by decide) (fun _ => next K2 hI2) (fun z => absurd rfl z)
      | 13, _ =>
        refine g_tsI (t := 635) dL_law_33 (by decide) rfl (by decide) ?_
        refine g_aload_n dL_law_635 rfl ?_
        refine g_virt (Z := MX10_law) dL_law_636 mL_70.1 mL_70.2 (Nat.le_of_ble_eq_true rfl) rfl rfl (Nat.le_of_ble_eq_true rfl) (Nat.le_of_ble_eq_true rfl) t0 rfl rfl (by omega) hn (h13 k _  hk5 hI) ?_
        rintro _ _ ⟨a, rfl, ⟨u1, n1, T1, I1, J1, R1, rfl, hT1, hn1⟩, hB⟩
        dsimp only [Option.toList, List.cons_append, List.nil_append]
        have t69 : T1 69 = (100 + 11, kd11) := hT1.2 69 (by decide)
        have h981 := hT1.1
        refine g_aload_n dL_law_639 rfl ?_
        refine g_virt (Z := MX11_law) dL_law_640 mL_73.1 mL_73.2 (Nat.le_of_ble_eq_true rfl) rfl rfl (Nat.le_of_ble_eq_true rfl) (Nat.le_of_ble_eq_true rfl) t69 rfl rfl (by omega) hn1 hB ?_
        rintro _ K2 ⟨rfl, hI2⟩
        dsimp only [Option.toList, List.cons_append, List.nil_append]
        exact g_ic_eq (t := 1283) dL_law_643 (by decide) (fun _ => next K2 hI2) (fun z => absurd rfl z)
      | 14, _ =>
        refine g_tsI (t := 648) dL_law_33 (by decide) rfl (by decide) ?_
        refine g_aload_n dL_law_648 rfl ?_
        refine g_virt (Z := MX10_orders) dL_law_649 mL_74.1 mL_74.2 (Nat.le_of_ble_eq_true rfl) rfl rfl (Nat.le_of_ble_eq_true rfl) (Nat.le_of_ble_eq_true rfl) t0 rfl rfl (by omega) hn (h14 k _  hk5 hI) ?_
        rintro _ _ ⟨a, rfl, ⟨u1, n1, T1, I1, J1, R1, rfl, hT1, hn1⟩, hB⟩
        dsimp only [Option.toList, List.cons_append, List.nil_append]
        have t69 : T1 69 = (100 + 11, kd11) := hT1.2 69 (by decide)
        have h981 := hT1.1
        refine g_aload_n dL_law_652 rfl ?_
        refine g_virt (Z := MX11_orders) dL_law_653 mL_77.1 mL_77.2 (Nat.le_of_ble_eq_true rfl) rfl rfl (Nat.le_of_ble_eq_true rfl) (Nat.le_of_ble_eq_true rfl) t69 rfl rfl (by omega) hn1 hB ?_
        rintro _ K2 ⟨rfl, hI2⟩
        dsimp only [Option.toList, List.cons_append, List.nil_append]
        exact g_ic_eq (t := 1283) dL_law_656 (by decide) (fun _ => next K2 hI2) (fun z => absurd rfl z)
      | 15, _ =>
        refine g_tsI (t := 661) dL_law_33 (by decide) rfl (by decide) ?_
        refine g_aload_n dL_law_661 rfl ?_
        refine g_virt (Z := MX10_fault) dL_law_662 mL_78.1 mL_78.2 (Nat.le_of_ble_eq_true rfl) rfl rfl (Nat.le_of_ble_eq_true rfl) (Nat.le_of_ble_eq_true rfl) t0 rfl rfl (by omega) hn (h15 k _  hk5 hI) ?_
        rintro _ _ ⟨a, rfl, ⟨u1, n1, T1, I1, J1, R1, rfl, hT1, hn1⟩, hB⟩
        dsimp only [Option.toList, List.cons_append, List.nil_append]
        have t69 : T1 69 = (100 + 11, kd11) := hT1.2 69 (by decide)
        have h981 := hT1.1
        refine g_aload_n dL_law_665 rfl ?_
        refine g_virt (Z := MX11_fault) dL_law_666 mL_81.1 mL_81.2 (Nat.le_of_ble_eq_true rfl) rfl rfl (Nat.le_of_ble_eq_true rfl) (Nat.le_of_ble_eq_true rfl) t69 rfl rfl (by omega) hn1 hB ?_
        rintro _ K2 ⟨rfl, hI2⟩
        dsimp only [Option.toList, List.cons_append, List.nil_append]
        exact g_ic_eq (t := 1283) dL_law_669 (by decide) (fun _ => next K2 hI2) (fun z => absurd rfl z)
      | 16, _ =>
        refine g_tsI (t := 674) dL_law_33 (by decide) rfl (by decide) ?_
        refine g_aload_n dL_law_674 rfl ?_
        refine g_virt (Z := MX10_stopped) dL_law_675 mL_82.1 mL_82.2 (Nat.le_of_ble_eq_true rfl) rfl rfl (Nat.le_of_ble_eq_true rfl) (Nat.le_of_ble_eq_true rfl) t0 rfl rfl (by omega) hn (h16 k _  hk5 hI) ?_
        rintro _ _ ⟨a, rfl, ⟨u1, n1, T1, I1, J1, R1, rfl, hT1, hn1⟩, hB⟩
        dsimp only [Option.toList, List.cons_append, List.nil_append]
        have t69 : T1 69 = (100 + 11, kd11) := hT1.2 69 (by decide)
        have h981 := hT1.1
        refine g_aload_n dL_law_678 rfl ?_
        refine g_virt (Z := MX11_stopped) dL_law_679 mL_85.1 mL_85.2 (Nat.le_of_ble_eq_true rfl) rfl rfl (Nat.le_of_ble_eq_true rfl) (Nat.le_of_ble_eq_true rfl) t69 rfl rfl (by omega) hn1 hB ?_
        rintro _ K2 ⟨rfl, hI2⟩
        dsimp only [Option.toList, List.cons_append, List.nil_append]
        exact g_ic_eq (t := 1283) dL_law_682 (by decide) (fun _ => next K2 hI2) (fun z => absurd rfl z)
      | 17, _ =>
        refine g_tsI (t := 687) dL_law_33 (by decide) rfl (by decide) ?_
        refine g_aload_n dL_law_687 rfl ?_
        refine g_aload_n dL_law_688 rfl ?_
        refine g_iload_n dL_law_689 rfl ?_
        refine g_iconst (v := nI 1) dL_law_690 (by decide) ?_
        refine g_iaddN dL_law_691 ?_
        refine g_oald (o := 0) (x := (L, xs)) dL_law_692 rfl rfl (by show _ < L; omega) (by show L < 2 ^ 31; omega) ?_
        refine g_virt (Z := MX10_force) dL_law_693 mL_86.1 mL_86.2 (Nat.le_of_ble_eq_true rfl) rfl rfl (Nat.le_of_ble_eq_true rfl) (Nat.le_of_ble_eq_true rfl) t0 rfl rfl (by omega) hn (h17 k _ (xs (6 * k + 1)) hk5 hI) ?_
        rintro _ _ ⟨a, rfl, ⟨u1, n1, T1, I1, J1, R1, rfl, hT1, hn1⟩, hB⟩
        dsimp only [Option.toList, List.cons_append, List.nil_append]
        have t69 : T1 69 = (100 + 11, kd11) := hT1.2 69 (by decide)
        have h981 := hT1.1
        refine g_aload_n dL_law_696 rfl ?_
        refine g_aload_n dL_law_697 rfl ?_
        refine g_iload_n dL_law_698 rfl ?_
        refine g_iconst (v := nI 1) dL_law_699 (by decide) ?_
        refine g_iaddN dL_law_700 ?_
        refine g_oald (o := 0) (x := (L, xs)) dL_law_701 rfl rfl (by show _ < L; omega) (by show L < 2 ^ 31; omega) ?_
        refine g_virt (Z := MX11_force) dL_law_702 mL_89.1 mL_89.2 (Nat.le_of_ble_eq_true rfl) rfl rfl (Nat.le_of_ble_eq_true rfl) (Nat.le_of_ble_eq_true rfl) t69 rfl rfl (by omega) hn1 hB ?_
        rintro _ K2 ⟨rfl, hI2⟩
        dsimp only [Option.toList, List.cons_append, List.nil_append]
        exact g_ic_eq (t := 1283) dL_law_705 (by decide) (fun _ => next K2 hI2) (fun z => absurd rfl z)
      | 18, _ =>
        refine g_tsI (t := 710) dL_law_33 (by decide) rfl (by decide) ?_
        refine g_aload_n dL_law_710 rfl ?_
        refine g_aload_n dL_law_711 rfl ?_
        refine g_iload_n dL_law_712 rfl ?_
        refine g_iconst (v := nI 1) dL_law_713 (by decide) ?_
        refine g_iaddN dL_law_714 ?_
        refine g_oald (o := 0) (x := (L, xs)) dL_law_715 rfl rfl (by show _ < L; omega) (by show L < 2 ^ 31; omega) ?_
        refine g_virt (Z := MX10_renew) dL_law_716 mL_90.1 mL_90.2 (Nat.le_of_ble_eq_true rfl) rfl rfl (Nat.le_of_ble_eq_true rfl) (Nat.le_of_ble_eq_true rfl) t0 rfl rfl (by omega) hn (h18 k _ (xs (6 * k + 1)) hk5 hI) ?_
        rintro _ _ ⟨a, rfl, ⟨u1, n1, T1, I1, J1, R1, rfl, hT1, hn1⟩, hB⟩
        dsimp only [Option.toList, List.cons_append, List.nil_append]
        have t69 : T1 69 = (100 + 11, kd11) := hT1.2 69 (by decide)
        have h981 := hT1.1
        refine g_aload_n dL_law_719 rfl ?_
        refine g_aload_n dL_law_720 rfl ?_
        refine g_iload_n dL_law_721 rfl ?_
        refine g_iconst (v := nI 1) dL_law_722 (by decide) ?_
        refine g_iaddN dL_law_723 ?_
        refine g_oald (o := 0) (x := (L, xs)) dL_law_724 rfl rfl (by show _ < L; omega) (by show L < 2 ^ 31; omega) ?_
        refine g_virt (Z := MX11_renew) dL_law_725 mL_93.1 mL_93.2 (Nat.le_of_ble_eq_true rfl) rfl rfl (Nat.le_of_ble_eq_true rfl) (Nat.le_of_ble_eq_true rfl) t69 rfl rfl (by omega) hn1 hB ?_
        rintro _ K2 ⟨rfl, hI2⟩
        dsimp only [Option.toList, List.cons_append, List.nil_append]
        exact g_ic_eq (t := 1283) dL_law_728 (by decide) (fun _ => next K2 hI2) (fun z => absurd rfl z)
      | 19, _ =>
        refine g_tsI (t := 733) dL_law_33 (by decide) rfl (by decide) ?_
        refine g_aload_n dL_law_733 rfl ?_
        refine g_aload_n dL_law_734 rfl ?_
        refine g_iload_n dL_law_735 rfl ?_
        refine g_iconst (v := nI 1) dL_law_736 (by decide) ?_
        refine g_iaddN dL_law_737 ?_
        refine g_oald (o := 0) (x := (L, xs)) dL_law_738 rfl rfl (by show _ < L; omega) (by show L < 2 ^ 31; omega) ?_
        refine g_aload_n dL_law_739 rfl ?_
        refine g_iload_n dL_law_740 rfl ?_
        refine g_iconst (v := nI 2) dL_law_741 (by decide) ?_
        refine g_iaddN dL_law_742 ?_
        refine g_oald (o := 0) (x := (L, xs)) dL_law_743 rfl rfl (by show _ < L; omega) (by show L < 2 ^ 31; omega) ?_
        refine g_virt (Z := MX10_lodge) dL_law_744 mL_94.1 mL_94.2 (Nat.le_of_ble_eq_true rfl) rfl rfl (Nat.le_of_ble_eq_true rfl) (Nat.le_of_ble_eq_true rfl) t0 rfl rfl (by omega) hn (h19 k _ (xs (6 * k + 1)) (xs (6 * k + 2)) hk5 hI) ?_
        rintro _ _ ⟨a, rfl, ⟨u1, n1, T1, I1, J1, R1, rfl, hT1, hn1⟩, hB⟩
        dsimp only [Option.toList, List.cons_append, List.nil_append]
        have t69 : T1 69 = (100 + 11, kd11) := hT1.2 69 (by decide)
        have h981 := hT1.1
        refine g_aload_n dL_law_747 rfl ?_
        refine g_aload_n dL_law_748 rfl ?_
        refine g_iload_n dL_law_749 rfl ?_
        refine g_iconst (v := nI 1) dL_law_750 (by decide) ?_
        refine g_iaddN dL_law_751 ?_
        refine g_oald (o := 0) (x := (L, xs)) dL_law_752 rfl rfl (by show _ < L; omega) (by show L < 2 ^ 31; omega) ?_
        refine g_aload_n dL_law_753 rfl ?_
        refine g_iload_n dL_law_754 rfl ?_
        refine g_iconst (v := nI 2) dL_law_755 (by decide) ?_
        refine g_iaddN dL_law_756 ?_
        refine g_oald (o := 0) (x := (L, xs)) dL_law_757 rfl rfl (by show _ < L; omega) (by show L < 2 ^ 31; omega) ?_
        refine g_virt (Z := MX11_lodge) dL_law_758 mL_97.1 mL_97.2 (Nat.le_of_ble_eq_true rfl) rfl rfl (Nat.le_of_ble_eq_true rfl) (Nat.le_of_ble_eq_true rfl) t69 rfl rfl (by omega) hn1 hB ?_
        rintro _ K2 ⟨rfl, hI2⟩
        dsimp only [Option.toList, List.cons_append, List.nil_append]
        exact g_ic_eq (t := 1283) dL_law_761 (by decide) (fun _ => next K2 hI2) (fun z => absurd rfl z)
      | 20, _ =>
        refine g_tsI (t := 766) dL_law_33 (by decide) rfl (by decide) ?_
        refine g_aload_n dL_law_766 rfl ?_
        refine g_aload_n dL_law_767 rfl ?_
        refine g_iload_n dL_law_768 rfl ?_
        refine g_iconst (v := nI 1) dL_law_769 (by decide) ?_
        refine g_iaddN dL_law_770 ?_
        refine g_oald (o := 0) (x := (L, xs)) dL_law_771 rfl rfl (by show _ < L; omega) (by show L < 2 ^ 31; omega) ?_
        refine g_virt (Z := MX10_knock) dL_law_772 mL_98.1 mL_98.2 (Nat.le_of_ble_eq_true rfl) rfl rfl (Nat.le_of_ble_eq_true rfl) (Nat.le_of_ble_eq_true rfl) t0 rfl rfl (by omega) hn (h20 k _ (xs (6 * k + 1)) hk5 hI) ?_
        rintro _ _ ⟨a, rfl, ⟨u1, n1, T1, I1, J1, R1, rfl, hT1, hn1⟩, hB⟩
        dsimp only [Option.toList, List.cons_append, List.nil_append]
        have t69 : T1 69 = (100 + 11, kd11) := hT1.2 69 (by decide)
        have h981 := hT1.1
        refine g_aload_n dL_law_775 rfl ?_
        refine g_aload_n dL_law_776 rfl ?_
        refine g_iload_n dL_law_777 rfl ?_
        refine g_iconst (v := nI 1) dL_law_778 (by decide) ?_
        refine g_iaddN dL_law_779 ?_
        refine g_oald (o := 0) (x := (L, xs)) dL_law_780 rfl rfl (by show _ < L; omega) (by show L < 2 ^ 31; omega) ?_
        refine g_virt (Z := MX11_knock) dL_law_781 mL_101.1 mL_101.2 (Nat.le_of_ble_eq_true rfl) rfl rfl (Nat.le_of_ble_eq_true rfl) (Nat.le_of_ble_eq_true rfl) t69 rfl rfl (by omega) hn1 hB ?_
        rintro _ K2 ⟨rfl, hI2⟩
        dsimp only [Option.toList, List.cons_append, List.nil_append]
        exact g_ic_eq (t := 1283) dL_law_784 (by decide) (fun _ => next K2 hI2) (fun z => absurd rfl z)
      | 21, _ =>
        refine g_tsI (t := 789) dL_law_33 (by decide) rfl (by decide) ?_
        refine g_aload_n dL_law_789 rfl ?_
        refine g_virt (Z := MX10_pass) dL_law_790 mL_102.1 mL_102.2 (Nat.le_of_ble_eq_true rfl) rfl rfl (Nat.le_of_ble_eq_true rfl) (Nat.le_of_ble_eq_true rfl) t0 rfl rfl (by omega) hn (h21 k _  hk5 hI) ?_
        rintro _ _ ⟨a, rfl, ⟨u1, n1, T1, I1, J1, R1, rfl, hT1, hn1⟩, hB⟩
        dsimp only [Option.toList, List.cons_append, List.nil_append]
        have t69 : T1 69 = (100 + 11, kd11) := hT1.2 69 (by decide)
        have h981 := hT1.1
        refine g_aload_n dL_law_793 rfl ?_
        refine g_virt (Z := MX11_pass) dL_law_794 mL_105.1 mL_105.2 (Nat.le_of_ble_eq_true rfl) rfl rfl (Nat.le_of_ble_eq_true rfl) (Nat.le_of_ble_eq_true rfl) t69 rfl rfl (by omega) hn1 hB ?_
        rintro _ K2 ⟨rfl, hI2⟩
        dsimp only [Option.toList, List.cons_append, List.nil_append]
        exact g_ic_eq (t := 1283) dL_law_797 (by decide) (fun _ => next K2 hI2) (fun z => absurd rfl z)
      | 22, _ =>
        refine g_tsI (t := 802) dL_law_33 (by decide) rfl (by decide) ?_
        refine g_aload_n dL_law_802 rfl ?_
        refine g_virt (Z := MX10_undo) dL_law_803 mL_106.1 mL_106.2 (Nat.le_of_ble_eq_true rfl) rfl rfl (Nat.le_of_ble_eq_true rfl) (Nat.le_of_ble_eq_true rfl) t0 rfl rfl (by omega) hn (h22 k _  hk5 hI) ?_
        rintro _ _ ⟨a, rfl, ⟨u1, n1, T1, I1, J1, R1, rfl, hT1, hn1⟩, hB⟩
        dsimp only [Option.toList, List.cons_append, List.nil_append]
        have t69 : T1 69 = (100 + 11, kd11) := hT1.2 69 (by decide)
        have h981 := hT1.1
        refine g_aload_n dL_law_806 rfl ?_
        refine g_virt (Z := MX11_undo) dL_law_807 mL_109.1 mL_109.2 (Nat.le_of_ble_eq_true rfl) rfl rfl (Nat.le_of_ble_eq_true rfl) (Nat.le_of_ble_eq_true rfl) t69 rfl rfl (by omega) hn1 hB ?_
        rintro _ K2 ⟨rfl, hI2⟩
        dsimp only [Option.toList, List.cons_append, List.nil_append]
        exact g_ic_eq (t := 1283) dL_law_810 (by decide) (fun _ => next K2 hI2) (fun z => absurd rfl z)
      | 23, _ =>
        refine g_tsI (t := 815) dL_law_33 (by decide) rfl (by decide) ?_
        refine g_aload_n dL_law_815 rfl ?_
        refine g_aload_n dL_law_816 rfl ?_
        refine g_iload_n dL_law_817 rfl ?_
        refine g_iconst (v := nI 1) dL_law_818 (by decide) ?_
        refine g_iaddN dL_law_819 ?_
        refine g_oald (o := 0) (x := (L, xs)) dL_law_820 rfl rfl (by show _ < L; omega) (by show L < 2 ^ 31; omega) ?_
        refine g_virt (Z := MX10_inside) dL_law_821 mL_110.1 mL_110.2 (Nat.le_of_ble_eq_true rfl) rfl rfl (Nat.le_of_ble_eq_true rfl) (Nat.le_of_ble_eq_true rfl) t0 rfl rfl (by omega) hn (h23 k _ (xs (6 * k + 1)) hk5 hI) ?_
        rintro _ _ ⟨a, rfl, ⟨u1, n1, T1, I1, J1, R1, rfl, hT1, hn1⟩, hB⟩
        dsimp only [Option.toList, List.cons_append, List.nil_append]
        have t69 : T1 69 = (100 + 11, kd11) := hT1.2 69 (by decide)
        have h981 := hT1.1
        refine g_aload_n dL_law_824 rfl ?_
        refine g_aload_n dL_law_825 rfl ?_
        refine g_iload_n dL_law_826 rfl ?_
        refine g_iconst (v := nI 1) dL_law_827 (by decide) ?_
        refine g_iaddN dL_law_828 ?_
        refine g_oald (o := 0) (x := (L, xs)) dL_law_829 rfl rfl (by show _ < L; omega) (by show L < 2 ^ 31; omega) ?_
        refine g_virt (Z := MX11_inside) dL_law_830 mL_113.1 mL_113.2 (Nat.le_of_ble_eq_true rfl) rfl rfl (Nat.le_of_ble_eq_true rfl) (Nat.le_of_ble_eq_true rfl) t69 rfl rfl (by omega) hn1 hB ?_
        rintro _ K2 ⟨rfl, hI2⟩
        dsimp only [Option.toList, List.cons_append, List.nil_append]
        exact g_ic_eq (t := 1283) dL_law_833 (by decide) (fun _ => next K2 hI2) (fun z => absurd rfl z)
      | 24, _ =>
        refine g_tsI (t := 838) dL_law_33 (by decide) rfl (by decide) ?_
        refine g_aload_n dL_law_838 rfl ?_
        refine g_virt (Z := MX10_empty) dL_law_839 mL_114.1 mL_114.2 (Nat.le_of_ble_eq_true rfl) rfl rfl (Nat.le_of_ble_eq_true rfl) (Nat.le_of_ble_eq_true rfl) t0 rfl rfl (by omega) hn (h24 k _  hk5 hI) ?_
        rintro _ _ ⟨a, rfl, ⟨u1, n1, T1, I1, J1, R1, rfl, hT1, hn1⟩, hB⟩
        dsimp only [Option.toList, List.cons_append, List.nil_append]
        have t69 : T1 69 = (100 + 11, kd11) := hT1.2 69 (by decide)
        have h981 := hT1.1
        refine g_aload_n dL_law_842 rfl ?_
        refine g_virt (Z := MX11_empty) dL_law_843 mL_117.1 mL_117.2 (Nat.le_of_ble_eq_true rfl) rfl rfl (Nat.le_of_ble_eq_true rfl) (Nat.le_of_ble_eq_true rfl) t69 rfl rfl (by omega) hn1 hB ?_
        rintro _ K2 ⟨rfl, hI2⟩
        dsimp only [Option.toList, List.cons_append, List.nil_append]
        exact g_ic_eq (t := 1283) dL_law_846 (by decide) (fun _ => next K2 hI2) (fun z => absurd rfl z)
      | 25, _ =>
        refine g_tsI (t := 851) dL_law_33 (by decide) rfl (by decide) ?_
        refine g_aload_n dL_law_851 rfl ?_
        refine g_aload_n dL_law_852 rfl ?_
        refine g_iload_n dL_law_853 rfl ?_
        refine g_iconst (v := nI 1) dL_law_854 (by decide) ?_
        refine g_iaddN dL_law_855 ?_
        refine g_oald (o := 0) (x := (L, xs)) dL_law_856 rfl rfl (by show _ < L; omega) (by show L < 2 ^ 31; omega) ?_
        refine g_aload_n dL_law_857 rfl ?_
        refine g_iload_n dL_law_858 rfl ?_
        refine g_iconst (v := nI 2) dL_law_859 (by decide) ?_
        refine g_iaddN dL_law_860 ?_
        refine g_oald (o := 0) (x := (L, xs)) dL_law_861 rfl rfl (by show _ < L; omega) (by show L < 2 ^ 31; omega) ?_
        refine g_aload_n dL_law_862 rfl ?_
        refine g_iload_n dL_law_863 rfl ?_
        refine g_iconst (v := nI 3) dL_law_864 (by decide) ?_
        refine g_iaddN dL_law_865 ?_
        refine g_oald (o := 0) (x := (L, xs)) dL_law_866 rfl rfl (by show _ < L; omega) (by show L < 2 ^ 31; omega) ?_
        refine g_virt (Z := MX10_keep) dL_law_867 mL_118.1 mL_118.2 (Nat.le_of_ble_eq_true rfl) rfl rfl (Nat.le_of_ble_eq_true rfl) (Nat.le_of_ble_eq_true rfl) t0 rfl rfl (by omega) hn (h25 k _ (xs (6 * k + 1)) (xs (6 * k + 2)) (xs (6 * k + 3)) hk5 hI) ?_
        rintro _ _ ⟨a, rfl, ⟨u1, n1, T1, I1, J1, R1, rfl, hT1, hn1⟩, hB⟩
        dsimp only [Option.toList, List.cons_append, List.nil_append]
        have t69 : T1 69 = (100 + 11, kd11) := hT1.2 69 (by decide)
        have h981 := hT1.1
        refine g_aload_n dL_law_870 rfl ?_
        refine g_aload_n dL_law_871 rfl ?_
        refine g_iload_n dL_law_872 rfl ?_
        refine g_iconst (v := nI 1) dL_law_873 (by decide) ?_
        refine g_iaddN dL_law_874 ?_
        refine g_oald (o := 0) (x := (L, xs)) dL_law_875 rfl rfl (by show _ < L; omega) (by show L < 2 ^ 31; omega) ?_
        refine g_aload_n dL_law_876 rfl ?_
        refine g_iload_n dL_law_877 rfl ?_
        refine g_iconst (v := nI 2) dL_law_878 (by decide) ?_
        refine g_iaddN dL_law_879 ?_
        refine g_oald (o := 0) (x := (L, xs)) dL_law_880 rfl rfl (by show _ < L; omega) (by show L < 2 ^ 31; omega) ?_
        refine g_aload_n dL_law_881 rfl ?_
        refine g_iload_n dL_law_882 rfl ?_
        refine g_iconst (v := nI 3) dL_law_883 (by decide) ?_
        refine g_iaddN dL_law_884 ?_
        refine g_oald (o := 0) (x := (L, xs)) dL_law_885 rfl rfl (by show _ < L; omega) (by show L < 2 ^ 31; omega) ?_
        refine g_virt (Z := MX11_keep) dL_law_886 mL_121.1 mL_121.2 (Nat.le_of_ble_eq_true rfl) rfl rfl (Nat.le_of_ble_eq_true rfl) (Nat.le_of_ble_eq_true rfl) t69 rfl rfl (by omega) hn1 hB ?_
        rintro _ K2 ⟨rfl, hI2⟩
        dsimp only [Option.toList, List.cons_append, List.nil_append]
        exact g_ic_eq (t := 1283) dL_law_889 (by decide) (fun _ => next K2 hI2) (fun z => absurd rfl z)
      | 26, _ =>
        refine g_tsI (t := 894) dL_law_33 (by decide) rfl (by decide) ?_
        refine g_aload_n dL_law_894 rfl ?_
        refine g_aload_n dL_law_895 rfl ?_
        refine g_iload_n dL_law_896 rfl ?_
        refine g_iconst (v := nI 1) dL_law_897 (by decide) ?_
        refine g_iaddN dL_law_898 ?_
        refine g_oald (o := 0) (x := (L, xs)) dL_law_899 rfl rfl (by show _ < L; omega) (by show L < 2 ^ 31; omega) ?_
        refine g_aload_n dL_law_900 rfl ?_
        refine g_iload_n dL_law_901 rfl ?_
        refine g_iconst (v := nI 2) dL_law_902 (by decide) ?_
        refine g_iaddN dL_law_903 ?_
        refine g_oald (o := 0) (x := (L, xs)) dL_law_904 rfl rfl (by show _ < L; omega) (by show L < 2 ^ 31; omega) ?_
        refine g_virt (Z := MX10_when) dL_law_905 mL_122.1 mL_122.2 (Nat.le_of_ble_eq_true rfl) rfl rfl (Nat.le_of_ble_eq_true rfl) (Nat.le_of_ble_eq_true rfl) t0 rfl rfl (by omega) hn (h26 k _ (xs (6 * k + 1)) (xs (6 * k + 2)) hk5 hI) ?_
        rintro _ _ ⟨a, rfl, ⟨u1, n1, T1, I1, J1, R1, rfl, hT1, hn1⟩, hB⟩
        dsimp only [Option.toList, List.cons_append, List.nil_append]
        have t69 : T1 69 = (100 + 11, kd11) := hT1.2 69 (by decide)
        have h981 := hT1.1
        refine g_aload_n dL_law_908 rfl ?_
        refine g_aload_n dL_law_909 rfl ?_
        refine g_iload_n dL_law_910 rfl ?_
        refine g_iconst (v := nI 1) dL_law_911 (by decide) ?_
        refine g_iaddN dL_law_912 ?_
        refine g_oald (o := 0) (x := (L, xs)) dL_law_913 rfl rfl (by show _ < L; omega) (by show L < 2 ^ 31; omega) ?_
        refine g_aload_n dL_law_914 rfl ?_
        refine g_iload_n dL_law_915 rfl ?_
        refine g_iconst (v := nI 2) dL_law_916 (by decide) ?_
        refine g_iaddN dL_law_917 ?_
        refine g_oald (o := 0) (x := (L, xs)) dL_law_918 rfl rfl (by show _ < L; omega) (by show L < 2 ^ 31; omega) ?_
        refine g_virt (Z := MX11_when) dL_law_919 mL_125.1 mL_125.2 (Nat.le_of_ble_eq_true rfl) rfl rfl (Nat.le_of_ble_eq_true rfl) (Nat.le_of_ble_eq_true rfl) t69 rfl rfl (by omega) hn1 hB ?_
        rintro _ K2 ⟨rfl, hI2⟩
        dsimp only [Option.toList, List.cons_append, List.nil_append]
        exact g_ic_eq (t := 1283) dL_law_922 (by decide) (fun _ => next K2 hI2) (fun z => absurd rfl z)
      | 27, _ =>
        refine g_tsI (t := 927) dL_law_33 (by decide) rfl (by decide) ?_
        refine g_aload_n dL_law_927 rfl ?_
        refine g_aload_n dL_law_928 rfl ?_
        refine g_iload_n dL_law_929 rfl ?_
        refine g_iconst (v := nI 1) dL_law_930 (by decide) ?_
        refine g_iaddN dL_law_931 ?_
        refine g_oald (o := 0) (x := (L, xs)) dL_law_932 rfl rfl (by show _ < L; omega) (by show L < 2 ^ 31; omega) ?_
        refine g_aload_n dL_law_933 rfl ?_
        refine g_iload_n dL_law_934 rfl ?_
        refine g_iconst (v := nI 2) dL_law_935 (by decide) ?_
        refine g_iaddN dL_law_936 ?_
        refine g_oald (o := 0) (x := (L, xs)) dL_law_937 rfl rfl (by show _ < L; omega) (by show L < 2 ^ 31; omega) ?_
        refine g_virt (Z := MX10_seen) dL_law_938 mL_126.1 mL_126.2 (Nat.le_of_ble_eq_true rfl) rfl rfl (Nat.le_of_ble_eq_true rfl) (Nat.le_of_ble_eq_true rfl) t0 rfl rfl (by omega) hn (h27 k _ (xs (6 * k + 1)) (xs (6 * k + 2)) hk5 hI) ?_
        rintro _ _ ⟨a, rfl, ⟨u1, n1, T1, I1, J1, R1, rfl, hT1, hn1⟩, hB⟩
        dsimp only [Option.toList, List.cons_append, List.nil_append]
        have t69 : T1 69 = (100 + 11, kd11) := hT1.2 69 (by decide)
        have h981 := hT1.1
        refine g_aload_n dL_law_941 rfl ?_
        refine g_aload_n dL_law_942 rfl ?_
        refine g_iload_n dL_law_943 rfl ?_
        refine g_iconst (v := nI 1) dL_law_944 (by decide) ?_
        refine g_iaddN dL_law_945 ?_
        refine g_oald (o := 0) (x := (L, xs)) dL_law_946 rfl rfl (by show _ < L; omega) (by show L < 2 ^ 31; omega) ?_
        refine g_aload_n dL_law_947 rfl ?_
        refine g_iload_n dL_law_948 rfl ?_
        refine g_iconst (v := nI 2) dL_law_949 (by decide) ?_
        refine g_iaddN dL_law_950 ?_
        refine g_oald (o := 0) (x := (L, xs)) dL_law_951 rfl rfl (by show _ < L; omega) (by show L < 2 ^ 31; omega) ?_
        refine g_virt (Z := MX11_seen) dL_law_952 mL_129.1 mL_129.2 (Nat.le_of_ble_eq_true rfl) rfl rfl (Nat.le_of_ble_eq_true rfl) (Nat.le_of_ble_eq_true rfl) t69 rfl rfl (by omega) hn1 hB ?_
        rintro _ K2 ⟨rfl, hI2⟩
        dsimp only [Option.toList, List.cons_append, List.nil_append]
        exact g_ic_eq (t := 1283) dL_law_955 (by decide) (fun _ => next K2 hI2) (fun z => absurd rfl z)
      | 28, _ =>
        refine g_tsI (t := 960) dL_law_33 (by decide) rfl (by decide) ?_
        refine g_aload_n dL_law_960 rfl ?_
        refine g_virt (Z := MX10_forget) dL_law_961 mL_130.1 mL_130.2 (Nat.le_of_ble_eq_true rfl) rfl rfl (Nat.le_of_ble_eq_true rfl) (Nat.le_of_ble_eq_true rfl) t0 rfl rfl (by omega) hn (h28 k _  hk5 hI) ?_
        rintro _ _ ⟨a, rfl, ⟨u1, n1, T1, I1, J1, R1, rfl, hT1, hn1⟩, hB⟩
        dsimp only [Option.toList, List.cons_append, List.nil_append]
        have t69 : T1 69 = (100 + 11, kd11) := hT1.2 69 (by decide)
        have h981 := hT1.1
        refine g_aload_n dL_law_964 rfl ?_
        refine g_virt (Z := MX11_forget) dL_law_965 mL_133.1 mL_133.2 (Nat.le_of_ble_eq_true rfl) rfl rfl (Nat.le_of_ble_eq_true rfl) (Nat.le_of_ble_eq_true rfl) t69 rfl rfl (by omega) hn1 hB ?_
        rintro _ K2 ⟨rfl, hI2⟩
        dsimp only [Option.toList, List.cons_append, List.nil_append]
        exact g_ic_eq (t := 1283) dL_law_968 (by decide) (fun _ => next K2 hI2) (fun z => absurd rfl z)
      | 29, _ =>
        refine g_tsI (t := 973) dL_law_33 (by decide) rfl (by decide) ?_
        refine g_aload_n dL_law_973 rfl ?_
        refine g_virt (Z := MX10_stranger) dL_law_974 mL_134.1 mL_134.2 (Nat.le_of_ble_eq_true rfl) rfl rfl (Nat.le_of_ble_eq_true rfl) (Nat.le_of_ble_eq_true rfl) t0 rfl rfl (by omega) hn (h29 k _  hk5 hI) ?_
        rintro _ _ ⟨a, rfl, ⟨u1, n1, T1, I1, J1, R1, rfl, hT1, hn1⟩, hB⟩
        dsimp only [Option.toList, List.cons_append, List.nil_append]
        have t69 : T1 69 = (100 + 11, kd11) := hT1.2 69 (by decide)
        have h981 := hT1.1
        refine g_aload_n dL_law_977 rfl ?_
        refine g_virt (Z := MX11_stranger) dL_law_978 mL_137.1 mL_137.2 (Nat.le_of_ble_eq_true rfl) rfl rfl (Nat.le_of_ble_eq_true rfl) (Nat.le_of_ble_eq_true rfl) t69 rfl rfl (by omega) hn1 hB ?_
        rintro _ K2 ⟨rfl, hI2⟩
        dsimp only [Option.toList, List.cons_append, List.nil_append]
        exact g_ic_eq (t := 1283) dL_law_981 (by decide) (fun _ => next K2 hI2) (fun z => absurd rfl z)
      | 30, _ =>
        refine g_tsI (t := 986) dL_law_33 (by decide) rfl (by decide) ?_
        refine g_aload_n dL_law_986 rfl ?_
        refine g_aload_n dL_law_987 rfl ?_
        refine g_iload_n dL_law_988 rfl ?_
        refine g_iconst (v := nI 1) dL_law_989 (by decide) ?_
        refine g_iaddN dL_law_990 ?_
        refine g_oald (o := 0) (x := (L, xs)) dL_law_991 rfl rfl (by show _ < L; omega) (by show L < 2 ^ 31; omega) ?_
        refine g_virt (Z := MX10_look) dL_law_992 mL_138.1 mL_138.2 (Nat.le_of_ble_eq_true rfl) rfl rfl (Nat.le_of_ble_eq_true rfl) (Nat.le_of_ble_eq_true rfl) t0 rfl rfl (by omega) hn (h30 k _ (xs (6 * k + 1)) hk5 hI) ?_
        rintro _ _ ⟨a, rfl, ⟨u1, n1, T1, I1, J1, R1, rfl, hT1, hn1⟩, hB⟩
        dsimp only [Option.toList, List.cons_append, List.nil_append]
        have t69 : T1 69 = (100 + 11, kd11) := hT1.2 69 (by decide)
        have h981 := hT1.1
        refine g_aload_n dL_law_995 rfl ?_
        refine g_aload_n dL_law_996 rfl ?_
        refine g_iload_n dL_law_997 rfl ?_
        refine g_iconst (v := nI 1) dL_law_998 (by decide) ?_
        refine g_iaddN dL_law_999 ?_
        refine g_oald (o := 0) (x := (L, xs)) dL_law_1000 rfl rfl (by show _ < L; omega) (by show L < 2 ^ 31; omega) ?_
        refine g_virt (Z := MX11_look) dL_law_1001 mL_141.1 mL_141.2 (Nat.le_of_ble_eq_true rfl) rfl rfl (Nat.le_of_ble_eq_true rfl) (Nat.le_of_ble_eq_true rfl) t69 rfl rfl (by omega) hn1 hB ?_
        rintro _ K2 ⟨rfl, hI2⟩
        dsimp only [Option.toList, List.cons_append, List.nil_append]
        exact g_ic_eq (t := 1283) dL_law_1004 (by decide) (fun _ => next K2 hI2) (fun z => absurd rfl z)
      | 31, _ =>
        refine g_tsI (t := 1009) dL_law_33 (by decide) rfl (by decide) ?_
        refine g_aload_n dL_law_1009 rfl ?_
        refine g_aload_n dL_law_1010 rfl ?_
        refine g_iload_n dL_law_1011 rfl ?_
        refine g_iconst (v := nI 1) dL_law_1012 (by decide) ?_
        refine g_iaddN dL_law_1013 ?_
        refine g_oald (o := 0) (x := (L, xs)) dL_law_1014 rfl rfl (by show _ < L; omega) (by show L < 2 ^ 31; omega) ?_
        refine g_virt (Z := MX10_rooms) dL_law_1015 mL_142.1 mL_142.2 (Nat.le_of_ble_eq_true rfl) rfl rfl (Nat.le_of_ble_eq_true rfl) (Nat.le_of_ble_eq_true rfl) t0 rfl rfl (by omega) hn (h31 k _ (xs (6 * k + 1)) hk5 hI) ?_
        rintro _ _ ⟨a, rfl, ⟨u1, n1, T1, I1, J1, R1, rfl, hT1, hn1⟩, hB⟩
        dsimp only [Option.toList, List.cons_append, List.nil_append]
        have t69 : T1 69 = (100 + 11, kd11) := hT1.2 69 (by decide)
        have h981 := hT1.1
        refine g_aload_n dL_law_1018 rfl ?_
        refine g_aload_n dL_law_1019 rfl ?_
        refine g_iload_n dL_law_1020 rfl ?_
        refine g_iconst (v := nI 1) dL_law_1021 (by decide) ?_
        refine g_iaddN dL_law_1022 ?_
        refine g_oald (o := 0) (x := (L, xs)) dL_law_1023 rfl rfl (by show _ < L; omega) (by show L < 2 ^ 31; omega) ?_
        refine g_virt (Z := MX11_rooms) dL_law_1024 mL_145.1 mL_145.2 (Nat.le_of_ble_eq_true rfl) rfl rfl (Nat.le_of_ble_eq_true rfl) (Nat.le_of_ble_eq_true rfl) t69 rfl rfl (by omega) hn1 hB ?_
        rintro _ K2 ⟨rfl, hI2⟩
        dsimp only [Option.toList, List.cons_append, List.nil_append]
        exact g_ic_eq (t := 1283) dL_law_1027 (by decide) (fun _ => next K2 hI2) (fun z => absurd rfl z)
      | 32, _ =>
        refine g_tsI (t := 1032) dL_law_33 (by decide) rfl (by decide) ?_
        refine g_aload_n dL_law_1032 rfl ?_
        refine g_aload_n dL_law_1033 rfl ?_
        refine g_iload_n dL_law_1034 rfl ?_
        refine g_iconst (v := nI 1) dL_law_1035 (by decide) ?_
        refine g_iaddN dL_law_1036 ?_
        refine g_oald (o := 0) (x := (L, xs)) dL_law_1037 rfl rfl (by show _ < L; omega) (by show L < 2 ^ 31; omega) ?_
        refine g_virt (Z := MX10_packed) dL_law_1038 mL_146.1 mL_146.2 (Nat.le_of_ble_eq_true rfl) rfl rfl (Nat.le_of_ble_eq_true rfl) (Nat.le_of_ble_eq_true rfl) t0 rfl rfl (by omega) hn (h32 k _ (xs (6 * k + 1)) hk5 hI) ?_
        rintro _ _ ⟨a, rfl, ⟨u1, n1, T1, I1, J1, R1, rfl, hT1, hn1⟩, hB⟩
        dsimp only [Option.toList, List.cons_append, List.nil_append]
        have t69 : T1 69 = (100 + 11, kd11) := hT1.2 69 (by decide)
        have h981 := hT1.1
        refine g_aload_n dL_law_1041 rfl ?_
        refine g_aload_n dL_law_1042 rfl ?_
        refine g_iload_n dL_law_1043 rfl ?_
        refine g_iconst (v := nI 1) dL_law_1044 (by decide) ?_
        refine g_iaddN dL_law_1045 ?_
        refine g_oald (o := 0) (x := (L, xs)) dL_law_1046 rfl rfl (by show _ < L; omega) (by show L < 2 ^ 31; omega) ?_
        refine g_virt (Z := MX11_packed) dL_law_1047 mL_149.1 mL_149.2 (Nat.le_of_ble_eq_true rfl) rfl rfl (Nat.le_of_ble_eq_true rfl) (Nat.le_of_ble_eq_true rfl) t69 rfl rfl (by omega) hn1 hB ?_
        rintro _ K2 ⟨rfl, hI2⟩
        dsimp only [Option.toList, List.cons_append, List.nil_append]
        exact g_ic_eq (t := 1283) dL_law_1050 (by decide) (fun _ => next K2 hI2) (fun z => absurd rfl z)
      | 33, _ =>
        refine g_tsI (t := 1055) dL_law_33 (by decide) rfl (by decide) ?_
        refine g_aload_n dL_law_1055 rfl ?_
        refine g_aload_n dL_law_1056 rfl ?_
        refine g_iload_n dL_law_1057 rfl ?_
        refine g_iconst (v := nI 1) dL_law_1058 (by decide) ?_
        refine g_iaddN dL_law_1059 ?_
        refine g_oald (o := 0) (x := (L, xs)) dL_law_1060 rfl rfl (by show _ < L; omega) (by show L < 2 ^ 31; omega) ?_
        refine g_virt (Z := MX10_changes) dL_law_1061 mL_150.1 mL_150.2 (Nat.le_of_ble_eq_true rfl) rfl rfl (Nat.le_of_ble_eq_true rfl) (Nat.le_of_ble_eq_true rfl) t0 rfl rfl (by omega) hn (h33 k _ (xs (6 * k + 1)) hk5 hI) ?_
        rintro _ _ ⟨a, rfl, ⟨u1, n1, T1, I1, J1, R1, rfl, hT1, hn1⟩, hB⟩
        dsimp only [Option.toList, List.cons_append, List.nil_append]
        have t69 : T1 69 = (100 + 11, kd11) := hT1.2 69 (by decide)
        have h981 := hT1.1
        refine g_aload_n dL_law_1064 rfl ?_
        refine g_aload_n dL_law_1065 rfl ?_
        refine g_iload_n dL_law_1066 rfl ?_
        refine g_iconst (v := nI 1) dL_law_1067 (by decide) ?_
        refine g_iaddN dL_law_1068 ?_
        refine g_oald (o := 0) (x := (L, xs)) dL_law_1069 rfl rfl (by show _ < L; omega) (by show L < 2 ^ 31; omega) ?_
        refine g_virt (Z := MX11_changes) dL_law_1070 mL_153.1 mL_153.2 (Nat.le_of_ble_eq_true rfl) rfl rfl (Nat.le_of_ble_eq_true rfl) (Nat.le_of_ble_eq_true rfl) t69 rfl rfl (by omega) hn1 hB ?_
        rintro _ K2 ⟨rfl, hI2⟩
        dsimp only [Option.toList, List.cons_append, List.nil_append]
        exact g_ic_eq (t := 1283) dL_law_1073 (by decide) (fun _ => next K2 hI2) (fun z => absurd rfl z)
      | 34, _ =>
        refine g_tsI (t := 1078) dL_law_33 (by decide) rfl (by decide) ?_
        refine g_aload_n dL_law_1078 rfl ?_
        refine g_aload_n dL_law_1079 rfl ?_
        refine g_iload_n dL_law_1080 rfl ?_
        refine g_iconst (v := nI 1) dL_law_1081 (by decide) ?_
        refine g_iaddN dL_law_1082 ?_
        refine g_oald (o := 0) (x := (L, xs)) dL_law_1083 rfl rfl (by show _ < L; omega) (by show L < 2 ^ 31; omega) ?_
        refine g_aload_n dL_law_1084 rfl ?_
        refine g_iload_n dL_law_1085 rfl ?_
        refine g_iconst (v := nI 2) dL_law_1086 (by decide) ?_
        refine g_iaddN dL_law_1087 ?_
        refine g_oald (o := 0) (x := (L, xs)) dL_law_1088 rfl rfl (by show _ < L; omega) (by show L < 2 ^ 31; omega) ?_
        refine g_virt (Z := MX10_few) dL_law_1089 mL_154.1 mL_154.2 (Nat.le_of_ble_eq_true rfl) rfl rfl (Nat.le_of_ble_eq_true rfl) (Nat.le_of_ble_eq_true rfl) t0 rfl rfl (by omega) hn (h34 k _ (xs (6 * k + 1)) (xs (6 * k + 2)) hk5 hI) ?_
        rintro _ _ ⟨a, rfl, ⟨u1, n1, T1, I1, J1, R1, rfl, hT1, hn1⟩, hB⟩
        dsimp only [Option.toList, List.cons_append, List.nil_append]
        have t69 : T1 69 = (100 + 11, kd11) := hT1.2 69 (by decide)
        have h981 := hT1.1
        refine g_aload_n dL_law_1092 rfl ?_
        refine g_aload_n dL_law_1093 rfl ?_
        refine g_iload_n dL_law_1094 rfl ?_
        refine g_iconst (v := nI 1) dL_law_1095 (by decide) ?_
        refine g_iaddN dL_law_1096 ?_
        refine g_oald (o := 0) (x := (L, xs)) dL_law_1097 rfl rfl (by show _ < L; omega) (by show L < 2 ^ 31; omega) ?_
        refine g_aload_n dL_law_1098 rfl ?_
        refine g_iload_n dL_law_1099 rfl ?_
        refine g_iconst (v := nI 2) dL_law_1100 (by decide) ?_
        refine g_iaddN dL_law_1101 ?_
        refine g_oald (o := 0) (x := (L, xs)) dL_law_1102 rfl rfl (by show _ < L; omega) (by show L < 2 ^ 31; omega) ?_
        refine g_virt (Z := MX11_few) dL_law_1103 mL_158.1 mL_158.2 (Nat.le_of_ble_eq_true rfl) rfl rfl (Nat.le_of_ble_eq_true rfl) (Nat.le_of_ble_eq_true rfl) t69 rfl rfl (by omega) hn1 hB ?_
        rintro _ K2 ⟨rfl, hI2⟩
        dsimp only [Option.toList, List.cons_append, List.nil_append]
        refine g_lcmp dL_law_1106 ?_
        exact g_if_eq (t := 1283) dL_law_1107 (by decide) (fun _ => next K2 hI2) (fun z => absurd ((lg_cmp_eq a a).mpr rfl) z)
      | 35, _ =>
        refine g_tsI (t := 1112) dL_law_33 (by decide) rfl (by decide) ?_
        refine g_aload_n dL_law_1112 rfl ?_
        refine g_aload_n dL_law_1113 rfl ?_
        refine g_iload_n dL_law_1114 rfl ?_
        refine g_iconst (v := nI 1) dL_law_1115 (by decide) ?_
        refine g_iaddN dL_law_1116 ?_
        refine g_oald (o := 0) (x := (L, xs)) dL_law_1117 rfl rfl (by show _ < L; omega) (by show L < 2 ^ 31; omega) ?_
        refine g_virt (Z := MX10_compare) dL_law_1118 mL_159.1 mL_159.2 (Nat.le_of_ble_eq_true rfl) rfl rfl (Nat.le_of_ble_eq_true rfl) (Nat.le_of_ble_eq_true rfl) t0 rfl rfl (by omega) hn (h35 k _ (xs (6 * k + 1)) hk5 hI) ?_
        rintro _ _ ⟨a, rfl, ⟨u1, n1, T1, I1, J1, R1, rfl, hT1, hn1⟩, hB⟩
        dsimp only [Option.toList, List.cons_append, List.nil_append]
        have t69 : T1 69 = (100 + 11, kd11) := hT1.2 69 (by decide)
        have h981 := hT1.1
        refine g_aload_n dL_law_1121 rfl ?_
        refine g_aload_n dL_law_1122 rfl ?_
        refine g_iload_n dL_law_1123 rfl ?_
        refine g_iconst (v := nI 1) dL_law_1124 (by decide) ?_
        refine g_iaddN dL_law_1125 ?_
        refine g_oald (o := 0) (x := (L, xs)) dL_law_1126 rfl rfl (by show _ < L; omega) (by show L < 2 ^ 31; omega) ?_
        refine g_virt (Z := MX11_compare) dL_law_1127 mL_162.1 mL_162.2 (Nat.le_of_ble_eq_true rfl) rfl rfl (Nat.le_of_ble_eq_true rfl) (Nat.le_of_ble_eq_true rfl) t69 rfl rfl (by omega) hn1 hB ?_
        rintro _ K2 ⟨rfl, hI2⟩
        dsimp only [Option.toList, List.cons_append, List.nil_append]
        exact g_ic_eq (t := 1283) dL_law_1130 (by decide) (fun _ => next K2 hI2) (fun z => absurd rfl z)
      | 36, _ =>
        refine g_tsI (t := 1135) dL_law_33 (by decide) rfl (by decide) ?_
        refine g_aload_n dL_law_1135 rfl ?_
        refine g_aload_n dL_law_1136 rfl ?_
        refine g_iload_n dL_law_1137 rfl ?_
        refine g_iconst (v := nI 1) dL_law_1138 (by decide) ?_
        refine g_iaddN dL_law_1139 ?_
        refine g_oald (o := 0) (x := (L, xs)) dL_law_1140 rfl rfl (by show _ < L; omega) (by show L < 2 ^ 31; omega) ?_
        refine g_aload_n dL_law_1141 rfl ?_
        refine g_iload_n dL_law_1142 rfl ?_
        refine g_iconst (v := nI 2) dL_law_1143 (by decide) ?_
        refine g_iaddN dL_law_1144 ?_
        refine g_oald (o := 0) (x := (L, xs)) dL_law_1145 rfl rfl (by show _ < L; omega) (by show L < 2 ^ 31; omega) ?_
        refine g_virt (Z := MX10_centuries) dL_law_1146 mL_163.1 mL_163.2 (Nat.le_of_ble_eq_true rfl) rfl rfl (Nat.le_of_ble_eq_true rfl) (Nat.le_of_ble_eq_true rfl) t0 rfl rfl (by omega) hn (h36 k _ (xs (6 * k + 1)) (xs (6 * k + 2)) hk5 hI) ?_
        rintro _ _ ⟨a, rfl, ⟨u1, n1, T1, I1, J1, R1, rfl, hT1, hn1⟩, hB⟩
        dsimp only [Option.toList, List.cons_append, List.nil_append]
        have t69 : T1 69 = (100 + 11, kd11) := hT1.2 69 (by decide)
        have h981 := hT1.1
        refine g_aload_n dL_law_1149 rfl ?_
        refine g_aload_n dL_law_1150 rfl ?_
        refine g_iload_n dL_law_1151 rfl ?_
        refine g_iconst (v := nI 1) dL_law_1152 (by decide) ?_
        refine g_iaddN dL_law_1153 ?_
        refine g_oald (o := 0) (x := (L, xs)) dL_law_1154 rfl rfl (by show _ < L; omega) (by show L < 2 ^ 31; omega) ?_
        refine g_aload_n dL_law_1155 rfl ?_
        refine g_iload_n dL_law_1156 rfl ?_
        refine g_iconst (v := nI 2) dL_law_1157 (by decide) ?_
        refine g_iaddN dL_law_1158 ?_
        refine g_oald (o := 0) (x := (L, xs)) dL_law_1159 rfl rfl (by show _ < L; omega) (by show L < 2 ^ 31; omega) ?_
        refine g_virt (Z := MX11_centuries) dL_law_1160 mL_166.1 mL_166.2 (Nat.le_of_ble_eq_true rfl) rfl rfl (Nat.le_of_ble_eq_true rfl) (Nat.le_of_ble_eq_true rfl) t69 rfl rfl (by omega) hn1 hB ?_
        rintro _ K2 ⟨rfl, hI2⟩
        dsimp only [Option.toList, List.cons_append, List.nil_append]
        exact g_ic_eq (t := 1283) dL_law_1163 (by decide) (fun _ => next K2 hI2) (fun z => absurd rfl z)
      | 37, _ =>
        refine g_tsI (t := 1168) dL_law_33 (by decide) rfl (by decide) ?_
        refine g_aload_n dL_law_1168 rfl ?_
        refine g_aload_n dL_law_1169 rfl ?_
        refine g_iload_n dL_law_1170 rfl ?_
        refine g_iconst (v := nI 1) dL_law_1171 (by decide) ?_
        refine g_iaddN dL_law_1172 ?_
        refine g_oald (o := 0) (x := (L, xs)) dL_law_1173 rfl rfl (by show _ < L; omega) (by show L < 2 ^ 31; omega) ?_
        refine g_aload_n dL_law_1174 rfl ?_
        refine g_iload_n dL_law_1175 rfl ?_
        refine g_iconst (v := nI 2) dL_law_1176 (by decide) ?_
        refine g_iaddN dL_law_1177 ?_
        refine g_oald (o := 0) (x := (L, xs)) dL_law_1178 rfl rfl (by show _ < L; omega) (by show L < 2 ^ 31; omega) ?_
        refine g_virt (Z := MX10_drawn) dL_law_1179 mL_167.1 mL_167.2 (Nat.le_of_ble_eq_true rfl) rfl rfl (Nat.le_of_ble_eq_true rfl) (Nat.le_of_ble_eq_true rfl) t0 rfl rfl (by omega) hn (h37 k _ (xs (6 * k + 1)) (xs (6 * k + 2)) hk5 hI) ?_
        rintro _ _ ⟨a, rfl, ⟨u1, n1, T1, I1, J1, R1, rfl, hT1, hn1⟩, hB⟩
        dsimp only [Option.toList, List.cons_append, List.nil_append]
        have t69 : T1 69 = (100 + 11, kd11) := hT1.2 69 (by decide)
        have h981 := hT1.1
        refine g_aload_n dL_law_1182 rfl ?_
        refine g_aload_n dL_law_1183 rfl ?_
        refine g_iload_n dL_law_1184 rfl ?_
        refine g_iconst (v := nI 1) dL_law_1185 (by decide) ?_
        refine g_iaddN dL_law_1186 ?_
        refine g_oald (o := 0) (x := (L, xs)) dL_law_1187 rfl rfl (by show _ < L; omega) (by show L < 2 ^ 31; omega) ?_
        refine g_aload_n dL_law_1188 rfl ?_
        refine g_iload_n dL_law_1189 rfl ?_
        refine g_iconst (v := nI 2) dL_law_1190 (by decide) ?_
        refine g_iaddN dL_law_1191 ?_
        refine g_oald (o := 0) (x := (L, xs)) dL_law_1192 rfl rfl (by show _ < L; omega) (by show L < 2 ^ 31; omega) ?_
        refine g_virt (Z := MX11_drawn) dL_law_1193 mL_170.1 mL_170.2 (Nat.le_of_ble_eq_true rfl) rfl rfl (Nat.le_of_ble_eq_true rfl) (Nat.le_of_ble_eq_true rfl) t69 rfl rfl (by omega) hn1 hB ?_
        rintro _ K2 ⟨rfl, hI2⟩
        dsimp only [Option.toList, List.cons_append, List.nil_append]
        exact g_ic_eq (t := 1283) dL_law_1196 (by decide) (fun _ => next K2 hI2) (fun z => absurd rfl z)
      | 38, _ =>
        refine g_tsI (t := 1201) dL_law_33 (by decide) rfl (by decide) ?_
        refine g_aload_n dL_law_1201 rfl ?_
        refine g_aload_n dL_law_1202 rfl ?_
        refine g_iload_n dL_law_1203 rfl ?_
        refine g_iconst (v := nI 1) dL_law_1204 (by decide) ?_
        refine g_iaddN dL_law_1205 ?_
        refine g_oald (o := 0) (x := (L, xs)) dL_law_1206 rfl rfl (by show _ < L; omega) (by show L < 2 ^ 31; omega) ?_
        refine g_virt (Z := MX10_image) dL_law_1207 mL_171.1 mL_171.2 (Nat.le_of_ble_eq_true rfl) rfl rfl (Nat.le_of_ble_eq_true rfl) (Nat.le_of_ble_eq_true rfl) t0 rfl rfl (by omega) hn (h38 k _ (xs (6 * k + 1)) hk5 hI) ?_
        rintro _ _ ⟨a, rfl, ⟨u1, n1, T1, I1, J1, R1, rfl, hT1, hn1⟩, hB⟩
        dsimp only [Option.toList, List.cons_append, List.nil_append]
        have t69 : T1 69 = (100 + 11, kd11) := hT1.2 69 (by decide)
        have h981 := hT1.1
        refine g_aload_n dL_law_1210 rfl ?_
        refine g_aload_n dL_law_1211 rfl ?_
        refine g_iload_n dL_law_1212 rfl ?_
        refine g_iconst (v := nI 1) dL_law_1213 (by decide) ?_
        refine g_iaddN dL_law_1214 ?_
        refine g_oald (o := 0) (x := (L, xs)) dL_law_1215 rfl rfl (by show _ < L; omega) (by show L < 2 ^ 31; omega) ?_
        refine g_virt (Z := MX11_image) dL_law_1216 mL_174.1 mL_174.2 (Nat.le_of_ble_eq_true rfl) rfl rfl (Nat.le_of_ble_eq_true rfl) (Nat.le_of_ble_eq_true rfl) t69 rfl rfl (by omega) hn1 hB ?_
        rintro _ K2 ⟨rfl, hI2⟩
        dsimp only [Option.toList, List.cons_append, List.nil_append]
        exact g_ic_eq (t := 1283) dL_law_1219 (by decide) (fun _ => next K2 hI2) (fun z => absurd rfl z)
      | 39, _ =>
        refine g_tsI (t := 1224) dL_law_33 (by decide) rfl (by decide) ?_
        refine g_aload_n dL_law_1224 rfl ?_
        refine g_aload_n dL_law_1225 rfl ?_
        refine g_iload_n dL_law_1226 rfl ?_
        refine g_iconst (v := nI 1) dL_law_1227 (by decide) ?_
        refine g_iaddN dL_law_1228 ?_
        refine g_oald (o := 0) (x := (L, xs)) dL_law_1229 rfl rfl (by show _ < L; omega) (by show L < 2 ^ 31; omega) ?_
        refine g_virt (Z := MX10_back) dL_law_1230 mL_175.1 mL_175.2 (Nat.le_of_ble_eq_true rfl) rfl rfl (Nat.le_of_ble_eq_true rfl) (Nat.le_of_ble_eq_true rfl) t0 rfl rfl (by omega) hn (h39 k _ (xs (6 * k + 1)) hk5 hI) ?_
        rintro _ _ ⟨a, rfl, ⟨u1, n1, T1, I1, J1, R1, rfl, hT1, hn1⟩, hB⟩
        dsimp only [Option.toList, List.cons_append, List.nil_append]
        have t69 : T1 69 = (100 + 11, kd11) := hT1.2 69 (by decide)
        have h981 := hT1.1
        refine g_aload_n dL_law_1233 rfl ?_
        refine g_aload_n dL_law_1234 rfl ?_
        refine g_iload_n dL_law_1235 rfl ?_
        refine g_iconst (v := nI 1) dL_law_1236 (by decide) ?_
        refine g_iaddN dL_law_1237 ?_
        refine g_oald (o := 0) (x := (L, xs)) dL_law_1238 rfl rfl (by show _ < L; omega) (by show L < 2 ^ 31; omega) ?_
        refine g_virt (Z := MX11_back) dL_law_1239 mL_178.1 mL_178.2 (Nat.le_of_ble_eq_true rfl) rfl rfl (Nat.le_of_ble_eq_true rfl) (Nat.le_of_ble_eq_true rfl) t69 rfl rfl (by omega) hn1 hB ?_
        rintro _ K2 ⟨rfl, hI2⟩
        dsimp only [Option.toList, List.cons_append, List.nil_append]
        exact g_ic_eq (t := 1283) dL_law_1242 (by decide) (fun _ => next K2 hI2) (fun z => absurd rfl z)
      | 40, _ =>
        refine g_tsI (t := 1247) dL_law_33 (by decide) rfl (by decide) ?_
        refine g_aload_n dL_law_1247 rfl ?_
        refine g_aload_n dL_law_1248 rfl ?_
        refine g_iload_n dL_law_1249 rfl ?_
        refine g_iconst (v := nI 1) dL_law_1250 (by decide) ?_
        refine g_iaddN dL_law_1251 ?_
        refine g_oald (o := 0) (x := (L, xs)) dL_law_1252 rfl rfl (by show _ < L; omega) (by show L < 2 ^ 31; omega) ?_
        refine g_virt (Z := MX10_count) dL_law_1253 mL_179.1 mL_179.2 (Nat.le_of_ble_eq_true rfl) rfl rfl (Nat.le_of_ble_eq_true rfl) (Nat.le_of_ble_eq_true rfl) t0 rfl rfl (by omega) hn (h40 k _ (xs (6 * k + 1)) hk5 hI) ?_
        rintro _ _ ⟨a, rfl, ⟨u1, n1, T1, I1, J1, R1, rfl, hT1, hn1⟩, hB⟩
        dsimp only [Option.toList, List.cons_append, List.nil_append]
        have t69 : T1 69 = (100 + 11, kd11) := hT1.2 69 (by decide)
        have h981 := hT1.1
        refine g_aload_n dL_law_1256 rfl ?_
        refine g_aload_n dL_law_1257 rfl ?_
        refine g_iload_n dL_law_1258 rfl ?_
        refine g_iconst (v := nI 1) dL_law_1259 (by decide) ?_
        refine g_iaddN dL_law_1260 ?_
        refine g_oald (o := 0) (x := (L, xs)) dL_law_1261 rfl rfl (by show _ < L; omega) (by show L < 2 ^ 31; omega) ?_
        refine g_virt (Z := MX11_count) dL_law_1262 mL_182.1 mL_182.2 (Nat.le_of_ble_eq_true rfl) rfl rfl (Nat.le_of_ble_eq_true rfl) (Nat.le_of_ble_eq_true rfl) t69 rfl rfl (by omega) hn1 hB ?_
        rintro _ K2 ⟨rfl, hI2⟩
        dsimp only [Option.toList, List.cons_append, List.nil_append]
        exact g_ic_eq (t := 1283) dL_law_1265 (by decide) (fun _ => next K2 hI2) (fun z => absurd rfl z)
      | 41, _ =>
        refine g_tsI (t := 1270) dL_law_33 (by decide) rfl (by decide) ?_
        refine g_aload_n dL_law_1270 rfl ?_
        refine g_virt (Z := MX10_status) dL_law_1271 mL_183.1 mL_183.2 (Nat.le_of_ble_eq_true rfl) rfl rfl (Nat.le_of_ble_eq_true rfl) (Nat.le_of_ble_eq_true rfl) t0 rfl rfl (by omega) hn (h41 k _  hk5 hI) ?_
        rintro _ _ ⟨a, rfl, ⟨u1, n1, T1, I1, J1, R1, rfl, hT1, hn1⟩, hB⟩
        dsimp only [Option.toList, List.cons_append, List.nil_append]
        have t69 : T1 69 = (100 + 11, kd11) := hT1.2 69 (by decide)
        have h981 := hT1.1
        refine g_aload_n dL_law_1274 rfl ?_
        refine g_virt (Z := MX11_status) dL_law_1275 mL_186.1 mL_186.2 (Nat.le_of_ble_eq_true rfl) rfl rfl (Nat.le_of_ble_eq_true rfl) (Nat.le_of_ble_eq_true rfl) t69 rfl rfl (by omega) hn1 hB ?_
        rintro _ K2 ⟨rfl, hI2⟩
        dsimp only [Option.toList, List.cons_append, List.nil_append]
        exact g_ic_eq (t := 1283) dL_law_1278 (by decide) (fun _ => next K2 hI2) (fun z => absurd rfl z)
      | b + 42, hb =>
        refine g_tsO (t := 1283) dL_law_33 (Or.inr (by rw [nI_toInt (by omega)]; omega)) (by decide) ?_
        exact next _ (hM xs L k _ hI)
  obtain ⟨n, r, K', h1, rfl, h2, h3⟩ := key
  exact ⟨n, 201, K', by decide, h1, h2, h3⟩
