/-! the machine's run, taken apart -/
theorem mEx_inv {O : mO} {n d : Nat} {y : MethodName} {b : ByteArray} {nL : Nat} {ret : Option FieldType} {pc : Nat} {ls : List (Option Value)} {st : List Value} {K K' : mH} {r : Option Value} (h : mEx O (n + 1) d y b nL ret pc ls st K = some (r, K')) :
    ∃ (i : Instr) (len : Nat), decode b pc = .ok (i, len) ∧ ((mRet ret st i len = some r ∧ K = K') ∨ (∃ cf, mStep O y nL pc ls st K i len = some cf ∧ mEx O n d y b nL ret cf.1 cf.2.1 cf.2.2.1 cf.2.2.2 = some (r, K')) ∨ (∃ cf, mPrm O y pc ls st K i len = some cf ∧ mEx O n d y b nL ret cf.1 cf.2.1 cf.2.2.1 cf.2.2.2 = some (r, K')) ∨
      ∃ (z : MethodName) (zb : ByteArray) (zL : Nat) (zr : Option FieldType) (as rest : List Value) (d' : Nat) (v : Option Value) (K1 : mH), mInv y st K i len = some (z, zb, zL, zr, as, rest) ∧ d = d' + 1 ∧ mEx O n d' z zb zL zr 0 (mEnt as zL) [] K = some (v, K1) ∧ mEx O n (d' + 1) y b nL ret (pc + 3) ls (v.toList ++ rest) K1 = some (r, K')) := by
  unfold mEx at h
  split at h
  · rename_i i len hdg
    refine ⟨i, len, hdg, ?_⟩
    split at h
    · rename_i r' hr
      cases h
      exact Or.inl ⟨hr, rfl⟩
    · split at h
      · rename_i cf hc
        exact Or.inr (Or.inl ⟨cf, hc, h⟩)
      · split at h
        · rename_i cf hc
          exact Or.inr (Or.inr (Or.inl ⟨cf, hc, h⟩))
        · split at h
          · rename_i z zb zL zr as rest hi
            split at h
            · cases h
            · rename_i d'
              split at h
              · rename_i v K1 hc
                exact Or.inr (Or.inr (Or.inr ⟨z, zb, zL, zr, as, rest, d', v, K1, hi, rfl, hc, h⟩))
              · cases h
          · cases h
  · cases h
set_option maxHeartbeats 4000000 in
theorem mStep_mono {O : mO} {y : MethodName} {nL pc len : Nat} {ls : List (Option Value)} {st : List Value} {K : mH} {i : Instr} {cf : mC} (h : mStep O y nL pc ls st K i len = some cf) : K.2.length ≤ cf.2.2.2.2.length ∧ K.1 ≤ cf.2.2.2.1 := by
  cases i <;> (delta mStep at h; dsimp only at h) <;> (repeat' split at h) <;> first
    | (cases h; done)
    | (cases h; exact ⟨Nat.le_refl _, Nat.le_refl _⟩)
    | (cases h; exact ⟨by rw [mpt_len]; exact Nat.le_refl _, Nat.le_refl _⟩)
    | (cases h; exact ⟨by rw [mad_len]; omega, Nat.le_add_right _ _⟩)
theorem mPrm_mono {O : mO} {y : MethodName} {pc len : Nat} {ls : List (Option Value)} {st : List Value} {K : mH} {i : Instr} {cf : mC} (h : mPrm O y pc ls st K i len = some cf) : cf.2.2.2.2.length = K.2.length ∧ cf.2.2.2.1 = K.1 := by
  cases i <;> (delta mPrm at h; dsimp only at h) <;> (repeat' split at h) <;> first
    | (cases h; done)
    | (cases h; exact ⟨rfl, rfl⟩)
    | (cases h; exact ⟨by rw [mpt_len], rfl⟩)
theorem mEx_mono {O : mO} : ∀ (n d : Nat) (y : MethodName) (b : ByteArray) (nL : Nat) (ret : Option FieldType) (pc : Nat) (ls : List (Option Value)) (st : List Value) (K : mH) (r : Option Value) (K' : mH), mEx O n d y b nL ret pc ls st K = some (r, K') → K.2.length ≤ K'.2.length ∧ K.1 ≤ K'.1
  | 0, d, y, b, nL, ret, pc, ls, st, K, r, K', h => by unfold mEx at h; cases h
  | n + 1, d, y, b, nL, ret, pc, ls, st, K, r, K', h => by
    obtain ⟨i, len, -, h⟩ := mEx_inv h
    rcases h with ⟨-, rfl⟩ | ⟨cf, h1, h2⟩ | ⟨cf, h1, h2⟩ | ⟨z, zb, zL, zr, as, rest, d', v, K1, -, -, h1, h2⟩
    · exact ⟨Nat.le_refl _, Nat.le_refl _⟩
    · have g1 := mStep_mono h1
      have g2 := mEx_mono n _ _ _ _ _ _ _ _ _ _ _ h2
      exact ⟨Nat.le_trans g1.1 g2.1, Nat.le_trans g1.2 g2.2⟩
    · have g1 := mPrm_mono h1
      have g2 := mEx_mono n _ _ _ _ _ _ _ _ _ _ _ h2
      exact ⟨by rw [← g1.1]; exact g2.1, by rw [← g1.2]; exact g2.2⟩
    · have g1 := mEx_mono n _ _ _ _ _ _ _ _ _ _ _ h1
      have g2 := mEx_mono n _ _ _ _ _ _ _ _ _ _ _ h2
      exact ⟨Nat.le_trans g1.1 g2.1, Nat.le_trans g1.2 g2.2⟩
/-- String.charAt of the words, as a row -/
def mChrRow (l : Launch) (O : mO) (base : Nat) (od : Nat → Nat) (D : va_G) (kA : Nat → ClassId) (X : State → Prop) : Prop :=
  ∀ (p : Program) (e : Env) (R : Room) (s : State) (m : MethodId) (args : Array Value) (below : List Frame) (meth : Method) (c : Code) (H : Heap) (locs : List Loc) (cells slots : Nat) (Q : State → Prop) (own : String) (b : ByteArray) (nL pc k : Nat) (L : Array Slot) (j : Int32) (r : List Value),
    p.tables.exec = Jvm.exec → c.code = b → c.maxLocals = nL → L.size = nL → s.vm.findClass own = some m.cls → (∀ w ∈ mTbl, w.before args s = true) → mCtx O base od D kA X s → Cond.methodLink own k yChr ∈ mTbl → decode b pc = .ok (.invokevirtual k, 3) →
    va_S (mA base) s.heap H locs → mIdx j mChs.length = true → (r.map fun v => v.category).sum ≤ 8 → 8 ≤ R.frames → 512 ≤ R.locals → cells ≤ R.cells → slots ≤ R.slots →
    (∀ locs1 : List Loc, va_S (mA base) s.heap H locs1 → W p l e R s m args below meth c H locs1 cells slots Q (F0 m (pc + 3) L (.int (nI (mChs.getD j.toNatClampNeg 0)) :: r))) →
    W p l e R s m args below meth c H locs cells slots Q (F0 m pc L (.int j :: .ref (od 100) :: r))
theorem mObj1 : Cond.instanceMethod objectInit ∈ mTbl := mTbl_in (by decide +kernel) rfl
theorem mObj2 : Cond.code objectInit ⟨#[0xb1]⟩ 1 none ∈ mTbl := mTbl_in (by decide +kernel) rfl
theorem mCop1 : Cond.native arraycopyName ∈ mTbl := mTbl_in (by decide +kernel) rfl
theorem mCop2 : Cond.static arraycopyName ∈ mTbl := mTbl_in (by decide +kernel) rfl
theorem mCop3 : Cond.initialized "java/lang/System" ∈ mTbl := mTbl_in (by decide +kernel) rfl
theorem mMax1 : Cond.static Lib.Math.max.name ∈ mTbl := mTbl_in (by decide +kernel) rfl
theorem mMin1 : Cond.static Lib.Math.min.name ∈ mTbl := mTbl_in (by decide +kernel) rfl
theorem mMax2 : Cond.initialized "java/lang/Math" ∈ mTbl := mTbl_in (by decide +kernel) rfl
theorem mMax3 : Cond.code Lib.Math.max.name Lib.Math.max.code 2 (some .int) ∈ mTbl := mTbl_in (by decide +kernel) rfl
theorem mMin3 : Cond.code Lib.Math.min.name Lib.Math.min.code 2 (some .int) ∈ mTbl := mTbl_in (by decide +kernel) rfl
section SIM2
variable {p : Program} {l : Launch} {e : Env} {R : Room} {s : State} {m : MethodId} {args : Array Value} {below : List Frame} {meth : Method} {c : Code} {H : Heap} {locs : List Loc} {cells slots : Nat} {Q : State → Prop}
variable {O : mO} {base : Nat} {od : Nat → Nat} {D : va_G} {kA : Nat → ClassId} {X : State → Prop} {y : MethodName} {b : ByteArray} {nL pc len : Nat} {ls : List (Option Value)} {st : List Value} {K : mH} {i : Instr} {L : Array Slot} {cf : mC}
set_option maxHeartbeats 4000000 in
set_option maxRecDepth 100000 in
theorem mPrm_sim (hCh : mChrRow l O base od D kA X) (hx : p.tables.exec = Jvm.exec) (hb : c.code = b) (hml : c.maxLocals = nL) (hown : s.vm.findClass y.cls = some m.cls) (hts : ∀ w ∈ mTbl, w.before args s = true) (hC : mCtx O base od D kA X s) (hdg : decode b pc = .ok (i, len))
    (hP : va_P D mCls (mWs base od kA K) H) (hS : va_S (mA base) s.heap H locs) (hL : lv_has L nL (mLv base od ls)) (hRf : 8 ≤ R.frames) (hRl : 512 ≤ R.locals) (hRc : cells ≤ R.cells) (hRs : slots ≤ R.slots) (hst : mPrm O y pc ls st K i len = some cf)
    (kk : ∀ (H1 : Heap) (locs1 : List Loc), va_P D mCls (mWs base od kA cf.2.2.2) H1 → va_S (mA base) s.heap H1 locs1 → lv_has L nL (mLv base od cf.2.1) →
      W p l e R s m args below meth c H1 locs1 cells slots Q (F0 m cf.1 L (cf.2.2.1.map (mV base od)))) :
    W p l e R s m args below meth c H locs cells slots Q (F0 m pc L (st.map (mV base od))) := by
  have hK := hC.2.1
  have tw : ∀ {w : Cond}, w ∈ lw_tbl → goodWord w = true → w.before args s = true := fun h g => hts _ (mTbl_in h g)
  cases i with
  | invokespecial k =>
    delta mPrm at hst
    dsimp only at hst
    split at hst
    · rename_i a r
      split at hst
      · rename_i h1
        obtain ⟨h1, h2, h3⟩ := h1
        subst h1
        cases hst
        refine W.objInit hx hb hown (tw (mLnk_in h2) rfl) (hts _ mObj1) (hts _ mObj2) rfl (hL.1.trans hml.symm) rfl hdg (by omega) ?_ (kk H locs hP hS hL)
        have h4 := lv_room (m := m) (pc := pc) (ls := L) (rest := List.map (mV base od) (Value.ref a :: r)) (st := r.map (mV base od)) (by rw [mV_sum]; exact h3)
        omega
      · cases hst
    · cases hst
  | invokevirtual k =>
    delta mPrm at hst
    dsimp only at hst
    split at hst
    · rename_i j a r
      split at hst
      · rename_i h1
        obtain ⟨h1, h2, h3, h4, h5⟩ := h1
        subst h1
        subst h3
        cases hst
        rw [show List.map (mV base od) (Value.int j :: Value.ref oS :: r) = Value.int j :: Value.ref (od 100) :: r.map (mV base od) from by show Value.int j :: Value.ref (mAd base od (oB + 100)) :: _ = _; rw [mAd_ge]]
        exact hCh p e R s m args below meth c H locs cells slots Q y.cls b nL pc k L j (r.map (mV base od)) hx hb hml hL.1 hown hts hC (mTbl_in (mLnk_in h2) rfl) hdg hS h4 (by rw [mV_sum]; exact h5) hRf hRl hRc hRs (fun locs1 hS1 => kk H locs1 hP hS1 hL)
      · cases hst
    · cases hst
  | invokestatic k =>
    delta mPrm at hst
    dsimp only at hst
    split at hst
    · rename_i n dp a sp q r
      split at hst
      · rename_i n1 g n0 f hg1 hg0
        split at hst
        · rename_i h1
          obtain ⟨h1, h2, ha, hq, h3, h4, h5, h6, h7, h8⟩ := h1
          subst h1
          cases hst
          rw [show List.map (mV base od) (Value.int n :: Value.int dp :: Value.ref a :: Value.int sp :: Value.ref q :: r) = Value.int n :: Value.int dp :: Value.ref (base + a) :: Value.int sp :: Value.ref (base + q) :: r.map (mV base od) from by simp only [List.map_cons, mV, mAd_lt ha, mAd_lt hq]]
          refine va_copyi hx hb (hml.trans hL.1.symm) hown (tw (mLnk_in h2) rfl) (hts _ mCop1) (hts _ mCop2) (hts _ mCop3) hK hP (mWs_D K) hS q a 0 0 (mWs_get hg0) (mWs_get hg1) rfl rfl rfl h4 h5 h6 h7 h8 (fun i hi => rfl) (by omega) ?_ hdg (fun H1 locs1 hP1 _ hS1 => kk H1 locs1 (by rw [mWs_set]; exact hP1) hS1 hL)
          rw [mV_sum]
          have : nativeFrameWords "java/lang/System" "arraycopy" 5 + 11 ≤ 100 := by decide
          omega
        · cases hst
      · cases hst
    · rename_i z x r _
      split at hst
      · rename_i h1
        obtain ⟨h1, h2, h3⟩ := h1
        subst h1
        cases hst
        refine va_mmax hx hb (hml.trans hL.1.symm) hown (tw (mLnk_in h2) rfl) (hts _ mMax1) (hts _ mMax2) (hts _ mMax3) (by omega) ?_ hRc hRs hdg (kk H locs hP hS hL)
        rw [mV_sum]
        omega
      · split at hst
        · rename_i h1
          obtain ⟨h1, h2, h3⟩ := h1
          subst h1
          cases hst
          refine va_mmin hx hb (hml.trans hL.1.symm) hown (tw (mLnk_in h2) rfl) (hts _ mMin1) (hts _ mMax2) (hts _ mMin3) (by omega) ?_ hRc hRs hdg (kk H locs hP hS hL)
          rw [mV_sum]
          omega
        · cases hst
    · cases hst
  | _ => cases (show (none : Option mC) = some cf from hst)
end SIM2
