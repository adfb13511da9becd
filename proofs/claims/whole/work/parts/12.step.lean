/-! what holds at a method's start, and its way through calls -/
def mNst (w : Cond) : Bool := match w with
  | .fieldLinkNest .. => true
  | .methodLinkNest .. => true
  | _ => false
def mTbl : List Cond := lw_tbl.filter goodWord
theorem mTbl_in {w : Cond} (h : w ∈ lw_tbl) (g : goodWord w = true) : w ∈ mTbl := List.mem_filter.mpr ⟨h, g⟩
def mCtx (O : mO) (base : Nat) (od : Nat → Nat) (D : va_G) (kA : Nat → ClassId) (X : State → Prop) (s : State) : Prop :=
  base ≤ s.heap.size ∧ va_K D mCls (mTys kA) s ∧ va_AO RX2 s ∧ va_AO RX5 s ∧ (∀ w ∈ lw_tbl, mNst w = true → va_Nw w s) ∧
  (∀ (j : Nat) (x : Nat × (Nat → Int32)), O[j]? = some x → va_T .int (od j) x.1 (fun i => .int (x.2 i)) (mA base) s s.heap) ∧
  (∀ q ∈ mStat, va_Z q.1 q.2.1 q.2.2.1 (.ref (od q.2.2.2)) (mA base) s s.heap) ∧
  (∀ (own : String) (i : Nat) (tx : String), Cond.stringRef own i tx ∈ lw_tbl → vk_R own i tx (od 100) s) ∧ X s
/-- what is carried besides stays by itself -/
def mKeep (base : Nat) (X : State → Prop) : Prop := ∀ s U : State, s.WarmedH U.vm → s.heap.size ≤ U.heap.size → (∀ q : Nat, q < s.heap.size → ¬ mA base q → U.heap[q]? = s.heap[q]?) → X s → X U
theorem mCtx_to {O : mO} {base : Nat} {od : Nat → Nat} {D : va_G} {kA : Nat → ClassId} {X : State → Prop} (hX : mKeep base X) {s U : State} (hW : s.WarmedH U.vm) (hz : s.heap.size ≤ U.heap.size) (hq : ∀ q : Nat, q < s.heap.size → ¬ mA base q → U.heap[q]? = s.heap[q]?) (h : mCtx O base od D kA X s) : mCtx O base od D kA X U := by
  obtain ⟨h1, h2, h3, h4, h5, h6, h7, h8, h9⟩ := h
  refine ⟨Nat.le_trans h1 hz, h2.moved hW.alike, h3.moved hW.alike, h4.moved hW.alike, fun w hw hn => ?_, fun j x hx => ((h6 j x hx).moved hW.alike).kept hq, fun q hm => ((h7 q hm).moved hW.alike).kept hq, fun own i tx hm => (h8 own i tx hm).warm hW, hX s U hW hz hq h9⟩
  cases w with
  | fieldLinkNest a i b n d h => exact va_Nw.warmF hW (h5 _ hw hn)
  | methodLinkNest a i x h => exact va_Nw.warmM hW (h5 _ hw hn)
  | _ => cases hn
theorem mIn0 : ∀ w ∈ wsX00, w ∈ mTbl := fun w h => mTbl_in ((by decide +kernel : ∀ w ∈ wsX00, w ∈ lw_tbl) w h) ((by decide +kernel : ∀ w ∈ wsX00, goodWord w = true) w h)
theorem mIn1 : ∀ w ∈ wsX10, w ∈ mTbl := fun w h => mTbl_in ((by decide +kernel : ∀ w ∈ wsX10, w ∈ lw_tbl) w h) ((by decide +kernel : ∀ w ∈ wsX10, goodWord w = true) w h)
theorem mIn2 : ∀ w ∈ wsX20, w ∈ mTbl := fun w h => mTbl_in ((by decide +kernel : ∀ w ∈ wsX20, w ∈ lw_tbl) w h) ((by decide +kernel : ∀ w ∈ wsX20, goodWord w = true) w h)
theorem mIn3 : ∀ w ∈ wsX30, w ∈ mTbl := fun w h => mTbl_in ((by decide +kernel : ∀ w ∈ wsX30, w ∈ lw_tbl) w h) ((by decide +kernel : ∀ w ∈ wsX30, goodWord w = true) w h)
theorem mIn4 : ∀ w ∈ wsX40, w ∈ mTbl := fun w h => mTbl_in ((by decide +kernel : ∀ w ∈ wsX40, w ∈ lw_tbl) w h) ((by decide +kernel : ∀ w ∈ wsX40, goodWord w = true) w h)
theorem mIn5 : ∀ w ∈ wsX50, w ∈ mTbl := fun w h => mTbl_in ((by decide +kernel : ∀ w ∈ wsX50, w ∈ lw_tbl) w h) ((by decide +kernel : ∀ w ∈ wsX50, goodWord w = true) w h)
theorem mIn6 : ∀ w ∈ wsX60, w ∈ mTbl := fun w h => mTbl_in ((by decide +kernel : ∀ w ∈ wsX60, w ∈ lw_tbl) w h) ((by decide +kernel : ∀ w ∈ wsX60, goodWord w = true) w h)
theorem mIn7 : ∀ w ∈ wsX70, w ∈ mTbl := fun w h => mTbl_in ((by decide +kernel : ∀ w ∈ wsX70, w ∈ lw_tbl) w h) ((by decide +kernel : ∀ w ∈ wsX70, goodWord w = true) w h)
theorem mIn8 : ∀ w ∈ wsX80, w ∈ mTbl := fun w h => mTbl_in ((by decide +kernel : ∀ w ∈ wsX80, w ∈ lw_tbl) w h) ((by decide +kernel : ∀ w ∈ wsX80, goodWord w = true) w h)
theorem mIn9 : ∀ w ∈ wsX90, w ∈ mTbl := fun w h => mTbl_in ((by decide +kernel : ∀ w ∈ wsX90, w ∈ lw_tbl) w h) ((by decide +kernel : ∀ w ∈ wsX90, goodWord w = true) w h)
theorem mIn10 : ∀ w ∈ wsX100, w ∈ mTbl := fun w h => mTbl_in ((by decide +kernel : ∀ w ∈ wsX100, w ∈ lw_tbl) w h) ((by decide +kernel : ∀ w ∈ wsX100, goodWord w = true) w h)
theorem mIn11 : ∀ w ∈ wsX110, w ∈ mTbl := fun w h => mTbl_in ((by decide +kernel : ∀ w ∈ wsX110, w ∈ lw_tbl) w h) ((by decide +kernel : ∀ w ∈ wsX110, goodWord w = true) w h)
theorem mCls_ok {ci : Nat} {r : vw_C} (h : mCls[ci]? = some r) : (∀ w ∈ u_ws r.1 r.2.1 r.2.2, w ∈ mTbl) ∧ (∀ k, k < r.2.2 → parseFieldDescriptor (r.2.1 k).2.2.1 = some (mTy ci k)) ∧ (∀ a, a < r.2.2 → ∀ b, b < r.2.2 → a ≠ b → (r.2.1 a).2.1 ≠ (r.2.1 b).2.1) ∧ Cond.instantiable r.1 r.2.2 ∈ mTbl ∧ Cond.initialized r.1 ∈ mTbl := by
  match ci, h with
  | 0, h => cases h; exact ⟨mIn0, tyX0_ok, nmX0, mTbl_in (by decide +kernel) rfl, mTbl_in (by decide +kernel) rfl⟩
  | 1, h => cases h; exact ⟨mIn1, tyX1_ok, nmX1, mTbl_in (by decide +kernel) rfl, mTbl_in (by decide +kernel) rfl⟩
  | 2, h => cases h; exact ⟨mIn2, tyX2_ok, nmX2, mTbl_in (by decide +kernel) rfl, mTbl_in (by decide +kernel) rfl⟩
  | 3, h => cases h; exact ⟨mIn3, tyX3_ok, nmX3, mTbl_in (by decide +kernel) rfl, mTbl_in (by decide +kernel) rfl⟩
  | 4, h => cases h; exact ⟨mIn4, tyX4_ok, nmX4, mTbl_in (by decide +kernel) rfl, mTbl_in (by decide +kernel) rfl⟩
  | 5, h => cases h; exact ⟨mIn5, tyX5_ok, nmX5, mTbl_in (by decide +kernel) rfl, mTbl_in (by decide +kernel) rfl⟩
  | 6, h => cases h; exact ⟨mIn6, tyX6_ok, nmX6, mTbl_in (by decide +kernel) rfl, mTbl_in (by decide +kernel) rfl⟩
  | 7, h => cases h; exact ⟨mIn7, tyX7_ok, nmX7, mTbl_in (by decide +kernel) rfl, mTbl_in (by decide +kernel) rfl⟩
  | 8, h => cases h; exact ⟨mIn8, tyX8_ok, nmX8, mTbl_in (by decide +kernel) rfl, mTbl_in (by decide +kernel) rfl⟩
  | 9, h => cases h; exact ⟨mIn9, tyX9_ok, nmX9, mTbl_in (by decide +kernel) rfl, mTbl_in (by decide +kernel) rfl⟩
  | 10, h => cases h; exact ⟨mIn10, tyX10_ok, nmX10, mTbl_in (by decide +kernel) rfl, mTbl_in (by decide +kernel) rfl⟩
  | 11, h => cases h; exact ⟨mIn11, tyX11_ok, nmX11, mTbl_in (by decide +kernel) rfl, mTbl_in (by decide +kernel) rfl⟩
  | k + 12, h => simp at h
theorem mIdx_in {j : Int32} {n : Nat} (h : mIdx j n = true) : vp_in j n := by
  unfold mIdx at h
  have h2 : ¬ (j < 0 ∨ n ≤ j.toNatClampNeg) := of_decide_eq_true h
  exact h2
theorem mCmp_eq {x y : Int32} : mCmp .eq x y = true ↔ x = y := by simp [mCmp]
theorem mCmp_ne {x y : Int32} : mCmp .ne x y = true ↔ ¬ x = y := by simp [mCmp]
theorem mCmp_lt {x y : Int32} : mCmp .lt x y = true ↔ x < y := by simp [mCmp]
theorem mCmp_ge {x y : Int32} : mCmp .ge x y = true ↔ y ≤ x := by simp [mCmp]
theorem mCmp_gt {x y : Int32} : mCmp .gt x y = true ↔ y < x := by simp [mCmp]
theorem mCmp_le {x y : Int32} : mCmp .le x y = true ↔ x ≤ y := by simp [mCmp]
theorem mOk_jmp {pc : Nat} {off : Int} (h : mOk pc off = true) : (pc : Int) + off = (mJmp pc off : Int) := by
  have := of_decide_eq_true h
  unfold mJmp
  omega
theorem mpt_len (K : mH) (a : Nat) (e : mE) : (mpt K a e).2.length = K.2.length := by simp [mpt]
theorem mad_len (K : mH) (n : Nat) (e : mE) : (mad K n e).2.length = K.2.length + 1 := by simp [mad]
theorem mWs_len {base : Nat} {od : Nat → Nat} {kA : Nat → ClassId} (K : mH) : (mWs base od kA K).length = K.2.length := by simp [mWs]
theorem mFresh {base : Nat} {od : Nat → Nat} {D : va_G} {kA : Nat → ClassId} {cl : List vw_C} {K : mH} {q : Nat} {e : va_E} {H1 : Heap} (hP : va_P D cl (mWs base od kA K ++ [(q, e)]) H1) (hD : va_D (mA base) (mWs base od kA K ++ [(q, e)])) (hz : H1.size ≤ base + K.2.length + 1) : q = base + K.2.length := by
  have hl : (mWs base od kA K ++ [(q, e)])[K.2.length]? = some (q, e) := by
    rw [List.getElem?_append_right (by rw [mWs_len]; exact Nat.le_refl _), mWs_len, Nat.sub_self]
    rfl
  have h1 : q < H1.size := (hP _ _ hl).lt
  have h2 : base ≤ q := hD.2 _ _ hl
  rcases Nat.lt_or_ge q (base + K.2.length) with h | h
  · have hk : q - base < (mWs base od kA K).length := by rw [mWs_len]; omega
    have hg : (mWs base od kA K)[q - base]? = some (mWs base od kA K)[q - base] := List.getElem?_eq_getElem hk
    have h3 := hD.1 (q - base) K.2.length _ _ (by rw [List.getElem?_append_left hk]; exact hg) hl (by rw [(mWs_at hg).1]; show base + (q - base) = q; omega)
    omega
  · omega
theorem mAr_or {O : mO} {K : mH} {a : Nat} {r : Nat × vp_A} (h : mAr O K a = some r) : (∃ (j : Nat) (x : Nat × (Nat → Int32)), a = oB + j ∧ O[j]? = some x ∧ r = (0, x.1, .inl x.2)) ∨ (a < oB ∧ mgt K a = some (.inl r)) := by
  unfold mAr at h
  by_cases ha : oB ≤ a
  · rw [if_pos ha] at h
    obtain ⟨x, h1, h2⟩ := Option.map_eq_some_iff.mp h
    exact Or.inl ⟨a - oB, x, by omega, h1, h2.symm⟩
  · rw [if_neg ha] at h
    split at h
    · rename_i x hx
      cases h
      exact Or.inr ⟨by omega, hx⟩
    · cases h
theorem mTys_at {kA : Nat → ClassId} {t : Nat} (h : t < 6) : ∃ ty, (mTys kA)[t]? = some (kA t, ty) := by
  match t, h with
  | 0, _ => exact ⟨_, rfl⟩
  | 1, _ => exact ⟨_, rfl⟩
  | 2, _ => exact ⟨_, rfl⟩
  | 3, _ => exact ⟨_, rfl⟩
  | 4, _ => exact ⟨_, rfl⟩
  | 5, _ => exact ⟨_, rfl⟩
  | k + 6, h => omega
theorem mRc_up {base : Nat} {od : Nat → Nat} {kA : Nat → ClassId} {v : Option Nat} {t n k : Nat} (f : Nat → Option Nat) : mRc base od kA (.inl (t, n, .inr (.inr (.inr (.inr (va_up f k v)))))) = .inl (kA t, n, .inr (.inr (.inr (.inr (va_up (fun j => (f j).map (mAd base od)) k (v.map (mAd base od))))))) := by
  show Sum.inl _ = Sum.inl _
  congr 7
  funext j
  simp only [va_up]
  split <;> rfl
theorem mV_def {base : Nat} {od : Nat → Nat} (t : FieldType) : mV base od (defaultValue t) = defaultValue t := by cases t <;> rfl
theorem mArr0 : Cond.arrayClass .int ∈ lw_tbl := by decide +kernel
theorem mArr1 : Cond.arrayClass .long ∈ lw_tbl := by decide +kernel
theorem mArr2 : Cond.arrayClass .byte ∈ lw_tbl := by decide +kernel
theorem mArr3 : Cond.arrayClass .boolean ∈ lw_tbl := by decide +kernel
theorem mNewA_in {own : String} {i t : Nat} (h : mNewA own i = some t) : (t = 4 ∧ Cond.classLink own i RX2 ∈ lw_tbl) ∨ (t = 5 ∧ Cond.classLink own i RX5 ∈ lw_tbl) := by
  unfold mNewA at h
  obtain ⟨C, h1, h2⟩ := Option.bind_eq_some_iff.mp h
  split at h2
  · rename_i hz
    cases h2
    exact Or.inl ⟨rfl, by rw [← hz]; exact mNewC_in h1⟩
  · split at h2
    · rename_i hz
      cases h2
      exact Or.inr ⟨rfl, by rw [← hz]; exact mNewC_in h1⟩
    · cases h2
section SIM
variable {p : Program} {l : Launch} {e : Env} {R : Room} {s : State} {m : MethodId} {args : Array Value} {below : List Frame} {meth : Method} {c : Code} {H : Heap} {locs : List Loc} {cells slots : Nat} {Q : State → Prop}
theorem mSiz {g : JFrame} (k : H.size ≤ s.heap.size + cells → W p l e R s m args below meth c H locs cells slots Q g) : W p l e R s m args below meth c H locs cells slots Q g := fun T hT X => k (by rw [← hT]; exact X.heapSize) T hT X
variable {O : mO} {base : Nat} {od : Nat → Nat} {D : va_G} {kA : Nat → ClassId} {X : State → Prop} {y : MethodName} {b : ByteArray} {nL pc len : Nat} {ls : List (Option Value)} {st : List Value} {K : mH} {i : Instr} {L : Array Slot} {cf : mC}
set_option maxHeartbeats 4000000 in
set_option maxRecDepth 100000 in
theorem mStep_sim (hx : p.tables.exec = Jvm.exec) (hb : c.code = b) (hown : s.vm.findClass y.cls = some m.cls) (hnm : y.name = "<init>" → meth.name = "<init>") (hts : ∀ w ∈ mTbl, w.before args s = true) (hC : mCtx O base od D kA X s) (hdg : decode b pc = .ok (i, len))
    (hP : va_P D mCls (mWs base od kA K) H) (hS : va_S (mA base) s.heap H locs) (hL : lv_has L nL (mLv base od ls)) (hsz : s.heap.size + cells = base + K.2.length) (hst : mStep O y nL pc ls st K i len = some cf)
    (hrc : cells + (cf.2.2.2.2.length - K.2.length) ≤ R.cells) (hrs : slots + (cf.2.2.2.1 - K.1) ≤ R.slots)
    (kk : ∀ (H1 : Heap) (locs1 : List Loc) (L1 : Array Slot) (cells1 slots1 : Nat), va_P D mCls (mWs base od kA cf.2.2.2) H1 → va_S (mA base) s.heap H1 locs1 → lv_has L1 nL (mLv base od cf.2.1) → s.heap.size + cells1 = base + cf.2.2.2.2.length → slots1 + K.1 = slots + cf.2.2.2.1 →
      W p l e R s m args below meth c H1 locs1 cells1 slots1 Q (F0 m cf.1 L1 (cf.2.2.1.map (mV base od)))) :
    W p l e R s m args below meth c H locs cells slots Q (F0 m pc L (st.map (mV base od))) := by
  have hA : ∀ q, s.heap.size ≤ q → mA base q := fun q h => Nat.le_trans hC.1 h
  have hK := hC.2.1
  have tw : ∀ {w : Cond}, w ∈ lw_tbl → goodWord w = true → w.before args s = true := fun h g => hts _ (mTbl_in h g)
  cases i with
  | iconst n =>
    delta mStep at hst
    dsimp only at hst
    split at hst
    · rename_i h1
      subst h1
      cases hst
      exact lv_iconst hx hb hdg rfl (kk H locs L cells slots hP hS hL hsz rfl)
    · cases hst
  | bipush n =>
    delta mStep at hst
    dsimp only at hst
    split at hst
    · rename_i h1
      subst h1
      cases hst
      exact lv_bipush hx hb hdg rfl (kk H locs L cells slots hP hS hL hsz rfl)
    · cases hst
  | sipush n =>
    delta mStep at hst
    dsimp only at hst
    split at hst
    · rename_i h1
      subst h1
      cases hst
      exact lv_sipush hx hb hdg rfl (kk H locs L cells slots hP hS hL hsz rfl)
    · cases hst
  | lconst n =>
    delta mStep at hst
    dsimp only at hst
    split at hst
    · rename_i h1
      subst h1
      cases hst
      exact lv_lconst hx hb hdg rfl (kk H locs L cells slots hP hS hL hsz rfl)
    · cases hst
  | aconst_null =>
    have hst : (if len = 1 then some (pc + 1, ls, Value.null :: st, K) else none) = some cf := hst
    by_cases h1 : len = 1
    · rw [if_pos h1] at hst
      subst h1
      cases hst
      exact lv_null hx hb hdg (kk H locs L cells slots hP hS hL hsz rfl)
    · rw [if_neg h1] at hst
      cases hst
  | ldc k =>
    delta mStep at hst
    dsimp only at hst
    split at hst
    · rename_i v hv
      split at hst
      · rename_i h1
        subst h1
        cases hst
        exact lv_ldc hx hb hown (tw (mInt_in hv) rfl) hdg (kk H locs L cells slots hP hS hL hsz rfl)
      · cases hst
    · split at hst
      · rename_i h1
        obtain ⟨h1, h2⟩ := h1
        subst h1
        cases hst
        obtain ⟨tx, h3⟩ := mStr_in h2
        refine va_ldcS hx hb hown (hC.2.2.2.2.2.2.2.1 _ _ _ h3) hdg ?_
        have := kk H locs L cells slots hP hS hL hsz rfl
        rw [show (List.map (mV base od) (Value.ref oS :: st)) = Value.ref (od 100) :: st.map (mV base od) from by show Value.ref (mAd base od (oB + 100)) :: _ = _; rw [mAd_ge]] at this
        exact this
      · cases hst
  | ldc_w k =>
    delta mStep at hst
    dsimp only at hst
    split at hst
    · rename_i v hv
      split at hst
      · rename_i h1
        subst h1
        cases hst
        exact lv_ldcw hx hb hown (tw (mInt_in hv) rfl) hdg (kk H locs L cells slots hP hS hL hsz rfl)
      · cases hst
    · cases hst
  | ldc2_w k =>
    delta mStep at hst
    dsimp only at hst
    split at hst
    · rename_i v hv
      split at hst
      · rename_i h1
        subst h1
        cases hst
        exact lv_ldc2 hx hb hown (tw (mLong_in hv) rfl) hdg (kk H locs L cells slots hP hS hL hsz rfl)
      · cases hst
    · cases hst
  | iload_n k =>
    delta mStep at hst
    dsimp only at hst
    split at hst
    · rename_i x hv
      split at hst
      · rename_i h1
        subst h1
        cases hst
        exact lv_iload_n hx hb hdg rfl (mLv_get hL hv) (kk H locs L cells slots hP hS hL hsz rfl)
      · cases hst
    · cases hst
  | iload k =>
    delta mStep at hst
    dsimp only at hst
    split at hst
    · rename_i x hv
      split at hst
      · rename_i h1
        subst h1
        cases hst
        exact lv_iload hx hb hdg (mLv_get hL hv) (kk H locs L cells slots hP hS hL hsz rfl)
      · cases hst
    · cases hst
  | lload_n k =>
    delta mStep at hst
    dsimp only at hst
    split at hst
    · rename_i x hv
      split at hst
      · rename_i h1
        subst h1
        cases hst
        exact lv_lload_n hx hb hdg rfl (mLv_get hL hv) (kk H locs L cells slots hP hS hL hsz rfl)
      · cases hst
    · cases hst
  | lload k =>
    delta mStep at hst
    dsimp only at hst
    split at hst
    · rename_i x hv
      split at hst
      · rename_i h1
        subst h1
        cases hst
        exact lv_lload hx hb hdg (mLv_get hL hv) (kk H locs L cells slots hP hS hL hsz rfl)
      · cases hst
    · cases hst
  | aload_n k =>
    delta mStep at hst
    dsimp only at hst
    split at hst
    · rename_i x hv
      split at hst
      · rename_i h1
        subst h1
        cases hst
        exact lv_aload_n hx hb hdg rfl (mLv_get hL hv) (kk H locs L cells slots hP hS hL hsz rfl)
      · cases hst
    · rename_i hv
      split at hst
      · rename_i h1
        subst h1
        cases hst
        exact lv_aload_nN hx hb hdg rfl (mLv_get hL hv) (kk H locs L cells slots hP hS hL hsz rfl)
      · cases hst
    · cases hst
  | aload k =>
    delta mStep at hst
    dsimp only at hst
    split at hst
    · rename_i x hv
      split at hst
      · rename_i h1
        subst h1
        cases hst
        exact lv_aload hx hb hdg (mLv_get hL hv) (kk H locs L cells slots hP hS hL hsz rfl)
      · cases hst
    · rename_i hv
      split at hst
      · rename_i h1
        subst h1
        cases hst
        exact lv_aloadN hx hb hdg (mLv_get hL hv) (kk H locs L cells slots hP hS hL hsz rfl)
      · cases hst
    · cases hst
  | istore_n k =>
    delta mStep at hst
    dsimp only at hst
    split at hst
    · split at hst
      · rename_i h1
        obtain ⟨h1, h2⟩ := h1
        subst h1
        cases hst
        exact lv_istore_n hx hb hdg rfl hL h2 rfl (fun L1 hL1 => kk H locs L1 cells slots hP hS (mLv_st1 hL1) hsz rfl)
      · cases hst
    · cases hst
  | istore k =>
    delta mStep at hst
    dsimp only at hst
    split at hst
    · split at hst
      · rename_i h1
        obtain ⟨h1, h2⟩ := h1
        subst h1
        cases hst
        exact lv_istore hx hb hdg hL h2 rfl (fun L1 hL1 => kk H locs L1 cells slots hP hS (mLv_st1 hL1) hsz rfl)
      · cases hst
    · cases hst
  | lstore_n k =>
    delta mStep at hst
    dsimp only at hst
    split at hst
    · split at hst
      · rename_i h1
        obtain ⟨h1, h2⟩ := h1
        subst h1
        cases hst
        exact lv_lstore_n hx hb hdg rfl hL h2 rfl (fun L1 hL1 => kk H locs L1 cells slots hP hS (mLv_st2 hL1) hsz rfl)
      · cases hst
    · cases hst
  | lstore k =>
    delta mStep at hst
    dsimp only at hst
    split at hst
    · split at hst
      · rename_i h1
        obtain ⟨h1, h2⟩ := h1
        subst h1
        cases hst
        exact lv_lstore hx hb hdg hL h2 rfl (fun L1 hL1 => kk H locs L1 cells slots hP hS (mLv_st2 hL1) hsz rfl)
      · cases hst
    · cases hst
  | astore_n k =>
    delta mStep at hst
    dsimp only at hst
    split at hst
    · split at hst
      · rename_i x r h1
        obtain ⟨h1, h2⟩ := h1
        subst h1
        cases hst
        exact lv_astore_n hx hb hdg rfl hL h2 rfl (fun L1 hL1 => kk H locs L1 cells slots hP hS (mLv_st1 (v := .ref x) hL1) hsz rfl)
      · cases hst
    · split at hst
      · rename_i h1
        obtain ⟨h1, h2⟩ := h1
        subst h1
        cases hst
        exact lv_astore_nN hx hb hdg rfl hL h2 rfl (fun L1 hL1 => kk H locs L1 cells slots hP hS (mLv_st1 (v := .null) hL1) hsz rfl)
      · cases hst
    · cases hst
  | astore k =>
    delta mStep at hst
    dsimp only at hst
    split at hst
    · split at hst
      · rename_i x r h1
        obtain ⟨h1, h2⟩ := h1
        subst h1
        cases hst
        exact lv_astore hx hb hdg hL h2 rfl (fun L1 hL1 => kk H locs L1 cells slots hP hS (mLv_st1 (v := .ref x) hL1) hsz rfl)
      · cases hst
    · split at hst
      · rename_i h1
        obtain ⟨h1, h2⟩ := h1
        subst h1
        cases hst
        exact lv_astoreN hx hb hdg hL h2 rfl (fun L1 hL1 => kk H locs L1 cells slots hP hS (mLv_st1 (v := .null) hL1) hsz rfl)
      · cases hst
    · cases hst
  | iinc k n =>
    delta mStep at hst
    dsimp only at hst
    split at hst
    · rename_i x hv
      split at hst
      · rename_i h1
        obtain ⟨h1, h2⟩ := h1
        subst h1
        cases hst
        obtain ⟨kq, hkq⟩ := List.getElem?_of_mem (mLv_mem (base := base) (od := od) hv)
        exact lv_iinc hx hb hdg hL (k := kq) hkq rfl h2 rfl (fun L1 hL1 => kk H locs L1 cells slots hP hS (mLv_st1 (v := .int (x + Int32.ofInt n)) hL1) hsz rfl)
      · cases hst
    · cases hst
  | iadd =>
    delta mStep at hst
    dsimp only at hst
    split at hst
    · split at hst
      · rename_i h1
        subst h1
        cases hst
        exact lv_iadd hx hb hdg (kk H locs L cells slots hP hS hL hsz rfl)
      · cases hst
    · cases hst
  | isub =>
    delta mStep at hst
    dsimp only at hst
    split at hst
    · split at hst
      · rename_i h1
        subst h1
        cases hst
        exact lv_isub hx hb hdg (kk H locs L cells slots hP hS hL hsz rfl)
      · cases hst
    · cases hst
  | imul =>
    delta mStep at hst
    dsimp only at hst
    split at hst
    · split at hst
      · rename_i h1
        subst h1
        cases hst
        exact lv_imul hx hb hdg (kk H locs L cells slots hP hS hL hsz rfl)
      · cases hst
    · cases hst
  | iand =>
    delta mStep at hst
    dsimp only at hst
    split at hst
    · split at hst
      · rename_i h1
        subst h1
        cases hst
        exact lv_iand hx hb hdg (kk H locs L cells slots hP hS hL hsz rfl)
      · cases hst
    · cases hst
  | ior =>
    delta mStep at hst
    dsimp only at hst
    split at hst
    · split at hst
      · rename_i h1
        subst h1
        cases hst
        exact lv_ior hx hb hdg (kk H locs L cells slots hP hS hL hsz rfl)
      · cases hst
    · cases hst
  | ixor =>
    delta mStep at hst
    dsimp only at hst
    split at hst
    · split at hst
      · rename_i h1
        subst h1
        cases hst
        exact lv_ixor hx hb hdg (kk H locs L cells slots hP hS hL hsz rfl)
      · cases hst
    · cases hst
  | ishl =>
    delta mStep at hst
    dsimp only at hst
    split at hst
    · split at hst
      · rename_i h1
        subst h1
        cases hst
        exact lv_ishl hx hb hdg (kk H locs L cells slots hP hS hL hsz rfl)
      · cases hst
    · cases hst
  | ishr =>
    delta mStep at hst
    dsimp only at hst
    split at hst
    · split at hst
      · rename_i h1
        subst h1
        cases hst
        exact lv_ishr hx hb hdg (kk H locs L cells slots hP hS hL hsz rfl)
      · cases hst
    · cases hst
  | ladd =>
    delta mStep at hst
    dsimp only at hst
    split at hst
    · split at hst
      · rename_i h1
        subst h1
        cases hst
        exact lv_ladd hx hb hdg (kk H locs L cells slots hP hS hL hsz rfl)
      · cases hst
    · cases hst
  | lsub =>
    delta mStep at hst
    dsimp only at hst
    split at hst
    · split at hst
      · rename_i h1
        subst h1
        cases hst
        exact lv_lsub hx hb hdg (kk H locs L cells slots hP hS hL hsz rfl)
      · cases hst
    · cases hst
  | lmul =>
    delta mStep at hst
    dsimp only at hst
    split at hst
    · split at hst
      · rename_i h1
        subst h1
        cases hst
        exact lv_lmul hx hb hdg (kk H locs L cells slots hP hS hL hsz rfl)
      · cases hst
    · cases hst
  | iushr =>
    delta mStep at hst
    dsimp only at hst
    split at hst
    · split at hst
      · rename_i h1
        subst h1
        cases hst
        exact lv_iushr hx hb hdg rfl (kk H locs L cells slots hP hS hL hsz rfl)
      · cases hst
    · cases hst
  | lcmp =>
    delta mStep at hst
    dsimp only at hst
    split at hst
    · split at hst
      · rename_i h1
        subst h1
        cases hst
        exact W.lcmp hx hb hdg (kk H locs L cells slots hP hS hL hsz rfl)
      · cases hst
    · cases hst
  | i2l =>
    delta mStep at hst
    dsimp only at hst
    split at hst
    · split at hst
      · rename_i h1
        subst h1
        cases hst
        exact lv_i2l hx hb hdg rfl (kk H locs L cells slots hP hS hL hsz rfl)
      · cases hst
    · cases hst
  | l2i =>
    delta mStep at hst
    dsimp only at hst
    split at hst
    · split at hst
      · rename_i h1
        subst h1
        cases hst
        exact lv_l2i hx hb hdg rfl (kk H locs L cells slots hP hS hL hsz rfl)
      · cases hst
    · cases hst
  | i2b =>
    delta mStep at hst
    dsimp only at hst
    split at hst
    · split at hst
      · rename_i h1
        subst h1
        cases hst
        exact lv_i2b hx hb hdg rfl (kk H locs L cells slots hP hS hL hsz rfl)
      · cases hst
    · cases hst
  | ineg =>
    delta mStep at hst
    dsimp only at hst
    split at hst
    · split at hst
      · rename_i h1
        subst h1
        cases hst
        exact lv_ineg hx hb hdg (kk H locs L cells slots hP hS hL hsz rfl)
      · cases hst
    · cases hst
  | idiv =>
    delta mStep at hst
    dsimp only at hst
    split at hst
    · split at hst
      · rename_i h1
        obtain ⟨h1, h2⟩ := h1
        subst h1
        cases hst
        exact lv_idiv hx hb hdg h2 (kk H locs L cells slots hP hS hL hsz rfl)
      · cases hst
    · cases hst
  | irem =>
    delta mStep at hst
    dsimp only at hst
    split at hst
    · split at hst
      · rename_i h1
        obtain ⟨h1, h2⟩ := h1
        subst h1
        cases hst
        exact lv_irem hx hb hdg h2 (kk H locs L cells slots hP hS hL hsz rfl)
      · cases hst
    · cases hst
  | ldiv =>
    delta mStep at hst
    dsimp only at hst
    split at hst
    · split at hst
      · rename_i h1
        obtain ⟨h1, h2⟩ := h1
        subst h1
        cases hst
        exact lv_ldiv hx hb hdg h2 (kk H locs L cells slots hP hS hL hsz rfl)
      · cases hst
    · cases hst
  | lrem =>
    delta mStep at hst
    dsimp only at hst
    split at hst
    · split at hst
      · rename_i h1
        obtain ⟨h1, h2⟩ := h1
        subst h1
        cases hst
        exact lv_lrem hx hb hdg h2 (kk H locs L cells slots hP hS hL hsz rfl)
      · cases hst
    · cases hst
  | dup =>
    delta mStep at hst
    dsimp only at hst
    split at hst
    · split at hst
      · rename_i h1
        obtain ⟨h1, h2⟩ := h1
        subst h1
        cases hst
        exact lv_dup hx hb hdg (by rw [mV_cat]; exact h2) (kk H locs L cells slots hP hS hL hsz rfl)
      · cases hst
    · cases hst
  | pop =>
    delta mStep at hst
    dsimp only at hst
    split at hst
    · split at hst
      · rename_i h1
        obtain ⟨h1, h2⟩ := h1
        subst h1
        cases hst
        exact lv_pop hx hb hdg (by rw [mV_cat]; exact h2) (kk H locs L cells slots hP hS hL hsz rfl)
      · cases hst
    · cases hst
  | dup_x1 =>
    delta mStep at hst
    dsimp only at hst
    split at hst
    · split at hst
      · rename_i h1
        obtain ⟨h1, h2, h3⟩ := h1
        subst h1
        cases hst
        exact lv_dup_x1 hx hb hdg (by rw [mV_cat]; exact h2) (by rw [mV_cat]; exact h3) (kk H locs L cells slots hP hS hL hsz rfl)
      · cases hst
    · cases hst
  | dup_x2 =>
    delta mStep at hst
    dsimp only at hst
    split at hst
    · split at hst
      · rename_i h1
        obtain ⟨h1, h2, h3, h4⟩ := h1
        subst h1
        cases hst
        exact lv_dup_x2 hx hb hdg (by rw [mV_cat]; exact h2) (by rw [mV_cat]; exact h3) (by rw [mV_cat]; exact h4) (kk H locs L cells slots hP hS hL hsz rfl)
      · cases hst
    · cases hst
  | dup2 =>
    delta mStep at hst
    dsimp only at hst
    split at hst
    · split at hst
      · rename_i h1
        obtain ⟨h1, h2, h3⟩ := h1
        subst h1
        cases hst
        exact lv_dup2_11 hx hb hdg (by rw [mV_cat]; exact h2) (by rw [mV_cat]; exact h3) (kk H locs L cells slots hP hS hL hsz rfl)
      · split at hst
        · rename_i h1
          obtain ⟨h1, h2⟩ := h1
          subst h1
          cases hst
          exact lv_dup2_2 hx hb hdg (by rw [mV_cat]; exact h2) (kk H locs L cells slots hP hS hL hsz rfl)
        · cases hst
    · split at hst
      · rename_i h1
        obtain ⟨h1, h2⟩ := h1
        subst h1
        cases hst
        exact lv_dup2_2 hx hb hdg (by rw [mV_cat]; exact h2) (kk H locs L cells slots hP hS hL hsz rfl)
      · cases hst
    · cases hst
  | goto off =>
    delta mStep at hst
    dsimp only at hst
    split at hst
    · rename_i h1
      obtain ⟨h1, h2⟩ := h1
      subst h1
      cases hst
      exact lv_goto hx hb hdg (mOk_jmp h2) (kk H locs L cells slots hP hS hL hsz rfl)
    · cases hst
  | ifCond cnd off =>
    delta mStep at hst
    dsimp only at hst
    split at hst
    · rename_i x r
      split at hst
      · rename_i h1
        obtain ⟨h1, h2⟩ := h1
        subst h1
        cases hst
        have kt : mCmp cnd x 0 = true → W p l e R s m args below meth c H locs cells slots Q (F0 m (mJmp pc off) L (r.map (mV base od))) := fun h => by
          have := kk H locs L cells slots hP hS hL hsz rfl
          rw [if_pos h] at this
          exact this
        have kf : ¬ mCmp cnd x 0 = true → W p l e R s m args below meth c H locs cells slots Q (F0 m (pc + 3) L (r.map (mV base od))) := fun h => by
          have := kk H locs L cells slots hP hS hL hsz rfl
          rw [if_neg h] at this
          exact this
        cases cnd with
        | eq => exact lv_if_eq hx hb hdg (mOk_jmp h2) (fun h => kt (mCmp_eq.mpr h)) (fun h => kf (fun q => h (mCmp_eq.mp q)))
        | ne => exact lv_if_ne hx hb hdg (mOk_jmp h2) (fun h => kt (mCmp_ne.mpr h)) (fun h => kf (fun q => (mCmp_ne.mp q) h))
        | lt => exact lv_if_lt hx hb hdg (mOk_jmp h2) (fun h => kt (mCmp_lt.mpr h)) (fun h => kf (fun q => h (mCmp_lt.mp q)))
        | ge => exact lv_if_ge hx hb hdg (mOk_jmp h2) (fun h => kt (mCmp_ge.mpr h)) (fun h => kf (fun q => h (mCmp_ge.mp q)))
        | gt => exact lv_if_gt hx hb hdg (mOk_jmp h2) (fun h => kt (mCmp_gt.mpr h)) (fun h => kf (fun q => h (mCmp_gt.mp q)))
        | le => exact lv_if_le hx hb hdg (mOk_jmp h2) (fun h => kt (mCmp_le.mpr h)) (fun h => kf (fun q => h (mCmp_le.mp q)))
      · cases hst
    · cases hst
  | if_icmp cnd off =>
    delta mStep at hst
    dsimp only at hst
    split at hst
    · rename_i z x r
      split at hst
      · rename_i h1
        obtain ⟨h1, h2⟩ := h1
        subst h1
        cases hst
        have kt : mCmp cnd x z = true → W p l e R s m args below meth c H locs cells slots Q (F0 m (mJmp pc off) L (r.map (mV base od))) := fun h => by
          have := kk H locs L cells slots hP hS hL hsz rfl
          rw [if_pos h] at this
          exact this
        have kf : ¬ mCmp cnd x z = true → W p l e R s m args below meth c H locs cells slots Q (F0 m (pc + 3) L (r.map (mV base od))) := fun h => by
          have := kk H locs L cells slots hP hS hL hsz rfl
          rw [if_neg h] at this
          exact this
        cases cnd with
        | eq => exact lv_icmp_eq hx hb hdg (mOk_jmp h2) (fun h => kt (mCmp_eq.mpr h)) (fun h => kf (fun q => h (mCmp_eq.mp q)))
        | ne => exact lv_icmp_ne hx hb hdg (mOk_jmp h2) (fun h => kt (mCmp_ne.mpr h)) (fun h => kf (fun q => (mCmp_ne.mp q) h))
        | lt => exact lv_icmp_lt hx hb hdg (mOk_jmp h2) (fun h => kt (mCmp_lt.mpr h)) (fun h => kf (fun q => h (mCmp_lt.mp q)))
        | ge => exact lv_icmp_ge hx hb hdg (mOk_jmp h2) (fun h => kt (mCmp_ge.mpr h)) (fun h => kf (fun q => h (mCmp_ge.mp q)))
        | gt => exact lv_icmp_gt hx hb hdg (mOk_jmp h2) (fun h => kt (mCmp_gt.mpr h)) (fun h => kf (fun q => h (mCmp_gt.mp q)))
        | le => exact lv_icmp_le hx hb hdg (mOk_jmp h2) (fun h => kt (mCmp_le.mpr h)) (fun h => kf (fun q => h (mCmp_le.mp q)))
      · cases hst
    · cases hst
  | ifnull off =>
    delta mStep at hst
    dsimp only at hst
    split at hst
    · split at hst
      · rename_i h1
        obtain ⟨h1, h2⟩ := h1
        subst h1
        cases hst
        exact lv_ifnullN hx hb hdg (mOk_jmp h2) (kk H locs L cells slots hP hS hL hsz rfl)
      · cases hst
    · split at hst
      · rename_i h1
        subst h1
        cases hst
        exact lv_ifnull hx hb hdg (kk H locs L cells slots hP hS hL hsz rfl)
      · cases hst
    · cases hst
  | ifnonnull off =>
    delta mStep at hst
    dsimp only at hst
    split at hst
    · split at hst
      · rename_i h1
        subst h1
        cases hst
        exact lv_ifnonnullN hx hb hdg (kk H locs L cells slots hP hS hL hsz rfl)
      · cases hst
    · split at hst
      · rename_i h1
        obtain ⟨h1, h2⟩ := h1
        subst h1
        cases hst
        exact lv_ifnonnull hx hb hdg (mOk_jmp h2) (kk H locs L cells slots hP hS hL hsz rfl)
      · cases hst
    · cases hst
  | tableswitch dflt lo hi offs =>
    delta mStep at hst
    dsimp only at hst
    split at hst
    · split at hst
      · rename_i h1
        split at hst
        · rename_i h2
          cases hst
          exact lv_tableOut hx hb hdg h1 (mOk_jmp h2) (kk H locs L cells slots hP hS hL hsz rfl)
        · cases hst
      · rename_i h1
        split at hst
        · rename_i off ho
          split at hst
          · rename_i h2
            cases hst
            exact lv_tableIn hx hb hdg (fun z => h1 (Or.inl z)) (fun z => h1 (Or.inr z)) ho (mOk_jmp h2) (kk H locs L cells slots hP hS hL hsz rfl)
          · cases hst
        · cases hst
    · cases hst
  | lookupswitch dflt ps =>
    delta mStep at hst
    dsimp only at hst
    split at hst
    · split at hst
      · rename_i h1
        obtain ⟨h1, h2⟩ := h1
        cases hst
        exact lv_lookup hx hb hdg h1 rfl (mOk_jmp h2) (kk H locs L cells slots hP hS hL hsz rfl)
      · cases hst
    · cases hst
  | arraylength =>
    delta mStep at hst
    dsimp only at hst
    split at hst
    · rename_i a r
      split at hst
      · rename_i x har
        split at hst
        · rename_i h1
          obtain ⟨h1, h2⟩ := h1
          subst h1
          cases hst
          rcases mAr_or har with ⟨jo, z, rfl, ho, rfl⟩ | ⟨ha, hg⟩
          · rw [show List.map (mV base od) (Value.ref (oB + jo) :: r) = Value.ref (od jo) :: r.map (mV base od) from by simp only [List.map_cons, mV, mAd_ge]]
            exact va_tlen hx hb (hC.2.2.2.2.2.1 jo z ho) hS rfl hdg (kk H locs L cells slots hP hS hL hsz rfl)
          · rw [show List.map (mV base od) (Value.ref a :: r) = Value.ref (base + a) :: r.map (mV base od) from by simp only [List.map_cons, mV, mAd_lt ha]]
            obtain ⟨ty, hty⟩ := mTys_at (kA := kA) h2
            obtain ⟨t, n, f | f | f | f | f⟩ := x
            · exact va_alen hx hb hK hP a t (mWs_get hg) hty rfl hdg (kk H locs L cells slots hP hS hL hsz rfl)
            · exact va_alen hx hb hK hP a t (mWs_get hg) hty rfl hdg (kk H locs L cells slots hP hS hL hsz rfl)
            · exact va_alen hx hb hK hP a t (mWs_get hg) hty rfl hdg (kk H locs L cells slots hP hS hL hsz rfl)
            · exact va_alen hx hb hK hP a t (mWs_get hg) hty rfl hdg (kk H locs L cells slots hP hS hL hsz rfl)
            · exact va_alen hx hb hK hP a t (mWs_get hg) hty rfl hdg (kk H locs L cells slots hP hS hL hsz rfl)
        · cases hst
      · cases hst
    · cases hst
  | iaload =>
    delta mStep at hst
    dsimp only at hst
    split at hst
    · rename_i j a r
      split at hst
      · rename_i n f har
        split at hst
        · rename_i h1
          obtain ⟨h1, h2⟩ := h1
          subst h1
          cases hst
          rcases mAr_or har with ⟨jo, z, rfl, ho, hz⟩ | ⟨ha, hg⟩
          · cases hz
            rw [show List.map (mV base od) (Value.int j :: Value.ref (oB + jo) :: r) = Value.int j :: Value.ref (od jo) :: r.map (mV base od) from by simp only [List.map_cons, mV, mAd_ge]]
            exact va_ti hx hb (hC.2.2.2.2.2.1 jo z ho) hS (mIdx_in h2) rfl hdg (kk H locs L cells slots hP hS hL hsz rfl)
          · rw [show List.map (mV base od) (Value.int j :: Value.ref a :: r) = Value.int j :: Value.ref (base + a) :: r.map (mV base od) from by simp only [List.map_cons, mV, mAd_lt ha]]
            exact va_iald hx hb hK hP a 0 (mWs_get hg) rfl (mIdx_in h2) hdg (kk H locs L cells slots hP hS hL hsz rfl)
        · cases hst
      · cases hst
    · cases hst
  | baload =>
    delta mStep at hst
    dsimp only at hst
    split at hst
    · rename_i j a r
      split at hst
      · rename_i n f har
        split at hst
        · rename_i h1
          obtain ⟨h1, h2⟩ := h1
          subst h1
          cases hst
          rcases mAr_or har with ⟨jo, z, rfl, ho, hz⟩ | ⟨ha, hg⟩
          · cases hz
          · rw [show List.map (mV base od) (Value.int j :: Value.ref a :: r) = Value.int j :: Value.ref (base + a) :: r.map (mV base od) from by simp only [List.map_cons, mV, mAd_lt ha]]
            exact va_bald hx hb hK hP a 2 (mWs_get hg) rfl (mIdx_in h2) hdg (kk H locs L cells slots hP hS hL hsz rfl)
        · cases hst
      · rename_i n f har
        split at hst
        · rename_i h1
          obtain ⟨h1, h2⟩ := h1
          subst h1
          cases hst
          rcases mAr_or har with ⟨jo, z, rfl, ho, hz⟩ | ⟨ha, hg⟩
          · cases hz
          · rw [show List.map (mV base od) (Value.int j :: Value.ref a :: r) = Value.int j :: Value.ref (base + a) :: r.map (mV base od) from by simp only [List.map_cons, mV, mAd_lt ha]]
            exact va_zald hx hb hK hP a 3 (mWs_get hg) rfl (mIdx_in h2) hdg (kk H locs L cells slots hP hS hL hsz rfl)
        · cases hst
      · cases hst
    · cases hst
  | laload =>
    delta mStep at hst
    dsimp only at hst
    split at hst
    · rename_i j a r
      split at hst
      · rename_i n f har
        split at hst
        · rename_i h1
          obtain ⟨h1, h2⟩ := h1
          subst h1
          cases hst
          rcases mAr_or har with ⟨jo, z, rfl, ho, hz⟩ | ⟨ha, hg⟩
          · cases hz
          · rw [show List.map (mV base od) (Value.int j :: Value.ref a :: r) = Value.int j :: Value.ref (base + a) :: r.map (mV base od) from by simp only [List.map_cons, mV, mAd_lt ha]]
            exact va_lald hx hb hK hP a 1 (mWs_get hg) rfl (mIdx_in h2) hdg (kk H locs L cells slots hP hS hL hsz rfl)
        · cases hst
      · cases hst
    · cases hst
  | aaload =>
    delta mStep at hst
    dsimp only at hst
    split at hst
    · rename_i j a r
      split at hst
      · rename_i t n f har
        split at hst
        · rename_i h1
          obtain ⟨h1, h3, h2⟩ := h1
          subst h1
          cases hst
          rcases mAr_or har with ⟨jo, z, rfl, ho, hz⟩ | ⟨ha, hg⟩
          · cases hz
          · rw [show List.map (mV base od) (Value.int j :: Value.ref a :: r) = Value.int j :: Value.ref (base + a) :: r.map (mV base od) from by simp only [List.map_cons, mV, mAd_lt ha]]
            have k1 := kk H locs L cells slots hP hS hL hsz rfl
            rw [show List.map (mV base od) (va_rf (f j.toNatClampNeg) :: r) = va_rf ((f j.toNatClampNeg).map (mAd base od)) :: r.map (mV base od) from by show mV base od _ :: _ = _; rw [mV_rf]] at k1
            rcases h3 with rfl | rfl
            · exact va_aldq hx hb hK hP a 4 (mWs_get hg) rfl (mIdx_in h2) hdg k1
            · exact va_aldq hx hb hK hP a 5 (mWs_get hg) rfl (mIdx_in h2) hdg k1
        · cases hst
      · cases hst
    · cases hst
  | iastore =>
    delta mStep at hst
    dsimp only at hst
    split at hst
    · rename_i v j a r
      split at hst
      · rename_i n f hg
        split at hst
        · rename_i h1
          obtain ⟨h1, ha, h2⟩ := h1
          subst h1
          cases hst
          rw [show List.map (mV base od) (Value.int v :: Value.int j :: Value.ref a :: r) = Value.int v :: Value.int j :: Value.ref (base + a) :: r.map (mV base od) from by simp only [List.map_cons, mV, mAd_lt ha]]
          exact va_iast hx hb hK hP (mWs_D K) hS a 0 (mWs_get hg) rfl (mIdx_in h2) hdg (fun H1 locs1 hP1 _ hS1 => kk H1 locs1 L cells slots (by rw [mWs_set]; exact hP1) hS1 hL (by rw [mpt_len]; exact hsz) rfl)
        · cases hst
      · cases hst
    · cases hst
  | bastore =>
    delta mStep at hst
    dsimp only at hst
    split at hst
    · rename_i v j a r
      split at hst
      · rename_i n f hg
        split at hst
        · rename_i h1
          obtain ⟨h1, ha, h2⟩ := h1
          subst h1
          cases hst
          rw [show List.map (mV base od) (Value.int v :: Value.int j :: Value.ref a :: r) = Value.int v :: Value.int j :: Value.ref (base + a) :: r.map (mV base od) from by simp only [List.map_cons, mV, mAd_lt ha]]
          exact va_bast hx hb hK hP (mWs_D K) hS a 2 (mWs_get hg) rfl (mIdx_in h2) hdg (fun H1 locs1 hP1 _ hS1 => kk H1 locs1 L cells slots (by rw [mWs_set]; exact hP1) hS1 hL (by rw [mpt_len]; exact hsz) rfl)
        · cases hst
      · rename_i n f hg
        split at hst
        · rename_i h1
          obtain ⟨h1, ha, h2⟩ := h1
          subst h1
          cases hst
          rw [show List.map (mV base od) (Value.int v :: Value.int j :: Value.ref a :: r) = Value.int v :: Value.int j :: Value.ref (base + a) :: r.map (mV base od) from by simp only [List.map_cons, mV, mAd_lt ha]]
          exact va_zast hx hb hK hP (mWs_D K) hS a 3 (mWs_get hg) rfl (mIdx_in h2) hdg (fun H1 locs1 hP1 _ hS1 => kk H1 locs1 L cells slots (by rw [mWs_set]; exact hP1) hS1 hL (by rw [mpt_len]; exact hsz) rfl)
        · cases hst
      · cases hst
    · cases hst
  | lastore =>
    delta mStep at hst
    dsimp only at hst
    split at hst
    · rename_i v j a r
      split at hst
      · rename_i n f hg
        split at hst
        · rename_i h1
          obtain ⟨h1, ha, h2⟩ := h1
          subst h1
          cases hst
          rw [show List.map (mV base od) (Value.long v :: Value.int j :: Value.ref a :: r) = Value.long v :: Value.int j :: Value.ref (base + a) :: r.map (mV base od) from by simp only [List.map_cons, mV, mAd_lt ha]]
          exact va_last hx hb hK hP (mWs_D K) hS a 1 (mWs_get hg) rfl (mIdx_in h2) hdg (fun H1 locs1 hP1 _ hS1 => kk H1 locs1 L cells slots (by rw [mWs_set]; exact hP1) hS1 hL (by rw [mpt_len]; exact hsz) rfl)
        · cases hst
      · cases hst
    · cases hst
  | aastore =>
    delta mStep at hst
    dsimp only at hst
    split at hst
    · rename_i v j a r
      split at hst
      · rename_i t n f ci fs hg hv
        split at hst
        · rename_i h1
          obtain ⟨h1, ha, hav, h3, h2⟩ := h1
          subst h1
          cases hst
          rw [show List.map (mV base od) (Value.ref v :: Value.int j :: Value.ref a :: r) = Value.ref (base + v) :: Value.int j :: Value.ref (base + a) :: r.map (mV base od) from by simp only [List.map_cons, mV, mAd_lt ha, mAd_lt hav]]
          rcases h3 with ⟨rfl, rfl⟩ | ⟨rfl, rfl⟩
          · exact va_astq hx hb hK hP (mWs_D K) hS a 4 v 2 (mWs_get hg) rfl (mWs_get hv) rfl (mIdx_in h2) hdg (fun H1 locs1 hP1 _ hS1 => kk H1 locs1 L cells slots (by rw [mWs_set, mRc_up (v := some v) f, Option.map_some, mAd_lt hav]; exact hP1) hS1 hL (by rw [mpt_len]; exact hsz) rfl)
          · exact va_astq hx hb hK hP (mWs_D K) hS a 5 v 5 (mWs_get hg) rfl (mWs_get hv) rfl (mIdx_in h2) hdg (fun H1 locs1 hP1 _ hS1 => kk H1 locs1 L cells slots (by rw [mWs_set, mRc_up (v := some v) f, Option.map_some, mAd_lt hav]; exact hP1) hS1 hL (by rw [mpt_len]; exact hsz) rfl)
        · cases hst
      · cases hst
    · rename_i j a r
      split at hst
      · rename_i t n f hg
        split at hst
        · rename_i h1
          obtain ⟨h1, ha, h3, h2⟩ := h1
          subst h1
          cases hst
          rw [show List.map (mV base od) (Value.null :: Value.int j :: Value.ref a :: r) = Value.null :: Value.int j :: Value.ref (base + a) :: r.map (mV base od) from by simp only [List.map_cons, mV, mAd_lt ha]]
          rcases h3 with rfl | rfl
          · exact va_astqN hx hb hK hP (mWs_D K) hS a 4 (mWs_get hg) rfl (mIdx_in h2) hdg (fun H1 locs1 hP1 _ hS1 => kk H1 locs1 L cells slots (by rw [mWs_set, mRc_up (v := none) f]; exact hP1) hS1 hL (by rw [mpt_len]; exact hsz) rfl)
          · exact va_astqN hx hb hK hP (mWs_D K) hS a 5 (mWs_get hg) rfl (mIdx_in h2) hdg (fun H1 locs1 hP1 _ hS1 => kk H1 locs1 L cells slots (by rw [mWs_set, mRc_up (v := none) f]; exact hP1) hS1 hL (by rw [mpt_len]; exact hsz) rfl)
        · cases hst
      · cases hst
    · cases hst
  | getfield k =>
    delta mStep at hst
    dsimp only at hst
    split at hst
    · rename_i a r
      split at hst
      · rename_i ci sl cj fs hf hg
        split at hst
        · rename_i v hv
          split at hst
          · rename_i h1
            obtain ⟨h1, ha, h2⟩ := h1
            subst h1
            subst h2
            cases hst
            rw [show List.map (mV base od) (Value.ref a :: r) = Value.ref (base + a) :: r.map (mV base od) from by simp only [List.map_cons, mV, mAd_lt ha]]
            obtain ⟨q, hq, hk, hl⟩ := mFld_in hf
            exact va_get hx hb hts (mCls_ok hq).1 hown hK hP a (mWs_get hg) hq sl hk (tw hl rfl) (fun x h => h) (by rw [List.getElem?_map, hv]; rfl) hdg (kk H locs L cells slots hP hS hL hsz rfl)
          · cases hst
        · cases hst
      · cases hst
    · cases hst
  | putfield k =>
    delta mStep at hst
    dsimp only at hst
    split at hst
    · rename_i v a r
      split at hst
      · rename_i ci sl cj fs hf hg
        split at hst
        · rename_i q0 hq0
          split at hst
          · rename_i h1
            obtain ⟨h1, ha, h2, hlen, hn, hfi, hfin⟩ := h1
            subst h1
            subst h2
            cases hst
            rw [show List.map (mV base od) (v :: Value.ref a :: r) = mV base od v :: Value.ref (base + a) :: r.map (mV base od) from by simp only [List.map_cons, mV, mAd_lt ha]]
            obtain ⟨q, hq, hk, hl⟩ := mFld_in hf
            cases hq.symm.trans hq0
            by_cases hz : (q0.2.1 sl).2.2.2 = true
            · obtain ⟨h5, h6⟩ := hfin hz
              exact va_putF hx hb hts (mCls_ok hq).1 (mTy ci) (mCls_ok hq).2.1 (mCls_ok hq).2.2.1 hown hK hP (mWs_D K) hS a (mWs_get hg) hq sl hk (tw hl rfl) (fun x h => h) hz (hnm h5) h6 ((mCls_ok hq).2.1 sl hk) (mV_narrow hn) (mV_fits hfi) (by rw [List.length_map]; exact hlen) hdg (fun H1 locs1 hP1 _ hS1 => kk H1 locs1 L cells slots (by rw [mWs_set]; show va_P D mCls (List.set _ a (base + a, .inr (ci, (fs.set sl v).map (mV base od)))) H1; rw [List.map_set]; exact hP1) hS1 hL (by rw [mpt_len]; exact hsz) rfl)
            · exact va_put hx hb hts (mCls_ok hq).1 (mTy ci) (mCls_ok hq).2.1 (mCls_ok hq).2.2.1 hown hK hP (mWs_D K) hS a (mWs_get hg) hq sl hk (tw hl rfl) (fun x h => h) (by simpa using hz) ((mCls_ok hq).2.1 sl hk) (mV_narrow hn) (mV_fits hfi) (by rw [List.length_map]; exact hlen) hdg (fun H1 locs1 hP1 _ hS1 => kk H1 locs1 L cells slots (by rw [mWs_set]; show va_P D mCls (List.set _ a (base + a, .inr (ci, (fs.set sl v).map (mV base od)))) H1; rw [List.map_set]; exact hP1) hS1 hL (by rw [mpt_len]; exact hsz) rfl)
          · cases hst
        · cases hst
      · cases hst
    · cases hst
  | getstatic k =>
    delta mStep at hst
    dsimp only at hst
    split at hst
    · rename_i o ho
      split at hst
      · rename_i h1
        subst h1
        cases hst
        have k1 := kk H locs L cells slots hP hS hL hsz rfl
        rw [show List.map (mV base od) (Value.ref (oB + o) :: st) = Value.ref (od o) :: st.map (mV base od) from by simp only [List.map_cons, mV, mAd_ge]] at k1
        unfold mSta at ho
        obtain ⟨⟨q, hh⟩, h2, h3⟩ := Option.bind_eq_some_iff.mp ho
        have hZ := hC.2.2.2.2.2.2.1 _ (mStatO_in h3)
        cases hh with
        | none => exact va_gets hx hb hZ hS hown (tw (mStaS_in h2) rfl) (fun x h => h) hdg k1
        | some host => exact va_getsN hx hb hZ hS hown (va_Nw.use rfl (hC.2.2.2.2.1 _ (mStaS_inN h2) rfl)) (fun x h => h) hdg k1
      · cases hst
    · cases hst
  | new k =>
    delta mStep at hst
    dsimp only at hst
    split at hst
    · rename_i ci n hn
      split at hst
      · rename_i h1
        obtain ⟨h1, h2⟩ := h1
        subst h1
        cases hst
        obtain ⟨q, hq, rfl, hl⟩ := mNew_in hn
        have e1 : (mad K q.2.2 (Sum.inr (ci, (List.range q.2.2).map (fun j => defaultValue (mTy ci j))))).2.length - K.2.length = 1 := by rw [mad_len]; omega
        have e2 : (mad K q.2.2 (Sum.inr (ci, (List.range q.2.2).map (fun j => defaultValue (mTy ci j))))).1 - K.1 = q.2.2 := by simp [mad]
        refine va_new (fs := ((List.range q.2.2).map (fun j => defaultValue (mTy ci j))).map (mV base od)) hx hb hts (mCls_ok hq).1 (mTy ci) (mCls_ok hq).2.1 hown (tw hl rfl) (hts _ (mCls_ok hq).2.2.2.1) (hts _ (mCls_ok hq).2.2.2.2) hK hP (mWs_D K) hS hA hq (fun j hj => ?_) (by rw [← e1]; exact hrc) (by rw [← e2]; exact hrs) hdg (fun z H1 hP1 hD1 hS1 => mSiz (fun hz => ?_))
        · simp [vp_V, hj, mV_def]
        · have hzz := mFresh hP1 hD1 (by omega)
          subst hzz
          have k1 := kk H1 locs L (cells + 1) (slots + q.2.2) (by rw [mWs_add]; exact hP1) hS1 hL (by rw [mad_len]; omega) (by simp only [mad]; omega)
          rw [show List.map (mV base od) (Value.ref K.2.length :: st) = Value.ref (base + K.2.length) :: st.map (mV base od) from by show Value.ref (mAd base od _) :: _ = _; rw [mAd_lt h2]] at k1
          exact k1
      · cases hst
    · cases hst
  | newarray t =>
    delta mStep at hst
    dsimp only at hst
    split at hst
    · rename_i n r
      split at hst
      · rename_i sr f hf
        split at hst
        · rename_i h1
          obtain ⟨h1, h2, h3, h4⟩ := h1
          subst h1
          cases hst
          have e1 : (mad K n.toNatClampNeg (Sum.inl (sr, f n.toNatClampNeg))).2.length - K.2.length = 1 := by rw [mad_len]; omega
          have e2 : (mad K n.toNatClampNeg (Sum.inl (sr, f n.toNatClampNeg))).1 - K.1 = n.toNatClampNeg := by simp [mad]
          have hc1 : cells + 1 ≤ R.cells := by rw [← e1]; exact hrc
          have hc2 : slots + n.toNatClampNeg ≤ R.slots := by rw [← e2]; exact hrs
          have go : ∀ (z : Nat) (H1 : Heap), va_P D mCls (mWs base od kA K ++ [(z, mRc base od kA (Sum.inl (sr, f n.toNatClampNeg)))]) H1 → va_D (mA base) (mWs base od kA K ++ [(z, mRc base od kA (Sum.inl (sr, f n.toNatClampNeg)))]) → va_S (mA base) s.heap H1 locs → W p l e R s m args below meth c H1 locs (cells + 1) (slots + n.toNatClampNeg) Q (F0 m (pc + 2) L (Value.ref z :: r.map (mV base od))) := fun z H1 hP1 hD1 hS1 => mSiz (fun hz => by
            have hzz := mFresh hP1 hD1 (by omega)
            subst hzz
            have k1 := kk H1 locs L (cells + 1) (slots + n.toNatClampNeg) (by rw [mWs_add]; exact hP1) hS1 hL (by rw [mad_len]; omega) (by simp only [mad]; omega)
            rw [show List.map (mV base od) (Value.ref K.2.length :: r) = Value.ref (base + K.2.length) :: r.map (mV base od) from by show Value.ref (mAd base od _) :: _ = _; rw [mAd_lt h4]] at k1
            exact k1)
          cases t with
          | int =>
            cases hf
            refine va_newa hx hb (tw (show Cond.arrayClass (newarray.typeOf .int) ∈ lw_tbl from mArr0) rfl) rfl hK hP (mWs_D K) hS hA (a0 := (n.toNatClampNeg, .inl (fun _ => 0))) (fun cA => rfl) h2 rfl (by show n.toNatClampNeg * 4 ≤ 536870912; omega) hc1 hc2 hdg (fun z cA H1 hK1 hP1 hD1 hS1 => ?_)
            have hcA : cA = kA 0 := Option.some.inj ((hK1.2 6 (cA, .int) rfl).2.symm.trans (hK.2 0 (kA 0, .int) rfl).2)
            subst hcA
            exact go z H1 hP1 hD1 hS1
          | long =>
            cases hf
            refine va_newa hx hb (tw (show Cond.arrayClass (newarray.typeOf .long) ∈ lw_tbl from mArr1) rfl) rfl hK hP (mWs_D K) hS hA (a0 := (n.toNatClampNeg, .inr (.inl (fun _ => 0)))) (fun cA => rfl) h2 rfl (by show n.toNatClampNeg * 8 ≤ 536870912; omega) hc1 hc2 hdg (fun z cA H1 hK1 hP1 hD1 hS1 => ?_)
            have hcA : cA = kA 1 := Option.some.inj ((hK1.2 6 (cA, .long) rfl).2.symm.trans (hK.2 1 (kA 1, .long) rfl).2)
            subst hcA
            exact go z H1 hP1 hD1 hS1
          | byte =>
            cases hf
            refine va_newa hx hb (tw (show Cond.arrayClass (newarray.typeOf .byte) ∈ lw_tbl from mArr2) rfl) rfl hK hP (mWs_D K) hS hA (a0 := (n.toNatClampNeg, .inl (fun _ => 0))) (fun cA => rfl) h2 rfl (by show n.toNatClampNeg * 1 ≤ 536870912; omega) hc1 hc2 hdg (fun z cA H1 hK1 hP1 hD1 hS1 => ?_)
            have hcA : cA = kA 2 := Option.some.inj ((hK1.2 6 (cA, .byte) rfl).2.symm.trans (hK.2 2 (kA 2, .byte) rfl).2)
            subst hcA
            exact go z H1 hP1 hD1 hS1
          | boolean =>
            cases hf
            refine va_newa hx hb (tw (show Cond.arrayClass (newarray.typeOf .boolean) ∈ lw_tbl from mArr3) rfl) rfl hK hP (mWs_D K) hS hA (a0 := (n.toNatClampNeg, .inl (fun _ => 0))) (fun cA => rfl) h2 rfl (by show n.toNatClampNeg * 1 ≤ 536870912; omega) hc1 hc2 hdg (fun z cA H1 hK1 hP1 hD1 hS1 => ?_)
            have hcA : cA = kA 3 := Option.some.inj ((hK1.2 6 (cA, .boolean) rfl).2.symm.trans (hK.2 3 (kA 3, .boolean) rfl).2)
            subst hcA
            exact go z H1 hP1 hD1 hS1
          | _ => cases hf
        · cases hst
      · cases hst
    · cases hst
  | anewarray k =>
    delta mStep at hst
    dsimp only at hst
    split at hst
    · rename_i n r
      split at hst
      · rename_i sr hf
        split at hst
        · rename_i h1
          obtain ⟨h1, h2, h3, h4⟩ := h1
          subst h1
          cases hst
          have e1 : (mad K n.toNatClampNeg (Sum.inl (sr, n.toNatClampNeg, .inr (.inr (.inr (.inr (fun _ => none))))))).2.length - K.2.length = 1 := by rw [mad_len]; omega
          have e2 : (mad K n.toNatClampNeg (Sum.inl (sr, n.toNatClampNeg, .inr (.inr (.inr (.inr (fun _ => none))))))).1 - K.1 = n.toNatClampNeg := by simp [mad]
          have hc1 : cells + 1 ≤ R.cells := by rw [← e1]; exact hrc
          have hc2 : slots + n.toNatClampNeg ≤ R.slots := by rw [← e2]; exact hrs
          have go : ∀ (z : Nat) (H1 : Heap), va_P D mCls (mWs base od kA K ++ [(z, mRc base od kA (Sum.inl (sr, n.toNatClampNeg, .inr (.inr (.inr (.inr (fun _ => none)))))))]) H1 → va_D (mA base) (mWs base od kA K ++ [(z, mRc base od kA (Sum.inl (sr, n.toNatClampNeg, .inr (.inr (.inr (.inr (fun _ => none)))))))]) → va_S (mA base) s.heap H1 locs → W p l e R s m args below meth c H1 locs (cells + 1) (slots + n.toNatClampNeg) Q (F0 m (pc + 3) L (Value.ref z :: r.map (mV base od))) := fun z H1 hP1 hD1 hS1 => mSiz (fun hz => by
            have hzz := mFresh hP1 hD1 (by omega)
            subst hzz
            have k1 := kk H1 locs L (cells + 1) (slots + n.toNatClampNeg) (by rw [mWs_add]; exact hP1) hS1 hL (by rw [mad_len]; omega) (by simp only [mad]; omega)
            rw [show List.map (mV base od) (Value.ref K.2.length :: r) = Value.ref (base + K.2.length) :: r.map (mV base od) from by show Value.ref (mAd base od _) :: _ = _; rw [mAd_lt h4]] at k1
            exact k1)
          rcases mNewA_in hf with ⟨rfl, hl⟩ | ⟨rfl, hl⟩
          · refine va_newq hx hb hown (tw hl rfl) hC.2.2.1 hK hP (mWs_D K) hS hA h2 rfl (by omega) hc1 hc2 hdg (fun z cA H1 hK1 hP1 hD1 hS1 => ?_)
            have hcA : cA = kA 4 := by
              obtain ⟨_, _, _, _, _, g1⟩ := (hK1.2 6 (cA, .object RX2) rfl).2
              obtain ⟨_, _, _, _, _, g2⟩ := (hK.2 4 (kA 4, .object RX2) rfl).2
              exact Option.some.inj (g1.symm.trans g2)
            subst hcA
            exact go z H1 hP1 hD1 hS1
          · refine va_newq hx hb hown (tw hl rfl) hC.2.2.2.1 hK hP (mWs_D K) hS hA h2 rfl (by omega) hc1 hc2 hdg (fun z cA H1 hK1 hP1 hD1 hS1 => ?_)
            have hcA : cA = kA 5 := by
              obtain ⟨_, _, _, _, _, g1⟩ := (hK1.2 6 (cA, .object RX5) rfl).2
              obtain ⟨_, _, _, _, _, g2⟩ := (hK.2 5 (kA 5, .object RX5) rfl).2
              exact Option.some.inj (g1.symm.trans g2)
            subst hcA
            exact go z H1 hP1 hD1 hS1
        · cases hst
      · cases hst
    · cases hst
  | _ => cases (show (none : Option mC) = some cf from hst)
end SIM
