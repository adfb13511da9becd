/-! the small machine's heap beside the model's -/
def mAd (base : Nat) (od : Nat → Nat) (k : Nat) : Nat := if oB ≤ k then od (k - oB) else base + k
def mV (base : Nat) (od : Nat → Nat) (v : Value) : Value := match v with
  | .ref k => .ref (mAd base od k)
  | .int x => .int x
  | .long x => .long x
  | .float x => .float x
  | .double x => .double x
  | .null => .null
  | .retAddr x => .retAddr x
def mRc (base : Nat) (od : Nat → Nat) (kA : Nat → ClassId) (e : mE) : va_E := match e with
  | .inl (t, n, .inl f) => .inl (kA t, n, .inl f)
  | .inl (t, n, .inr (.inl f)) => .inl (kA t, n, .inr (.inl f))
  | .inl (t, n, .inr (.inr (.inl f))) => .inl (kA t, n, .inr (.inr (.inl f)))
  | .inl (t, n, .inr (.inr (.inr (.inl f)))) => .inl (kA t, n, .inr (.inr (.inr (.inl f))))
  | .inl (t, n, .inr (.inr (.inr (.inr f)))) => .inl (kA t, n, .inr (.inr (.inr (.inr (fun j => (f j).map (mAd base od))))))
  | .inr (ci, fs) => .inr (ci, fs.map (mV base od))
def mWs (base : Nat) (od : Nat → Nat) (kA : Nat → ClassId) (K : mH) : va_W := K.2.mapIdx (fun k e => (base + k, mRc base od kA e))
def mTys (kA : Nat → ClassId) : List (ClassId × FieldType) := [(kA 0, .int), (kA 1, .long), (kA 2, .byte), (kA 3, .boolean), (kA 4, .object RX2), (kA 5, .object RX5)]
def mA (base : Nat) : Nat → Prop := fun q => base ≤ q
section R1
variable {base : Nat} {od : Nat → Nat} {kA : Nat → ClassId}
theorem mAd_lt {a : Nat} (h : a < oB) : mAd base od a = base + a := if_neg (Nat.not_le.mpr h)
theorem mAd_ge (a : Nat) : mAd base od (oB + a) = od a := by
  unfold mAd
  rw [if_pos (Nat.le_add_right _ _), Nat.add_sub_cancel_left]
theorem mWs_get {K : mH} {a : Nat} {e : mE} (h : mgt K a = some e) : (mWs base od kA K)[a]? = some (base + a, mRc base od kA e) := by
  unfold mgt at h
  simp [mWs, List.getElem?_mapIdx, h]
theorem mWs_set (K : mH) (a : Nat) (e : mE) : mWs base od kA (mpt K a e) = (mWs base od kA K).set a (base + a, mRc base od kA e) := by
  simp [mWs, mpt, List.mapIdx_set]
theorem mWs_add (K : mH) (n : Nat) (e : mE) : mWs base od kA (mad K n e) = mWs base od kA K ++ [(base + K.2.length, mRc base od kA e)] := by
  simp [mWs, mad, List.mapIdx_append]
theorem mWs_at {K : mH} {k : Nat} {q : Nat × va_E} (h : (mWs base od kA K)[k]? = some q) : q.1 = base + k ∧ k < K.2.length := by
  simp only [mWs, List.getElem?_mapIdx, Option.map_eq_some_iff] at h
  obtain ⟨e, h1, h2⟩ := h
  exact ⟨by rw [← h2], (List.getElem?_eq_some_iff.mp h1).1⟩
theorem mWs_D (K : mH) : va_D (mA base) (mWs base od kA K) := by
  refine ⟨fun i j p q hi hj hpq => ?_, fun k q hk => ?_⟩
  · have h1 := (mWs_at hi).1
    have h2 := (mWs_at hj).1
    omega
  · rw [(mWs_at hk).1]
    exact Nat.le_add_right _ _
theorem mV_cat (v : Value) : (mV base od v).category = v.category := by cases v <;> rfl
theorem mV_sum (st : List Value) : ((st.map (mV base od)).map fun v => v.category).sum = mSum st := by
  simp only [List.map_map, mSum]
  congr 1
  apply List.map_congr_left
  intro v _
  exact mV_cat v
theorem mV_narrow {t : FieldType} {v : Value} (h : narrow t v = v) : narrow t (mV base od v) = mV base od v := by
  cases v <;> first | exact h | (cases t <;> rfl)
theorem mV_fits {t : FieldType} {v : Value} (h : fits t v = true) : fits t (mV base od v) = true := by
  cases v <;> first | exact h | (cases t <;> exact h)
theorem mV_rf (r : Option Nat) : mV base od (va_rf r) = va_rf (r.map (mAd base od)) := by cases r <;> rfl
/-! the locals -/
def mLv (base : Nat) (od : Nat → Nat) (ls : List (Option Value)) : List (Nat × Value) := (List.range ls.length).filterMap (fun i => (mLd ls i).map (fun v => (i, mV base od v)))
theorem mLd_lt {ls : List (Option Value)} {i : Nat} {v : Value} (h : mLd ls i = some v) : i < ls.length := by
  unfold mLd at h
  cases hx : ls[i]? with
  | none => rw [hx] at h; cases h
  | some x => exact (List.getElem?_eq_some_iff.mp hx).1
theorem mLv_mem {ls : List (Option Value)} {i : Nat} {v : Value} (h : mLd ls i = some v) : (i, mV base od v) ∈ mLv base od ls := by
  refine List.mem_filterMap.mpr ⟨i, List.mem_range.mpr (mLd_lt h), ?_⟩
  rw [h]
  rfl
theorem mLv_of {ls : List (Option Value)} {q : Nat × Value} (h : q ∈ mLv base od ls) : ∃ v, mLd ls q.1 = some v ∧ q.2 = mV base od v := by
  obtain ⟨i, -, h2⟩ := List.mem_filterMap.mp h
  cases hv : mLd ls i with
  | none => rw [hv] at h2; cases h2
  | some v =>
    rw [hv] at h2
    cases h2
    exact ⟨v, hv, rfl⟩
theorem mLd_set (ls : List (Option Value)) (i j : Nat) (x : Option Value) : mLd (ls.set i x) j = if j = i then (if i < ls.length then x else none) else mLd ls j := by
  unfold mLd
  by_cases h : j = i
  · subst h
    rw [if_pos rfl]
    by_cases hl : j < ls.length
    · rw [if_pos hl, List.getElem?_set_self hl]
      rfl
    · rw [if_neg hl, List.getElem?_eq_none (by simp; omega)]
      rfl
  · rw [if_neg h, List.getElem?_set_ne (Ne.symm h)]
theorem mLd_clr {ls : List (Option Value)} {i j : Nat} {w : Value} (h : mLd (mClr ls i) j = some w) : mLd ls j = some w ∧ ¬ (j + 1 = i ∧ w.category = 2) := by
  cases i with
  | zero => exact ⟨h, fun q => by omega⟩
  | succ i =>
    simp only [mClr] at h
    cases hv : mLd ls i with
    | none =>
      rw [hv] at h
      refine ⟨h, fun q => ?_⟩
      have : j = i := by omega
      subst this
      rw [hv] at h
      cases h
    | some v =>
      rw [hv] at h
      simp only at h
      by_cases hc : v.category = 2
      · rw [if_pos hc, mLd_set] at h
        by_cases hj : j = i
        · rw [if_pos hj] at h
          split at h <;> cases h
        · rw [if_neg hj] at h
          exact ⟨h, fun q => hj (by omega)⟩
      · rw [if_neg hc] at h
        refine ⟨h, fun q => ?_⟩
        have : j = i := by omega
        subst this
        rw [hv] at h
        cases h
        exact hc q.2
theorem mLv_st1 {L : Array Slot} {nL i : Nat} {ls : List (Option Value)} {v : Value} (h : lv_has L nL ((i, mV base od v) :: (mLv base od ls).filter (fun q => !(q.1 == i) && !(q.1 + 1 == i && q.2.category == 2)))) : lv_has L nL (mLv base od (mSt1 ls i v)) := by
  refine ⟨h.1, h.2.1, fun q hq => h.2.2 q ?_⟩
  obtain ⟨w, h1, h2⟩ := mLv_of hq
  unfold mSt1 at h1
  rw [mLd_set] at h1
  by_cases hi : q.1 = i
  · rw [if_pos hi] at h1
    split at h1
    · cases h1
      have : q = (i, mV base od v) := Prod.ext hi h2
      rw [this]
      exact List.mem_cons_self
    · cases h1
  · rw [if_neg hi] at h1
    obtain ⟨h3, h4⟩ := mLd_clr h1
    refine List.mem_cons_of_mem _ (List.mem_filter.mpr ⟨?_, ?_⟩)
    · have := mLv_mem (base := base) (od := od) h3
      rw [← h2] at this
      exact this
    · rw [h2, mV_cat]
      simp only [Bool.and_eq_true, Bool.not_eq_true', beq_eq_false_iff_ne, ne_eq, Bool.and_eq_false_iff]
      refine ⟨hi, ?_⟩
      by_cases e : q.1 + 1 = i
      · exact Or.inr (fun z => h4 ⟨e, z⟩)
      · exact Or.inl e
theorem mLv_st2 {L : Array Slot} {nL i : Nat} {ls : List (Option Value)} {v : Value} (h : lv_has L nL ((i, mV base od v) :: (mLv base od ls).filter (fun q => !(q.1 == i) && (!(q.1 == i + 1) && !(q.1 + 1 == i && q.2.category == 2))))) : lv_has L nL (mLv base od (mSt2 ls i v)) := by
  refine ⟨h.1, h.2.1, fun q hq => h.2.2 q ?_⟩
  obtain ⟨w, h1, h2⟩ := mLv_of hq
  unfold mSt2 at h1
  rw [mLd_set] at h1
  by_cases hi1 : q.1 = i + 1
  · rw [if_pos hi1] at h1
    split at h1 <;> cases h1
  · rw [if_neg hi1, mLd_set] at h1
    by_cases hi : q.1 = i
    · rw [if_pos hi] at h1
      split at h1
      · cases h1
        have : q = (i, mV base od v) := Prod.ext hi h2
        rw [this]
        exact List.mem_cons_self
      · cases h1
    · rw [if_neg hi] at h1
      obtain ⟨h3, h4⟩ := mLd_clr h1
      refine List.mem_cons_of_mem _ (List.mem_filter.mpr ⟨?_, ?_⟩)
      · have := mLv_mem (base := base) (od := od) h3
        rw [← h2] at this
        exact this
      · rw [h2, mV_cat]
        simp only [Bool.and_eq_true, Bool.not_eq_true', beq_eq_false_iff_ne, ne_eq, Bool.and_eq_false_iff]
        refine ⟨hi, hi1, ?_⟩
        by_cases e : q.1 + 1 = i
        · exact Or.inr (fun z => h4 ⟨e, z⟩)
        · exact Or.inl e
theorem mLv_get {L : Array Slot} {nL i : Nat} {ls : List (Option Value)} {v : Value} (h : lv_has L nL (mLv base od ls)) (hv : mLd ls i = some v) : L[i]? = some (.val (mV base od v)) := h.2.2 _ (mLv_mem hv)
theorem mLd_app {a b : List (Option Value)} {i : Nat} {v : Value} (h : mLd (a ++ b) i = some v) : mLd a i = some v ∨ (a.length ≤ i ∧ mLd b (i - a.length) = some v) := by
  unfold mLd at h ⊢
  by_cases hl : i < a.length
  · rw [List.getElem?_append_left hl] at h
    exact Or.inl h
  · rw [List.getElem?_append_right (by omega)] at h
    exact Or.inr ⟨by omega, h⟩
theorem mLd_rep {n i : Nat} {v : Value} (h : mLd (List.replicate n none) i = some v) : False := by
  unfold mLd at h
  rw [List.getElem?_replicate] at h
  split at h <;> cases h
theorem mArg_mem : ∀ (vs : List Value) (k i : Nat) (v : Value), mLd (mArg vs) i = some v → (k + i, mV base od v) ∈ lv_args k (vs.map (mV base od))
  | [], k, i, v, h => by simp [mArg, mLd] at h
  | w :: vs, k, i, v, h => by
    have e : mArg (w :: vs) = (if w.category = 2 then [some w, none] else [some w]) ++ mArg vs := rfl
    rw [e] at h
    show _ ∈ (k, mV base od w) :: lv_args (if (mV base od w).category = 2 then k + 2 else k + 1) (vs.map (mV base od))
    rw [mV_cat]
    by_cases hc : w.category = 2
    · rw [if_pos hc] at h ⊢
      match i, h with
      | 0, h =>
        cases h
        exact List.mem_cons_self
      | 1, h => cases h
      | i + 2, h =>
        have h' : mLd (mArg vs) i = some v := h
        have := mArg_mem vs (k + 2) i v h'
        rw [show k + (i + 2) = k + 2 + i by omega]
        exact List.mem_cons_of_mem _ this
    · rw [if_neg hc] at h ⊢
      match i, h with
      | 0, h =>
        cases h
        exact List.mem_cons_self
      | i + 1, h =>
        have h' : mLd (mArg vs) i = some v := h
        have := mArg_mem vs (k + 1) i v h'
        rw [show k + (i + 1) = k + 1 + i by omega]
        exact List.mem_cons_of_mem _ this
theorem mEnt_has {L : Array Slot} {nL : Nat} {vs : List Value} (h : lv_has L nL (lv_args 0 (vs.map (mV base od)))) : lv_has L nL (mLv base od (mEnt vs nL)) := by
  refine ⟨h.1, h.2.1, fun q hq => h.2.2 q ?_⟩
  obtain ⟨v, h1, h2⟩ := mLv_of hq
  unfold mEnt at h1
  rcases mLd_app h1 with h3 | ⟨-, h3⟩
  · have := mArg_mem (base := base) (od := od) vs 0 q.1 v h3
    rw [Nat.zero_add, ← h2] at this
    exact this
  · exact absurd h3 (fun z => mLd_rep z)
theorem mEnt_len (vs : List Value) : (lg_sl (vs.map (mV base od))).length = (mArg vs).length := by
  induction vs with
  | nil => rfl
  | cons v vs ih =>
    have e1 : mArg (v :: vs) = (if v.category = 2 then [some v, none] else [some v]) ++ mArg vs := rfl
    have e2 : lg_sl ((v :: vs).map (mV base od)) = (if (mV base od v).category = 2 then [.val (mV base od v), .second] else [.val (mV base od v)]) ++ lg_sl (vs.map (mV base od)) := rfl
    rw [e1, e2, mV_cat, List.length_append, List.length_append, ih]
    split <;> rfl
end R1
/-! the tables: what a search finds stands there -/
theorem mName_eq {z y : MethodName} (h : z.name = y.name ∧ z.desc = y.desc ∧ z.cls = y.cls) : z = y := by
  cases z
  cases y
  simp only [MethodName.mk.injEq] at h ⊢
  exact ⟨h.2.2, h.1, h.2.1⟩
theorem mHasI_in {y : MethodName} (h : mHasI y = true) : Cond.instanceMethod y ∈ lw_tbl := by
  obtain ⟨c, h1, h2⟩ := List.any_eq_true.mp h
  split at h2
  · rw [mName_eq (of_decide_eq_true h2)] at h1
    exact h1
  · cases h2
theorem mHasS_in {y : MethodName} (h : mHasS y = true) : Cond.static y ∈ lw_tbl := by
  obtain ⟨c, h1, h2⟩ := List.any_eq_true.mp h
  split at h2
  · rw [mName_eq (of_decide_eq_true h2)] at h1
    exact h1
  · cases h2
theorem mHasV_in {y : MethodName} (h : mHasV y = true) : Cond.selects y.cls y y ∈ lw_tbl := by
  obtain ⟨c, h1, h2⟩ := List.any_eq_true.mp h
  split at h2
  · obtain ⟨g1, g2, g3, g4, g5, g6, g7⟩ := of_decide_eq_true h2
    rw [mName_eq ⟨g1, g2, g3⟩, mName_eq ⟨g4, g5, g6⟩, g7] at h1
    exact h1
  · cases h2
theorem mHasN_in {C : String} (h : mHasN C = true) : Cond.initialized C ∈ lw_tbl := by
  obtain ⟨c, h1, h2⟩ := List.any_eq_true.mp h
  split at h2
  · rw [of_decide_eq_true h2] at h1
    exact h1
  · cases h2
theorem mCode_in {y : MethodName} {b : ByteArray} {n : Nat} {r : Option FieldType} (h : mCode y = some (b, n, r)) : Cond.code y b n r ∈ lw_tbl := by
  obtain ⟨c, h1, h2⟩ := List.exists_of_findSome?_eq_some h
  split at h2
  · split at h2
    · rename_i hz
      cases h2
      rw [← mName_eq hz]
      exact h1
    · cases h2
  · cases h2
theorem mFldS_in {own : String} {i : Nat} {q : String × String × String} (h : mFldS own i = some q) : Cond.fieldLink own i q.1 q.2.1 q.2.2 ∈ lw_tbl := by
  obtain ⟨c, h1, h2⟩ := List.exists_of_findSome?_eq_some h
  split at h2
  · split at h2
    · rename_i hz
      cases h2
      rw [← hz.1, ← hz.2]
      exact h1
    · cases h2
  · cases h2
theorem mSlot_in {q : String × String × String} {ci k : Nat} (h : mSlot q = some (ci, k)) : ∃ r : vw_C, mCls[ci]? = some r ∧ k < r.2.2 ∧ (r.2.1 k).1 = q.1 ∧ (r.2.1 k).2.1 = q.2.1 ∧ (r.2.1 k).2.2.1 = q.2.2 := by
  obtain ⟨c, h1, h2⟩ := List.exists_of_findSome?_eq_some h
  split at h2
  · rename_i r hr
    obtain ⟨k', h3, h4⟩ := List.exists_of_findSome?_eq_some h2
    split at h4
    · rename_i hz
      cases h4
      exact ⟨r, hr, List.mem_range.mp h3, hz⟩
    · cases h4
  · cases h2
theorem mFld_in {own : String} {i ci k : Nat} (h : mFld own i = some (ci, k)) : ∃ r : vw_C, mCls[ci]? = some r ∧ k < r.2.2 ∧ Cond.fieldLink own i (r.2.1 k).1 (r.2.1 k).2.1 (r.2.1 k).2.2.1 ∈ lw_tbl := by
  unfold mFld at h
  obtain ⟨q, h1, h2⟩ := Option.bind_eq_some_iff.mp h
  obtain ⟨r, h3, h4, h5, h6, h7⟩ := mSlot_in h2
  refine ⟨r, h3, h4, ?_⟩
  rw [h5, h6, h7]
  exact mFldS_in h1
theorem mNewC_in {own : String} {i : Nat} {C : String} (h : mNewC own i = some C) : Cond.classLink own i C ∈ lw_tbl := by
  obtain ⟨c, h1, h2⟩ := List.exists_of_findSome?_eq_some h
  split at h2
  · split at h2
    · rename_i hz
      cases h2
      rw [← hz.1, ← hz.2]
      exact h1
    · cases h2
  · cases h2
theorem mNew_in {own : String} {i ci n : Nat} (h : mNew own i = some (ci, n)) : ∃ r : vw_C, mCls[ci]? = some r ∧ r.2.2 = n ∧ Cond.classLink own i r.1 ∈ lw_tbl := by
  unfold mNew at h
  obtain ⟨C, h1, h2⟩ := Option.bind_eq_some_iff.mp h
  obtain ⟨c, h3, h4⟩ := List.exists_of_findSome?_eq_some h2
  split at h4
  · rename_i r hr
    split at h4
    · rename_i hz
      cases h4
      exact ⟨r, hr, rfl, by rw [hz]; exact mNewC_in h1⟩
    · cases h4
  · cases h4
theorem mInt_in {own : String} {i : Nat} {v : Int32} (h : mInt own i = some v) : Cond.constant own i v ∈ lw_tbl := by
  obtain ⟨c, h1, h2⟩ := List.exists_of_findSome?_eq_some h
  split at h2
  · split at h2
    · rename_i hz
      cases h2
      rw [← hz.1, ← hz.2]
      exact h1
    · cases h2
  · cases h2
theorem mLong_in {own : String} {i : Nat} {v : Int64} (h : mLong own i = some v) : Cond.constantLong own i v ∈ lw_tbl := by
  obtain ⟨c, h1, h2⟩ := List.exists_of_findSome?_eq_some h
  split at h2
  · split at h2
    · rename_i hz
      cases h2
      rw [← hz.1, ← hz.2]
      exact h1
    · cases h2
  · cases h2
theorem mStr_in {own : String} {i : Nat} (h : mStr own i = true) : ∃ tx, Cond.stringRef own i tx ∈ lw_tbl := by
  obtain ⟨c, h1, h2⟩ := List.any_eq_true.mp h
  split at h2
  · rename_i o j tx
    have hz := of_decide_eq_true h2
    rw [hz.2, hz.1] at h1
    exact ⟨tx, h1⟩
  · cases h2
theorem mLnk_in {own : String} {i : Nat} {y : MethodName} (h : mLnk own i = some (y, none)) : Cond.methodLink own i y ∈ lw_tbl := by
  obtain ⟨c, h1, h2⟩ := List.exists_of_findSome?_eq_some h
  split at h2
  · split at h2
    · rename_i hz
      cases h2
      rw [← hz.1, ← hz.2]
      exact h1
    · cases h2
  · split at h2 <;> cases h2
  · cases h2
theorem mLnk_inN {own host : String} {i : Nat} {y : MethodName} (h : mLnk own i = some (y, some host)) : Cond.methodLinkNest own i y host ∈ lw_tbl := by
  obtain ⟨c, h1, h2⟩ := List.exists_of_findSome?_eq_some h
  split at h2
  · split at h2 <;> cases h2
  · split at h2
    · rename_i hz
      cases h2
      rw [← hz.1, ← hz.2]
      exact h1
    · cases h2
  · cases h2
theorem mStaS_in {own : String} {i : Nat} {q : String × String × String} (h : mStaS own i = some (q, none)) : Cond.fieldLink own i q.1 q.2.1 q.2.2 ∈ lw_tbl := by
  obtain ⟨c, h1, h2⟩ := List.exists_of_findSome?_eq_some h
  split at h2
  · split at h2
    · rename_i hz
      cases h2
      rw [← hz.1, ← hz.2]
      exact h1
    · cases h2
  · split at h2 <;> cases h2
  · cases h2
theorem mStaS_inN {own host : String} {i : Nat} {q : String × String × String} (h : mStaS own i = some (q, some host)) : Cond.fieldLinkNest own i q.1 q.2.1 q.2.2 host ∈ lw_tbl := by
  obtain ⟨c, h1, h2⟩ := List.exists_of_findSome?_eq_some h
  split at h2
  · split at h2 <;> cases h2
  · split at h2
    · rename_i hz
      cases h2
      rw [← hz.1, ← hz.2]
      exact h1
    · cases h2
  · cases h2
theorem mStatO_in {q : String × String × String} {o : Nat} (h : mStatO q = some o) : (q.1, q.2.1, q.2.2, o) ∈ mStat := by
  obtain ⟨c, h1, h2⟩ := List.exists_of_findSome?_eq_some h
  split at h2
  · rename_i hz
    cases h2
    rw [← hz.1, ← hz.2.1, ← hz.2.2]
    exact h1
  · cases h2
