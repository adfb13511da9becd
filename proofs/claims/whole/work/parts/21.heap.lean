/-! heaps by numbers: T what a cell is, I its ints, J its longs, R its references; an address and a place in it -/
abbrev mT : Type := Nat × List Nat
def celV (k kd : Nat) (i : Nat → Int32) (j : Nat → Int64) (r : Nat → Option Nat) : Value := if kd = 0 then .int (i k) else if kd = 1 then .long (j k) else va_rf (r k)
def cel (t : mT) (i : Nat → Int32) (j : Nat → Int64) (r : Nat → Option Nat) : mE :=
  if t.1 = 0 ∨ t.1 = 2 ∨ t.1 = 3 then .inl (t.1, t.2.headD 0, .inl i)
  else if t.1 = 1 then .inl (1, t.2.headD 0, .inr (.inl j))
  else if t.1 = 4 ∨ t.1 = 5 then .inl (t.1, t.2.headD 0, .inr (.inr (.inr (.inr r))))
  else .inr (t.1 - 100, t.2.mapIdx (fun k kd => celV k kd i j r))
theorem cel_o (ci : Nat) (ks : List Nat) (i : Nat → Int32) (j : Nat → Int64) (r : Nat → Option Nat) : cel (100 + ci, ks) i j r = .inr (ci, ks.mapIdx (fun k kd => celV k kd i j r)) := by
  unfold cel
  rw [if_neg (by show ¬ (100 + ci = 0 ∨ _ ∨ _); omega), if_neg (by show ¬ (100 + ci = 1); omega), if_neg (by show ¬ (100 + ci = 4 ∨ _); omega)]
  show Sum.inr (100 + ci - 100, _) = _
  rw [Nat.add_sub_cancel_left]
def up2 {α : Type} (F : Nat → Nat → α) (a k : Nat) (x : α) : Nat → Nat → α := fun b j => if b = a ∧ j = k then x else F b j
def up1 {α : Type} (F : Nat → Nat → α) (a : Nat) (g : Nat → α) : Nat → Nat → α := fun b => if b = a then g else F b
theorem up2_at {α : Type} (F : Nat → Nat → α) (a k : Nat) (x : α) : up2 F a k x a k = x := if_pos ⟨rfl, rfl⟩
theorem up2_na {α : Type} {F : Nat → Nat → α} {a k b j : Nat} {x : α} (h : b ≠ a) : up2 F a k x b j = F b j := if_neg (fun z => h z.1)
theorem up2_nk {α : Type} {F : Nat → Nat → α} {a k b j : Nat} {x : α} (h : j ≠ k) : up2 F a k x b j = F b j := if_neg (fun z => h z.2)
theorem up2_row {α : Type} (F : Nat → Nat → α) (a k : Nat) (x : α) : up2 F a k x a = fun j => if j = k then x else F a j := by
  funext j
  simp [up2]
theorem up2_off {α : Type} (F : Nat → Nat → α) {a b : Nat} (k : Nat) (x : α) (h : b ≠ a) : up2 F a k x b = F b := by
  funext j
  simp [up2, h]
def hp (u n : Nat) (T : Nat → mT) (I : Nat → Nat → Int32) (J : Nat → Nat → Int64) (R : Nat → Nat → Option Nat) : mH := (u, (List.range n).map (fun a => cel (T a) (I a) (J a) (R a)))
section HP
variable {u n : Nat} {T : Nat → mT} {I : Nat → Nat → Int32} {J : Nat → Nat → Int64} {R : Nat → Nat → Option Nat}
theorem hp_len : (hp u n T I J R).2.length = n := by simp [hp]
theorem hp_get {a : Nat} (h : a < n) : mgt (hp u n T I J R) a = some (cel (T a) (I a) (J a) (R a)) := by
  simp [mgt, hp, h]
theorem hp_up {a : Nat} {e : mE} {I' : Nat → Nat → Int32} {J' : Nat → Nat → Int64} {R' : Nat → Nat → Option Nat} (h1 : cel (T a) (I' a) (J' a) (R' a) = e) (h2 : ∀ b, b ≠ a → I' b = I b ∧ J' b = J b ∧ R' b = R b) : mpt (hp u n T I J R) a e = hp u n T I' J' R' := by
  unfold mpt hp
  refine Prod.ext rfl ?_
  show List.set _ a e = _
  apply List.ext_getElem?
  intro k
  by_cases hk : k = a
  · subst hk
    by_cases hl : k < n
    · rw [List.getElem?_set_self (by simp; exact hl)]
      simp [hl, h1]
    · rw [List.getElem?_eq_none (by simp; omega), List.getElem?_eq_none (by simp; omega)]
  · rw [List.getElem?_set_ne (Ne.symm hk)]
    obtain ⟨g1, g2, g3⟩ := h2 k hk
    rw [List.getElem?_map, List.getElem?_map]
    by_cases hl : k < n
    · rw [List.getElem?_range hl]
      simp [g1, g2, g3]
    · rw [List.getElem?_eq_none (by simp; omega)]
      rfl
theorem hp_add {m : Nat} {t : mT} {i : Nat → Int32} {j : Nat → Int64} {r : Nat → Option Nat} {e : mE} (he : cel t i j r = e) : mad (hp u n T I J R) m e = hp (u + m) (n + 1) (va_up T n t) (up1 I n i) (up1 J n j) (up1 R n r) := by
  unfold mad hp
  refine Prod.ext rfl ?_
  show _ ++ [e] = _
  rw [List.range_succ, List.map_append]
  congr 1
  · apply List.map_congr_left
    intro a ha
    have h := List.mem_range.mp ha
    have hne : ¬ a = n := by omega
    simp [va_up, up1, hne]
  · simp [va_up, up1, he]
theorem celV_setI {ks : List Nat} {sl : Nat} {i : Nat → Int32} {j : Nat → Int64} {r : Nat → Option Nat} (x : Int32) (hk : ks[sl]? = some 0) : (ks.mapIdx (fun k kd => celV k kd i j r)).set sl (.int x) = ks.mapIdx (fun k kd => celV k kd (fun q => if q = sl then x else i q) j r) := by
  apply List.ext_getElem?
  intro k
  by_cases h : k = sl
  · subst h
    have hl := (List.getElem?_eq_some_iff.mp hk).1
    rw [List.getElem?_set_self (by simp; exact hl), List.getElem?_mapIdx, hk]
    simp [celV]
  · rw [List.getElem?_set_ne (Ne.symm h), List.getElem?_mapIdx, List.getElem?_mapIdx]
    cases ks[k]? with
    | none => rfl
    | some kd => simp [celV, h]
theorem celV_setJ {ks : List Nat} {sl : Nat} {i : Nat → Int32} {j : Nat → Int64} {r : Nat → Option Nat} (x : Int64) (hk : ks[sl]? = some 1) : (ks.mapIdx (fun k kd => celV k kd i j r)).set sl (.long x) = ks.mapIdx (fun k kd => celV k kd i (fun q => if q = sl then x else j q) r) := by
  apply List.ext_getElem?
  intro k
  by_cases h : k = sl
  · subst h
    have hl := (List.getElem?_eq_some_iff.mp hk).1
    rw [List.getElem?_set_self (by simp; exact hl), List.getElem?_mapIdx, hk]
    simp [celV]
  · rw [List.getElem?_set_ne (Ne.symm h), List.getElem?_mapIdx, List.getElem?_mapIdx]
    cases ks[k]? with
    | none => rfl
    | some kd => simp [celV, h]
theorem celV_setR {ks : List Nat} {sl : Nat} {i : Nat → Int32} {j : Nat → Int64} {r : Nat → Option Nat} (x : Option Nat) (hk : ks[sl]? = some 2) : (ks.mapIdx (fun k kd => celV k kd i j r)).set sl (va_rf x) = ks.mapIdx (fun k kd => celV k kd i j (fun q => if q = sl then x else r q)) := by
  apply List.ext_getElem?
  intro k
  by_cases h : k = sl
  · subst h
    have hl := (List.getElem?_eq_some_iff.mp hk).1
    rw [List.getElem?_set_self (by simp; exact hl), List.getElem?_mapIdx, hk]
    simp [celV]
  · rw [List.getElem?_set_ne (Ne.symm h), List.getElem?_mapIdx, List.getElem?_mapIdx]
    cases ks[k]? with
    | none => rfl
    | some kd => simp [celV, h]
end HP
section ROWS
variable {O : mO} {d : Nat} {M : mM} {pc : Nat} {ls : List (Option Value)} {st : List Value} {P : Option Value → mH → Prop} {u n : Nat} {T : Nat → mT} {I : Nat → Nat → Int32} {J : Nat → Nat → Int64} {R : Nat → Nat → Option Nat} {a ci sl k : Nat} {ks : List Nat}
theorem s_get {v : Value} (hf : mFld M.1.cls k = some (ci, sl)) (hT : T a = (100 + ci, ks)) (hv : (ks.mapIdx (fun q kd => celV q kd (I a) (J a) (R a)))[sl]? = some v) (ha : a < n) (hn : n ≤ oB) : mStep O M.1 M.2.2.1 pc ls (.ref a :: st) (hp u n T I J R) (.getfield k) 3 = some (pc + 3, ls, v :: st, hp u n T I J R) := by
  delta mStep
  dsimp only
  rw [hf, hp_get ha, hT, cel_o]
  dsimp only
  rw [hv]
  dsimp only
  rw [if_pos ⟨rfl, Nat.lt_of_lt_of_le ha hn, rfl⟩]
theorem g_getI (hd : decode M.2.1 pc = .ok (.getfield k, 3)) (hf : mFld M.1.cls k = some (ci, sl)) (hT : T a = (100 + ci, ks)) (hk : ks[sl]? = some 0) (ha : a < n) (hn : n ≤ oB) (kk : Go O d M (pc + 3) ls (.int (I a sl) :: st) (hp u n T I J R) P) : Go O d M pc ls (.ref a :: st) (hp u n T I J R) P :=
  g_s hd (s_get hf hT (by rw [List.getElem?_mapIdx, hk]; rfl) ha hn) kk
theorem g_getJ (hd : decode M.2.1 pc = .ok (.getfield k, 3)) (hf : mFld M.1.cls k = some (ci, sl)) (hT : T a = (100 + ci, ks)) (hk : ks[sl]? = some 1) (ha : a < n) (hn : n ≤ oB) (kk : Go O d M (pc + 3) ls (.long (J a sl) :: st) (hp u n T I J R) P) : Go O d M pc ls (.ref a :: st) (hp u n T I J R) P :=
  g_s hd (s_get hf hT (by rw [List.getElem?_mapIdx, hk]; rfl) ha hn) kk
theorem g_getR {q : Nat} (hd : decode M.2.1 pc = .ok (.getfield k, 3)) (hf : mFld M.1.cls k = some (ci, sl)) (hT : T a = (100 + ci, ks)) (hk : ks[sl]? = some 2) (hr : R a sl = some q) (ha : a < n) (hn : n ≤ oB) (kk : Go O d M (pc + 3) ls (.ref q :: st) (hp u n T I J R) P) : Go O d M pc ls (.ref a :: st) (hp u n T I J R) P :=
  g_s hd (s_get hf hT (by rw [List.getElem?_mapIdx, hk]; show some (va_rf (R a sl)) = _; rw [hr]; rfl) ha hn) kk
theorem s_put {c : vw_C} {v : Value} (hf : mFld M.1.cls k = some (ci, sl)) (hT : T a = (100 + ci, ks)) (hl : sl < ks.length) (hc : mCls[ci]? = some c) (hn1 : narrow (mTy ci sl) v = v) (hn2 : fits (mTy ci sl) v = true) (hfin : (c.2.1 sl).2.2.2 = true → M.1.name = "<init>" ∧ (c.2.1 sl).1 = M.1.cls) (ha : a < n) (hn : n ≤ oB) :
    mStep O M.1 M.2.2.1 pc ls (v :: .ref a :: st) (hp u n T I J R) (.putfield k) 3 = some (pc + 3, ls, st, mpt (hp u n T I J R) a (.inr (ci, (ks.mapIdx (fun q kd => celV q kd (I a) (J a) (R a))).set sl v))) := by
  delta mStep
  dsimp only
  rw [hf, hp_get ha, hT, cel_o]
  dsimp only
  rw [hc]
  dsimp only
  rw [if_pos ⟨rfl, Nat.lt_of_lt_of_le ha hn, rfl, by simpa using hl, hn1, hn2, hfin⟩]
theorem g_putI {c : vw_C} {x : Int32} (hd : decode M.2.1 pc = .ok (.putfield k, 3)) (hf : mFld M.1.cls k = some (ci, sl)) (hT : T a = (100 + ci, ks)) (hk : ks[sl]? = some 0) (hc : mCls[ci]? = some c) (hn1 : narrow (mTy ci sl) (.int x) = .int x) (hn2 : fits (mTy ci sl) (.int x) = true) (hfin : (c.2.1 sl).2.2.2 = true → M.1.name = "<init>" ∧ (c.2.1 sl).1 = M.1.cls) (ha : a < n) (hn : n ≤ oB)
    (kk : Go O d M (pc + 3) ls st (hp u n T (up2 I a sl x) J R) P) : Go O d M pc ls (.int x :: .ref a :: st) (hp u n T I J R) P := by
  refine g_s hd (s_put hf hT (List.getElem?_eq_some_iff.mp hk).1 hc hn1 hn2 hfin ha hn) ?_
  rw [hp_up (I' := up2 I a sl x) (J' := J) (R' := R) (by rw [hT, cel_o, up2_row, celV_setI x hk]) (fun b hb => ⟨up2_off I sl x hb, rfl, rfl⟩)]
  exact kk
theorem g_putJ {c : vw_C} {x : Int64} (hd : decode M.2.1 pc = .ok (.putfield k, 3)) (hf : mFld M.1.cls k = some (ci, sl)) (hT : T a = (100 + ci, ks)) (hk : ks[sl]? = some 1) (hc : mCls[ci]? = some c) (hn1 : narrow (mTy ci sl) (.long x) = .long x) (hn2 : fits (mTy ci sl) (.long x) = true) (hfin : (c.2.1 sl).2.2.2 = true → M.1.name = "<init>" ∧ (c.2.1 sl).1 = M.1.cls) (ha : a < n) (hn : n ≤ oB)
    (kk : Go O d M (pc + 3) ls st (hp u n T I (up2 J a sl x) R) P) : Go O d M pc ls (.long x :: .ref a :: st) (hp u n T I J R) P := by
  refine g_s hd (s_put hf hT (List.getElem?_eq_some_iff.mp hk).1 hc hn1 hn2 hfin ha hn) ?_
  rw [hp_up (I' := I) (J' := up2 J a sl x) (R' := R) (by rw [hT, cel_o, up2_row, celV_setJ x hk]) (fun b hb => ⟨rfl, up2_off J sl x hb, rfl⟩)]
  exact kk
theorem g_putR {c : vw_C} {x : Option Nat} {v : Value} (hv : v = va_rf x) (hd : decode M.2.1 pc = .ok (.putfield k, 3)) (hf : mFld M.1.cls k = some (ci, sl)) (hT : T a = (100 + ci, ks)) (hk : ks[sl]? = some 2) (hc : mCls[ci]? = some c) (hn1 : narrow (mTy ci sl) v = v) (hn2 : fits (mTy ci sl) v = true) (hfin : (c.2.1 sl).2.2.2 = true → M.1.name = "<init>" ∧ (c.2.1 sl).1 = M.1.cls) (ha : a < n) (hn : n ≤ oB)
    (kk : Go O d M (pc + 3) ls st (hp u n T I J (up2 R a sl x)) P) : Go O d M pc ls (v :: .ref a :: st) (hp u n T I J R) P := by
  refine g_s hd (s_put hf hT (List.getElem?_eq_some_iff.mp hk).1 hc hn1 hn2 hfin ha hn) ?_
  rw [hv, hp_up (I' := I) (J' := J) (R' := up2 R a sl x) (by rw [hT, cel_o, up2_row, celV_setR x hk]) (fun b hb => ⟨rfl, rfl, up2_off R sl x hb⟩)]
  exact kk
theorem mIdx_nI {i : Int32} {j len : Nat} (hi : i = nI j) (hj : j < len) (hl : len < 2 ^ 31) : mIdx i len = true ∧ i.toNatClampNeg = j := by
  subst hi
  refine ⟨?_, nI_clamp (by omega)⟩
  unfold mIdx
  exact decide_eq_true (nI_in hj hl)
theorem mAr_hp (ha : a < n) (hn : n ≤ oB) {x : Nat × vp_A} (hx : cel (T a) (I a) (J a) (R a) = .inl x) : mAr O (hp u n T I J R) a = some x := by
  unfold mAr
  rw [if_neg (Nat.not_le.mpr (Nat.lt_of_lt_of_le ha hn)), hp_get ha, hx]
theorem g_iald {i : Int32} {j len : Nat} (hd : decode M.2.1 pc = .ok (.iaload, 1)) (hT : T a = (0, [len])) (hi : i = nI j) (hj : j < len) (hl : len < 2 ^ 31) (ha : a < n) (hn : n ≤ oB) (kk : Go O d M (pc + 1) ls (.int (I a j) :: st) (hp u n T I J R) P) : Go O d M pc ls (.int i :: .ref a :: st) (hp u n T I J R) P := by
  refine g_s hd ?_ kk
  delta mStep
  dsimp only
  rw [mAr_hp (x := (0, len, .inl (I a))) ha hn (by rw [hT]; rfl)]
  show (if 1 = 1 ∧ mIdx i len = true then _ else none) = _
  rw [if_pos ⟨rfl, (mIdx_nI hi hj hl).1⟩, (mIdx_nI hi hj hl).2]
theorem g_bald {i : Int32} {j len : Nat} (hd : decode M.2.1 pc = .ok (.baload, 1)) (hT : T a = (2, [len])) (hi : i = nI j) (hj : j < len) (hl : len < 2 ^ 31) (ha : a < n) (hn : n ≤ oB) (kk : Go O d M (pc + 1) ls (.int (I a j) :: st) (hp u n T I J R) P) : Go O d M pc ls (.int i :: .ref a :: st) (hp u n T I J R) P := by
  refine g_s hd ?_ kk
  delta mStep
  dsimp only
  rw [mAr_hp (x := (2, len, .inl (I a))) ha hn (by rw [hT]; rfl)]
  show (if 1 = 1 ∧ mIdx i len = true then _ else none) = _
  rw [if_pos ⟨rfl, (mIdx_nI hi hj hl).1⟩, (mIdx_nI hi hj hl).2]
theorem g_zald {i : Int32} {j len : Nat} (hd : decode M.2.1 pc = .ok (.baload, 1)) (hT : T a = (3, [len])) (hi : i = nI j) (hj : j < len) (hl : len < 2 ^ 31) (ha : a < n) (hn : n ≤ oB) (kk : Go O d M (pc + 1) ls (.int (I a j) :: st) (hp u n T I J R) P) : Go O d M pc ls (.int i :: .ref a :: st) (hp u n T I J R) P := by
  refine g_s hd ?_ kk
  delta mStep
  dsimp only
  rw [mAr_hp (x := (3, len, .inl (I a))) ha hn (by rw [hT]; rfl)]
  show (if 1 = 1 ∧ mIdx i len = true then _ else none) = _
  rw [if_pos ⟨rfl, (mIdx_nI hi hj hl).1⟩, (mIdx_nI hi hj hl).2]
theorem g_lald {i : Int32} {j len : Nat} (hd : decode M.2.1 pc = .ok (.laload, 1)) (hT : T a = (1, [len])) (hi : i = nI j) (hj : j < len) (hl : len < 2 ^ 31) (ha : a < n) (hn : n ≤ oB) (kk : Go O d M (pc + 1) ls (.long (J a j) :: st) (hp u n T I J R) P) : Go O d M pc ls (.int i :: .ref a :: st) (hp u n T I J R) P := by
  refine g_s hd ?_ kk
  delta mStep
  dsimp only
  rw [mAr_hp (x := (1, len, .inr (.inl (J a)))) ha hn (by rw [hT]; rfl)]
  show (if 1 = 1 ∧ mIdx i len = true then _ else none) = _
  rw [if_pos ⟨rfl, (mIdx_nI hi hj hl).1⟩, (mIdx_nI hi hj hl).2]
theorem g_aald {i : Int32} {j len t : Nat} (ht : t = 4 ∨ t = 5) (hd : decode M.2.1 pc = .ok (.aaload, 1)) (hT : T a = (t, [len])) (hi : i = nI j) (hj : j < len) (hl : len < 2 ^ 31) (ha : a < n) (hn : n ≤ oB) (kk : Go O d M (pc + 1) ls (va_rf (R a j) :: st) (hp u n T I J R) P) : Go O d M pc ls (.int i :: .ref a :: st) (hp u n T I J R) P := by
  refine g_s hd ?_ kk
  delta mStep
  dsimp only
  rw [mAr_hp (x := (t, len, .inr (.inr (.inr (.inr (R a)))))) ha hn (by rw [hT]; rcases ht with rfl | rfl <;> rfl)]
  dsimp only
  rw [if_pos ⟨rfl, ht, (mIdx_nI hi hj hl).1⟩, (mIdx_nI hi hj hl).2]
theorem g_iast {i v : Int32} {j len : Nat} (hd : decode M.2.1 pc = .ok (.iastore, 1)) (hT : T a = (0, [len])) (hi : i = nI j) (hj : j < len) (hl : len < 2 ^ 31) (ha : a < n) (hn : n ≤ oB) (kk : Go O d M (pc + 1) ls st (hp u n T (up2 I a j v) J R) P) : Go O d M pc ls (.int v :: .int i :: .ref a :: st) (hp u n T I J R) P := by
  refine g_s (pc' := pc + 1) (ls' := ls) (st' := st) (K' := mpt (hp u n T I J R) a (.inl (0, len, .inl (upd (I a) j v)))) hd ?_ ?_
  · delta mStep
    dsimp only
    rw [hp_get ha, hT, show cel (0, [len]) (I a) (J a) (R a) = .inl (0, len, .inl (I a)) from rfl]
    show (if 1 = 1 ∧ a < oB ∧ mIdx i len = true then _ else none) = _
    rw [if_pos ⟨rfl, Nat.lt_of_lt_of_le ha hn, (mIdx_nI hi hj hl).1⟩, (mIdx_nI hi hj hl).2]
  · rw [hp_up (I' := up2 I a j v) (J' := J) (R' := R) (by rw [hT, up2_row]; rfl) (fun b hb => ⟨up2_off I j v hb, rfl, rfl⟩)]
    exact kk
theorem g_bast {i v : Int32} {j len : Nat} (hd : decode M.2.1 pc = .ok (.bastore, 1)) (hT : T a = (2, [len])) (hi : i = nI j) (hj : j < len) (hl : len < 2 ^ 31) (ha : a < n) (hn : n ≤ oB) (kk : Go O d M (pc + 1) ls st (hp u n T (up2 I a j (vp_nar .byte v)) J R) P) : Go O d M pc ls (.int v :: .int i :: .ref a :: st) (hp u n T I J R) P := by
  refine g_s (pc' := pc + 1) (ls' := ls) (st' := st) (K' := mpt (hp u n T I J R) a (.inl (2, len, .inl (upd (I a) j (vp_nar .byte v))))) hd ?_ ?_
  · delta mStep
    dsimp only
    rw [hp_get ha, hT, show cel (2, [len]) (I a) (J a) (R a) = .inl (2, len, .inl (I a)) from rfl]
    show (if 1 = 1 ∧ a < oB ∧ mIdx i len = true then _ else none) = _
    rw [if_pos ⟨rfl, Nat.lt_of_lt_of_le ha hn, (mIdx_nI hi hj hl).1⟩, (mIdx_nI hi hj hl).2]
  · rw [hp_up (I' := up2 I a j (vp_nar .byte v)) (J' := J) (R' := R) (by rw [hT, up2_row]; rfl) (fun b hb => ⟨up2_off I j _ hb, rfl, rfl⟩)]
    exact kk
theorem g_zast {i v : Int32} {j len : Nat} (hd : decode M.2.1 pc = .ok (.bastore, 1)) (hT : T a = (3, [len])) (hi : i = nI j) (hj : j < len) (hl : len < 2 ^ 31) (ha : a < n) (hn : n ≤ oB) (kk : Go O d M (pc + 1) ls st (hp u n T (up2 I a j (vp_nar .boolean v)) J R) P) : Go O d M pc ls (.int v :: .int i :: .ref a :: st) (hp u n T I J R) P := by
  refine g_s (pc' := pc + 1) (ls' := ls) (st' := st) (K' := mpt (hp u n T I J R) a (.inl (3, len, .inl (upd (I a) j (vp_nar .boolean v))))) hd ?_ ?_
  · delta mStep
    dsimp only
    rw [hp_get ha, hT, show cel (3, [len]) (I a) (J a) (R a) = .inl (3, len, .inl (I a)) from rfl]
    show (if 1 = 1 ∧ a < oB ∧ mIdx i len = true then _ else none) = _
    rw [if_pos ⟨rfl, Nat.lt_of_lt_of_le ha hn, (mIdx_nI hi hj hl).1⟩, (mIdx_nI hi hj hl).2]
  · rw [hp_up (I' := up2 I a j (vp_nar .boolean v)) (J' := J) (R' := R) (by rw [hT, up2_row]; rfl) (fun b hb => ⟨up2_off I j _ hb, rfl, rfl⟩)]
    exact kk
theorem g_last {i : Int32} {v : Int64} {j len : Nat} (hd : decode M.2.1 pc = .ok (.lastore, 1)) (hT : T a = (1, [len])) (hi : i = nI j) (hj : j < len) (hl : len < 2 ^ 31) (ha : a < n) (hn : n ≤ oB) (kk : Go O d M (pc + 1) ls st (hp u n T I (up2 J a j v) R) P) : Go O d M pc ls (.long v :: .int i :: .ref a :: st) (hp u n T I J R) P := by
  refine g_s (pc' := pc + 1) (ls' := ls) (st' := st) (K' := mpt (hp u n T I J R) a (.inl (1, len, .inr (.inl (vp_updL (J a) j v))))) hd ?_ ?_
  · delta mStep
    dsimp only
    rw [hp_get ha, hT, show cel (1, [len]) (I a) (J a) (R a) = .inl (1, len, .inr (.inl (J a))) from rfl]
    show (if 1 = 1 ∧ a < oB ∧ mIdx i len = true then _ else none) = _
    rw [if_pos ⟨rfl, Nat.lt_of_lt_of_le ha hn, (mIdx_nI hi hj hl).1⟩, (mIdx_nI hi hj hl).2]
  · rw [hp_up (I' := I) (J' := up2 J a j v) (R' := R) (by rw [hT, up2_row]; rfl) (fun b hb => ⟨rfl, up2_off J j v hb, rfl⟩)]
    exact kk
theorem g_aast {i : Int32} {j len t v : Nat} {ks' : List Nat} {cj : Nat} (htc : (t = 4 ∧ cj = 2) ∨ (t = 5 ∧ cj = 5)) (hd : decode M.2.1 pc = .ok (.aastore, 1)) (hT : T a = (t, [len])) (hTv : T v = (100 + cj, ks')) (hi : i = nI j) (hj : j < len) (hl : len < 2 ^ 31) (ha : a < n) (hv : v < n) (hn : n ≤ oB) (kk : Go O d M (pc + 1) ls st (hp u n T I J (up2 R a j (some v))) P) : Go O d M pc ls (.ref v :: .int i :: .ref a :: st) (hp u n T I J R) P := by
  refine g_s (pc' := pc + 1) (ls' := ls) (st' := st) (K' := mpt (hp u n T I J R) a (.inl (t, len, .inr (.inr (.inr (.inr (va_up (R a) j (some v)))))))) hd ?_ ?_
  · delta mStep
    dsimp only
    rw [hp_get ha, hp_get hv, hT, hTv, cel_o, show cel (t, [len]) (I a) (J a) (R a) = .inl (t, len, .inr (.inr (.inr (.inr (R a))))) from by rcases htc with ⟨rfl, -⟩ | ⟨rfl, -⟩ <;> rfl]
    show (if 1 = 1 ∧ a < oB ∧ v < oB ∧ _ ∧ mIdx i len = true then _ else none) = _
    rw [if_pos ⟨rfl, Nat.lt_of_lt_of_le ha hn, Nat.lt_of_lt_of_le hv hn, htc, (mIdx_nI hi hj hl).1⟩, (mIdx_nI hi hj hl).2]
  · rw [hp_up (I' := I) (J' := J) (R' := up2 R a j (some v)) (by rw [hT, up2_row]; rcases htc with ⟨rfl, -⟩ | ⟨rfl, -⟩ <;> rfl) (fun b hb => ⟨rfl, rfl, up2_off R j _ hb⟩)]
    exact kk
theorem g_aastN {i : Int32} {j len t : Nat} (ht : t = 4 ∨ t = 5) (hd : decode M.2.1 pc = .ok (.aastore, 1)) (hT : T a = (t, [len])) (hi : i = nI j) (hj : j < len) (hl : len < 2 ^ 31) (ha : a < n) (hn : n ≤ oB) (kk : Go O d M (pc + 1) ls st (hp u n T I J (up2 R a j none)) P) : Go O d M pc ls (.null :: .int i :: .ref a :: st) (hp u n T I J R) P := by
  refine g_s (pc' := pc + 1) (ls' := ls) (st' := st) (K' := mpt (hp u n T I J R) a (.inl (t, len, .inr (.inr (.inr (.inr (va_up (R a) j none))))))) hd ?_ ?_
  · delta mStep
    dsimp only
    rw [hp_get ha, hT, show cel (t, [len]) (I a) (J a) (R a) = .inl (t, len, .inr (.inr (.inr (.inr (R a))))) from by rcases ht with rfl | rfl <;> rfl]
    show (if 1 = 1 ∧ a < oB ∧ _ ∧ mIdx i len = true then _ else none) = _
    rw [if_pos ⟨rfl, Nat.lt_of_lt_of_le ha hn, ht, (mIdx_nI hi hj hl).1⟩, (mIdx_nI hi hj hl).2]
  · rw [hp_up (I' := I) (J' := J) (R' := up2 R a j none) (by rw [hT, up2_row]; rcases ht with rfl | rfl <;> rfl) (fun b hb => ⟨rfl, rfl, up2_off R j _ hb⟩)]
    exact kk
theorem g_alen {len t : Nat} (ht : t < 6) (hd : decode M.2.1 pc = .ok (.arraylength, 1)) (hT : T a = (t, [len])) (ha : a < n) (hn : n ≤ oB) (kk : Go O d M (pc + 1) ls (.int (nI len) :: st) (hp u n T I J R) P) : Go O d M pc ls (.ref a :: st) (hp u n T I J R) P := by
  refine g_s hd ?_ kk
  have key : ∃ x : Nat × vp_A, cel (T a) (I a) (J a) (R a) = .inl x ∧ x.1 = t ∧ x.2.1 = len := by
    rw [hT]
    match t, ht with
    | 0, _ => exact ⟨_, rfl, rfl, rfl⟩
    | 1, _ => exact ⟨_, rfl, rfl, rfl⟩
    | 2, _ => exact ⟨_, rfl, rfl, rfl⟩
    | 3, _ => exact ⟨_, rfl, rfl, rfl⟩
    | 4, _ => exact ⟨_, rfl, rfl, rfl⟩
    | 5, _ => exact ⟨_, rfl, rfl, rfl⟩
    | k + 6, h => omega
  obtain ⟨x, h1, h2, h3⟩ := key
  delta mStep
  dsimp only
  rw [mAr_hp ha hn h1]
  dsimp only
  rw [if_pos ⟨rfl, by omega⟩, h3]
  rfl
/-- the arrays that were there -/
theorem g_oald {i : Int32} {j o : Nat} {x : Nat × (Nat → Int32)} (hd : decode M.2.1 pc = .ok (.iaload, 1)) (ho : O[o]? = some x) (hi : i = nI j) (hj : j < x.1) (hl : x.1 < 2 ^ 31) {K : mH} (kk : Go O d M (pc + 1) ls (.int (x.2 j) :: st) K P) : Go O d M pc ls (.int i :: .ref (oB + o) :: st) K P := by
  refine g_s hd ?_ kk
  delta mStep
  dsimp only
  rw [show mAr O K (oB + o) = some (0, x.1, .inl x.2) from by unfold mAr; rw [if_pos (Nat.le_add_right _ _), Nat.add_sub_cancel_left, ho]; rfl]
  show (if 1 = 1 ∧ mIdx i x.1 = true then _ else none) = _
  rw [if_pos ⟨rfl, (mIdx_nI hi hj hl).1⟩, (mIdx_nI hi hj hl).2]
theorem g_olen {o : Nat} {x : Nat × (Nat → Int32)} (hd : decode M.2.1 pc = .ok (.arraylength, 1)) (ho : O[o]? = some x) {K : mH} (kk : Go O d M (pc + 1) ls (.int (nI x.1) :: st) K P) : Go O d M pc ls (.ref (oB + o) :: st) K P := by
  refine g_s hd ?_ kk
  delta mStep
  dsimp only
  rw [show mAr O K (oB + o) = some (0, x.1, .inl x.2) from by unfold mAr; rw [if_pos (Nat.le_add_right _ _), Nat.add_sub_cancel_left, ho]; rfl]
  rfl
theorem g_gets {o : Nat} (hd : decode M.2.1 pc = .ok (.getstatic k, 3)) (hs : mSta M.1.cls k = some o) {K : mH} (kk : Go O d M (pc + 3) ls (.ref (oB + o) :: st) K P) : Go O d M pc ls st K P := by
  refine g_s hd ?_ kk
  delta mStep
  dsimp only
  rw [hs]
  rfl
end ROWS
