/-! rows over any heap -/
theorem vrf_cat (x : Option Nat) : (va_rf x).category = 1 := by cases x <;> rfl
section QR
variable {O : mO} {d : Nat} {M : mM} {pc : Nat} {ls ls' : List (Option Value)} {st : List Value} {K : mH} {P : Option Value → mH → Prop}
theorem q_aload_n {k : Fin 4} {x : Option Nat} (hd : decode M.2.1 pc = .ok (.aload_n k, 1)) (hl : mLd ls (k : Nat) = some (va_rf x)) (kk : Go O d M (pc + 1) ls (va_rf x :: st) K P) : Go O d M pc ls st K P := by
  cases x with
  | none => exact g_aload_nN hd hl kk
  | some a => exact g_aload_n hd hl kk
theorem q_aload {k : Nat} {x : Option Nat} (hd : decode M.2.1 pc = .ok (.aload k, 2)) (hl : mLd ls k = some (va_rf x)) (kk : Go O d M (pc + 2) ls (va_rf x :: st) K P) : Go O d M pc ls st K P := by
  cases x with
  | none => exact g_aloadN hd hl kk
  | some a => exact g_aload hd hl kk
theorem q_astore_n {k : Fin 4} {x : Option Nat} (hd : decode M.2.1 pc = .ok (.astore_n k, 1)) (hk : (k : Nat) < M.2.2.1) (hl : mSt1 ls (k : Nat) (va_rf x) = ls') (kk : Go O d M (pc + 1) ls' st K P) : Go O d M pc ls (va_rf x :: st) K P := by
  cases x with
  | none => exact g_astore_nN hd hk hl kk
  | some a => exact g_astore_n hd hk hl kk
theorem q_astore {k : Nat} {x : Option Nat} (hd : decode M.2.1 pc = .ok (.astore k, 2)) (hk : k < M.2.2.1) (hl : mSt1 ls k (va_rf x) = ls') (kk : Go O d M (pc + 2) ls' st K P) : Go O d M pc ls (va_rf x :: st) K P := by
  cases x with
  | none => exact g_astoreN hd hk hl kk
  | some a => exact g_astore hd hk hl kk
theorem q_ifnull {off : Int} {t : Nat} {x : Option Nat} (hd : decode M.2.1 pc = .ok (.ifnull off, 3)) (ht : (pc : Int) + off = (t : Int)) (kt : x = none → Go O d M t ls st K P) (kf : ¬ x = none → Go O d M (pc + 3) ls st K P) : Go O d M pc ls (va_rf x :: st) K P := by
  cases x with
  | none => exact g_ifnull0 hd ht (kt rfl)
  | some a => exact g_ifnull1 hd (kf (fun z => by cases z))
theorem q_ifnon {off : Int} {t : Nat} {x : Option Nat} (hd : decode M.2.1 pc = .ok (.ifnonnull off, 3)) (ht : (pc : Int) + off = (t : Int)) (kt : ¬ x = none → Go O d M t ls st K P) (kf : x = none → Go O d M (pc + 3) ls st K P) : Go O d M pc ls (va_rf x :: st) K P := by
  cases x with
  | none => exact g_ifnon0 hd (kf rfl)
  | some a => exact g_ifnon1 hd ht (kt (fun z => by cases z))
theorem q_areturn {x : Option Nat} {C : String} (hd : decode M.2.1 pc = .ok (.areturn, 1)) (ht : M.2.2.2 = some (.object C)) (k : P (some (va_rf x)) K) : Go O d M pc ls [va_rf x] K P := by
  cases x with
  | none => exact g_areturnN hd ht k
  | some a => exact g_areturn hd ht k
theorem q_iinc {k : Nat} {n : Int} {x w : Int32} (hd : decode M.2.1 pc = .ok (.iinc k n, 3)) (hk : k < M.2.2.1) (hx : mLd ls k = some (.int x)) (hw : Int32.ofInt n = w) (hl : mSt1 ls k (.int (x + w)) = ls') (kk : Go O d M (pc + 3) ls' st K P) : Go O d M pc ls st K P := g_iinc hd hk hx (by rw [hw]) hl kk
theorem q_iald {a : Nat} {i v : Int32} (hd : decode M.2.1 pc = .ok (.iaload, 1)) (h : rdI O K a i = some v) (kk : Go O d M (pc + 1) ls (.int v :: st) K P) : Go O d M pc ls (.int i :: .ref a :: st) K P := by
  refine g_s hd ?_ kk
  unfold rdI at h
  delta mStep
  dsimp only
  split at h
  · rename_i n f e
    try rw [e]
    show (if 1 = 1 ∧ mIdx i n = true then _ else none) = _
    split at h
    · rename_i c
      cases h
      rw [if_pos ⟨rfl, c⟩]
    · cases h
  · cases h
theorem q_bald {a : Nat} {i v : Int32} (hd : decode M.2.1 pc = .ok (.baload, 1)) (h : rdB O K a i = some v) (kk : Go O d M (pc + 1) ls (.int v :: st) K P) : Go O d M pc ls (.int i :: .ref a :: st) K P := by
  refine g_s hd ?_ kk
  unfold rdB at h
  delta mStep
  dsimp only
  split at h
  · rename_i n f e
    try rw [e]
    show (if 1 = 1 ∧ mIdx i n = true then _ else none) = _
    split at h
    · rename_i c
      cases h
      rw [if_pos ⟨rfl, c⟩]
    · cases h
  · rename_i n f e
    try rw [e]
    show (if 1 = 1 ∧ mIdx i n = true then _ else none) = _
    split at h
    · rename_i c
      cases h
      rw [if_pos ⟨rfl, c⟩]
    · cases h
  · cases h
theorem q_lald {a : Nat} {i : Int32} {v : Int64} (hd : decode M.2.1 pc = .ok (.laload, 1)) (h : rdJ O K a i = some v) (kk : Go O d M (pc + 1) ls (.long v :: st) K P) : Go O d M pc ls (.int i :: .ref a :: st) K P := by
  refine g_s hd ?_ kk
  unfold rdJ at h
  delta mStep
  dsimp only
  split at h
  · rename_i n f e
    try rw [e]
    show (if 1 = 1 ∧ mIdx i n = true then _ else none) = _
    split at h
    · rename_i c
      cases h
      rw [if_pos ⟨rfl, c⟩]
    · cases h
  · cases h
theorem q_aald {a : Nat} {i : Int32} {v : Option Nat} (hd : decode M.2.1 pc = .ok (.aaload, 1)) (h : rdR O K a i = some v) (kk : Go O d M (pc + 1) ls (va_rf v :: st) K P) : Go O d M pc ls (.int i :: .ref a :: st) K P := by
  refine g_s hd ?_ kk
  unfold rdR at h
  delta mStep
  dsimp only
  split at h
  · rename_i t n f e
    try rw [e]
    try dsimp only
    split at h
    · rename_i c
      cases h
      rw [if_pos ⟨rfl, c⟩]
    · cases h
  · cases h
theorem q_alen {a : Nat} {v : Int32} (hd : decode M.2.1 pc = .ok (.arraylength, 1)) (h : lnA O K a = some v) (kk : Go O d M (pc + 1) ls (.int v :: st) K P) : Go O d M pc ls (.ref a :: st) K P := by
  refine g_s hd ?_ kk
  unfold lnA at h
  delta mStep
  dsimp only
  split at h
  · rename_i x e
    try rw [e]
    try dsimp only
    split at h
    · rename_i c
      cases h
      rw [if_pos ⟨rfl, c⟩]
    · cases h
  · cases h
theorem q_iast {a : Nat} {i v : Int32} {K' : mH} (hd : decode M.2.1 pc = .ok (.iastore, 1)) (h : wrI K a i v = some K') (kk : Go O d M (pc + 1) ls st K' P) : Go O d M pc ls (.int v :: .int i :: .ref a :: st) K P := by
  refine g_s hd ?_ kk
  unfold wrI at h
  delta mStep
  dsimp only
  split at h
  · rename_i n f e
    try rw [e]
    show (if 1 = 1 ∧ a < oB ∧ mIdx i n = true then _ else none) = _
    split at h
    · rename_i c
      cases h
      rw [if_pos ⟨rfl, c⟩]
    · cases h
  · cases h
theorem q_bast {a : Nat} {i v : Int32} {K' : mH} (hd : decode M.2.1 pc = .ok (.bastore, 1)) (h : wrB K a i v = some K') (kk : Go O d M (pc + 1) ls st K' P) : Go O d M pc ls (.int v :: .int i :: .ref a :: st) K P := by
  refine g_s hd ?_ kk
  unfold wrB at h
  delta mStep
  dsimp only
  split at h
  · rename_i n f e
    try rw [e]
    show (if 1 = 1 ∧ a < oB ∧ mIdx i n = true then _ else none) = _
    split at h
    · rename_i c
      cases h
      rw [if_pos ⟨rfl, c⟩]
    · cases h
  · rename_i n f e
    try rw [e]
    show (if 1 = 1 ∧ a < oB ∧ mIdx i n = true then _ else none) = _
    split at h
    · rename_i c
      cases h
      rw [if_pos ⟨rfl, c⟩]
    · cases h
  · cases h
theorem q_last {a : Nat} {i : Int32} {v : Int64} {K' : mH} (hd : decode M.2.1 pc = .ok (.lastore, 1)) (h : wrJ K a i v = some K') (kk : Go O d M (pc + 1) ls st K' P) : Go O d M pc ls (.long v :: .int i :: .ref a :: st) K P := by
  refine g_s hd ?_ kk
  unfold wrJ at h
  delta mStep
  dsimp only
  split at h
  · rename_i n f e
    try rw [e]
    show (if 1 = 1 ∧ a < oB ∧ mIdx i n = true then _ else none) = _
    split at h
    · rename_i c
      cases h
      rw [if_pos ⟨rfl, c⟩]
    · cases h
  · cases h
theorem q_aast {a : Nat} {i : Int32} {v : Option Nat} {K' : mH} (hd : decode M.2.1 pc = .ok (.aastore, 1)) (h : wrR K a i v = some K') (kk : Go O d M (pc + 1) ls st K' P) : Go O d M pc ls (va_rf v :: .int i :: .ref a :: st) K P := by
  refine g_s hd ?_ kk
  unfold wrR at h
  split at h
  · rename_i t n f e
    cases v with
    | none =>
      dsimp only at h
      delta mStep
      dsimp only [va_rf]
      try rw [e]
      try dsimp only
      split at h
      · rename_i c
        cases h
        rw [if_pos ⟨rfl, c⟩]
      · cases h
    | some w =>
      dsimp only at h
      delta mStep
      dsimp only [va_rf]
      split at h
      · rename_i ci fs e2
        rw [e, e2]
        dsimp only
        split at h
        · rename_i c
          cases h
          rw [if_pos ⟨rfl, c⟩]
        · cases h
      · cases h
  · cases h
theorem q_getI {k a ci sl : Nat} {v : Int32} (hd : decode M.2.1 pc = .ok (.getfield k, 3)) (hf : mFld M.1.cls k = some (ci, sl)) (h : gtI K a ci sl = some v) (kk : Go O d M (pc + 3) ls (.int v :: st) K P) : Go O d M pc ls (.ref a :: st) K P := by
  refine g_s hd ?_ kk
  unfold gtI at h
  delta mStep
  dsimp only
  rw [hf]
  split at h
  · rename_i cj fs e
    rw [e]
    dsimp only
    split at h
    · rename_i w e2
      rw [e2]
      dsimp only
      split at h
      · rename_i c
        cases h
        rw [if_pos ⟨rfl, c⟩]
      · cases h
    · cases h
  · cases h
theorem q_getJ {k a ci sl : Nat} {v : Int64} (hd : decode M.2.1 pc = .ok (.getfield k, 3)) (hf : mFld M.1.cls k = some (ci, sl)) (h : gtJ K a ci sl = some v) (kk : Go O d M (pc + 3) ls (.long v :: st) K P) : Go O d M pc ls (.ref a :: st) K P := by
  refine g_s hd ?_ kk
  unfold gtJ at h
  delta mStep
  dsimp only
  rw [hf]
  split at h
  · rename_i cj fs e
    rw [e]
    dsimp only
    split at h
    · rename_i w e2
      rw [e2]
      dsimp only
      split at h
      · rename_i c
        cases h
        rw [if_pos ⟨rfl, c⟩]
      · cases h
    · cases h
  · cases h
theorem q_getA {k a ci sl : Nat} {v : Nat} (hd : decode M.2.1 pc = .ok (.getfield k, 3)) (hf : mFld M.1.cls k = some (ci, sl)) (h : gtA K a ci sl = some v) (kk : Go O d M (pc + 3) ls (.ref v :: st) K P) : Go O d M pc ls (.ref a :: st) K P := by
  refine g_s hd ?_ kk
  unfold gtA at h
  delta mStep
  dsimp only
  rw [hf]
  split at h
  · rename_i cj fs e
    rw [e]
    dsimp only
    split at h
    · rename_i w e2
      rw [e2]
      dsimp only
      split at h
      · rename_i c
        cases h
        rw [if_pos ⟨rfl, c⟩]
      · cases h
    · cases h
  · cases h
theorem q_put {k a ci sl : Nat} {v : Value} {K' : mH} {c : vw_C} (hd : decode M.2.1 pc = .ok (.putfield k, 3)) (hf : mFld M.1.cls k = some (ci, sl)) (hc : mCls[ci]? = some c) (hn1 : narrow (mTy ci sl) v = v) (hn2 : fits (mTy ci sl) v = true) (hfin : (c.2.1 sl).2.2.2 = true → M.1.name = "<init>" ∧ (c.2.1 sl).1 = M.1.cls) (h : ptV K a ci sl v = some K') (kk : Go O d M (pc + 3) ls st K' P) : Go O d M pc ls (v :: .ref a :: st) K P := by
  refine g_s hd ?_ kk
  unfold ptV at h
  delta mStep
  dsimp only
  rw [hf]
  split at h
  · rename_i cj fs e
    rw [e]
    dsimp only
    rw [hc]
    dsimp only
    split at h
    · rename_i q
      cases h
      rw [if_pos ⟨rfl, q.1, q.2.1, q.2.2, hn1, hn2, hfin⟩]
    · cases h
  · cases h
theorem q_cpy {k a b : Nat} {sp dp n : Int32} {K' : mH} (hd : decode M.2.1 pc = .ok (.invokestatic k, 3)) (hl : mLnk M.1.cls k = some (arraycopyName, none)) (hs : mSum st ≤ 8) (h : cpA K b sp a dp n = some K') (kk : Go O d M (pc + 3) ls st K' P) : Go O d M pc ls (.int n :: .int dp :: .ref a :: .int sp :: .ref b :: st) K P := by
  refine g_p hd ?_ kk
  unfold cpA at h
  delta mPrm
  dsimp only
  split at h
  · rename_i n1 g n0 f e1 e2
    try rw [e1, e2]
    show (if 3 = 3 ∧ mLnk M.1.cls k = some (arraycopyName, none) ∧ a < oB ∧ b < oB ∧ mSum st ≤ 8 ∧ ¬ sp < 0 ∧ ¬ dp < 0 ∧ ¬ n < 0 ∧ sp.toNatClampNeg + n.toNatClampNeg ≤ n0 ∧ dp.toNatClampNeg + n.toNatClampNeg ≤ n1 then _ else none) = _
    split at h
    · rename_i c
      cases h
      rw [if_pos ⟨rfl, hl, c.1, c.2.1, hs, c.2.2⟩]
    · cases h
  · cases h
theorem q_chr {k : Nat} {i v : Int32} (hd : decode M.2.1 pc = .ok (.invokevirtual k, 3)) (hl : mLnk M.1.cls k = some (yChr, none)) (hs : mSum st ≤ 8) (h : chA i = some v) (kk : Go O d M (pc + 3) ls (.int v :: st) K P) : Go O d M pc ls (.int i :: .ref oS :: st) K P := by
  refine g_p hd ?_ kk
  unfold chA at h
  split at h
  · rename_i c
    have hv := Option.some.inj h
    subst hv
    delta mPrm
    dsimp only
    rw [if_pos ⟨rfl, hl, rfl, c, hs⟩]
  · cases h
variable {Z : mM} {k na a ci : Nat} {as rest : List Value} {c : vw_C}
theorem q_virt {x : Option Value × mH} (hz : vc O d ci Z a as K = some x) (hd : decode M.2.1 pc = .ok (.invokevirtual k, 3)) (hv : mVir M.1.cls k = some (Z.1, Z.2.1, Z.2.2.1, Z.2.2.2, na)) (hl : mLnk M.1.cls k ≠ some (yChr, none)) (hna : na ≤ st.length) (has : (st.take na).reverse = as) (hre : st.drop na = .ref a :: rest) (hs : mSum rest ≤ 8) (har : (mArg (.ref a :: as)).length ≤ Z.2.2.1) (hc : mCls[ci]? = some c) (hcz : c.1 = Z.1.cls)
    (kk : Go O (d + 1) M (pc + 3) ls (x.1.toList ++ rest) x.2 P) : Go O (d + 1) M pc ls st K P := by
  unfold vc at hz
  split at hz
  · rename_i ho
    refine g_c hd ?_ ?_ (ev_Rn hz) (fun v K1 e => by cases e; exact kk)
    · delta mPrm
      dsimp only
      split
      · rw [if_neg (fun z => hl z.2.1)]
      · rfl
    · unfold isO at ho
      split at ho
      · rename_i cj fs e
        obtain ⟨h1, h2⟩ := of_decide_eq_true ho
        subst h2
        delta mInv
        dsimp only
        rw [hv]
        dsimp only
        rw [hre]
        dsimp only
        rw [e]
        dsimp only
        rw [hc]
        dsimp only
        rw [has, if_pos ⟨rfl, h1, hcz, hna, hs, har⟩]
      · cases ho
  · cases hz
theorem q_stat {x : Option Value × mH} (hz : ev O d Z as K = some x) (hd : decode M.2.1 pc = .ok (.invokestatic k, 3)) {h : Option String} (hv : mSts M.1.cls k = some (Z.1, h, Z.2.1, Z.2.2.1, Z.2.2.2, na)) (hl : mLnk M.1.cls k ≠ some (arraycopyName, none) ∧ mLnk M.1.cls k ≠ some (yMax, none) ∧ mLnk M.1.cls k ≠ some (yMin, none)) (hna : na ≤ st.length) (has : (st.take na).reverse = as) (hre : st.drop na = rest) (hs : mSum rest ≤ 8) (har : (mArg as).length ≤ Z.2.2.1)
    (kk : Go O (d + 1) M (pc + 3) ls (x.1.toList ++ rest) x.2 P) : Go O (d + 1) M pc ls st K P :=
  g_stat hd hv hl hna has hre hs har (ev_Rn hz) (fun v K1 e => by cases e; exact kk)
theorem q_spec {x : Option Value × mH} (hz : ev O d Z (.ref a :: as) K = some x) (hd : decode M.2.1 pc = .ok (.invokespecial k, 3)) {h : Option String} (hr : Z.2.2.2 = none) (hv : mSpe M.1.cls k = some (Z.1, h, Z.2.1, Z.2.2.1, none, na)) (hl : mLnk M.1.cls k ≠ some (objectInit, none)) (hna : na ≤ st.length) (has : (st.take na).reverse = as) (hre : st.drop na = .ref a :: rest) (hs : mSum rest ≤ 8) (har : (mArg (.ref a :: as)).length ≤ Z.2.2.1)
    (kk : Go O (d + 1) M (pc + 3) ls (x.1.toList ++ rest) x.2 P) : Go O (d + 1) M pc ls st K P :=
  g_spec hd hr hv hl hna has hre hs har (ev_Rn hz) (fun v K1 e => by cases e; exact kk)
theorem q_zret {v w : Int32} (hd : decode M.2.1 pc = .ok (.ireturn, 1)) (ht : M.2.2.2 = some .boolean) (hz : zz v = some w) (k : P (some (.int w)) K) : Go O d M pc ls [.int v] K P := by
  unfold zz at hz
  split at hz
  · rename_i c
    cases hz
    refine g_ireturn hd ht ?_ k
    rcases c with rfl | rfl <;> rfl
  · cases hz
theorem zz_nar {v w : Int32} (hz : zz v = some w) : w = v ∧ narrow .boolean (.int v) = .int v ∧ fits .boolean (.int v) = true := by
  unfold zz at hz
  split at hz
  · rename_i c
    cases hz
    refine ⟨rfl, ?_⟩
    rcases c with rfl | rfl <;> exact ⟨rfl, rfl⟩
  · cases hz
theorem ts_ne {x : Int32} {m : Nat} (hm : m < 2 ^ 31) (h : ¬ x = nI m) : x.toInt ≠ (m : Int) := by
  intro z
  apply h
  apply Int32.toInt_inj.mp
  rw [z, nI_toInt hm]
end QR
