/-! rows of the running, one an instruction -/
section ROWS2
variable {O : mO} {d : Nat} {M : mM} {pc : Nat} {ls ls' : List (Option Value)} {st : List Value} {K : mH} {P : Option Value → mH → Prop}
theorem g_null  (hd : decode M.2.1 pc = .ok (.aconst_null, 1))  (kk : Go O d M (pc + 1) ls (.null :: st) K P) : Go O d M pc ls (st) K P := g_s hd rfl kk
theorem g_iconst {n : Int} {v : Int32} (hd : decode M.2.1 pc = .ok (.iconst n, 1)) (hv : Int32.ofInt n = v) (kk : Go O d M (pc + 1) ls (.int v :: st) K P) : Go O d M pc ls (st) K P := g_s hd rfl (hv ▸ kk)
theorem g_bipush {n : Int} {v : Int32} (hd : decode M.2.1 pc = .ok (.bipush n, 2)) (hv : (Int8.ofInt n).toInt32 = v) (kk : Go O d M (pc + 2) ls (.int v :: st) K P) : Go O d M pc ls (st) K P := g_s hd rfl (hv ▸ kk)
theorem g_sipush {n : Int} {v : Int32} (hd : decode M.2.1 pc = .ok (.sipush n, 3)) (hv : (Int16.ofInt n).toInt32 = v) (kk : Go O d M (pc + 3) ls (.int v :: st) K P) : Go O d M pc ls (st) K P := g_s hd rfl (hv ▸ kk)
theorem g_lconst {n : Fin 2} {v : Int64} (hd : decode M.2.1 pc = .ok (.lconst n, 1)) (hv : Int64.ofNat (n : Nat) = v) (kk : Go O d M (pc + 1) ls (.long v :: st) K P) : Go O d M pc ls (st) K P := g_s hd rfl (hv ▸ kk)
theorem g_ldcI {k : Nat} {v : Int32} (hd : decode M.2.1 pc = .ok (.ldc k, 2)) (hv : mInt M.1.cls k = some v) (kk : Go O d M (pc + 2) ls (.int v :: st) K P) : Go O d M pc ls (st) K P := g_s hd (by delta mStep; dsimp only; rw [hv]; rfl) kk
theorem g_ldcwI {k : Nat} {v : Int32} (hd : decode M.2.1 pc = .ok (.ldc_w k, 3)) (hv : mInt M.1.cls k = some v) (kk : Go O d M (pc + 3) ls (.int v :: st) K P) : Go O d M pc ls (st) K P := g_s hd (by delta mStep; dsimp only; rw [hv]; rfl) kk
theorem g_ldc2 {k : Nat} {v : Int64} (hd : decode M.2.1 pc = .ok (.ldc2_w k, 3)) (hv : mLong M.1.cls k = some v) (kk : Go O d M (pc + 3) ls (.long v :: st) K P) : Go O d M pc ls (st) K P := g_s hd (by delta mStep; dsimp only; rw [hv]; rfl) kk
theorem g_ldcS {k : Nat} (hd : decode M.2.1 pc = .ok (.ldc k, 2)) (h1 : mInt M.1.cls k = none) (h2 : mStr M.1.cls k = true) (kk : Go O d M (pc + 2) ls (.ref oS :: st) K P) : Go O d M pc ls (st) K P := g_s hd (by delta mStep; dsimp only; rw [h1]; dsimp only; rw [h2]; rfl) kk
theorem g_iload_n {k : Fin 4} {x : Int32} (hd : decode M.2.1 pc = .ok (.iload_n k, 1)) (hl : mLd ls (k : Nat) = some (.int x)) (kk : Go O d M (pc + 1) ls (.int x :: st) K P) : Go O d M pc ls (st) K P := g_s hd (by delta mStep; dsimp only; rw [hl]; rfl) kk
theorem g_iload {k : Nat} {x : Int32} (hd : decode M.2.1 pc = .ok (.iload k, 2)) (hl : mLd ls k = some (.int x)) (kk : Go O d M (pc + 2) ls (.int x :: st) K P) : Go O d M pc ls (st) K P := g_s hd (by delta mStep; dsimp only; rw [hl]; rfl) kk
theorem g_lload_n {k : Fin 4} {x : Int64} (hd : decode M.2.1 pc = .ok (.lload_n k, 1)) (hl : mLd ls (k : Nat) = some (.long x)) (kk : Go O d M (pc + 1) ls (.long x :: st) K P) : Go O d M pc ls (st) K P := g_s hd (by delta mStep; dsimp only; rw [hl]; rfl) kk
theorem g_lload {k : Nat} {x : Int64} (hd : decode M.2.1 pc = .ok (.lload k, 2)) (hl : mLd ls k = some (.long x)) (kk : Go O d M (pc + 2) ls (.long x :: st) K P) : Go O d M pc ls (st) K P := g_s hd (by delta mStep; dsimp only; rw [hl]; rfl) kk
theorem g_aload_n {k : Fin 4} {x : Nat} (hd : decode M.2.1 pc = .ok (.aload_n k, 1)) (hl : mLd ls (k : Nat) = some (.ref x)) (kk : Go O d M (pc + 1) ls (.ref x :: st) K P) : Go O d M pc ls (st) K P := g_s hd (by delta mStep; dsimp only; rw [hl]; rfl) kk
theorem g_aload {k : Nat} {x : Nat} (hd : decode M.2.1 pc = .ok (.aload k, 2)) (hl : mLd ls k = some (.ref x)) (kk : Go O d M (pc + 2) ls (.ref x :: st) K P) : Go O d M pc ls (st) K P := g_s hd (by delta mStep; dsimp only; rw [hl]; rfl) kk
theorem g_aload_nN {k : Fin 4} (hd : decode M.2.1 pc = .ok (.aload_n k, 1)) (hl : mLd ls (k : Nat) = some .null) (kk : Go O d M (pc + 1) ls (.null :: st) K P) : Go O d M pc ls (st) K P := g_s hd (by delta mStep; dsimp only; rw [hl]; rfl) kk
theorem g_aloadN {k : Nat} (hd : decode M.2.1 pc = .ok (.aload k, 2)) (hl : mLd ls k = some .null) (kk : Go O d M (pc + 2) ls (.null :: st) K P) : Go O d M pc ls (st) K P := g_s hd (by delta mStep; dsimp only; rw [hl]; rfl) kk
theorem g_istore_n {k : Fin 4} {x : Int32} (hd : decode M.2.1 pc = .ok (.istore_n k, 1)) (hk : (k : Nat) < M.2.2.1) (hl : mSt1 ls (k : Nat) (.int x) = ls') (kk : Go O d M (pc + 1) ls' (st) K P) : Go O d M pc ls (.int x :: st) K P := g_s hd (by delta mStep; dsimp only; rw [if_pos ⟨rfl, hk⟩, hl]) kk
theorem g_istore {k : Nat} {x : Int32} (hd : decode M.2.1 pc = .ok (.istore k, 2)) (hk : k < M.2.2.1) (hl : mSt1 ls k (.int x) = ls') (kk : Go O d M (pc + 2) ls' (st) K P) : Go O d M pc ls (.int x :: st) K P := g_s hd (by delta mStep; dsimp only; rw [if_pos ⟨rfl, hk⟩, hl]) kk
theorem g_lstore_n {k : Fin 4} {x : Int64} (hd : decode M.2.1 pc = .ok (.lstore_n k, 1)) (hk : (k : Nat) + 1 < M.2.2.1) (hl : mSt2 ls (k : Nat) (.long x) = ls') (kk : Go O d M (pc + 1) ls' (st) K P) : Go O d M pc ls (.long x :: st) K P := g_s hd (by delta mStep; dsimp only; rw [if_pos ⟨rfl, hk⟩, hl]) kk
theorem g_lstore {k : Nat} {x : Int64} (hd : decode M.2.1 pc = .ok (.lstore k, 2)) (hk : k + 1 < M.2.2.1) (hl : mSt2 ls k (.long x) = ls') (kk : Go O d M (pc + 2) ls' (st) K P) : Go O d M pc ls (.long x :: st) K P := g_s hd (by delta mStep; dsimp only; rw [if_pos ⟨rfl, hk⟩, hl]) kk
theorem g_astore_n {k : Fin 4} {x : Nat} (hd : decode M.2.1 pc = .ok (.astore_n k, 1)) (hk : (k : Nat) < M.2.2.1) (hl : mSt1 ls (k : Nat) (.ref x) = ls') (kk : Go O d M (pc + 1) ls' (st) K P) : Go O d M pc ls (.ref x :: st) K P := g_s hd (by delta mStep; dsimp only; rw [if_pos ⟨rfl, hk⟩, hl]) kk
theorem g_astore {k : Nat} {x : Nat} (hd : decode M.2.1 pc = .ok (.astore k, 2)) (hk : k < M.2.2.1) (hl : mSt1 ls k (.ref x) = ls') (kk : Go O d M (pc + 2) ls' (st) K P) : Go O d M pc ls (.ref x :: st) K P := g_s hd (by delta mStep; dsimp only; rw [if_pos ⟨rfl, hk⟩, hl]) kk
theorem g_astore_nN {k : Fin 4} (hd : decode M.2.1 pc = .ok (.astore_n k, 1)) (hk : (k : Nat) < M.2.2.1) (hl : mSt1 ls (k : Nat) .null = ls') (kk : Go O d M (pc + 1) ls' (st) K P) : Go O d M pc ls (.null :: st) K P := g_s hd (by delta mStep; dsimp only; rw [if_pos ⟨rfl, hk⟩, hl]) kk
theorem g_astoreN {k : Nat} (hd : decode M.2.1 pc = .ok (.astore k, 2)) (hk : k < M.2.2.1) (hl : mSt1 ls k .null = ls') (kk : Go O d M (pc + 2) ls' (st) K P) : Go O d M pc ls (.null :: st) K P := g_s hd (by delta mStep; dsimp only; rw [if_pos ⟨rfl, hk⟩, hl]) kk
theorem g_iinc {k : Nat} {n : Int} {x v : Int32} (hd : decode M.2.1 pc = .ok (.iinc k n, 3)) (hk : k < M.2.2.1) (hx : mLd ls k = some (.int x)) (hv : x + Int32.ofInt n = v) (hl : mSt1 ls k (.int v) = ls') (kk : Go O d M (pc + 3) ls' (st) K P) : Go O d M pc ls (st) K P := g_s hd (by delta mStep; dsimp only; rw [hx]; dsimp only; rw [if_pos ⟨rfl, hk⟩, hv, hl]) kk
theorem g_iadd {a b : Int32} (hd : decode M.2.1 pc = .ok (.iadd, 1))  (kk : Go O d M (pc + 1) ls (.int (a + b) :: st) K P) : Go O d M pc ls (.int b :: .int a :: st) K P := g_s hd rfl kk
theorem g_isub {a b : Int32} (hd : decode M.2.1 pc = .ok (.isub, 1))  (kk : Go O d M (pc + 1) ls (.int (a - b) :: st) K P) : Go O d M pc ls (.int b :: .int a :: st) K P := g_s hd rfl kk
theorem g_imul {a b : Int32} (hd : decode M.2.1 pc = .ok (.imul, 1))  (kk : Go O d M (pc + 1) ls (.int (a * b) :: st) K P) : Go O d M pc ls (.int b :: .int a :: st) K P := g_s hd rfl kk
theorem g_iand {a b : Int32} (hd : decode M.2.1 pc = .ok (.iand, 1))  (kk : Go O d M (pc + 1) ls (.int (a &&& b) :: st) K P) : Go O d M pc ls (.int b :: .int a :: st) K P := g_s hd rfl kk
theorem g_ior {a b : Int32} (hd : decode M.2.1 pc = .ok (.ior, 1))  (kk : Go O d M (pc + 1) ls (.int (a ||| b) :: st) K P) : Go O d M pc ls (.int b :: .int a :: st) K P := g_s hd rfl kk
theorem g_ixor {a b : Int32} (hd : decode M.2.1 pc = .ok (.ixor, 1))  (kk : Go O d M (pc + 1) ls (.int (a ^^^ b) :: st) K P) : Go O d M pc ls (.int b :: .int a :: st) K P := g_s hd rfl kk
theorem g_ishl {a b : Int32} (hd : decode M.2.1 pc = .ok (.ishl, 1))  (kk : Go O d M (pc + 1) ls (.int (a <<< (b &&& 31)) :: st) K P) : Go O d M pc ls (.int b :: .int a :: st) K P := g_s hd rfl kk
theorem g_ishr {a b : Int32} (hd : decode M.2.1 pc = .ok (.ishr, 1))  (kk : Go O d M (pc + 1) ls (.int (a >>> (b &&& 31)) :: st) K P) : Go O d M pc ls (.int b :: .int a :: st) K P := g_s hd rfl kk
theorem g_iushr {a b : Int32} (hd : decode M.2.1 pc = .ok (.iushr, 1))  (kk : Go O d M (pc + 1) ls (.int (a.toUInt32 >>> (b.toUInt32 &&& Int32.toUInt32 31)).toInt32 :: st) K P) : Go O d M pc ls (.int b :: .int a :: st) K P := g_s hd rfl kk
theorem g_ladd {a b : Int64} (hd : decode M.2.1 pc = .ok (.ladd, 1))  (kk : Go O d M (pc + 1) ls (.long (a + b) :: st) K P) : Go O d M pc ls (.long b :: .long a :: st) K P := g_s hd rfl kk
theorem g_lsub {a b : Int64} (hd : decode M.2.1 pc = .ok (.lsub, 1))  (kk : Go O d M (pc + 1) ls (.long (a - b) :: st) K P) : Go O d M pc ls (.long b :: .long a :: st) K P := g_s hd rfl kk
theorem g_lmul {a b : Int64} (hd : decode M.2.1 pc = .ok (.lmul, 1))  (kk : Go O d M (pc + 1) ls (.long (a * b) :: st) K P) : Go O d M pc ls (.long b :: .long a :: st) K P := g_s hd rfl kk
theorem g_idiv {a b : Int32} (hd : decode M.2.1 pc = .ok (.idiv, 1)) (hb : ¬ b = 0) (kk : Go O d M (pc + 1) ls (.int (a / b) :: st) K P) : Go O d M pc ls (.int b :: .int a :: st) K P := g_s hd (by delta mStep; dsimp only; rw [if_pos ⟨rfl, hb⟩]) kk
theorem g_irem {a b : Int32} (hd : decode M.2.1 pc = .ok (.irem, 1)) (hb : ¬ b = 0) (kk : Go O d M (pc + 1) ls (.int (a - a / b * b) :: st) K P) : Go O d M pc ls (.int b :: .int a :: st) K P := g_s hd (by delta mStep; dsimp only; rw [if_pos ⟨rfl, hb⟩]) kk
theorem g_ldiv {a b : Int64} (hd : decode M.2.1 pc = .ok (.ldiv, 1)) (hb : ¬ b = 0) (kk : Go O d M (pc + 1) ls (.long (a / b) :: st) K P) : Go O d M pc ls (.long b :: .long a :: st) K P := g_s hd (by delta mStep; dsimp only; rw [if_pos ⟨rfl, hb⟩]) kk
theorem g_lrem {a b : Int64} (hd : decode M.2.1 pc = .ok (.lrem, 1)) (hb : ¬ b = 0) (kk : Go O d M (pc + 1) ls (.long (a - a / b * b) :: st) K P) : Go O d M pc ls (.long b :: .long a :: st) K P := g_s hd (by delta mStep; dsimp only; rw [if_pos ⟨rfl, hb⟩]) kk
theorem g_ineg {a : Int32} (hd : decode M.2.1 pc = .ok (.ineg, 1))  (kk : Go O d M (pc + 1) ls (.int (-a) :: st) K P) : Go O d M pc ls (.int a :: st) K P := g_s hd rfl kk
theorem g_lcmp {a b : Int64} (hd : decode M.2.1 pc = .ok (.lcmp, 1))  (kk : Go O d M (pc + 1) ls (.int (lg_cmp a b) :: st) K P) : Go O d M pc ls (.long b :: .long a :: st) K P := g_s hd rfl kk
theorem g_i2l {a : Int32} (hd : decode M.2.1 pc = .ok (.i2l, 1))  (kk : Go O d M (pc + 1) ls (.long a.toInt64 :: st) K P) : Go O d M pc ls (.int a :: st) K P := g_s hd rfl kk
theorem g_l2i {a : Int64} (hd : decode M.2.1 pc = .ok (.l2i, 1))  (kk : Go O d M (pc + 1) ls (.int a.toInt32 :: st) K P) : Go O d M pc ls (.long a :: st) K P := g_s hd rfl kk
theorem g_i2b {a : Int32} (hd : decode M.2.1 pc = .ok (.i2b, 1))  (kk : Go O d M (pc + 1) ls (.int a.toInt8.toInt32 :: st) K P) : Go O d M pc ls (.int a :: st) K P := g_s hd rfl kk
theorem g_dup {v : Value} (hd : decode M.2.1 pc = .ok (.dup, 1)) (hv : v.category = 1) (kk : Go O d M (pc + 1) ls (v :: v :: st) K P) : Go O d M pc ls (v :: st) K P := g_s hd (by delta mStep; dsimp only; rw [if_pos ⟨rfl, hv⟩]) kk
theorem g_pop {v : Value} (hd : decode M.2.1 pc = .ok (.pop, 1)) (hv : v.category = 1) (kk : Go O d M (pc + 1) ls (st) K P) : Go O d M pc ls (v :: st) K P := g_s hd (by delta mStep; dsimp only; rw [if_pos ⟨rfl, hv⟩]) kk
theorem g_dup_x1 {v w : Value} (hd : decode M.2.1 pc = .ok (.dup_x1, 1)) (hv : v.category = 1) (hw : w.category = 1) (kk : Go O d M (pc + 1) ls (v :: w :: v :: st) K P) : Go O d M pc ls (v :: w :: st) K P := g_s hd (by delta mStep; dsimp only; rw [if_pos ⟨rfl, hv, hw⟩]) kk
theorem g_dup2 {v w : Value} (hd : decode M.2.1 pc = .ok (.dup2, 1)) (hv : v.category = 1) (hw : w.category = 1) (kk : Go O d M (pc + 1) ls (v :: w :: v :: w :: st) K P) : Go O d M pc ls (v :: w :: st) K P := g_s hd (by delta mStep; dsimp only; rw [if_pos ⟨rfl, hv, hw⟩]) kk
theorem mJ_of {off : Int} {t : Nat} (ht : (pc : Int) + off = (t : Int)) : mOk pc off = true ∧ mJmp pc off = t := by
  refine ⟨decide_eq_true (by omega), ?_⟩
  unfold mJmp
  omega
theorem g_goto {off : Int} {t : Nat} (hd : decode M.2.1 pc = .ok (.goto off, 3)) (ht : (pc : Int) + off = (t : Int)) (kk : Go O d M t ls st K P) : Go O d M pc ls st K P :=
  g_s hd (by delta mStep; dsimp only; rw [if_pos ⟨rfl, (mJ_of ht).1⟩, (mJ_of ht).2]) kk
theorem g_if {c : ClassFile.Cond} {off : Int} {t : Nat} {x : Int32} (hd : decode M.2.1 pc = .ok (.ifCond c off, 3)) (ht : (pc : Int) + off = (t : Int)) (kt : mCmp c x 0 = true → Go O d M t ls st K P) (kf : ¬ mCmp c x 0 = true → Go O d M (pc + 3) ls st K P) : Go O d M pc ls (.int x :: st) K P := by
  have hs : mStep O M.1 M.2.2.1 pc ls (.int x :: st) K (.ifCond c off) 3 = some (if mCmp c x 0 = true then mJmp pc off else pc + 3, ls, st, K) := by
    delta mStep
    dsimp only
    rw [if_pos ⟨rfl, (mJ_of ht).1⟩]
  refine g_s hd hs ?_
  by_cases h : mCmp c x 0 = true
  · rw [if_pos h, (mJ_of ht).2]
    exact kt h
  · rw [if_neg h]
    exact kf h
theorem g_ic {c : ClassFile.Cond} {off : Int} {t : Nat} {x y : Int32} (hd : decode M.2.1 pc = .ok (.if_icmp c off, 3)) (ht : (pc : Int) + off = (t : Int)) (kt : mCmp c x y = true → Go O d M t ls st K P) (kf : ¬ mCmp c x y = true → Go O d M (pc + 3) ls st K P) : Go O d M pc ls (.int y :: .int x :: st) K P := by
  have hs : mStep O M.1 M.2.2.1 pc ls (.int y :: .int x :: st) K (.if_icmp c off) 3 = some (if mCmp c x y = true then mJmp pc off else pc + 3, ls, st, K) := by
    delta mStep
    dsimp only
    rw [if_pos ⟨rfl, (mJ_of ht).1⟩]
  refine g_s hd hs ?_
  by_cases h : mCmp c x y = true
  · rw [if_pos h, (mJ_of ht).2]
    exact kt h
  · rw [if_neg h]
    exact kf h
theorem g_if_eq {off : Int} {t : Nat} {x : Int32} (hd : decode M.2.1 pc = .ok (.ifCond .eq off, 3)) (ht : (pc : Int) + off = (t : Int)) (kt : x = 0 → Go O d M t ls st K P) (kf : ¬ x = 0 → Go O d M (pc + 3) ls st K P) : Go O d M pc ls (.int x :: st) K P := g_if hd ht (fun h => kt (mCmp_eq.mp h)) (fun h => kf (fun z => h (mCmp_eq.mpr z)))
theorem g_ic_eq {off : Int} {t : Nat} {x y : Int32} (hd : decode M.2.1 pc = .ok (.if_icmp .eq off, 3)) (ht : (pc : Int) + off = (t : Int)) (kt : x = y → Go O d M t ls st K P) (kf : ¬ x = y → Go O d M (pc + 3) ls st K P) : Go O d M pc ls (.int y :: .int x :: st) K P := g_ic hd ht (fun h => kt (mCmp_eq.mp h)) (fun h => kf (fun z => h (mCmp_eq.mpr z)))
theorem g_if_ne {off : Int} {t : Nat} {x : Int32} (hd : decode M.2.1 pc = .ok (.ifCond .ne off, 3)) (ht : (pc : Int) + off = (t : Int)) (kt : ¬ x = 0 → Go O d M t ls st K P) (kf : x = 0 → Go O d M (pc + 3) ls st K P) : Go O d M pc ls (.int x :: st) K P := g_if hd ht (fun h => kt (mCmp_ne.mp h)) (fun h => kf (Classical.not_not.mp (fun z => h (mCmp_ne.mpr z))))
theorem g_ic_ne {off : Int} {t : Nat} {x y : Int32} (hd : decode M.2.1 pc = .ok (.if_icmp .ne off, 3)) (ht : (pc : Int) + off = (t : Int)) (kt : ¬ x = y → Go O d M t ls st K P) (kf : x = y → Go O d M (pc + 3) ls st K P) : Go O d M pc ls (.int y :: .int x :: st) K P := g_ic hd ht (fun h => kt (mCmp_ne.mp h)) (fun h => kf (Classical.not_not.mp (fun z => h (mCmp_ne.mpr z))))
theorem g_if_lt {off : Int} {t : Nat} {x : Int32} (hd : decode M.2.1 pc = .ok (.ifCond .lt off, 3)) (ht : (pc : Int) + off = (t : Int)) (kt : x < 0 → Go O d M t ls st K P) (kf : ¬ x < 0 → Go O d M (pc + 3) ls st K P) : Go O d M pc ls (.int x :: st) K P := g_if hd ht (fun h => kt (mCmp_lt.mp h)) (fun h => kf (fun z => h (mCmp_lt.mpr z)))
theorem g_ic_lt {off : Int} {t : Nat} {x y : Int32} (hd : decode M.2.1 pc = .ok (.if_icmp .lt off, 3)) (ht : (pc : Int) + off = (t : Int)) (kt : x < y → Go O d M t ls st K P) (kf : ¬ x < y → Go O d M (pc + 3) ls st K P) : Go O d M pc ls (.int y :: .int x :: st) K P := g_ic hd ht (fun h => kt (mCmp_lt.mp h)) (fun h => kf (fun z => h (mCmp_lt.mpr z)))
theorem g_if_ge {off : Int} {t : Nat} {x : Int32} (hd : decode M.2.1 pc = .ok (.ifCond .ge off, 3)) (ht : (pc : Int) + off = (t : Int)) (kt : 0 ≤ x → Go O d M t ls st K P) (kf : ¬ 0 ≤ x → Go O d M (pc + 3) ls st K P) : Go O d M pc ls (.int x :: st) K P := g_if hd ht (fun h => kt (mCmp_ge.mp h)) (fun h => kf (fun z => h (mCmp_ge.mpr z)))
theorem g_ic_ge {off : Int} {t : Nat} {x y : Int32} (hd : decode M.2.1 pc = .ok (.if_icmp .ge off, 3)) (ht : (pc : Int) + off = (t : Int)) (kt : y ≤ x → Go O d M t ls st K P) (kf : ¬ y ≤ x → Go O d M (pc + 3) ls st K P) : Go O d M pc ls (.int y :: .int x :: st) K P := g_ic hd ht (fun h => kt (mCmp_ge.mp h)) (fun h => kf (fun z => h (mCmp_ge.mpr z)))
theorem g_if_gt {off : Int} {t : Nat} {x : Int32} (hd : decode M.2.1 pc = .ok (.ifCond .gt off, 3)) (ht : (pc : Int) + off = (t : Int)) (kt : 0 < x → Go O d M t ls st K P) (kf : ¬ 0 < x → Go O d M (pc + 3) ls st K P) : Go O d M pc ls (.int x :: st) K P := g_if hd ht (fun h => kt (mCmp_gt.mp h)) (fun h => kf (fun z => h (mCmp_gt.mpr z)))
theorem g_ic_gt {off : Int} {t : Nat} {x y : Int32} (hd : decode M.2.1 pc = .ok (.if_icmp .gt off, 3)) (ht : (pc : Int) + off = (t : Int)) (kt : y < x → Go O d M t ls st K P) (kf : ¬ y < x → Go O d M (pc + 3) ls st K P) : Go O d M pc ls (.int y :: .int x :: st) K P := g_ic hd ht (fun h => kt (mCmp_gt.mp h)) (fun h => kf (fun z => h (mCmp_gt.mpr z)))
theorem g_if_le {off : Int} {t : Nat} {x : Int32} (hd : decode M.2.1 pc = .ok (.ifCond .le off, 3)) (ht : (pc : Int) + off = (t : Int)) (kt : x ≤ 0 → Go O d M t ls st K P) (kf : ¬ x ≤ 0 → Go O d M (pc + 3) ls st K P) : Go O d M pc ls (.int x :: st) K P := g_if hd ht (fun h => kt (mCmp_le.mp h)) (fun h => kf (fun z => h (mCmp_le.mpr z)))
theorem g_ic_le {off : Int} {t : Nat} {x y : Int32} (hd : decode M.2.1 pc = .ok (.if_icmp .le off, 3)) (ht : (pc : Int) + off = (t : Int)) (kt : x ≤ y → Go O d M t ls st K P) (kf : ¬ x ≤ y → Go O d M (pc + 3) ls st K P) : Go O d M pc ls (.int y :: .int x :: st) K P := g_ic hd ht (fun h => kt (mCmp_le.mp h)) (fun h => kf (fun z => h (mCmp_le.mpr z)))
theorem g_ifnull0 {off : Int} {t : Nat} (hd : decode M.2.1 pc = .ok (.ifnull off, 3)) (ht : (pc : Int) + off = (t : Int)) (kk : Go O d M t ls st K P) : Go O d M pc ls (.null :: st) K P :=
  g_s hd (by delta mStep; dsimp only; rw [if_pos ⟨rfl, (mJ_of ht).1⟩, (mJ_of ht).2]) kk
theorem g_ifnull1 {off : Int} {a : Nat} (hd : decode M.2.1 pc = .ok (.ifnull off, 3)) (kk : Go O d M (pc + 3) ls st K P) : Go O d M pc ls (.ref a :: st) K P := g_s hd rfl kk
theorem g_ifnon0 {off : Int} (hd : decode M.2.1 pc = .ok (.ifnonnull off, 3)) (kk : Go O d M (pc + 3) ls st K P) : Go O d M pc ls (.null :: st) K P := g_s hd rfl kk
theorem g_ifnon1 {off : Int} {t a : Nat} (hd : decode M.2.1 pc = .ok (.ifnonnull off, 3)) (ht : (pc : Int) + off = (t : Int)) (kk : Go O d M t ls st K P) : Go O d M pc ls (.ref a :: st) K P :=
  g_s hd (by delta mStep; dsimp only; rw [if_pos ⟨rfl, (mJ_of ht).1⟩, (mJ_of ht).2]) kk
theorem g_tsI {dflt lo hi : Int} {offs : Array Int} {len t : Nat} {off : Int} {x : Int32} (hd : decode M.2.1 pc = .ok (.tableswitch dflt lo hi offs, len)) (h1 : ¬ (x.toInt < lo ∨ hi < x.toInt)) (ho : offs[(x.toInt - lo).toNat]? = some off) (ht : (pc : Int) + off = (t : Int)) (kk : Go O d M t ls st K P) : Go O d M pc ls (.int x :: st) K P :=
  g_s hd (by delta mStep; dsimp only; rw [if_neg h1, ho]; dsimp only; rw [if_pos (mJ_of ht).1, (mJ_of ht).2]) kk
theorem g_tsO {dflt lo hi : Int} {offs : Array Int} {len t : Nat} {x : Int32} (hd : decode M.2.1 pc = .ok (.tableswitch dflt lo hi offs, len)) (h1 : x.toInt < lo ∨ hi < x.toInt) (ht : (pc : Int) + dflt = (t : Int)) (kk : Go O d M t ls st K P) : Go O d M pc ls (.int x :: st) K P :=
  g_s hd (by delta mStep; dsimp only; rw [if_pos h1, if_pos (mJ_of ht).1, (mJ_of ht).2]) kk
theorem g_ls {dflt : Int} {ps : Array (Int × Int)} {len t : Nat} {x : Int32} (hd : decode M.2.1 pc = .ok (.lookupswitch dflt ps, len)) (h1 : (ps.toList.zip (ps.toList.drop 1)).all (fun (a, next) => a.1 < next.1) = true) (ht : (pc : Int) + Op.lookupswitch.offset ps.toList dflt x.toInt = (t : Int)) (kk : Go O d M t ls st K P) : Go O d M pc ls (.int x :: st) K P :=
  g_s hd (by delta mStep; dsimp only; rw [if_pos ⟨h1, (mJ_of ht).1⟩, (mJ_of ht).2]) kk
/-! returns -/
theorem g_ireturn {v : Int32} {t : FieldType} (hd : decode M.2.1 pc = .ok (.ireturn, 1)) (ht : M.2.2.2 = some t) (hn : narrow t (.int v) = .int v) (k : P (some (.int v)) K) : Go O d M pc ls [.int v] K P :=
  g_r hd (by rw [ht]; delta mRet; dsimp only; rw [if_pos ⟨rfl, hn⟩]) k
theorem g_lreturn {v : Int64} (hd : decode M.2.1 pc = .ok (.lreturn, 1)) (ht : M.2.2.2 = some .long) (k : P (some (.long v)) K) : Go O d M pc ls [.long v] K P := g_r hd (by rw [ht]; rfl) k
theorem g_areturn {a : Nat} {C : String} (hd : decode M.2.1 pc = .ok (.areturn, 1)) (ht : M.2.2.2 = some (.object C)) (k : P (some (.ref a)) K) : Go O d M pc ls [.ref a] K P := g_r hd (by rw [ht]; rfl) k
theorem g_areturnN {C : String} (hd : decode M.2.1 pc = .ok (.areturn, 1)) (ht : M.2.2.2 = some (.object C)) (k : P (some .null) K) : Go O d M pc ls [.null] K P := g_r hd (by rw [ht]; rfl) k
theorem g_return (hd : decode M.2.1 pc = .ok (.return_, 1)) (ht : M.2.2.2 = none) (k : P none K) : Go O d M pc ls [] K P := g_r hd (by rw [ht]; rfl) k
/-! calls -/
theorem g_obj {k a : Nat} (hd : decode M.2.1 pc = .ok (.invokespecial k, 3)) (hl : mLnk M.1.cls k = some (objectInit, none)) (hs : mSum st ≤ 8) (kk : Go O d M (pc + 3) ls st K P) : Go O d M pc ls (.ref a :: st) K P :=
  g_p hd (by delta mPrm; dsimp only; rw [if_pos ⟨rfl, hl, hs⟩]) kk
theorem g_chr {k j : Nat} {i : Int32} (hd : decode M.2.1 pc = .ok (.invokevirtual k, 3)) (hl : mLnk M.1.cls k = some (yChr, none)) (hi : i = nI j) (hj : j < 156) (hs : mSum st ≤ 8) (kk : Go O d M (pc + 3) ls (.int (nI (mChs.getD j 0)) :: st) K P) : Go O d M pc ls (.int i :: .ref oS :: st) K P := by
  have h := mIdx_nI hi hj (by decide)
  refine g_p hd ?_ kk
  delta mPrm
  dsimp only
  rw [if_pos ⟨rfl, hl, rfl, by rw [mChs_len]; exact h.1, hs⟩, h.2]
theorem g_max {k : Nat} {a b : Int32} (hd : decode M.2.1 pc = .ok (.invokestatic k, 3)) (hl : mLnk M.1.cls k = some (yMax, none)) (hs : mSum st ≤ 8) (h3 : ∀ z, st ≠ .ref z :: st.tail ∨ st.tail.length < 2) (kk : Go O d M (pc + 3) ls (.int (if a < b then b else a) :: st) K P) : Go O d M pc ls (.int b :: .int a :: st) K P := by
  refine g_p hd ?_ kk
  delta mPrm
  dsimp only
  split
  · rename_i n dp a' sp q r heq
    exfalso
    simp only [List.cons.injEq] at heq
    rcases h3 a' with h | h
    · exact h (by rw [heq.2.2]; rfl)
    · rw [heq.2.2] at h
      simp only [List.tail_cons, List.length_cons] at h
      omega
  · rename_i heq
    cases heq
    rw [if_pos ⟨rfl, hl, hs⟩]
  · rename_i h1 h2
    first | exact (h1 _ _ _ rfl).elim | exact (h2 _ _ _ rfl).elim
theorem g_min {k : Nat} {a b : Int32} (hd : decode M.2.1 pc = .ok (.invokestatic k, 3)) (hl : mLnk M.1.cls k = some (yMin, none)) (hs : mSum st ≤ 8) (h3 : ∀ z, st ≠ .ref z :: st.tail ∨ st.tail.length < 2) (kk : Go O d M (pc + 3) ls (.int (if b < a then b else a) :: st) K P) : Go O d M pc ls (.int b :: .int a :: st) K P := by
  refine g_p hd ?_ kk
  have hne : mLnk M.1.cls k ≠ some (yMax, none) := by rw [hl]; decide
  delta mPrm
  dsimp only
  split
  · rename_i n dp a' sp q r heq
    exfalso
    simp only [List.cons.injEq] at heq
    rcases h3 a' with h | h
    · exact h (by rw [heq.2.2]; rfl)
    · rw [heq.2.2] at h
      simp only [List.tail_cons, List.length_cons] at h
      omega
  · rename_i heq
    cases heq
    rw [if_neg (fun z => hne z.2.1), if_pos ⟨rfl, hl, hs⟩]
  · rename_i h1 h2
    first | exact (h1 _ _ _ rfl).elim | exact (h2 _ _ _ rfl).elim
variable {Z : mM} {k na : Nat} {as rest : List Value} {A : Option Value → mH → Prop}
theorem g_stat (hd : decode M.2.1 pc = .ok (.invokestatic k, 3)) {h : Option String} (hv : mSts M.1.cls k = some (Z.1, h, Z.2.1, Z.2.2.1, Z.2.2.2, na)) (hl : mLnk M.1.cls k ≠ some (arraycopyName, none) ∧ mLnk M.1.cls k ≠ some (yMax, none) ∧ mLnk M.1.cls k ≠ some (yMin, none)) (hna : na ≤ st.length) (has : (st.take na).reverse = as) (hre : st.drop na = rest) (hs : mSum rest ≤ 8) (ha : (mArg as).length ≤ Z.2.2.1) (hz : Rn O d Z as K A)
    (kk : ∀ (v : Option Value) (K1 : mH), A v K1 → Go O (d + 1) M (pc + 3) ls (v.toList ++ rest) K1 P) : Go O (d + 1) M pc ls st K P := by
  refine g_c hd ?_ ?_ hz kk
  · delta mPrm
    dsimp only
    split
    · split
      · rw [if_neg (fun z => hl.1 z.2.1)]
      · rfl
    · rw [if_neg (fun z => hl.2.1 z.2.1), if_neg (fun z => hl.2.2 z.2.1)]
    · rfl
  · delta mInv
    dsimp only
    rw [hv]
    dsimp only
    rw [hre, has, if_pos ⟨rfl, hna, hs, ha⟩]
theorem g_virt {u n : Nat} {T : Nat → mT} {I : Nat → Nat → Int32} {J : Nat → Nat → Int64} {R : Nat → Nat → Option Nat} {a ci : Nat} {ks : List Nat} {c : vw_C} (hd : decode M.2.1 pc = .ok (.invokevirtual k, 3)) (hv : mVir M.1.cls k = some (Z.1, Z.2.1, Z.2.2.1, Z.2.2.2, na)) (hl : mLnk M.1.cls k ≠ some (yChr, none)) (hna : na ≤ st.length) (has : (st.take na).reverse = as) (hre : st.drop na = .ref a :: rest) (hs : mSum rest ≤ 8) (har : (mArg (.ref a :: as)).length ≤ Z.2.2.1)
    (hT : T a = (100 + ci, ks)) (hc : mCls[ci]? = some c) (hcz : c.1 = Z.1.cls) (ha : a < n) (hn : n ≤ oB) (hz : Rn O d Z (.ref a :: as) (hp u n T I J R) A)
    (kk : ∀ (v : Option Value) (K1 : mH), A v K1 → Go O (d + 1) M (pc + 3) ls (v.toList ++ rest) K1 P) : Go O (d + 1) M pc ls st (hp u n T I J R) P := by
  refine g_c hd ?_ ?_ hz kk
  · delta mPrm
    dsimp only
    split
    · rw [if_neg (fun z => hl z.2.1)]
    · rfl
  · delta mInv
    dsimp only
    rw [hv]
    dsimp only
    rw [hre]
    dsimp only
    rw [hp_get ha, hT, cel_o]
    dsimp only
    rw [hc]
    dsimp only
    rw [has, if_pos ⟨rfl, Nat.lt_of_lt_of_le ha hn, hcz, hna, hs, har⟩]
theorem g_spec {a : Nat} (hd : decode M.2.1 pc = .ok (.invokespecial k, 3)) {h : Option String} (hr : Z.2.2.2 = none) (hv : mSpe M.1.cls k = some (Z.1, h, Z.2.1, Z.2.2.1, none, na)) (hl : mLnk M.1.cls k ≠ some (objectInit, none)) (hna : na ≤ st.length) (has : (st.take na).reverse = as) (hre : st.drop na = .ref a :: rest) (hs : mSum rest ≤ 8) (har : (mArg (.ref a :: as)).length ≤ Z.2.2.1) (hz : Rn O d Z (.ref a :: as) K A)
    (kk : ∀ (v : Option Value) (K1 : mH), A v K1 → Go O (d + 1) M (pc + 3) ls (v.toList ++ rest) K1 P) : Go O (d + 1) M pc ls st K P := by
  refine g_c hd ?_ ?_ hz kk
  · delta mPrm
    dsimp only
    split
    · rw [if_neg (fun z => hl z.2.1)]
    · rfl
  · delta mInv
    dsimp only
    rw [hv]
    dsimp only
    rw [hre]
    dsimp only
    rw [has, hr, if_pos ⟨rfl, hna, hs, har⟩]
end ROWS2
