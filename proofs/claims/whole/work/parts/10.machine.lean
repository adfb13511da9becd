/-! THE SMALL MACHINE: a function of Lean that runs the bytecode over a heap that is a list. One theorem (part 12) says that the model's machine does what it does; all further work is about this function alone. -/
/-- a cell: an array (its sort, its length, what it holds) or an object (the number of its kind, its fields) -/
abbrev mE : Type := (Nat × vp_A) ⊕ (Nat × List Value)
/-- a heap: how many slots were ever taken, and the cells by their numbers -/
abbrev mH : Type := Nat × List mE
/-- int arrays that were there before: nobody writes them -/
abbrev mO : Type := List (Nat × (Nat → Int32))
/-- their numbers, as references, begin here -/
def oB : Nat := 1000000
/-- the String of words, as a reference -/
def oS : Nat := 1000100
abbrev mCls : List vw_C := [(RX0, TX0, 2), (RX1, TX1, 1), (RX2, TX2, 18), (RX3, TX3, 3), (RX4, TX4, 2), (RX5, TX5, 4), (RX6, TX6, 10), (RX7, TX7, 14), (RX8, TX8, 2), (RX9, TX9, 6), (RX10, TX10, 17), (RX11, TX11, 56)]
def mTy (ci : Nat) : Nat → FieldType := match ci with
  | 0 => tyX0
  | 1 => tyX1
  | 2 => tyX2
  | 3 => tyX3
  | 4 => tyX4
  | 5 => tyX5
  | 6 => tyX6
  | 7 => tyX7
  | 8 => tyX8
  | 9 => tyX9
  | 10 => tyX10
  | _ => tyX11
/-- what the sorts of arrays hold -/
def mAty : List FieldType := [.int, .long, .byte, .boolean, .object RX2, .object RX5]
/-- the code of a method -/
def mCode (y : MethodName) : Option (ByteArray × Nat × Option FieldType) := lw_tbl.findSome? (fun c => match c with
  | .code z b n r => if z.name = y.name ∧ z.desc = y.desc ∧ z.cls = y.cls then some (b, n, r) else none
  | _ => none)
def mFldS (own : String) (i : Nat) : Option (String × String × String) := lw_tbl.findSome? (fun c => match c with
  | .fieldLink o j r n d => if j = i ∧ o = own then some (r, n, d) else none
  | _ => none)
def mSlot (q : String × String × String) : Option (Nat × Nat) := (List.range mCls.length).findSome? (fun ci => match mCls[ci]? with
  | some r => (List.range r.2.2).findSome? (fun k => if (r.2.1 k).1 = q.1 ∧ (r.2.1 k).2.1 = q.2.1 ∧ (r.2.1 k).2.2.1 = q.2.2 then some (ci, k) else none)
  | none => none)
/-- a field: the number of its kind, its slot -/
def mFld (own : String) (i : Nat) : Option (Nat × Nat) := (mFldS own i).bind mSlot
def mNewC (own : String) (i : Nat) : Option String := lw_tbl.findSome? (fun c => match c with
  | .classLink o j r => if j = i ∧ o = own then some r else none
  | _ => none)
def mNew (own : String) (i : Nat) : Option (Nat × Nat) := (mNewC own i).bind (fun C => (List.range mCls.length).findSome? (fun ci => match mCls[ci]? with
  | some r => if r.1 = C then some (ci, r.2.2) else none
  | none => none))
/-- the sort of an array of references -/
def mNewA (own : String) (i : Nat) : Option Nat := (mNewC own i).bind (fun C => if C = RX2 then some 4 else if C = RX5 then some 5 else none)
def mInt (own : String) (i : Nat) : Option Int32 := lw_tbl.findSome? (fun c => match c with
  | .constant o j v => if j = i ∧ o = own then some v else none
  | _ => none)
def mLong (own : String) (i : Nat) : Option Int64 := lw_tbl.findSome? (fun c => match c with
  | .constantLong o j v => if j = i ∧ o = own then some v else none
  | _ => none)
/-- the constants of Strings: there is one -/
def mStr (own : String) (i : Nat) : Bool := lw_tbl.any (fun c => match c with
  | .stringRef o j _ => decide (j = i ∧ o = own)
  | _ => false)
/-- static fields: their names, and which of the arrays that were there they hold -/
def mStat : List (String × String × String × Nat) := [("VaultLeases", "HIGHEST_TERMS", "[I", 1), ("VaultLeases", "LEAST_TOLD", "[I", 2), ("VaultLeases", "MOST_TOLD", "[I", 3), ("VaultLeases", "TOLD_WITHOUT", "[I", 4)]
def mStatO (q : String × String × String) : Option Nat := mStat.findSome? (fun x => if x.1 = q.1 ∧ x.2.1 = q.2.1 ∧ x.2.2.1 = q.2.2 then some x.2.2.2 else none)
/-- a static field by its link: of the own class's, or of a nest mate's (then with its host) -/
def mStaS (own : String) (i : Nat) : Option ((String × String × String) × Option String) := lw_tbl.findSome? (fun c => match c with
  | .fieldLink o j r n d => if j = i ∧ o = own then some ((r, n, d), none) else none
  | .fieldLinkNest o j r n d h => if j = i ∧ o = own then some ((r, n, d), some h) else none
  | _ => none)
def mSta (own : String) (i : Nat) : Option Nat := (mStaS own i).bind (fun q => mStatO q.1)
/-- words of a method that stand in the tables -/
def mHasI (y : MethodName) : Bool := lw_tbl.any (fun c => match c with
  | .instanceMethod z => decide (z.name = y.name ∧ z.desc = y.desc ∧ z.cls = y.cls)
  | _ => false)
def mHasS (y : MethodName) : Bool := lw_tbl.any (fun c => match c with
  | .static z => decide (z.name = y.name ∧ z.desc = y.desc ∧ z.cls = y.cls)
  | _ => false)
def mHasV (y : MethodName) : Bool := lw_tbl.any (fun c => match c with
  | .selects C z x => decide (z.name = y.name ∧ z.desc = y.desc ∧ z.cls = y.cls ∧ x.name = y.name ∧ x.desc = y.desc ∧ x.cls = y.cls ∧ C = y.cls)
  | _ => false)
def mHasN (C : String) : Bool := lw_tbl.any (fun c => match c with
  | .initialized D => decide (D = C)
  | _ => false)
/-- a method by its link -/
def mLnk (own : String) (i : Nat) : Option (MethodName × Option String) := lw_tbl.findSome? (fun c => match c with
  | .methodLink o j y => if j = i ∧ o = own then some (y, none) else none
  | .methodLinkNest o j y h => if j = i ∧ o = own then some (y, some h) else none
  | _ => none)
def mCan (y : MethodName) : Bool := decide (y.cls ≠ "java/lang/invoke/MethodHandle" ∧ y.cls ≠ "java/lang/invoke/VarHandle") && (plainName y.cls && mHasN y.cls)
def mPar (y : MethodName) : Option Nat := (parseMethodDescriptor y.desc).map (fun d => d.parameters.length)
/-- what a call needs: the code, how many locals, what it returns, how many arguments -/
def mCal (y : MethodName) : Option (ByteArray × Nat × Option FieldType × Nat) := match mCode y, mPar y with
  | some (b, nL, ret), some n => if nL ≤ 45 ∧ mCan y = true then some (b, nL, ret, n) else none
  | _, _ => none
def mVir (own : String) (i : Nat) : Option (MethodName × ByteArray × Nat × Option FieldType × Nat) := match mLnk own i with
  | some (y, none) => if mHasI y = true ∧ mHasV y = true then (mCal y).map (fun q => (y, q)) else none
  | _ => none
def mSts (own : String) (i : Nat) : Option (MethodName × Option String × ByteArray × Nat × Option FieldType × Nat) := match mLnk own i with
  | some (y, h) => if mHasS y = true then (mCal y).map (fun q => (y, h, q)) else none
  | _ => none
def mSpe (own : String) (i : Nat) : Option (MethodName × Option String × ByteArray × Nat × Option FieldType × Nat) := match mLnk own i with
  | some (y, h) => if y.name = "<init>" ∧ mHasI y = true then (mCal y).map (fun q => (y, h, q)) else none
  | _ => none
def yMax : MethodName := ⟨"java/lang/Math", "max", "(II)I"⟩
def yMin : MethodName := ⟨"java/lang/Math", "min", "(II)I"⟩
def yChr : MethodName := ⟨"java/lang/String", "charAt", "(I)C"⟩
/-- what a cell holds -/
def mgt (K : mH) (a : Nat) : Option mE := K.2[a]?
def mpt (K : mH) (a : Nat) (e : mE) : mH := (K.1, K.2.set a e)
def mad (K : mH) (n : Nat) (e : mE) : mH := (K.1 + n, K.2 ++ [e])
/-- an array to be read: its sort, its length, what it holds -/
def mAr (O : mO) (K : mH) (a : Nat) : Option (Nat × vp_A) := if oB ≤ a then (O[a - oB]?).map (fun x => (0, x.1, .inl x.2)) else match mgt K a with
  | some (.inl x) => some x
  | _ => none
/-- the locals: by their places; nothing is known of 'none' -/
def mLd (ls : List (Option Value)) (i : Nat) : Option Value := (ls[i]?).getD none
def mClr (ls : List (Option Value)) (i : Nat) : List (Option Value) := match i with
  | 0 => ls
  | j + 1 => match mLd ls j with
    | some v => if v.category = 2 then ls.set j none else ls
    | none => ls
def mSt1 (ls : List (Option Value)) (i : Nat) (v : Value) : List (Option Value) := (mClr ls i).set i (some v)
def mSt2 (ls : List (Option Value)) (i : Nat) (v : Value) : List (Option Value) := ((mClr ls i).set i (some v)).set (i + 1) none
def mSto (ls : List (Option Value)) (i : Nat) (v : Value) : List (Option Value) := if v.category = 2 then mSt2 ls i v else mSt1 ls i v
def mArg (vs : List Value) : List (Option Value) := vs.flatMap (fun v => if v.category = 2 then [some v, none] else [some v])
def mEnt (vs : List Value) (n : Nat) : List (Option Value) := mArg vs ++ List.replicate (n - (mArg vs).length) none
def mIdx (i : Int32) (n : Nat) : Bool := decide (¬ (i < 0 ∨ n ≤ i.toNatClampNeg))
/-- where a jump leads -/
def mJmp (pc : Nat) (off : Int) : Nat := ((pc : Int) + off).toNat
def mOk (pc : Nat) (off : Int) : Bool := decide (0 ≤ (pc : Int) + off)
def mCmp (c : ClassFile.Cond) (x y : Int32) : Bool := match c with
  | .eq => decide (x = y)
  | .ne => decide (x ≠ y)
  | .lt => decide (x < y)
  | .ge => decide (y ≤ x)
  | .gt => decide (y < x)
  | .le => decide (x ≤ y)
abbrev mC : Type := Nat × List (Option Value) × List Value × mH
def mArS (t : ArrayType) : Option (Nat × (Nat → vp_A)) := match t with
  | .int => some (0, fun n => (n, .inl (fun _ => 0)))
  | .long => some (1, fun n => (n, .inr (.inl (fun _ => 0))))
  | .byte => some (2, fun n => (n, .inl (fun _ => 0)))
  | .boolean => some (3, fun n => (n, .inl (fun _ => 0)))
  | _ => none
/-- one instruction that neither calls nor returns -/
def mStep (O : mO) (y : MethodName) (nL pc : Nat) (ls : List (Option Value)) (st : List Value) (K : mH) (i : Instr) (len : Nat) : Option mC :=
  match i with
  | .aconst_null => if len = 1 then some (pc + 1, ls, .null :: st, K) else none
  | .iconst n => if len = 1 then some (pc + 1, ls, .int (Int32.ofInt n) :: st, K) else none
  | .bipush n => if len = 2 then some (pc + 2, ls, .int (Int8.ofInt n).toInt32 :: st, K) else none
  | .sipush n => if len = 3 then some (pc + 3, ls, .int (Int16.ofInt n).toInt32 :: st, K) else none
  | .lconst n => if len = 1 then some (pc + 1, ls, .long (Int64.ofNat (n : Nat)) :: st, K) else none
  | .ldc k => match mInt y.cls k with
    | some v => if len = 2 then some (pc + 2, ls, .int v :: st, K) else none
    | none => if len = 2 ∧ mStr y.cls k = true then some (pc + 2, ls, .ref oS :: st, K) else none
  | .ldc_w k => match mInt y.cls k with
    | some v => if len = 3 then some (pc + 3, ls, .int v :: st, K) else none
    | none => none
  | .ldc2_w k => match mLong y.cls k with
    | some v => if len = 3 then some (pc + 3, ls, .long v :: st, K) else none
    | none => none
  | .iload_n k => match mLd ls k with
    | some (.int x) => if len = 1 then some (pc + 1, ls, .int x :: st, K) else none
    | _ => none
  | .iload k => match mLd ls k with
    | some (.int x) => if len = 2 then some (pc + 2, ls, .int x :: st, K) else none
    | _ => none
  | .lload_n k => match mLd ls k with
    | some (.long x) => if len = 1 then some (pc + 1, ls, .long x :: st, K) else none
    | _ => none
  | .lload k => match mLd ls k with
    | some (.long x) => if len = 2 then some (pc + 2, ls, .long x :: st, K) else none
    | _ => none
  | .aload_n k => match mLd ls k with
    | some (.ref x) => if len = 1 then some (pc + 1, ls, .ref x :: st, K) else none
    | some .null => if len = 1 then some (pc + 1, ls, .null :: st, K) else none
    | _ => none
  | .aload k => match mLd ls k with
    | some (.ref x) => if len = 2 then some (pc + 2, ls, .ref x :: st, K) else none
    | some .null => if len = 2 then some (pc + 2, ls, .null :: st, K) else none
    | _ => none
  | .istore_n k => match st with
    | .int x :: r => if len = 1 ∧ (k : Nat) < nL then some (pc + 1, mSt1 ls k (.int x), r, K) else none
    | _ => none
  | .istore k => match st with
    | .int x :: r => if len = 2 ∧ k < nL then some (pc + 2, mSt1 ls k (.int x), r, K) else none
    | _ => none
  | .lstore_n k => match st with
    | .long x :: r => if len = 1 ∧ (k : Nat) + 1 < nL then some (pc + 1, mSt2 ls k (.long x), r, K) else none
    | _ => none
  | .lstore k => match st with
    | .long x :: r => if len = 2 ∧ k + 1 < nL then some (pc + 2, mSt2 ls k (.long x), r, K) else none
    | _ => none
  | .astore_n k => match st with
    | .ref x :: r => if len = 1 ∧ (k : Nat) < nL then some (pc + 1, mSt1 ls k (.ref x), r, K) else none
    | .null :: r => if len = 1 ∧ (k : Nat) < nL then some (pc + 1, mSt1 ls k .null, r, K) else none
    | _ => none
  | .astore k => match st with
    | .ref x :: r => if len = 2 ∧ k < nL then some (pc + 2, mSt1 ls k (.ref x), r, K) else none
    | .null :: r => if len = 2 ∧ k < nL then some (pc + 2, mSt1 ls k .null, r, K) else none
    | _ => none
  | .iinc k n => match mLd ls k with
    | some (.int x) => if len = 3 ∧ k < nL then some (pc + 3, mSt1 ls k (.int (x + Int32.ofInt n)), st, K) else none
    | _ => none
  | .iadd => match st with
    | .int b :: .int a :: r => if len = 1 then some (pc + 1, ls, .int (a + b) :: r, K) else none
    | _ => none
  | .isub => match st with
    | .int b :: .int a :: r => if len = 1 then some (pc + 1, ls, .int (a - b) :: r, K) else none
    | _ => none
  | .imul => match st with
    | .int b :: .int a :: r => if len = 1 then some (pc + 1, ls, .int (a * b) :: r, K) else none
    | _ => none
  | .iand => match st with
    | .int b :: .int a :: r => if len = 1 then some (pc + 1, ls, .int (a &&& b) :: r, K) else none
    | _ => none
  | .ior => match st with
    | .int b :: .int a :: r => if len = 1 then some (pc + 1, ls, .int (a ||| b) :: r, K) else none
    | _ => none
  | .ixor => match st with
    | .int b :: .int a :: r => if len = 1 then some (pc + 1, ls, .int (a ^^^ b) :: r, K) else none
    | _ => none
  | .idiv => match st with
    | .int b :: .int a :: r => if len = 1 ∧ ¬ b = 0 then some (pc + 1, ls, .int (a / b) :: r, K) else none
    | _ => none
  | .irem => match st with
    | .int b :: .int a :: r => if len = 1 ∧ ¬ b = 0 then some (pc + 1, ls, .int (a - a / b * b) :: r, K) else none
    | _ => none
  | .ineg => match st with
    | .int a :: r => if len = 1 then some (pc + 1, ls, .int (-a) :: r, K) else none
    | _ => none
  | .ishl => match st with
    | .int b :: .int a :: r => if len = 1 then some (pc + 1, ls, .int (a <<< (b &&& 31)) :: r, K) else none
    | _ => none
  | .ishr => match st with
    | .int b :: .int a :: r => if len = 1 then some (pc + 1, ls, .int (a >>> (b &&& 31)) :: r, K) else none
    | _ => none
  | .iushr => match st with
    | .int b :: .int a :: r => if len = 1 then some (pc + 1, ls, .int (a.toUInt32 >>> (b.toUInt32 &&& Int32.toUInt32 31)).toInt32 :: r, K) else none
    | _ => none
  | .ladd => match st with
    | .long b :: .long a :: r => if len = 1 then some (pc + 1, ls, .long (a + b) :: r, K) else none
    | _ => none
  | .lsub => match st with
    | .long b :: .long a :: r => if len = 1 then some (pc + 1, ls, .long (a - b) :: r, K) else none
    | _ => none
  | .lmul => match st with
    | .long b :: .long a :: r => if len = 1 then some (pc + 1, ls, .long (a * b) :: r, K) else none
    | _ => none
  | .ldiv => match st with
    | .long b :: .long a :: r => if len = 1 ∧ ¬ b = 0 then some (pc + 1, ls, .long (a / b) :: r, K) else none
    | _ => none
  | .lrem => match st with
    | .long b :: .long a :: r => if len = 1 ∧ ¬ b = 0 then some (pc + 1, ls, .long (a - a / b * b) :: r, K) else none
    | _ => none
  | .lcmp => match st with
    | .long b :: .long a :: r => if len = 1 then some (pc + 1, ls, .int (lg_cmp a b) :: r, K) else none
    | _ => none
  | .i2l => match st with
    | .int a :: r => if len = 1 then some (pc + 1, ls, .long a.toInt64 :: r, K) else none
    | _ => none
  | .l2i => match st with
    | .long a :: r => if len = 1 then some (pc + 1, ls, .int a.toInt32 :: r, K) else none
    | _ => none
  | .i2b => match st with
    | .int a :: r => if len = 1 then some (pc + 1, ls, .int a.toInt8.toInt32 :: r, K) else none
    | _ => none
  | .dup => match st with
    | v :: r => if len = 1 ∧ v.category = 1 then some (pc + 1, ls, v :: v :: r, K) else none
    | _ => none
  | .dup_x1 => match st with
    | v :: w :: r => if len = 1 ∧ v.category = 1 ∧ w.category = 1 then some (pc + 1, ls, v :: w :: v :: r, K) else none
    | _ => none
  | .dup_x2 => match st with
    | v :: w :: u :: r => if len = 1 ∧ v.category = 1 ∧ w.category = 1 ∧ u.category = 1 then some (pc + 1, ls, v :: w :: u :: v :: r, K) else none
    | _ => none
  | .dup2 => match st with
    | v :: w :: r => if len = 1 ∧ v.category = 1 ∧ w.category = 1 then some (pc + 1, ls, v :: w :: v :: w :: r, K) else if len = 1 ∧ v.category = 2 then some (pc + 1, ls, v :: v :: w :: r, K) else none
    | [v] => if len = 1 ∧ v.category = 2 then some (pc + 1, ls, [v, v], K) else none
    | _ => none
  | .pop => match st with
    | v :: r => if len = 1 ∧ v.category = 1 then some (pc + 1, ls, r, K) else none
    | _ => none
  | .goto off => if len = 3 ∧ mOk pc off = true then some (mJmp pc off, ls, st, K) else none
  | .ifCond c off => match st with
    | .int a :: r => if len = 3 ∧ mOk pc off = true then some (if mCmp c a 0 = true then mJmp pc off else pc + 3, ls, r, K) else none
    | _ => none
  | .if_icmp c off => match st with
    | .int b :: .int a :: r => if len = 3 ∧ mOk pc off = true then some (if mCmp c a b = true then mJmp pc off else pc + 3, ls, r, K) else none
    | _ => none
  | .ifnull off => match st with
    | .null :: r => if len = 3 ∧ mOk pc off = true then some (mJmp pc off, ls, r, K) else none
    | .ref _ :: r => if len = 3 then some (pc + 3, ls, r, K) else none
    | _ => none
  | .ifnonnull off => match st with
    | .null :: r => if len = 3 then some (pc + 3, ls, r, K) else none
    | .ref _ :: r => if len = 3 ∧ mOk pc off = true then some (mJmp pc off, ls, r, K) else none
    | _ => none
  | .tableswitch dflt lo hi offs => match st with
    | .int x :: r => if x.toInt < lo ∨ hi < x.toInt then (if mOk pc dflt = true then some (mJmp pc dflt, ls, r, K) else none) else match offs[(x.toInt - lo).toNat]? with
      | some off => if mOk pc off = true then some (mJmp pc off, ls, r, K) else none
      | none => none
    | _ => none
  | .lookupswitch dflt ps => match st with
    | .int x :: r => if (ps.toList.zip (ps.toList.drop 1)).all (fun (a, next) => a.1 < next.1) = true ∧ mOk pc (Op.lookupswitch.offset ps.toList dflt x.toInt) = true then some (mJmp pc (Op.lookupswitch.offset ps.toList dflt x.toInt), ls, r, K) else none
    | _ => none
  | .arraylength => match st with
    | .ref a :: r => match mAr O K a with
      | some x => if len = 1 ∧ x.1 < 6 then some (pc + 1, ls, .int (Int32.ofNat x.2.1) :: r, K) else none
      | none => none
    | _ => none
  | .iaload => match st with
    | .int j :: .ref a :: r => match mAr O K a with
      | some (0, n, .inl f) => if len = 1 ∧ mIdx j n = true then some (pc + 1, ls, .int (f j.toNatClampNeg) :: r, K) else none
      | _ => none
    | _ => none
  | .baload => match st with
    | .int j :: .ref a :: r => match mAr O K a with
      | some (2, n, .inl f) => if len = 1 ∧ mIdx j n = true then some (pc + 1, ls, .int (f j.toNatClampNeg) :: r, K) else none
      | some (3, n, .inl f) => if len = 1 ∧ mIdx j n = true then some (pc + 1, ls, .int (f j.toNatClampNeg) :: r, K) else none
      | _ => none
    | _ => none
  | .laload => match st with
    | .int j :: .ref a :: r => match mAr O K a with
      | some (1, n, .inr (.inl f)) => if len = 1 ∧ mIdx j n = true then some (pc + 1, ls, .long (f j.toNatClampNeg) :: r, K) else none
      | _ => none
    | _ => none
  | .aaload => match st with
    | .int j :: .ref a :: r => match mAr O K a with
      | some (t, n, .inr (.inr (.inr (.inr f)))) => if len = 1 ∧ (t = 4 ∨ t = 5) ∧ mIdx j n = true then some (pc + 1, ls, va_rf (f j.toNatClampNeg) :: r, K) else none
      | _ => none
    | _ => none
  | .iastore => match st with
    | .int v :: .int j :: .ref a :: r => match mgt K a with
      | some (.inl (0, n, .inl f)) => if len = 1 ∧ a < oB ∧ mIdx j n = true then some (pc + 1, ls, r, mpt K a (.inl (0, n, .inl (upd f j.toNatClampNeg v)))) else none
      | _ => none
    | _ => none
  | .bastore => match st with
    | .int v :: .int j :: .ref a :: r => match mgt K a with
      | some (.inl (2, n, .inl f)) => if len = 1 ∧ a < oB ∧ mIdx j n = true then some (pc + 1, ls, r, mpt K a (.inl (2, n, .inl (upd f j.toNatClampNeg (vp_nar .byte v))))) else none
      | some (.inl (3, n, .inl f)) => if len = 1 ∧ a < oB ∧ mIdx j n = true then some (pc + 1, ls, r, mpt K a (.inl (3, n, .inl (upd f j.toNatClampNeg (vp_nar .boolean v))))) else none
      | _ => none
    | _ => none
  | .lastore => match st with
    | .long v :: .int j :: .ref a :: r => match mgt K a with
      | some (.inl (1, n, .inr (.inl f))) => if len = 1 ∧ a < oB ∧ mIdx j n = true then some (pc + 1, ls, r, mpt K a (.inl (1, n, .inr (.inl (vp_updL f j.toNatClampNeg v))))) else none
      | _ => none
    | _ => none
  | .aastore => match st with
    | .ref v :: .int j :: .ref a :: r => match mgt K a, mgt K v with
      | some (.inl (t, n, .inr (.inr (.inr (.inr f))))), some (.inr (ci, _)) => if len = 1 ∧ a < oB ∧ v < oB ∧ ((t = 4 ∧ ci = 2) ∨ (t = 5 ∧ ci = 5)) ∧ mIdx j n = true then some (pc + 1, ls, r, mpt K a (.inl (t, n, .inr (.inr (.inr (.inr (va_up f j.toNatClampNeg (some v)))))))) else none
      | _, _ => none
    | .null :: .int j :: .ref a :: r => match mgt K a with
      | some (.inl (t, n, .inr (.inr (.inr (.inr f))))) => if len = 1 ∧ a < oB ∧ (t = 4 ∨ t = 5) ∧ mIdx j n = true then some (pc + 1, ls, r, mpt K a (.inl (t, n, .inr (.inr (.inr (.inr (va_up f j.toNatClampNeg none))))))) else none
      | _ => none
    | _ => none
  | .getfield k => match st with
    | .ref a :: r => match mFld y.cls k, mgt K a with
      | some (ci, sl), some (.inr (cj, fs)) => match fs[sl]? with
        | some v => if len = 3 ∧ a < oB ∧ ci = cj then some (pc + 3, ls, v :: r, K) else none
        | none => none
      | _, _ => none
    | _ => none
  | .putfield k => match st with
    | v :: .ref a :: r => match mFld y.cls k, mgt K a with
      | some (ci, sl), some (.inr (cj, fs)) => match mCls[ci]? with
        | some c => if len = 3 ∧ a < oB ∧ ci = cj ∧ sl < fs.length ∧ narrow (mTy ci sl) v = v ∧ fits (mTy ci sl) v = true ∧ ((c.2.1 sl).2.2.2 = true → y.name = "<init>" ∧ (c.2.1 sl).1 = y.cls) then some (pc + 3, ls, r, mpt K a (.inr (ci, fs.set sl v))) else none
        | none => none
      | _, _ => none
    | _ => none
  | .getstatic k => match mSta y.cls k with
    | some o => if len = 3 then some (pc + 3, ls, .ref (oB + o) :: st, K) else none
    | none => none
  | .new k => match mNew y.cls k with
    | some (ci, n) => if len = 3 ∧ K.2.length < oB then some (pc + 3, ls, .ref K.2.length :: st, mad K n (.inr (ci, (List.range n).map (fun j => defaultValue (mTy ci j))))) else none
    | none => none
  | .newarray t => match st with
    | .int n :: r => match mArS t with
      | some (s, f) => if len = 2 ∧ ¬ n < 0 ∧ n.toNatClampNeg ≤ 1000000 ∧ K.2.length < oB then some (pc + 2, ls, .ref K.2.length :: r, mad K n.toNatClampNeg (.inl (s, f n.toNatClampNeg))) else none
      | none => none
    | _ => none
  | .anewarray k => match st with
    | .int n :: r => match mNewA y.cls k with
      | some s => if len = 3 ∧ ¬ n < 0 ∧ n.toNatClampNeg ≤ 1000000 ∧ K.2.length < oB then some (pc + 3, ls, .ref K.2.length :: r, mad K n.toNatClampNeg (.inl (s, n.toNatClampNeg, .inr (.inr (.inr (.inr (fun _ => none))))))) else none
      | none => none
    | _ => none
  | _ => none
/-- the codes of the String of words -/
def mChs : List Nat := ("priceslasts earns bars  renew lodge knock pass  if    or    and   not   in    times dead  familyvault beds  free  mood  term  means year  done  latestinside".toList).map Char.toNat
def mSum (st : List Value) : Nat := (st.map fun v => v.category).sum
/-- calls that are steps: Object's constructor, String.charAt, System.arraycopy, Math.max, Math.min -/
def mPrm (O : mO) (y : MethodName) (pc : Nat) (ls : List (Option Value)) (st : List Value) (K : mH) (i : Instr) (len : Nat) : Option mC :=
  match i with
  | .invokespecial k => match st with
    | .ref _ :: r => if len = 3 ∧ mLnk y.cls k = some (objectInit, none) ∧ mSum r ≤ 8 then some (pc + 3, ls, r, K) else none
    | _ => none
  | .invokevirtual k => match st with
    | .int j :: .ref a :: r => if len = 3 ∧ mLnk y.cls k = some (yChr, none) ∧ a = oS ∧ mIdx j mChs.length = true ∧ mSum r ≤ 8 then some (pc + 3, ls, .int (nI (mChs.getD j.toNatClampNeg 0)) :: r, K) else none
    | _ => none
  | .invokestatic k => match st with
    | .int n :: .int dp :: .ref a :: .int sp :: .ref b :: r => match mgt K a, mgt K b with
      | some (.inl (0, n1, .inl g)), some (.inl (0, n0, .inl f)) => if len = 3 ∧ mLnk y.cls k = some (arraycopyName, none) ∧ a < oB ∧ b < oB ∧ mSum r ≤ 8 ∧ ¬ sp < 0 ∧ ¬ dp < 0 ∧ ¬ n < 0 ∧ sp.toNatClampNeg + n.toNatClampNeg ≤ n0 ∧ dp.toNatClampNeg + n.toNatClampNeg ≤ n1 then some (pc + 3, ls, r, mpt K a (.inl (0, n1, .inl (va_cpy f g sp.toNatClampNeg dp.toNatClampNeg n.toNatClampNeg)))) else none
      | _, _ => none
    | .int b :: .int a :: r => if len = 3 ∧ mLnk y.cls k = some (yMax, none) ∧ mSum r ≤ 8 then some (pc + 3, ls, .int (if a < b then b else a) :: r, K) else if len = 3 ∧ mLnk y.cls k = some (yMin, none) ∧ mSum r ≤ 8 then some (pc + 3, ls, .int (if b < a then b else a) :: r, K) else none
    | _ => none
  | _ => none
/-- what a call does, told ahead: the method, its code, how many locals, what it returns, its arguments, the rest of the stack -/
def mInv (y : MethodName) (st : List Value) (K : mH) (i : Instr) (len : Nat) : Option (MethodName × ByteArray × Nat × Option FieldType × List Value × List Value) :=
  match i with
  | .invokevirtual k => match mVir y.cls k with
    | some (z, b, nL, ret, n) => match st.drop n with
      | .ref a :: r => match mgt K a with
        | some (.inr (ci, _)) => match mCls[ci]? with
          | some c => if len = 3 ∧ a < oB ∧ c.1 = z.cls ∧ n ≤ st.length ∧ mSum r ≤ 8 ∧ (mArg (.ref a :: (st.take n).reverse)).length ≤ nL then some (z, b, nL, ret, .ref a :: (st.take n).reverse, r) else none
          | none => none
        | _ => none
      | _ => none
    | none => none
  | .invokestatic k => match mSts y.cls k with
    | some (z, _, b, nL, ret, n) => if len = 3 ∧ n ≤ st.length ∧ mSum (st.drop n) ≤ 8 ∧ (mArg (st.take n).reverse).length ≤ nL then some (z, b, nL, ret, (st.take n).reverse, st.drop n) else none
    | none => none
  | .invokespecial k => match mSpe y.cls k with
    | some (z, _, b, nL, none, n) => match st.drop n with
      | .ref a :: r => if len = 3 ∧ n ≤ st.length ∧ mSum r ≤ 8 ∧ (mArg (.ref a :: (st.take n).reverse)).length ≤ nL then some (z, b, nL, none, .ref a :: (st.take n).reverse, r) else none
      | _ => none
    | _ => none
  | _ => none
/-- a return -/
def mRet (ret : Option FieldType) (st : List Value) (i : Instr) (len : Nat) : Option (Option Value) :=
  match i with
  | .ireturn => match st, ret with
    | [.int v], some t => if len = 1 ∧ narrow t (.int v) = .int v then some (some (.int v)) else none
    | _, _ => none
  | .lreturn => match st, ret with
    | [.long v], some .long => if len = 1 then some (some (.long v)) else none
    | _, _ => none
  | .areturn => match st, ret with
    | [.ref a], some (.object _) => if len = 1 then some (some (.ref a)) else none
    | [.null], some (.object _) => if len = 1 then some (some .null) else none
    | _, _ => none
  | .return_ => match st, ret with
    | [], none => if len = 1 then some none else none
    | _, _ => none
  | _ => none
/-- THE MACHINE: n is how long it may run, d how deep it may call -/
def mEx (O : mO) : Nat → Nat → MethodName → ByteArray → Nat → Option FieldType → Nat → List (Option Value) → List Value → mH → Option (Option Value × mH)
  | 0, _, _, _, _, _, _, _, _, _ => none
  | n + 1, d, y, b, nL, ret, pc, ls, st, K =>
    match decode b pc with
    | .ok (i, len) => match mRet ret st i len with
      | some r => some (r, K)
      | none => match mStep O y nL pc ls st K i len with
        | some c => mEx O n d y b nL ret c.1 c.2.1 c.2.2.1 c.2.2.2
        | none => match mPrm O y pc ls st K i len with
          | some c => mEx O n d y b nL ret c.1 c.2.1 c.2.2.1 c.2.2.2
          | none => match mInv y st K i len with
            | some (z, zb, zL, zr, as, rest) => match d with
              | 0 => none
              | d' + 1 => match mEx O n d' z zb zL zr 0 (mEnt as zL) [] K with
                | some (v, K') => mEx O n (d' + 1) y b nL ret (pc + 3) ls (v.toList ++ rest) K'
                | none => none
            | none => none
    | .error _ => none
