/-! running the small machine: more time and more depth do no harm -/
set_option maxHeartbeats 4000000 in
theorem mStep_ret {O : mO} {y : MethodName} {nL pc len : Nat} {ls : List (Option Value)} {st : List Value} {K : mH} {i : Instr} {cf : mC} {ret : Option FieldType} (h : mStep O y nL pc ls st K i len = some cf) : mRet ret st i len = none := by
  cases i <;> first | rfl | (cases (show (none : Option mC) = some cf from h))
theorem mPrm_no {O : mO} {y : MethodName} {nL pc len : Nat} {ls : List (Option Value)} {st : List Value} {K : mH} {i : Instr} {cf : mC} {ret : Option FieldType} (h : mPrm O y pc ls st K i len = some cf) : mRet ret st i len = none ∧ mStep O y nL pc ls st K i len = none := by
  cases i <;> first | (cases (show (none : Option mC) = some cf from h); done) | exact ⟨rfl, rfl⟩
theorem mInv_no {O : mO} {y : MethodName} {nL pc len : Nat} {ls : List (Option Value)} {st : List Value} {K : mH} {i : Instr} {q : MethodName × ByteArray × Nat × Option FieldType × List Value × List Value} {ret : Option FieldType} (h : mInv y st K i len = some q) : mRet ret st i len = none ∧ mStep O y nL pc ls st K i len = none := by
  cases i <;> first | (cases (show (none : Option (MethodName × ByteArray × Nat × Option FieldType × List Value × List Value)) = some q from h); done) | exact ⟨rfl, rfl⟩
section GO
variable {O : mO} {n d : Nat} {y : MethodName} {b : ByteArray} {nL : Nat} {ret : Option FieldType} {pc : Nat} {ls : List (Option Value)} {st : List Value} {K : mH} {i : Instr} {len : Nat}
theorem mEx_r (hd : decode b pc = .ok (i, len)) {r : Option Value} (h : mRet ret st i len = some r) : mEx O (n + 1) d y b nL ret pc ls st K = some (r, K) := by
  show (match decode b pc with | .ok (i, len) => _ | .error _ => none) = _
  rw [hd]
  dsimp only
  rw [h]
theorem mEx_s (hd : decode b pc = .ok (i, len)) {cf : mC} (h : mStep O y nL pc ls st K i len = some cf) : mEx O (n + 1) d y b nL ret pc ls st K = mEx O n d y b nL ret cf.1 cf.2.1 cf.2.2.1 cf.2.2.2 := by
  show (match decode b pc with | .ok (i, len) => _ | .error _ => none) = _
  rw [hd]
  dsimp only
  rw [mStep_ret h, h]
theorem mEx_p (hd : decode b pc = .ok (i, len)) {cf : mC} (h : mPrm O y pc ls st K i len = some cf) : mEx O (n + 1) d y b nL ret pc ls st K = mEx O n d y b nL ret cf.1 cf.2.1 cf.2.2.1 cf.2.2.2 := by
  show (match decode b pc with | .ok (i, len) => _ | .error _ => none) = _
  rw [hd]
  dsimp only
  rw [(mPrm_no (nL := nL) (ret := ret) h).1, (mPrm_no (nL := nL) (ret := ret) h).2, h]
theorem mEx_c (hd : decode b pc = .ok (i, len)) (hp : mPrm O y pc ls st K i len = none) {z : MethodName} {zb : ByteArray} {zL : Nat} {zr : Option FieldType} {as rest : List Value} (h : mInv y st K i len = some (z, zb, zL, zr, as, rest)) {v : Option Value} {K1 : mH} (hc : mEx O n d z zb zL zr 0 (mEnt as zL) [] K = some (v, K1)) : mEx O (n + 1) (d + 1) y b nL ret pc ls st K = mEx O n (d + 1) y b nL ret (pc + 3) ls (v.toList ++ rest) K1 := by
  show (match decode b pc with | .ok (i, len) => _ | .error _ => none) = _
  rw [hd]
  dsimp only
  rw [(mInv_no (O := O) (nL := nL) (pc := pc) (ls := ls) (ret := ret) h).1, (mInv_no (O := O) (nL := nL) (pc := pc) (ls := ls) (ret := ret) h).2, hp, h]
  dsimp only
  rw [hc]
end GO
/-- as mEx_inv, with what the machine looked at before -/
theorem mEx_inw {O : mO} {n d : Nat} {y : MethodName} {b : ByteArray} {nL : Nat} {ret : Option FieldType} {pc : Nat} {ls : List (Option Value)} {st : List Value} {K K' : mH} {r : Option Value} (h : mEx O (n + 1) d y b nL ret pc ls st K = some (r, K')) :
    ∃ (i : Instr) (len : Nat), decode b pc = .ok (i, len) ∧ ((mRet ret st i len = some r ∧ K = K') ∨ (∃ cf, mStep O y nL pc ls st K i len = some cf ∧ mEx O n d y b nL ret cf.1 cf.2.1 cf.2.2.1 cf.2.2.2 = some (r, K')) ∨ (∃ cf, mPrm O y pc ls st K i len = some cf ∧ mEx O n d y b nL ret cf.1 cf.2.1 cf.2.2.1 cf.2.2.2 = some (r, K')) ∨
      ∃ (z : MethodName) (zb : ByteArray) (zL : Nat) (zr : Option FieldType) (as rest : List Value) (d' : Nat) (v : Option Value) (K1 : mH), mPrm O y pc ls st K i len = none ∧ mInv y st K i len = some (z, zb, zL, zr, as, rest) ∧ d = d' + 1 ∧ mEx O n d' z zb zL zr 0 (mEnt as zL) [] K = some (v, K1) ∧ mEx O n (d' + 1) y b nL ret (pc + 3) ls (v.toList ++ rest) K1 = some (r, K')) := by
  unfold mEx at h
  split at h
  · rename_i i len hdg
    refine ⟨i, len, hdg, ?_⟩
    split at h
    · rename_i r' hr
      cases h
      exact Or.inl ⟨hr, rfl⟩
    · split at h
      · rename_i cf hc
        exact Or.inr (Or.inl ⟨cf, hc, h⟩)
      · split at h
        · rename_i cf hc
          exact Or.inr (Or.inr (Or.inl ⟨cf, hc, h⟩))
        · rename_i hp
          split at h
          · rename_i z zb zL zr as rest hi
            split at h
            · cases h
            · rename_i d'
              split at h
              · rename_i v K1 hc
                exact Or.inr (Or.inr (Or.inr ⟨z, zb, zL, zr, as, rest, d', v, K1, hp, hi, rfl, hc, h⟩))
              · cases h
          · cases h
  · cases h
theorem mEx_up {O : mO} : ∀ (n d : Nat) (y : MethodName) (b : ByteArray) (nL : Nat) (ret : Option FieldType) (pc : Nat) (ls : List (Option Value)) (st : List Value) (K : mH) (r : Option Value) (K' : mH), mEx O n d y b nL ret pc ls st K = some (r, K') → mEx O (n + 1) d y b nL ret pc ls st K = some (r, K') ∧ mEx O n (d + 1) y b nL ret pc ls st K = some (r, K')
  | 0, d, y, b, nL, ret, pc, ls, st, K, r, K', h => by unfold mEx at h; cases h
  | n + 1, d, y, b, nL, ret, pc, ls, st, K, r, K', h => by
    obtain ⟨i, len, hd, h⟩ := mEx_inw h
    rcases h with ⟨hr, rfl⟩ | ⟨cf, h1, h2⟩ | ⟨cf, h1, h2⟩ | ⟨z, zb, zL, zr, as, rest, d', v, K1, hp, hi, rfl, h1, h2⟩
    · exact ⟨mEx_r hd hr, mEx_r hd hr⟩
    · have g := mEx_up n _ _ _ _ _ _ _ _ _ _ _ h2
      exact ⟨by rw [mEx_s hd h1]; exact g.1, by rw [mEx_s hd h1]; exact g.2⟩
    · have g := mEx_up n _ _ _ _ _ _ _ _ _ _ _ h2
      exact ⟨by rw [mEx_p hd h1]; exact g.1, by rw [mEx_p hd h1]; exact g.2⟩
    · have g1 := mEx_up n _ _ _ _ _ _ _ _ _ _ _ h1
      have g2 := mEx_up n _ _ _ _ _ _ _ _ _ _ _ h2
      exact ⟨by rw [mEx_c hd hp hi g1.1]; exact g2.1, by rw [mEx_c hd hp hi g1.2]; exact g2.2⟩
theorem mEx_ge {O : mO} {n d : Nat} {y : MethodName} {b : ByteArray} {nL : Nat} {ret : Option FieldType} {pc : Nat} {ls : List (Option Value)} {st : List Value} {K : mH} {r : Option Value} {K' : mH} (h : mEx O n d y b nL ret pc ls st K = some (r, K')) (k j : Nat) : mEx O (n + k) (d + j) y b nL ret pc ls st K = some (r, K') := by
  induction k with
  | zero =>
    induction j with
    | zero => exact h
    | succ j ih => exact (mEx_up _ _ _ _ _ _ _ _ _ _ _ _ ih).2
  | succ k ih => exact (mEx_up _ _ _ _ _ _ _ _ _ _ _ _ ih).1
/-- a method: its name, its code, how many locals, what it returns -/
abbrev mM : Type := MethodName × ByteArray × Nat × Option FieldType
/-- from here the method ends, with P of what it returns and of the heap -/
def Go (O : mO) (d : Nat) (M : mM) (pc : Nat) (ls : List (Option Value)) (st : List Value) (K : mH) (P : Option Value → mH → Prop) : Prop := ∃ (n : Nat) (r : Option Value) (K' : mH), mEx O n d M.1 M.2.1 M.2.2.1 M.2.2.2 pc ls st K = some (r, K') ∧ P r K'
/-- a call of it ends so -/
def Rn (O : mO) (d : Nat) (M : mM) (as : List Value) (K : mH) (P : Option Value → mH → Prop) : Prop := Go O d M 0 (mEnt as M.2.2.1) [] K P
theorem Go.mono {O : mO} {d d' : Nat} {M : mM} {pc : Nat} {ls : List (Option Value)} {st : List Value} {K : mH} {P Q : Option Value → mH → Prop} (h : Go O d M pc ls st K P) (hd : d ≤ d') (hq : ∀ r K', P r K' → Q r K') : Go O d' M pc ls st K Q := by
  obtain ⟨n, r, K', h1, h2⟩ := h
  refine ⟨n, r, K', ?_, hq _ _ h2⟩
  have := mEx_ge h1 0 (d' - d)
  rw [Nat.add_sub_cancel' hd] at this
  exact this
theorem Rn.mono {O : mO} {d d' : Nat} {M : mM} {as : List Value} {K : mH} {P Q : Option Value → mH → Prop} (h : Rn O d M as K P) (hd : d ≤ d') (hq : ∀ r K', P r K' → Q r K') : Rn O d' M as K Q := Go.mono h hd hq
section GR
variable {O : mO} {d : Nat} {M : mM} {pc : Nat} {ls : List (Option Value)} {st : List Value} {K : mH} {P : Option Value → mH → Prop} {i : Instr} {len : Nat}
theorem g_r {r : Option Value} (hd : decode M.2.1 pc = .ok (i, len)) (h : mRet M.2.2.2 st i len = some r) (k : P r K) : Go O d M pc ls st K P := ⟨1, r, K, mEx_r hd h, k⟩
theorem g_s {pc' : Nat} {ls' : List (Option Value)} {st' : List Value} {K' : mH} (hd : decode M.2.1 pc = .ok (i, len)) (h : mStep O M.1 M.2.2.1 pc ls st K i len = some (pc', ls', st', K')) (k : Go O d M pc' ls' st' K' P) : Go O d M pc ls st K P := by
  obtain ⟨n, r, K2, h1, h2⟩ := k
  exact ⟨n + 1, r, K2, by rw [mEx_s hd h]; exact h1, h2⟩
theorem g_p {pc' : Nat} {ls' : List (Option Value)} {st' : List Value} {K' : mH} (hd : decode M.2.1 pc = .ok (i, len)) (h : mPrm O M.1 pc ls st K i len = some (pc', ls', st', K')) (k : Go O d M pc' ls' st' K' P) : Go O d M pc ls st K P := by
  obtain ⟨n, r, K2, h1, h2⟩ := k
  exact ⟨n + 1, r, K2, by rw [mEx_p hd h]; exact h1, h2⟩
theorem g_c {Z : mM} {as rest : List Value} {A : Option Value → mH → Prop} (hd : decode M.2.1 pc = .ok (i, len)) (hp : mPrm O M.1 pc ls st K i len = none) (h : mInv M.1 st K i len = some (Z.1, Z.2.1, Z.2.2.1, Z.2.2.2, as, rest)) (hz : Rn O d Z as K A)
    (k : ∀ (v : Option Value) (K1 : mH), A v K1 → Go O (d + 1) M (pc + 3) ls (v.toList ++ rest) K1 P) : Go O (d + 1) M pc ls st K P := by
  obtain ⟨n1, v, K1, h1, h2⟩ := hz
  obtain ⟨n2, r, K2, h3, h4⟩ := k v K1 h2
  refine ⟨n1 + n2 + 1, r, K2, ?_, h4⟩
  rw [mEx_c hd hp h (mEx_ge h1 n2 0)]
  have := mEx_ge h3 n1 0
  rw [Nat.add_comm n2 n1] at this
  exact this
end GR
