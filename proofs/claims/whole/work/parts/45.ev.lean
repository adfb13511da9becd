/-! the machine as a function: what a call answers; reading and writing heaps; locals of which less is known -/
noncomputable def ev (O : mO) (d : Nat) (M : mM) (as : List Value) (K : mH) : Option (Option Value × mH) :=
  @dite _ (∃ x n, mEx O n d M.1 M.2.1 M.2.2.1 M.2.2.2 0 (mEnt as M.2.2.1) [] K = some x) (Classical.propDecidable _) (fun h => some (Classical.choose h)) (fun _ => none)
section EV
variable {O : mO} {d : Nat} {M : mM} {as : List Value} {K : mH}
theorem ev_Rn {x : Option Value × mH} (h : ev O d M as K = some x) : Rn O d M as K (fun r K' => (r, K') = x) := by
  unfold ev at h
  split at h
  · rename_i hx
    obtain ⟨n, hn⟩ := Classical.choose_spec hx
    cases h
    exact ⟨n, (Classical.choose hx).1, (Classical.choose hx).2, hn, rfl⟩
  · cases h
theorem ev_of {n : Nat} {x : Option Value × mH} (h : mEx O n d M.1 M.2.1 M.2.2.1 M.2.2.2 0 (mEnt as M.2.2.1) [] K = some x) : ev O d M as K = some x := by
  have hx : ∃ x n, mEx O n d M.1 M.2.1 M.2.2.1 M.2.2.2 0 (mEnt as M.2.2.1) [] K = some x := ⟨x, n, h⟩
  have e : ev O d M as K = some (Classical.choose hx) := dif_pos hx
  rw [e]
  obtain ⟨m, hm⟩ := Classical.choose_spec hx
  generalize Classical.choose hx = z at hm ⊢
  have h1 := mEx_ge (r := x.1) (K' := x.2) h m 0
  have h2 := mEx_ge (r := z.1) (K' := z.2) hm n 0
  rw [Nat.add_comm m n, h1] at h2
  exact h2.symm
theorem Rn_ev {P : Option Value → mH → Prop} (h : Rn O d M as K P) : ∃ r K', ev O d M as K = some (r, K') ∧ P r K' := by
  obtain ⟨n, r, K', h1, h2⟩ := h
  exact ⟨r, K', ev_of h1, h2⟩
theorem Rn_evx {x : Option Value × mH} (h : Rn O d M as K (fun r K' => (r, K') = x)) : ev O d M as K = some x := by
  obtain ⟨r, K', h1, h2⟩ := Rn_ev h
  rw [h1, h2]
theorem ev_up {x : Option Value × mH} (h : ev O d M as K = some x) (k : Nat) : ev O (d + k) M as K = some x := Rn_evx (Rn.mono (ev_Rn h) (Nat.le_add_right d k) (fun _ _ z => z))
end EV
def toI (x : Option (Option Value × mH)) : Option (Int32 × mH) := match x with
  | some (some (.int v), K) => some (v, K)
  | _ => none
def toJ (x : Option (Option Value × mH)) : Option (Int64 × mH) := match x with
  | some (some (.long v), K) => some (v, K)
  | _ => none
def toV (x : Option (Option Value × mH)) : Option mH := match x with
  | some (none, K) => some K
  | _ => none
def toR (x : Option (Option Value × mH)) : Option (Option Nat × mH) := match x with
  | some (some (.ref a), K) => some (some a, K)
  | some (some .null, K) => some (none, K)
  | _ => none
theorem toI_s {x : Option (Option Value × mH)} {p : Int32 × mH} (h : toI x = some p) : x = some (some (.int p.1), p.2) := by
  unfold toI at h
  split at h
  · cases h; rfl
  · cases h
theorem toJ_s {x : Option (Option Value × mH)} {p : Int64 × mH} (h : toJ x = some p) : x = some (some (.long p.1), p.2) := by
  unfold toJ at h
  split at h
  · cases h; rfl
  · cases h
theorem toV_s {x : Option (Option Value × mH)} {p : mH} (h : toV x = some p) : x = some (none, p) := by
  unfold toV at h
  split at h
  · cases h; rfl
  · cases h
theorem toR_s {x : Option (Option Value × mH)} {p : Option Nat × mH} (h : toR x = some p) : x = some (some (va_rf p.1), p.2) := by
  unfold toR at h
  split at h
  · cases h; rfl
  · cases h; rfl
  · cases h
/-- an object of the kind ci -/
def isO (K : mH) (a ci : Nat) : Bool := match mgt K a with
  | some (.inr (cj, _)) => decide (a < oB ∧ ci = cj)
  | _ => false
noncomputable def vc (O : mO) (d ci : Nat) (M : mM) (a : Nat) (as : List Value) (K : mH) : Option (Option Value × mH) := if isO K a ci = true then ev O d M (.ref a :: as) K else none
def rdI (O : mO) (K : mH) (a : Nat) (i : Int32) : Option Int32 := match mAr O K a with
  | some (0, n, .inl f) => if mIdx i n = true then some (f i.toNatClampNeg) else none
  | _ => none
def rdB (O : mO) (K : mH) (a : Nat) (i : Int32) : Option Int32 := match mAr O K a with
  | some (2, n, .inl f) => if mIdx i n = true then some (f i.toNatClampNeg) else none
  | some (3, n, .inl f) => if mIdx i n = true then some (f i.toNatClampNeg) else none
  | _ => none
def rdJ (O : mO) (K : mH) (a : Nat) (i : Int32) : Option Int64 := match mAr O K a with
  | some (1, n, .inr (.inl f)) => if mIdx i n = true then some (f i.toNatClampNeg) else none
  | _ => none
def rdR (O : mO) (K : mH) (a : Nat) (i : Int32) : Option (Option Nat) := match mAr O K a with
  | some (t, n, .inr (.inr (.inr (.inr f)))) => if (t = 4 ∨ t = 5) ∧ mIdx i n = true then some (f i.toNatClampNeg) else none
  | _ => none
def lnA (O : mO) (K : mH) (a : Nat) : Option Int32 := match mAr O K a with
  | some x => if x.1 < 6 then some (Int32.ofNat x.2.1) else none
  | none => none
def wrI (K : mH) (a : Nat) (i v : Int32) : Option mH := match mgt K a with
  | some (.inl (0, n, .inl f)) => if a < oB ∧ mIdx i n = true then some (mpt K a (.inl (0, n, .inl (upd f i.toNatClampNeg v)))) else none
  | _ => none
def wrB (K : mH) (a : Nat) (i v : Int32) : Option mH := match mgt K a with
  | some (.inl (2, n, .inl f)) => if a < oB ∧ mIdx i n = true then some (mpt K a (.inl (2, n, .inl (upd f i.toNatClampNeg (vp_nar .byte v))))) else none
  | some (.inl (3, n, .inl f)) => if a < oB ∧ mIdx i n = true then some (mpt K a (.inl (3, n, .inl (upd f i.toNatClampNeg (vp_nar .boolean v))))) else none
  | _ => none
def wrJ (K : mH) (a : Nat) (i : Int32) (v : Int64) : Option mH := match mgt K a with
  | some (.inl (1, n, .inr (.inl f))) => if a < oB ∧ mIdx i n = true then some (mpt K a (.inl (1, n, .inr (.inl (vp_updL f i.toNatClampNeg v))))) else none
  | _ => none
def wrR (K : mH) (a : Nat) (i : Int32) (v : Option Nat) : Option mH := match mgt K a with
  | some (.inl (t, n, .inr (.inr (.inr (.inr f))))) => match v with
    | none => if a < oB ∧ (t = 4 ∨ t = 5) ∧ mIdx i n = true then some (mpt K a (.inl (t, n, .inr (.inr (.inr (.inr (va_up f i.toNatClampNeg none))))))) else none
    | some w => match mgt K w with
      | some (.inr (ci, _)) => if a < oB ∧ w < oB ∧ ((t = 4 ∧ ci = 2) ∨ (t = 5 ∧ ci = 5)) ∧ mIdx i n = true then some (mpt K a (.inl (t, n, .inr (.inr (.inr (.inr (va_up f i.toNatClampNeg (some w)))))))) else none
      | _ => none
  | _ => none
def gtI (K : mH) (a ci sl : Nat) : Option Int32 := match mgt K a with
  | some (.inr (cj, fs)) => match fs[sl]? with
    | some (.int v) => if a < oB ∧ ci = cj then some v else none
    | _ => none
  | _ => none
def gtJ (K : mH) (a ci sl : Nat) : Option Int64 := match mgt K a with
  | some (.inr (cj, fs)) => match fs[sl]? with
    | some (.long v) => if a < oB ∧ ci = cj then some v else none
    | _ => none
  | _ => none
def gtA (K : mH) (a ci sl : Nat) : Option Nat := match mgt K a with
  | some (.inr (cj, fs)) => match fs[sl]? with
    | some (.ref v) => if a < oB ∧ ci = cj then some v else none
    | _ => none
  | _ => none
def ptV (K : mH) (a ci sl : Nat) (v : Value) : Option mH := match mgt K a with
  | some (.inr (cj, fs)) => if a < oB ∧ ci = cj ∧ sl < fs.length then some (mpt K a (.inr (ci, fs.set sl v))) else none
  | _ => none
def ptI (K : mH) (a ci sl : Nat) (v : Int32) : Option mH := ptV K a ci sl (.int v)
def ptJ (K : mH) (a ci sl : Nat) (v : Int64) : Option mH := ptV K a ci sl (.long v)
def ptA (K : mH) (a ci sl : Nat) (v : Nat) : Option mH := ptV K a ci sl (.ref v)
/-- a boolean -/
def zz (v : Int32) : Option Int32 := if v = 0 ∨ v = 1 then some v else none
def cpA (K : mH) (b : Nat) (sp : Int32) (a : Nat) (dp n : Int32) : Option mH := match mgt K a, mgt K b with
  | some (.inl (0, n1, .inl g)), some (.inl (0, n0, .inl f)) => if a < oB ∧ b < oB ∧ ¬ sp < 0 ∧ ¬ dp < 0 ∧ ¬ n < 0 ∧ sp.toNatClampNeg + n.toNatClampNeg ≤ n0 ∧ dp.toNatClampNeg + n.toNatClampNeg ≤ n1 then some (mpt K a (.inl (0, n1, .inl (va_cpy f g sp.toNatClampNeg dp.toNatClampNeg n.toNatClampNeg)))) else none
  | _, _ => none
def chA (i : Int32) : Option Int32 := if mIdx i mChs.length = true then some (nI (mChs.getD i.toNatClampNeg 0)) else none
/-- of ls less is known than of the other -/
def leL : List (Option Value) → List (Option Value) → Prop
  | [], [] => True
  | none :: a, _ :: b => leL a b
  | some v :: a, w :: b => w = some v ∧ leL a b
  | _, _ => False
theorem leL_refl : ∀ ls, leL ls ls
  | [] => trivial
  | none :: a => leL_refl a
  | some _ :: a => ⟨rfl, leL_refl a⟩
theorem leL_ld : ∀ {ls ls' : List (Option Value)} {k : Nat} {v : Value}, leL ls ls' → mLd ls k = some v → mLd ls' k = some v
  | [], [], k, v, _, h => h
  | none :: a, w :: b, 0, v, _, h => by cases h
  | none :: a, w :: b, k + 1, v, hl, h => leL_ld (ls := a) (ls' := b) (k := k) hl h
  | some x :: a, w :: b, 0, v, hl, h => by
    cases h
    show (some w).getD none = _
    rw [hl.1]
    rfl
  | some x :: a, w :: b, k + 1, v, hl, h => leL_ld (ls := a) (ls' := b) (k := k) hl.2 h
theorem leL_set : ∀ {ls ls' : List (Option Value)} (k : Nat) (v : Option Value), leL ls ls' → leL (ls.set k v) (ls'.set k v)
  | [], [], k, v, _ => trivial
  | none :: a, w :: b, 0, v, h => by
    cases v with
    | none => exact h
    | some x => exact ⟨rfl, h⟩
  | none :: a, w :: b, k + 1, v, h => leL_set (ls := a) (ls' := b) k v h
  | some x :: a, w :: b, 0, v, h => by
    cases v with
    | none => exact h.2
    | some x => exact ⟨rfl, h.2⟩
  | some x :: a, w :: b, k + 1, v, h => ⟨h.1, leL_set (ls := a) (ls' := b) k v h.2⟩
theorem leL_off : ∀ {ls ls' : List (Option Value)} (k : Nat), leL ls ls' → leL (ls.set k none) ls'
  | [], [], k, _ => trivial
  | none :: a, w :: b, 0, h => h
  | none :: a, w :: b, k + 1, h => leL_off (ls := a) (ls' := b) k h
  | some x :: a, w :: b, 0, h => h.2
  | some x :: a, w :: b, k + 1, h => ⟨h.1, leL_off (ls := a) (ls' := b) k h.2⟩
theorem leL_non : ∀ {ls ls' : List (Option Value)} (k : Nat) (v : Option Value), leL ls ls' → mLd ls k = none → leL ls (ls'.set k v)
  | [], [], k, v, _, _ => trivial
  | none :: a, w :: b, 0, v, h, _ => h
  | none :: a, w :: b, k + 1, v, h, e => leL_non (ls := a) (ls' := b) k v h e
  | some x :: a, w :: b, 0, v, h, e => by cases e
  | some x :: a, w :: b, k + 1, v, h, e => ⟨h.1, leL_non (ls := a) (ls' := b) k v h.2 e⟩
theorem leL_clr {ls ls' : List (Option Value)} (i : Nat) (h : leL ls ls') : leL (mClr ls i) (mClr ls' i) := by
  cases i with
  | zero => exact h
  | succ j =>
    unfold mClr
    dsimp only
    cases e : mLd ls j with
    | some v =>
      rw [leL_ld h e]
      dsimp only
      split
      · exact leL_set _ _ h
      · exact h
    | none =>
      dsimp only
      split
      · split
        · exact leL_non _ _ h e
        · exact h
      · exact h
theorem leL_st1 {ls ls' : List (Option Value)} (i : Nat) (v : Value) (h : leL ls ls') : leL (mSt1 ls i v) (mSt1 ls' i v) := leL_set _ _ (leL_clr i h)
theorem leL_st2 {ls ls' : List (Option Value)} (i : Nat) (v : Value) (h : leL ls ls') : leL (mSt2 ls i v) (mSt2 ls' i v) := leL_set _ _ (leL_set _ _ (leL_clr i h))
set_option maxRecDepth 8000 in
set_option maxHeartbeats 8000000 in
theorem mStep_le {O : mO} {y : MethodName} {nL pc len : Nat} {ls ls' : List (Option Value)} {st : List Value} {K : mH} {i : Instr} {cf : mC} (hl : leL ls ls') (h : mStep O y nL pc ls st K i len = some cf) : ∃ l2, leL cf.2.1 l2 ∧ mStep O y nL pc ls' st K i len = some (cf.1, l2, cf.2.2) := by
  cases i
  all_goals first
    | (cases (show (none : Option mC) = some cf from h); done)
    | (delta mStep at h; dsimp only at h; (repeat' split at h) <;> first | (cases h; done) | (cases h; refine ⟨ls', hl, ?_⟩; delta mStep; dsimp only; simp [*]; done) | (cases h; refine ⟨ls', hl, ?_⟩; delta mStep; dsimp only; exact if_pos (by assumption)) | (cases h; refine ⟨ls', hl, ?_⟩; delta mStep; dsimp only; rw [‹mFld _ _ = _›, ‹mgt _ _ = _›]; dsimp only; rw [‹mCls[_]? = _›]; dsimp only; exact if_pos (by assumption)) | (cases h; rename_i e _; refine ⟨ls', hl, ?_⟩; delta mStep; dsimp only; rw [leL_ld hl e]; simp [*]; done) | (cases h; refine ⟨_, leL_st1 _ _ hl, ?_⟩; delta mStep; dsimp only; simp [*]; done) | (cases h; refine ⟨_, leL_st2 _ _ hl, ?_⟩; delta mStep; dsimp only; simp [*]; done) | (cases h; rename_i e _; refine ⟨_, leL_st1 _ _ hl, ?_⟩; delta mStep; dsimp only; rw [leL_ld hl e]; simp [*]; done))
theorem yMm : ¬ yMin = yMax := by decide
theorem mPrm_map {O : mO} {y : MethodName} {pc len : Nat} {ls ls' : List (Option Value)} {st : List Value} {K : mH} {i : Instr} {cf : mC} (h : mPrm O y pc ls st K i len = some cf) : cf.2.1 = ls ∧ mPrm O y pc ls' st K i len = some (cf.1, ls', cf.2.2) := by
  cases i
  all_goals first
    | (cases (show (none : Option mC) = some cf from h); done)
    | (delta mPrm at h; dsimp only at h; (repeat' split at h) <;> first | (cases h; done) | (cases h; refine ⟨rfl, ?_⟩; delta mPrm; dsimp only; simp [*, yMm]; done))
theorem mPrm_none {O : mO} {y : MethodName} {pc len : Nat} {ls ls' : List (Option Value)} {st : List Value} {K : mH} {i : Instr} (h : mPrm O y pc ls st K i len = none) : mPrm O y pc ls' st K i len = none := by
  cases e : mPrm O y pc ls' st K i len with
  | none => rfl
  | some cf =>
    rw [(mPrm_map (ls' := ls) e).2] at h
    cases h
theorem mEx_le {O : mO} : ∀ (n d : Nat) (y : MethodName) (b : ByteArray) (nL : Nat) (ret : Option FieldType) (pc : Nat) (ls ls' : List (Option Value)) (st : List Value) (K : mH) (r : Option Value) (K' : mH), leL ls ls' → mEx O n d y b nL ret pc ls st K = some (r, K') → mEx O n d y b nL ret pc ls' st K = some (r, K')
  | 0, d, y, b, nL, ret, pc, ls, ls', st, K, r, K', _, h => by unfold mEx at h; cases h
  | n + 1, d, y, b, nL, ret, pc, ls, ls', st, K, r, K', hl, h => by
    obtain ⟨i, len, hd, h⟩ := mEx_inw h
    rcases h with ⟨hr, rfl⟩ | ⟨cf, h1, h2⟩ | ⟨cf, h1, h2⟩ | ⟨z, zb, zL, zr, as, rest, d', v, K1, hp, hi, rfl, h1, h2⟩
    · exact mEx_r hd hr
    · obtain ⟨l2, g1, g2⟩ := mStep_le hl h1
      rw [mEx_s hd g2]
      exact mEx_le n _ _ _ _ _ _ _ _ _ _ _ _ g1 h2
    · obtain ⟨g1, g2⟩ := mPrm_map (ls' := ls') h1
      rw [mEx_p hd g2]
      rw [g1] at h2
      exact mEx_le n _ _ _ _ _ _ _ _ _ _ _ _ hl h2
    · rw [mEx_c hd (mPrm_none hp) hi h1]
      exact mEx_le n _ _ _ _ _ _ _ _ _ _ _ _ hl h2
theorem Go_le {O : mO} {d : Nat} {M : mM} {pc : Nat} {ls ls' : List (Option Value)} {st : List Value} {K : mH} {P : Option Value → mH → Prop} (hl : leL ls ls') (h : Go O d M pc ls st K P) : Go O d M pc ls' st K P := by
  obtain ⟨n, r, K', h1, h2⟩ := h
  exact ⟨n, r, K', mEx_le _ _ _ _ _ _ _ _ _ _ _ _ _ hl h1, h2⟩
/-- a loop: again, or its end -/
def lupF {σ ρ : Type} (f : σ → Option (σ ⊕ ρ)) : Nat → σ → Option ρ
  | 0, _ => none
  | n + 1, s => match f s with
    | some (.inl s') => lupF f n s'
    | some (.inr r) => some r
    | none => none
/-- how long a loop may run -/
def FU : Nat := 100000
theorem lupF_s {σ ρ : Type} {f : σ → Option (σ ⊕ ρ)} {n : Nat} {s : σ} {x : ρ} (h : lupF f (n + 1) s = some x) : ∃ y, f s = some y ∧ (∀ s', y = .inl s' → lupF f n s' = some x) ∧ (∀ r, y = .inr r → r = x) := by
  unfold lupF at h
  split at h
  · rename_i s' e
    exact ⟨_, e, fun q hq => by cases hq; exact h, fun r hr => by cases hr⟩
  · rename_i r e
    exact ⟨_, e, fun q hq => (by cases hq), fun q hq => by cases hq; exact Option.some.inj h⟩
  · cases h
theorem bs {α β : Type} {x : Option α} {f : α → Option β} {b : β} (h : x.bind f = some b) : ∃ a, x = some a ∧ f a = some b := by
  cases x with
  | none => cases h
  | some a => exact ⟨a, rfl, h⟩
