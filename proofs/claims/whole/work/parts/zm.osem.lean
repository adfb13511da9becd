/-! orders: what is done, as steps upon the row -/
def vOf (X : Int32 → Int32) (c : GC) : Option Int32 := wo (fun i => cEn i (c.getD i (0, 0))) X c.length 0 c.length
theorem AtC_of {st : Nat → Int32} : ∀ (c : GC) (i : Nat), (∀ j, j < c.length → st (i + j) = cEn (i + j) (c.getD j (0, 0))) → AtC st i c
  | [], _, _ => trivial
  | x :: c, i, h => by
    refine ⟨h 0 (Nat.succ_pos _), AtC_of c (i + 1) (fun j hj => ?_)⟩
    have := h (j + 1) (Nat.succ_lt_succ hj)
    rw [show i + 1 + j = i + (j + 1) by omega, this]
    rfl
theorem vOf_eq {X : Int32 → Int32} {c : GC} {v : Option Int32} {h : Nat} (hc : SgC X c v h) (hh : h ≤ 63) (hl : c.length ≤ 1000) : vOf X c = v := by
  unfold vOf
  have := wo_all (sc := c.length) hc hh (AtC_of (st := fun i => cEn i (c.getD i (0, 0))) c 0 (fun j _ => by rw [Nat.zero_add])) (by omega) (by omega)
  rw [Nat.zero_add] at this
  exact this
theorem vOf_nil {X : Int32 → Int32} : vOf X [] = some (nI 1) := rfl
theorem ExO_v {ts : Bool} {c m : GC} {X : Int32 → Int32} {lf : Nat → Nat → Int64} (h : ExO true ts c m) (hl : c.length ≤ 400) (hL : LfR true X lf) : ∃ k, k ≤ 50 ∧ SgC X c (vOf X c) k ∧ SgM lf m ((vOf X c).map Int32.toInt64) k ∧ (ts = true → ∀ x, vOf X c = some x → x = nI 0 ∨ x = nI 1) := by
  obtain ⟨-, -, ⟨k, hk, tie, -⟩, -⟩ := h
  obtain ⟨v, v1, v2, v3⟩ := tie X lf hL
  have e := vOf_eq v1 (by omega) (by omega)
  rw [e]
  exact ⟨k, hk, v1, v2, v3⟩
/-- the words of orders -/
def oW (w : Nat → Int32) (D F dn : Nat) (la : Int32) (i : Nat) : Int32 := if i = 0 then w 6 else if i = 1 then nI dn else if i = 2 then la else if i = 3 then nI (D - cnt (fun j => w (9 + j)) (-1) D) else if i < 12 then (if i - 4 < D then w (17 + (i - 4)) else -1) else (if i - 12 < F then w (33 + (i - 12)) else -1)
def oX (w : Nat → Int32) (D F dn : Nat) (la : Int32) : Int32 → Int32 := wdF (oW w D F dn la) 16
theorem wdF_at {W : Nat → Int32} {k : Nat} (hk : k < 16) : wdF W 16 (nI k) = W k := by
  unfold wdF
  rw [if_pos (inR_nI hk (by decide)), cl_nI (by omega)]
theorem wdF_cg {W W' : Nat → Int32} (h : ∀ i, i < 16 → W' i = W i) : wdF W' 16 = wdF W 16 := by
  funext x
  unfold wdF
  cases hx : inR x 16 with
  | false => rfl
  | true =>
    obtain ⟨k, hk, rfl⟩ := inR_ex hx (by decide)
    rw [if_pos rfl, if_pos rfl, cl_nI (by omega), h k hk]
theorem oX_lf {w : Nat → Int32} {D F dn : Nat} {la : Int32} {S Y : Nat → Int64} (h1 : Y 1 = (w 6).toInt64) (h2 : Y 2 = (nI dn).toInt64) (h3 : Y 3 = la.toInt64) (h4 : Y 4 = (nI (D - cnt (fun j => w (9 + j)) (-1) D)).toInt64) : LfR true (oX w D F dn la) (lfF true S Y w D F) := by
  refine ⟨fun a _ => rfl, fun k hk => ?_⟩
  have hk : k < 16 := hk
  have xk : oX w D F dn la (nI k) = oW w D F dn la k := wdF_at hk
  rw [xk]
  by_cases k4 : k < 4
  · have wE : wdO true k = (k + 1, 0) := if_pos k4
    rw [wE]
    show (if k + 1 = 0 then _ else if true = false then _ else if k + 1 < 5 then Y (k + 1) else _) = _
    rw [if_neg (by omega), if_neg (by decide), if_pos (by omega)]
    unfold oW
    rcases (show k = 0 ∨ k = 1 ∨ k = 2 ∨ k = 3 by omega) with e | e | e | e <;> subst e
    · exact h1
    · exact h2
    · exact h3
    · exact h4
  · by_cases k12 : k < 12
    · have wE : wdO true k = (5, k - 4) := by
        show (if k < 4 then _ else if k < 12 then (5, k - 4) else _) = _
        rw [if_neg k4, if_pos k12]
      rw [wE]
      have oE : oW w D F dn la k = if k - 4 < D then w (17 + (k - 4)) else -1 := by
        unfold oW
        rw [if_neg (by omega), if_neg (by omega), if_neg (by omega), if_neg (by omega), if_pos k12]
      rw [oE]
      show (if k - 4 < D then (w (17 + (k - 4))).toInt64 else -1) = _
      split <;> rfl
    · have wE : wdO true k = (6, k - 12) := by
        show (if k < 4 then _ else if k < 12 then _ else (6, k - 12)) = _
        rw [if_neg k4, if_neg k12]
      rw [wE]
      have oE : oW w D F dn la k = if k - 12 < F then w (33 + (k - 12)) else -1 := by
        unfold oW
        rw [if_neg (by omega), if_neg (by omega), if_neg (by omega), if_neg (by omega), if_neg k12]
      rw [oE]
      show (if k - 12 < F then (w (33 + (k - 12))).toInt64 else -1) = _
      split <;> rfl
/-- an act, chosen once for both -/
noncomputable def oAct (O : mO) (d : Nat) (w : Nat → Int32) (V F D S N kk : Nat) (a b : Int32) : Int32 × (Nat → Int32) := @dite _ (∃ p : Int32 × (Nat → Int32), ActS O d w V F D S N kk a b p.1 p.2) (Classical.propDecidable _) (fun h => Classical.choose h) (fun _ => (-3, w))
theorem oAct_s {O : mO} {d V F D S N kk : Nat} {w : Nat → Int32} {a b : Int32} {L : Nat} {xs : Nat → Int32} (hO : O = mOl L xs) (hw : Wf w V F D S N) (hk : kk ≤ 3) : ActS O d w V F D S N kk a b (oAct O d w V F D S N kk a b).1 (oAct O d w V F D S N kk a b).2 := by
  obtain ⟨ret, w', h⟩ := act_all (d := d) (a := a) (b := b) hO hw hk
  have hx : ∃ p : Int32 × (Nat → Int32), ActS O d w V F D S N kk a b p.1 p.2 := ⟨(ret, w'), h⟩
  unfold oAct
  rw [dif_pos hx]
  exact Classical.choose_spec hx
/-- row, done, latest, what can be undone (newest first), how many, next place -/
abbrev OS := (Nat → Int32) × Nat × Int32 × (Nat → Nat × (Nat → Int32)) × Nat × Nat
def oPu (k : Nat) (w : Nat → Int32) (U : Nat → Nat × (Nat → Int32)) : Nat → Nat × (Nat → Int32) := fun j => if j = 0 then (k, w) else U (j - 1)
noncomputable def oDo (O : mO) (d V F D S N : Nat) (x : CL) (z : OS) (a b : Int32) : Option OS := if 0 ≤ (oAct O d z.1 V F D S N x.1 a b).1 then some ((oAct O d z.1 V F D S N x.1 a b).2, z.2.1 + 1, (if x.1 = 0 then (oAct O d z.1 V F D S N x.1 a b).1 else z.2.2.1), oPu x.1 z.1 z.2.2.2.1, min 16 (z.2.2.2.2.1 + 1), (z.2.2.2.2.2 + 1) % 17) else none
noncomputable def oCan (O : mO) (d V F D S N : Nat) (x : CL) (z : OS) : Option OS := (vOf (oX z.1 D F z.2.1 z.2.2.1) x.2.2.1).bind fun a => (vOf (oX z.1 D F z.2.1 z.2.2.1) x.2.2.2.2.1).bind fun b => oDo O d V F D S N x z a b
/-- one turn of a clause; none: it cannot be -/
noncomputable def oStp (O : mO) (d V F D S N : Nat) (x : CL) (z : OS) : Option OS := if (vOf (oX z.1 D F z.2.1 z.2.2.1) x.2.2.2.2.2.2.1).getD (nI 0) = nI 1 then oCan O d V F D S N x z else some z
noncomputable def oTm (f : OS → Option OS) : Nat → OS → Option OS
  | 0, z => some z
  | n + 1, z => match f z with
    | none => none
    | some z' => oTm f n z'
noncomputable def oAl (f : CL → OS → Option OS) : List CL → Nat → OS → Nat ⊕ OS
  | [], _, z => .inr z
  | x :: L, c, z => match oTm (f x) x.2.1 z with
    | none => .inl c
    | some z' => oAl f L (c + 1) z'
/-- what can be undone, of the class -/
def CHi (ih hr : Nat → Int32) (U : Nat → Nat × (Nat → Int32)) (s x : Nat) : Prop := ih 1 = nI x ∧ x < 17 ∧ ih 2 = nI s ∧ s ≤ 16 ∧ ∀ j, j < s → hr ((x + 16 - j) % 17 * 23) = nI (U j).1 ∧ HsR hr ((x + 16 - j) % 17) (U j).2
/-- of the reference -/
def MHi (u69 u74 u75 : Nat → Int32) (U : Nat → Nat × (Nat → Int32)) (s : Nat) : Prop := u69 8 = nI s ∧ s ≤ 16 ∧ ∀ j, j < s → u75 (s - 1 - j) = nI (U j).1 ∧ ∀ i, i < 31 → u74 (31 * (s - 1 - j) + i) = (U j).2 (6 + i)
def UOk (w : Nat → Int32) (U : Nat → Nat × (Nat → Int32)) (V F D s : Nat) : Prop := ∀ j, j < s → (U j).1 ≤ 3 ∧ (U j).2 7 = w 7 ∧ (U j).2 8 = w 8 ∧ WfS (U j).2 (fun v => w (37 + v)) V F D
theorem HsR_oc {hr hr' : Nat → Int32} {y : Nat} {z z' : Nat → Int32} (h : HsR hr y z) (h1 : ∀ i, i < 23 → hr' (y * 23 + i) = hr (y * 23 + i)) (h2 : ∀ i, 6 ≤ i → i < 37 → z' i = z i) : HsR hr' y z' := by
  obtain ⟨a1, a2, a3, a4, a5⟩ := h
  refine ⟨by rw [h1 1 (by decide), h2 6 (by decide) (by decide)]; exact a1, fun k hk => by rw [h1 2 (by decide), h2 _ (by omega) (by omega)]; exact a2 k hk, fun k hk => ?_, fun k hk => ?_, fun k hk => ?_⟩
  · rw [show y * 23 + 3 + k = y * 23 + (3 + k) by omega, h1 _ (by omega), h2 _ (by omega) (by omega), ← Nat.add_assoc]
    exact a3 k hk
  · rw [show y * 23 + 7 + k = y * 23 + (7 + k) by omega, h1 _ (by omega), h2 _ (by omega) (by omega), ← Nat.add_assoc]
    exact a4 k hk
  · rw [show y * 23 + 15 + k = y * 23 + (15 + k) by omega, h1 _ (by omega), h2 _ (by omega) (by omega), ← Nat.add_assoc]
    exact a5 k hk
theorem CHi_push {ih hr ih' hr' : Nat → Int32} {U : Nat → Nat × (Nat → Int32)} {s x k : Nat} {w : Nat → Int32} (h : CHi ih hr U s x) (h1 : ih' 1 = nI ((x + 1) % 17)) (h2 : ih' 2 = nI (min 16 (s + 1))) (h3 : ∀ y, y < 17 → y ≠ x → ∀ i, i < 23 → hr' (y * 23 + i) = hr (y * 23 + i)) (h4 : HsR hr' x w) (h5 : hr' (x * 23) = nI k) : CHi ih' hr' (oPu k w U) (min 16 (s + 1)) ((x + 1) % 17) := by
  obtain ⟨a1, a2, a3, a4, a5⟩ := h
  refine ⟨h1, Nat.mod_lt _ (by decide), h2, by omega, fun j hj => ?_⟩
  by_cases e : j = 0
  · subst e
    rw [show ((x + 1) % 17 + 16 - 0) % 17 = x by omega]
    exact ⟨h5, h4⟩
  · have eU : oPu k w U j = U (j - 1) := if_neg e
    have ey : ((x + 1) % 17 + 16 - j) % 17 = (x + 16 - (j - 1)) % 17 := by omega
    rw [eU, ey]
    have ne : (x + 16 - (j - 1)) % 17 ≠ x := by omega
    have lt : (x + 16 - (j - 1)) % 17 < 17 := Nat.mod_lt _ (by decide)
    obtain ⟨b1, b2⟩ := a5 (j - 1) (by omega)
    have h0 := h3 _ lt ne 0 (by decide)
    rw [Nat.add_zero] at h0
    exact ⟨h0.trans b1, HsR_oc b2 (h3 _ lt ne) (fun _ _ _ => rfl)⟩
theorem MHi_push {I I' : Nat → Nat → Int32} {U : Nat → Nat × (Nat → Int32)} {s k : Nat} (h : MHi (I 69) (I 74) (I 75) U s) (hr : RmA I I' s k) : MHi (I' 69) (I' 74) (I' 75) (oPu k (I 71) U) (min 16 (s + 1)) := by
  obtain ⟨a1, a2, a3⟩ := h
  obtain ⟨r1, r2, r3, r4, r5, r6, r7⟩ := hr
  refine ⟨r3, by omega, fun j hj => ?_⟩
  by_cases e : j = 0
  · subst e
    rw [show min 16 (s + 1) - 1 - 0 = min 16 (s + 1) - 1 by omega]
    exact ⟨r5, fun i hi => r4 i hi⟩
  · have eU : oPu k (I 71) U j = U (j - 1) := if_neg e
    rw [eU]
    obtain ⟨b1, b2⟩ := a3 (j - 1) (by omega)
    obtain ⟨c1, c2⟩ := r6 (min 16 (s + 1) - 1 - j) (by omega)
    have ei : min 16 (s + 1) - 1 - j + (s + 1 - min 16 (s + 1)) = s - 1 - (j - 1) := by omega
    rw [ei] at c1 c2
    exact ⟨c2.trans b1, fun i hi => (c1 i hi).trans (b2 i hi)⟩
theorem Und_of {ih hr u69 u74 u75 w : Nat → Int32} {U : Nat → Nat × (Nat → Int32)} {V F D x s : Nat} (hC : CHi ih hr U s x) (hM : MHi u69 u74 u75 U s) (hU : UOk w U V F D s) (d8 : D ≤ 8) (f4 : F ≤ 4) : Und ih hr u69 u74 u75 w V F D x s := by
  obtain ⟨a1, a2, a3, a4, a5⟩ := hC
  obtain ⟨b1, b2, b3⟩ := hM
  refine ⟨⟨a1, a2, a3, a4, b1⟩, fun j hj => ?_⟩
  obtain ⟨c1, c2⟩ := a5 j hj
  obtain ⟨e1, e2⟩ := b3 j hj
  obtain ⟨u1, u2, u3, u4⟩ := hU j hj
  have sn : ∀ i, 6 ≤ i → i < 37 → snp u74 (s - 1 - j) i = (U j).2 i := by
    intro i h1 h2
    unfold snp
    rw [e2 (i - 6) (by omega), show 6 + (i - 6) = i by omega]
  refine ⟨c1.trans e1.symm, ⟨_, u1, e1⟩, HsR_oc c2 (fun _ _ => rfl) sn, by rw [sn 7 (by decide) (by decide)]; exact u2, by rw [sn 8 (by decide) (by decide)]; exact u3, WfS_cg u4 d8 f4 sn (fun _ _ => rfl)⟩
theorem Und_to {ih hr u69 u74 u75 w : Nat → Int32} {V F D x s : Nat} (h : Und ih hr u69 u74 u75 w V F D x s) (d8 : D ≤ 8) (f4 : F ≤ 4) : ∃ U, CHi ih hr U s x ∧ MHi u69 u74 u75 U s ∧ UOk w U V F D s := by
  obtain ⟨⟨a1, a2, a3, a4, a5⟩, hj⟩ := h
  refine ⟨fun j => ((u75 (s - 1 - j)).toNatClampNeg, snp u74 (s - 1 - j)), ⟨a1, a2, a3, a4, fun j hs => ?_⟩, ⟨a5, a4, fun j hs => ?_⟩, fun j hs => ?_⟩
  · obtain ⟨b1, ⟨k, k3, e⟩, b3, b4, b5, b6⟩ := hj j hs
    refine ⟨?_, b3⟩
    show _ = nI (u75 (s - 1 - j)).toNatClampNeg
    rw [b1, e, cl_nI (by omega)]
  · obtain ⟨b1, ⟨k, k3, e⟩, b3, b4, b5, b6⟩ := hj j hs
    refine ⟨?_, fun i hi => ?_⟩
    · show _ = nI (u75 (s - 1 - j)).toNatClampNeg
      rw [e, cl_nI (by omega)]
    · show _ = u74 (31 * (s - 1 - j) + (6 + i - 6))
      rw [Nat.add_sub_cancel_left]
  · obtain ⟨b1, ⟨k, k3, e⟩, b3, b4, b5, b6⟩ := hj j hs
    refine ⟨?_, b4, b5, b6⟩
    show (u75 (s - 1 - j)).toNatClampNeg ≤ 3
    rw [e, cl_nI (by omega)]
    exact k3
theorem UOk_push {w w' : Nat → Int32} {U : Nat → Nat × (Nat → Int32)} {V F D S N s k : Nat} (h : UOk w U V F D s) (hw : Wf w V F D S N) (hk : k ≤ 3) (hp : Kp w w') : UOk w' (oPu k w U) V F D (min 16 (s + 1)) := by
  have v5 := hw.1.1
  have f4 := hw.1.2.1
  have d8 := hw.1.2.2.1
  have bd : ∀ v, v < V → w' (37 + v) = w (37 + v) := fun v hv => hp _ (by omega)
  intro j hj
  by_cases e : j = 0
  · subst e
    exact ⟨hk, (hp 7 (by omega)).symm, (hp 8 (by omega)).symm, WfS_cg hw.2.2.2.1 d8 f4 (fun _ _ _ => rfl) bd⟩
  · have eU : oPu k w U j = U (j - 1) := if_neg e
    rw [eU]
    obtain ⟨u1, u2, u3, u4⟩ := h (j - 1) (by omega)
    exact ⟨u1, u2.trans (hp 7 (by omega)).symm, u3.trans (hp 8 (by omega)).symm, WfS_cg u4 d8 f4 (fun _ _ _ => rfl) bd⟩
theorem Kp.trans {a b c : Nat → Int32} (h : Kp a b) (k : Kp b c) : Kp a c := fun i hi => (k i hi).trans (h i hi)
