/-! what whole texts tell -/
theorem rk_all {lf : Nat → Nat → Int64} {m : GC} {v : Option Int64} {h k : Nat} {oc ac : Nat → Nat} {Z : Nat → Int64} (hm : SgM lf m v h) (hh : h ≤ 400) (hA : AtM oc ac k m) (hl : m.length ≤ 400) : rk oc ac lf (k + m.length) 401 k 0 Z = some v := by
  obtain ⟨a1, a2⟩ := hm.2 oc ac (k + m.length) k (401 - m.length) 0 Z hA (Nat.le_refl _) (by omega)
  rw [show m.length + (401 - m.length) = 401 by omega] at a1 a2
  cases v with
  | none => exact a1 rfl
  | some x =>
    obtain ⟨e, Z', e1, e2, e3⟩ := a2 x rfl
    rw [e3, show e + (401 - m.length) = e + (400 - m.length) + 1 by omega]
    show (if k + m.length ≤ k + m.length then some (some (if 0 + 1 = 0 then 0 else Z' 0)) else _) = _
    rw [if_pos (Nat.le_refl _), if_neg (by decide), e2]
theorem wo_all {X : Int32 → Int32} {c : GC} {v : Option Int32} {h i sc : Nat} {st : Nat → Int32} (hc : SgC X c v h) (hh : h ≤ 63) (hA : AtC st i c) (hl : i + c.length ≤ 1000) (hs : i + c.length ≤ sc) : wo st X sc i (i + c.length) = v := by
  unfold wo
  rw [show min sc (i + c.length) - i = c.length + 0 by omega]
  obtain ⟨a1, a2⟩ := hc.2 st i 0 i 0 (fun _ => 0) hA (Nat.le_refl _) hl (by omega)
  cases v with
  | none => exact a1 rfl
  | some x =>
    obtain ⟨nx, K', e1, e2, e3, e4⟩ := a2 x rfl
    rw [e4]
    show some (if 0 + 1 = 0 then nI 1 else K' (0 + 1 - 1)) = some x
    rw [if_neg (by decide), ← e3]
theorem wo_no {X : Int32 → Int32} {i sc : Nat} {st : Nat → Int32} : wo st X sc i i = some (nI 1) := by
  unfold wo
  rw [show min sc i - i = 0 by omega]
  rfl
/-- a code of the reference tells something, whatever its words are -/
def TM (m : GC) (h : Nat) : Prop := ∀ lf, ∃ v, SgM lf m v h
theorem TM_leaf {o a : Nat} (h : o < 20) : TM [(o, a)] 1 := fun _ => ⟨_, SgM_leaf h⟩
theorem TM_join {m l : GC} {h g k : Nat} (h1 : TM m h) (h2 : TM l g) (k1 : 20 ≤ k) (k2 : k ≤ 27) : TM (m ++ l ++ [(k, 0)]) (h + g) := fun lf => by
  obtain ⟨v, e⟩ := h1 lf
  obtain ⟨y, e2⟩ := h2 lf
  exact ⟨_, SgM_join e e2 k1 k2⟩
theorem TM_skip {m l : GC} {h g s : Nat} (h1 : TM m h) (h2 : TM l g) (hs : s = 29 ∨ s = 30) : TM (m ++ [(s, l.length)] ++ l) (h + g) := fun lf => by
  obtain ⟨v, e⟩ := h1 lf
  obtain ⟨y, e2⟩ := h2 lf
  exact ⟨_, SgM_skip e e2 hs⟩
theorem TM_tn {m : GC} {h : Nat} (h1 : TM m h) : ∀ z, TM (m ++ tnM z) h
  | 0 => by
    show TM (m ++ []) h
    rw [List.append_nil]
    exact h1
  | z + 1 => fun lf => by
    obtain ⟨v, e⟩ := TM_tn h1 z lf
    rw [show m ++ tnM (z + 1) = m ++ tnM z ++ [(28, 0)] by rw [List.append_assoc]; rfl]
    exact ⟨_, SgM_turn e⟩
section GTM
variable {md : Bool} {f : Nat → Nat} {T : Nat}
def gT (q : Nat) (r : Option GT) : Prop := ∀ c m k' q', r = some (.inr (c, m, k', q')) → q ≤ q' ∧ TM m (q' - q)
theorem gT_B {q q2 : Nat} {r : Option GT} {h : GC → GC → Nat → Nat → Option GT} (hr : gT q2 r) (hh : ∀ c m k' q', q2 ≤ q' → TM m (q' - q2) → gT q (h c m k' q')) : gT q (gB r h) := by
  intro c m k' q' e
  cases r with
  | none => cases e
  | some x =>
    cases x with
    | inl j => cases e
    | inr y =>
      obtain ⟨c0, m0, k0, q0⟩ := y
      obtain ⟨a1, a2⟩ := hr c0 m0 k0 q0 rfl
      exact hh c0 m0 k0 q0 a1 a2 c m k' q' e
theorem gT_L {lv : Nat} (hl : lv = 1 ∨ lv = 2 ∨ lv = 4 ∨ lv = 5) {sub : Nat → Nat → Option GT} (hs : ∀ k q, gT q (sub k q)) {q0 : Nat} : ∀ (n : Nat) (c m : GC) (k q : Nat), q0 ≤ q → TM m (q - q0) → gT q0 (gLp f lv sub n c m k q)
  | 0, c, m, k, q, _, _ => fun c m k' q' e => by cases e
  | n + 1, c, m, k, q, hq, hm => by
    unfold gLp
    by_cases h0 : lvO lv (f k) = 0
    · rw [if_pos h0]
      intro c' m' k' q' e
      cases e
      exact ⟨hq, hm⟩
    · rw [if_neg h0]
      refine gT_B (hs (k + 1) q) (fun e l k' q' h1 h2 => gT_L hl hs n _ _ _ _ (by omega) ?_)
      obtain ⟨l1, l2, l3⟩ := lvO_all lv (f k) h0
      rw [show q' - q0 = q - q0 + (q' - q) by omega]
      by_cases h34 : lvO lv (f k) = 3 ∨ lvO lv (f k) = 4
      · have e2 : gJm (lvO lv (f k)) m l = m ++ [(33 - lvO lv (f k), l.length)] ++ l := if_pos h34
        rw [e2]
        exact TM_skip hm h2 (by omega)
      · have e2 : gJm (lvO lv (f k)) m l = m ++ l ++ [(lvO lv (f k) + 15, 0)] := if_neg h34
        rw [e2]
        have h5 : 5 ≤ lvO lv (f k) ∧ lvO lv (f k) ≤ 9 := by
          by_cases hv : lv = 1 ∨ lv = 2
          · exact ⟨(l1 hv).1, (l1 hv).2.1⟩
          · exact absurd (l2 hv) h34
        exact TM_join hm h2 (by omega) (by omega)
theorem gG_T : ∀ (F mode k q b : Nat), mode ≤ 5 → gT q (gG md f F mode k q b) := by
  intro F
  induction F with
  | zero =>
    intro mode k q b _ c m k' q' e
    cases e
  | succ F ih =>
    intro mode k q b hm
    have one : ∀ {o a : Nat} {c : GC} {k' : Nat}, o < 20 → gT q (some (.inr (c, [(o, a)], k', q + 1))) := by
      intro o a c k' ho c' m' k2 q2 e
      cases e
      exact ⟨by omega, by rw [show q + 1 - q = 1 by omega]; exact TM_leaf ho⟩
    have wd : ∀ {i : Nat} {c : GC} {k' : Nat}, i < 16 → (md = false → i < 9) → gT q (some (.inr (c, [wdO md i], k', q + 1))) := by
      intro i c k' h1 h2
      have := (wdO_lt (md := md) (k := i) (by cases md; exact h2 rfl; exact h1)).1
      exact one this
    have bad : ∀ {j}, gT q (some (.inl j)) := fun c m k' q' e => by cases e
    unfold gG
    by_cases m0 : mode = 0
    · rw [if_pos m0]
      split
      · refine gT_B (ih 2 _ _ _ (by decide)) (fun c m k' q' h1 h2 => ?_)
        split
        · intro c' m' k2 q2 e
          cases e
          exact ⟨h1, h2⟩
        · exact bad
      · split
        · exact bad
        · split
          · exact one (by decide)
          · split
            · rename_i hw
              refine wd ?_ (fun z => ?_)
              · revert hw
                unfold wdI
                cases md
                · show (if 2014 ≤ f k ∧ f k ≤ 2022 then f k - 2013 else 0) ≠ 0 → (if 2014 ≤ f k ∧ f k ≤ 2022 then f k - 2013 else 0) - 1 < 16
                  split <;> omega
                · show (if 2022 ≤ f k ∧ f k ≤ 2025 then f k - 2021 else 0) ≠ 0 → (if 2022 ≤ f k ∧ f k ≤ 2025 then f k - 2021 else 0) - 1 < 16
                  split <;> omega
              · revert hw
                rw [z]
                unfold wdI
                show (if 2014 ≤ f k ∧ f k ≤ 2022 then f k - 2013 else 0) ≠ 0 → (if 2014 ≤ f k ∧ f k ≤ 2022 then f k - 2013 else 0) - 1 < 9
                split <;> omega
            · split
              · rename_i hw
                split
                · exact wd (by omega) (fun z => absurd (hw.1.symm.trans z) (by decide))
                · exact bad
              · split
                · rename_i hw
                  split
                  · exact wd (by omega) (fun z => absurd (hw.1.symm.trans z) (by decide))
                  · exact bad
                · exact bad
    · rw [if_neg m0]
      by_cases m3 : mode = 3
      · rw [if_pos m3]
        split
        · split
          · refine gT_B (ih 5 _ _ _ (by decide)) (fun c m k' q' h1 h2 => ?_)
            split
            · intro c' m' k2 q2 e
              cases e
              exact ⟨h1, TM_tn h2 _⟩
            · exact bad
          · exact bad
        · refine gT_B (ih 2 _ _ _ (by decide)) (fun c m k' q' h1 h2 => ?_)
          split
          · exact bad
          · rename_i hs
            refine gT_B (ih 2 _ _ _ (by decide)) (fun e l k2 q2 h3 h4 => ?_)
            intro c' m' k3 q3 e'
            cases e'
            have sl := (sgO_le (f k')).1
            refine ⟨by omega, TM_tn ?_ _⟩
            rw [show q2 - q = q' - q + (q2 - q') by omega]
            exact TM_join h2 h4 (by omega) (by omega)
      · rw [if_neg m3]
        exact gT_B (ih (mode - 1) _ _ _ (by omega)) (fun c m k' q' h1 h2 => gT_L (by omega) (fun k q => ih (mode - 1) k q b (by omega)) NT c m k' q' h1 h2)
end GTM
theorem WR_lf {X : Int32 → Int32} {S : Nat → Int64} (h : WR X S) : LfR false X (lfL S) := by
  obtain ⟨h1, h2, h3, h4, h5, h6, h7, h8, h9⟩ := h
  refine ⟨fun a _ => rfl, fun k hk => ?_⟩
  have hk : k < 9 := hk
  rcases (show k = 0 ∨ k = 1 ∨ k = 2 ∨ k = 3 ∨ k = 4 ∨ k = 5 ∨ k = 6 ∨ k = 7 ∨ k = 8 by omega) with e | e | e | e | e | e | e | e | e <;> subst e
  · exact h1
  · exact h2
  · exact h3
  · exact h6
  · exact h7
  · exact h9
  · exact h4
  · exact h5
  · exact h8
