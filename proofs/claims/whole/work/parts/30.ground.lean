/-! the ground's small methods -/
def bI (b : Bool) : Int32 := if b = true then nI 1 else nI 0
def inR (v : Int32) (N : Nat) : Bool := decide (¬ v < 0 ∧ ¬ nI N ≤ v)
theorem inR_neg {v : Int32} {N : Nat} (h : v < 0) : inR v N = false := decide_eq_false (fun z => z.1 h)
theorem inR_ge {v : Int32} {N : Nat} (h : nI N ≤ v) : inR v N = false := decide_eq_false (fun z => z.2 h)
theorem inR_t {v : Int32} {N : Nat} (h1 : ¬ v < 0) (h2 : ¬ nI N ≤ v) : inR v N = true := decide_eq_true ⟨h1, h2⟩
theorem inR_ex {v : Int32} {N : Nat} (h : inR v N = true) (hN : N < 2 ^ 31) : ∃ k, k < N ∧ v = nI k := by
  obtain ⟨h1, h2⟩ := of_decide_eq_true h
  obtain ⟨k, hk, rfl⟩ := nI_of h1
  exact ⟨k, Nat.lt_of_not_le (fun z => h2 (nI_le z hk)), rfl⟩
theorem inR_nI {k N : Nat} (h : k < N) (hN : N < 2 ^ 31) : inR (nI k) N = true := inR_t (nI_pos (by omega)) (nI_ge h hN)
theorem inR_nI' {k N : Nat} (h : N ≤ k) (hk : k < 2 ^ 31) : inR (nI k) N = false := inR_ge (nI_le h hk)
theorem bI_0 {b : Bool} (h : bI b = 0) : b = false := by
  cases b
  · rfl
  · exact absurd h (by decide)
theorem bI_1 {b : Bool} (h : ¬ bI b = 0) : b = true := by
  cases b
  · exact absurd rfl h
  · rfl
/-- the answer, and nothing changed -/
def Sm (u n : Nat) (T : Nat → mT) (I : Nat → Nat → Int32) (J : Nat → Nat → Int64) (R : Nat → Nat → Option Nat) (v : Value) : Option Value → mH → Prop := fun r K' => r = some v ∧ K' = hp u n T I J R
/-- a ground stands at g: its ten rows behind it -/
def IsG (n : Nat) (T : Nat → mT) (R : Nat → Nat → Option Nat) (g : Nat) : Prop :=
  (T g = (100 + 2, kd2) ∧ g + 11 ≤ n) ∧ (T (g + 1) = (0, [5]) ∧ T (g + 2) = (0, [4]) ∧ T (g + 3) = (0, [8]) ∧ T (g + 4) = (0, [8]) ∧ T (g + 5) = (0, [8]) ∧ T (g + 6) = (0, [40]) ∧ T (g + 7) = (0, [8]) ∧ T (g + 8) = (0, [8]) ∧ T (g + 9) = (0, [3]) ∧ T (g + 10) = (5, [6])) ∧
  (R g 1 = some (g + 1) ∧ R g 2 = some (g + 2) ∧ R g 3 = some (g + 3) ∧ R g 4 = some (g + 4) ∧ R g 5 = some (g + 5) ∧ R g 6 = some (g + 6) ∧ R g 7 = some (g + 7) ∧ R g 8 = some (g + 8) ∧ R g 9 = some (g + 9) ∧ R g 10 = some (g + 10))
/-- which of the first k hold v, as bits -/
def lyF (w : Nat → Int32) (v : Int32) : Nat → Int32
  | 0 => nI 0
  | k + 1 => if w k = v then lyF w v k ||| (nI 1 <<< (nI k &&& 31)) else lyF w v k
/-- which of the first k hold more than v, as bits -/
def afF (w : Nat → Int32) (v : Int32) : Nat → Int32
  | 0 => nI 0
  | k + 1 => if w k ≤ v then afF w v k else afF w v k ||| (nI 1 <<< (nI k &&& 31))
section GRD
variable {O : mO} {d u n : Nat} {T : Nat → mT} {I : Nat → Nat → Int32} {J : Nat → Nat → Int64} {R : Nat → Nat → Option Nat} {g : Nat}
theorem c_hasVault {N : Nat} {v : Int32} (hG : IsG n T R g) (hn : n ≤ oB) (hN : I g 11 = nI N) : Rn O d MX2_hasVault [.ref g, .int v] (hp u n T I J R) (Sm u n T I J R (.int (bI (inR v N)))) := by
  obtain ⟨⟨t0, hg⟩, -, -⟩ := hG
  show Go O d MX2_hasVault 0 [some (.ref g), some (.int v)] [] _ _
  refine g_iload_n dX2_hasVault_0 rfl ?_
  refine g_if_lt (t := 16) dX2_hasVault_1 (by decide) (fun c => ?_) (fun c => ?_)
  · refine g_iconst (v := nI 0) dX2_hasVault_16 (by decide) ?_
    exact g_ireturn dX2_hasVault_17 rfl (by first | rfl | decide) ⟨by rw [inR_neg c]; rfl, rfl⟩
  · refine g_iload_n dX2_hasVault_4 rfl ?_
    refine g_aload_n dX2_hasVault_5 rfl ?_
    refine g_getI dX2_hasVault_6 fX2_45 (by assumption) rfl (by omega) hn ?_
    rw [hN]
    refine g_ic_ge (t := 16) dX2_hasVault_9 (by decide) (fun e => ?_) (fun e => ?_)
    · refine g_iconst (v := nI 0) dX2_hasVault_16 (by decide) ?_
      exact g_ireturn dX2_hasVault_17 rfl (by first | rfl | decide) ⟨by rw [inR_ge e]; rfl, rfl⟩
    · refine g_iconst (v := nI 1) dX2_hasVault_12 (by decide) ?_
      refine g_goto (t := 17) dX2_hasVault_13 (by decide) ?_
      exact g_ireturn dX2_hasVault_17 rfl (by first | rfl | decide) ⟨by rw [inR_t c e]; rfl, rfl⟩
theorem c_hasFamily {N : Nat} {v : Int32} (hG : IsG n T R g) (hn : n ≤ oB) (hN : I g 12 = nI N) : Rn O d MX2_hasFamily [.ref g, .int v] (hp u n T I J R) (Sm u n T I J R (.int (bI (inR v N)))) := by
  obtain ⟨⟨t0, hg⟩, -, -⟩ := hG
  show Go O d MX2_hasFamily 0 [some (.ref g), some (.int v)] [] _ _
  refine g_iload_n dX2_hasFamily_0 rfl ?_
  refine g_if_lt (t := 16) dX2_hasFamily_1 (by decide) (fun c => ?_) (fun c => ?_)
  · refine g_iconst (v := nI 0) dX2_hasFamily_16 (by decide) ?_
    exact g_ireturn dX2_hasFamily_17 rfl (by first | rfl | decide) ⟨by rw [inR_neg c]; rfl, rfl⟩
  · refine g_iload_n dX2_hasFamily_4 rfl ?_
    refine g_aload_n dX2_hasFamily_5 rfl ?_
    refine g_getI dX2_hasFamily_6 fX2_49 (by assumption) rfl (by omega) hn ?_
    rw [hN]
    refine g_ic_ge (t := 16) dX2_hasFamily_9 (by decide) (fun e => ?_) (fun e => ?_)
    · refine g_iconst (v := nI 0) dX2_hasFamily_16 (by decide) ?_
      exact g_ireturn dX2_hasFamily_17 rfl (by first | rfl | decide) ⟨by rw [inR_ge e]; rfl, rfl⟩
    · refine g_iconst (v := nI 1) dX2_hasFamily_12 (by decide) ?_
      refine g_goto (t := 17) dX2_hasFamily_13 (by decide) ?_
      exact g_ireturn dX2_hasFamily_17 rfl (by first | rfl | decide) ⟨by rw [inR_t c e]; rfl, rfl⟩
theorem c_hasDead {N : Nat} {v : Int32} (hG : IsG n T R g) (hn : n ≤ oB) (hN : I g 13 = nI N) : Rn O d MX2_hasDead [.ref g, .int v] (hp u n T I J R) (Sm u n T I J R (.int (bI (inR v N)))) := by
  obtain ⟨⟨t0, hg⟩, -, -⟩ := hG
  show Go O d MX2_hasDead 0 [some (.ref g), some (.int v)] [] _ _
  refine g_iload_n dX2_hasDead_0 rfl ?_
  refine g_if_lt (t := 16) dX2_hasDead_1 (by decide) (fun c => ?_) (fun c => ?_)
  · refine g_iconst (v := nI 0) dX2_hasDead_16 (by decide) ?_
    exact g_ireturn dX2_hasDead_17 rfl (by first | rfl | decide) ⟨by rw [inR_neg c]; rfl, rfl⟩
  · refine g_iload_n dX2_hasDead_4 rfl ?_
    refine g_aload_n dX2_hasDead_5 rfl ?_
    refine g_getI dX2_hasDead_6 fX2_52 (by assumption) rfl (by omega) hn ?_
    rw [hN]
    refine g_ic_ge (t := 16) dX2_hasDead_9 (by decide) (fun e => ?_) (fun e => ?_)
    · refine g_iconst (v := nI 0) dX2_hasDead_16 (by decide) ?_
      exact g_ireturn dX2_hasDead_17 rfl (by first | rfl | decide) ⟨by rw [inR_ge e]; rfl, rfl⟩
    · refine g_iconst (v := nI 1) dX2_hasDead_12 (by decide) ?_
      refine g_goto (t := 17) dX2_hasDead_13 (by decide) ?_
      exact g_ireturn dX2_hasDead_17 rfl (by first | rfl | decide) ⟨by rw [inR_t c e]; rfl, rfl⟩
theorem c_hasLaw {N : Nat} {v : Int32} (hG : IsG n T R g) (hn : n ≤ oB) (hN : I g 16 = nI N) : Rn O d MX2_hasLaw [.ref g, .int v] (hp u n T I J R) (Sm u n T I J R (.int (bI (inR v N)))) := by
  obtain ⟨⟨t0, hg⟩, -, -⟩ := hG
  show Go O d MX2_hasLaw 0 [some (.ref g), some (.int v)] [] _ _
  refine g_iload_n dX2_hasLaw_0 rfl ?_
  refine g_if_lt (t := 16) dX2_hasLaw_1 (by decide) (fun c => ?_) (fun c => ?_)
  · refine g_iconst (v := nI 0) dX2_hasLaw_16 (by decide) ?_
    exact g_ireturn dX2_hasLaw_17 rfl (by first | rfl | decide) ⟨by rw [inR_neg c]; rfl, rfl⟩
  · refine g_iload_n dX2_hasLaw_4 rfl ?_
    refine g_aload_n dX2_hasLaw_5 rfl ?_
    refine g_getI dX2_hasLaw_6 fX2_61 (by assumption) rfl (by omega) hn ?_
    rw [hN]
    refine g_ic_ge (t := 16) dX2_hasLaw_9 (by decide) (fun e => ?_) (fun e => ?_)
    · refine g_iconst (v := nI 0) dX2_hasLaw_16 (by decide) ?_
      exact g_ireturn dX2_hasLaw_17 rfl (by first | rfl | decide) ⟨by rw [inR_ge e]; rfl, rfl⟩
    · refine g_iconst (v := nI 1) dX2_hasLaw_12 (by decide) ?_
      refine g_goto (t := 17) dX2_hasLaw_13 (by decide) ?_
      exact g_ireturn dX2_hasLaw_17 rfl (by first | rfl | decide) ⟨by rw [inR_t c e]; rfl, rfl⟩
theorem c_isIn {D : Nat} {v : Int32} (hG : IsG n T R g) (hn : n ≤ oB) (hD : I g 13 = nI D) (h8 : D ≤ 8) : Rn O (d + 1) MX2_isIn [.ref g, .int v] (hp u n T I J R) (Sm u n T I J R (.int (bI (inR v D && decide (I (g + 4) v.toNatClampNeg ≠ -1))))) := by
  have hc := c_hasDead (O := O) (d := d) (u := u) (J := J) (v := v) hG hn hD
  obtain ⟨⟨t0, hg⟩, ⟨t1, t2, t3, t4, -⟩, ⟨r1, r2, r3, r4, -⟩⟩ := hG
  show Go O (d + 1) MX2_isIn 0 [some (.ref g), some (.int v)] [] _ _
  refine g_aload_n dX2_isIn_0 rfl ?_
  refine g_iload_n dX2_isIn_1 rfl ?_
  refine g_virt (Z := MX2_hasDead) dX2_isIn_2 mX2_77.1 mX2_77.2 (Nat.le_of_ble_eq_true rfl) rfl rfl (Nat.le_of_ble_eq_true rfl) (Nat.le_of_ble_eq_true rfl) (by assumption) rfl rfl (by omega) hn (hc) ?_
  rintro _ _ ⟨rfl, rfl⟩
  try dsimp only [Option.toList, List.cons_append, List.nil_append]
  cases hb : inR v D with
  | false =>
    refine g_if_eq (t := 22) dX2_isIn_5 (by decide) (fun c => ?_) (fun c => ?_)
    · refine g_iconst (v := nI 0) dX2_isIn_22 (by decide) ?_
      exact g_ireturn dX2_isIn_23 rfl (by first | rfl | decide) ⟨rfl, rfl⟩
    · exact absurd rfl c
  | true =>
    obtain ⟨k, hk, rfl⟩ := inR_ex hb (by omega)
    rw [nI_clamp (by omega)]
    refine g_if_eq (t := 22) dX2_isIn_5 (by decide) (fun c => ?_) (fun c => ?_)
    · exact absurd c (by decide)
    · refine g_aload_n dX2_isIn_8 rfl ?_
      refine g_getR dX2_isIn_9 fX2_21 (by assumption) rfl (by assumption) (by omega) hn ?_
      refine g_iload_n dX2_isIn_12 rfl ?_
      refine g_iald dX2_isIn_13 (by assumption) rfl (by omega) (by decide) (by omega) hn ?_
      refine g_iconst (v := -1) dX2_isIn_14 (by decide) ?_
      refine g_ic_eq (t := 22) dX2_isIn_15 (by decide) (fun e => ?_) (fun e => ?_)
      · refine g_iconst (v := nI 0) dX2_isIn_22 (by decide) ?_
        exact g_ireturn dX2_isIn_23 rfl (by first | rfl | decide) ⟨by rw [decide_eq_false (fun z => z e)]; rfl, rfl⟩
      · refine g_iconst (v := nI 1) dX2_isIn_18 (by decide) ?_
        refine g_goto (t := 23) dX2_isIn_19 (by decide) ?_
        exact g_ireturn dX2_isIn_23 rfl (by first | rfl | decide) ⟨by rw [decide_eq_true e]; rfl, rfl⟩
theorem c_isOut {D : Nat} {v : Int32} (hG : IsG n T R g) (hn : n ≤ oB) (hD : I g 13 = nI D) (h8 : D ≤ 8) : Rn O (d + 1) MX2_isOut [.ref g, .int v] (hp u n T I J R) (Sm u n T I J R (.int (bI (inR v D && decide (I (g + 4) v.toNatClampNeg = -1))))) := by
  have hc := c_hasDead (O := O) (d := d) (u := u) (J := J) (v := v) hG hn hD
  obtain ⟨⟨t0, hg⟩, ⟨t1, t2, t3, t4, -⟩, ⟨r1, r2, r3, r4, -⟩⟩ := hG
  show Go O (d + 1) MX2_isOut 0 [some (.ref g), some (.int v)] [] _ _
  refine g_aload_n dX2_isOut_0 rfl ?_
  refine g_iload_n dX2_isOut_1 rfl ?_
  refine g_virt (Z := MX2_hasDead) dX2_isOut_2 mX2_77.1 mX2_77.2 (Nat.le_of_ble_eq_true rfl) rfl rfl (Nat.le_of_ble_eq_true rfl) (Nat.le_of_ble_eq_true rfl) (by assumption) rfl rfl (by omega) hn (hc) ?_
  rintro _ _ ⟨rfl, rfl⟩
  try dsimp only [Option.toList, List.cons_append, List.nil_append]
  cases hb : inR v D with
  | false =>
    refine g_if_eq (t := 22) dX2_isOut_5 (by decide) (fun c => ?_) (fun c => ?_)
    · refine g_iconst (v := nI 0) dX2_isOut_22 (by decide) ?_
      exact g_ireturn dX2_isOut_23 rfl (by first | rfl | decide) ⟨rfl, rfl⟩
    · exact absurd rfl c
  | true =>
    obtain ⟨k, hk, rfl⟩ := inR_ex hb (by omega)
    rw [nI_clamp (by omega)]
    refine g_if_eq (t := 22) dX2_isOut_5 (by decide) (fun c => ?_) (fun c => ?_)
    · exact absurd c (by decide)
    · refine g_aload_n dX2_isOut_8 rfl ?_
      refine g_getR dX2_isOut_9 fX2_21 (by assumption) rfl (by assumption) (by omega) hn ?_
      refine g_iload_n dX2_isOut_12 rfl ?_
      refine g_iald dX2_isOut_13 (by assumption) rfl (by omega) (by decide) (by omega) hn ?_
      refine g_iconst (v := -1) dX2_isOut_14 (by decide) ?_
      refine g_ic_ne (t := 22) dX2_isOut_15 (by decide) (fun e => ?_) (fun e => ?_)
      · refine g_iconst (v := nI 0) dX2_isOut_22 (by decide) ?_
        exact g_ireturn dX2_isOut_23 rfl (by first | rfl | decide) ⟨by rw [decide_eq_false e]; rfl, rfl⟩
      · refine g_iconst (v := nI 1) dX2_isOut_18 (by decide) ?_
        refine g_goto (t := 23) dX2_isOut_19 (by decide) ?_
        exact g_ireturn dX2_isOut_23 rfl (by first | rfl | decide) ⟨by rw [decide_eq_true e]; rfl, rfl⟩
theorem c_lyingIn {D : Nat} {v : Int32} (hG : IsG n T R g) (hn : n ≤ oB) (hD : I g 13 = nI D) (h8 : D ≤ 8) : Rn O d MX2_lyingIn [.ref g, .int v] (hp u n T I J R) (Sm u n T I J R (.int (lyF (I (g + 4)) v D))) := by
  obtain ⟨⟨t0, hg⟩, ⟨t1, t2, t3, t4, t5, -⟩, ⟨r1, r2, r3, r4, r5, -⟩⟩ := hG
  show Go O d MX2_lyingIn 0 [some (.ref g), some (.int v), none, none] [] _ _
  refine g_iconst (v := nI 0) dX2_lyingIn_0 (by decide) ?_
  refine g_istore_n (ls' := [_, _, some (.int _), _]) dX2_lyingIn_1 (by decide) rfl ?_
  refine g_iconst (v := nI 0) dX2_lyingIn_2 (by decide) ?_
  refine g_istore_n (ls' := [_, _, _, some (.int _)]) dX2_lyingIn_3 (by decide) rfl ?_
  refine lp (Q := fun k => Go O d MX2_lyingIn 4 [some (.ref g), some (.int v), some (.int (lyF (I (g + 4)) v k)), some (.int (nI k))] [] (hp u n T I J R) _) (D := D) ?_ ?_
  · refine g_iload_n dX2_lyingIn_4 rfl ?_
    refine g_aload_n dX2_lyingIn_5 rfl ?_
    refine g_getI dX2_lyingIn_6 fX2_52 (by assumption) rfl (by omega) hn ?_
    rw [hD]
    refine g_ic_ge (t := 34) dX2_lyingIn_9 (by decide) (fun c => ?_) (fun c => ?_)
    · refine g_iload_n dX2_lyingIn_34 rfl ?_
      exact g_ireturn dX2_lyingIn_35 rfl (by first | rfl | decide) ⟨rfl, rfl⟩
    · exact absurd (Int32.le_refl _) c
  · intro k hk ih
    refine g_iload_n dX2_lyingIn_4 rfl ?_
    refine g_aload_n dX2_lyingIn_5 rfl ?_
    refine g_getI dX2_lyingIn_6 fX2_52 (by assumption) rfl (by omega) hn ?_
    rw [hD]
    refine g_ic_ge (t := 34) dX2_lyingIn_9 (by decide) (fun c => ?_) (fun c => ?_)
    · exact absurd c (nI_ge hk (by omega))
    · refine g_aload_n dX2_lyingIn_12 rfl ?_
      refine g_getR dX2_lyingIn_13 fX2_21 (by assumption) rfl (by assumption) (by omega) hn ?_
      refine g_iload_n dX2_lyingIn_16 rfl ?_
      refine g_iald dX2_lyingIn_17 (by assumption) rfl (by omega) (by decide) (by omega) hn ?_
      refine g_iload_n dX2_lyingIn_18 rfl ?_
      refine g_ic_ne (t := 28) dX2_lyingIn_19 (by decide) (fun e => ?_) (fun e => ?_)
      · refine g_iincN (c := 1) (ls' := [_, _, _, some (.int _)]) dX2_lyingIn_28 rfl (by decide) rfl rfl ?_
        refine g_goto (t := 4) dX2_lyingIn_31 (by decide) ?_
        have e2 : lyF (I (g + 4)) v (k + 1) = lyF (I (g + 4)) v k := if_neg e
        rw [e2] at ih
        exact ih
      · refine g_iload_n dX2_lyingIn_22 rfl ?_
        refine g_iconst (v := nI 1) dX2_lyingIn_23 (by decide) ?_
        refine g_iload_n dX2_lyingIn_24 rfl ?_
        refine g_ishl dX2_lyingIn_25 ?_
        refine g_ior dX2_lyingIn_26 ?_
        refine g_istore_n (ls' := [_, _, some (.int _), _]) dX2_lyingIn_27 (by decide) rfl ?_
        refine g_iincN (c := 1) (ls' := [_, _, _, some (.int _)]) dX2_lyingIn_28 rfl (by decide) rfl rfl ?_
        refine g_goto (t := 4) dX2_lyingIn_31 (by decide) ?_
        have e2 : lyF (I (g + 4)) v (k + 1) = lyF (I (g + 4)) v k ||| (nI 1 <<< (nI k &&& 31)) := if_pos e
        rw [e2] at ih
        exact ih
theorem c_deadOf {D : Nat} {v : Int32} (hG : IsG n T R g) (hn : n ≤ oB) (hD : I g 13 = nI D) (h8 : D ≤ 8) : Rn O d MX2_deadOf [.ref g, .int v] (hp u n T I J R) (Sm u n T I J R (.int (lyF (I (g + 3)) v D))) := by
  obtain ⟨⟨t0, hg⟩, ⟨t1, t2, t3, t4, t5, -⟩, ⟨r1, r2, r3, r4, r5, -⟩⟩ := hG
  show Go O d MX2_deadOf 0 [some (.ref g), some (.int v), none, none] [] _ _
  refine g_iconst (v := nI 0) dX2_deadOf_0 (by decide) ?_
  refine g_istore_n (ls' := [_, _, some (.int _), _]) dX2_deadOf_1 (by decide) rfl ?_
  refine g_iconst (v := nI 0) dX2_deadOf_2 (by decide) ?_
  refine g_istore_n (ls' := [_, _, _, some (.int _)]) dX2_deadOf_3 (by decide) rfl ?_
  refine lp (Q := fun k => Go O d MX2_deadOf 4 [some (.ref g), some (.int v), some (.int (lyF (I (g + 3)) v k)), some (.int (nI k))] [] (hp u n T I J R) _) (D := D) ?_ ?_
  · refine g_iload_n dX2_deadOf_4 rfl ?_
    refine g_aload_n dX2_deadOf_5 rfl ?_
    refine g_getI dX2_deadOf_6 fX2_52 (by assumption) rfl (by omega) hn ?_
    rw [hD]
    refine g_ic_ge (t := 34) dX2_deadOf_9 (by decide) (fun c => ?_) (fun c => ?_)
    · refine g_iload_n dX2_deadOf_34 rfl ?_
      exact g_ireturn dX2_deadOf_35 rfl (by first | rfl | decide) ⟨rfl, rfl⟩
    · exact absurd (Int32.le_refl _) c
  · intro k hk ih
    refine g_iload_n dX2_deadOf_4 rfl ?_
    refine g_aload_n dX2_deadOf_5 rfl ?_
    refine g_getI dX2_deadOf_6 fX2_52 (by assumption) rfl (by omega) hn ?_
    rw [hD]
    refine g_ic_ge (t := 34) dX2_deadOf_9 (by decide) (fun c => ?_) (fun c => ?_)
    · exact absurd c (nI_ge hk (by omega))
    · refine g_aload_n dX2_deadOf_12 rfl ?_
      refine g_getR dX2_deadOf_13 fX2_18 (by assumption) rfl (by assumption) (by omega) hn ?_
      refine g_iload_n dX2_deadOf_16 rfl ?_
      refine g_iald dX2_deadOf_17 (by assumption) rfl (by omega) (by decide) (by omega) hn ?_
      refine g_iload_n dX2_deadOf_18 rfl ?_
      refine g_ic_ne (t := 28) dX2_deadOf_19 (by decide) (fun e => ?_) (fun e => ?_)
      · refine g_iincN (c := 1) (ls' := [_, _, _, some (.int _)]) dX2_deadOf_28 rfl (by decide) rfl rfl ?_
        refine g_goto (t := 4) dX2_deadOf_31 (by decide) ?_
        have e2 : lyF (I (g + 3)) v (k + 1) = lyF (I (g + 3)) v k := if_neg e
        rw [e2] at ih
        exact ih
      · refine g_iload_n dX2_deadOf_22 rfl ?_
        refine g_iconst (v := nI 1) dX2_deadOf_23 (by decide) ?_
        refine g_iload_n dX2_deadOf_24 rfl ?_
        refine g_ishl dX2_deadOf_25 ?_
        refine g_ior dX2_deadOf_26 ?_
        refine g_istore_n (ls' := [_, _, some (.int _), _]) dX2_deadOf_27 (by decide) rfl ?_
        refine g_iincN (c := 1) (ls' := [_, _, _, some (.int _)]) dX2_deadOf_28 rfl (by decide) rfl rfl ?_
        refine g_goto (t := 4) dX2_deadOf_31 (by decide) ?_
        have e2 : lyF (I (g + 3)) v (k + 1) = lyF (I (g + 3)) v k ||| (nI 1 <<< (nI k &&& 31)) := if_pos e
        rw [e2] at ih
        exact ih
theorem c_inAfter {D : Nat} {v : Int32} (hG : IsG n T R g) (hn : n ≤ oB) (hD : I g 13 = nI D) (h8 : D ≤ 8) : Rn O d MX2_inAfter [.ref g, .int v] (hp u n T I J R) (Sm u n T I J R (.int (afF (I (g + 5)) v D))) := by
  obtain ⟨⟨t0, hg⟩, ⟨t1, t2, t3, t4, t5, -⟩, ⟨r1, r2, r3, r4, r5, -⟩⟩ := hG
  show Go O d MX2_inAfter 0 [some (.ref g), some (.int v), none, none] [] _ _
  refine g_iconst (v := nI 0) dX2_inAfter_0 (by decide) ?_
  refine g_istore_n (ls' := [_, _, some (.int _), _]) dX2_inAfter_1 (by decide) rfl ?_
  refine g_iconst (v := nI 0) dX2_inAfter_2 (by decide) ?_
  refine g_istore_n (ls' := [_, _, _, some (.int _)]) dX2_inAfter_3 (by decide) rfl ?_
  refine lp (Q := fun k => Go O d MX2_inAfter 4 [some (.ref g), some (.int v), some (.int (afF (I (g + 5)) v k)), some (.int (nI k))] [] (hp u n T I J R) _) (D := D) ?_ ?_
  · refine g_iload_n dX2_inAfter_4 rfl ?_
    refine g_aload_n dX2_inAfter_5 rfl ?_
    refine g_getI dX2_inAfter_6 fX2_52 (by assumption) rfl (by omega) hn ?_
    rw [hD]
    refine g_ic_ge (t := 34) dX2_inAfter_9 (by decide) (fun c => ?_) (fun c => ?_)
    · refine g_iload_n dX2_inAfter_34 rfl ?_
      exact g_ireturn dX2_inAfter_35 rfl (by first | rfl | decide) ⟨rfl, rfl⟩
    · exact absurd (Int32.le_refl _) c
  · intro k hk ih
    refine g_iload_n dX2_inAfter_4 rfl ?_
    refine g_aload_n dX2_inAfter_5 rfl ?_
    refine g_getI dX2_inAfter_6 fX2_52 (by assumption) rfl (by omega) hn ?_
    rw [hD]
    refine g_ic_ge (t := 34) dX2_inAfter_9 (by decide) (fun c => ?_) (fun c => ?_)
    · exact absurd c (nI_ge hk (by omega))
    · refine g_aload_n dX2_inAfter_12 rfl ?_
      refine g_getR dX2_inAfter_13 fX2_24 (by assumption) rfl (by assumption) (by omega) hn ?_
      refine g_iload_n dX2_inAfter_16 rfl ?_
      refine g_iald dX2_inAfter_17 (by assumption) rfl (by omega) (by decide) (by omega) hn ?_
      refine g_iload_n dX2_inAfter_18 rfl ?_
      refine g_ic_le (t := 28) dX2_inAfter_19 (by decide) (fun e => ?_) (fun e => ?_)
      · refine g_iincN (c := 1) (ls' := [_, _, _, some (.int _)]) dX2_inAfter_28 rfl (by decide) rfl rfl ?_
        refine g_goto (t := 4) dX2_inAfter_31 (by decide) ?_
        have e2 : afF (I (g + 5)) v (k + 1) = afF (I (g + 5)) v k := if_pos e
        rw [e2] at ih
        exact ih
      · refine g_iload_n dX2_inAfter_22 rfl ?_
        refine g_iconst (v := nI 1) dX2_inAfter_23 (by decide) ?_
        refine g_iload_n dX2_inAfter_24 rfl ?_
        refine g_ishl dX2_inAfter_25 ?_
        refine g_ior dX2_inAfter_26 ?_
        refine g_istore_n (ls' := [_, _, some (.int _), _]) dX2_inAfter_27 (by decide) rfl ?_
        refine g_iincN (c := 1) (ls' := [_, _, _, some (.int _)]) dX2_inAfter_28 rfl (by decide) rfl rfl ?_
        refine g_goto (t := 4) dX2_inAfter_31 (by decide) ?_
        have e2 : afF (I (g + 5)) v (k + 1) = afF (I (g + 5)) v k ||| (nI 1 <<< (nI k &&& 31)) := if_neg e
        rw [e2] at ih
        exact ih
end GRD
