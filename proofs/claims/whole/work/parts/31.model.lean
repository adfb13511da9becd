/-! the reference's small methods -/
/-- the reference stands at q, its twenty-eight rows behind it -/
def IsM (n : Nat) (T : Nat → mT) (R : Nat → Nat → Option Nat) (q : Nat) : Prop :=
  (T q = (100 + 11, kd11) ∧ q + 29 ≤ n) ∧
  (T (q + 1) = (0, [7]) ∧ T (q + 2) = (0, [5510]) ∧ T (q + 3) = (0, [11020]) ∧ T (q + 4) = (3, [2]) ∧ T (q + 5) = (0, [558]) ∧ T (q + 6) = (0, [16]) ∧ T (q + 7) = (0, [496]) ∧ T (q + 8) = (0, [16]) ∧ T (q + 9) = (0, [400]) ∧ T (q + 10) = (0, [96]) ∧ T (q + 11) = (0, [400]) ∧ T (q + 12) = (0, [400]) ∧ T (q + 13) = (0, [400]) ∧ T (q + 14) = (0, [400]) ∧ T (q + 15) = (1, [9]) ∧ T (q + 16) = (1, [6]) ∧ T (q + 17) = (1, [4]) ∧ T (q + 18) = (1, [13]) ∧ T (q + 19) = (1, [13]) ∧ T (q + 20) = (1, [400]) ∧ T (q + 21) = (0, [4]) ∧ T (q + 22) = (0, [8]) ∧ T (q + 23) = (0, [9216]) ∧ T (q + 24) = (3, [40]) ∧ T (q + 25) = (1, [21]) ∧ T (q + 26) = (1, [4]) ∧ T (q + 27) = (0, [96]) ∧ T (q + 28) = (0, [31])) ∧
  (R q 2 = some (q + 1) ∧ R q 3 = some (q + 2) ∧ R q 4 = some (q + 3) ∧ R q 5 = some (q + 4) ∧ R q 6 = some (q + 5) ∧ R q 7 = some (q + 6) ∧ R q 9 = some (q + 7) ∧ R q 10 = some (q + 8) ∧ R q 12 = some (q + 9) ∧ R q 22 = some (q + 10) ∧ R q 24 = some (q + 11) ∧ R q 25 = some (q + 12) ∧ R q 27 = some (q + 13) ∧ R q 28 = some (q + 14) ∧ R q 31 = some (q + 15) ∧ R q 32 = some (q + 16) ∧ R q 33 = some (q + 17) ∧ R q 35 = some (q + 18) ∧ R q 36 = some (q + 19) ∧ R q 37 = some (q + 20) ∧ R q 41 = some (q + 21) ∧ R q 42 = some (q + 22) ∧ R q 43 = some (q + 23) ∧ R q 44 = some (q + 24) ∧ R q 45 = some (q + 25) ∧ R q 46 = some (q + 26) ∧ R q 47 = some (q + 27) ∧ R q 53 = some (q + 28))
theorem bI_nar (b : Bool) : narrow .boolean (.int (bI b)) = .int (bI b) := by cases b <;> decide
theorem i2l_toInt (v : Int32) : v.toInt64.toInt = v.toInt := Int32.toInt_toInt64 v
theorem inL_inR (v : Int32) {N : Nat} (hN : N < 2 ^ 31) : decide (0 ≤ v.toInt64 ∧ v.toInt64 ≤ (nI N).toInt64 - 1) = inR v N := by
  have e : ((nI N).toInt64 - 1).toInt = (N : Int) - 1 := by
    rw [nI_l hN]
    rcases Nat.eq_zero_or_pos N with h | h
    · subst h
      decide
    · rw [show (1 : Int64) = lN 1 from rfl, lN_sub h, lN_toInt (by omega)]
      omega
  unfold inR
  congr 1
  rw [Int64.le_iff_toInt_le, Int64.le_iff_toInt_le, e, i2l_toInt, Int32.lt_iff_toInt_lt, Int32.le_iff_toInt_le, nI_toInt hN]
  have z : (0 : Int64).toInt = 0 := rfl
  have z' : (0 : Int32).toInt = 0 := rfl
  rw [z, z']
  apply propext
  omega
section MOD
variable {O : mO} {d u n : Nat} {T : Nat → mT} {I : Nat → Nat → Int32} {J : Nat → Nat → Int64} {R : Nat → Nat → Option Nat} {q : Nat} {K : mH}
theorem k_in (v lo hi : Int64) : Rn O d MX11_in [.long v, .long lo, .long hi] K (fun r K' => r = some (.int (bI (decide (lo ≤ v ∧ v ≤ hi)))) ∧ K' = K) := by
  show Go O d MX11_in 0 [some (.long v), none, some (.long lo), none, some (.long hi), none] [] _ _
  refine g_lload_n dX11_in_0 rfl ?_
  refine g_lload_n dX11_in_1 rfl ?_
  refine g_lcmp dX11_in_2 ?_
  refine g_if_lt (t := 17) dX11_in_3 (by decide) (fun c => ?_) (fun c => ?_)
  · refine g_iconst (v := nI 0) dX11_in_17 (by decide) ?_
    exact g_ireturn dX11_in_18 rfl (by first | rfl | decide) ⟨by rw [decide_eq_false (fun z => Int64.not_le.mpr ((lg_cmp_lt _ _).mp c) z.1)]; rfl, rfl⟩
  · refine g_lload_n dX11_in_6 rfl ?_
    refine g_lload dX11_in_7 rfl ?_
    refine g_lcmp dX11_in_9 ?_
    refine g_if_gt (t := 17) dX11_in_10 (by decide) (fun e => ?_) (fun e => ?_)
    · refine g_iconst (v := nI 0) dX11_in_17 (by decide) ?_
      exact g_ireturn dX11_in_18 rfl (by first | rfl | decide) ⟨by rw [decide_eq_false (fun z => Int64.not_le.mpr ((lg_cmp_gt _ _).mp e) z.2)]; rfl, rfl⟩
    · refine g_iconst (v := nI 1) dX11_in_13 (by decide) ?_
      refine g_goto (t := 18) dX11_in_14 (by decide) ?_
      exact g_ireturn dX11_in_18 rfl (by first | rfl | decide) ⟨by rw [decide_eq_true ⟨Int64.not_lt.mp (fun z => c ((lg_cmp_lt _ _).mpr z)), Int64.not_lt.mp (fun z => e ((lg_cmp_gt _ _).mpr z))⟩]; rfl, rfl⟩
theorem k_is (s k : Int32) : Rn O d MX11_is [.int s, .int k] K (fun r K' => r = some (.int (bI (decide ((s >>> (k &&& 31)) &&& nI 1 = nI 1)))) ∧ K' = K) := by
  show Go O d MX11_is 0 [some (.int s), some (.int k)] [] _ _
  refine g_iload_n dX11_is_0 rfl ?_
  refine g_iload_n dX11_is_1 rfl ?_
  refine g_ishr dX11_is_2 ?_
  refine g_iconst (v := nI 1) dX11_is_3 (by decide) ?_
  refine g_iand dX11_is_4 ?_
  refine g_iconst (v := nI 1) dX11_is_5 (by decide) ?_
  refine g_ic_ne (t := 13) dX11_is_6 (by decide) (fun c => ?_) (fun c => ?_)
  · refine g_iconst (v := nI 0) dX11_is_13 (by decide) ?_
    exact g_ireturn dX11_is_14 rfl (by first | rfl | decide) ⟨by rw [decide_eq_false c]; rfl, rfl⟩
  · refine g_iconst (v := nI 1) dX11_is_9 (by decide) ?_
    refine g_goto (t := 14) dX11_is_10 (by decide) ?_
    exact g_ireturn dX11_is_14 rfl (by first | rfl | decide) ⟨by rw [decide_eq_true c]; rfl, rfl⟩
/-- how many of the lowest k bits -/
def onF (s : Int32) : Nat → Int32
  | 0 => nI 0
  | k + 1 => onF s k + ((s >>> (nI k &&& 31)) &&& nI 1)
theorem k_ones (s : Int32) : Rn O d MX11_ones [.int s] K (fun r K' => r = some (.int (onF s 8)) ∧ K' = K) := by
  show Go O d MX11_ones 0 [some (.int s), none, none] [] _ _
  refine g_iconst (v := nI 0) dX11_ones_0 (by decide) ?_
  refine g_istore_n (ls' := [_, some (.int _), _]) dX11_ones_1 (by decide) rfl ?_
  refine g_iconst (v := nI 0) dX11_ones_2 (by decide) ?_
  refine g_istore_n (ls' := [_, _, some (.int _)]) dX11_ones_3 (by decide) rfl ?_
  refine lp (Q := fun k => Go O d MX11_ones 4 [some (.int s), some (.int (onF s k)), some (.int (nI k))] [] K _) (D := 8) ?_ ?_
  · refine g_iload_n dX11_ones_4 rfl ?_
    refine g_bipush (v := nI 8) dX11_ones_5 (by decide) ?_
    refine g_ic_ge (t := 24) dX11_ones_7 (by decide) (fun c => ?_) (fun c => ?_)
    · refine g_iload_n dX11_ones_24 rfl ?_
      exact g_ireturn dX11_ones_25 rfl (by first | rfl | decide) ⟨rfl, rfl⟩
    · exact absurd (Int32.le_refl _) c
  · intro k hk ih
    refine g_iload_n dX11_ones_4 rfl ?_
    refine g_bipush (v := nI 8) dX11_ones_5 (by decide) ?_
    refine g_ic_ge (t := 24) dX11_ones_7 (by decide) (fun c => ?_) (fun c => ?_)
    · exact absurd c (nI_ge hk (by omega))
    · refine g_iload_n dX11_ones_10 rfl ?_
      refine g_iload_n dX11_ones_11 rfl ?_
      refine g_iload_n dX11_ones_12 rfl ?_
      refine g_ishr dX11_ones_13 ?_
      refine g_iconst (v := nI 1) dX11_ones_14 (by decide) ?_
      refine g_iand dX11_ones_15 ?_
      refine g_iadd dX11_ones_16 ?_
      refine g_istore_n (ls' := [_, some (.int _), _]) dX11_ones_17 (by decide) rfl ?_
      refine g_iincN (c := 1) (ls' := [_, _, some (.int _)]) dX11_ones_18 rfl (by decide) rfl rfl ?_
      refine g_goto (t := 4) dX11_ones_21 (by decide) ?_
      exact ih
theorem k_within (v : Int64) (lo hi : Int32) : Rn O d MX11_within [.long v, .int lo, .int hi] K (fun r K' => r = some (.int (if v < lo.toInt64 then lo else if hi.toInt64 < v then hi else v.toInt32)) ∧ K' = K) := by
  show Go O d MX11_within 0 [some (.long v), none, some (.int lo), some (.int hi)] [] _ _
  refine g_lload_n dX11_within_0 rfl ?_
  refine g_iload_n dX11_within_1 rfl ?_
  refine g_i2l dX11_within_2 ?_
  refine g_lcmp dX11_within_3 ?_
  refine g_if_ge (t := 11) dX11_within_4 (by decide) (fun c => ?_) (fun c => ?_)
  · have c1 : ¬ v < lo.toInt64 := Int64.not_lt.mpr ((lg_cmp_ge _ _).mp c)
    refine g_lload_n dX11_within_11 rfl ?_
    refine g_iload_n dX11_within_12 rfl ?_
    refine g_i2l dX11_within_13 ?_
    refine g_lcmp dX11_within_14 ?_
    refine g_if_le (t := 22) dX11_within_15 (by decide) (fun e => ?_) (fun e => ?_)
    · have e1 : ¬ hi.toInt64 < v := Int64.not_lt.mpr ((lg_cmp_le _ _).mp e)
      refine g_lload_n dX11_within_22 rfl ?_
      refine g_l2i dX11_within_23 ?_
      exact g_ireturn dX11_within_24 rfl (by first | rfl | decide) ⟨by rw [if_neg c1, if_neg e1], rfl⟩
    · have e1 : hi.toInt64 < v := Int64.not_le.mp (fun z => e ((lg_cmp_le _ _).mpr z))
      refine g_iload_n dX11_within_18 rfl ?_
      refine g_goto (t := 24) dX11_within_19 (by decide) ?_
      exact g_ireturn dX11_within_24 rfl (by first | rfl | decide) ⟨by rw [if_neg c1, if_pos e1], rfl⟩
  · have c1 : v < lo.toInt64 := Int64.not_le.mp (fun z => c ((lg_cmp_ge _ _).mpr z))
    refine g_iload_n dX11_within_7 rfl ?_
    refine g_goto (t := 24) dX11_within_8 (by decide) ?_
    exact g_ireturn dX11_within_24 rfl (by first | rfl | decide) ⟨by rw [if_pos c1], rfl⟩
theorem k_isVault {N : Nat} {v : Int32} (hM : IsM n T R q) (hn : n ≤ oB) (hN : I (q + 2) 0 = nI N) (hs : N < 2 ^ 31) : Rn O (d + 1) MX11_isVault [.ref q, .int v] (hp u n T I J R) (Sm u n T I J R (.int (bI (inR v N)))) := by
  obtain ⟨⟨t0, hg⟩, ⟨t1, t2, -⟩, ⟨r2, r3, -⟩⟩ := hM
  show Go O (d + 1) MX11_isVault 0 [some (.ref q), some (.int v)] [] _ _
  refine g_iload_n dX11_isVault_0 rfl ?_
  refine g_i2l dX11_isVault_1 ?_
  refine g_lconst (v := 0) dX11_isVault_2 (by decide) ?_
  refine g_aload_n dX11_isVault_3 rfl ?_
  refine g_getR dX11_isVault_4 fX11_13 (by assumption) rfl (by assumption) (by omega) hn ?_
  refine g_iconst (v := nI 0) dX11_isVault_7 (by decide) ?_
  refine g_iald dX11_isVault_8 (by assumption) rfl (by omega) (by decide) (by omega) hn ?_
  refine g_i2l dX11_isVault_9 ?_
  refine g_lconst (v := 1) dX11_isVault_10 (by decide) ?_
  refine g_lsub dX11_isVault_11 ?_
  refine g_stat (Z := MX11_in) dX11_isVault_12 mX11_169.1 mX11_169.2 (Nat.le_of_ble_eq_true rfl) rfl rfl (Nat.le_of_ble_eq_true rfl) (Nat.le_of_ble_eq_true rfl) (k_in _ _ _) ?_
  rintro _ _ ⟨rfl, rfl⟩
  try dsimp only [Option.toList, List.cons_append, List.nil_append]
  rw [hN, inL_inR v hs]
  exact g_ireturn dX11_isVault_15 rfl (bI_nar _) ⟨rfl, rfl⟩
theorem k_isFamily {N : Nat} {v : Int32} (hM : IsM n T R q) (hn : n ≤ oB) (hN : I (q + 2) 1 = nI N) (hs : N < 2 ^ 31) : Rn O (d + 1) MX11_isFamily [.ref q, .int v] (hp u n T I J R) (Sm u n T I J R (.int (bI (inR v N)))) := by
  obtain ⟨⟨t0, hg⟩, ⟨t1, t2, -⟩, ⟨r2, r3, -⟩⟩ := hM
  show Go O (d + 1) MX11_isFamily 0 [some (.ref q), some (.int v)] [] _ _
  refine g_iload_n dX11_isFamily_0 rfl ?_
  refine g_i2l dX11_isFamily_1 ?_
  refine g_lconst (v := 0) dX11_isFamily_2 (by decide) ?_
  refine g_aload_n dX11_isFamily_3 rfl ?_
  refine g_getR dX11_isFamily_4 fX11_13 (by assumption) rfl (by assumption) (by omega) hn ?_
  refine g_iconst (v := nI 1) dX11_isFamily_7 (by decide) ?_
  refine g_iald dX11_isFamily_8 (by assumption) rfl (by omega) (by decide) (by omega) hn ?_
  refine g_i2l dX11_isFamily_9 ?_
  refine g_lconst (v := 1) dX11_isFamily_10 (by decide) ?_
  refine g_lsub dX11_isFamily_11 ?_
  refine g_stat (Z := MX11_in) dX11_isFamily_12 mX11_169.1 mX11_169.2 (Nat.le_of_ble_eq_true rfl) rfl rfl (Nat.le_of_ble_eq_true rfl) (Nat.le_of_ble_eq_true rfl) (k_in _ _ _) ?_
  rintro _ _ ⟨rfl, rfl⟩
  try dsimp only [Option.toList, List.cons_append, List.nil_append]
  rw [hN, inL_inR v hs]
  exact g_ireturn dX11_isFamily_15 rfl (bI_nar _) ⟨rfl, rfl⟩
theorem k_isDead {N : Nat} {v : Int32} (hM : IsM n T R q) (hn : n ≤ oB) (hN : I (q + 2) 2 = nI N) (hs : N < 2 ^ 31) : Rn O (d + 1) MX11_isDead [.ref q, .int v] (hp u n T I J R) (Sm u n T I J R (.int (bI (inR v N)))) := by
  obtain ⟨⟨t0, hg⟩, ⟨t1, t2, -⟩, ⟨r2, r3, -⟩⟩ := hM
  show Go O (d + 1) MX11_isDead 0 [some (.ref q), some (.int v)] [] _ _
  refine g_iload_n dX11_isDead_0 rfl ?_
  refine g_i2l dX11_isDead_1 ?_
  refine g_lconst (v := 0) dX11_isDead_2 (by decide) ?_
  refine g_aload_n dX11_isDead_3 rfl ?_
  refine g_getR dX11_isDead_4 fX11_13 (by assumption) rfl (by assumption) (by omega) hn ?_
  refine g_iconst (v := nI 2) dX11_isDead_7 (by decide) ?_
  refine g_iald dX11_isDead_8 (by assumption) rfl (by omega) (by decide) (by omega) hn ?_
  refine g_i2l dX11_isDead_9 ?_
  refine g_lconst (v := 1) dX11_isDead_10 (by decide) ?_
  refine g_lsub dX11_isDead_11 ?_
  refine g_stat (Z := MX11_in) dX11_isDead_12 mX11_169.1 mX11_169.2 (Nat.le_of_ble_eq_true rfl) rfl rfl (Nat.le_of_ble_eq_true rfl) (Nat.le_of_ble_eq_true rfl) (k_in _ _ _) ?_
  rintro _ _ ⟨rfl, rfl⟩
  try dsimp only [Option.toList, List.cons_append, List.nil_append]
  rw [hN, inL_inR v hs]
  exact g_ireturn dX11_isDead_15 rfl (bI_nar _) ⟨rfl, rfl⟩
theorem k_isIn {k : Nat} (hM : IsM n T R q) (hn : n ≤ oB) (hk : k < 8) : Rn O d MX11_isIn [.ref q, .int (nI k)] (hp u n T I J R) (Sm u n T I J R (.int (bI (decide (I (q + 2) (9 + k) ≠ -1))))) := by
  obtain ⟨⟨t0, hg⟩, ⟨t1, t2, -⟩, ⟨r2, r3, -⟩⟩ := hM
  show Go O d MX11_isIn 0 [some (.ref q), some (.int (nI k))] [] _ _
  refine g_aload_n dX11_isIn_0 rfl ?_
  refine g_getR dX11_isIn_1 fX11_13 (by assumption) rfl (by assumption) (by omega) hn ?_
  refine g_bipush (v := nI 9) dX11_isIn_4 (by decide) ?_
  refine g_iload_n dX11_isIn_6 rfl ?_
  first | refine g_iaddN dX11_isIn_7 ?_ | refine g_iadd dX11_isIn_7 ?_
  refine g_iald dX11_isIn_8 (by assumption) rfl (by omega) (by decide) (by omega) hn ?_
  refine g_iconst (v := -1) dX11_isIn_9 (by decide) ?_
  refine g_ic_eq (t := 17) dX11_isIn_10 (by decide) (fun c => ?_) (fun c => ?_)
  · refine g_iconst (v := nI 0) dX11_isIn_17 (by decide) ?_
    exact g_ireturn dX11_isIn_18 rfl (by first | rfl | decide) ⟨by rw [decide_eq_false (fun z => z c)]; rfl, rfl⟩
  · refine g_iconst (v := nI 1) dX11_isIn_13 (by decide) ?_
    refine g_goto (t := 18) dX11_isIn_14 (by decide) ?_
    exact g_ireturn dX11_isIn_18 rfl (by first | rfl | decide) ⟨by rw [decide_eq_true c]; rfl, rfl⟩
theorem k_lyingIn {D : Nat} {v : Int32} (hM : IsM n T R q) (hn : n ≤ oB) (hD : I (q + 2) 2 = nI D) (h8 : D ≤ 8) : Rn O d MX11_lyingIn [.ref q, .int v] (hp u n T I J R) (Sm u n T I J R (.int (lyF (fun k => I (q + 2) (9 + k)) v D))) := by
  obtain ⟨⟨t0, hg⟩, ⟨t1, t2, -⟩, ⟨r2, r3, -⟩⟩ := hM
  show Go O d MX11_lyingIn 0 [some (.ref q), some (.int v), none, none] [] _ _
  refine g_iconst (v := nI 0) dX11_lyingIn_0 (by decide) ?_
  refine g_istore_n (ls' := [_, _, some (.int _), _]) dX11_lyingIn_1 (by decide) rfl ?_
  refine g_iconst (v := nI 0) dX11_lyingIn_2 (by decide) ?_
  refine g_istore_n (ls' := [_, _, _, some (.int _)]) dX11_lyingIn_3 (by decide) rfl ?_
  refine lp (Q := fun k => Go O d MX11_lyingIn 4 [some (.ref q), some (.int v), some (.int (lyF (fun k => I (q + 2) (9 + k)) v k)), some (.int (nI k))] [] (hp u n T I J R) _) (D := D) ?_ ?_
  · refine g_iload_n dX11_lyingIn_4 rfl ?_
    refine g_aload_n dX11_lyingIn_5 rfl ?_
    refine g_getR dX11_lyingIn_6 fX11_13 (by assumption) rfl (by assumption) (by omega) hn ?_
    refine g_iconst (v := nI 2) dX11_lyingIn_9 (by decide) ?_
    refine g_iald dX11_lyingIn_10 (by assumption) rfl (by omega) (by decide) (by omega) hn ?_
    rw [hD]
    refine g_ic_ge (t := 43) dX11_lyingIn_11 (by decide) (fun c => ?_) (fun c => ?_)
    · refine g_iload_n dX11_lyingIn_43 rfl ?_
      exact g_ireturn dX11_lyingIn_44 rfl (by first | rfl | decide) ⟨rfl, rfl⟩
    · exact absurd (Int32.le_refl _) c
  · intro k hk ih
    refine g_iload_n dX11_lyingIn_4 rfl ?_
    refine g_aload_n dX11_lyingIn_5 rfl ?_
    refine g_getR dX11_lyingIn_6 fX11_13 (by assumption) rfl (by assumption) (by omega) hn ?_
    refine g_iconst (v := nI 2) dX11_lyingIn_9 (by decide) ?_
    refine g_iald dX11_lyingIn_10 (by assumption) rfl (by omega) (by decide) (by omega) hn ?_
    rw [hD]
    refine g_ic_ge (t := 43) dX11_lyingIn_11 (by decide) (fun c => ?_) (fun c => ?_)
    · exact absurd c (nI_ge hk (by omega))
    · refine g_iload_n dX11_lyingIn_14 rfl ?_
      refine g_aload_n dX11_lyingIn_15 rfl ?_
      refine g_getR dX11_lyingIn_16 fX11_13 (by assumption) rfl (by assumption) (by omega) hn ?_
      refine g_bipush (v := nI 9) dX11_lyingIn_19 (by decide) ?_
      refine g_iload_n dX11_lyingIn_21 rfl ?_
      first | refine g_iaddN dX11_lyingIn_22 ?_ | refine g_iadd dX11_lyingIn_22 ?_
      refine g_iald dX11_lyingIn_23 (by assumption) rfl (by omega) (by decide) (by omega) hn ?_
      refine g_iload_n dX11_lyingIn_24 rfl ?_
      refine g_ic_ne (t := 34) dX11_lyingIn_25 (by decide) (fun e => ?_) (fun e => ?_)
      · refine g_iconst (v := nI 0) dX11_lyingIn_34 (by decide) ?_
        refine g_ior dX11_lyingIn_35 ?_
        refine g_istore_n (ls' := [_, _, some (.int _), _]) dX11_lyingIn_36 (by decide) rfl ?_
        refine g_iincN (c := 1) (ls' := [_, _, _, some (.int _)]) dX11_lyingIn_37 rfl (by decide) rfl rfl ?_
        refine g_goto (t := 4) dX11_lyingIn_40 (by decide) ?_
        have e2 : lyF (fun k => I (q + 2) (9 + k)) v (k + 1) = lyF (fun k => I (q + 2) (9 + k)) v k := if_neg e
        rw [e2] at ih
        rw [show ∀ x : Int32, x ||| nI 0 = x from fun x => Int32.or_zero]
        exact ih
      · refine g_iconst (v := nI 1) dX11_lyingIn_28 (by decide) ?_
        refine g_iload_n dX11_lyingIn_29 rfl ?_
        refine g_ishl dX11_lyingIn_30 ?_
        refine g_goto (t := 35) dX11_lyingIn_31 (by decide) ?_
        refine g_ior dX11_lyingIn_35 ?_
        refine g_istore_n (ls' := [_, _, some (.int _), _]) dX11_lyingIn_36 (by decide) rfl ?_
        refine g_iincN (c := 1) (ls' := [_, _, _, some (.int _)]) dX11_lyingIn_37 rfl (by decide) rfl rfl ?_
        refine g_goto (t := 4) dX11_lyingIn_40 (by decide) ?_
        have e2 : lyF (fun k => I (q + 2) (9 + k)) v (k + 1) = lyF (fun k => I (q + 2) (9 + k)) v k ||| (nI 1 <<< (nI k &&& 31)) := if_pos e
        rw [e2] at ih
        exact ih
end MOD
