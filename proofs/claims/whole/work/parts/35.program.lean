/-! a text that was read: its steps and clauses -/
theorem cpX5 : mLnk RX5 32 = some (arraycopyName, none) := by decide +kernel
/-- a Program stands at p, its steps (ls of them have room) and clauses behind it -/
def IsP (n : Nat) (T : Nat → mT) (R : Nat → Nat → Option Nat) (p ls lc : Nat) : Prop := T p = (100 + 5, kd5) ∧ T (p + 1) = (0, [ls]) ∧ T (p + 2) = (0, [lc]) ∧ R p 0 = some (p + 1) ∧ R p 1 = some (p + 2) ∧ p + 3 ≤ n ∧ ls ≤ 400 ∧ lc ≤ 72
/-- a part of a clause -/
def paF (cl : Nat → Int32) (lc k : Nat) : Int32 := if k < lc then cl k else nI 0
section PRG
variable {O : mO} {d u n : Nat} {T : Nat → mT} {I : Nat → Nat → Int32} {J : Nat → Nat → Int64} {R : Nat → Nat → Option Nat} {p ls lc : Nat}
theorem c_part {c w : Nat} (hP : IsP n T R p ls lc) (hn : n ≤ oB) (hc : c ≤ 12) (hw : w ≤ 6) : Rn O d MX5_part [.ref p, .int (nI c), .int (nI w)] (hp u n T I J R) (Sm u n T I J R (.int (paF (I (p + 2)) lc (c * 6 + w)))) := by
  obtain ⟨t0, t1, t2, r0, r1, hpn, h400, h72⟩ := hP
  show Go O d MX5_part 0 [some (.ref p), some (.int (nI c)), some (.int (nI w)), none] [] _ _
  have l31 : lc < 2 ^ 31 := by omega
  refine g_iload_n dX5_part_0 rfl ?_
  refine g_bipush (v := nI 6) dX5_part_1 (by decide) ?_
  first | refine g_imulN dX5_part_3 ?_ | refine g_imul dX5_part_3 ?_
  refine g_iload_n dX5_part_4 rfl ?_
  first | refine g_iaddN dX5_part_5 ?_ | refine g_iadd dX5_part_5 ?_
  refine g_istore_n (ls' := [_, _, _, some (.int _)]) dX5_part_6 (by decide) rfl ?_
  refine g_iload_n dX5_part_7 rfl ?_
  refine g_if_lt (t := 29) dX5_part_8 (by decide) (fun e => ?_) (fun e => ?_)
  · exact absurd e (nI_pos (by omega))
  · refine g_iload_n dX5_part_11 rfl ?_
    refine g_aload_n dX5_part_12 rfl ?_
    refine g_getR dX5_part_13 fX5_26 (by assumption) rfl (by assumption) (by omega) hn ?_
    first | refine g_alen (t := 0) (by decide) dX5_part_16 (by assumption) (by omega) hn ?_ | refine g_alen (t := 2) (by decide) dX5_part_16 (by assumption) (by omega) hn ?_
    refine g_icN_ge (t := 29) dX5_part_17 (by decide) (by omega) (by omega) (fun c1 => ?_) (fun c1 => ?_)
    · refine g_iconst (v := nI 0) dX5_part_29 (by decide) ?_
      exact g_ireturn dX5_part_30 rfl (by first | rfl | decide) ⟨by unfold paF; rw [if_neg (by omega)], rfl⟩
    · refine g_aload_n dX5_part_20 rfl ?_
      refine g_getR dX5_part_21 fX5_26 (by assumption) rfl (by assumption) (by omega) hn ?_
      refine g_iload_n dX5_part_24 rfl ?_
      refine g_iald dX5_part_25 (by assumption) rfl (by omega) (by omega) (by omega) hn ?_
      refine g_goto (t := 30) dX5_part_26 (by decide) ?_
      exact g_ireturn dX5_part_30 rfl (by first | rfl | decide) ⟨by unfold paF; rw [if_pos (by omega)], rfl⟩
theorem c_pclear (hP : IsP n T R p ls lc) (hn : n ≤ oB) : Rn O d MX5_clear [.ref p] (hp u n T I J R) (Sc u n T (up2 (up2 I p 2 (nI 0)) p 3 (nI 0)) J R none) := by
  obtain ⟨t0, t1, t2, r0, r1, hpn, h400, h72⟩ := hP
  show Go O d MX5_clear 0 [some (.ref p)] [] _ _
  refine g_aload_n dX5_clear_0 rfl ?_
  refine g_iconst (v := nI 0) dX5_clear_1 (by decide) ?_
  refine g_putI (c := (RX5, TX5, 4)) dX5_clear_2 fX5_7 (by assumption) rfl rfl rfl rfl (fun h => absurd h (by decide)) (by omega) hn ?_
  refine g_aload_n dX5_clear_5 rfl ?_
  refine g_iconst (v := nI 0) dX5_clear_6 (by decide) ?_
  refine g_putI (c := (RX5, TX5, 4)) dX5_clear_7 fX5_13 (by assumption) rfl rfl rfl rfl (fun h => absurd h (by decide)) (by omega) hn ?_
  exact g_return dX5_clear_10 rfl ⟨rfl, rfl⟩
theorem c_set {c w : Nat} {v : Int32} (hP : IsP n T R p ls lc) (hn : n ≤ oB) (hc : I p 3 = nI (c + 1)) (hcl : c * 6 + w < lc) : Rn O d MX5_set [.ref p, .int (nI w), .int v] (hp u n T I J R) (Sc u n T (up2 I (p + 2) (c * 6 + w) v) J R none) := by
  obtain ⟨t0, t1, t2, r0, r1, hpn, h400, h72⟩ := hP
  show Go O d MX5_set 0 [some (.ref p), some (.int (nI w)), some (.int v), none] [] _ _
  refine g_aload_n dX5_set_0 rfl ?_
  refine g_getI dX5_set_1 fX5_13 (by assumption) rfl (by omega) hn ?_
  rw [hc]
  refine g_iconst (v := nI 1) dX5_set_4 (by decide) ?_
  refine g_isubN dX5_set_5 (by omega) ?_
  rw [show c + 1 - 1 = c by omega]
  refine g_bipush (v := nI 6) dX5_set_6 (by decide) ?_
  first | refine g_imulN dX5_set_8 ?_ | refine g_imul dX5_set_8 ?_
  refine g_iload_n dX5_set_9 rfl ?_
  first | refine g_iaddN dX5_set_10 ?_ | refine g_iadd dX5_set_10 ?_
  refine g_istore_n (ls' := [_, _, _, some (.int _)]) dX5_set_11 (by decide) rfl ?_
  refine g_iload_n dX5_set_12 rfl ?_
  refine g_if_lt (t := 32) dX5_set_13 (by decide) (fun e => ?_) (fun e => ?_)
  · exact absurd e (nI_pos (by omega))
  · refine g_iload_n dX5_set_16 rfl ?_
    refine g_aload_n dX5_set_17 rfl ?_
    refine g_getR dX5_set_18 fX5_26 (by assumption) rfl (by assumption) (by omega) hn ?_
    first | refine g_alen (t := 0) (by decide) dX5_set_21 (by assumption) (by omega) hn ?_ | refine g_alen (t := 2) (by decide) dX5_set_21 (by assumption) (by omega) hn ?_
    refine g_icN_ge (t := 32) dX5_set_22 (by decide) (by omega) (by omega) (fun c1 => ?_) (fun c1 => ?_)
    · omega
    · refine g_aload_n dX5_set_25 rfl ?_
      refine g_getR dX5_set_26 fX5_26 (by assumption) rfl (by assumption) (by omega) hn ?_
      refine g_iload_n dX5_set_29 rfl ?_
      refine g_iload_n dX5_set_30 rfl ?_
      refine g_iast dX5_set_31 (by assumption) rfl (by omega) (by omega) (by omega) hn ?_
      exact g_return dX5_set_32 rfl ⟨rfl, rfl⟩
/-- a new step, if there is room -/
theorem c_add {s : Nat} {a b : Int32} (hP : IsP n T R p ls lc) (hn : n ≤ oB) (hs : I p 2 = nI s) (hl : s < ls) : Rn O d MX5_add [.ref p, .int a, .int b] (hp u n T I J R) (Sc u n T (up2 (up2 I (p + 1) s (a + nI 16 * b)) p 2 (nI (s + 1))) J R (some (.int (nI s)))) := by
  obtain ⟨t0, t1, t2, r0, r1, hpn, h400, h72⟩ := hP
  show Go O d MX5_add 0 [some (.ref p), some (.int a), some (.int b)] [] _ _
  refine g_aload_n dX5_add_0 rfl ?_
  refine g_getI dX5_add_1 fX5_7 (by assumption) rfl (by omega) hn ?_
  rw [hs]
  refine g_aload_n dX5_add_4 rfl ?_
  refine g_getR dX5_add_5 fX5_22 (by assumption) rfl (by assumption) (by omega) hn ?_
  first | refine g_alen (t := 0) (by decide) dX5_add_8 (by assumption) (by omega) hn ?_ | refine g_alen (t := 2) (by decide) dX5_add_8 (by assumption) (by omega) hn ?_
  refine g_icN_ge (t := 37) dX5_add_9 (by decide) (by omega) (by omega) (fun c1 => ?_) (fun c1 => ?_)
  · omega
  · refine g_aload_n dX5_add_12 rfl ?_
    refine g_getR dX5_add_13 fX5_22 (by assumption) rfl (by assumption) (by omega) hn ?_
    refine g_aload_n dX5_add_16 rfl ?_
    refine g_getI dX5_add_17 fX5_7 (by assumption) rfl (by omega) hn ?_
    rw [hs]
    refine g_iload_n dX5_add_20 rfl ?_
    refine g_bipush (v := nI 16) dX5_add_21 (by decide) ?_
    refine g_iload_n dX5_add_23 rfl ?_
    refine g_imul dX5_add_24 ?_
    refine g_iadd dX5_add_25 ?_
    refine g_iast dX5_add_26 (by assumption) rfl (by omega) (by omega) (by omega) hn ?_
    refine g_aload_n dX5_add_27 rfl ?_
    refine g_dup dX5_add_28 rfl ?_
    refine g_getI dX5_add_29 fX5_7 (by assumption) rfl (by omega) hn ?_
    rw [up2_na (show p ≠ p + 1 by omega), hs]
    refine g_iconst (v := nI 1) dX5_add_32 (by decide) ?_
    first | refine g_iaddN dX5_add_33 ?_ | refine g_iadd dX5_add_33 ?_
    refine g_putI (c := (RX5, TX5, 4)) dX5_add_34 fX5_7 (by assumption) rfl rfl rfl rfl (fun h => absurd h (by decide)) (by omega) hn ?_
    refine g_aload_n dX5_add_37 rfl ?_
    refine g_getI dX5_add_38 fX5_7 (by assumption) rfl (by omega) hn ?_
    rw [up2_at]
    refine g_iconst (v := nI 1) dX5_add_41 (by decide) ?_
    refine g_isubN dX5_add_42 (by omega) ?_
    rw [show s + 1 - 1 = s by omega]
    exact g_ireturn dX5_add_43 rfl (by first | rfl | decide) ⟨rfl, rfl⟩
/-- a skip leads behind the latest step -/
theorem c_aim {s k : Nat} (hP : IsP n T R p ls lc) (hn : n ≤ oB) (hs : I p 2 = nI s) (hk : k < s) (hl : s ≤ ls) : Rn O d MX5_aim [.ref p, .int (nI k)] (hp u n T I J R) (Sc u n T (up2 I (p + 1) k ((I (p + 1) k &&& nI 15) + nI (16 * s))) J R none) := by
  obtain ⟨t0, t1, t2, r0, r1, hpn, h400, h72⟩ := hP
  show Go O d MX5_aim 0 [some (.ref p), some (.int (nI k))] [] _ _
  refine g_iload_n dX5_aim_0 rfl ?_
  refine g_if_lt (t := 35) dX5_aim_1 (by decide) (fun e => ?_) (fun e => ?_)
  · exact absurd e (nI_pos (by omega))
  · refine g_iload_n dX5_aim_4 rfl ?_
    refine g_aload_n dX5_aim_5 rfl ?_
    refine g_getI dX5_aim_6 fX5_7 (by assumption) rfl (by omega) hn ?_
    rw [hs]
    refine g_icN_ge (t := 35) dX5_aim_9 (by decide) (by omega) (by omega) (fun c1 => ?_) (fun c1 => ?_)
    · omega
    · refine g_aload_n dX5_aim_12 rfl ?_
      refine g_getR dX5_aim_13 fX5_22 (by assumption) rfl (by assumption) (by omega) hn ?_
      refine g_iload_n dX5_aim_16 rfl ?_
      refine g_aload_n dX5_aim_17 rfl ?_
      refine g_getR dX5_aim_18 fX5_22 (by assumption) rfl (by assumption) (by omega) hn ?_
      refine g_iload_n dX5_aim_21 rfl ?_
      refine g_iald dX5_aim_22 (by assumption) rfl (by omega) (by omega) (by omega) hn ?_
      refine g_bipush (v := nI 15) dX5_aim_23 (by decide) ?_
      refine g_iand dX5_aim_25 ?_
      refine g_bipush (v := nI 16) dX5_aim_26 (by decide) ?_
      refine g_aload_n dX5_aim_28 rfl ?_
      refine g_getI dX5_aim_29 fX5_7 (by assumption) rfl (by omega) hn ?_
      rw [hs]
      refine g_imulN dX5_aim_32 ?_
      refine g_iadd dX5_aim_33 ?_
      refine g_iast dX5_aim_34 (by assumption) rfl (by omega) (by omega) (by omega) hn ?_
      exact g_return dX5_aim_35 rfl ⟨rfl, rfl⟩
theorem k_needed (K : mH) (s : Int32) : Rn O d MX8_needed [.int s] K (fun r K' => r = some (.int (if nI 1 < s then (if nI 4 < s then nI 2 else nI 1) else nI 0)) ∧ K' = K) := by
  show Go O d MX8_needed 0 [some (.int s)] [] _ _
  refine g_iload_n dX8_needed_0 rfl ?_
  refine g_iconst (v := nI 1) dX8_needed_1 (by decide) ?_
  refine g_ic_gt (t := 7) dX8_needed_2 (by decide) (fun c => ?_) (fun c => ?_)
  · refine g_iload_n dX8_needed_7 rfl ?_
    refine g_iconst (v := nI 4) dX8_needed_8 (by decide) ?_
    refine g_ic_gt (t := 16) dX8_needed_9 (by decide) (fun e => ?_) (fun e => ?_)
    · refine g_iconst (v := nI 2) dX8_needed_16 (by decide) ?_
      exact g_ireturn dX8_needed_17 rfl (by first | rfl | decide) ⟨by rw [if_pos c, if_pos e], rfl⟩
    · refine g_iconst (v := nI 1) dX8_needed_12 (by decide) ?_
      refine g_goto (t := 17) dX8_needed_13 (by decide) ?_
      exact g_ireturn dX8_needed_17 rfl (by first | rfl | decide) ⟨by rw [if_pos c, if_neg e], rfl⟩
  · refine g_iconst (v := nI 0) dX8_needed_5 (by decide) ?_
    exact g_ireturn dX8_needed_6 rfl (by first | rfl | decide) ⟨by rw [if_neg c], rfl⟩
end PRG
