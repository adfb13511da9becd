/-! refusals, told by both; calls that only read a field -/
/-- the first 98 cells: the object's (0 .. 68) and the reference's (69 .. 97) -/
def T0 : List mT := [(110, kd10), (106, kd6), (105, kd5), (0, [400]), (0, [72]), (0, [401]), (0, [401]), (104, kd4), (0, [8]), (0, [8]),
  (107, kd7), (0, [8]), (0, [9]), (1, [54]), (1, [9]), (0, [24]), (0, [24]), (0, [24]), (1, [24]), (1, [24]), (3, [24]), (101, kd1), (1, [20]), (2, [400]), (0, [5]), (4, [2]), (103, kd3), (0, [391]), (108, kd8), (0, [64]), (100, kd0), (0, [9]),
  (102, kd2), (0, [5]), (0, [4]), (0, [8]), (0, [8]), (0, [8]), (0, [40]), (0, [8]), (0, [8]), (0, [3]), (5, [6]),
  (102, kd2), (0, [5]), (0, [4]), (0, [8]), (0, [8]), (0, [8]), (0, [40]), (0, [8]), (0, [8]), (0, [3]), (5, [6]),
  (109, kd9), (0, [16]), (103, kd3), (0, [391]),
  (102, kd2), (0, [5]), (0, [4]), (0, [8]), (0, [8]), (0, [8]), (0, [40]), (0, [8]), (0, [8]), (0, [3]), (5, [6]),
  (111, kd11), (0, [7]), (0, [5510]), (0, [11020]), (3, [2]), (0, [558]), (0, [16]), (0, [496]), (0, [16]), (0, [400]), (0, [96]), (0, [400]), (0, [400]), (0, [400]), (0, [400]), (1, [9]), (1, [6]), (1, [4]), (1, [13]), (1, [13]), (1, [400]), (0, [4]), (0, [8]), (0, [9216]), (3, [40]), (1, [21]), (1, [4]), (0, [96]), (0, [31])]
theorem T0_len : T0.length = 98 := by decide
def IsT (n : Nat) (T : Nat → mT) : Prop := 98 ≤ n ∧ ∀ a, a < 98 → T a = T0.getD a (0, [])
theorem nI_neg_all : ∀ r, r < 7 → 0 < r → -nI r < 0 := by decide
theorem nI_neg_lt {r : Nat} (h : 0 < r) (hr : r < 7) : -nI r < 0 := nI_neg_all r hr h
section TEL
variable {O : mO} {d u n : Nat} {T : Nat → mT} {I : Nat → Nat → Int32} {J : Nat → Nat → Int64} {R : Nat → Nat → Option Nat} {q : Nat}
/-- the answer, and the ints changed -/
def Sc (u n : Nat) (T : Nat → mT) (I : Nat → Nat → Int32) (J : Nat → Nat → Int64) (R : Nat → Nat → Option Nat) (v : Option Value) : Option Value → mH → Prop := fun r K' => r = v ∧ K' = hp u n T I J R
theorem k_tell0 {k : Nat} (hM : IsM n T R q) (hn : n ≤ oB) (hk : k < 2 ^ 31) : Rn O d MX11_tell [.ref q, .int (nI k)] (hp u n T I J R) (Sc u n T (up2 I q 1 (nI 0)) J R (some (.int (nI k)))) := by
  obtain ⟨⟨t0, hg⟩, ⟨t1, -⟩, ⟨r2, -⟩⟩ := hM
  show Go O d MX11_tell 0 [some (.ref q), some (.int (nI k))] [] _ _
  refine g_aload_n dX11_tell_0 rfl ?_
  refine g_iload_n dX11_tell_1 rfl ?_
  refine g_if_ge (t := 9) dX11_tell_2 (by decide) (fun c => ?_) (fun c => ?_)
  · refine g_iconst (v := nI 0) dX11_tell_9 (by decide) ?_
    refine g_putI (c := (RX11, TX11, 56)) dX11_tell_10 fX11_152 (by assumption) rfl rfl rfl rfl (fun h => absurd h (by decide)) (by omega) hn ?_
    refine g_iload_n dX11_tell_13 rfl ?_
    refine g_if_ge (t := 28) dX11_tell_14 (by decide) (fun e => ?_) (fun e => ?_)
    · refine g_iload_n dX11_tell_28 rfl ?_
      exact g_ireturn dX11_tell_29 rfl (by first | rfl | decide) ⟨rfl, rfl⟩
    · exact absurd (nI_pos' hk) e
  · exact absurd (nI_pos' hk) c
theorem k_tellN {r : Nat} (hM : IsM n T R q) (hn : n ≤ oB) (h0 : 0 < r) (h7 : r < 7) : Rn O d MX11_tell [.ref q, .int (-nI r)] (hp u n T I J R) (Sc u n T (up2 (up2 I q 1 (-nI r)) (q + 1) r (I (q + 1) r + nI 1)) J R (some (.int (-nI r)))) := by
  have hlt : -nI r < 0 := nI_neg_lt h0 (by omega)
  obtain ⟨⟨t0, hg⟩, ⟨t1, -⟩, ⟨r2, -⟩⟩ := hM
  show Go O d MX11_tell 0 [some (.ref q), some (.int (-nI r))] [] _ _
  refine g_aload_n dX11_tell_0 rfl ?_
  refine g_iload_n dX11_tell_1 rfl ?_
  refine g_if_ge (t := 9) dX11_tell_2 (by decide) (fun c => ?_) (fun c => ?_)
  · exact absurd hlt (Int32.not_lt.mpr c)
  · refine g_iload_n dX11_tell_5 rfl ?_
    refine g_goto (t := 10) dX11_tell_6 (by decide) ?_
    refine g_putI (c := (RX11, TX11, 56)) dX11_tell_10 fX11_152 (by assumption) rfl rfl rfl rfl (fun h => absurd h (by decide)) (by omega) hn ?_
    refine g_iload_n dX11_tell_13 rfl ?_
    refine g_if_ge (t := 28) dX11_tell_14 (by decide) (fun e => ?_) (fun e => ?_)
    · exact absurd hlt (Int32.not_lt.mpr e)
    · refine g_aload_n dX11_tell_17 rfl ?_
      refine g_getR dX11_tell_18 fX11_7 (by assumption) rfl (by assumption) (by omega) hn ?_
      refine g_iload_n dX11_tell_21 rfl ?_
      refine g_ineg dX11_tell_22 ?_
      rw [Int32.neg_neg]
      refine g_dup2 dX11_tell_23 rfl rfl ?_
      refine g_iald dX11_tell_24 (by assumption) rfl (by omega) (by decide) (by omega) hn ?_
      rw [up2_na (show q + 1 ≠ q by omega)]
      refine g_iconst (v := nI 1) dX11_tell_25 (by decide) ?_
      refine g_iadd dX11_tell_26 ?_
      refine g_iast dX11_tell_27 (by assumption) rfl (by omega) (by decide) (by omega) hn ?_
      refine g_iload_n dX11_tell_28 rfl ?_
      exact g_ireturn dX11_tell_29 rfl (by first | rfl | decide) ⟨rfl, rfl⟩
theorem c_granted {v : Int32} (hT : IsT n T) (hn : n ≤ oB) : Rn O d MX10_granted [.ref 0, .int v] (hp u n T I J R) (Sc u n T (up2 I 0 16 (nI 0)) J R (some (.int v))) := by
  have h98 := hT.1
  have t0 : T 0 = (100 + 10, kd10) := hT.2 0 (by decide)
  show Go O d MX10_granted 0 [some (.ref 0), some (.int v)] [] _ _
  refine g_aload_n dX10_granted_0 rfl ?_
  refine g_iconst (v := nI 0) dX10_granted_1 (by decide) ?_
  refine g_putI (c := (RX10, TX10, 17)) dX10_granted_2 fX10_75 (by assumption) rfl rfl rfl rfl (fun h => absurd h (by decide)) (by omega) hn ?_
  refine g_iload_n dX10_granted_5 rfl ?_
  exact g_ireturn dX10_granted_6 rfl (by first | rfl | decide) ⟨rfl, rfl⟩
end TEL
