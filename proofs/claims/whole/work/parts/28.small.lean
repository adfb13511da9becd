/-! rows for small numbers: nI k -/
theorem lp {Q : Nat → Prop} {D : Nat} (he : Q D) (hs : ∀ k, k < D → Q (k + 1) → Q k) : Q 0 := by
  have h : ∀ m k, k + m = D → Q k := by
    intro m
    induction m with
    | zero =>
      intro k hk
      rw [Nat.add_zero] at hk
      rw [hk]
      exact he
    | succ m ih =>
      intro k hk
      exact hs k (by omega) (ih (k + 1) (by omega))
  exact h D 0 (Nat.zero_add D)
theorem nI_mul (a b : Nat) : nI a * nI b = nI (a * b) := by
  unfold nI
  rw [Int32.ofNat_mul]
section ROWSN
variable {O : mO} {d : Nat} {M : mM} {pc : Nat} {ls ls' : List (Option Value)} {st : List Value} {K : mH} {P : Option Value → mH → Prop} {a b : Nat}
theorem g_iaddN (hd : decode M.2.1 pc = .ok (.iadd, 1)) (kk : Go O d M (pc + 1) ls (.int (nI (a + b)) :: st) K P) : Go O d M pc ls (.int (nI b) :: .int (nI a) :: st) K P := g_iadd hd (by rw [nI_add]; exact kk)
theorem g_imulN (hd : decode M.2.1 pc = .ok (.imul, 1)) (kk : Go O d M (pc + 1) ls (.int (nI (a * b)) :: st) K P) : Go O d M pc ls (.int (nI b) :: .int (nI a) :: st) K P := g_imul hd (by rw [nI_mul]; exact kk)
theorem g_isubN (hd : decode M.2.1 pc = .ok (.isub, 1)) (h : b ≤ a) (kk : Go O d M (pc + 1) ls (.int (nI (a - b)) :: st) K P) : Go O d M pc ls (.int (nI b) :: .int (nI a) :: st) K P := g_isub hd (by
  have e : nI a = nI (a - b) + nI b := by rw [nI_add, Nat.sub_add_cancel h]
  rw [e, Int32.add_sub_cancel]
  exact kk)
theorem g_iincN {k x c : Nat} {n : Int} (hd : decode M.2.1 pc = .ok (.iinc k n, 3)) (hc : n = (c : Int)) (hk : k < M.2.2.1) (hx : mLd ls k = some (.int (nI x))) (hl : mSt1 ls k (.int (nI (x + c))) = ls') (kk : Go O d M (pc + 3) ls' st K P) : Go O d M pc ls st K P :=
  g_iinc hd hk hx (by rw [hc, ← nI_add]; rfl) hl kk
theorem g_icN_eq {off : Int} {t : Nat} (hd : decode M.2.1 pc = .ok (.if_icmp .eq off, 3)) (ht : (pc : Int) + off = (t : Int)) (ha : a < 2 ^ 31) (hb : b < 2 ^ 31) (kt : a = b → Go O d M t ls st K P) (kf : a ≠ b → Go O d M (pc + 3) ls st K P) : Go O d M pc ls (.int (nI b) :: .int (nI a) :: st) K P := g_ic_eq hd ht (fun h => kt ((nI_eq ha hb).mp h)) (fun h => kf (fun z => h ((nI_eq ha hb).mpr z)))
theorem g_icN_ne {off : Int} {t : Nat} (hd : decode M.2.1 pc = .ok (.if_icmp .ne off, 3)) (ht : (pc : Int) + off = (t : Int)) (ha : a < 2 ^ 31) (hb : b < 2 ^ 31) (kt : a ≠ b → Go O d M t ls st K P) (kf : a = b → Go O d M (pc + 3) ls st K P) : Go O d M pc ls (.int (nI b) :: .int (nI a) :: st) K P := g_ic_ne hd ht (fun h => kt (fun z => h ((nI_eq ha hb).mpr z))) (fun h => kf ((nI_eq ha hb).mp h))
theorem g_icN_lt {off : Int} {t : Nat} (hd : decode M.2.1 pc = .ok (.if_icmp .lt off, 3)) (ht : (pc : Int) + off = (t : Int)) (ha : a < 2 ^ 31) (hb : b < 2 ^ 31) (kt : a < b → Go O d M t ls st K P) (kf : b ≤ a → Go O d M (pc + 3) ls st K P) : Go O d M pc ls (.int (nI b) :: .int (nI a) :: st) K P := g_ic_lt hd ht (fun h => kt ((nI_ltI ha hb).mp h)) (fun h => kf (Nat.le_of_not_lt (fun z => h ((nI_ltI ha hb).mpr z))))
theorem g_icN_ge {off : Int} {t : Nat} (hd : decode M.2.1 pc = .ok (.if_icmp .ge off, 3)) (ht : (pc : Int) + off = (t : Int)) (ha : a < 2 ^ 31) (hb : b < 2 ^ 31) (kt : b ≤ a → Go O d M t ls st K P) (kf : a < b → Go O d M (pc + 3) ls st K P) : Go O d M pc ls (.int (nI b) :: .int (nI a) :: st) K P := g_ic_ge hd ht (fun h => kt ((nI_leI hb ha).mp h)) (fun h => kf (Nat.lt_of_not_le (fun z => h ((nI_leI hb ha).mpr z))))
theorem g_icN_gt {off : Int} {t : Nat} (hd : decode M.2.1 pc = .ok (.if_icmp .gt off, 3)) (ht : (pc : Int) + off = (t : Int)) (ha : a < 2 ^ 31) (hb : b < 2 ^ 31) (kt : b < a → Go O d M t ls st K P) (kf : a ≤ b → Go O d M (pc + 3) ls st K P) : Go O d M pc ls (.int (nI b) :: .int (nI a) :: st) K P := g_ic_gt hd ht (fun h => kt ((nI_ltI hb ha).mp h)) (fun h => kf (Nat.le_of_not_lt (fun z => h ((nI_ltI hb ha).mpr z))))
theorem g_icN_le {off : Int} {t : Nat} (hd : decode M.2.1 pc = .ok (.if_icmp .le off, 3)) (ht : (pc : Int) + off = (t : Int)) (ha : a < 2 ^ 31) (hb : b < 2 ^ 31) (kt : a ≤ b → Go O d M t ls st K P) (kf : b < a → Go O d M (pc + 3) ls st K P) : Go O d M pc ls (.int (nI b) :: .int (nI a) :: st) K P := g_ic_le hd ht (fun h => kt ((nI_leI ha hb).mp h)) (fun h => kf (Nat.lt_of_not_le (fun z => h ((nI_leI ha hb).mpr z))))
end ROWSN
