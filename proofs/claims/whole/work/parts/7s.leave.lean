/-! how many leave in a year -/
section LV
variable {V F D S N : Nat} {w z : Nat → Int32}
def lvN (z : Nat → Int32) : Nat → Nat
  | 0 => 0
  | k + 1 => if z (9 + k) = -1 then lvN z k else lvN z k + (if z (17 + k) - nI 1 = 0 then 1 else 0)
theorem lvF_n (z : Nat → Int32) : ∀ k, lvF z k = nI (lvN z k)
  | 0 => rfl
  | k + 1 => by
    have ih := lvF_n z k
    show (if z (9 + k) = -1 then lvF z k else lvF z k + (if z (17 + k) - nI 1 = 0 then nI 1 else nI 0)) = nI (if z (9 + k) = -1 then lvN z k else lvN z k + (if z (17 + k) - nI 1 = 0 then 1 else 0))
    rw [ih]
    by_cases h : z (9 + k) = -1
    · rw [if_pos h, if_pos h]
    · rw [if_neg h, if_neg h]
      by_cases h1 : z (17 + k) - nI 1 = 0
      · rw [if_pos h1, if_pos h1, nI_add]
      · rw [if_neg h1, if_neg h1, nI_add]
theorem lv_c (h8 : D ≤ 8) : ∀ k, k ≤ D → cnt (fun j => paY z k (9 + j)) (-1) D = cnt (fun j => z (9 + j)) (-1) D + lvN z k
  | 0, _ => rfl
  | k + 1, h => by
    have ih := lv_c h8 k (by omega)
    have e9 : paY z k (9 + k) = z (9 + k) := paY_off (by omega) (by omega)
    show _ = _ + (if z (9 + k) = -1 then lvN z k else lvN z k + (if z (17 + k) - nI 1 = 0 then 1 else 0))
    by_cases hi : z (9 + k) = -1
    · rw [paY_s1 hi, if_pos hi]
      exact ih
    · rw [if_neg hi]
      by_cases h1 : z (17 + k) - nI 1 = 0
      · rw [if_pos h1, cnt_1 (w := fun j => paY z k (9 + j)) (w' := fun j => paY z (k + 1) (9 + j)) (k := k) (by rw [paY_s2 hi, upK_at, if_pos h1]) (by rw [e9]; exact hi) (fun j hj hn => by rw [paY_s2 hi, upK_ne (by omega), upK_ne (by omega)]), if_pos (by omega), ih]
        omega
      · rw [if_neg h1, cnt_cg (w := fun j => paY z k (9 + j)) (fun j hj => ?_), ih, Nat.add_zero]
        rw [paY_s2 hi, if_neg h1]
        by_cases e : j = k
        · rw [e, upK_at, e9]
        · rw [upK_ne (by omega), upK_ne (by omega)]
/-- those in before, less those in after -/
theorem lv_d (h8 : D ≤ 8) (F : Nat) : nI (D - cnt (fun j => w (9 + j)) (-1) D) - nI (D - cnt (fun j => paW w F D (9 + j)) (-1) D) = lvF (paP w F) D := by
  have e1 : cnt (fun j => paW w F D (9 + j)) (-1) D = cnt (fun j => paY (paP w F) D (9 + j)) (-1) D := cnt_cg (fun j hj => by unfold paW; rw [upK_ne (by omega)])
  have e2 : cnt (fun j => paP w F (9 + j)) (-1) D = cnt (fun j => w (9 + j)) (-1) D := cnt_cg (fun j hj => paP_off (by omega))
  have e3 := lv_c (z := paP w F) h8 D (Nat.le_refl D)
  have e4 := cnt_le (fun j => paY (paP w F) D (9 + j)) (-1) D
  rw [e1, lvF_n, nI_sub (by omega)]
  congr 1
  omega
end LV
