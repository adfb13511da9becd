/-! counting bits; the ground's methods that ask others -/
def ushr (x : Int32) (k : Nat) : Int32 := (x.toUInt32 >>> ((nI k).toUInt32 &&& Int32.toUInt32 31)).toInt32
def bc1 (x : Int32) : Int32 := x - (ushr x 1 &&& 1431655765)
def bc2 (x : Int32) : Int32 := (x &&& 858993459) + (ushr x 2 &&& 858993459)
def bc3 (x : Int32) : Int32 := (x + ushr x 4) &&& 252645135
def bc4 (x : Int32) : Int32 := x + ushr x 8
def bc5 (x : Int32) : Int32 := x + ushr x 16
def bcF (x : Int32) : Int32 := bc5 (bc4 (bc3 (bc2 (bc1 x)))) &&& nI 63
theorem iJ6_265 : mInt RJ6 265 = some 1431655765 := by decide +kernel
theorem iJ6_266 : mInt RJ6 266 = some 858993459 := by decide +kernel
theorem iJ6_267 : mInt RJ6 267 = some 252645135 := by decide +kernel
/-- how many of the first k hold v -/
def cnt (w : Nat → Int32) (v : Int32) : Nat → Nat
  | 0 => 0
  | k + 1 => if w k = v then cnt w v k + 1 else cnt w v k
theorem cnt_le (w : Nat → Int32) (v : Int32) : ∀ k, cnt w v k ≤ k
  | 0 => Nat.le_refl 0
  | k + 1 => by
    have := cnt_le w v k
    unfold cnt
    split <;> omega
theorem bits_or : ∀ k, k < 8 → ∀ b, b < 256 → b < 2 ^ k → nI b ||| (nI 1 <<< (nI k &&& 31)) = nI (b + 2 ^ k) := by decide +kernel
theorem bits_bc : ∀ b, b < 256 → bcF (nI b) = onF (nI b) 8 := by decide +kernel
theorem bits_on : ∀ k, k < 8 → ∀ b, b < 256 → b < 2 ^ k → onF (nI (b + 2 ^ k)) 8 = onF (nI b) 8 + nI 1 := by decide +kernel
theorem pow_lt {k : Nat} (h : k ≤ 8) : 2 ^ k ≤ 256 := by
  have := Nat.pow_le_pow_right (n := 2) (by decide) h
  exact this
theorem lyF_bits (w : Nat → Int32) (v : Int32) : ∀ k, k ≤ 8 → ∃ b, b < 2 ^ k ∧ lyF w v k = nI b ∧ onF (nI b) 8 = nI (cnt w v k)
  | 0, _ => ⟨0, by decide, rfl, by show onF (nI 0) 8 = nI 0; decide⟩
  | k + 1, h => by
    obtain ⟨b, h1, h2, h3⟩ := lyF_bits w v k (by omega)
    have hp := pow_lt (k := k) (by omega)
    have h2k : 2 ^ (k + 1) = 2 ^ k + 2 ^ k := by rw [Nat.pow_succ]; omega
    by_cases e : w k = v
    · refine ⟨b + 2 ^ k, by omega, ?_, ?_⟩
      · show (if w k = v then _ else _) = _
        rw [if_pos e, h2]
        exact bits_or k (by omega) b (by omega) h1
      · rw [bits_on k (by omega) b (by omega) h1, h3]
        show nI (cnt w v k) + nI 1 = nI (if w k = v then _ else _)
        rw [if_pos e, nI_add]
    · refine ⟨b, by omega, ?_, ?_⟩
      · show (if w k = v then _ else _) = _
        rw [if_neg e, h2]
      · rw [h3]
        show _ = nI (if w k = v then _ else _)
        rw [if_neg e]
theorem lyF_bc (w : Nat → Int32) (v : Int32) {k : Nat} (h : k ≤ 8) : bcF (lyF w v k) = nI (cnt w v k) := by
  obtain ⟨b, h1, h2, h3⟩ := lyF_bits w v k h
  have hp := pow_lt h
  rw [h2, bits_bc b (by omega), h3]
theorem lyF_on (w : Nat → Int32) (v : Int32) {k : Nat} (h : k ≤ 8) : onF (lyF w v k) 8 = nI (cnt w v k) := by
  obtain ⟨b, h1, h2, h3⟩ := lyF_bits w v k h
  rw [h2, h3]
