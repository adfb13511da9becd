/-! draws: the class's and the reference's -/
section DRW
variable {O : mO} {c d u n : Nat} {T : Nat → mT} {I : Nat → Nat → Int32} {J : Nat → Nat → Int64} {R : Nat → Nat → Option Nat} {s m : Nat}
theorem bm64 {z : Int} (h0 : 0 ≤ z) (h1 : z < 2 ^ 62) : z.bmod (2 ^ 64) = z := Int.bmod_eq_of_le (by omega) (by omega)
theorem bm32 {z : Int} (h0 : 0 ≤ z) (h1 : z < 2 ^ 30) : z.bmod (2 ^ 32) = z := Int.bmod_eq_of_le (by omega) (by omega)
theorem dm_i (a b : Nat) : (a : Int) - (((a / b : Nat) : Int) * (b : Int)) = ((a % b : Nat) : Int) := by
  have h := Nat.div_add_mod a b
  have h2 : a / b * b + a % b = a := by rw [Nat.mul_comm]; exact h
  have h3 : (((a / b * b + a % b : Nat)) : Int) = (a : Int) := by rw [h2]
  rw [Int.natCast_add, Int.natCast_mul] at h3
  omega
theorem J_mod {x y : Int64} {a b : Nat} (hx : x.toInt = a) (hy : y.toInt = b) (ha : a < 2 ^ 62) : (x - x / y * y).toInt = ((a % b : Nat) : Int) := by
  have hd : (x / y).toInt = ((a / b : Nat) : Int) := by
    rw [Int64.toInt_div, hx, hy, ← Int.ofNat_tdiv]
    exact bm64 (Int.natCast_nonneg _) (by have := Nat.div_le_self a b; omega)
  have hm : (x / y * y).toInt = ((a / b : Nat) : Int) * (b : Int) := by
    rw [Int64.toInt_mul, hd, hy]
    have := Nat.div_mul_le_self a b
    have e : ((a / b : Nat) : Int) * (b : Int) = ((a / b * b : Nat) : Int) := (Int.natCast_mul _ _).symm
    rw [e]
    exact bm64 (Int.natCast_nonneg _) (by omega)
  rw [Int64.toInt_sub, hx, hm, dm_i]
  exact bm64 (Int.natCast_nonneg _) (by have := Nat.mod_le a b; omega)
theorem I_mod {x y : Int32} {a b : Nat} (hx : x.toInt = a) (hy : y.toInt = b) (ha : a < 2 ^ 30) : (x - x / y * y).toInt = ((a % b : Nat) : Int) := by
  have hd : (x / y).toInt = ((a / b : Nat) : Int) := by
    rw [Int32.toInt_div, hx, hy, ← Int.ofNat_tdiv]
    exact bm32 (Int.natCast_nonneg _) (by have := Nat.div_le_self a b; omega)
  have hm : (x / y * y).toInt = ((a / b : Nat) : Int) * (b : Int) := by
    rw [Int32.toInt_mul, hd, hy]
    have := Nat.div_mul_le_self a b
    have e : ((a / b : Nat) : Int) * (b : Int) = ((a / b * b : Nat) : Int) := (Int.natCast_mul _ _).symm
    rw [e]
    exact bm32 (Int.natCast_nonneg _) (by omega)
  rw [Int32.toInt_sub, hx, hm, dm_i]
  exact bm32 (Int.natCast_nonneg _) (by have := Nat.mod_le a b; omega)
/-- the next number drawn -/
def drN (s : Nat) : Nat := (s * 1103 + 12345) % 1000003
theorem drN_lt (s : Nat) : drN s < 1000003 := Nat.mod_lt _ (by decide)
theorem nI_toI {a : Nat} (h : a < 2 ^ 31) : (nI a).toInt = (a : Int) := by
  show (Int32.ofNat a).toInt = _
  exact Int32.toInt_ofNat_of_lt h
theorem J_next {x : Int64} (hx : x.toInt = (s : Int)) (hs : s < 1000004) : (x * 1103 + 12345 - (x * 1103 + 12345) / 1000003 * 1000003).toInt = ((drN s : Nat) : Int) := by
  refine J_mod (a := s * 1103 + 12345) (b := 1000003) ?_ (by decide) (by omega)
  rw [Int64.toInt_add, Int64.toInt_mul, hx, show (1103 : Int64).toInt = 1103 from by decide, show (12345 : Int64).toInt = 12345 from by decide, show ((s : Int) * 1103).bmod (2 ^ 64) = (s : Int) * 1103 from bm64 (by omega) (by omega), show ((s : Int) * 1103 + 12345).bmod (2 ^ 64) = (s : Int) * 1103 + 12345 from bm64 (by omega) (by omega)]
  omega
theorem drS_n (hs : s < 1000004) : drS (nI s) = nI (drN s) := by
  have := drN_lt s
  apply Int32.toInt_inj.mp
  unfold drS
  rw [Int64.toInt_toInt32, J_next (by rw [Int32.toInt_toInt64]; exact nI_toI (by omega)) hs, nI_toI (by omega)]
  exact bm32 (Int.natCast_nonneg _) (by omega)
theorem v_cDraw (hS : St n T R) (h21 : I 21 0 = nI s) (hs : s < 1000004) (h0 : 0 < m) (h8 : m ≤ 8) : ev O d MX1_draw [.ref 21, .int (nI m)] (hp u n T I J R) = some (some (.int (nI (drN s % m))), hp u n T (up2 I 21 0 (nI (drN s))) J R) := by
  have lt := drN_lt s
  have := evr (c_draw (O := O) (d := d) (u := u) (J := J) (I := I) (R := R) (m := nI m) (hS.1.2 21 (by decide)) (hS.lt (by decide)) hS.2.1 (show nI 0 < nI m from (nI_ltI (by omega) (by omega)).mpr h0))
  rw [h21, drS_n hs] at this
  rw [this]
  have e : nI (drN s) - nI (drN s) / nI m * nI m = nI (drN s % m) := by
    apply Int32.toInt_inj.mp
    rw [I_mod (nI_toI (by omega)) (nI_toI (by omega)) (by omega), nI_toI (by have := Nat.mod_le (drN s) m; omega)]
  rw [e]
theorem v_mDraw (hS : St n T R) (h52 : J 69 52 = (nI s).toInt64) (hs : s < 1000004) (h0 : 0 < m) (h8 : m ≤ 8) : ev O (d + 1) MX11_draw [.ref 69, .int (nI m)] (hp u n T I J R) = some (some (.int (nI (drN s % m))), hp u n T I (up2 J 69 52 (nI (drN s)).toInt64) R) := by
  have lt := drN_lt s
  refine e_X11_draw ?_
  unfold F_X11_draw
  have e1 : J 69 52 * 1103 + 12345 - (J 69 52 * 1103 + 12345) / 1000003 * 1000003 = (nI (drN s)).toInt64 := by
    apply Int64.toInt_inj.mp
    rw [J_next (s := s) (by rw [h52, Int32.toInt_toInt64]; exact nI_toI (by omega)) hs, Int32.toInt_toInt64, nI_toI (by omega)]
  have e2 : ((nI (drN s)).toInt64 - (nI (drN s)).toInt64 / (nI m).toInt64 * (nI m).toInt64).toInt32 = nI (drN s % m) := by
    apply Int32.toInt_inj.mp
    have hm := Nat.mod_le (drN s) m
    rw [Int64.toInt_toInt32, J_mod (a := drN s) (b := m) (by rw [Int32.toInt_toInt64]; exact nI_toI (by omega)) (by rw [Int32.toInt_toInt64]; exact nI_toI (by omega)) (by omega), nI_toI (by omega)]
    exact bm32 (Int.natCast_nonneg _) (by omega)
  have hz : ¬ (nI m).toInt64 = 0 := by
    intro z
    have := congrArg Int64.toInt z
    rw [Int32.toInt_toInt64, nI_toI (by omega)] at this
    have e0 : (0 : Int64).toInt = 0 := by decide
    omega
  rw [gj_69_52 hS, Option.bind_some, e1, pj_69_52 hS, Option.bind_some, gj_69_52 hS, Option.bind_some, up2_at, if_neg hz, e2]
end DRW
