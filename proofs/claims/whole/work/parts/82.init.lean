/-! what the constructors leave behind, by gen82.py -/
theorem tu_at {α : Type} (T : Nat → α) (n : Nat) (t : α) : va_up T n t n = t := by
  unfold va_up
  exact if_pos rfl
theorem tu_ne {α : Type} (T : Nat → α) {n b : Nat} (t : α) (h : b ≠ n) : va_up T n t b = T b := by
  unfold va_up
  exact if_neg h
theorem up1_ne {α : Type} (F : Nat → Nat → α) {a b : Nat} (g : Nat → α) (h : b ≠ a) : up1 F a g b = F b := if_neg h
section INI
variable {O : mO} {d u n a a1 a2 : Nat} {T : Nat → mT} {I : Nat → Nat → Int32} {J : Nat → Nat → Int64} {R : Nat → Nat → Option Nat}
theorem nwO_0 (hn : n < oB) : nwO (hp u n T I J R) 0 2 = some (n, hp (u + 2) (n + 1) (va_up T n (100 + 0, kd0)) (up1 I n zI) (up1 J n zJ) (up1 R n zR)) := nwO_hp hn (by decide +kernel)
theorem nwO_1 (hn : n < oB) : nwO (hp u n T I J R) 1 1 = some (n, hp (u + 1) (n + 1) (va_up T n (100 + 1, kd1)) (up1 I n zI) (up1 J n zJ) (up1 R n zR)) := nwO_hp hn (by decide +kernel)
theorem nwO_2 (hn : n < oB) : nwO (hp u n T I J R) 2 18 = some (n, hp (u + 18) (n + 1) (va_up T n (100 + 2, kd2)) (up1 I n zI) (up1 J n zJ) (up1 R n zR)) := nwO_hp hn (by decide +kernel)
theorem nwO_3 (hn : n < oB) : nwO (hp u n T I J R) 3 3 = some (n, hp (u + 3) (n + 1) (va_up T n (100 + 3, kd3)) (up1 I n zI) (up1 J n zJ) (up1 R n zR)) := nwO_hp hn (by decide +kernel)
theorem nwO_4 (hn : n < oB) : nwO (hp u n T I J R) 4 2 = some (n, hp (u + 2) (n + 1) (va_up T n (100 + 4, kd4)) (up1 I n zI) (up1 J n zJ) (up1 R n zR)) := nwO_hp hn (by decide +kernel)
theorem nwO_5 (hn : n < oB) : nwO (hp u n T I J R) 5 4 = some (n, hp (u + 4) (n + 1) (va_up T n (100 + 5, kd5)) (up1 I n zI) (up1 J n zJ) (up1 R n zR)) := nwO_hp hn (by decide +kernel)
theorem nwO_6 (hn : n < oB) : nwO (hp u n T I J R) 6 10 = some (n, hp (u + 10) (n + 1) (va_up T n (100 + 6, kd6)) (up1 I n zI) (up1 J n zJ) (up1 R n zR)) := nwO_hp hn (by decide +kernel)
theorem nwO_7 (hn : n < oB) : nwO (hp u n T I J R) 7 14 = some (n, hp (u + 14) (n + 1) (va_up T n (100 + 7, kd7)) (up1 I n zI) (up1 J n zJ) (up1 R n zR)) := nwO_hp hn (by decide +kernel)
theorem nwO_8 (hn : n < oB) : nwO (hp u n T I J R) 8 2 = some (n, hp (u + 2) (n + 1) (va_up T n (100 + 8, kd8)) (up1 I n zI) (up1 J n zJ) (up1 R n zR)) := nwO_hp hn (by decide +kernel)
theorem nwO_9 (hn : n < oB) : nwO (hp u n T I J R) 9 6 = some (n, hp (u + 6) (n + 1) (va_up T n (100 + 9, kd9)) (up1 I n zI) (up1 J n zJ) (up1 R n zR)) := nwO_hp hn (by decide +kernel)
theorem nwO_10 (hn : n < oB) : nwO (hp u n T I J R) 10 17 = some (n, hp (u + 17) (n + 1) (va_up T n (100 + 10, kd10)) (up1 I n zI) (up1 J n zJ) (up1 R n zR)) := nwO_hp hn (by decide +kernel)
theorem nwO_11 (hn : n < oB) : nwO (hp u n T I J R) 11 56 = some (n, hp (u + 56) (n + 1) (va_up T n (100 + 11, kd11)) (up1 I n zI) (up1 J n zJ) (up1 R n zR)) := nwO_hp hn (by decide +kernel)
def iT0 (T : Nat → mT) (n : Nat) : Nat → mT := va_up (T) (n) (0, [9])
def iI0 (I : Nat → Nat → Int32) (a n : Nat) : Nat → Nat → Int32 := up1 (I) (n) zI
def iJ0 (J : Nat → Nat → Int64) (n : Nat) : Nat → Nat → Int64 := up1 (J) (n) zJ
def iR0 (R : Nat → Nat → Option Nat) (a n : Nat) (a1 : Nat) : Nat → Nat → Option Nat := up2 (up2 (up1 (R) (n) zR) a 1 (some (n))) a 0 (some (a1))
theorem iT0_lo {b : Nat} (h : b < n) : iT0 T n b = T b := by
  unfold iT0
  simp (disch := omega) only [tu_ne]
theorem i_0 (hT : T a = (100 + 0, kd0)) (ha : a < n) (hn : n + 1 ≤ oB) : ev O (d + 1) MX0_init [.ref a, .ref a1] (hp u n T I J R) = some (none, hp (u + 9) (n + 1) (iT0 T n) (iI0 I a n) (iJ0 J n) (iR0 R a n a1)) := by
  refine e_X0_init (d := d + 0) ?_
  unfold F_X0_init
  rw [nwV_i (by decide) (by omega), Option.bind_some]
  dsimp only
  rw [ptA_hp (ks := kd0) (by simp (disch := omega) only [tu_ne, tu_at, hT]) (by rfl) (by omega) (by omega), Option.bind_some]
  rw [ptA_hp (ks := kd0) (by simp (disch := omega) only [tu_ne, tu_at, hT]) (by rfl) (by omega) (by omega), Option.bind_some]
  rw [show u + 9 = u + 9 by omega]
  rfl
def iT1 (T : Nat → mT) (n : Nat) : Nat → mT := T
def iI1 (I : Nat → Nat → Int32) (a n : Nat) : Nat → Nat → Int32 := up2 (I) a 0 (nI 0)
def iJ1 (J : Nat → Nat → Int64) (n : Nat) : Nat → Nat → Int64 := J
def iR1 (R : Nat → Nat → Option Nat) (a n : Nat) : Nat → Nat → Option Nat := R
theorem iT1_lo {b : Nat} (h : b < n) : iT1 T n b = T b := by
  unfold iT1
  rfl
theorem i_1 (hT : T a = (100 + 1, kd1)) (ha : a < n) (hn : n + 0 ≤ oB) : ev O (d + 1) MX1_init [.ref a] (hp u n T I J R) = some (none, hp (u + 0) (n + 0) (iT1 T n) (iI1 I a n) (iJ1 J n) (iR1 R a n)) := by
  refine e_X1_init (d := d + 0) ?_
  unfold F_X1_init
  rw [ptI_hp (ks := kd1) (by simp (disch := omega) only [tu_ne, tu_at, hT]) (by rfl) (by omega) (by omega), Option.bind_some]
  rfl
def iT2 (T : Nat → mT) (n : Nat) : Nat → mT := va_up (va_up (va_up (va_up (va_up (va_up (va_up (va_up (va_up (va_up (T) (n) (0, [5])) (n + 1) (0, [4])) (n + 2) (0, [8])) (n + 3) (0, [8])) (n + 4) (0, [8])) (n + 5) (0, [40])) (n + 6) (0, [8])) (n + 7) (0, [8])) (n + 8) (0, [3])) (n + 9) (5, [6])
def iI2 (I : Nat → Nat → Int32) (a n : Nat) : Nat → Nat → Int32 := up2 (up2 (up2 (up2 (up2 (up2 (up2 (up1 (up2 (up2 (up2 (up1 (up1 (up1 (up1 (up1 (up1 (up1 (up1 (up1 (I) (n) zI) (n + 1) zI) (n + 2) zI) (n + 3) zI) (n + 4) zI) (n + 5) zI) (n + 6) zI) (n + 7) zI) (n + 8) zI) (n + 8) 0 (nI 0)) (n + 8) 1 (nI 2)) (n + 8) 2 (nI 0)) (n + 9) zI) a 11 (nI 0)) a 12 (nI 0)) a 13 (nI 0)) a 14 (nI 0)) a 15 (nI 0)) a 16 (nI 0)) a 17 (-1)
def iJ2 (J : Nat → Nat → Int64) (n : Nat) : Nat → Nat → Int64 := up1 (up1 (up1 (up1 (up1 (up1 (up1 (up1 (up1 (up1 (J) (n) zJ) (n + 1) zJ) (n + 2) zJ) (n + 3) zJ) (n + 4) zJ) (n + 5) zJ) (n + 6) zJ) (n + 7) zJ) (n + 8) zJ) (n + 9) zJ
def iR2 (R : Nat → Nat → Option Nat) (a n : Nat) (a1 : Nat) : Nat → Nat → Option Nat := up2 (up2 (up1 (up2 (up1 (up2 (up1 (up2 (up1 (up2 (up1 (up2 (up1 (up2 (up1 (up2 (up1 (up2 (up1 (up2 (up1 (R) (n) zR) a 1 (some (n))) (n + 1) zR) a 2 (some (n + 1))) (n + 2) zR) a 3 (some (n + 2))) (n + 3) zR) a 4 (some (n + 3))) (n + 4) zR) a 5 (some (n + 4))) (n + 5) zR) a 6 (some (n + 5))) (n + 6) zR) a 7 (some (n + 6))) (n + 7) zR) a 8 (some (n + 7))) (n + 8) zR) a 9 (some (n + 8))) (n + 9) zR) a 10 (some (n + 9))) a 0 (some (a1))
theorem iT2_lo {b : Nat} (h : b < n) : iT2 T n b = T b := by
  unfold iT2
  simp (disch := omega) only [tu_ne]
theorem i_2 (hT : T a = (100 + 2, kd2)) (ha : a < n) (hn : n + 10 ≤ oB) : ev O (d + 1) MX2_init [.ref a, .ref a1] (hp u n T I J R) = some (none, hp (u + 98) (n + 10) (iT2 T n) (iI2 I a n) (iJ2 J n) (iR2 R a n a1)) := by
  refine e_X2_init (d := d + 0) ?_
  unfold F_X2_init
  rw [nwV_i (by decide) (by omega), Option.bind_some]
  dsimp only
  rw [ptA_hp (ks := kd2) (by simp (disch := omega) only [tu_ne, tu_at, hT]) (by rfl) (by omega) (by omega), Option.bind_some]
  rw [nwV_i (by decide) (by omega), Option.bind_some]
  dsimp only
  rw [ptA_hp (ks := kd2) (by simp (disch := omega) only [tu_ne, tu_at, hT]) (by rfl) (by omega) (by omega), Option.bind_some]
  rw [nwV_i (by decide) (by omega), Option.bind_some]
  dsimp only
  rw [ptA_hp (ks := kd2) (by simp (disch := omega) only [tu_ne, tu_at, hT]) (by rfl) (by omega) (by omega), Option.bind_some]
  rw [nwV_i (by decide) (by omega), Option.bind_some]
  dsimp only
  rw [ptA_hp (ks := kd2) (by simp (disch := omega) only [tu_ne, tu_at, hT]) (by rfl) (by omega) (by omega), Option.bind_some]
  rw [nwV_i (by decide) (by omega), Option.bind_some]
  dsimp only
  rw [ptA_hp (ks := kd2) (by simp (disch := omega) only [tu_ne, tu_at, hT]) (by rfl) (by omega) (by omega), Option.bind_some]
  rw [nwV_i (by decide) (by omega), Option.bind_some]
  dsimp only
  rw [ptA_hp (ks := kd2) (by simp (disch := omega) only [tu_ne, tu_at, hT]) (by rfl) (by omega) (by omega), Option.bind_some]
  rw [nwV_i (by decide) (by omega), Option.bind_some]
  dsimp only
  rw [ptA_hp (ks := kd2) (by simp (disch := omega) only [tu_ne, tu_at, hT]) (by rfl) (by omega) (by omega), Option.bind_some]
  rw [nwV_i (by decide) (by omega), Option.bind_some]
  dsimp only
  rw [ptA_hp (ks := kd2) (by simp (disch := omega) only [tu_ne, tu_at, hT]) (by rfl) (by omega) (by omega), Option.bind_some]
  rw [nwV_i (by decide) (by omega), Option.bind_some]
  dsimp only
  rw [wrI_hp (L := 3) (by simp (disch := omega) only [tu_ne, tu_at, hT]) (by omega) (by omega) (by decide) (by decide), Option.bind_some]
  rw [wrI_hp (L := 3) (by simp (disch := omega) only [tu_ne, tu_at, hT]) (by omega) (by omega) (by decide) (by decide), Option.bind_some]
  rw [wrI_hp (L := 3) (by simp (disch := omega) only [tu_ne, tu_at, hT]) (by omega) (by omega) (by decide) (by decide), Option.bind_some]
  rw [ptA_hp (ks := kd2) (by simp (disch := omega) only [tu_ne, tu_at, hT]) (by rfl) (by omega) (by omega), Option.bind_some]
  rw [nwR_hp (by decide) (by decide) (by omega), Option.bind_some]
  dsimp only
  rw [ptA_hp (ks := kd2) (by simp (disch := omega) only [tu_ne, tu_at, hT]) (by rfl) (by omega) (by omega), Option.bind_some]
  rw [ptI_hp (ks := kd2) (by simp (disch := omega) only [tu_ne, tu_at, hT]) (by rfl) (by omega) (by omega), Option.bind_some]
  rw [ptI_hp (ks := kd2) (by simp (disch := omega) only [tu_ne, tu_at, hT]) (by rfl) (by omega) (by omega), Option.bind_some]
  rw [ptI_hp (ks := kd2) (by simp (disch := omega) only [tu_ne, tu_at, hT]) (by rfl) (by omega) (by omega), Option.bind_some]
  rw [ptI_hp (ks := kd2) (by simp (disch := omega) only [tu_ne, tu_at, hT]) (by rfl) (by omega) (by omega), Option.bind_some]
  rw [ptI_hp (ks := kd2) (by simp (disch := omega) only [tu_ne, tu_at, hT]) (by rfl) (by omega) (by omega), Option.bind_some]
  rw [ptI_hp (ks := kd2) (by simp (disch := omega) only [tu_ne, tu_at, hT]) (by rfl) (by omega) (by omega), Option.bind_some]
  rw [ptI_hp (ks := kd2) (by simp (disch := omega) only [tu_ne, tu_at, hT]) (by rfl) (by omega) (by omega), Option.bind_some]
  rw [ptA_hp (ks := kd2) (by simp (disch := omega) only [tu_ne, tu_at, hT]) (by rfl) (by omega) (by omega), Option.bind_some]
  rw [show u + 5 + 4 + 8 + 8 + 8 + 40 + 8 + 8 + 3 + 6 = u + 98 by omega]
  rfl
def iT3 (T : Nat → mT) (n : Nat) : Nat → mT := va_up (T) (n) (0, [391])
def iI3 (I : Nat → Nat → Int32) (a n : Nat) : Nat → Nat → Int32 := up2 (up2 (up1 (I) (n) zI) a 1 (nI 0)) a 2 (nI 0)
def iJ3 (J : Nat → Nat → Int64) (n : Nat) : Nat → Nat → Int64 := up1 (J) (n) zJ
def iR3 (R : Nat → Nat → Option Nat) (a n : Nat) : Nat → Nat → Option Nat := up2 (up1 (R) (n) zR) a 0 (some (n))
theorem iT3_lo {b : Nat} (h : b < n) : iT3 T n b = T b := by
  unfold iT3
  simp (disch := omega) only [tu_ne]
theorem i_3 (hT : T a = (100 + 3, kd3)) (ha : a < n) (hn : n + 1 ≤ oB) : ev O (d + 1) MX3_init [.ref a] (hp u n T I J R) = some (none, hp (u + 391) (n + 1) (iT3 T n) (iI3 I a n) (iJ3 J n) (iR3 R a n)) := by
  refine e_X3_init (d := d + 0) ?_
  unfold F_X3_init
  rw [nwV_i (by decide) (by omega), Option.bind_some]
  dsimp only
  rw [ptA_hp (ks := kd3) (by simp (disch := omega) only [tu_ne, tu_at, hT]) (by rfl) (by omega) (by omega), Option.bind_some]
  rw [ptI_hp (ks := kd3) (by simp (disch := omega) only [tu_ne, tu_at, hT]) (by rfl) (by omega) (by omega), Option.bind_some]
  rw [ptI_hp (ks := kd3) (by simp (disch := omega) only [tu_ne, tu_at, hT]) (by rfl) (by omega) (by omega), Option.bind_some]
  rw [show u + 391 = u + 391 by omega]
  rfl
def iT4 (T : Nat → mT) (n : Nat) : Nat → mT := va_up (va_up (T) (n) (0, [8])) (n + 1) (0, [8])
def iI4 (I : Nat → Nat → Int32) (a n : Nat) : Nat → Nat → Int32 := up1 (up1 (I) (n) zI) (n + 1) zI
def iJ4 (J : Nat → Nat → Int64) (n : Nat) : Nat → Nat → Int64 := up1 (up1 (J) (n) zJ) (n + 1) zJ
def iR4 (R : Nat → Nat → Option Nat) (a n : Nat) : Nat → Nat → Option Nat := up2 (up1 (up2 (up1 (R) (n) zR) a 0 (some (n))) (n + 1) zR) a 1 (some (n + 1))
theorem iT4_lo {b : Nat} (h : b < n) : iT4 T n b = T b := by
  unfold iT4
  simp (disch := omega) only [tu_ne]
theorem i_4 (hT : T a = (100 + 4, kd4)) (ha : a < n) (hn : n + 2 ≤ oB) : ev O (d + 1) MX4_init [.ref a] (hp u n T I J R) = some (none, hp (u + 16) (n + 2) (iT4 T n) (iI4 I a n) (iJ4 J n) (iR4 R a n)) := by
  refine e_X4_init (d := d + 0) ?_
  unfold F_X4_init
  rw [nwV_i (by decide) (by omega), Option.bind_some]
  dsimp only
  rw [ptA_hp (ks := kd4) (by simp (disch := omega) only [tu_ne, tu_at, hT]) (by rfl) (by omega) (by omega), Option.bind_some]
  rw [nwV_i (by decide) (by omega), Option.bind_some]
  dsimp only
  rw [ptA_hp (ks := kd4) (by simp (disch := omega) only [tu_ne, tu_at, hT]) (by rfl) (by omega) (by omega), Option.bind_some]
  rw [show u + 8 + 8 = u + 16 by omega]
  rfl
def iT8 (T : Nat → mT) (n : Nat) : Nat → mT := va_up (T) (n) (0, [64])
def iI8 (I : Nat → Nat → Int32) (a n : Nat) : Nat → Nat → Int32 := up2 (up1 (I) (n) zI) a 1 (nI 0)
def iJ8 (J : Nat → Nat → Int64) (n : Nat) : Nat → Nat → Int64 := up1 (J) (n) zJ
def iR8 (R : Nat → Nat → Option Nat) (a n : Nat) : Nat → Nat → Option Nat := up2 (up1 (R) (n) zR) a 0 (some (n))
theorem iT8_lo {b : Nat} (h : b < n) : iT8 T n b = T b := by
  unfold iT8
  simp (disch := omega) only [tu_ne]
theorem i_8 (hT : T a = (100 + 8, kd8)) (ha : a < n) (hn : n + 1 ≤ oB) : ev O (d + 1) MX8_init [.ref a] (hp u n T I J R) = some (none, hp (u + 64) (n + 1) (iT8 T n) (iI8 I a n) (iJ8 J n) (iR8 R a n)) := by
  refine e_X8_init (d := d + 0) ?_
  unfold F_X8_init
  rw [nwV_i (by decide) (by omega), Option.bind_some]
  dsimp only
  rw [ptA_hp (ks := kd8) (by simp (disch := omega) only [tu_ne, tu_at, hT]) (by rfl) (by omega) (by omega), Option.bind_some]
  rw [ptI_hp (ks := kd8) (by simp (disch := omega) only [tu_ne, tu_at, hT]) (by rfl) (by omega) (by omega), Option.bind_some]
  rw [show u + 64 = u + 64 by omega]
  rfl
def iT7 (T : Nat → mT) (n : Nat) : Nat → mT := va_up (va_up (va_up (va_up (va_up (va_up (va_up (va_up (va_up (va_up (T) (n) (0, [8])) (n + 1) (0, [9])) (n + 2) (1, [54])) (n + 3) (1, [9])) (n + 4) (0, [24])) (n + 5) (0, [24])) (n + 6) (0, [24])) (n + 7) (1, [24])) (n + 8) (1, [24])) (n + 9) (3, [24])
def iI7 (I : Nat → Nat → Int32) (a n : Nat) : Nat → Nat → Int32 := up2 (up2 (up2 (up2 (up1 (up1 (up1 (up1 (up1 (up1 (up1 (up1 (up1 (up1 (I) (n) zI) (n + 1) zI) (n + 2) zI) (n + 3) zI) (n + 4) zI) (n + 5) zI) (n + 6) zI) (n + 7) zI) (n + 8) zI) (n + 9) zI) a 10 (nI 0)) a 11 (nI 0)) a 12 (nI 0)) a 13 (nI 0)
def iJ7 (J : Nat → Nat → Int64) (n : Nat) : Nat → Nat → Int64 := up1 (up1 (up1 (up1 (up1 (up1 (up1 (up1 (up1 (up1 (J) (n) zJ) (n + 1) zJ) (n + 2) zJ) (n + 3) zJ) (n + 4) zJ) (n + 5) zJ) (n + 6) zJ) (n + 7) zJ) (n + 8) zJ) (n + 9) zJ
def iR7 (R : Nat → Nat → Option Nat) (a n : Nat) : Nat → Nat → Option Nat := up2 (up1 (up2 (up1 (up2 (up1 (up2 (up1 (up2 (up1 (up2 (up1 (up2 (up1 (up2 (up1 (up2 (up1 (up2 (up1 (R) (n) zR) a 0 (some (n))) (n + 1) zR) a 1 (some (n + 1))) (n + 2) zR) a 2 (some (n + 2))) (n + 3) zR) a 3 (some (n + 3))) (n + 4) zR) a 4 (some (n + 4))) (n + 5) zR) a 5 (some (n + 5))) (n + 6) zR) a 6 (some (n + 6))) (n + 7) zR) a 7 (some (n + 7))) (n + 8) zR) a 8 (some (n + 8))) (n + 9) zR) a 9 (some (n + 9))
theorem iT7_lo {b : Nat} (h : b < n) : iT7 T n b = T b := by
  unfold iT7
  simp (disch := omega) only [tu_ne]
theorem i_7 (hT : T a = (100 + 7, kd7)) (ha : a < n) (hn : n + 10 ≤ oB) : ev O (d + 1) MX7_init [.ref a] (hp u n T I J R) = some (none, hp (u + 224) (n + 10) (iT7 T n) (iI7 I a n) (iJ7 J n) (iR7 R a n)) := by
  refine e_X7_init (d := d + 0) ?_
  unfold F_X7_init
  rw [nwV_i (by decide) (by omega), Option.bind_some]
  dsimp only
  rw [ptA_hp (ks := kd7) (by simp (disch := omega) only [tu_ne, tu_at, hT]) (by rfl) (by omega) (by omega), Option.bind_some]
  rw [nwV_i (by decide) (by omega), Option.bind_some]
  dsimp only
  rw [ptA_hp (ks := kd7) (by simp (disch := omega) only [tu_ne, tu_at, hT]) (by rfl) (by omega) (by omega), Option.bind_some]
  rw [nwV_j (by decide) (by omega), Option.bind_some]
  dsimp only
  rw [ptA_hp (ks := kd7) (by simp (disch := omega) only [tu_ne, tu_at, hT]) (by rfl) (by omega) (by omega), Option.bind_some]
  rw [nwV_j (by decide) (by omega), Option.bind_some]
  dsimp only
  rw [ptA_hp (ks := kd7) (by simp (disch := omega) only [tu_ne, tu_at, hT]) (by rfl) (by omega) (by omega), Option.bind_some]
  rw [nwV_i (by decide) (by omega), Option.bind_some]
  dsimp only
  rw [ptA_hp (ks := kd7) (by simp (disch := omega) only [tu_ne, tu_at, hT]) (by rfl) (by omega) (by omega), Option.bind_some]
  rw [nwV_i (by decide) (by omega), Option.bind_some]
  dsimp only
  rw [ptA_hp (ks := kd7) (by simp (disch := omega) only [tu_ne, tu_at, hT]) (by rfl) (by omega) (by omega), Option.bind_some]
  rw [nwV_i (by decide) (by omega), Option.bind_some]
  dsimp only
  rw [ptA_hp (ks := kd7) (by simp (disch := omega) only [tu_ne, tu_at, hT]) (by rfl) (by omega) (by omega), Option.bind_some]
  rw [nwV_j (by decide) (by omega), Option.bind_some]
  dsimp only
  rw [ptA_hp (ks := kd7) (by simp (disch := omega) only [tu_ne, tu_at, hT]) (by rfl) (by omega) (by omega), Option.bind_some]
  rw [nwV_j (by decide) (by omega), Option.bind_some]
  dsimp only
  rw [ptA_hp (ks := kd7) (by simp (disch := omega) only [tu_ne, tu_at, hT]) (by rfl) (by omega) (by omega), Option.bind_some]
  rw [nwV_z (by decide) (by omega), Option.bind_some]
  dsimp only
  rw [ptA_hp (ks := kd7) (by simp (disch := omega) only [tu_ne, tu_at, hT]) (by rfl) (by omega) (by omega), Option.bind_some]
  rw [ptI_hp (ks := kd7) (by simp (disch := omega) only [tu_ne, tu_at, hT]) (by rfl) (by omega) (by omega), Option.bind_some]
  rw [ptI_hp (ks := kd7) (by simp (disch := omega) only [tu_ne, tu_at, hT]) (by rfl) (by omega) (by omega), Option.bind_some]
  rw [ptI_hp (ks := kd7) (by simp (disch := omega) only [tu_ne, tu_at, hT]) (by rfl) (by omega) (by omega), Option.bind_some]
  rw [ptI_hp (ks := kd7) (by simp (disch := omega) only [tu_ne, tu_at, hT]) (by rfl) (by omega) (by omega), Option.bind_some]
  rw [show u + 8 + 9 + 54 + 9 + 24 + 24 + 24 + 24 + 24 + 24 = u + 224 by omega]
  rfl
def iT5 (T : Nat → mT) (n s c : Nat) : Nat → mT := va_up (va_up T n (0, [s])) (n + 1) (0, [c * 6])
def iI5 (I : Nat → Nat → Int32) (a n : Nat) : Nat → Nat → Int32 := up1 (up1 (up2 (up2 I a 2 (nI 0)) a 3 (nI 0)) n zI) (n + 1) zI
def iJ5 (J : Nat → Nat → Int64) (n : Nat) : Nat → Nat → Int64 := up1 (up1 J n zJ) (n + 1) zJ
def iR5 (R : Nat → Nat → Option Nat) (a n : Nat) : Nat → Nat → Option Nat := up2 (up1 (up2 (up1 R n zR) a 0 (some n)) (n + 1) zR) a 1 (some (n + 1))
theorem iT5_lo {b s c : Nat} (h : b < n) : iT5 T n s c b = T b := by
  unfold iT5
  simp (disch := omega) only [tu_ne]
theorem i_5 {s c : Nat} (hT : T a = (100 + 5, kd5)) (ha : a < n) (hn : n + 2 ≤ oB) (hs : s ≤ 400) (hc : c ≤ 12) : ev O (d + 1) MX5_init [.ref a, .int (nI s), .int (nI c)] (hp u n T I J R) = some (none, hp (u + s + c * 6) (n + 2) (iT5 T n s c) (iI5 I a n) (iJ5 J n) (iR5 R a n)) := by
  have e1 : (if nI 0 < nI s then nI s else nI 0) = nI s := by
    by_cases h : s = 0
    · rw [h]
      split <;> rfl
    · rw [if_pos ((nI_ltI (by omega) (by omega)).mpr (by omega))]
  have e2 : (if nI 0 < nI c * nI 6 then nI c * nI 6 else nI 0) = nI (c * 6) := by
    rw [nI_mul]
    by_cases h : c = 0
    · rw [h]
      split <;> rfl
    · rw [if_pos ((nI_ltI (by omega) (by omega)).mpr (by omega))]
  refine e_X5_init ?_
  unfold F_X5_init
  rw [ptI_hp (ks := kd5) hT (by rfl) ha (by omega), Option.bind_some, ptI_hp (ks := kd5) hT (by rfl) ha (by omega), Option.bind_some, e1, nwV_i (by omega) (by omega), Option.bind_some]
  dsimp only
  rw [ptA_hp (ks := kd5) (by rw [tu_ne _ _ (by omega)]; exact hT) (by rfl) (by omega) (by omega), Option.bind_some, e2, nwV_i (by omega) (by omega), Option.bind_some]
  dsimp only
  rw [ptA_hp (ks := kd5) (by rw [tu_ne _ _ (by omega), tu_ne _ _ (by omega)]; exact hT) (by rfl) (by omega) (by omega), Option.bind_some]
  rfl
def iT6 (T : Nat → mT) (n : Nat) : Nat → mT := va_up (va_up (iT5 (va_up (T) (n) (100 + 5, kd5)) (n + 1) 400 12) (n + 3) (0, [401])) (n + 4) (0, [401])
def iI6 (I : Nat → Nat → Int32) (a n : Nat) : Nat → Nat → Int32 := up2 (up2 (up2 (up2 (up2 (up2 (up2 (up1 (up1 (iI5 (up1 (I) (n) zI) (n) (n + 1)) (n + 3) zI) (n + 4) zI) a 3 (nI 0)) a 4 (nI 0)) a 5 (nI 4000)) a 6 (-1)) a 7 (nI 0)) a 8 (nI 0)) a 9 (nI 0)
def iJ6 (J : Nat → Nat → Int64) (n : Nat) : Nat → Nat → Int64 := up1 (up1 (iJ5 (up1 (J) (n) zJ) (n + 1)) (n + 3) zJ) (n + 4) zJ
def iR6 (R : Nat → Nat → Option Nat) (a n : Nat) : Nat → Nat → Option Nat := up2 (up1 (up2 (up1 (up2 (iR5 (up1 (R) (n) zR) (n) (n + 1)) a 0 (some (n))) (n + 3) zR) a 1 (some (n + 3))) (n + 4) zR) a 2 (some (n + 4))
theorem iT6_lo {b : Nat} (h : b < n) : iT6 T n b = T b := by
  unfold iT6
  simp (disch := omega) only [tu_ne, iT5_lo]
theorem i_6 (hT : T a = (100 + 6, kd6)) (ha : a < n) (hn : n + 5 ≤ oB) : ev O (d + 2) MX6_init [.ref a] (hp u n T I J R) = some (none, hp (u + 1278) (n + 5) (iT6 T n) (iI6 I a n) (iJ6 J n) (iR6 R a n)) := by
  refine e_X6_init (d := d + 1) ?_
  unfold F_X6_init
  rw [nwO_5 (by omega), Option.bind_some]
  dsimp only
  rw [i_5 (d := d) (by simp (disch := omega) only [tu_ne, tu_at, iT5_lo, hT]) (by omega) (by omega) (by decide) (by decide), toV_v, Option.bind_some]
  rw [ptA_hp (ks := kd6) (by simp (disch := omega) only [tu_ne, tu_at, iT5_lo, hT]) (by rfl) (by omega) (by omega), Option.bind_some]
  rw [nwV_i (by decide) (by omega), Option.bind_some]
  dsimp only
  rw [ptA_hp (ks := kd6) (by simp (disch := omega) only [tu_ne, tu_at, iT5_lo, hT]) (by rfl) (by omega) (by omega), Option.bind_some]
  rw [nwV_i (by decide) (by omega), Option.bind_some]
  dsimp only
  rw [ptA_hp (ks := kd6) (by simp (disch := omega) only [tu_ne, tu_at, iT5_lo, hT]) (by rfl) (by omega) (by omega), Option.bind_some]
  rw [ptI_hp (ks := kd6) (by simp (disch := omega) only [tu_ne, tu_at, iT5_lo, hT]) (by rfl) (by omega) (by omega), Option.bind_some]
  rw [ptI_hp (ks := kd6) (by simp (disch := omega) only [tu_ne, tu_at, iT5_lo, hT]) (by rfl) (by omega) (by omega), Option.bind_some]
  rw [ptI_hp (ks := kd6) (by simp (disch := omega) only [tu_ne, tu_at, iT5_lo, hT]) (by rfl) (by omega) (by omega), Option.bind_some]
  rw [ptI_hp (ks := kd6) (by simp (disch := omega) only [tu_ne, tu_at, iT5_lo, hT]) (by rfl) (by omega) (by omega), Option.bind_some]
  rw [ptI_hp (ks := kd6) (by simp (disch := omega) only [tu_ne, tu_at, iT5_lo, hT]) (by rfl) (by omega) (by omega), Option.bind_some]
  rw [ptI_hp (ks := kd6) (by simp (disch := omega) only [tu_ne, tu_at, iT5_lo, hT]) (by rfl) (by omega) (by omega), Option.bind_some]
  rw [ptI_hp (ks := kd6) (by simp (disch := omega) only [tu_ne, tu_at, iT5_lo, hT]) (by rfl) (by omega) (by omega), Option.bind_some]
  rw [show u + 4 + 400 + 12 * 6 + 401 + 401 = u + 1278 by omega]
  rfl
def iT9 (T : Nat → mT) (n : Nat) : Nat → mT := iT2 (va_up (iT3 (va_up (va_up (T) (n) (0, [16])) (n + 1) (100 + 3, kd3)) (n + 2)) (n + 3) (100 + 2, kd2)) (n + 4)
def iI9 (I : Nat → Nat → Int32) (a n : Nat) : Nat → Nat → Int32 := iI2 (up1 (up2 (up2 (iI3 (up1 (up1 (I) (n) zI) (n + 1) zI) (n + 1) (n + 2)) a 4 (nI 0)) a 5 (-1)) (n + 3) zI) (n + 3) (n + 4)
def iJ9 (J : Nat → Nat → Int64) (n : Nat) : Nat → Nat → Int64 := iJ2 (up1 (iJ3 (up1 (up1 (J) (n) zJ) (n + 1) zJ) (n + 2)) (n + 3) zJ) (n + 4)
def iR9 (R : Nat → Nat → Option Nat) (a n : Nat) (a1 : Nat) (a2 : Nat) : Nat → Nat → Option Nat := up2 (iR2 (up1 (up2 (up2 (iR3 (up1 (up2 (up1 (R) (n) zR) a 1 (some (n))) (n + 1) zR) (n + 1) (n + 2)) a 3 (some (n + 1))) a 0 (some (a1))) (n + 3) zR) (n + 3) (n + 4) (a2)) a 2 (some (n + 3))
theorem iT9_lo {b : Nat} (h : b < n) : iT9 T n b = T b := by
  unfold iT9
  simp (disch := omega) only [tu_ne, iT2_lo, iT3_lo]
theorem i_9 (hT : T a = (100 + 9, kd9)) (ha : a < n) (hn : n + 14 ≤ oB) : ev O (d + 2) MX9_init [.ref a, .ref a1, .ref a2] (hp u n T I J R) = some (none, hp (u + 526) (n + 14) (iT9 T n) (iI9 I a n) (iJ9 J n) (iR9 R a n a1 a2)) := by
  refine e_X9_init (d := d + 1) ?_
  unfold F_X9_init
  rw [nwV_i (by decide) (by omega), Option.bind_some]
  dsimp only
  rw [ptA_hp (ks := kd9) (by simp (disch := omega) only [tu_ne, tu_at, iT2_lo, iT3_lo, hT]) (by rfl) (by omega) (by omega), Option.bind_some]
  rw [nwO_3 (by omega), Option.bind_some]
  dsimp only
  rw [i_3 (d := d) (by simp (disch := omega) only [tu_ne, tu_at, iT2_lo, iT3_lo, hT]) (by omega) (by omega), toV_v, Option.bind_some]
  rw [ptA_hp (ks := kd9) (by simp (disch := omega) only [tu_ne, tu_at, iT2_lo, iT3_lo, hT]) (by rfl) (by omega) (by omega), Option.bind_some]
  rw [ptI_hp (ks := kd9) (by simp (disch := omega) only [tu_ne, tu_at, iT2_lo, iT3_lo, hT]) (by rfl) (by omega) (by omega), Option.bind_some]
  rw [ptI_hp (ks := kd9) (by simp (disch := omega) only [tu_ne, tu_at, iT2_lo, iT3_lo, hT]) (by rfl) (by omega) (by omega), Option.bind_some]
  rw [ptA_hp (ks := kd9) (by simp (disch := omega) only [tu_ne, tu_at, iT2_lo, iT3_lo, hT]) (by rfl) (by omega) (by omega), Option.bind_some]
  rw [nwO_2 (by omega), Option.bind_some]
  dsimp only
  rw [i_2 (d := d) (by simp (disch := omega) only [tu_ne, tu_at, iT2_lo, iT3_lo, hT]) (by omega) (by omega), toV_v, Option.bind_some]
  rw [ptA_hp (ks := kd9) (by simp (disch := omega) only [tu_ne, tu_at, iT2_lo, iT3_lo, hT]) (by rfl) (by omega) (by omega), Option.bind_some]
  rw [show u + 16 + 3 + 391 + 18 + 98 = u + 526 by omega]
  rfl
def iT10 (T : Nat → mT) (n : Nat) : Nat → mT := iT9 (va_up (iT2 (va_up (iT2 (va_up (iT0 (va_up (iT8 (va_up (iT3 (va_up (va_up (va_up (va_up (va_up (iT1 (va_up (iT7 (va_up (iT4 (va_up (iT6 (va_up (T) (n) (100 + 6, kd6)) (n + 1)) (n + 6) (100 + 4, kd4)) (n + 7)) (n + 9) (100 + 7, kd7)) (n + 10)) (n + 20) (100 + 1, kd1)) (n + 21)) (n + 21) (1, [20])) (n + 22) (2, [400])) (n + 23) (0, [5])) (n + 24) (4, [2])) (n + 25) (100 + 3, kd3)) (n + 26)) (n + 27) (100 + 8, kd8)) (n + 28)) (n + 29) (100 + 0, kd0)) (n + 30)) (n + 31) (100 + 2, kd2)) (n + 32)) (n + 42) (100 + 2, kd2)) (n + 43)) (n + 53) (100 + 9, kd9)) (n + 54)
def iI10 (I : Nat → Nat → Int32) (a n : Nat) : Nat → Nat → Int32 := iI9 (up1 (iI2 (up1 (iI2 (up1 (iI0 (up1 (iI8 (up1 (up2 (up2 (up2 (up2 (up2 (iI3 (up1 (up1 (up1 (up1 (up1 (iI1 (up1 (iI7 (up1 (iI4 (up1 (iI6 (up1 (I) (n) zI) (n) (n + 1)) (n + 6) zI) (n + 6) (n + 7)) (n + 9) zI) (n + 9) (n + 10)) (n + 20) zI) (n + 20) (n + 21)) (n + 21) zI) (n + 22) zI) (n + 23) zI) (n + 24) zI) (n + 25) zI) (n + 25) (n + 26)) a 12 (nI 0)) a 13 (-1)) a 14 (-1)) a 15 (nI 0)) a 16 (nI 0)) (n + 27) zI) (n + 27) (n + 28)) (n + 29) zI) (n + 29) (n + 30)) (n + 31) zI) (n + 31) (n + 32)) (n + 42) zI) (n + 42) (n + 43)) (n + 53) zI) (n + 53) (n + 54)
def iJ10 (J : Nat → Nat → Int64) (n : Nat) : Nat → Nat → Int64 := iJ9 (up1 (iJ2 (up1 (iJ2 (up1 (iJ0 (up1 (iJ8 (up1 (iJ3 (up1 (up1 (up1 (up1 (up1 (iJ1 (up1 (iJ7 (up1 (iJ4 (up1 (iJ6 (up1 (J) (n) zJ) (n + 1)) (n + 6) zJ) (n + 7)) (n + 9) zJ) (n + 10)) (n + 20) zJ) (n + 21)) (n + 21) zJ) (n + 22) zJ) (n + 23) zJ) (n + 24) zJ) (n + 25) zJ) (n + 26)) (n + 27) zJ) (n + 28)) (n + 29) zJ) (n + 30)) (n + 31) zJ) (n + 32)) (n + 42) zJ) (n + 43)) (n + 53) zJ) (n + 54)
def iR10 (R : Nat → Nat → Option Nat) (a n : Nat) : Nat → Nat → Option Nat := up2 (iR9 (up1 (up2 (iR2 (up1 (up2 (iR2 (up1 (iR0 (up1 (iR8 (up1 (up2 (iR3 (up1 (up2 (up1 (up2 (up1 (up2 (up1 (up2 (up1 (up2 (iR1 (up1 (up2 (iR7 (up1 (up2 (iR4 (up1 (up2 (iR6 (up1 (R) (n) zR) (n) (n + 1)) a 0 (some (n))) (n + 6) zR) (n + 6) (n + 7)) a 1 (some (n + 6))) (n + 9) zR) (n + 9) (n + 10)) a 2 (some (n + 9))) (n + 20) zR) (n + 20) (n + 21)) a 3 (some (n + 20))) (n + 21) zR) a 4 (some (n + 21))) (n + 22) zR) a 5 (some (n + 22))) (n + 23) zR) a 6 (some (n + 23))) (n + 24) zR) a 7 (some (n + 24))) (n + 25) zR) (n + 25) (n + 26)) a 11 (some (n + 25))) (n + 27) zR) (n + 27) (n + 28)) (n + 29) zR) (n + 29) (n + 30) (n + 27)) (n + 31) zR) (n + 31) (n + 32) (n + 29)) a 10 (some (n + 31))) (n + 42) zR) (n + 42) (n + 43) (n + 29)) a 9 (some (n + 42))) (n + 53) zR) (n + 53) (n + 54) (n + 27) (n + 29)) a 8 (some (n + 53))
theorem iT10_lo {b : Nat} (h : b < n) : iT10 T n b = T b := by
  unfold iT10
  simp (disch := omega) only [tu_ne, iT0_lo, iT1_lo, iT2_lo, iT3_lo, iT4_lo, iT6_lo, iT7_lo, iT8_lo, iT9_lo]
theorem i_10 (hT : T a = (100 + 10, kd10)) (ha : a < n) (hn : n + 68 ≤ oB) : ev O (d + 3) MX10_init [.ref a] (hp u n T I J R) = some (none, hp (u + 3207) (n + 68) (iT10 T n) (iI10 I a n) (iJ10 J n) (iR10 R a n)) := by
  refine e_X10_init (d := d + 2) ?_
  unfold F_X10_init
  rw [nwO_6 (by omega), Option.bind_some]
  dsimp only
  rw [i_6 (d := d) (by simp (disch := omega) only [tu_ne, tu_at, iT0_lo, iT1_lo, iT2_lo, iT3_lo, iT4_lo, iT6_lo, iT7_lo, iT8_lo, iT9_lo, hT]) (by omega) (by omega), toV_v, Option.bind_some]
  rw [ptA_hp (ks := kd10) (by simp (disch := omega) only [tu_ne, tu_at, iT0_lo, iT1_lo, iT2_lo, iT3_lo, iT4_lo, iT6_lo, iT7_lo, iT8_lo, iT9_lo, hT]) (by rfl) (by omega) (by omega), Option.bind_some]
  rw [nwO_4 (by omega), Option.bind_some]
  dsimp only
  rw [i_4 (d := d + 1) (by simp (disch := omega) only [tu_ne, tu_at, iT0_lo, iT1_lo, iT2_lo, iT3_lo, iT4_lo, iT6_lo, iT7_lo, iT8_lo, iT9_lo, hT]) (by omega) (by omega), toV_v, Option.bind_some]
  rw [ptA_hp (ks := kd10) (by simp (disch := omega) only [tu_ne, tu_at, iT0_lo, iT1_lo, iT2_lo, iT3_lo, iT4_lo, iT6_lo, iT7_lo, iT8_lo, iT9_lo, hT]) (by rfl) (by omega) (by omega), Option.bind_some]
  rw [nwO_7 (by omega), Option.bind_some]
  dsimp only
  rw [i_7 (d := d + 1) (by simp (disch := omega) only [tu_ne, tu_at, iT0_lo, iT1_lo, iT2_lo, iT3_lo, iT4_lo, iT6_lo, iT7_lo, iT8_lo, iT9_lo, hT]) (by omega) (by omega), toV_v, Option.bind_some]
  rw [ptA_hp (ks := kd10) (by simp (disch := omega) only [tu_ne, tu_at, iT0_lo, iT1_lo, iT2_lo, iT3_lo, iT4_lo, iT6_lo, iT7_lo, iT8_lo, iT9_lo, hT]) (by rfl) (by omega) (by omega), Option.bind_some]
  rw [nwO_1 (by omega), Option.bind_some]
  dsimp only
  rw [i_1 (d := d + 1) (by simp (disch := omega) only [tu_ne, tu_at, iT0_lo, iT1_lo, iT2_lo, iT3_lo, iT4_lo, iT6_lo, iT7_lo, iT8_lo, iT9_lo, hT]) (by omega) (by omega), toV_v, Option.bind_some]
  rw [ptA_hp (ks := kd10) (by simp (disch := omega) only [tu_ne, tu_at, iT0_lo, iT1_lo, iT2_lo, iT3_lo, iT4_lo, iT6_lo, iT7_lo, iT8_lo, iT9_lo, hT]) (by rfl) (by omega) (by omega), Option.bind_some]
  rw [nwV_j (by decide) (by omega), Option.bind_some]
  dsimp only
  rw [ptA_hp (ks := kd10) (by simp (disch := omega) only [tu_ne, tu_at, iT0_lo, iT1_lo, iT2_lo, iT3_lo, iT4_lo, iT6_lo, iT7_lo, iT8_lo, iT9_lo, hT]) (by rfl) (by omega) (by omega), Option.bind_some]
  rw [nwV_b (by decide) (by omega), Option.bind_some]
  dsimp only
  rw [ptA_hp (ks := kd10) (by simp (disch := omega) only [tu_ne, tu_at, iT0_lo, iT1_lo, iT2_lo, iT3_lo, iT4_lo, iT6_lo, iT7_lo, iT8_lo, iT9_lo, hT]) (by rfl) (by omega) (by omega), Option.bind_some]
  rw [nwV_i (by decide) (by omega), Option.bind_some]
  dsimp only
  rw [ptA_hp (ks := kd10) (by simp (disch := omega) only [tu_ne, tu_at, iT0_lo, iT1_lo, iT2_lo, iT3_lo, iT4_lo, iT6_lo, iT7_lo, iT8_lo, iT9_lo, hT]) (by rfl) (by omega) (by omega), Option.bind_some]
  rw [nwR_hp (by decide) (by decide) (by omega), Option.bind_some]
  dsimp only
  rw [ptA_hp (ks := kd10) (by simp (disch := omega) only [tu_ne, tu_at, iT0_lo, iT1_lo, iT2_lo, iT3_lo, iT4_lo, iT6_lo, iT7_lo, iT8_lo, iT9_lo, hT]) (by rfl) (by omega) (by omega), Option.bind_some]
  rw [nwO_3 (by omega), Option.bind_some]
  dsimp only
  rw [i_3 (d := d + 1) (by simp (disch := omega) only [tu_ne, tu_at, iT0_lo, iT1_lo, iT2_lo, iT3_lo, iT4_lo, iT6_lo, iT7_lo, iT8_lo, iT9_lo, hT]) (by omega) (by omega), toV_v, Option.bind_some]
  rw [ptA_hp (ks := kd10) (by simp (disch := omega) only [tu_ne, tu_at, iT0_lo, iT1_lo, iT2_lo, iT3_lo, iT4_lo, iT6_lo, iT7_lo, iT8_lo, iT9_lo, hT]) (by rfl) (by omega) (by omega), Option.bind_some]
  rw [ptI_hp (ks := kd10) (by simp (disch := omega) only [tu_ne, tu_at, iT0_lo, iT1_lo, iT2_lo, iT3_lo, iT4_lo, iT6_lo, iT7_lo, iT8_lo, iT9_lo, hT]) (by rfl) (by omega) (by omega), Option.bind_some]
  rw [ptI_hp (ks := kd10) (by simp (disch := omega) only [tu_ne, tu_at, iT0_lo, iT1_lo, iT2_lo, iT3_lo, iT4_lo, iT6_lo, iT7_lo, iT8_lo, iT9_lo, hT]) (by rfl) (by omega) (by omega), Option.bind_some]
  rw [ptI_hp (ks := kd10) (by simp (disch := omega) only [tu_ne, tu_at, iT0_lo, iT1_lo, iT2_lo, iT3_lo, iT4_lo, iT6_lo, iT7_lo, iT8_lo, iT9_lo, hT]) (by rfl) (by omega) (by omega), Option.bind_some]
  rw [ptI_hp (ks := kd10) (by simp (disch := omega) only [tu_ne, tu_at, iT0_lo, iT1_lo, iT2_lo, iT3_lo, iT4_lo, iT6_lo, iT7_lo, iT8_lo, iT9_lo, hT]) (by rfl) (by omega) (by omega), Option.bind_some]
  rw [ptI_hp (ks := kd10) (by simp (disch := omega) only [tu_ne, tu_at, iT0_lo, iT1_lo, iT2_lo, iT3_lo, iT4_lo, iT6_lo, iT7_lo, iT8_lo, iT9_lo, hT]) (by rfl) (by omega) (by omega), Option.bind_some]
  rw [nwO_8 (by omega), Option.bind_some]
  dsimp only
  rw [i_8 (d := d + 1) (by simp (disch := omega) only [tu_ne, tu_at, iT0_lo, iT1_lo, iT2_lo, iT3_lo, iT4_lo, iT6_lo, iT7_lo, iT8_lo, iT9_lo, hT]) (by omega) (by omega), toV_v, Option.bind_some]
  rw [nwO_0 (by omega), Option.bind_some]
  dsimp only
  rw [i_0 (d := d + 1) (by simp (disch := omega) only [tu_ne, tu_at, iT0_lo, iT1_lo, iT2_lo, iT3_lo, iT4_lo, iT6_lo, iT7_lo, iT8_lo, iT9_lo, hT]) (by omega) (by omega), toV_v, Option.bind_some]
  rw [nwO_2 (by omega), Option.bind_some]
  dsimp only
  rw [i_2 (d := d + 1) (by simp (disch := omega) only [tu_ne, tu_at, iT0_lo, iT1_lo, iT2_lo, iT3_lo, iT4_lo, iT6_lo, iT7_lo, iT8_lo, iT9_lo, hT]) (by omega) (by omega), toV_v, Option.bind_some]
  rw [ptA_hp (ks := kd10) (by simp (disch := omega) only [tu_ne, tu_at, iT0_lo, iT1_lo, iT2_lo, iT3_lo, iT4_lo, iT6_lo, iT7_lo, iT8_lo, iT9_lo, hT]) (by rfl) (by omega) (by omega), Option.bind_some]
  rw [nwO_2 (by omega), Option.bind_some]
  dsimp only
  rw [i_2 (d := d + 1) (by simp (disch := omega) only [tu_ne, tu_at, iT0_lo, iT1_lo, iT2_lo, iT3_lo, iT4_lo, iT6_lo, iT7_lo, iT8_lo, iT9_lo, hT]) (by omega) (by omega), toV_v, Option.bind_some]
  rw [ptA_hp (ks := kd10) (by simp (disch := omega) only [tu_ne, tu_at, iT0_lo, iT1_lo, iT2_lo, iT3_lo, iT4_lo, iT6_lo, iT7_lo, iT8_lo, iT9_lo, hT]) (by rfl) (by omega) (by omega), Option.bind_some]
  rw [nwO_9 (by omega), Option.bind_some]
  dsimp only
  rw [i_9 (d := d) (by simp (disch := omega) only [tu_ne, tu_at, iT0_lo, iT1_lo, iT2_lo, iT3_lo, iT4_lo, iT6_lo, iT7_lo, iT8_lo, iT9_lo, hT]) (by omega) (by omega), toV_v, Option.bind_some]
  rw [ptA_hp (ks := kd10) (by simp (disch := omega) only [tu_ne, tu_at, iT0_lo, iT1_lo, iT2_lo, iT3_lo, iT4_lo, iT6_lo, iT7_lo, iT8_lo, iT9_lo, hT]) (by rfl) (by omega) (by omega), Option.bind_some]
  rw [show u + 10 + 1278 + 2 + 16 + 14 + 224 + 1 + 0 + 20 + 400 + 5 + 2 + 3 + 391 + 2 + 64 + 2 + 9 + 18 + 98 + 18 + 98 + 6 + 526 = u + 3207 by omega]
  rfl
def iT11 (T : Nat → mT) (n : Nat) : Nat → mT := va_up (va_up (va_up (va_up (va_up (va_up (va_up (va_up (va_up (va_up (va_up (va_up (va_up (va_up (va_up (va_up (va_up (va_up (va_up (va_up (va_up (va_up (va_up (va_up (va_up (va_up (va_up (va_up (T) (n) (0, [7])) (n + 1) (0, [5510])) (n + 2) (0, [11020])) (n + 3) (3, [2])) (n + 4) (0, [558])) (n + 5) (0, [16])) (n + 6) (0, [496])) (n + 7) (0, [16])) (n + 8) (0, [400])) (n + 9) (0, [96])) (n + 10) (0, [400])) (n + 11) (0, [400])) (n + 12) (0, [400])) (n + 13) (0, [400])) (n + 14) (1, [9])) (n + 15) (1, [6])) (n + 16) (1, [4])) (n + 17) (1, [13])) (n + 18) (1, [13])) (n + 19) (1, [400])) (n + 20) (0, [4])) (n + 21) (0, [8])) (n + 22) (0, [9216])) (n + 23) (3, [40])) (n + 24) (1, [21])) (n + 25) (1, [4])) (n + 26) (0, [96])) (n + 27) (0, [31])
def iI11 (I : Nat → Nat → Int32) (a n : Nat) : Nat → Nat → Int32 := up2 (up2 (up2 (up2 (up1 (up2 (up1 (up1 (up1 (up1 (up1 (up1 (up1 (up1 (up1 (up1 (up1 (up1 (up1 (up1 (up1 (up1 (up1 (up1 (up2 (up1 (up1 (up1 (up1 (up1 (up1 (up1 (up1 (up1 (I) (n) zI) (n + 1) zI) (n + 2) zI) (n + 3) zI) (n + 4) zI) (n + 5) zI) (n + 6) zI) (n + 7) zI) (n + 8) zI) a 18 (-1)) (n + 9) zI) (n + 10) zI) (n + 11) zI) (n + 12) zI) (n + 13) zI) (n + 14) zI) (n + 15) zI) (n + 16) zI) (n + 17) zI) (n + 18) zI) (n + 19) zI) (n + 20) zI) (n + 21) zI) (n + 22) zI) (n + 23) zI) (n + 24) zI) (n + 25) zI) (n + 26) zI) a 50 (-1)) (n + 27) zI) a 54 (-1)) a 55 (-1)) (n + 1) 5 (-1)) (n + 1) 7 (nI 2)
def iJ11 (J : Nat → Nat → Int64) (n : Nat) : Nat → Nat → Int64 := up1 (up1 (up2 (up2 (up2 (up2 (up1 (up1 (up1 (up1 (up1 (up1 (up1 (up1 (up1 (up2 (up2 (up2 (up2 (up1 (up2 (up2 (up2 (up2 (up2 (up2 (up1 (up2 (up2 (up2 (up2 (up2 (up2 (up2 (up2 (up2 (up1 (up1 (up1 (up1 (up1 (up1 (up1 (up1 (up1 (up1 (up1 (up1 (up1 (up1 (up1 (J) (n) zJ) (n + 1) zJ) (n + 2) zJ) (n + 3) zJ) (n + 4) zJ) (n + 5) zJ) (n + 6) zJ) (n + 7) zJ) (n + 8) zJ) (n + 9) zJ) (n + 10) zJ) (n + 11) zJ) (n + 12) zJ) (n + 13) zJ) (n + 14) zJ) (n + 14) 0 (136228)) (n + 14) 1 (202810777)) (n + 14) 2 (23123348)) (n + 14) 3 (661069)) (n + 14) 4 (13796819)) (n + 14) 5 (70803)) (n + 14) 6 (215205)) (n + 14) 7 (824370)) (n + 14) 8 (441828)) (n + 15) zJ) (n + 15) 0 (824370)) (n + 15) 1 (146885)) (n + 15) 2 (404362868)) (n + 15) 3 (317301893)) (n + 15) 4 (661069)) (n + 15) 5 (13796819)) (n + 16) zJ) (n + 16) 0 (556043443)) (n + 16) 1 (12635795)) (n + 16) 2 (5294547)) (n + 16) 3 (67155)) (n + 17) zJ) (n + 18) zJ) (n + 19) zJ) (n + 20) zJ) (n + 21) zJ) (n + 22) zJ) (n + 23) zJ) (n + 24) zJ) (n + 25) zJ) (n + 25) 0 (19052727)) (n + 25) 1 (13078757)) (n + 25) 2 (12008555)) (n + 25) 3 (525939)) (n + 26) zJ) (n + 27) zJ
def iR11 (R : Nat → Nat → Option Nat) (a n : Nat) : Nat → Nat → Option Nat := up2 (up1 (up2 (up1 (up2 (up1 (up2 (up1 (up2 (up1 (up2 (up1 (up2 (up1 (up2 (up1 (up2 (up1 (up2 (up1 (up2 (up1 (up2 (up1 (up2 (up1 (up2 (up1 (up2 (up1 (up2 (up1 (up2 (up1 (up2 (up1 (up2 (up1 (up2 (up1 (up2 (up1 (up2 (up1 (up2 (up1 (up2 (up1 (up2 (up1 (up2 (up1 (up2 (up1 (up2 (up1 (R) (n) zR) a 2 (some (n))) (n + 1) zR) a 3 (some (n + 1))) (n + 2) zR) a 4 (some (n + 2))) (n + 3) zR) a 5 (some (n + 3))) (n + 4) zR) a 6 (some (n + 4))) (n + 5) zR) a 7 (some (n + 5))) (n + 6) zR) a 9 (some (n + 6))) (n + 7) zR) a 10 (some (n + 7))) (n + 8) zR) a 12 (some (n + 8))) (n + 9) zR) a 22 (some (n + 9))) (n + 10) zR) a 24 (some (n + 10))) (n + 11) zR) a 25 (some (n + 11))) (n + 12) zR) a 27 (some (n + 12))) (n + 13) zR) a 28 (some (n + 13))) (n + 14) zR) a 31 (some (n + 14))) (n + 15) zR) a 32 (some (n + 15))) (n + 16) zR) a 33 (some (n + 16))) (n + 17) zR) a 35 (some (n + 17))) (n + 18) zR) a 36 (some (n + 18))) (n + 19) zR) a 37 (some (n + 19))) (n + 20) zR) a 41 (some (n + 20))) (n + 21) zR) a 42 (some (n + 21))) (n + 22) zR) a 43 (some (n + 22))) (n + 23) zR) a 44 (some (n + 23))) (n + 24) zR) a 45 (some (n + 24))) (n + 25) zR) a 46 (some (n + 25))) (n + 26) zR) a 47 (some (n + 26))) (n + 27) zR) a 53 (some (n + 27))
theorem iT11_lo {b : Nat} (h : b < n) : iT11 T n b = T b := by
  unfold iT11
  simp (disch := omega) only [tu_ne]
set_option maxRecDepth 8000 in
theorem i_11 (hT : T a = (100 + 11, kd11)) (ha : a < n) (hn : n + 28 ≤ oB) : ev O (d + 1) MX11_init [.ref a] (hp u n T I J R) = some (none, hp (u + 29586) (n + 28) (iT11 T n) (iI11 I a n) (iJ11 J n) (iR11 R a n)) := by
  refine e_X11_init (d := d + 0) ?_
  unfold F_X11_init
  rw [nwV_i (by decide) (by omega), Option.bind_some]
  dsimp only
  rw [ptA_hp (ks := kd11) (by simp (disch := omega) only [tu_ne, tu_at, hT]) (by rfl) (by omega) (by omega), Option.bind_some]
  rw [nwV_i (by decide) (by omega), Option.bind_some]
  dsimp only
  rw [ptA_hp (ks := kd11) (by simp (disch := omega) only [tu_ne, tu_at, hT]) (by rfl) (by omega) (by omega), Option.bind_some]
  rw [nwV_i (by decide) (by omega), Option.bind_some]
  dsimp only
  rw [ptA_hp (ks := kd11) (by simp (disch := omega) only [tu_ne, tu_at, hT]) (by rfl) (by omega) (by omega), Option.bind_some]
  rw [nwV_z (by decide) (by omega), Option.bind_some]
  dsimp only
  rw [ptA_hp (ks := kd11) (by simp (disch := omega) only [tu_ne, tu_at, hT]) (by rfl) (by omega) (by omega), Option.bind_some]
  rw [nwV_i (by decide) (by omega), Option.bind_some]
  dsimp only
  rw [ptA_hp (ks := kd11) (by simp (disch := omega) only [tu_ne, tu_at, hT]) (by rfl) (by omega) (by omega), Option.bind_some]
  rw [nwV_i (by decide) (by omega), Option.bind_some]
  dsimp only
  rw [ptA_hp (ks := kd11) (by simp (disch := omega) only [tu_ne, tu_at, hT]) (by rfl) (by omega) (by omega), Option.bind_some]
  rw [nwV_i (by decide) (by omega), Option.bind_some]
  dsimp only
  rw [ptA_hp (ks := kd11) (by simp (disch := omega) only [tu_ne, tu_at, hT]) (by rfl) (by omega) (by omega), Option.bind_some]
  rw [nwV_i (by decide) (by omega), Option.bind_some]
  dsimp only
  rw [ptA_hp (ks := kd11) (by simp (disch := omega) only [tu_ne, tu_at, hT]) (by rfl) (by omega) (by omega), Option.bind_some]
  rw [nwV_i (by decide) (by omega), Option.bind_some]
  dsimp only
  rw [ptA_hp (ks := kd11) (by simp (disch := omega) only [tu_ne, tu_at, hT]) (by rfl) (by omega) (by omega), Option.bind_some]
  rw [ptI_hp (ks := kd11) (by simp (disch := omega) only [tu_ne, tu_at, hT]) (by rfl) (by omega) (by omega), Option.bind_some]
  rw [nwV_i (by decide) (by omega), Option.bind_some]
  dsimp only
  rw [ptA_hp (ks := kd11) (by simp (disch := omega) only [tu_ne, tu_at, hT]) (by rfl) (by omega) (by omega), Option.bind_some]
  rw [nwV_i (by decide) (by omega), Option.bind_some]
  dsimp only
  rw [ptA_hp (ks := kd11) (by simp (disch := omega) only [tu_ne, tu_at, hT]) (by rfl) (by omega) (by omega), Option.bind_some]
  rw [nwV_i (by decide) (by omega), Option.bind_some]
  dsimp only
  rw [ptA_hp (ks := kd11) (by simp (disch := omega) only [tu_ne, tu_at, hT]) (by rfl) (by omega) (by omega), Option.bind_some]
  rw [nwV_i (by decide) (by omega), Option.bind_some]
  dsimp only
  rw [ptA_hp (ks := kd11) (by simp (disch := omega) only [tu_ne, tu_at, hT]) (by rfl) (by omega) (by omega), Option.bind_some]
  rw [nwV_i (by decide) (by omega), Option.bind_some]
  dsimp only
  rw [ptA_hp (ks := kd11) (by simp (disch := omega) only [tu_ne, tu_at, hT]) (by rfl) (by omega) (by omega), Option.bind_some]
  rw [nwV_j (by decide) (by omega), Option.bind_some]
  dsimp only
  rw [wrJ_hp (L := 9) (by simp (disch := omega) only [tu_ne, tu_at, hT]) (by omega) (by omega) (by decide) (by decide), Option.bind_some]
  rw [wrJ_hp (L := 9) (by simp (disch := omega) only [tu_ne, tu_at, hT]) (by omega) (by omega) (by decide) (by decide), Option.bind_some]
  rw [wrJ_hp (L := 9) (by simp (disch := omega) only [tu_ne, tu_at, hT]) (by omega) (by omega) (by decide) (by decide), Option.bind_some]
  rw [wrJ_hp (L := 9) (by simp (disch := omega) only [tu_ne, tu_at, hT]) (by omega) (by omega) (by decide) (by decide), Option.bind_some]
  rw [wrJ_hp (L := 9) (by simp (disch := omega) only [tu_ne, tu_at, hT]) (by omega) (by omega) (by decide) (by decide), Option.bind_some]
  rw [wrJ_hp (L := 9) (by simp (disch := omega) only [tu_ne, tu_at, hT]) (by omega) (by omega) (by decide) (by decide), Option.bind_some]
  rw [wrJ_hp (L := 9) (by simp (disch := omega) only [tu_ne, tu_at, hT]) (by omega) (by omega) (by decide) (by decide), Option.bind_some]
  rw [wrJ_hp (L := 9) (by simp (disch := omega) only [tu_ne, tu_at, hT]) (by omega) (by omega) (by decide) (by decide), Option.bind_some]
  rw [wrJ_hp (L := 9) (by simp (disch := omega) only [tu_ne, tu_at, hT]) (by omega) (by omega) (by decide) (by decide), Option.bind_some]
  rw [ptA_hp (ks := kd11) (by simp (disch := omega) only [tu_ne, tu_at, hT]) (by rfl) (by omega) (by omega), Option.bind_some]
  rw [nwV_j (by decide) (by omega), Option.bind_some]
  dsimp only
  rw [wrJ_hp (L := 6) (by simp (disch := omega) only [tu_ne, tu_at, hT]) (by omega) (by omega) (by decide) (by decide), Option.bind_some]
  rw [wrJ_hp (L := 6) (by simp (disch := omega) only [tu_ne, tu_at, hT]) (by omega) (by omega) (by decide) (by decide), Option.bind_some]
  rw [wrJ_hp (L := 6) (by simp (disch := omega) only [tu_ne, tu_at, hT]) (by omega) (by omega) (by decide) (by decide), Option.bind_some]
  rw [wrJ_hp (L := 6) (by simp (disch := omega) only [tu_ne, tu_at, hT]) (by omega) (by omega) (by decide) (by decide), Option.bind_some]
  rw [wrJ_hp (L := 6) (by simp (disch := omega) only [tu_ne, tu_at, hT]) (by omega) (by omega) (by decide) (by decide), Option.bind_some]
  rw [wrJ_hp (L := 6) (by simp (disch := omega) only [tu_ne, tu_at, hT]) (by omega) (by omega) (by decide) (by decide), Option.bind_some]
  rw [ptA_hp (ks := kd11) (by simp (disch := omega) only [tu_ne, tu_at, hT]) (by rfl) (by omega) (by omega), Option.bind_some]
  rw [nwV_j (by decide) (by omega), Option.bind_some]
  dsimp only
  rw [wrJ_hp (L := 4) (by simp (disch := omega) only [tu_ne, tu_at, hT]) (by omega) (by omega) (by decide) (by decide), Option.bind_some]
  rw [wrJ_hp (L := 4) (by simp (disch := omega) only [tu_ne, tu_at, hT]) (by omega) (by omega) (by decide) (by decide), Option.bind_some]
  rw [wrJ_hp (L := 4) (by simp (disch := omega) only [tu_ne, tu_at, hT]) (by omega) (by omega) (by decide) (by decide), Option.bind_some]
  rw [wrJ_hp (L := 4) (by simp (disch := omega) only [tu_ne, tu_at, hT]) (by omega) (by omega) (by decide) (by decide), Option.bind_some]
  rw [ptA_hp (ks := kd11) (by simp (disch := omega) only [tu_ne, tu_at, hT]) (by rfl) (by omega) (by omega), Option.bind_some]
  rw [nwV_j (by decide) (by omega), Option.bind_some]
  dsimp only
  rw [ptA_hp (ks := kd11) (by simp (disch := omega) only [tu_ne, tu_at, hT]) (by rfl) (by omega) (by omega), Option.bind_some]
  rw [nwV_j (by decide) (by omega), Option.bind_some]
  dsimp only
  rw [ptA_hp (ks := kd11) (by simp (disch := omega) only [tu_ne, tu_at, hT]) (by rfl) (by omega) (by omega), Option.bind_some]
  rw [nwV_j (by decide) (by omega), Option.bind_some]
  dsimp only
  rw [ptA_hp (ks := kd11) (by simp (disch := omega) only [tu_ne, tu_at, hT]) (by rfl) (by omega) (by omega), Option.bind_some]
  rw [nwV_i (by decide) (by omega), Option.bind_some]
  dsimp only
  rw [ptA_hp (ks := kd11) (by simp (disch := omega) only [tu_ne, tu_at, hT]) (by rfl) (by omega) (by omega), Option.bind_some]
  rw [nwV_i (by decide) (by omega), Option.bind_some]
  dsimp only
  rw [ptA_hp (ks := kd11) (by simp (disch := omega) only [tu_ne, tu_at, hT]) (by rfl) (by omega) (by omega), Option.bind_some]
  rw [nwV_i (by decide) (by omega), Option.bind_some]
  dsimp only
  rw [ptA_hp (ks := kd11) (by simp (disch := omega) only [tu_ne, tu_at, hT]) (by rfl) (by omega) (by omega), Option.bind_some]
  rw [nwV_z (by decide) (by omega), Option.bind_some]
  dsimp only
  rw [ptA_hp (ks := kd11) (by simp (disch := omega) only [tu_ne, tu_at, hT]) (by rfl) (by omega) (by omega), Option.bind_some]
  rw [nwV_j (by decide) (by omega), Option.bind_some]
  dsimp only
  rw [ptA_hp (ks := kd11) (by simp (disch := omega) only [tu_ne, tu_at, hT]) (by rfl) (by omega) (by omega), Option.bind_some]
  rw [nwV_j (by decide) (by omega), Option.bind_some]
  dsimp only
  rw [wrJ_hp (L := 4) (by simp (disch := omega) only [tu_ne, tu_at, hT]) (by omega) (by omega) (by decide) (by decide), Option.bind_some]
  rw [wrJ_hp (L := 4) (by simp (disch := omega) only [tu_ne, tu_at, hT]) (by omega) (by omega) (by decide) (by decide), Option.bind_some]
  rw [wrJ_hp (L := 4) (by simp (disch := omega) only [tu_ne, tu_at, hT]) (by omega) (by omega) (by decide) (by decide), Option.bind_some]
  rw [wrJ_hp (L := 4) (by simp (disch := omega) only [tu_ne, tu_at, hT]) (by omega) (by omega) (by decide) (by decide), Option.bind_some]
  rw [ptA_hp (ks := kd11) (by simp (disch := omega) only [tu_ne, tu_at, hT]) (by rfl) (by omega) (by omega), Option.bind_some]
  rw [nwV_i (by decide) (by omega), Option.bind_some]
  dsimp only
  rw [ptA_hp (ks := kd11) (by simp (disch := omega) only [tu_ne, tu_at, hT]) (by rfl) (by omega) (by omega), Option.bind_some]
  rw [ptI_hp (ks := kd11) (by simp (disch := omega) only [tu_ne, tu_at, hT]) (by rfl) (by omega) (by omega), Option.bind_some]
  rw [nwV_i (by decide) (by omega), Option.bind_some]
  dsimp only
  rw [ptA_hp (ks := kd11) (by simp (disch := omega) only [tu_ne, tu_at, hT]) (by rfl) (by omega) (by omega), Option.bind_some]
  rw [ptI_hp (ks := kd11) (by simp (disch := omega) only [tu_ne, tu_at, hT]) (by rfl) (by omega) (by omega), Option.bind_some]
  rw [ptI_hp (ks := kd11) (by simp (disch := omega) only [tu_ne, tu_at, hT]) (by rfl) (by omega) (by omega), Option.bind_some]
  rw [gtA_hp (b := n + 1) (ks := kd11) (by simp (disch := omega) only [tu_ne, tu_at, hT]) (by rfl) (by omega) (by omega) (by simp (disch := omega) only [up2_at, up2_na, up2_nk, up2_off, up1_ne]), Option.bind_some]
  rw [wrI_hp (L := 5510) (by simp (disch := omega) only [tu_ne, tu_at, hT]) (by omega) (by omega) (by decide) (by decide), Option.bind_some]
  rw [gtA_hp (b := n + 1) (ks := kd11) (by simp (disch := omega) only [tu_ne, tu_at, hT]) (by rfl) (by omega) (by omega) (by simp (disch := omega) only [up2_at, up2_na, up2_nk, up2_off, up1_ne]), Option.bind_some]
  rw [wrI_hp (L := 5510) (by simp (disch := omega) only [tu_ne, tu_at, hT]) (by omega) (by omega) (by decide) (by decide), Option.bind_some]
  rw [show u + 7 + 5510 + 11020 + 2 + 558 + 16 + 496 + 16 + 400 + 96 + 400 + 400 + 400 + 400 + 9 + 6 + 4 + 13 + 13 + 400 + 4 + 8 + 9216 + 40 + 21 + 4 + 96 + 31 = u + 29586 by omega]
  rfl
end INI
