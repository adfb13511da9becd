/-! reading and writing of the cells that are always there, by gen60.py -/
section HPO
variable {O : mO} {u n : Nat} {T : Nat → mT} {I : Nat → Nat → Int32} {J : Nat → Nat → Int64} {R : Nat → Nat → Option Nat} {a L j ci sl : Nat} {ks : List Nat}
theorem rdI_hp (hT : T a = (0, [L])) (ha : a < n) (hn : n ≤ oB) (hL : L < 2 ^ 31) (hj : j < L) : rdI O (hp u n T I J R) a (nI j) = some (I a j) := by
  unfold rdI
  rw [mAr_hp (x := (0, L, .inl (I a))) ha hn (by rw [hT]; rfl)]
  show (if mIdx (nI j) L = true then _ else none) = _
  rw [if_pos (mIdx_nI rfl hj hL).1, (mIdx_nI rfl hj hL).2]
theorem rdB_hp (hT : T a = (2, [L])) (ha : a < n) (hn : n ≤ oB) (hL : L < 2 ^ 31) (hj : j < L) : rdB O (hp u n T I J R) a (nI j) = some (I a j) := by
  unfold rdB
  rw [mAr_hp (x := (2, L, .inl (I a))) ha hn (by rw [hT]; rfl)]
  show (if mIdx (nI j) L = true then _ else none) = _
  rw [if_pos (mIdx_nI rfl hj hL).1, (mIdx_nI rfl hj hL).2]
theorem rdZ_hp (hT : T a = (3, [L])) (ha : a < n) (hn : n ≤ oB) (hL : L < 2 ^ 31) (hj : j < L) : rdB O (hp u n T I J R) a (nI j) = some (I a j) := by
  unfold rdB
  rw [mAr_hp (x := (3, L, .inl (I a))) ha hn (by rw [hT]; rfl)]
  show (if mIdx (nI j) L = true then _ else none) = _
  rw [if_pos (mIdx_nI rfl hj hL).1, (mIdx_nI rfl hj hL).2]
theorem rdJ_hp (hT : T a = (1, [L])) (ha : a < n) (hn : n ≤ oB) (hL : L < 2 ^ 31) (hj : j < L) : rdJ O (hp u n T I J R) a (nI j) = some (J a j) := by
  unfold rdJ
  rw [mAr_hp (x := (1, L, .inr (.inl (J a)))) ha hn (by rw [hT]; rfl)]
  show (if mIdx (nI j) L = true then _ else none) = _
  rw [if_pos (mIdx_nI rfl hj hL).1, (mIdx_nI rfl hj hL).2]
theorem rdR_hp {t : Nat} (ht : t = 4 ∨ t = 5) (hT : T a = (t, [L])) (ha : a < n) (hn : n ≤ oB) (hL : L < 2 ^ 31) (hj : j < L) : rdR O (hp u n T I J R) a (nI j) = some (R a j) := by
  unfold rdR
  rw [mAr_hp (x := (t, L, .inr (.inr (.inr (.inr (R a)))))) ha hn (by rw [hT]; rcases ht with rfl | rfl <;> rfl)]
  show (if (t = 4 ∨ t = 5) ∧ mIdx (nI j) L = true then _ else none) = _
  rw [if_pos ⟨ht, (mIdx_nI rfl hj hL).1⟩, (mIdx_nI rfl hj hL).2]
theorem lnA_hp {t : Nat} (ht : t < 4) (hT : T a = (t, [L])) (ha : a < n) (hn : n ≤ oB) : lnA O (hp u n T I J R) a = some (nI L) := by
  unfold lnA
  match t, ht, hT with
  | 0, _, hT => rw [mAr_hp (x := (0, L, .inl (I a))) ha hn (by rw [hT]; rfl)]; rfl
  | 1, _, hT => rw [mAr_hp (x := (1, L, .inr (.inl (J a)))) ha hn (by rw [hT]; rfl)]; rfl
  | 2, _, hT => rw [mAr_hp (x := (2, L, .inl (I a))) ha hn (by rw [hT]; rfl)]; rfl
  | 3, _, hT => rw [mAr_hp (x := (3, L, .inl (I a))) ha hn (by rw [hT]; rfl)]; rfl
theorem wrI_hp {v : Int32} (hT : T a = (0, [L])) (ha : a < n) (hn : n ≤ oB) (hL : L < 2 ^ 31) (hj : j < L) : wrI (hp u n T I J R) a (nI j) v = some (hp u n T (up2 I a j v) J R) := by
  unfold wrI
  rw [hp_get ha, hT, show cel (0, [L]) (I a) (J a) (R a) = .inl (0, L, .inl (I a)) from rfl]
  show (if a < oB ∧ mIdx (nI j) L = true then some (mpt _ a (.inl (0, L, .inl (upd (I a) (nI j).toNatClampNeg v)))) else none) = _
  rw [if_pos ⟨Nat.lt_of_lt_of_le ha hn, (mIdx_nI rfl hj hL).1⟩, (mIdx_nI rfl hj hL).2, hp_up (I' := up2 I a j v) (J' := J) (R' := R) (by rw [hT, up2_row]; rfl) (fun b hb => ⟨up2_off I j v hb, rfl, rfl⟩)]
theorem wrB_hp {v : Int32} (hT : T a = (2, [L])) (ha : a < n) (hn : n ≤ oB) (hL : L < 2 ^ 31) (hj : j < L) : wrB (hp u n T I J R) a (nI j) v = some (hp u n T (up2 I a j (vp_nar .byte v)) J R) := by
  unfold wrB
  rw [hp_get ha, hT, show cel (2, [L]) (I a) (J a) (R a) = .inl (2, L, .inl (I a)) from rfl]
  show (if a < oB ∧ mIdx (nI j) L = true then some (mpt _ a (.inl (2, L, .inl (upd (I a) (nI j).toNatClampNeg (vp_nar .byte v))))) else none) = _
  rw [if_pos ⟨Nat.lt_of_lt_of_le ha hn, (mIdx_nI rfl hj hL).1⟩, (mIdx_nI rfl hj hL).2, hp_up (I' := up2 I a j (vp_nar .byte v)) (J' := J) (R' := R) (by rw [hT, up2_row]; rfl) (fun b hb => ⟨up2_off I j _ hb, rfl, rfl⟩)]
theorem wrZ_hp {v : Int32} (hT : T a = (3, [L])) (ha : a < n) (hn : n ≤ oB) (hL : L < 2 ^ 31) (hj : j < L) : wrB (hp u n T I J R) a (nI j) v = some (hp u n T (up2 I a j (vp_nar .boolean v)) J R) := by
  unfold wrB
  rw [hp_get ha, hT, show cel (3, [L]) (I a) (J a) (R a) = .inl (3, L, .inl (I a)) from rfl]
  show (if a < oB ∧ mIdx (nI j) L = true then some (mpt _ a (.inl (3, L, .inl (upd (I a) (nI j).toNatClampNeg (vp_nar .boolean v))))) else none) = _
  rw [if_pos ⟨Nat.lt_of_lt_of_le ha hn, (mIdx_nI rfl hj hL).1⟩, (mIdx_nI rfl hj hL).2, hp_up (I' := up2 I a j (vp_nar .boolean v)) (J' := J) (R' := R) (by rw [hT, up2_row]; rfl) (fun b hb => ⟨up2_off I j _ hb, rfl, rfl⟩)]
theorem wrJ_hp {v : Int64} (hT : T a = (1, [L])) (ha : a < n) (hn : n ≤ oB) (hL : L < 2 ^ 31) (hj : j < L) : wrJ (hp u n T I J R) a (nI j) v = some (hp u n T I (up2 J a j v) R) := by
  unfold wrJ
  rw [hp_get ha, hT, show cel (1, [L]) (I a) (J a) (R a) = .inl (1, L, .inr (.inl (J a))) from rfl]
  show (if a < oB ∧ mIdx (nI j) L = true then some (mpt _ a (.inl (1, L, .inr (.inl (vp_updL (J a) (nI j).toNatClampNeg v))))) else none) = _
  rw [if_pos ⟨Nat.lt_of_lt_of_le ha hn, (mIdx_nI rfl hj hL).1⟩, (mIdx_nI rfl hj hL).2, hp_up (I' := I) (J' := up2 J a j v) (R' := R) (by rw [hT, up2_row]; rfl) (fun b hb => ⟨rfl, up2_off J j v hb, rfl⟩)]
theorem gtI_hp (hT : T a = (100 + ci, ks)) (hk : ks[sl]? = some 0) (ha : a < n) (hn : n ≤ oB) : gtI (hp u n T I J R) a ci sl = some (I a sl) := by
  unfold gtI
  rw [hp_get ha, hT, cel_o]
  dsimp only
  rw [List.getElem?_mapIdx, hk]
  exact if_pos ⟨Nat.lt_of_lt_of_le ha hn, rfl⟩
theorem gtJ_hp (hT : T a = (100 + ci, ks)) (hk : ks[sl]? = some 1) (ha : a < n) (hn : n ≤ oB) : gtJ (hp u n T I J R) a ci sl = some (J a sl) := by
  unfold gtJ
  rw [hp_get ha, hT, cel_o]
  dsimp only
  rw [List.getElem?_mapIdx, hk]
  exact if_pos ⟨Nat.lt_of_lt_of_le ha hn, rfl⟩
theorem gtA_hp {b : Nat} (hT : T a = (100 + ci, ks)) (hk : ks[sl]? = some 2) (ha : a < n) (hn : n ≤ oB) (hr : R a sl = some b) : gtA (hp u n T I J R) a ci sl = some b := by
  unfold gtA
  rw [hp_get ha, hT, cel_o]
  dsimp only
  rw [List.getElem?_mapIdx, hk, Option.map_some, show celV sl 2 (I a) (J a) (R a) = va_rf (R a sl) from rfl, hr]
  exact if_pos ⟨Nat.lt_of_lt_of_le ha hn, rfl⟩
theorem ptI_hp {v : Int32} (hT : T a = (100 + ci, ks)) (hk : ks[sl]? = some 0) (ha : a < n) (hn : n ≤ oB) : ptI (hp u n T I J R) a ci sl v = some (hp u n T (up2 I a sl v) J R) := by
  unfold ptI ptV
  rw [hp_get ha, hT, cel_o]
  dsimp only
  rw [if_pos ⟨Nat.lt_of_lt_of_le ha hn, rfl, by rw [List.length_mapIdx]; exact (List.getElem?_eq_some_iff.mp hk).1⟩, celV_setI v hk, hp_up (I' := up2 I a sl v) (J' := J) (R' := R) (by rw [hT, cel_o, up2_row]) (fun b hb => ⟨up2_off I sl v hb, rfl, rfl⟩)]
theorem ptJ_hp {v : Int64} (hT : T a = (100 + ci, ks)) (hk : ks[sl]? = some 1) (ha : a < n) (hn : n ≤ oB) : ptJ (hp u n T I J R) a ci sl v = some (hp u n T I (up2 J a sl v) R) := by
  unfold ptJ ptV
  rw [hp_get ha, hT, cel_o]
  dsimp only
  rw [if_pos ⟨Nat.lt_of_lt_of_le ha hn, rfl, by rw [List.length_mapIdx]; exact (List.getElem?_eq_some_iff.mp hk).1⟩, celV_setJ v hk, hp_up (I' := I) (J' := up2 J a sl v) (R' := R) (by rw [hT, cel_o, up2_row]) (fun b hb => ⟨rfl, up2_off J sl v hb, rfl⟩)]
theorem ptA_hp {v : Nat} (hT : T a = (100 + ci, ks)) (hk : ks[sl]? = some 2) (ha : a < n) (hn : n ≤ oB) : ptA (hp u n T I J R) a ci sl v = some (hp u n T I J (up2 R a sl (some v))) := by
  unfold ptA ptV
  rw [hp_get ha, hT, cel_o]
  dsimp only
  rw [if_pos ⟨Nat.lt_of_lt_of_le ha hn, rfl, by rw [List.length_mapIdx]; exact (List.getElem?_eq_some_iff.mp hk).1⟩, show Value.ref v = va_rf (some v) from rfl, celV_setR (some v) hk, hp_up (I' := I) (J' := J) (R' := up2 R a sl (some v)) (by rw [hT, cel_o, up2_row]) (fun b hb => ⟨rfl, rfl, up2_off R sl _ hb⟩)]
theorem vc_hp {d : Nat} {M : mM} {as : List Value} (hT : T a = (100 + ci, ks)) (ha : a < n) (hn : n ≤ oB) : vc O d ci M a as (hp u n T I J R) = ev O d M (.ref a :: as) (hp u n T I J R) := by
  unfold vc isO
  rw [hp_get ha, hT, cel_o]
  exact if_pos (decide_eq_true ⟨Nat.lt_of_lt_of_le ha hn, rfl⟩)
theorem cpA_hp {b L2 sp dp m : Nat} (hT : T a = (0, [L])) (hT2 : T b = (0, [L2])) (ha : a < n) (hb : b < n) (hn : n ≤ oB) (hL : L < 2 ^ 31) (hL2 : L2 < 2 ^ 31) (h1 : sp + m ≤ L2) (h2 : dp + m ≤ L) : cpA (hp u n T I J R) b (nI sp) a (nI dp) (nI m) = some (hp u n T (cpI I a b sp dp m) J R) := by
  unfold cpA
  rw [hp_get ha, hp_get hb, hT, hT2, show cel (0, [L]) (I a) (J a) (R a) = .inl (0, L, .inl (I a)) from rfl, show cel (0, [L2]) (I b) (J b) (R b) = .inl (0, L2, .inl (I b)) from rfl]
  show (if a < oB ∧ b < oB ∧ ¬ nI sp < 0 ∧ ¬ nI dp < 0 ∧ ¬ nI m < 0 ∧ (nI sp).toNatClampNeg + (nI m).toNatClampNeg ≤ L2 ∧ (nI dp).toNatClampNeg + (nI m).toNatClampNeg ≤ L then some (mpt _ a (.inl (0, L, .inl (va_cpy (I b) (I a) (nI sp).toNatClampNeg (nI dp).toNatClampNeg (nI m).toNatClampNeg)))) else none) = _
  rw [nI_clamp (by omega), nI_clamp (by omega), nI_clamp (by omega), if_pos ⟨Nat.lt_of_lt_of_le ha hn, Nat.lt_of_lt_of_le hb hn, nI_pos (by omega), nI_pos (by omega), nI_pos (by omega), h1, h2⟩, hp_up (I' := cpI I a b sp dp m) (J' := J) (R' := R) (by rw [hT]; unfold cpI up1; rw [if_pos rfl]; rfl) (fun c hc => ⟨by unfold cpI up1; rw [if_neg hc], rfl, rfl⟩)]
theorem toI_i {v : Int32} {K : mH} : toI (some (some (.int v), K)) = some (v, K) := rfl
theorem toJ_j {v : Int64} {K : mH} : toJ (some (some (.long v), K)) = some (v, K) := rfl
theorem toV_v {K : mH} : toV (some (none, K)) = some K := rfl
theorem toR_r {x : Option Nat} {K : mH} : toR (some (some (va_rf x), K)) = some (x, K) := by cases x <;> rfl
theorem zz_b (b : Bool) : zz (bI b) = some (bI b) := by cases b <;> decide
theorem nI_sub {a b : Nat} (h : b ≤ a) : nI a - nI b = nI (a - b) := by
  have e : nI a = nI (a - b) + nI b := by rw [nI_add, Nat.sub_add_cancel h]
  rw [e, Int32.add_sub_cancel]
theorem nI_m1 {a : Nat} (h : 0 < a) : nI a + (-1) = nI (a - 1) := by
  rw [show (-1 : Int32) = - nI 1 from by decide, ← Int32.sub_eq_add_neg, nI_sub h]
theorem bI_eq0 (b : Bool) : (bI b = 0) = (b = false) := by cases b <;> simp [bI] <;> decide
end HPO
def RfL : List (Nat × Nat × Nat) := [(0, 0, 1), (0, 1, 7), (0, 2, 10), (0, 3, 21), (0, 4, 22), (0, 5, 23), (0, 6, 24), (0, 7, 25), (0, 8, 54), (0, 9, 43), (1, 0, 2), (1, 1, 5), (1, 2, 6), (2, 0, 3), (2, 1, 4), (7, 0, 8), (7, 1, 9), (10, 0, 11), (10, 1, 12), (10, 2, 13), (10, 3, 14), (10, 4, 15), (10, 5, 16), (10, 6, 17), (10, 7, 18), (10, 8, 19), (10, 9, 20), (26, 0, 27), (28, 0, 29), (30, 0, 28), (30, 1, 31), (32, 0, 30), (32, 1, 33), (32, 2, 34), (32, 3, 35), (32, 4, 36), (32, 5, 37), (32, 6, 38), (32, 7, 39), (32, 8, 40), (32, 9, 41), (32, 10, 42), (43, 0, 30), (43, 1, 44), (43, 2, 45), (43, 3, 46), (43, 4, 47), (43, 5, 48), (43, 6, 49), (43, 7, 50), (43, 8, 51), (43, 9, 52), (43, 10, 53), (54, 0, 28), (54, 1, 55), (56, 0, 57), (58, 0, 30), (58, 1, 59), (58, 2, 60), (58, 3, 61), (58, 4, 62), (58, 5, 63), (58, 6, 64), (58, 7, 65), (58, 8, 66), (58, 9, 67), (58, 10, 68), (69, 2, 70), (69, 3, 71), (69, 4, 72), (69, 5, 73), (69, 6, 74), (69, 7, 75), (69, 9, 76), (69, 10, 77), (69, 12, 78), (69, 22, 79), (69, 24, 80), (69, 25, 81), (69, 27, 82), (69, 28, 83), (69, 31, 84), (69, 32, 85), (69, 33, 86), (69, 35, 87), (69, 36, 88), (69, 37, 89), (69, 41, 90), (69, 42, 91), (69, 43, 92), (69, 44, 93), (69, 45, 94), (69, 46, 95), (69, 47, 96), (69, 53, 97)]
/-- what always stands: the cells, and which references lead where -/
def St (n : Nat) (T : Nat → mT) (R : Nat → Nat → Option Nat) : Prop := IsT n T ∧ n ≤ oB ∧ ∀ p ∈ RfL, R p.1 p.2.1 = some p.2.2
section CEL
variable {O : mO} {d u n : Nat} {T : Nat → mT} {I : Nat → Nat → Int32} {J : Nat → Nat → Int64} {R : Nat → Nat → Option Nat} {j : Nat} {v : Int32} {y : Int64} {M : mM} {as : List Value}
theorem St.lt (hS : St n T R) {a : Nat} (h : a < 98) : a < n := Nat.lt_of_lt_of_le h hS.1.1
theorem vc_0 (hS : St n T R) : vc O d 10 M 0 as (hp u n T I J R) = ev O d M (.ref 0 :: as) (hp u n T I J R) := vc_hp (show T 0 = (100 + 10, kd10) from hS.1.2 0 (by decide)) (hS.lt (by decide)) hS.2.1
theorem ga_0_0 (hS : St n T R) : gtA (hp u n T I J R) 0 10 0 = some 1 := gtA_hp (show T 0 = (100 + 10, kd10) from hS.1.2 0 (by decide)) rfl (hS.lt (by decide)) hS.2.1 (hS.2.2 (0, 0, 1) (by decide))
theorem ga_0_1 (hS : St n T R) : gtA (hp u n T I J R) 0 10 1 = some 7 := gtA_hp (show T 0 = (100 + 10, kd10) from hS.1.2 0 (by decide)) rfl (hS.lt (by decide)) hS.2.1 (hS.2.2 (0, 1, 7) (by decide))
theorem ga_0_2 (hS : St n T R) : gtA (hp u n T I J R) 0 10 2 = some 10 := gtA_hp (show T 0 = (100 + 10, kd10) from hS.1.2 0 (by decide)) rfl (hS.lt (by decide)) hS.2.1 (hS.2.2 (0, 2, 10) (by decide))
theorem ga_0_3 (hS : St n T R) : gtA (hp u n T I J R) 0 10 3 = some 21 := gtA_hp (show T 0 = (100 + 10, kd10) from hS.1.2 0 (by decide)) rfl (hS.lt (by decide)) hS.2.1 (hS.2.2 (0, 3, 21) (by decide))
theorem ga_0_4 (hS : St n T R) : gtA (hp u n T I J R) 0 10 4 = some 22 := gtA_hp (show T 0 = (100 + 10, kd10) from hS.1.2 0 (by decide)) rfl (hS.lt (by decide)) hS.2.1 (hS.2.2 (0, 4, 22) (by decide))
theorem ga_0_5 (hS : St n T R) : gtA (hp u n T I J R) 0 10 5 = some 23 := gtA_hp (show T 0 = (100 + 10, kd10) from hS.1.2 0 (by decide)) rfl (hS.lt (by decide)) hS.2.1 (hS.2.2 (0, 5, 23) (by decide))
theorem ga_0_6 (hS : St n T R) : gtA (hp u n T I J R) 0 10 6 = some 24 := gtA_hp (show T 0 = (100 + 10, kd10) from hS.1.2 0 (by decide)) rfl (hS.lt (by decide)) hS.2.1 (hS.2.2 (0, 6, 24) (by decide))
theorem ga_0_7 (hS : St n T R) : gtA (hp u n T I J R) 0 10 7 = some 25 := gtA_hp (show T 0 = (100 + 10, kd10) from hS.1.2 0 (by decide)) rfl (hS.lt (by decide)) hS.2.1 (hS.2.2 (0, 7, 25) (by decide))
theorem ga_0_8 (hS : St n T R) : gtA (hp u n T I J R) 0 10 8 = some 54 := gtA_hp (show T 0 = (100 + 10, kd10) from hS.1.2 0 (by decide)) rfl (hS.lt (by decide)) hS.2.1 (hS.2.2 (0, 8, 54) (by decide))
theorem ga_0_9 (hS : St n T R) : gtA (hp u n T I J R) 0 10 9 = some 43 := gtA_hp (show T 0 = (100 + 10, kd10) from hS.1.2 0 (by decide)) rfl (hS.lt (by decide)) hS.2.1 (hS.2.2 (0, 9, 43) (by decide))
theorem gi_0_12 (hS : St n T R) : gtI (hp u n T I J R) 0 10 12 = some (I 0 12) := gtI_hp (show T 0 = (100 + 10, kd10) from hS.1.2 0 (by decide)) rfl (hS.lt (by decide)) hS.2.1
theorem pi_0_12 (hS : St n T R) : ptI (hp u n T I J R) 0 10 12 v = some (hp u n T (up2 I 0 12 v) J R) := ptI_hp (show T 0 = (100 + 10, kd10) from hS.1.2 0 (by decide)) rfl (hS.lt (by decide)) hS.2.1
theorem gi_0_13 (hS : St n T R) : gtI (hp u n T I J R) 0 10 13 = some (I 0 13) := gtI_hp (show T 0 = (100 + 10, kd10) from hS.1.2 0 (by decide)) rfl (hS.lt (by decide)) hS.2.1
theorem pi_0_13 (hS : St n T R) : ptI (hp u n T I J R) 0 10 13 v = some (hp u n T (up2 I 0 13 v) J R) := ptI_hp (show T 0 = (100 + 10, kd10) from hS.1.2 0 (by decide)) rfl (hS.lt (by decide)) hS.2.1
theorem gi_0_14 (hS : St n T R) : gtI (hp u n T I J R) 0 10 14 = some (I 0 14) := gtI_hp (show T 0 = (100 + 10, kd10) from hS.1.2 0 (by decide)) rfl (hS.lt (by decide)) hS.2.1
theorem pi_0_14 (hS : St n T R) : ptI (hp u n T I J R) 0 10 14 v = some (hp u n T (up2 I 0 14 v) J R) := ptI_hp (show T 0 = (100 + 10, kd10) from hS.1.2 0 (by decide)) rfl (hS.lt (by decide)) hS.2.1
theorem gi_0_15 (hS : St n T R) : gtI (hp u n T I J R) 0 10 15 = some (I 0 15) := gtI_hp (show T 0 = (100 + 10, kd10) from hS.1.2 0 (by decide)) rfl (hS.lt (by decide)) hS.2.1
theorem pi_0_15 (hS : St n T R) : ptI (hp u n T I J R) 0 10 15 v = some (hp u n T (up2 I 0 15 v) J R) := ptI_hp (show T 0 = (100 + 10, kd10) from hS.1.2 0 (by decide)) rfl (hS.lt (by decide)) hS.2.1
theorem gi_0_16 (hS : St n T R) : gtI (hp u n T I J R) 0 10 16 = some (I 0 16) := gtI_hp (show T 0 = (100 + 10, kd10) from hS.1.2 0 (by decide)) rfl (hS.lt (by decide)) hS.2.1
theorem pi_0_16 (hS : St n T R) : ptI (hp u n T I J R) 0 10 16 v = some (hp u n T (up2 I 0 16 v) J R) := ptI_hp (show T 0 = (100 + 10, kd10) from hS.1.2 0 (by decide)) rfl (hS.lt (by decide)) hS.2.1
theorem vc_1 (hS : St n T R) : vc O d 6 M 1 as (hp u n T I J R) = ev O d M (.ref 1 :: as) (hp u n T I J R) := vc_hp (show T 1 = (100 + 6, kd6) from hS.1.2 1 (by decide)) (hS.lt (by decide)) hS.2.1
theorem ga_1_0 (hS : St n T R) : gtA (hp u n T I J R) 1 6 0 = some 2 := gtA_hp (show T 1 = (100 + 6, kd6) from hS.1.2 1 (by decide)) rfl (hS.lt (by decide)) hS.2.1 (hS.2.2 (1, 0, 2) (by decide))
theorem ga_1_1 (hS : St n T R) : gtA (hp u n T I J R) 1 6 1 = some 5 := gtA_hp (show T 1 = (100 + 6, kd6) from hS.1.2 1 (by decide)) rfl (hS.lt (by decide)) hS.2.1 (hS.2.2 (1, 1, 5) (by decide))
theorem ga_1_2 (hS : St n T R) : gtA (hp u n T I J R) 1 6 2 = some 6 := gtA_hp (show T 1 = (100 + 6, kd6) from hS.1.2 1 (by decide)) rfl (hS.lt (by decide)) hS.2.1 (hS.2.2 (1, 2, 6) (by decide))
theorem gi_1_3 (hS : St n T R) : gtI (hp u n T I J R) 1 6 3 = some (I 1 3) := gtI_hp (show T 1 = (100 + 6, kd6) from hS.1.2 1 (by decide)) rfl (hS.lt (by decide)) hS.2.1
theorem pi_1_3 (hS : St n T R) : ptI (hp u n T I J R) 1 6 3 v = some (hp u n T (up2 I 1 3 v) J R) := ptI_hp (show T 1 = (100 + 6, kd6) from hS.1.2 1 (by decide)) rfl (hS.lt (by decide)) hS.2.1
theorem gi_1_4 (hS : St n T R) : gtI (hp u n T I J R) 1 6 4 = some (I 1 4) := gtI_hp (show T 1 = (100 + 6, kd6) from hS.1.2 1 (by decide)) rfl (hS.lt (by decide)) hS.2.1
theorem pi_1_4 (hS : St n T R) : ptI (hp u n T I J R) 1 6 4 v = some (hp u n T (up2 I 1 4 v) J R) := ptI_hp (show T 1 = (100 + 6, kd6) from hS.1.2 1 (by decide)) rfl (hS.lt (by decide)) hS.2.1
theorem gi_1_5 (hS : St n T R) : gtI (hp u n T I J R) 1 6 5 = some (I 1 5) := gtI_hp (show T 1 = (100 + 6, kd6) from hS.1.2 1 (by decide)) rfl (hS.lt (by decide)) hS.2.1
theorem pi_1_5 (hS : St n T R) : ptI (hp u n T I J R) 1 6 5 v = some (hp u n T (up2 I 1 5 v) J R) := ptI_hp (show T 1 = (100 + 6, kd6) from hS.1.2 1 (by decide)) rfl (hS.lt (by decide)) hS.2.1
theorem gi_1_6 (hS : St n T R) : gtI (hp u n T I J R) 1 6 6 = some (I 1 6) := gtI_hp (show T 1 = (100 + 6, kd6) from hS.1.2 1 (by decide)) rfl (hS.lt (by decide)) hS.2.1
theorem pi_1_6 (hS : St n T R) : ptI (hp u n T I J R) 1 6 6 v = some (hp u n T (up2 I 1 6 v) J R) := ptI_hp (show T 1 = (100 + 6, kd6) from hS.1.2 1 (by decide)) rfl (hS.lt (by decide)) hS.2.1
theorem gi_1_7 (hS : St n T R) : gtI (hp u n T I J R) 1 6 7 = some (I 1 7) := gtI_hp (show T 1 = (100 + 6, kd6) from hS.1.2 1 (by decide)) rfl (hS.lt (by decide)) hS.2.1
theorem pi_1_7 (hS : St n T R) : ptI (hp u n T I J R) 1 6 7 v = some (hp u n T (up2 I 1 7 v) J R) := ptI_hp (show T 1 = (100 + 6, kd6) from hS.1.2 1 (by decide)) rfl (hS.lt (by decide)) hS.2.1
theorem gi_1_8 (hS : St n T R) : gtI (hp u n T I J R) 1 6 8 = some (I 1 8) := gtI_hp (show T 1 = (100 + 6, kd6) from hS.1.2 1 (by decide)) rfl (hS.lt (by decide)) hS.2.1
theorem pi_1_8 (hS : St n T R) : ptI (hp u n T I J R) 1 6 8 v = some (hp u n T (up2 I 1 8 v) J R) := ptI_hp (show T 1 = (100 + 6, kd6) from hS.1.2 1 (by decide)) rfl (hS.lt (by decide)) hS.2.1
theorem gi_1_9 (hS : St n T R) : gtI (hp u n T I J R) 1 6 9 = some (I 1 9) := gtI_hp (show T 1 = (100 + 6, kd6) from hS.1.2 1 (by decide)) rfl (hS.lt (by decide)) hS.2.1
theorem pi_1_9 (hS : St n T R) : ptI (hp u n T I J R) 1 6 9 v = some (hp u n T (up2 I 1 9 v) J R) := ptI_hp (show T 1 = (100 + 6, kd6) from hS.1.2 1 (by decide)) rfl (hS.lt (by decide)) hS.2.1
theorem vc_2 (hS : St n T R) : vc O d 5 M 2 as (hp u n T I J R) = ev O d M (.ref 2 :: as) (hp u n T I J R) := vc_hp (show T 2 = (100 + 5, kd5) from hS.1.2 2 (by decide)) (hS.lt (by decide)) hS.2.1
theorem ga_2_0 (hS : St n T R) : gtA (hp u n T I J R) 2 5 0 = some 3 := gtA_hp (show T 2 = (100 + 5, kd5) from hS.1.2 2 (by decide)) rfl (hS.lt (by decide)) hS.2.1 (hS.2.2 (2, 0, 3) (by decide))
theorem ga_2_1 (hS : St n T R) : gtA (hp u n T I J R) 2 5 1 = some 4 := gtA_hp (show T 2 = (100 + 5, kd5) from hS.1.2 2 (by decide)) rfl (hS.lt (by decide)) hS.2.1 (hS.2.2 (2, 1, 4) (by decide))
theorem gi_2_2 (hS : St n T R) : gtI (hp u n T I J R) 2 5 2 = some (I 2 2) := gtI_hp (show T 2 = (100 + 5, kd5) from hS.1.2 2 (by decide)) rfl (hS.lt (by decide)) hS.2.1
theorem pi_2_2 (hS : St n T R) : ptI (hp u n T I J R) 2 5 2 v = some (hp u n T (up2 I 2 2 v) J R) := ptI_hp (show T 2 = (100 + 5, kd5) from hS.1.2 2 (by decide)) rfl (hS.lt (by decide)) hS.2.1
theorem gi_2_3 (hS : St n T R) : gtI (hp u n T I J R) 2 5 3 = some (I 2 3) := gtI_hp (show T 2 = (100 + 5, kd5) from hS.1.2 2 (by decide)) rfl (hS.lt (by decide)) hS.2.1
theorem pi_2_3 (hS : St n T R) : ptI (hp u n T I J R) 2 5 3 v = some (hp u n T (up2 I 2 3 v) J R) := ptI_hp (show T 2 = (100 + 5, kd5) from hS.1.2 2 (by decide)) rfl (hS.lt (by decide)) hS.2.1
theorem rd_3 (hS : St n T R) (hj : j < 400) : rdI O (hp u n T I J R) 3 (nI j) = some (I 3 j) := rdI_hp (show T 3 = (0, [400]) from hS.1.2 3 (by decide)) (hS.lt (by decide)) hS.2.1 (by decide) hj
theorem wr_3 (hS : St n T R) (hj : j < 400) : wrI (hp u n T I J R) 3 (nI j) v = some (hp u n T (up2 I 3 j v) J R) := wrI_hp (show T 3 = (0, [400]) from hS.1.2 3 (by decide)) (hS.lt (by decide)) hS.2.1 (by decide) hj
theorem ln_3 (hS : St n T R) : lnA O (hp u n T I J R) 3 = some (nI 400) := lnA_hp (by decide) (show T 3 = (0, [400]) from hS.1.2 3 (by decide)) (hS.lt (by decide)) hS.2.1
theorem rd_4 (hS : St n T R) (hj : j < 72) : rdI O (hp u n T I J R) 4 (nI j) = some (I 4 j) := rdI_hp (show T 4 = (0, [72]) from hS.1.2 4 (by decide)) (hS.lt (by decide)) hS.2.1 (by decide) hj
theorem wr_4 (hS : St n T R) (hj : j < 72) : wrI (hp u n T I J R) 4 (nI j) v = some (hp u n T (up2 I 4 j v) J R) := wrI_hp (show T 4 = (0, [72]) from hS.1.2 4 (by decide)) (hS.lt (by decide)) hS.2.1 (by decide) hj
theorem ln_4 (hS : St n T R) : lnA O (hp u n T I J R) 4 = some (nI 72) := lnA_hp (by decide) (show T 4 = (0, [72]) from hS.1.2 4 (by decide)) (hS.lt (by decide)) hS.2.1
theorem rd_5 (hS : St n T R) (hj : j < 401) : rdI O (hp u n T I J R) 5 (nI j) = some (I 5 j) := rdI_hp (show T 5 = (0, [401]) from hS.1.2 5 (by decide)) (hS.lt (by decide)) hS.2.1 (by decide) hj
theorem wr_5 (hS : St n T R) (hj : j < 401) : wrI (hp u n T I J R) 5 (nI j) v = some (hp u n T (up2 I 5 j v) J R) := wrI_hp (show T 5 = (0, [401]) from hS.1.2 5 (by decide)) (hS.lt (by decide)) hS.2.1 (by decide) hj
theorem ln_5 (hS : St n T R) : lnA O (hp u n T I J R) 5 = some (nI 401) := lnA_hp (by decide) (show T 5 = (0, [401]) from hS.1.2 5 (by decide)) (hS.lt (by decide)) hS.2.1
theorem rd_6 (hS : St n T R) (hj : j < 401) : rdI O (hp u n T I J R) 6 (nI j) = some (I 6 j) := rdI_hp (show T 6 = (0, [401]) from hS.1.2 6 (by decide)) (hS.lt (by decide)) hS.2.1 (by decide) hj
theorem wr_6 (hS : St n T R) (hj : j < 401) : wrI (hp u n T I J R) 6 (nI j) v = some (hp u n T (up2 I 6 j v) J R) := wrI_hp (show T 6 = (0, [401]) from hS.1.2 6 (by decide)) (hS.lt (by decide)) hS.2.1 (by decide) hj
theorem ln_6 (hS : St n T R) : lnA O (hp u n T I J R) 6 = some (nI 401) := lnA_hp (by decide) (show T 6 = (0, [401]) from hS.1.2 6 (by decide)) (hS.lt (by decide)) hS.2.1
theorem vc_7 (hS : St n T R) : vc O d 4 M 7 as (hp u n T I J R) = ev O d M (.ref 7 :: as) (hp u n T I J R) := vc_hp (show T 7 = (100 + 4, kd4) from hS.1.2 7 (by decide)) (hS.lt (by decide)) hS.2.1
theorem ga_7_0 (hS : St n T R) : gtA (hp u n T I J R) 7 4 0 = some 8 := gtA_hp (show T 7 = (100 + 4, kd4) from hS.1.2 7 (by decide)) rfl (hS.lt (by decide)) hS.2.1 (hS.2.2 (7, 0, 8) (by decide))
theorem ga_7_1 (hS : St n T R) : gtA (hp u n T I J R) 7 4 1 = some 9 := gtA_hp (show T 7 = (100 + 4, kd4) from hS.1.2 7 (by decide)) rfl (hS.lt (by decide)) hS.2.1 (hS.2.2 (7, 1, 9) (by decide))
theorem rd_8 (hS : St n T R) (hj : j < 8) : rdI O (hp u n T I J R) 8 (nI j) = some (I 8 j) := rdI_hp (show T 8 = (0, [8]) from hS.1.2 8 (by decide)) (hS.lt (by decide)) hS.2.1 (by decide) hj
theorem wr_8 (hS : St n T R) (hj : j < 8) : wrI (hp u n T I J R) 8 (nI j) v = some (hp u n T (up2 I 8 j v) J R) := wrI_hp (show T 8 = (0, [8]) from hS.1.2 8 (by decide)) (hS.lt (by decide)) hS.2.1 (by decide) hj
theorem ln_8 (hS : St n T R) : lnA O (hp u n T I J R) 8 = some (nI 8) := lnA_hp (by decide) (show T 8 = (0, [8]) from hS.1.2 8 (by decide)) (hS.lt (by decide)) hS.2.1
theorem rd_9 (hS : St n T R) (hj : j < 8) : rdI O (hp u n T I J R) 9 (nI j) = some (I 9 j) := rdI_hp (show T 9 = (0, [8]) from hS.1.2 9 (by decide)) (hS.lt (by decide)) hS.2.1 (by decide) hj
theorem wr_9 (hS : St n T R) (hj : j < 8) : wrI (hp u n T I J R) 9 (nI j) v = some (hp u n T (up2 I 9 j v) J R) := wrI_hp (show T 9 = (0, [8]) from hS.1.2 9 (by decide)) (hS.lt (by decide)) hS.2.1 (by decide) hj
theorem ln_9 (hS : St n T R) : lnA O (hp u n T I J R) 9 = some (nI 8) := lnA_hp (by decide) (show T 9 = (0, [8]) from hS.1.2 9 (by decide)) (hS.lt (by decide)) hS.2.1
theorem vc_10 (hS : St n T R) : vc O d 7 M 10 as (hp u n T I J R) = ev O d M (.ref 10 :: as) (hp u n T I J R) := vc_hp (show T 10 = (100 + 7, kd7) from hS.1.2 10 (by decide)) (hS.lt (by decide)) hS.2.1
theorem ga_10_0 (hS : St n T R) : gtA (hp u n T I J R) 10 7 0 = some 11 := gtA_hp (show T 10 = (100 + 7, kd7) from hS.1.2 10 (by decide)) rfl (hS.lt (by decide)) hS.2.1 (hS.2.2 (10, 0, 11) (by decide))
theorem ga_10_1 (hS : St n T R) : gtA (hp u n T I J R) 10 7 1 = some 12 := gtA_hp (show T 10 = (100 + 7, kd7) from hS.1.2 10 (by decide)) rfl (hS.lt (by decide)) hS.2.1 (hS.2.2 (10, 1, 12) (by decide))
theorem ga_10_2 (hS : St n T R) : gtA (hp u n T I J R) 10 7 2 = some 13 := gtA_hp (show T 10 = (100 + 7, kd7) from hS.1.2 10 (by decide)) rfl (hS.lt (by decide)) hS.2.1 (hS.2.2 (10, 2, 13) (by decide))
theorem ga_10_3 (hS : St n T R) : gtA (hp u n T I J R) 10 7 3 = some 14 := gtA_hp (show T 10 = (100 + 7, kd7) from hS.1.2 10 (by decide)) rfl (hS.lt (by decide)) hS.2.1 (hS.2.2 (10, 3, 14) (by decide))
theorem ga_10_4 (hS : St n T R) : gtA (hp u n T I J R) 10 7 4 = some 15 := gtA_hp (show T 10 = (100 + 7, kd7) from hS.1.2 10 (by decide)) rfl (hS.lt (by decide)) hS.2.1 (hS.2.2 (10, 4, 15) (by decide))
theorem ga_10_5 (hS : St n T R) : gtA (hp u n T I J R) 10 7 5 = some 16 := gtA_hp (show T 10 = (100 + 7, kd7) from hS.1.2 10 (by decide)) rfl (hS.lt (by decide)) hS.2.1 (hS.2.2 (10, 5, 16) (by decide))
theorem ga_10_6 (hS : St n T R) : gtA (hp u n T I J R) 10 7 6 = some 17 := gtA_hp (show T 10 = (100 + 7, kd7) from hS.1.2 10 (by decide)) rfl (hS.lt (by decide)) hS.2.1 (hS.2.2 (10, 6, 17) (by decide))
theorem ga_10_7 (hS : St n T R) : gtA (hp u n T I J R) 10 7 7 = some 18 := gtA_hp (show T 10 = (100 + 7, kd7) from hS.1.2 10 (by decide)) rfl (hS.lt (by decide)) hS.2.1 (hS.2.2 (10, 7, 18) (by decide))
theorem ga_10_8 (hS : St n T R) : gtA (hp u n T I J R) 10 7 8 = some 19 := gtA_hp (show T 10 = (100 + 7, kd7) from hS.1.2 10 (by decide)) rfl (hS.lt (by decide)) hS.2.1 (hS.2.2 (10, 8, 19) (by decide))
theorem ga_10_9 (hS : St n T R) : gtA (hp u n T I J R) 10 7 9 = some 20 := gtA_hp (show T 10 = (100 + 7, kd7) from hS.1.2 10 (by decide)) rfl (hS.lt (by decide)) hS.2.1 (hS.2.2 (10, 9, 20) (by decide))
theorem gi_10_10 (hS : St n T R) : gtI (hp u n T I J R) 10 7 10 = some (I 10 10) := gtI_hp (show T 10 = (100 + 7, kd7) from hS.1.2 10 (by decide)) rfl (hS.lt (by decide)) hS.2.1
theorem pi_10_10 (hS : St n T R) : ptI (hp u n T I J R) 10 7 10 v = some (hp u n T (up2 I 10 10 v) J R) := ptI_hp (show T 10 = (100 + 7, kd7) from hS.1.2 10 (by decide)) rfl (hS.lt (by decide)) hS.2.1
theorem gi_10_11 (hS : St n T R) : gtI (hp u n T I J R) 10 7 11 = some (I 10 11) := gtI_hp (show T 10 = (100 + 7, kd7) from hS.1.2 10 (by decide)) rfl (hS.lt (by decide)) hS.2.1
theorem pi_10_11 (hS : St n T R) : ptI (hp u n T I J R) 10 7 11 v = some (hp u n T (up2 I 10 11 v) J R) := ptI_hp (show T 10 = (100 + 7, kd7) from hS.1.2 10 (by decide)) rfl (hS.lt (by decide)) hS.2.1
theorem gi_10_12 (hS : St n T R) : gtI (hp u n T I J R) 10 7 12 = some (I 10 12) := gtI_hp (show T 10 = (100 + 7, kd7) from hS.1.2 10 (by decide)) rfl (hS.lt (by decide)) hS.2.1
theorem pi_10_12 (hS : St n T R) : ptI (hp u n T I J R) 10 7 12 v = some (hp u n T (up2 I 10 12 v) J R) := ptI_hp (show T 10 = (100 + 7, kd7) from hS.1.2 10 (by decide)) rfl (hS.lt (by decide)) hS.2.1
theorem gi_10_13 (hS : St n T R) : gtI (hp u n T I J R) 10 7 13 = some (I 10 13) := gtI_hp (show T 10 = (100 + 7, kd7) from hS.1.2 10 (by decide)) rfl (hS.lt (by decide)) hS.2.1
theorem pi_10_13 (hS : St n T R) : ptI (hp u n T I J R) 10 7 13 v = some (hp u n T (up2 I 10 13 v) J R) := ptI_hp (show T 10 = (100 + 7, kd7) from hS.1.2 10 (by decide)) rfl (hS.lt (by decide)) hS.2.1
theorem rd_11 (hS : St n T R) (hj : j < 8) : rdI O (hp u n T I J R) 11 (nI j) = some (I 11 j) := rdI_hp (show T 11 = (0, [8]) from hS.1.2 11 (by decide)) (hS.lt (by decide)) hS.2.1 (by decide) hj
theorem wr_11 (hS : St n T R) (hj : j < 8) : wrI (hp u n T I J R) 11 (nI j) v = some (hp u n T (up2 I 11 j v) J R) := wrI_hp (show T 11 = (0, [8]) from hS.1.2 11 (by decide)) (hS.lt (by decide)) hS.2.1 (by decide) hj
theorem ln_11 (hS : St n T R) : lnA O (hp u n T I J R) 11 = some (nI 8) := lnA_hp (by decide) (show T 11 = (0, [8]) from hS.1.2 11 (by decide)) (hS.lt (by decide)) hS.2.1
theorem rd_12 (hS : St n T R) (hj : j < 9) : rdI O (hp u n T I J R) 12 (nI j) = some (I 12 j) := rdI_hp (show T 12 = (0, [9]) from hS.1.2 12 (by decide)) (hS.lt (by decide)) hS.2.1 (by decide) hj
theorem wr_12 (hS : St n T R) (hj : j < 9) : wrI (hp u n T I J R) 12 (nI j) v = some (hp u n T (up2 I 12 j v) J R) := wrI_hp (show T 12 = (0, [9]) from hS.1.2 12 (by decide)) (hS.lt (by decide)) hS.2.1 (by decide) hj
theorem ln_12 (hS : St n T R) : lnA O (hp u n T I J R) 12 = some (nI 9) := lnA_hp (by decide) (show T 12 = (0, [9]) from hS.1.2 12 (by decide)) (hS.lt (by decide)) hS.2.1
theorem rd_13 (hS : St n T R) (hj : j < 54) : rdJ O (hp u n T I J R) 13 (nI j) = some (J 13 j) := rdJ_hp (show T 13 = (1, [54]) from hS.1.2 13 (by decide)) (hS.lt (by decide)) hS.2.1 (by decide) hj
theorem wr_13 (hS : St n T R) (hj : j < 54) : wrJ (hp u n T I J R) 13 (nI j) y = some (hp u n T I (up2 J 13 j y) R) := wrJ_hp (show T 13 = (1, [54]) from hS.1.2 13 (by decide)) (hS.lt (by decide)) hS.2.1 (by decide) hj
theorem ln_13 (hS : St n T R) : lnA O (hp u n T I J R) 13 = some (nI 54) := lnA_hp (by decide) (show T 13 = (1, [54]) from hS.1.2 13 (by decide)) (hS.lt (by decide)) hS.2.1
theorem rd_14 (hS : St n T R) (hj : j < 9) : rdJ O (hp u n T I J R) 14 (nI j) = some (J 14 j) := rdJ_hp (show T 14 = (1, [9]) from hS.1.2 14 (by decide)) (hS.lt (by decide)) hS.2.1 (by decide) hj
theorem wr_14 (hS : St n T R) (hj : j < 9) : wrJ (hp u n T I J R) 14 (nI j) y = some (hp u n T I (up2 J 14 j y) R) := wrJ_hp (show T 14 = (1, [9]) from hS.1.2 14 (by decide)) (hS.lt (by decide)) hS.2.1 (by decide) hj
theorem ln_14 (hS : St n T R) : lnA O (hp u n T I J R) 14 = some (nI 9) := lnA_hp (by decide) (show T 14 = (1, [9]) from hS.1.2 14 (by decide)) (hS.lt (by decide)) hS.2.1
theorem rd_15 (hS : St n T R) (hj : j < 24) : rdI O (hp u n T I J R) 15 (nI j) = some (I 15 j) := rdI_hp (show T 15 = (0, [24]) from hS.1.2 15 (by decide)) (hS.lt (by decide)) hS.2.1 (by decide) hj
theorem wr_15 (hS : St n T R) (hj : j < 24) : wrI (hp u n T I J R) 15 (nI j) v = some (hp u n T (up2 I 15 j v) J R) := wrI_hp (show T 15 = (0, [24]) from hS.1.2 15 (by decide)) (hS.lt (by decide)) hS.2.1 (by decide) hj
theorem ln_15 (hS : St n T R) : lnA O (hp u n T I J R) 15 = some (nI 24) := lnA_hp (by decide) (show T 15 = (0, [24]) from hS.1.2 15 (by decide)) (hS.lt (by decide)) hS.2.1
theorem rd_16 (hS : St n T R) (hj : j < 24) : rdI O (hp u n T I J R) 16 (nI j) = some (I 16 j) := rdI_hp (show T 16 = (0, [24]) from hS.1.2 16 (by decide)) (hS.lt (by decide)) hS.2.1 (by decide) hj
theorem wr_16 (hS : St n T R) (hj : j < 24) : wrI (hp u n T I J R) 16 (nI j) v = some (hp u n T (up2 I 16 j v) J R) := wrI_hp (show T 16 = (0, [24]) from hS.1.2 16 (by decide)) (hS.lt (by decide)) hS.2.1 (by decide) hj
theorem ln_16 (hS : St n T R) : lnA O (hp u n T I J R) 16 = some (nI 24) := lnA_hp (by decide) (show T 16 = (0, [24]) from hS.1.2 16 (by decide)) (hS.lt (by decide)) hS.2.1
theorem rd_17 (hS : St n T R) (hj : j < 24) : rdI O (hp u n T I J R) 17 (nI j) = some (I 17 j) := rdI_hp (show T 17 = (0, [24]) from hS.1.2 17 (by decide)) (hS.lt (by decide)) hS.2.1 (by decide) hj
theorem wr_17 (hS : St n T R) (hj : j < 24) : wrI (hp u n T I J R) 17 (nI j) v = some (hp u n T (up2 I 17 j v) J R) := wrI_hp (show T 17 = (0, [24]) from hS.1.2 17 (by decide)) (hS.lt (by decide)) hS.2.1 (by decide) hj
theorem ln_17 (hS : St n T R) : lnA O (hp u n T I J R) 17 = some (nI 24) := lnA_hp (by decide) (show T 17 = (0, [24]) from hS.1.2 17 (by decide)) (hS.lt (by decide)) hS.2.1
theorem rd_18 (hS : St n T R) (hj : j < 24) : rdJ O (hp u n T I J R) 18 (nI j) = some (J 18 j) := rdJ_hp (show T 18 = (1, [24]) from hS.1.2 18 (by decide)) (hS.lt (by decide)) hS.2.1 (by decide) hj
theorem wr_18 (hS : St n T R) (hj : j < 24) : wrJ (hp u n T I J R) 18 (nI j) y = some (hp u n T I (up2 J 18 j y) R) := wrJ_hp (show T 18 = (1, [24]) from hS.1.2 18 (by decide)) (hS.lt (by decide)) hS.2.1 (by decide) hj
theorem ln_18 (hS : St n T R) : lnA O (hp u n T I J R) 18 = some (nI 24) := lnA_hp (by decide) (show T 18 = (1, [24]) from hS.1.2 18 (by decide)) (hS.lt (by decide)) hS.2.1
theorem rd_19 (hS : St n T R) (hj : j < 24) : rdJ O (hp u n T I J R) 19 (nI j) = some (J 19 j) := rdJ_hp (show T 19 = (1, [24]) from hS.1.2 19 (by decide)) (hS.lt (by decide)) hS.2.1 (by decide) hj
theorem wr_19 (hS : St n T R) (hj : j < 24) : wrJ (hp u n T I J R) 19 (nI j) y = some (hp u n T I (up2 J 19 j y) R) := wrJ_hp (show T 19 = (1, [24]) from hS.1.2 19 (by decide)) (hS.lt (by decide)) hS.2.1 (by decide) hj
theorem ln_19 (hS : St n T R) : lnA O (hp u n T I J R) 19 = some (nI 24) := lnA_hp (by decide) (show T 19 = (1, [24]) from hS.1.2 19 (by decide)) (hS.lt (by decide)) hS.2.1
theorem rd_20 (hS : St n T R) (hj : j < 24) : rdB O (hp u n T I J R) 20 (nI j) = some (I 20 j) := rdZ_hp (show T 20 = (3, [24]) from hS.1.2 20 (by decide)) (hS.lt (by decide)) hS.2.1 (by decide) hj
theorem wr_20 (hS : St n T R) (hj : j < 24) : wrB (hp u n T I J R) 20 (nI j) v = some (hp u n T (up2 I 20 j (vp_nar .boolean v)) J R) := wrZ_hp (show T 20 = (3, [24]) from hS.1.2 20 (by decide)) (hS.lt (by decide)) hS.2.1 (by decide) hj
theorem ln_20 (hS : St n T R) : lnA O (hp u n T I J R) 20 = some (nI 24) := lnA_hp (by decide) (show T 20 = (3, [24]) from hS.1.2 20 (by decide)) (hS.lt (by decide)) hS.2.1
theorem vc_21 (hS : St n T R) : vc O d 1 M 21 as (hp u n T I J R) = ev O d M (.ref 21 :: as) (hp u n T I J R) := vc_hp (show T 21 = (100 + 1, kd1) from hS.1.2 21 (by decide)) (hS.lt (by decide)) hS.2.1
theorem gi_21_0 (hS : St n T R) : gtI (hp u n T I J R) 21 1 0 = some (I 21 0) := gtI_hp (show T 21 = (100 + 1, kd1) from hS.1.2 21 (by decide)) rfl (hS.lt (by decide)) hS.2.1
theorem pi_21_0 (hS : St n T R) : ptI (hp u n T I J R) 21 1 0 v = some (hp u n T (up2 I 21 0 v) J R) := ptI_hp (show T 21 = (100 + 1, kd1) from hS.1.2 21 (by decide)) rfl (hS.lt (by decide)) hS.2.1
theorem rd_22 (hS : St n T R) (hj : j < 20) : rdJ O (hp u n T I J R) 22 (nI j) = some (J 22 j) := rdJ_hp (show T 22 = (1, [20]) from hS.1.2 22 (by decide)) (hS.lt (by decide)) hS.2.1 (by decide) hj
theorem wr_22 (hS : St n T R) (hj : j < 20) : wrJ (hp u n T I J R) 22 (nI j) y = some (hp u n T I (up2 J 22 j y) R) := wrJ_hp (show T 22 = (1, [20]) from hS.1.2 22 (by decide)) (hS.lt (by decide)) hS.2.1 (by decide) hj
theorem ln_22 (hS : St n T R) : lnA O (hp u n T I J R) 22 = some (nI 20) := lnA_hp (by decide) (show T 22 = (1, [20]) from hS.1.2 22 (by decide)) (hS.lt (by decide)) hS.2.1
theorem rd_23 (hS : St n T R) (hj : j < 400) : rdB O (hp u n T I J R) 23 (nI j) = some (I 23 j) := rdB_hp (show T 23 = (2, [400]) from hS.1.2 23 (by decide)) (hS.lt (by decide)) hS.2.1 (by decide) hj
theorem wr_23 (hS : St n T R) (hj : j < 400) : wrB (hp u n T I J R) 23 (nI j) v = some (hp u n T (up2 I 23 j (vp_nar .byte v)) J R) := wrB_hp (show T 23 = (2, [400]) from hS.1.2 23 (by decide)) (hS.lt (by decide)) hS.2.1 (by decide) hj
theorem ln_23 (hS : St n T R) : lnA O (hp u n T I J R) 23 = some (nI 400) := lnA_hp (by decide) (show T 23 = (2, [400]) from hS.1.2 23 (by decide)) (hS.lt (by decide)) hS.2.1
theorem rd_24 (hS : St n T R) (hj : j < 5) : rdI O (hp u n T I J R) 24 (nI j) = some (I 24 j) := rdI_hp (show T 24 = (0, [5]) from hS.1.2 24 (by decide)) (hS.lt (by decide)) hS.2.1 (by decide) hj
theorem wr_24 (hS : St n T R) (hj : j < 5) : wrI (hp u n T I J R) 24 (nI j) v = some (hp u n T (up2 I 24 j v) J R) := wrI_hp (show T 24 = (0, [5]) from hS.1.2 24 (by decide)) (hS.lt (by decide)) hS.2.1 (by decide) hj
theorem ln_24 (hS : St n T R) : lnA O (hp u n T I J R) 24 = some (nI 5) := lnA_hp (by decide) (show T 24 = (0, [5]) from hS.1.2 24 (by decide)) (hS.lt (by decide)) hS.2.1
theorem rd_25 (hS : St n T R) (hj : j < 2) : rdR O (hp u n T I J R) 25 (nI j) = some (R 25 j) := rdR_hp (by decide) (show T 25 = (4, [2]) from hS.1.2 25 (by decide)) (hS.lt (by decide)) hS.2.1 (by decide) hj
theorem vc_26 (hS : St n T R) : vc O d 3 M 26 as (hp u n T I J R) = ev O d M (.ref 26 :: as) (hp u n T I J R) := vc_hp (show T 26 = (100 + 3, kd3) from hS.1.2 26 (by decide)) (hS.lt (by decide)) hS.2.1
theorem ga_26_0 (hS : St n T R) : gtA (hp u n T I J R) 26 3 0 = some 27 := gtA_hp (show T 26 = (100 + 3, kd3) from hS.1.2 26 (by decide)) rfl (hS.lt (by decide)) hS.2.1 (hS.2.2 (26, 0, 27) (by decide))
theorem gi_26_1 (hS : St n T R) : gtI (hp u n T I J R) 26 3 1 = some (I 26 1) := gtI_hp (show T 26 = (100 + 3, kd3) from hS.1.2 26 (by decide)) rfl (hS.lt (by decide)) hS.2.1
theorem pi_26_1 (hS : St n T R) : ptI (hp u n T I J R) 26 3 1 v = some (hp u n T (up2 I 26 1 v) J R) := ptI_hp (show T 26 = (100 + 3, kd3) from hS.1.2 26 (by decide)) rfl (hS.lt (by decide)) hS.2.1
theorem gi_26_2 (hS : St n T R) : gtI (hp u n T I J R) 26 3 2 = some (I 26 2) := gtI_hp (show T 26 = (100 + 3, kd3) from hS.1.2 26 (by decide)) rfl (hS.lt (by decide)) hS.2.1
theorem pi_26_2 (hS : St n T R) : ptI (hp u n T I J R) 26 3 2 v = some (hp u n T (up2 I 26 2 v) J R) := ptI_hp (show T 26 = (100 + 3, kd3) from hS.1.2 26 (by decide)) rfl (hS.lt (by decide)) hS.2.1
theorem rd_27 (hS : St n T R) (hj : j < 391) : rdI O (hp u n T I J R) 27 (nI j) = some (I 27 j) := rdI_hp (show T 27 = (0, [391]) from hS.1.2 27 (by decide)) (hS.lt (by decide)) hS.2.1 (by decide) hj
theorem wr_27 (hS : St n T R) (hj : j < 391) : wrI (hp u n T I J R) 27 (nI j) v = some (hp u n T (up2 I 27 j v) J R) := wrI_hp (show T 27 = (0, [391]) from hS.1.2 27 (by decide)) (hS.lt (by decide)) hS.2.1 (by decide) hj
theorem ln_27 (hS : St n T R) : lnA O (hp u n T I J R) 27 = some (nI 391) := lnA_hp (by decide) (show T 27 = (0, [391]) from hS.1.2 27 (by decide)) (hS.lt (by decide)) hS.2.1
theorem vc_28 (hS : St n T R) : vc O d 8 M 28 as (hp u n T I J R) = ev O d M (.ref 28 :: as) (hp u n T I J R) := vc_hp (show T 28 = (100 + 8, kd8) from hS.1.2 28 (by decide)) (hS.lt (by decide)) hS.2.1
theorem ga_28_0 (hS : St n T R) : gtA (hp u n T I J R) 28 8 0 = some 29 := gtA_hp (show T 28 = (100 + 8, kd8) from hS.1.2 28 (by decide)) rfl (hS.lt (by decide)) hS.2.1 (hS.2.2 (28, 0, 29) (by decide))
theorem gi_28_1 (hS : St n T R) : gtI (hp u n T I J R) 28 8 1 = some (I 28 1) := gtI_hp (show T 28 = (100 + 8, kd8) from hS.1.2 28 (by decide)) rfl (hS.lt (by decide)) hS.2.1
theorem pi_28_1 (hS : St n T R) : ptI (hp u n T I J R) 28 8 1 v = some (hp u n T (up2 I 28 1 v) J R) := ptI_hp (show T 28 = (100 + 8, kd8) from hS.1.2 28 (by decide)) rfl (hS.lt (by decide)) hS.2.1
theorem rd_29 (hS : St n T R) (hj : j < 64) : rdI O (hp u n T I J R) 29 (nI j) = some (I 29 j) := rdI_hp (show T 29 = (0, [64]) from hS.1.2 29 (by decide)) (hS.lt (by decide)) hS.2.1 (by decide) hj
theorem wr_29 (hS : St n T R) (hj : j < 64) : wrI (hp u n T I J R) 29 (nI j) v = some (hp u n T (up2 I 29 j v) J R) := wrI_hp (show T 29 = (0, [64]) from hS.1.2 29 (by decide)) (hS.lt (by decide)) hS.2.1 (by decide) hj
theorem ln_29 (hS : St n T R) : lnA O (hp u n T I J R) 29 = some (nI 64) := lnA_hp (by decide) (show T 29 = (0, [64]) from hS.1.2 29 (by decide)) (hS.lt (by decide)) hS.2.1
theorem vc_30 (hS : St n T R) : vc O d 0 M 30 as (hp u n T I J R) = ev O d M (.ref 30 :: as) (hp u n T I J R) := vc_hp (show T 30 = (100 + 0, kd0) from hS.1.2 30 (by decide)) (hS.lt (by decide)) hS.2.1
theorem ga_30_0 (hS : St n T R) : gtA (hp u n T I J R) 30 0 0 = some 28 := gtA_hp (show T 30 = (100 + 0, kd0) from hS.1.2 30 (by decide)) rfl (hS.lt (by decide)) hS.2.1 (hS.2.2 (30, 0, 28) (by decide))
theorem ga_30_1 (hS : St n T R) : gtA (hp u n T I J R) 30 0 1 = some 31 := gtA_hp (show T 30 = (100 + 0, kd0) from hS.1.2 30 (by decide)) rfl (hS.lt (by decide)) hS.2.1 (hS.2.2 (30, 1, 31) (by decide))
theorem rd_31 (hS : St n T R) (hj : j < 9) : rdI O (hp u n T I J R) 31 (nI j) = some (I 31 j) := rdI_hp (show T 31 = (0, [9]) from hS.1.2 31 (by decide)) (hS.lt (by decide)) hS.2.1 (by decide) hj
theorem wr_31 (hS : St n T R) (hj : j < 9) : wrI (hp u n T I J R) 31 (nI j) v = some (hp u n T (up2 I 31 j v) J R) := wrI_hp (show T 31 = (0, [9]) from hS.1.2 31 (by decide)) (hS.lt (by decide)) hS.2.1 (by decide) hj
theorem ln_31 (hS : St n T R) : lnA O (hp u n T I J R) 31 = some (nI 9) := lnA_hp (by decide) (show T 31 = (0, [9]) from hS.1.2 31 (by decide)) (hS.lt (by decide)) hS.2.1
theorem vc_32 (hS : St n T R) : vc O d 2 M 32 as (hp u n T I J R) = ev O d M (.ref 32 :: as) (hp u n T I J R) := vc_hp (show T 32 = (100 + 2, kd2) from hS.1.2 32 (by decide)) (hS.lt (by decide)) hS.2.1
theorem ga_32_0 (hS : St n T R) : gtA (hp u n T I J R) 32 2 0 = some 30 := gtA_hp (show T 32 = (100 + 2, kd2) from hS.1.2 32 (by decide)) rfl (hS.lt (by decide)) hS.2.1 (hS.2.2 (32, 0, 30) (by decide))
theorem ga_32_1 (hS : St n T R) : gtA (hp u n T I J R) 32 2 1 = some 33 := gtA_hp (show T 32 = (100 + 2, kd2) from hS.1.2 32 (by decide)) rfl (hS.lt (by decide)) hS.2.1 (hS.2.2 (32, 1, 33) (by decide))
theorem ga_32_2 (hS : St n T R) : gtA (hp u n T I J R) 32 2 2 = some 34 := gtA_hp (show T 32 = (100 + 2, kd2) from hS.1.2 32 (by decide)) rfl (hS.lt (by decide)) hS.2.1 (hS.2.2 (32, 2, 34) (by decide))
theorem ga_32_3 (hS : St n T R) : gtA (hp u n T I J R) 32 2 3 = some 35 := gtA_hp (show T 32 = (100 + 2, kd2) from hS.1.2 32 (by decide)) rfl (hS.lt (by decide)) hS.2.1 (hS.2.2 (32, 3, 35) (by decide))
theorem ga_32_4 (hS : St n T R) : gtA (hp u n T I J R) 32 2 4 = some 36 := gtA_hp (show T 32 = (100 + 2, kd2) from hS.1.2 32 (by decide)) rfl (hS.lt (by decide)) hS.2.1 (hS.2.2 (32, 4, 36) (by decide))
theorem ga_32_5 (hS : St n T R) : gtA (hp u n T I J R) 32 2 5 = some 37 := gtA_hp (show T 32 = (100 + 2, kd2) from hS.1.2 32 (by decide)) rfl (hS.lt (by decide)) hS.2.1 (hS.2.2 (32, 5, 37) (by decide))
theorem ga_32_6 (hS : St n T R) : gtA (hp u n T I J R) 32 2 6 = some 38 := gtA_hp (show T 32 = (100 + 2, kd2) from hS.1.2 32 (by decide)) rfl (hS.lt (by decide)) hS.2.1 (hS.2.2 (32, 6, 38) (by decide))
theorem ga_32_7 (hS : St n T R) : gtA (hp u n T I J R) 32 2 7 = some 39 := gtA_hp (show T 32 = (100 + 2, kd2) from hS.1.2 32 (by decide)) rfl (hS.lt (by decide)) hS.2.1 (hS.2.2 (32, 7, 39) (by decide))
theorem ga_32_8 (hS : St n T R) : gtA (hp u n T I J R) 32 2 8 = some 40 := gtA_hp (show T 32 = (100 + 2, kd2) from hS.1.2 32 (by decide)) rfl (hS.lt (by decide)) hS.2.1 (hS.2.2 (32, 8, 40) (by decide))
theorem ga_32_9 (hS : St n T R) : gtA (hp u n T I J R) 32 2 9 = some 41 := gtA_hp (show T 32 = (100 + 2, kd2) from hS.1.2 32 (by decide)) rfl (hS.lt (by decide)) hS.2.1 (hS.2.2 (32, 9, 41) (by decide))
theorem ga_32_10 (hS : St n T R) : gtA (hp u n T I J R) 32 2 10 = some 42 := gtA_hp (show T 32 = (100 + 2, kd2) from hS.1.2 32 (by decide)) rfl (hS.lt (by decide)) hS.2.1 (hS.2.2 (32, 10, 42) (by decide))
theorem gi_32_11 (hS : St n T R) : gtI (hp u n T I J R) 32 2 11 = some (I 32 11) := gtI_hp (show T 32 = (100 + 2, kd2) from hS.1.2 32 (by decide)) rfl (hS.lt (by decide)) hS.2.1
theorem pi_32_11 (hS : St n T R) : ptI (hp u n T I J R) 32 2 11 v = some (hp u n T (up2 I 32 11 v) J R) := ptI_hp (show T 32 = (100 + 2, kd2) from hS.1.2 32 (by decide)) rfl (hS.lt (by decide)) hS.2.1
theorem gi_32_12 (hS : St n T R) : gtI (hp u n T I J R) 32 2 12 = some (I 32 12) := gtI_hp (show T 32 = (100 + 2, kd2) from hS.1.2 32 (by decide)) rfl (hS.lt (by decide)) hS.2.1
theorem pi_32_12 (hS : St n T R) : ptI (hp u n T I J R) 32 2 12 v = some (hp u n T (up2 I 32 12 v) J R) := ptI_hp (show T 32 = (100 + 2, kd2) from hS.1.2 32 (by decide)) rfl (hS.lt (by decide)) hS.2.1
theorem gi_32_13 (hS : St n T R) : gtI (hp u n T I J R) 32 2 13 = some (I 32 13) := gtI_hp (show T 32 = (100 + 2, kd2) from hS.1.2 32 (by decide)) rfl (hS.lt (by decide)) hS.2.1
theorem pi_32_13 (hS : St n T R) : ptI (hp u n T I J R) 32 2 13 v = some (hp u n T (up2 I 32 13 v) J R) := ptI_hp (show T 32 = (100 + 2, kd2) from hS.1.2 32 (by decide)) rfl (hS.lt (by decide)) hS.2.1
theorem gi_32_14 (hS : St n T R) : gtI (hp u n T I J R) 32 2 14 = some (I 32 14) := gtI_hp (show T 32 = (100 + 2, kd2) from hS.1.2 32 (by decide)) rfl (hS.lt (by decide)) hS.2.1
theorem pi_32_14 (hS : St n T R) : ptI (hp u n T I J R) 32 2 14 v = some (hp u n T (up2 I 32 14 v) J R) := ptI_hp (show T 32 = (100 + 2, kd2) from hS.1.2 32 (by decide)) rfl (hS.lt (by decide)) hS.2.1
theorem gi_32_15 (hS : St n T R) : gtI (hp u n T I J R) 32 2 15 = some (I 32 15) := gtI_hp (show T 32 = (100 + 2, kd2) from hS.1.2 32 (by decide)) rfl (hS.lt (by decide)) hS.2.1
theorem pi_32_15 (hS : St n T R) : ptI (hp u n T I J R) 32 2 15 v = some (hp u n T (up2 I 32 15 v) J R) := ptI_hp (show T 32 = (100 + 2, kd2) from hS.1.2 32 (by decide)) rfl (hS.lt (by decide)) hS.2.1
theorem gi_32_16 (hS : St n T R) : gtI (hp u n T I J R) 32 2 16 = some (I 32 16) := gtI_hp (show T 32 = (100 + 2, kd2) from hS.1.2 32 (by decide)) rfl (hS.lt (by decide)) hS.2.1
theorem pi_32_16 (hS : St n T R) : ptI (hp u n T I J R) 32 2 16 v = some (hp u n T (up2 I 32 16 v) J R) := ptI_hp (show T 32 = (100 + 2, kd2) from hS.1.2 32 (by decide)) rfl (hS.lt (by decide)) hS.2.1
theorem gi_32_17 (hS : St n T R) : gtI (hp u n T I J R) 32 2 17 = some (I 32 17) := gtI_hp (show T 32 = (100 + 2, kd2) from hS.1.2 32 (by decide)) rfl (hS.lt (by decide)) hS.2.1
theorem pi_32_17 (hS : St n T R) : ptI (hp u n T I J R) 32 2 17 v = some (hp u n T (up2 I 32 17 v) J R) := ptI_hp (show T 32 = (100 + 2, kd2) from hS.1.2 32 (by decide)) rfl (hS.lt (by decide)) hS.2.1
theorem rd_33 (hS : St n T R) (hj : j < 5) : rdI O (hp u n T I J R) 33 (nI j) = some (I 33 j) := rdI_hp (show T 33 = (0, [5]) from hS.1.2 33 (by decide)) (hS.lt (by decide)) hS.2.1 (by decide) hj
theorem wr_33 (hS : St n T R) (hj : j < 5) : wrI (hp u n T I J R) 33 (nI j) v = some (hp u n T (up2 I 33 j v) J R) := wrI_hp (show T 33 = (0, [5]) from hS.1.2 33 (by decide)) (hS.lt (by decide)) hS.2.1 (by decide) hj
theorem ln_33 (hS : St n T R) : lnA O (hp u n T I J R) 33 = some (nI 5) := lnA_hp (by decide) (show T 33 = (0, [5]) from hS.1.2 33 (by decide)) (hS.lt (by decide)) hS.2.1
theorem rd_34 (hS : St n T R) (hj : j < 4) : rdI O (hp u n T I J R) 34 (nI j) = some (I 34 j) := rdI_hp (show T 34 = (0, [4]) from hS.1.2 34 (by decide)) (hS.lt (by decide)) hS.2.1 (by decide) hj
theorem wr_34 (hS : St n T R) (hj : j < 4) : wrI (hp u n T I J R) 34 (nI j) v = some (hp u n T (up2 I 34 j v) J R) := wrI_hp (show T 34 = (0, [4]) from hS.1.2 34 (by decide)) (hS.lt (by decide)) hS.2.1 (by decide) hj
theorem ln_34 (hS : St n T R) : lnA O (hp u n T I J R) 34 = some (nI 4) := lnA_hp (by decide) (show T 34 = (0, [4]) from hS.1.2 34 (by decide)) (hS.lt (by decide)) hS.2.1
theorem rd_35 (hS : St n T R) (hj : j < 8) : rdI O (hp u n T I J R) 35 (nI j) = some (I 35 j) := rdI_hp (show T 35 = (0, [8]) from hS.1.2 35 (by decide)) (hS.lt (by decide)) hS.2.1 (by decide) hj
theorem wr_35 (hS : St n T R) (hj : j < 8) : wrI (hp u n T I J R) 35 (nI j) v = some (hp u n T (up2 I 35 j v) J R) := wrI_hp (show T 35 = (0, [8]) from hS.1.2 35 (by decide)) (hS.lt (by decide)) hS.2.1 (by decide) hj
theorem ln_35 (hS : St n T R) : lnA O (hp u n T I J R) 35 = some (nI 8) := lnA_hp (by decide) (show T 35 = (0, [8]) from hS.1.2 35 (by decide)) (hS.lt (by decide)) hS.2.1
theorem rd_36 (hS : St n T R) (hj : j < 8) : rdI O (hp u n T I J R) 36 (nI j) = some (I 36 j) := rdI_hp (show T 36 = (0, [8]) from hS.1.2 36 (by decide)) (hS.lt (by decide)) hS.2.1 (by decide) hj
theorem wr_36 (hS : St n T R) (hj : j < 8) : wrI (hp u n T I J R) 36 (nI j) v = some (hp u n T (up2 I 36 j v) J R) := wrI_hp (show T 36 = (0, [8]) from hS.1.2 36 (by decide)) (hS.lt (by decide)) hS.2.1 (by decide) hj
theorem ln_36 (hS : St n T R) : lnA O (hp u n T I J R) 36 = some (nI 8) := lnA_hp (by decide) (show T 36 = (0, [8]) from hS.1.2 36 (by decide)) (hS.lt (by decide)) hS.2.1
theorem rd_37 (hS : St n T R) (hj : j < 8) : rdI O (hp u n T I J R) 37 (nI j) = some (I 37 j) := rdI_hp (show T 37 = (0, [8]) from hS.1.2 37 (by decide)) (hS.lt (by decide)) hS.2.1 (by decide) hj
theorem wr_37 (hS : St n T R) (hj : j < 8) : wrI (hp u n T I J R) 37 (nI j) v = some (hp u n T (up2 I 37 j v) J R) := wrI_hp (show T 37 = (0, [8]) from hS.1.2 37 (by decide)) (hS.lt (by decide)) hS.2.1 (by decide) hj
theorem ln_37 (hS : St n T R) : lnA O (hp u n T I J R) 37 = some (nI 8) := lnA_hp (by decide) (show T 37 = (0, [8]) from hS.1.2 37 (by decide)) (hS.lt (by decide)) hS.2.1
theorem rd_38 (hS : St n T R) (hj : j < 40) : rdI O (hp u n T I J R) 38 (nI j) = some (I 38 j) := rdI_hp (show T 38 = (0, [40]) from hS.1.2 38 (by decide)) (hS.lt (by decide)) hS.2.1 (by decide) hj
theorem wr_38 (hS : St n T R) (hj : j < 40) : wrI (hp u n T I J R) 38 (nI j) v = some (hp u n T (up2 I 38 j v) J R) := wrI_hp (show T 38 = (0, [40]) from hS.1.2 38 (by decide)) (hS.lt (by decide)) hS.2.1 (by decide) hj
theorem ln_38 (hS : St n T R) : lnA O (hp u n T I J R) 38 = some (nI 40) := lnA_hp (by decide) (show T 38 = (0, [40]) from hS.1.2 38 (by decide)) (hS.lt (by decide)) hS.2.1
theorem rd_39 (hS : St n T R) (hj : j < 8) : rdI O (hp u n T I J R) 39 (nI j) = some (I 39 j) := rdI_hp (show T 39 = (0, [8]) from hS.1.2 39 (by decide)) (hS.lt (by decide)) hS.2.1 (by decide) hj
theorem wr_39 (hS : St n T R) (hj : j < 8) : wrI (hp u n T I J R) 39 (nI j) v = some (hp u n T (up2 I 39 j v) J R) := wrI_hp (show T 39 = (0, [8]) from hS.1.2 39 (by decide)) (hS.lt (by decide)) hS.2.1 (by decide) hj
theorem ln_39 (hS : St n T R) : lnA O (hp u n T I J R) 39 = some (nI 8) := lnA_hp (by decide) (show T 39 = (0, [8]) from hS.1.2 39 (by decide)) (hS.lt (by decide)) hS.2.1
theorem rd_40 (hS : St n T R) (hj : j < 8) : rdI O (hp u n T I J R) 40 (nI j) = some (I 40 j) := rdI_hp (show T 40 = (0, [8]) from hS.1.2 40 (by decide)) (hS.lt (by decide)) hS.2.1 (by decide) hj
theorem wr_40 (hS : St n T R) (hj : j < 8) : wrI (hp u n T I J R) 40 (nI j) v = some (hp u n T (up2 I 40 j v) J R) := wrI_hp (show T 40 = (0, [8]) from hS.1.2 40 (by decide)) (hS.lt (by decide)) hS.2.1 (by decide) hj
theorem ln_40 (hS : St n T R) : lnA O (hp u n T I J R) 40 = some (nI 8) := lnA_hp (by decide) (show T 40 = (0, [8]) from hS.1.2 40 (by decide)) (hS.lt (by decide)) hS.2.1
theorem rd_41 (hS : St n T R) (hj : j < 3) : rdI O (hp u n T I J R) 41 (nI j) = some (I 41 j) := rdI_hp (show T 41 = (0, [3]) from hS.1.2 41 (by decide)) (hS.lt (by decide)) hS.2.1 (by decide) hj
theorem wr_41 (hS : St n T R) (hj : j < 3) : wrI (hp u n T I J R) 41 (nI j) v = some (hp u n T (up2 I 41 j v) J R) := wrI_hp (show T 41 = (0, [3]) from hS.1.2 41 (by decide)) (hS.lt (by decide)) hS.2.1 (by decide) hj
theorem ln_41 (hS : St n T R) : lnA O (hp u n T I J R) 41 = some (nI 3) := lnA_hp (by decide) (show T 41 = (0, [3]) from hS.1.2 41 (by decide)) (hS.lt (by decide)) hS.2.1
theorem rd_42 (hS : St n T R) (hj : j < 6) : rdR O (hp u n T I J R) 42 (nI j) = some (R 42 j) := rdR_hp (by decide) (show T 42 = (5, [6]) from hS.1.2 42 (by decide)) (hS.lt (by decide)) hS.2.1 (by decide) hj
theorem vc_43 (hS : St n T R) : vc O d 2 M 43 as (hp u n T I J R) = ev O d M (.ref 43 :: as) (hp u n T I J R) := vc_hp (show T 43 = (100 + 2, kd2) from hS.1.2 43 (by decide)) (hS.lt (by decide)) hS.2.1
theorem ga_43_0 (hS : St n T R) : gtA (hp u n T I J R) 43 2 0 = some 30 := gtA_hp (show T 43 = (100 + 2, kd2) from hS.1.2 43 (by decide)) rfl (hS.lt (by decide)) hS.2.1 (hS.2.2 (43, 0, 30) (by decide))
theorem ga_43_1 (hS : St n T R) : gtA (hp u n T I J R) 43 2 1 = some 44 := gtA_hp (show T 43 = (100 + 2, kd2) from hS.1.2 43 (by decide)) rfl (hS.lt (by decide)) hS.2.1 (hS.2.2 (43, 1, 44) (by decide))
theorem ga_43_2 (hS : St n T R) : gtA (hp u n T I J R) 43 2 2 = some 45 := gtA_hp (show T 43 = (100 + 2, kd2) from hS.1.2 43 (by decide)) rfl (hS.lt (by decide)) hS.2.1 (hS.2.2 (43, 2, 45) (by decide))
theorem ga_43_3 (hS : St n T R) : gtA (hp u n T I J R) 43 2 3 = some 46 := gtA_hp (show T 43 = (100 + 2, kd2) from hS.1.2 43 (by decide)) rfl (hS.lt (by decide)) hS.2.1 (hS.2.2 (43, 3, 46) (by decide))
theorem ga_43_4 (hS : St n T R) : gtA (hp u n T I J R) 43 2 4 = some 47 := gtA_hp (show T 43 = (100 + 2, kd2) from hS.1.2 43 (by decide)) rfl (hS.lt (by decide)) hS.2.1 (hS.2.2 (43, 4, 47) (by decide))
theorem ga_43_5 (hS : St n T R) : gtA (hp u n T I J R) 43 2 5 = some 48 := gtA_hp (show T 43 = (100 + 2, kd2) from hS.1.2 43 (by decide)) rfl (hS.lt (by decide)) hS.2.1 (hS.2.2 (43, 5, 48) (by decide))
theorem ga_43_6 (hS : St n T R) : gtA (hp u n T I J R) 43 2 6 = some 49 := gtA_hp (show T 43 = (100 + 2, kd2) from hS.1.2 43 (by decide)) rfl (hS.lt (by decide)) hS.2.1 (hS.2.2 (43, 6, 49) (by decide))
theorem ga_43_7 (hS : St n T R) : gtA (hp u n T I J R) 43 2 7 = some 50 := gtA_hp (show T 43 = (100 + 2, kd2) from hS.1.2 43 (by decide)) rfl (hS.lt (by decide)) hS.2.1 (hS.2.2 (43, 7, 50) (by decide))
theorem ga_43_8 (hS : St n T R) : gtA (hp u n T I J R) 43 2 8 = some 51 := gtA_hp (show T 43 = (100 + 2, kd2) from hS.1.2 43 (by decide)) rfl (hS.lt (by decide)) hS.2.1 (hS.2.2 (43, 8, 51) (by decide))
theorem ga_43_9 (hS : St n T R) : gtA (hp u n T I J R) 43 2 9 = some 52 := gtA_hp (show T 43 = (100 + 2, kd2) from hS.1.2 43 (by decide)) rfl (hS.lt (by decide)) hS.2.1 (hS.2.2 (43, 9, 52) (by decide))
theorem ga_43_10 (hS : St n T R) : gtA (hp u n T I J R) 43 2 10 = some 53 := gtA_hp (show T 43 = (100 + 2, kd2) from hS.1.2 43 (by decide)) rfl (hS.lt (by decide)) hS.2.1 (hS.2.2 (43, 10, 53) (by decide))
theorem gi_43_11 (hS : St n T R) : gtI (hp u n T I J R) 43 2 11 = some (I 43 11) := gtI_hp (show T 43 = (100 + 2, kd2) from hS.1.2 43 (by decide)) rfl (hS.lt (by decide)) hS.2.1
theorem pi_43_11 (hS : St n T R) : ptI (hp u n T I J R) 43 2 11 v = some (hp u n T (up2 I 43 11 v) J R) := ptI_hp (show T 43 = (100 + 2, kd2) from hS.1.2 43 (by decide)) rfl (hS.lt (by decide)) hS.2.1
theorem gi_43_12 (hS : St n T R) : gtI (hp u n T I J R) 43 2 12 = some (I 43 12) := gtI_hp (show T 43 = (100 + 2, kd2) from hS.1.2 43 (by decide)) rfl (hS.lt (by decide)) hS.2.1
theorem pi_43_12 (hS : St n T R) : ptI (hp u n T I J R) 43 2 12 v = some (hp u n T (up2 I 43 12 v) J R) := ptI_hp (show T 43 = (100 + 2, kd2) from hS.1.2 43 (by decide)) rfl (hS.lt (by decide)) hS.2.1
theorem gi_43_13 (hS : St n T R) : gtI (hp u n T I J R) 43 2 13 = some (I 43 13) := gtI_hp (show T 43 = (100 + 2, kd2) from hS.1.2 43 (by decide)) rfl (hS.lt (by decide)) hS.2.1
theorem pi_43_13 (hS : St n T R) : ptI (hp u n T I J R) 43 2 13 v = some (hp u n T (up2 I 43 13 v) J R) := ptI_hp (show T 43 = (100 + 2, kd2) from hS.1.2 43 (by decide)) rfl (hS.lt (by decide)) hS.2.1
theorem gi_43_14 (hS : St n T R) : gtI (hp u n T I J R) 43 2 14 = some (I 43 14) := gtI_hp (show T 43 = (100 + 2, kd2) from hS.1.2 43 (by decide)) rfl (hS.lt (by decide)) hS.2.1
theorem pi_43_14 (hS : St n T R) : ptI (hp u n T I J R) 43 2 14 v = some (hp u n T (up2 I 43 14 v) J R) := ptI_hp (show T 43 = (100 + 2, kd2) from hS.1.2 43 (by decide)) rfl (hS.lt (by decide)) hS.2.1
theorem gi_43_15 (hS : St n T R) : gtI (hp u n T I J R) 43 2 15 = some (I 43 15) := gtI_hp (show T 43 = (100 + 2, kd2) from hS.1.2 43 (by decide)) rfl (hS.lt (by decide)) hS.2.1
theorem pi_43_15 (hS : St n T R) : ptI (hp u n T I J R) 43 2 15 v = some (hp u n T (up2 I 43 15 v) J R) := ptI_hp (show T 43 = (100 + 2, kd2) from hS.1.2 43 (by decide)) rfl (hS.lt (by decide)) hS.2.1
theorem gi_43_16 (hS : St n T R) : gtI (hp u n T I J R) 43 2 16 = some (I 43 16) := gtI_hp (show T 43 = (100 + 2, kd2) from hS.1.2 43 (by decide)) rfl (hS.lt (by decide)) hS.2.1
theorem pi_43_16 (hS : St n T R) : ptI (hp u n T I J R) 43 2 16 v = some (hp u n T (up2 I 43 16 v) J R) := ptI_hp (show T 43 = (100 + 2, kd2) from hS.1.2 43 (by decide)) rfl (hS.lt (by decide)) hS.2.1
theorem gi_43_17 (hS : St n T R) : gtI (hp u n T I J R) 43 2 17 = some (I 43 17) := gtI_hp (show T 43 = (100 + 2, kd2) from hS.1.2 43 (by decide)) rfl (hS.lt (by decide)) hS.2.1
theorem pi_43_17 (hS : St n T R) : ptI (hp u n T I J R) 43 2 17 v = some (hp u n T (up2 I 43 17 v) J R) := ptI_hp (show T 43 = (100 + 2, kd2) from hS.1.2 43 (by decide)) rfl (hS.lt (by decide)) hS.2.1
theorem rd_44 (hS : St n T R) (hj : j < 5) : rdI O (hp u n T I J R) 44 (nI j) = some (I 44 j) := rdI_hp (show T 44 = (0, [5]) from hS.1.2 44 (by decide)) (hS.lt (by decide)) hS.2.1 (by decide) hj
theorem wr_44 (hS : St n T R) (hj : j < 5) : wrI (hp u n T I J R) 44 (nI j) v = some (hp u n T (up2 I 44 j v) J R) := wrI_hp (show T 44 = (0, [5]) from hS.1.2 44 (by decide)) (hS.lt (by decide)) hS.2.1 (by decide) hj
theorem ln_44 (hS : St n T R) : lnA O (hp u n T I J R) 44 = some (nI 5) := lnA_hp (by decide) (show T 44 = (0, [5]) from hS.1.2 44 (by decide)) (hS.lt (by decide)) hS.2.1
theorem rd_45 (hS : St n T R) (hj : j < 4) : rdI O (hp u n T I J R) 45 (nI j) = some (I 45 j) := rdI_hp (show T 45 = (0, [4]) from hS.1.2 45 (by decide)) (hS.lt (by decide)) hS.2.1 (by decide) hj
theorem wr_45 (hS : St n T R) (hj : j < 4) : wrI (hp u n T I J R) 45 (nI j) v = some (hp u n T (up2 I 45 j v) J R) := wrI_hp (show T 45 = (0, [4]) from hS.1.2 45 (by decide)) (hS.lt (by decide)) hS.2.1 (by decide) hj
theorem ln_45 (hS : St n T R) : lnA O (hp u n T I J R) 45 = some (nI 4) := lnA_hp (by decide) (show T 45 = (0, [4]) from hS.1.2 45 (by decide)) (hS.lt (by decide)) hS.2.1
theorem rd_46 (hS : St n T R) (hj : j < 8) : rdI O (hp u n T I J R) 46 (nI j) = some (I 46 j) := rdI_hp (show T 46 = (0, [8]) from hS.1.2 46 (by decide)) (hS.lt (by decide)) hS.2.1 (by decide) hj
theorem wr_46 (hS : St n T R) (hj : j < 8) : wrI (hp u n T I J R) 46 (nI j) v = some (hp u n T (up2 I 46 j v) J R) := wrI_hp (show T 46 = (0, [8]) from hS.1.2 46 (by decide)) (hS.lt (by decide)) hS.2.1 (by decide) hj
theorem ln_46 (hS : St n T R) : lnA O (hp u n T I J R) 46 = some (nI 8) := lnA_hp (by decide) (show T 46 = (0, [8]) from hS.1.2 46 (by decide)) (hS.lt (by decide)) hS.2.1
theorem rd_47 (hS : St n T R) (hj : j < 8) : rdI O (hp u n T I J R) 47 (nI j) = some (I 47 j) := rdI_hp (show T 47 = (0, [8]) from hS.1.2 47 (by decide)) (hS.lt (by decide)) hS.2.1 (by decide) hj
theorem wr_47 (hS : St n T R) (hj : j < 8) : wrI (hp u n T I J R) 47 (nI j) v = some (hp u n T (up2 I 47 j v) J R) := wrI_hp (show T 47 = (0, [8]) from hS.1.2 47 (by decide)) (hS.lt (by decide)) hS.2.1 (by decide) hj
theorem ln_47 (hS : St n T R) : lnA O (hp u n T I J R) 47 = some (nI 8) := lnA_hp (by decide) (show T 47 = (0, [8]) from hS.1.2 47 (by decide)) (hS.lt (by decide)) hS.2.1
theorem rd_48 (hS : St n T R) (hj : j < 8) : rdI O (hp u n T I J R) 48 (nI j) = some (I 48 j) := rdI_hp (show T 48 = (0, [8]) from hS.1.2 48 (by decide)) (hS.lt (by decide)) hS.2.1 (by decide) hj
theorem wr_48 (hS : St n T R) (hj : j < 8) : wrI (hp u n T I J R) 48 (nI j) v = some (hp u n T (up2 I 48 j v) J R) := wrI_hp (show T 48 = (0, [8]) from hS.1.2 48 (by decide)) (hS.lt (by decide)) hS.2.1 (by decide) hj
theorem ln_48 (hS : St n T R) : lnA O (hp u n T I J R) 48 = some (nI 8) := lnA_hp (by decide) (show T 48 = (0, [8]) from hS.1.2 48 (by decide)) (hS.lt (by decide)) hS.2.1
theorem rd_49 (hS : St n T R) (hj : j < 40) : rdI O (hp u n T I J R) 49 (nI j) = some (I 49 j) := rdI_hp (show T 49 = (0, [40]) from hS.1.2 49 (by decide)) (hS.lt (by decide)) hS.2.1 (by decide) hj
theorem wr_49 (hS : St n T R) (hj : j < 40) : wrI (hp u n T I J R) 49 (nI j) v = some (hp u n T (up2 I 49 j v) J R) := wrI_hp (show T 49 = (0, [40]) from hS.1.2 49 (by decide)) (hS.lt (by decide)) hS.2.1 (by decide) hj
theorem ln_49 (hS : St n T R) : lnA O (hp u n T I J R) 49 = some (nI 40) := lnA_hp (by decide) (show T 49 = (0, [40]) from hS.1.2 49 (by decide)) (hS.lt (by decide)) hS.2.1
theorem rd_50 (hS : St n T R) (hj : j < 8) : rdI O (hp u n T I J R) 50 (nI j) = some (I 50 j) := rdI_hp (show T 50 = (0, [8]) from hS.1.2 50 (by decide)) (hS.lt (by decide)) hS.2.1 (by decide) hj
theorem wr_50 (hS : St n T R) (hj : j < 8) : wrI (hp u n T I J R) 50 (nI j) v = some (hp u n T (up2 I 50 j v) J R) := wrI_hp (show T 50 = (0, [8]) from hS.1.2 50 (by decide)) (hS.lt (by decide)) hS.2.1 (by decide) hj
theorem ln_50 (hS : St n T R) : lnA O (hp u n T I J R) 50 = some (nI 8) := lnA_hp (by decide) (show T 50 = (0, [8]) from hS.1.2 50 (by decide)) (hS.lt (by decide)) hS.2.1
theorem rd_51 (hS : St n T R) (hj : j < 8) : rdI O (hp u n T I J R) 51 (nI j) = some (I 51 j) := rdI_hp (show T 51 = (0, [8]) from hS.1.2 51 (by decide)) (hS.lt (by decide)) hS.2.1 (by decide) hj
theorem wr_51 (hS : St n T R) (hj : j < 8) : wrI (hp u n T I J R) 51 (nI j) v = some (hp u n T (up2 I 51 j v) J R) := wrI_hp (show T 51 = (0, [8]) from hS.1.2 51 (by decide)) (hS.lt (by decide)) hS.2.1 (by decide) hj
theorem ln_51 (hS : St n T R) : lnA O (hp u n T I J R) 51 = some (nI 8) := lnA_hp (by decide) (show T 51 = (0, [8]) from hS.1.2 51 (by decide)) (hS.lt (by decide)) hS.2.1
theorem rd_52 (hS : St n T R) (hj : j < 3) : rdI O (hp u n T I J R) 52 (nI j) = some (I 52 j) := rdI_hp (show T 52 = (0, [3]) from hS.1.2 52 (by decide)) (hS.lt (by decide)) hS.2.1 (by decide) hj
theorem wr_52 (hS : St n T R) (hj : j < 3) : wrI (hp u n T I J R) 52 (nI j) v = some (hp u n T (up2 I 52 j v) J R) := wrI_hp (show T 52 = (0, [3]) from hS.1.2 52 (by decide)) (hS.lt (by decide)) hS.2.1 (by decide) hj
theorem ln_52 (hS : St n T R) : lnA O (hp u n T I J R) 52 = some (nI 3) := lnA_hp (by decide) (show T 52 = (0, [3]) from hS.1.2 52 (by decide)) (hS.lt (by decide)) hS.2.1
theorem rd_53 (hS : St n T R) (hj : j < 6) : rdR O (hp u n T I J R) 53 (nI j) = some (R 53 j) := rdR_hp (by decide) (show T 53 = (5, [6]) from hS.1.2 53 (by decide)) (hS.lt (by decide)) hS.2.1 (by decide) hj
theorem vc_54 (hS : St n T R) : vc O d 9 M 54 as (hp u n T I J R) = ev O d M (.ref 54 :: as) (hp u n T I J R) := vc_hp (show T 54 = (100 + 9, kd9) from hS.1.2 54 (by decide)) (hS.lt (by decide)) hS.2.1
theorem ga_54_0 (hS : St n T R) : gtA (hp u n T I J R) 54 9 0 = some 28 := gtA_hp (show T 54 = (100 + 9, kd9) from hS.1.2 54 (by decide)) rfl (hS.lt (by decide)) hS.2.1 (hS.2.2 (54, 0, 28) (by decide))
theorem ga_54_1 (hS : St n T R) : gtA (hp u n T I J R) 54 9 1 = some 55 := gtA_hp (show T 54 = (100 + 9, kd9) from hS.1.2 54 (by decide)) rfl (hS.lt (by decide)) hS.2.1 (hS.2.2 (54, 1, 55) (by decide))
theorem gi_54_4 (hS : St n T R) : gtI (hp u n T I J R) 54 9 4 = some (I 54 4) := gtI_hp (show T 54 = (100 + 9, kd9) from hS.1.2 54 (by decide)) rfl (hS.lt (by decide)) hS.2.1
theorem pi_54_4 (hS : St n T R) : ptI (hp u n T I J R) 54 9 4 v = some (hp u n T (up2 I 54 4 v) J R) := ptI_hp (show T 54 = (100 + 9, kd9) from hS.1.2 54 (by decide)) rfl (hS.lt (by decide)) hS.2.1
theorem gi_54_5 (hS : St n T R) : gtI (hp u n T I J R) 54 9 5 = some (I 54 5) := gtI_hp (show T 54 = (100 + 9, kd9) from hS.1.2 54 (by decide)) rfl (hS.lt (by decide)) hS.2.1
theorem pi_54_5 (hS : St n T R) : ptI (hp u n T I J R) 54 9 5 v = some (hp u n T (up2 I 54 5 v) J R) := ptI_hp (show T 54 = (100 + 9, kd9) from hS.1.2 54 (by decide)) rfl (hS.lt (by decide)) hS.2.1
theorem rd_55 (hS : St n T R) (hj : j < 16) : rdI O (hp u n T I J R) 55 (nI j) = some (I 55 j) := rdI_hp (show T 55 = (0, [16]) from hS.1.2 55 (by decide)) (hS.lt (by decide)) hS.2.1 (by decide) hj
theorem wr_55 (hS : St n T R) (hj : j < 16) : wrI (hp u n T I J R) 55 (nI j) v = some (hp u n T (up2 I 55 j v) J R) := wrI_hp (show T 55 = (0, [16]) from hS.1.2 55 (by decide)) (hS.lt (by decide)) hS.2.1 (by decide) hj
theorem ln_55 (hS : St n T R) : lnA O (hp u n T I J R) 55 = some (nI 16) := lnA_hp (by decide) (show T 55 = (0, [16]) from hS.1.2 55 (by decide)) (hS.lt (by decide)) hS.2.1
theorem vc_56 (hS : St n T R) : vc O d 3 M 56 as (hp u n T I J R) = ev O d M (.ref 56 :: as) (hp u n T I J R) := vc_hp (show T 56 = (100 + 3, kd3) from hS.1.2 56 (by decide)) (hS.lt (by decide)) hS.2.1
theorem ga_56_0 (hS : St n T R) : gtA (hp u n T I J R) 56 3 0 = some 57 := gtA_hp (show T 56 = (100 + 3, kd3) from hS.1.2 56 (by decide)) rfl (hS.lt (by decide)) hS.2.1 (hS.2.2 (56, 0, 57) (by decide))
theorem gi_56_1 (hS : St n T R) : gtI (hp u n T I J R) 56 3 1 = some (I 56 1) := gtI_hp (show T 56 = (100 + 3, kd3) from hS.1.2 56 (by decide)) rfl (hS.lt (by decide)) hS.2.1
theorem pi_56_1 (hS : St n T R) : ptI (hp u n T I J R) 56 3 1 v = some (hp u n T (up2 I 56 1 v) J R) := ptI_hp (show T 56 = (100 + 3, kd3) from hS.1.2 56 (by decide)) rfl (hS.lt (by decide)) hS.2.1
theorem gi_56_2 (hS : St n T R) : gtI (hp u n T I J R) 56 3 2 = some (I 56 2) := gtI_hp (show T 56 = (100 + 3, kd3) from hS.1.2 56 (by decide)) rfl (hS.lt (by decide)) hS.2.1
theorem pi_56_2 (hS : St n T R) : ptI (hp u n T I J R) 56 3 2 v = some (hp u n T (up2 I 56 2 v) J R) := ptI_hp (show T 56 = (100 + 3, kd3) from hS.1.2 56 (by decide)) rfl (hS.lt (by decide)) hS.2.1
theorem rd_57 (hS : St n T R) (hj : j < 391) : rdI O (hp u n T I J R) 57 (nI j) = some (I 57 j) := rdI_hp (show T 57 = (0, [391]) from hS.1.2 57 (by decide)) (hS.lt (by decide)) hS.2.1 (by decide) hj
theorem wr_57 (hS : St n T R) (hj : j < 391) : wrI (hp u n T I J R) 57 (nI j) v = some (hp u n T (up2 I 57 j v) J R) := wrI_hp (show T 57 = (0, [391]) from hS.1.2 57 (by decide)) (hS.lt (by decide)) hS.2.1 (by decide) hj
theorem ln_57 (hS : St n T R) : lnA O (hp u n T I J R) 57 = some (nI 391) := lnA_hp (by decide) (show T 57 = (0, [391]) from hS.1.2 57 (by decide)) (hS.lt (by decide)) hS.2.1
theorem vc_58 (hS : St n T R) : vc O d 2 M 58 as (hp u n T I J R) = ev O d M (.ref 58 :: as) (hp u n T I J R) := vc_hp (show T 58 = (100 + 2, kd2) from hS.1.2 58 (by decide)) (hS.lt (by decide)) hS.2.1
theorem ga_58_0 (hS : St n T R) : gtA (hp u n T I J R) 58 2 0 = some 30 := gtA_hp (show T 58 = (100 + 2, kd2) from hS.1.2 58 (by decide)) rfl (hS.lt (by decide)) hS.2.1 (hS.2.2 (58, 0, 30) (by decide))
theorem ga_58_1 (hS : St n T R) : gtA (hp u n T I J R) 58 2 1 = some 59 := gtA_hp (show T 58 = (100 + 2, kd2) from hS.1.2 58 (by decide)) rfl (hS.lt (by decide)) hS.2.1 (hS.2.2 (58, 1, 59) (by decide))
theorem ga_58_2 (hS : St n T R) : gtA (hp u n T I J R) 58 2 2 = some 60 := gtA_hp (show T 58 = (100 + 2, kd2) from hS.1.2 58 (by decide)) rfl (hS.lt (by decide)) hS.2.1 (hS.2.2 (58, 2, 60) (by decide))
theorem ga_58_3 (hS : St n T R) : gtA (hp u n T I J R) 58 2 3 = some 61 := gtA_hp (show T 58 = (100 + 2, kd2) from hS.1.2 58 (by decide)) rfl (hS.lt (by decide)) hS.2.1 (hS.2.2 (58, 3, 61) (by decide))
theorem ga_58_4 (hS : St n T R) : gtA (hp u n T I J R) 58 2 4 = some 62 := gtA_hp (show T 58 = (100 + 2, kd2) from hS.1.2 58 (by decide)) rfl (hS.lt (by decide)) hS.2.1 (hS.2.2 (58, 4, 62) (by decide))
theorem ga_58_5 (hS : St n T R) : gtA (hp u n T I J R) 58 2 5 = some 63 := gtA_hp (show T 58 = (100 + 2, kd2) from hS.1.2 58 (by decide)) rfl (hS.lt (by decide)) hS.2.1 (hS.2.2 (58, 5, 63) (by decide))
theorem ga_58_6 (hS : St n T R) : gtA (hp u n T I J R) 58 2 6 = some 64 := gtA_hp (show T 58 = (100 + 2, kd2) from hS.1.2 58 (by decide)) rfl (hS.lt (by decide)) hS.2.1 (hS.2.2 (58, 6, 64) (by decide))
theorem ga_58_7 (hS : St n T R) : gtA (hp u n T I J R) 58 2 7 = some 65 := gtA_hp (show T 58 = (100 + 2, kd2) from hS.1.2 58 (by decide)) rfl (hS.lt (by decide)) hS.2.1 (hS.2.2 (58, 7, 65) (by decide))
theorem ga_58_8 (hS : St n T R) : gtA (hp u n T I J R) 58 2 8 = some 66 := gtA_hp (show T 58 = (100 + 2, kd2) from hS.1.2 58 (by decide)) rfl (hS.lt (by decide)) hS.2.1 (hS.2.2 (58, 8, 66) (by decide))
theorem ga_58_9 (hS : St n T R) : gtA (hp u n T I J R) 58 2 9 = some 67 := gtA_hp (show T 58 = (100 + 2, kd2) from hS.1.2 58 (by decide)) rfl (hS.lt (by decide)) hS.2.1 (hS.2.2 (58, 9, 67) (by decide))
theorem ga_58_10 (hS : St n T R) : gtA (hp u n T I J R) 58 2 10 = some 68 := gtA_hp (show T 58 = (100 + 2, kd2) from hS.1.2 58 (by decide)) rfl (hS.lt (by decide)) hS.2.1 (hS.2.2 (58, 10, 68) (by decide))
theorem gi_58_11 (hS : St n T R) : gtI (hp u n T I J R) 58 2 11 = some (I 58 11) := gtI_hp (show T 58 = (100 + 2, kd2) from hS.1.2 58 (by decide)) rfl (hS.lt (by decide)) hS.2.1
theorem pi_58_11 (hS : St n T R) : ptI (hp u n T I J R) 58 2 11 v = some (hp u n T (up2 I 58 11 v) J R) := ptI_hp (show T 58 = (100 + 2, kd2) from hS.1.2 58 (by decide)) rfl (hS.lt (by decide)) hS.2.1
theorem gi_58_12 (hS : St n T R) : gtI (hp u n T I J R) 58 2 12 = some (I 58 12) := gtI_hp (show T 58 = (100 + 2, kd2) from hS.1.2 58 (by decide)) rfl (hS.lt (by decide)) hS.2.1
theorem pi_58_12 (hS : St n T R) : ptI (hp u n T I J R) 58 2 12 v = some (hp u n T (up2 I 58 12 v) J R) := ptI_hp (show T 58 = (100 + 2, kd2) from hS.1.2 58 (by decide)) rfl (hS.lt (by decide)) hS.2.1
theorem gi_58_13 (hS : St n T R) : gtI (hp u n T I J R) 58 2 13 = some (I 58 13) := gtI_hp (show T 58 = (100 + 2, kd2) from hS.1.2 58 (by decide)) rfl (hS.lt (by decide)) hS.2.1
theorem pi_58_13 (hS : St n T R) : ptI (hp u n T I J R) 58 2 13 v = some (hp u n T (up2 I 58 13 v) J R) := ptI_hp (show T 58 = (100 + 2, kd2) from hS.1.2 58 (by decide)) rfl (hS.lt (by decide)) hS.2.1
theorem gi_58_14 (hS : St n T R) : gtI (hp u n T I J R) 58 2 14 = some (I 58 14) := gtI_hp (show T 58 = (100 + 2, kd2) from hS.1.2 58 (by decide)) rfl (hS.lt (by decide)) hS.2.1
theorem pi_58_14 (hS : St n T R) : ptI (hp u n T I J R) 58 2 14 v = some (hp u n T (up2 I 58 14 v) J R) := ptI_hp (show T 58 = (100 + 2, kd2) from hS.1.2 58 (by decide)) rfl (hS.lt (by decide)) hS.2.1
theorem gi_58_15 (hS : St n T R) : gtI (hp u n T I J R) 58 2 15 = some (I 58 15) := gtI_hp (show T 58 = (100 + 2, kd2) from hS.1.2 58 (by decide)) rfl (hS.lt (by decide)) hS.2.1
theorem pi_58_15 (hS : St n T R) : ptI (hp u n T I J R) 58 2 15 v = some (hp u n T (up2 I 58 15 v) J R) := ptI_hp (show T 58 = (100 + 2, kd2) from hS.1.2 58 (by decide)) rfl (hS.lt (by decide)) hS.2.1
theorem gi_58_16 (hS : St n T R) : gtI (hp u n T I J R) 58 2 16 = some (I 58 16) := gtI_hp (show T 58 = (100 + 2, kd2) from hS.1.2 58 (by decide)) rfl (hS.lt (by decide)) hS.2.1
theorem pi_58_16 (hS : St n T R) : ptI (hp u n T I J R) 58 2 16 v = some (hp u n T (up2 I 58 16 v) J R) := ptI_hp (show T 58 = (100 + 2, kd2) from hS.1.2 58 (by decide)) rfl (hS.lt (by decide)) hS.2.1
theorem gi_58_17 (hS : St n T R) : gtI (hp u n T I J R) 58 2 17 = some (I 58 17) := gtI_hp (show T 58 = (100 + 2, kd2) from hS.1.2 58 (by decide)) rfl (hS.lt (by decide)) hS.2.1
theorem pi_58_17 (hS : St n T R) : ptI (hp u n T I J R) 58 2 17 v = some (hp u n T (up2 I 58 17 v) J R) := ptI_hp (show T 58 = (100 + 2, kd2) from hS.1.2 58 (by decide)) rfl (hS.lt (by decide)) hS.2.1
theorem rd_59 (hS : St n T R) (hj : j < 5) : rdI O (hp u n T I J R) 59 (nI j) = some (I 59 j) := rdI_hp (show T 59 = (0, [5]) from hS.1.2 59 (by decide)) (hS.lt (by decide)) hS.2.1 (by decide) hj
theorem wr_59 (hS : St n T R) (hj : j < 5) : wrI (hp u n T I J R) 59 (nI j) v = some (hp u n T (up2 I 59 j v) J R) := wrI_hp (show T 59 = (0, [5]) from hS.1.2 59 (by decide)) (hS.lt (by decide)) hS.2.1 (by decide) hj
theorem ln_59 (hS : St n T R) : lnA O (hp u n T I J R) 59 = some (nI 5) := lnA_hp (by decide) (show T 59 = (0, [5]) from hS.1.2 59 (by decide)) (hS.lt (by decide)) hS.2.1
theorem rd_60 (hS : St n T R) (hj : j < 4) : rdI O (hp u n T I J R) 60 (nI j) = some (I 60 j) := rdI_hp (show T 60 = (0, [4]) from hS.1.2 60 (by decide)) (hS.lt (by decide)) hS.2.1 (by decide) hj
theorem wr_60 (hS : St n T R) (hj : j < 4) : wrI (hp u n T I J R) 60 (nI j) v = some (hp u n T (up2 I 60 j v) J R) := wrI_hp (show T 60 = (0, [4]) from hS.1.2 60 (by decide)) (hS.lt (by decide)) hS.2.1 (by decide) hj
theorem ln_60 (hS : St n T R) : lnA O (hp u n T I J R) 60 = some (nI 4) := lnA_hp (by decide) (show T 60 = (0, [4]) from hS.1.2 60 (by decide)) (hS.lt (by decide)) hS.2.1
theorem rd_61 (hS : St n T R) (hj : j < 8) : rdI O (hp u n T I J R) 61 (nI j) = some (I 61 j) := rdI_hp (show T 61 = (0, [8]) from hS.1.2 61 (by decide)) (hS.lt (by decide)) hS.2.1 (by decide) hj
theorem wr_61 (hS : St n T R) (hj : j < 8) : wrI (hp u n T I J R) 61 (nI j) v = some (hp u n T (up2 I 61 j v) J R) := wrI_hp (show T 61 = (0, [8]) from hS.1.2 61 (by decide)) (hS.lt (by decide)) hS.2.1 (by decide) hj
theorem ln_61 (hS : St n T R) : lnA O (hp u n T I J R) 61 = some (nI 8) := lnA_hp (by decide) (show T 61 = (0, [8]) from hS.1.2 61 (by decide)) (hS.lt (by decide)) hS.2.1
theorem rd_62 (hS : St n T R) (hj : j < 8) : rdI O (hp u n T I J R) 62 (nI j) = some (I 62 j) := rdI_hp (show T 62 = (0, [8]) from hS.1.2 62 (by decide)) (hS.lt (by decide)) hS.2.1 (by decide) hj
theorem wr_62 (hS : St n T R) (hj : j < 8) : wrI (hp u n T I J R) 62 (nI j) v = some (hp u n T (up2 I 62 j v) J R) := wrI_hp (show T 62 = (0, [8]) from hS.1.2 62 (by decide)) (hS.lt (by decide)) hS.2.1 (by decide) hj
theorem ln_62 (hS : St n T R) : lnA O (hp u n T I J R) 62 = some (nI 8) := lnA_hp (by decide) (show T 62 = (0, [8]) from hS.1.2 62 (by decide)) (hS.lt (by decide)) hS.2.1
theorem rd_63 (hS : St n T R) (hj : j < 8) : rdI O (hp u n T I J R) 63 (nI j) = some (I 63 j) := rdI_hp (show T 63 = (0, [8]) from hS.1.2 63 (by decide)) (hS.lt (by decide)) hS.2.1 (by decide) hj
theorem wr_63 (hS : St n T R) (hj : j < 8) : wrI (hp u n T I J R) 63 (nI j) v = some (hp u n T (up2 I 63 j v) J R) := wrI_hp (show T 63 = (0, [8]) from hS.1.2 63 (by decide)) (hS.lt (by decide)) hS.2.1 (by decide) hj
theorem ln_63 (hS : St n T R) : lnA O (hp u n T I J R) 63 = some (nI 8) := lnA_hp (by decide) (show T 63 = (0, [8]) from hS.1.2 63 (by decide)) (hS.lt (by decide)) hS.2.1
theorem rd_64 (hS : St n T R) (hj : j < 40) : rdI O (hp u n T I J R) 64 (nI j) = some (I 64 j) := rdI_hp (show T 64 = (0, [40]) from hS.1.2 64 (by decide)) (hS.lt (by decide)) hS.2.1 (by decide) hj
theorem wr_64 (hS : St n T R) (hj : j < 40) : wrI (hp u n T I J R) 64 (nI j) v = some (hp u n T (up2 I 64 j v) J R) := wrI_hp (show T 64 = (0, [40]) from hS.1.2 64 (by decide)) (hS.lt (by decide)) hS.2.1 (by decide) hj
theorem ln_64 (hS : St n T R) : lnA O (hp u n T I J R) 64 = some (nI 40) := lnA_hp (by decide) (show T 64 = (0, [40]) from hS.1.2 64 (by decide)) (hS.lt (by decide)) hS.2.1
theorem rd_65 (hS : St n T R) (hj : j < 8) : rdI O (hp u n T I J R) 65 (nI j) = some (I 65 j) := rdI_hp (show T 65 = (0, [8]) from hS.1.2 65 (by decide)) (hS.lt (by decide)) hS.2.1 (by decide) hj
theorem wr_65 (hS : St n T R) (hj : j < 8) : wrI (hp u n T I J R) 65 (nI j) v = some (hp u n T (up2 I 65 j v) J R) := wrI_hp (show T 65 = (0, [8]) from hS.1.2 65 (by decide)) (hS.lt (by decide)) hS.2.1 (by decide) hj
theorem ln_65 (hS : St n T R) : lnA O (hp u n T I J R) 65 = some (nI 8) := lnA_hp (by decide) (show T 65 = (0, [8]) from hS.1.2 65 (by decide)) (hS.lt (by decide)) hS.2.1
theorem rd_66 (hS : St n T R) (hj : j < 8) : rdI O (hp u n T I J R) 66 (nI j) = some (I 66 j) := rdI_hp (show T 66 = (0, [8]) from hS.1.2 66 (by decide)) (hS.lt (by decide)) hS.2.1 (by decide) hj
theorem wr_66 (hS : St n T R) (hj : j < 8) : wrI (hp u n T I J R) 66 (nI j) v = some (hp u n T (up2 I 66 j v) J R) := wrI_hp (show T 66 = (0, [8]) from hS.1.2 66 (by decide)) (hS.lt (by decide)) hS.2.1 (by decide) hj
theorem ln_66 (hS : St n T R) : lnA O (hp u n T I J R) 66 = some (nI 8) := lnA_hp (by decide) (show T 66 = (0, [8]) from hS.1.2 66 (by decide)) (hS.lt (by decide)) hS.2.1
theorem rd_67 (hS : St n T R) (hj : j < 3) : rdI O (hp u n T I J R) 67 (nI j) = some (I 67 j) := rdI_hp (show T 67 = (0, [3]) from hS.1.2 67 (by decide)) (hS.lt (by decide)) hS.2.1 (by decide) hj
theorem wr_67 (hS : St n T R) (hj : j < 3) : wrI (hp u n T I J R) 67 (nI j) v = some (hp u n T (up2 I 67 j v) J R) := wrI_hp (show T 67 = (0, [3]) from hS.1.2 67 (by decide)) (hS.lt (by decide)) hS.2.1 (by decide) hj
theorem ln_67 (hS : St n T R) : lnA O (hp u n T I J R) 67 = some (nI 3) := lnA_hp (by decide) (show T 67 = (0, [3]) from hS.1.2 67 (by decide)) (hS.lt (by decide)) hS.2.1
theorem rd_68 (hS : St n T R) (hj : j < 6) : rdR O (hp u n T I J R) 68 (nI j) = some (R 68 j) := rdR_hp (by decide) (show T 68 = (5, [6]) from hS.1.2 68 (by decide)) (hS.lt (by decide)) hS.2.1 (by decide) hj
theorem vc_69 (hS : St n T R) : vc O d 11 M 69 as (hp u n T I J R) = ev O d M (.ref 69 :: as) (hp u n T I J R) := vc_hp (show T 69 = (100 + 11, kd11) from hS.1.2 69 (by decide)) (hS.lt (by decide)) hS.2.1
theorem gi_69_0 (hS : St n T R) : gtI (hp u n T I J R) 69 11 0 = some (I 69 0) := gtI_hp (show T 69 = (100 + 11, kd11) from hS.1.2 69 (by decide)) rfl (hS.lt (by decide)) hS.2.1
theorem pi_69_0 (hS : St n T R) : ptI (hp u n T I J R) 69 11 0 v = some (hp u n T (up2 I 69 0 v) J R) := ptI_hp (show T 69 = (100 + 11, kd11) from hS.1.2 69 (by decide)) rfl (hS.lt (by decide)) hS.2.1
theorem gi_69_1 (hS : St n T R) : gtI (hp u n T I J R) 69 11 1 = some (I 69 1) := gtI_hp (show T 69 = (100 + 11, kd11) from hS.1.2 69 (by decide)) rfl (hS.lt (by decide)) hS.2.1
theorem pi_69_1 (hS : St n T R) : ptI (hp u n T I J R) 69 11 1 v = some (hp u n T (up2 I 69 1 v) J R) := ptI_hp (show T 69 = (100 + 11, kd11) from hS.1.2 69 (by decide)) rfl (hS.lt (by decide)) hS.2.1
theorem ga_69_2 (hS : St n T R) : gtA (hp u n T I J R) 69 11 2 = some 70 := gtA_hp (show T 69 = (100 + 11, kd11) from hS.1.2 69 (by decide)) rfl (hS.lt (by decide)) hS.2.1 (hS.2.2 (69, 2, 70) (by decide))
theorem ga_69_3 (hS : St n T R) : gtA (hp u n T I J R) 69 11 3 = some 71 := gtA_hp (show T 69 = (100 + 11, kd11) from hS.1.2 69 (by decide)) rfl (hS.lt (by decide)) hS.2.1 (hS.2.2 (69, 3, 71) (by decide))
theorem ga_69_4 (hS : St n T R) : gtA (hp u n T I J R) 69 11 4 = some 72 := gtA_hp (show T 69 = (100 + 11, kd11) from hS.1.2 69 (by decide)) rfl (hS.lt (by decide)) hS.2.1 (hS.2.2 (69, 4, 72) (by decide))
theorem ga_69_5 (hS : St n T R) : gtA (hp u n T I J R) 69 11 5 = some 73 := gtA_hp (show T 69 = (100 + 11, kd11) from hS.1.2 69 (by decide)) rfl (hS.lt (by decide)) hS.2.1 (hS.2.2 (69, 5, 73) (by decide))
theorem ga_69_6 (hS : St n T R) : gtA (hp u n T I J R) 69 11 6 = some 74 := gtA_hp (show T 69 = (100 + 11, kd11) from hS.1.2 69 (by decide)) rfl (hS.lt (by decide)) hS.2.1 (hS.2.2 (69, 6, 74) (by decide))
theorem ga_69_7 (hS : St n T R) : gtA (hp u n T I J R) 69 11 7 = some 75 := gtA_hp (show T 69 = (100 + 11, kd11) from hS.1.2 69 (by decide)) rfl (hS.lt (by decide)) hS.2.1 (hS.2.2 (69, 7, 75) (by decide))
theorem gi_69_8 (hS : St n T R) : gtI (hp u n T I J R) 69 11 8 = some (I 69 8) := gtI_hp (show T 69 = (100 + 11, kd11) from hS.1.2 69 (by decide)) rfl (hS.lt (by decide)) hS.2.1
theorem pi_69_8 (hS : St n T R) : ptI (hp u n T I J R) 69 11 8 v = some (hp u n T (up2 I 69 8 v) J R) := ptI_hp (show T 69 = (100 + 11, kd11) from hS.1.2 69 (by decide)) rfl (hS.lt (by decide)) hS.2.1
theorem ga_69_9 (hS : St n T R) : gtA (hp u n T I J R) 69 11 9 = some 76 := gtA_hp (show T 69 = (100 + 11, kd11) from hS.1.2 69 (by decide)) rfl (hS.lt (by decide)) hS.2.1 (hS.2.2 (69, 9, 76) (by decide))
theorem ga_69_10 (hS : St n T R) : gtA (hp u n T I J R) 69 11 10 = some 77 := gtA_hp (show T 69 = (100 + 11, kd11) from hS.1.2 69 (by decide)) rfl (hS.lt (by decide)) hS.2.1 (hS.2.2 (69, 10, 77) (by decide))
theorem gi_69_11 (hS : St n T R) : gtI (hp u n T I J R) 69 11 11 = some (I 69 11) := gtI_hp (show T 69 = (100 + 11, kd11) from hS.1.2 69 (by decide)) rfl (hS.lt (by decide)) hS.2.1
theorem pi_69_11 (hS : St n T R) : ptI (hp u n T I J R) 69 11 11 v = some (hp u n T (up2 I 69 11 v) J R) := ptI_hp (show T 69 = (100 + 11, kd11) from hS.1.2 69 (by decide)) rfl (hS.lt (by decide)) hS.2.1
theorem ga_69_12 (hS : St n T R) : gtA (hp u n T I J R) 69 11 12 = some 78 := gtA_hp (show T 69 = (100 + 11, kd11) from hS.1.2 69 (by decide)) rfl (hS.lt (by decide)) hS.2.1 (hS.2.2 (69, 12, 78) (by decide))
theorem gi_69_13 (hS : St n T R) : gtI (hp u n T I J R) 69 11 13 = some (I 69 13) := gtI_hp (show T 69 = (100 + 11, kd11) from hS.1.2 69 (by decide)) rfl (hS.lt (by decide)) hS.2.1
theorem pi_69_13 (hS : St n T R) : ptI (hp u n T I J R) 69 11 13 v = some (hp u n T (up2 I 69 13 v) J R) := ptI_hp (show T 69 = (100 + 11, kd11) from hS.1.2 69 (by decide)) rfl (hS.lt (by decide)) hS.2.1
theorem gi_69_14 (hS : St n T R) : gtI (hp u n T I J R) 69 11 14 = some (I 69 14) := gtI_hp (show T 69 = (100 + 11, kd11) from hS.1.2 69 (by decide)) rfl (hS.lt (by decide)) hS.2.1
theorem pi_69_14 (hS : St n T R) : ptI (hp u n T I J R) 69 11 14 v = some (hp u n T (up2 I 69 14 v) J R) := ptI_hp (show T 69 = (100 + 11, kd11) from hS.1.2 69 (by decide)) rfl (hS.lt (by decide)) hS.2.1
theorem gi_69_15 (hS : St n T R) : gtI (hp u n T I J R) 69 11 15 = some (I 69 15) := gtI_hp (show T 69 = (100 + 11, kd11) from hS.1.2 69 (by decide)) rfl (hS.lt (by decide)) hS.2.1
theorem pi_69_15 (hS : St n T R) : ptI (hp u n T I J R) 69 11 15 v = some (hp u n T (up2 I 69 15 v) J R) := ptI_hp (show T 69 = (100 + 11, kd11) from hS.1.2 69 (by decide)) rfl (hS.lt (by decide)) hS.2.1
theorem gi_69_16 (hS : St n T R) : gtI (hp u n T I J R) 69 11 16 = some (I 69 16) := gtI_hp (show T 69 = (100 + 11, kd11) from hS.1.2 69 (by decide)) rfl (hS.lt (by decide)) hS.2.1
theorem pi_69_16 (hS : St n T R) : ptI (hp u n T I J R) 69 11 16 v = some (hp u n T (up2 I 69 16 v) J R) := ptI_hp (show T 69 = (100 + 11, kd11) from hS.1.2 69 (by decide)) rfl (hS.lt (by decide)) hS.2.1
theorem gj_69_17 (hS : St n T R) : gtJ (hp u n T I J R) 69 11 17 = some (J 69 17) := gtJ_hp (show T 69 = (100 + 11, kd11) from hS.1.2 69 (by decide)) rfl (hS.lt (by decide)) hS.2.1
theorem pj_69_17 (hS : St n T R) : ptJ (hp u n T I J R) 69 11 17 y = some (hp u n T I (up2 J 69 17 y) R) := ptJ_hp (show T 69 = (100 + 11, kd11) from hS.1.2 69 (by decide)) rfl (hS.lt (by decide)) hS.2.1
theorem gi_69_18 (hS : St n T R) : gtI (hp u n T I J R) 69 11 18 = some (I 69 18) := gtI_hp (show T 69 = (100 + 11, kd11) from hS.1.2 69 (by decide)) rfl (hS.lt (by decide)) hS.2.1
theorem pi_69_18 (hS : St n T R) : ptI (hp u n T I J R) 69 11 18 v = some (hp u n T (up2 I 69 18 v) J R) := ptI_hp (show T 69 = (100 + 11, kd11) from hS.1.2 69 (by decide)) rfl (hS.lt (by decide)) hS.2.1
theorem gi_69_19 (hS : St n T R) : gtI (hp u n T I J R) 69 11 19 = some (I 69 19) := gtI_hp (show T 69 = (100 + 11, kd11) from hS.1.2 69 (by decide)) rfl (hS.lt (by decide)) hS.2.1
theorem pi_69_19 (hS : St n T R) : ptI (hp u n T I J R) 69 11 19 v = some (hp u n T (up2 I 69 19 v) J R) := ptI_hp (show T 69 = (100 + 11, kd11) from hS.1.2 69 (by decide)) rfl (hS.lt (by decide)) hS.2.1
theorem gi_69_20 (hS : St n T R) : gtI (hp u n T I J R) 69 11 20 = some (I 69 20) := gtI_hp (show T 69 = (100 + 11, kd11) from hS.1.2 69 (by decide)) rfl (hS.lt (by decide)) hS.2.1
theorem pi_69_20 (hS : St n T R) : ptI (hp u n T I J R) 69 11 20 v = some (hp u n T (up2 I 69 20 v) J R) := ptI_hp (show T 69 = (100 + 11, kd11) from hS.1.2 69 (by decide)) rfl (hS.lt (by decide)) hS.2.1
theorem gi_69_21 (hS : St n T R) : gtI (hp u n T I J R) 69 11 21 = some (I 69 21) := gtI_hp (show T 69 = (100 + 11, kd11) from hS.1.2 69 (by decide)) rfl (hS.lt (by decide)) hS.2.1
theorem pi_69_21 (hS : St n T R) : ptI (hp u n T I J R) 69 11 21 v = some (hp u n T (up2 I 69 21 v) J R) := ptI_hp (show T 69 = (100 + 11, kd11) from hS.1.2 69 (by decide)) rfl (hS.lt (by decide)) hS.2.1
theorem ga_69_22 (hS : St n T R) : gtA (hp u n T I J R) 69 11 22 = some 79 := gtA_hp (show T 69 = (100 + 11, kd11) from hS.1.2 69 (by decide)) rfl (hS.lt (by decide)) hS.2.1 (hS.2.2 (69, 22, 79) (by decide))
theorem gi_69_23 (hS : St n T R) : gtI (hp u n T I J R) 69 11 23 = some (I 69 23) := gtI_hp (show T 69 = (100 + 11, kd11) from hS.1.2 69 (by decide)) rfl (hS.lt (by decide)) hS.2.1
theorem pi_69_23 (hS : St n T R) : ptI (hp u n T I J R) 69 11 23 v = some (hp u n T (up2 I 69 23 v) J R) := ptI_hp (show T 69 = (100 + 11, kd11) from hS.1.2 69 (by decide)) rfl (hS.lt (by decide)) hS.2.1
theorem ga_69_24 (hS : St n T R) : gtA (hp u n T I J R) 69 11 24 = some 80 := gtA_hp (show T 69 = (100 + 11, kd11) from hS.1.2 69 (by decide)) rfl (hS.lt (by decide)) hS.2.1 (hS.2.2 (69, 24, 80) (by decide))
theorem ga_69_25 (hS : St n T R) : gtA (hp u n T I J R) 69 11 25 = some 81 := gtA_hp (show T 69 = (100 + 11, kd11) from hS.1.2 69 (by decide)) rfl (hS.lt (by decide)) hS.2.1 (hS.2.2 (69, 25, 81) (by decide))
theorem gi_69_26 (hS : St n T R) : gtI (hp u n T I J R) 69 11 26 = some (I 69 26) := gtI_hp (show T 69 = (100 + 11, kd11) from hS.1.2 69 (by decide)) rfl (hS.lt (by decide)) hS.2.1
theorem pi_69_26 (hS : St n T R) : ptI (hp u n T I J R) 69 11 26 v = some (hp u n T (up2 I 69 26 v) J R) := ptI_hp (show T 69 = (100 + 11, kd11) from hS.1.2 69 (by decide)) rfl (hS.lt (by decide)) hS.2.1
theorem ga_69_27 (hS : St n T R) : gtA (hp u n T I J R) 69 11 27 = some 82 := gtA_hp (show T 69 = (100 + 11, kd11) from hS.1.2 69 (by decide)) rfl (hS.lt (by decide)) hS.2.1 (hS.2.2 (69, 27, 82) (by decide))
theorem ga_69_28 (hS : St n T R) : gtA (hp u n T I J R) 69 11 28 = some 83 := gtA_hp (show T 69 = (100 + 11, kd11) from hS.1.2 69 (by decide)) rfl (hS.lt (by decide)) hS.2.1 (hS.2.2 (69, 28, 83) (by decide))
theorem gi_69_29 (hS : St n T R) : gtI (hp u n T I J R) 69 11 29 = some (I 69 29) := gtI_hp (show T 69 = (100 + 11, kd11) from hS.1.2 69 (by decide)) rfl (hS.lt (by decide)) hS.2.1
theorem pi_69_29 (hS : St n T R) : ptI (hp u n T I J R) 69 11 29 v = some (hp u n T (up2 I 69 29 v) J R) := ptI_hp (show T 69 = (100 + 11, kd11) from hS.1.2 69 (by decide)) rfl (hS.lt (by decide)) hS.2.1
theorem gi_69_30 (hS : St n T R) : gtI (hp u n T I J R) 69 11 30 = some (I 69 30) := gtI_hp (show T 69 = (100 + 11, kd11) from hS.1.2 69 (by decide)) rfl (hS.lt (by decide)) hS.2.1
theorem pi_69_30 (hS : St n T R) : ptI (hp u n T I J R) 69 11 30 v = some (hp u n T (up2 I 69 30 v) J R) := ptI_hp (show T 69 = (100 + 11, kd11) from hS.1.2 69 (by decide)) rfl (hS.lt (by decide)) hS.2.1
theorem ga_69_31 (hS : St n T R) : gtA (hp u n T I J R) 69 11 31 = some 84 := gtA_hp (show T 69 = (100 + 11, kd11) from hS.1.2 69 (by decide)) rfl (hS.lt (by decide)) hS.2.1 (hS.2.2 (69, 31, 84) (by decide))
theorem ga_69_32 (hS : St n T R) : gtA (hp u n T I J R) 69 11 32 = some 85 := gtA_hp (show T 69 = (100 + 11, kd11) from hS.1.2 69 (by decide)) rfl (hS.lt (by decide)) hS.2.1 (hS.2.2 (69, 32, 85) (by decide))
theorem ga_69_33 (hS : St n T R) : gtA (hp u n T I J R) 69 11 33 = some 86 := gtA_hp (show T 69 = (100 + 11, kd11) from hS.1.2 69 (by decide)) rfl (hS.lt (by decide)) hS.2.1 (hS.2.2 (69, 33, 86) (by decide))
theorem gi_69_34 (hS : St n T R) : gtI (hp u n T I J R) 69 11 34 = some (I 69 34) := gtI_hp (show T 69 = (100 + 11, kd11) from hS.1.2 69 (by decide)) rfl (hS.lt (by decide)) hS.2.1
theorem pi_69_34 (hS : St n T R) : ptI (hp u n T I J R) 69 11 34 v = some (hp u n T (up2 I 69 34 v) J R) := ptI_hp (show T 69 = (100 + 11, kd11) from hS.1.2 69 (by decide)) rfl (hS.lt (by decide)) hS.2.1
theorem ga_69_35 (hS : St n T R) : gtA (hp u n T I J R) 69 11 35 = some 87 := gtA_hp (show T 69 = (100 + 11, kd11) from hS.1.2 69 (by decide)) rfl (hS.lt (by decide)) hS.2.1 (hS.2.2 (69, 35, 87) (by decide))
theorem ga_69_36 (hS : St n T R) : gtA (hp u n T I J R) 69 11 36 = some 88 := gtA_hp (show T 69 = (100 + 11, kd11) from hS.1.2 69 (by decide)) rfl (hS.lt (by decide)) hS.2.1 (hS.2.2 (69, 36, 88) (by decide))
theorem ga_69_37 (hS : St n T R) : gtA (hp u n T I J R) 69 11 37 = some 89 := gtA_hp (show T 69 = (100 + 11, kd11) from hS.1.2 69 (by decide)) rfl (hS.lt (by decide)) hS.2.1 (hS.2.2 (69, 37, 89) (by decide))
theorem gi_69_38 (hS : St n T R) : gtI (hp u n T I J R) 69 11 38 = some (I 69 38) := gtI_hp (show T 69 = (100 + 11, kd11) from hS.1.2 69 (by decide)) rfl (hS.lt (by decide)) hS.2.1
theorem pi_69_38 (hS : St n T R) : ptI (hp u n T I J R) 69 11 38 v = some (hp u n T (up2 I 69 38 v) J R) := ptI_hp (show T 69 = (100 + 11, kd11) from hS.1.2 69 (by decide)) rfl (hS.lt (by decide)) hS.2.1
theorem gj_69_39 (hS : St n T R) : gtJ (hp u n T I J R) 69 11 39 = some (J 69 39) := gtJ_hp (show T 69 = (100 + 11, kd11) from hS.1.2 69 (by decide)) rfl (hS.lt (by decide)) hS.2.1
theorem pj_69_39 (hS : St n T R) : ptJ (hp u n T I J R) 69 11 39 y = some (hp u n T I (up2 J 69 39 y) R) := ptJ_hp (show T 69 = (100 + 11, kd11) from hS.1.2 69 (by decide)) rfl (hS.lt (by decide)) hS.2.1
theorem gj_69_40 (hS : St n T R) : gtJ (hp u n T I J R) 69 11 40 = some (J 69 40) := gtJ_hp (show T 69 = (100 + 11, kd11) from hS.1.2 69 (by decide)) rfl (hS.lt (by decide)) hS.2.1
theorem pj_69_40 (hS : St n T R) : ptJ (hp u n T I J R) 69 11 40 y = some (hp u n T I (up2 J 69 40 y) R) := ptJ_hp (show T 69 = (100 + 11, kd11) from hS.1.2 69 (by decide)) rfl (hS.lt (by decide)) hS.2.1
theorem ga_69_41 (hS : St n T R) : gtA (hp u n T I J R) 69 11 41 = some 90 := gtA_hp (show T 69 = (100 + 11, kd11) from hS.1.2 69 (by decide)) rfl (hS.lt (by decide)) hS.2.1 (hS.2.2 (69, 41, 90) (by decide))
theorem ga_69_42 (hS : St n T R) : gtA (hp u n T I J R) 69 11 42 = some 91 := gtA_hp (show T 69 = (100 + 11, kd11) from hS.1.2 69 (by decide)) rfl (hS.lt (by decide)) hS.2.1 (hS.2.2 (69, 42, 91) (by decide))
theorem ga_69_43 (hS : St n T R) : gtA (hp u n T I J R) 69 11 43 = some 92 := gtA_hp (show T 69 = (100 + 11, kd11) from hS.1.2 69 (by decide)) rfl (hS.lt (by decide)) hS.2.1 (hS.2.2 (69, 43, 92) (by decide))
theorem ga_69_44 (hS : St n T R) : gtA (hp u n T I J R) 69 11 44 = some 93 := gtA_hp (show T 69 = (100 + 11, kd11) from hS.1.2 69 (by decide)) rfl (hS.lt (by decide)) hS.2.1 (hS.2.2 (69, 44, 93) (by decide))
theorem ga_69_45 (hS : St n T R) : gtA (hp u n T I J R) 69 11 45 = some 94 := gtA_hp (show T 69 = (100 + 11, kd11) from hS.1.2 69 (by decide)) rfl (hS.lt (by decide)) hS.2.1 (hS.2.2 (69, 45, 94) (by decide))
theorem ga_69_46 (hS : St n T R) : gtA (hp u n T I J R) 69 11 46 = some 95 := gtA_hp (show T 69 = (100 + 11, kd11) from hS.1.2 69 (by decide)) rfl (hS.lt (by decide)) hS.2.1 (hS.2.2 (69, 46, 95) (by decide))
theorem ga_69_47 (hS : St n T R) : gtA (hp u n T I J R) 69 11 47 = some 96 := gtA_hp (show T 69 = (100 + 11, kd11) from hS.1.2 69 (by decide)) rfl (hS.lt (by decide)) hS.2.1 (hS.2.2 (69, 47, 96) (by decide))
theorem gi_69_48 (hS : St n T R) : gtI (hp u n T I J R) 69 11 48 = some (I 69 48) := gtI_hp (show T 69 = (100 + 11, kd11) from hS.1.2 69 (by decide)) rfl (hS.lt (by decide)) hS.2.1
theorem pi_69_48 (hS : St n T R) : ptI (hp u n T I J R) 69 11 48 v = some (hp u n T (up2 I 69 48 v) J R) := ptI_hp (show T 69 = (100 + 11, kd11) from hS.1.2 69 (by decide)) rfl (hS.lt (by decide)) hS.2.1
theorem gi_69_49 (hS : St n T R) : gtI (hp u n T I J R) 69 11 49 = some (I 69 49) := gtI_hp (show T 69 = (100 + 11, kd11) from hS.1.2 69 (by decide)) rfl (hS.lt (by decide)) hS.2.1
theorem pi_69_49 (hS : St n T R) : ptI (hp u n T I J R) 69 11 49 v = some (hp u n T (up2 I 69 49 v) J R) := ptI_hp (show T 69 = (100 + 11, kd11) from hS.1.2 69 (by decide)) rfl (hS.lt (by decide)) hS.2.1
theorem gi_69_50 (hS : St n T R) : gtI (hp u n T I J R) 69 11 50 = some (I 69 50) := gtI_hp (show T 69 = (100 + 11, kd11) from hS.1.2 69 (by decide)) rfl (hS.lt (by decide)) hS.2.1
theorem pi_69_50 (hS : St n T R) : ptI (hp u n T I J R) 69 11 50 v = some (hp u n T (up2 I 69 50 v) J R) := ptI_hp (show T 69 = (100 + 11, kd11) from hS.1.2 69 (by decide)) rfl (hS.lt (by decide)) hS.2.1
theorem gi_69_51 (hS : St n T R) : gtI (hp u n T I J R) 69 11 51 = some (I 69 51) := gtI_hp (show T 69 = (100 + 11, kd11) from hS.1.2 69 (by decide)) rfl (hS.lt (by decide)) hS.2.1
theorem pi_69_51 (hS : St n T R) : ptI (hp u n T I J R) 69 11 51 v = some (hp u n T (up2 I 69 51 v) J R) := ptI_hp (show T 69 = (100 + 11, kd11) from hS.1.2 69 (by decide)) rfl (hS.lt (by decide)) hS.2.1
theorem gj_69_52 (hS : St n T R) : gtJ (hp u n T I J R) 69 11 52 = some (J 69 52) := gtJ_hp (show T 69 = (100 + 11, kd11) from hS.1.2 69 (by decide)) rfl (hS.lt (by decide)) hS.2.1
theorem pj_69_52 (hS : St n T R) : ptJ (hp u n T I J R) 69 11 52 y = some (hp u n T I (up2 J 69 52 y) R) := ptJ_hp (show T 69 = (100 + 11, kd11) from hS.1.2 69 (by decide)) rfl (hS.lt (by decide)) hS.2.1
theorem ga_69_53 (hS : St n T R) : gtA (hp u n T I J R) 69 11 53 = some 97 := gtA_hp (show T 69 = (100 + 11, kd11) from hS.1.2 69 (by decide)) rfl (hS.lt (by decide)) hS.2.1 (hS.2.2 (69, 53, 97) (by decide))
theorem gi_69_54 (hS : St n T R) : gtI (hp u n T I J R) 69 11 54 = some (I 69 54) := gtI_hp (show T 69 = (100 + 11, kd11) from hS.1.2 69 (by decide)) rfl (hS.lt (by decide)) hS.2.1
theorem pi_69_54 (hS : St n T R) : ptI (hp u n T I J R) 69 11 54 v = some (hp u n T (up2 I 69 54 v) J R) := ptI_hp (show T 69 = (100 + 11, kd11) from hS.1.2 69 (by decide)) rfl (hS.lt (by decide)) hS.2.1
theorem gi_69_55 (hS : St n T R) : gtI (hp u n T I J R) 69 11 55 = some (I 69 55) := gtI_hp (show T 69 = (100 + 11, kd11) from hS.1.2 69 (by decide)) rfl (hS.lt (by decide)) hS.2.1
theorem pi_69_55 (hS : St n T R) : ptI (hp u n T I J R) 69 11 55 v = some (hp u n T (up2 I 69 55 v) J R) := ptI_hp (show T 69 = (100 + 11, kd11) from hS.1.2 69 (by decide)) rfl (hS.lt (by decide)) hS.2.1
theorem rd_70 (hS : St n T R) (hj : j < 7) : rdI O (hp u n T I J R) 70 (nI j) = some (I 70 j) := rdI_hp (show T 70 = (0, [7]) from hS.1.2 70 (by decide)) (hS.lt (by decide)) hS.2.1 (by decide) hj
theorem wr_70 (hS : St n T R) (hj : j < 7) : wrI (hp u n T I J R) 70 (nI j) v = some (hp u n T (up2 I 70 j v) J R) := wrI_hp (show T 70 = (0, [7]) from hS.1.2 70 (by decide)) (hS.lt (by decide)) hS.2.1 (by decide) hj
theorem ln_70 (hS : St n T R) : lnA O (hp u n T I J R) 70 = some (nI 7) := lnA_hp (by decide) (show T 70 = (0, [7]) from hS.1.2 70 (by decide)) (hS.lt (by decide)) hS.2.1
theorem rd_71 (hS : St n T R) (hj : j < 5510) : rdI O (hp u n T I J R) 71 (nI j) = some (I 71 j) := rdI_hp (show T 71 = (0, [5510]) from hS.1.2 71 (by decide)) (hS.lt (by decide)) hS.2.1 (by decide) hj
theorem wr_71 (hS : St n T R) (hj : j < 5510) : wrI (hp u n T I J R) 71 (nI j) v = some (hp u n T (up2 I 71 j v) J R) := wrI_hp (show T 71 = (0, [5510]) from hS.1.2 71 (by decide)) (hS.lt (by decide)) hS.2.1 (by decide) hj
theorem ln_71 (hS : St n T R) : lnA O (hp u n T I J R) 71 = some (nI 5510) := lnA_hp (by decide) (show T 71 = (0, [5510]) from hS.1.2 71 (by decide)) (hS.lt (by decide)) hS.2.1
theorem rd_72 (hS : St n T R) (hj : j < 11020) : rdI O (hp u n T I J R) 72 (nI j) = some (I 72 j) := rdI_hp (show T 72 = (0, [11020]) from hS.1.2 72 (by decide)) (hS.lt (by decide)) hS.2.1 (by decide) hj
theorem wr_72 (hS : St n T R) (hj : j < 11020) : wrI (hp u n T I J R) 72 (nI j) v = some (hp u n T (up2 I 72 j v) J R) := wrI_hp (show T 72 = (0, [11020]) from hS.1.2 72 (by decide)) (hS.lt (by decide)) hS.2.1 (by decide) hj
theorem ln_72 (hS : St n T R) : lnA O (hp u n T I J R) 72 = some (nI 11020) := lnA_hp (by decide) (show T 72 = (0, [11020]) from hS.1.2 72 (by decide)) (hS.lt (by decide)) hS.2.1
theorem rd_73 (hS : St n T R) (hj : j < 2) : rdB O (hp u n T I J R) 73 (nI j) = some (I 73 j) := rdZ_hp (show T 73 = (3, [2]) from hS.1.2 73 (by decide)) (hS.lt (by decide)) hS.2.1 (by decide) hj
theorem wr_73 (hS : St n T R) (hj : j < 2) : wrB (hp u n T I J R) 73 (nI j) v = some (hp u n T (up2 I 73 j (vp_nar .boolean v)) J R) := wrZ_hp (show T 73 = (3, [2]) from hS.1.2 73 (by decide)) (hS.lt (by decide)) hS.2.1 (by decide) hj
theorem ln_73 (hS : St n T R) : lnA O (hp u n T I J R) 73 = some (nI 2) := lnA_hp (by decide) (show T 73 = (3, [2]) from hS.1.2 73 (by decide)) (hS.lt (by decide)) hS.2.1
theorem rd_74 (hS : St n T R) (hj : j < 558) : rdI O (hp u n T I J R) 74 (nI j) = some (I 74 j) := rdI_hp (show T 74 = (0, [558]) from hS.1.2 74 (by decide)) (hS.lt (by decide)) hS.2.1 (by decide) hj
theorem wr_74 (hS : St n T R) (hj : j < 558) : wrI (hp u n T I J R) 74 (nI j) v = some (hp u n T (up2 I 74 j v) J R) := wrI_hp (show T 74 = (0, [558]) from hS.1.2 74 (by decide)) (hS.lt (by decide)) hS.2.1 (by decide) hj
theorem ln_74 (hS : St n T R) : lnA O (hp u n T I J R) 74 = some (nI 558) := lnA_hp (by decide) (show T 74 = (0, [558]) from hS.1.2 74 (by decide)) (hS.lt (by decide)) hS.2.1
theorem rd_75 (hS : St n T R) (hj : j < 16) : rdI O (hp u n T I J R) 75 (nI j) = some (I 75 j) := rdI_hp (show T 75 = (0, [16]) from hS.1.2 75 (by decide)) (hS.lt (by decide)) hS.2.1 (by decide) hj
theorem wr_75 (hS : St n T R) (hj : j < 16) : wrI (hp u n T I J R) 75 (nI j) v = some (hp u n T (up2 I 75 j v) J R) := wrI_hp (show T 75 = (0, [16]) from hS.1.2 75 (by decide)) (hS.lt (by decide)) hS.2.1 (by decide) hj
theorem ln_75 (hS : St n T R) : lnA O (hp u n T I J R) 75 = some (nI 16) := lnA_hp (by decide) (show T 75 = (0, [16]) from hS.1.2 75 (by decide)) (hS.lt (by decide)) hS.2.1
theorem rd_76 (hS : St n T R) (hj : j < 496) : rdI O (hp u n T I J R) 76 (nI j) = some (I 76 j) := rdI_hp (show T 76 = (0, [496]) from hS.1.2 76 (by decide)) (hS.lt (by decide)) hS.2.1 (by decide) hj
theorem wr_76 (hS : St n T R) (hj : j < 496) : wrI (hp u n T I J R) 76 (nI j) v = some (hp u n T (up2 I 76 j v) J R) := wrI_hp (show T 76 = (0, [496]) from hS.1.2 76 (by decide)) (hS.lt (by decide)) hS.2.1 (by decide) hj
theorem ln_76 (hS : St n T R) : lnA O (hp u n T I J R) 76 = some (nI 496) := lnA_hp (by decide) (show T 76 = (0, [496]) from hS.1.2 76 (by decide)) (hS.lt (by decide)) hS.2.1
theorem rd_77 (hS : St n T R) (hj : j < 16) : rdI O (hp u n T I J R) 77 (nI j) = some (I 77 j) := rdI_hp (show T 77 = (0, [16]) from hS.1.2 77 (by decide)) (hS.lt (by decide)) hS.2.1 (by decide) hj
theorem wr_77 (hS : St n T R) (hj : j < 16) : wrI (hp u n T I J R) 77 (nI j) v = some (hp u n T (up2 I 77 j v) J R) := wrI_hp (show T 77 = (0, [16]) from hS.1.2 77 (by decide)) (hS.lt (by decide)) hS.2.1 (by decide) hj
theorem ln_77 (hS : St n T R) : lnA O (hp u n T I J R) 77 = some (nI 16) := lnA_hp (by decide) (show T 77 = (0, [16]) from hS.1.2 77 (by decide)) (hS.lt (by decide)) hS.2.1
theorem rd_78 (hS : St n T R) (hj : j < 400) : rdI O (hp u n T I J R) 78 (nI j) = some (I 78 j) := rdI_hp (show T 78 = (0, [400]) from hS.1.2 78 (by decide)) (hS.lt (by decide)) hS.2.1 (by decide) hj
theorem wr_78 (hS : St n T R) (hj : j < 400) : wrI (hp u n T I J R) 78 (nI j) v = some (hp u n T (up2 I 78 j v) J R) := wrI_hp (show T 78 = (0, [400]) from hS.1.2 78 (by decide)) (hS.lt (by decide)) hS.2.1 (by decide) hj
theorem ln_78 (hS : St n T R) : lnA O (hp u n T I J R) 78 = some (nI 400) := lnA_hp (by decide) (show T 78 = (0, [400]) from hS.1.2 78 (by decide)) (hS.lt (by decide)) hS.2.1
theorem rd_79 (hS : St n T R) (hj : j < 96) : rdI O (hp u n T I J R) 79 (nI j) = some (I 79 j) := rdI_hp (show T 79 = (0, [96]) from hS.1.2 79 (by decide)) (hS.lt (by decide)) hS.2.1 (by decide) hj
theorem wr_79 (hS : St n T R) (hj : j < 96) : wrI (hp u n T I J R) 79 (nI j) v = some (hp u n T (up2 I 79 j v) J R) := wrI_hp (show T 79 = (0, [96]) from hS.1.2 79 (by decide)) (hS.lt (by decide)) hS.2.1 (by decide) hj
theorem ln_79 (hS : St n T R) : lnA O (hp u n T I J R) 79 = some (nI 96) := lnA_hp (by decide) (show T 79 = (0, [96]) from hS.1.2 79 (by decide)) (hS.lt (by decide)) hS.2.1
theorem rd_80 (hS : St n T R) (hj : j < 400) : rdI O (hp u n T I J R) 80 (nI j) = some (I 80 j) := rdI_hp (show T 80 = (0, [400]) from hS.1.2 80 (by decide)) (hS.lt (by decide)) hS.2.1 (by decide) hj
theorem wr_80 (hS : St n T R) (hj : j < 400) : wrI (hp u n T I J R) 80 (nI j) v = some (hp u n T (up2 I 80 j v) J R) := wrI_hp (show T 80 = (0, [400]) from hS.1.2 80 (by decide)) (hS.lt (by decide)) hS.2.1 (by decide) hj
theorem ln_80 (hS : St n T R) : lnA O (hp u n T I J R) 80 = some (nI 400) := lnA_hp (by decide) (show T 80 = (0, [400]) from hS.1.2 80 (by decide)) (hS.lt (by decide)) hS.2.1
theorem rd_81 (hS : St n T R) (hj : j < 400) : rdI O (hp u n T I J R) 81 (nI j) = some (I 81 j) := rdI_hp (show T 81 = (0, [400]) from hS.1.2 81 (by decide)) (hS.lt (by decide)) hS.2.1 (by decide) hj
theorem wr_81 (hS : St n T R) (hj : j < 400) : wrI (hp u n T I J R) 81 (nI j) v = some (hp u n T (up2 I 81 j v) J R) := wrI_hp (show T 81 = (0, [400]) from hS.1.2 81 (by decide)) (hS.lt (by decide)) hS.2.1 (by decide) hj
theorem ln_81 (hS : St n T R) : lnA O (hp u n T I J R) 81 = some (nI 400) := lnA_hp (by decide) (show T 81 = (0, [400]) from hS.1.2 81 (by decide)) (hS.lt (by decide)) hS.2.1
theorem rd_82 (hS : St n T R) (hj : j < 400) : rdI O (hp u n T I J R) 82 (nI j) = some (I 82 j) := rdI_hp (show T 82 = (0, [400]) from hS.1.2 82 (by decide)) (hS.lt (by decide)) hS.2.1 (by decide) hj
theorem wr_82 (hS : St n T R) (hj : j < 400) : wrI (hp u n T I J R) 82 (nI j) v = some (hp u n T (up2 I 82 j v) J R) := wrI_hp (show T 82 = (0, [400]) from hS.1.2 82 (by decide)) (hS.lt (by decide)) hS.2.1 (by decide) hj
theorem ln_82 (hS : St n T R) : lnA O (hp u n T I J R) 82 = some (nI 400) := lnA_hp (by decide) (show T 82 = (0, [400]) from hS.1.2 82 (by decide)) (hS.lt (by decide)) hS.2.1
theorem rd_83 (hS : St n T R) (hj : j < 400) : rdI O (hp u n T I J R) 83 (nI j) = some (I 83 j) := rdI_hp (show T 83 = (0, [400]) from hS.1.2 83 (by decide)) (hS.lt (by decide)) hS.2.1 (by decide) hj
theorem wr_83 (hS : St n T R) (hj : j < 400) : wrI (hp u n T I J R) 83 (nI j) v = some (hp u n T (up2 I 83 j v) J R) := wrI_hp (show T 83 = (0, [400]) from hS.1.2 83 (by decide)) (hS.lt (by decide)) hS.2.1 (by decide) hj
theorem ln_83 (hS : St n T R) : lnA O (hp u n T I J R) 83 = some (nI 400) := lnA_hp (by decide) (show T 83 = (0, [400]) from hS.1.2 83 (by decide)) (hS.lt (by decide)) hS.2.1
theorem rd_84 (hS : St n T R) (hj : j < 9) : rdJ O (hp u n T I J R) 84 (nI j) = some (J 84 j) := rdJ_hp (show T 84 = (1, [9]) from hS.1.2 84 (by decide)) (hS.lt (by decide)) hS.2.1 (by decide) hj
theorem wr_84 (hS : St n T R) (hj : j < 9) : wrJ (hp u n T I J R) 84 (nI j) y = some (hp u n T I (up2 J 84 j y) R) := wrJ_hp (show T 84 = (1, [9]) from hS.1.2 84 (by decide)) (hS.lt (by decide)) hS.2.1 (by decide) hj
theorem ln_84 (hS : St n T R) : lnA O (hp u n T I J R) 84 = some (nI 9) := lnA_hp (by decide) (show T 84 = (1, [9]) from hS.1.2 84 (by decide)) (hS.lt (by decide)) hS.2.1
theorem rd_85 (hS : St n T R) (hj : j < 6) : rdJ O (hp u n T I J R) 85 (nI j) = some (J 85 j) := rdJ_hp (show T 85 = (1, [6]) from hS.1.2 85 (by decide)) (hS.lt (by decide)) hS.2.1 (by decide) hj
theorem wr_85 (hS : St n T R) (hj : j < 6) : wrJ (hp u n T I J R) 85 (nI j) y = some (hp u n T I (up2 J 85 j y) R) := wrJ_hp (show T 85 = (1, [6]) from hS.1.2 85 (by decide)) (hS.lt (by decide)) hS.2.1 (by decide) hj
theorem ln_85 (hS : St n T R) : lnA O (hp u n T I J R) 85 = some (nI 6) := lnA_hp (by decide) (show T 85 = (1, [6]) from hS.1.2 85 (by decide)) (hS.lt (by decide)) hS.2.1
theorem rd_86 (hS : St n T R) (hj : j < 4) : rdJ O (hp u n T I J R) 86 (nI j) = some (J 86 j) := rdJ_hp (show T 86 = (1, [4]) from hS.1.2 86 (by decide)) (hS.lt (by decide)) hS.2.1 (by decide) hj
theorem wr_86 (hS : St n T R) (hj : j < 4) : wrJ (hp u n T I J R) 86 (nI j) y = some (hp u n T I (up2 J 86 j y) R) := wrJ_hp (show T 86 = (1, [4]) from hS.1.2 86 (by decide)) (hS.lt (by decide)) hS.2.1 (by decide) hj
theorem ln_86 (hS : St n T R) : lnA O (hp u n T I J R) 86 = some (nI 4) := lnA_hp (by decide) (show T 86 = (1, [4]) from hS.1.2 86 (by decide)) (hS.lt (by decide)) hS.2.1
theorem rd_87 (hS : St n T R) (hj : j < 13) : rdJ O (hp u n T I J R) 87 (nI j) = some (J 87 j) := rdJ_hp (show T 87 = (1, [13]) from hS.1.2 87 (by decide)) (hS.lt (by decide)) hS.2.1 (by decide) hj
theorem wr_87 (hS : St n T R) (hj : j < 13) : wrJ (hp u n T I J R) 87 (nI j) y = some (hp u n T I (up2 J 87 j y) R) := wrJ_hp (show T 87 = (1, [13]) from hS.1.2 87 (by decide)) (hS.lt (by decide)) hS.2.1 (by decide) hj
theorem ln_87 (hS : St n T R) : lnA O (hp u n T I J R) 87 = some (nI 13) := lnA_hp (by decide) (show T 87 = (1, [13]) from hS.1.2 87 (by decide)) (hS.lt (by decide)) hS.2.1
theorem rd_88 (hS : St n T R) (hj : j < 13) : rdJ O (hp u n T I J R) 88 (nI j) = some (J 88 j) := rdJ_hp (show T 88 = (1, [13]) from hS.1.2 88 (by decide)) (hS.lt (by decide)) hS.2.1 (by decide) hj
theorem wr_88 (hS : St n T R) (hj : j < 13) : wrJ (hp u n T I J R) 88 (nI j) y = some (hp u n T I (up2 J 88 j y) R) := wrJ_hp (show T 88 = (1, [13]) from hS.1.2 88 (by decide)) (hS.lt (by decide)) hS.2.1 (by decide) hj
theorem ln_88 (hS : St n T R) : lnA O (hp u n T I J R) 88 = some (nI 13) := lnA_hp (by decide) (show T 88 = (1, [13]) from hS.1.2 88 (by decide)) (hS.lt (by decide)) hS.2.1
theorem rd_89 (hS : St n T R) (hj : j < 400) : rdJ O (hp u n T I J R) 89 (nI j) = some (J 89 j) := rdJ_hp (show T 89 = (1, [400]) from hS.1.2 89 (by decide)) (hS.lt (by decide)) hS.2.1 (by decide) hj
theorem wr_89 (hS : St n T R) (hj : j < 400) : wrJ (hp u n T I J R) 89 (nI j) y = some (hp u n T I (up2 J 89 j y) R) := wrJ_hp (show T 89 = (1, [400]) from hS.1.2 89 (by decide)) (hS.lt (by decide)) hS.2.1 (by decide) hj
theorem ln_89 (hS : St n T R) : lnA O (hp u n T I J R) 89 = some (nI 400) := lnA_hp (by decide) (show T 89 = (1, [400]) from hS.1.2 89 (by decide)) (hS.lt (by decide)) hS.2.1
theorem rd_90 (hS : St n T R) (hj : j < 4) : rdI O (hp u n T I J R) 90 (nI j) = some (I 90 j) := rdI_hp (show T 90 = (0, [4]) from hS.1.2 90 (by decide)) (hS.lt (by decide)) hS.2.1 (by decide) hj
theorem wr_90 (hS : St n T R) (hj : j < 4) : wrI (hp u n T I J R) 90 (nI j) v = some (hp u n T (up2 I 90 j v) J R) := wrI_hp (show T 90 = (0, [4]) from hS.1.2 90 (by decide)) (hS.lt (by decide)) hS.2.1 (by decide) hj
theorem ln_90 (hS : St n T R) : lnA O (hp u n T I J R) 90 = some (nI 4) := lnA_hp (by decide) (show T 90 = (0, [4]) from hS.1.2 90 (by decide)) (hS.lt (by decide)) hS.2.1
theorem rd_91 (hS : St n T R) (hj : j < 8) : rdI O (hp u n T I J R) 91 (nI j) = some (I 91 j) := rdI_hp (show T 91 = (0, [8]) from hS.1.2 91 (by decide)) (hS.lt (by decide)) hS.2.1 (by decide) hj
theorem wr_91 (hS : St n T R) (hj : j < 8) : wrI (hp u n T I J R) 91 (nI j) v = some (hp u n T (up2 I 91 j v) J R) := wrI_hp (show T 91 = (0, [8]) from hS.1.2 91 (by decide)) (hS.lt (by decide)) hS.2.1 (by decide) hj
theorem ln_91 (hS : St n T R) : lnA O (hp u n T I J R) 91 = some (nI 8) := lnA_hp (by decide) (show T 91 = (0, [8]) from hS.1.2 91 (by decide)) (hS.lt (by decide)) hS.2.1
theorem rd_92 (hS : St n T R) (hj : j < 9216) : rdI O (hp u n T I J R) 92 (nI j) = some (I 92 j) := rdI_hp (show T 92 = (0, [9216]) from hS.1.2 92 (by decide)) (hS.lt (by decide)) hS.2.1 (by decide) hj
theorem wr_92 (hS : St n T R) (hj : j < 9216) : wrI (hp u n T I J R) 92 (nI j) v = some (hp u n T (up2 I 92 j v) J R) := wrI_hp (show T 92 = (0, [9216]) from hS.1.2 92 (by decide)) (hS.lt (by decide)) hS.2.1 (by decide) hj
theorem ln_92 (hS : St n T R) : lnA O (hp u n T I J R) 92 = some (nI 9216) := lnA_hp (by decide) (show T 92 = (0, [9216]) from hS.1.2 92 (by decide)) (hS.lt (by decide)) hS.2.1
theorem rd_93 (hS : St n T R) (hj : j < 40) : rdB O (hp u n T I J R) 93 (nI j) = some (I 93 j) := rdZ_hp (show T 93 = (3, [40]) from hS.1.2 93 (by decide)) (hS.lt (by decide)) hS.2.1 (by decide) hj
theorem wr_93 (hS : St n T R) (hj : j < 40) : wrB (hp u n T I J R) 93 (nI j) v = some (hp u n T (up2 I 93 j (vp_nar .boolean v)) J R) := wrZ_hp (show T 93 = (3, [40]) from hS.1.2 93 (by decide)) (hS.lt (by decide)) hS.2.1 (by decide) hj
theorem ln_93 (hS : St n T R) : lnA O (hp u n T I J R) 93 = some (nI 40) := lnA_hp (by decide) (show T 93 = (3, [40]) from hS.1.2 93 (by decide)) (hS.lt (by decide)) hS.2.1
theorem rd_94 (hS : St n T R) (hj : j < 21) : rdJ O (hp u n T I J R) 94 (nI j) = some (J 94 j) := rdJ_hp (show T 94 = (1, [21]) from hS.1.2 94 (by decide)) (hS.lt (by decide)) hS.2.1 (by decide) hj
theorem wr_94 (hS : St n T R) (hj : j < 21) : wrJ (hp u n T I J R) 94 (nI j) y = some (hp u n T I (up2 J 94 j y) R) := wrJ_hp (show T 94 = (1, [21]) from hS.1.2 94 (by decide)) (hS.lt (by decide)) hS.2.1 (by decide) hj
theorem ln_94 (hS : St n T R) : lnA O (hp u n T I J R) 94 = some (nI 21) := lnA_hp (by decide) (show T 94 = (1, [21]) from hS.1.2 94 (by decide)) (hS.lt (by decide)) hS.2.1
theorem rd_95 (hS : St n T R) (hj : j < 4) : rdJ O (hp u n T I J R) 95 (nI j) = some (J 95 j) := rdJ_hp (show T 95 = (1, [4]) from hS.1.2 95 (by decide)) (hS.lt (by decide)) hS.2.1 (by decide) hj
theorem wr_95 (hS : St n T R) (hj : j < 4) : wrJ (hp u n T I J R) 95 (nI j) y = some (hp u n T I (up2 J 95 j y) R) := wrJ_hp (show T 95 = (1, [4]) from hS.1.2 95 (by decide)) (hS.lt (by decide)) hS.2.1 (by decide) hj
theorem ln_95 (hS : St n T R) : lnA O (hp u n T I J R) 95 = some (nI 4) := lnA_hp (by decide) (show T 95 = (1, [4]) from hS.1.2 95 (by decide)) (hS.lt (by decide)) hS.2.1
theorem rd_96 (hS : St n T R) (hj : j < 96) : rdI O (hp u n T I J R) 96 (nI j) = some (I 96 j) := rdI_hp (show T 96 = (0, [96]) from hS.1.2 96 (by decide)) (hS.lt (by decide)) hS.2.1 (by decide) hj
theorem wr_96 (hS : St n T R) (hj : j < 96) : wrI (hp u n T I J R) 96 (nI j) v = some (hp u n T (up2 I 96 j v) J R) := wrI_hp (show T 96 = (0, [96]) from hS.1.2 96 (by decide)) (hS.lt (by decide)) hS.2.1 (by decide) hj
theorem ln_96 (hS : St n T R) : lnA O (hp u n T I J R) 96 = some (nI 96) := lnA_hp (by decide) (show T 96 = (0, [96]) from hS.1.2 96 (by decide)) (hS.lt (by decide)) hS.2.1
theorem rd_97 (hS : St n T R) (hj : j < 31) : rdI O (hp u n T I J R) 97 (nI j) = some (I 97 j) := rdI_hp (show T 97 = (0, [31]) from hS.1.2 97 (by decide)) (hS.lt (by decide)) hS.2.1 (by decide) hj
theorem wr_97 (hS : St n T R) (hj : j < 31) : wrI (hp u n T I J R) 97 (nI j) v = some (hp u n T (up2 I 97 j v) J R) := wrI_hp (show T 97 = (0, [31]) from hS.1.2 97 (by decide)) (hS.lt (by decide)) hS.2.1 (by decide) hj
theorem ln_97 (hS : St n T R) : lnA O (hp u n T I J R) 97 = some (nI 31) := lnA_hp (by decide) (show T 97 = (0, [31]) from hS.1.2 97 (by decide)) (hS.lt (by decide)) hS.2.1
variable {g h : Nat}
theorem ga_g_1 (hG : IsG n T R g) (hn : n ≤ oB) : gtA (hp u n T I J R) g 2 1 = some (g + 1) := gtA_hp hG.1.1 rfl (by have := hG.1.2; omega) hn hG.2.2.1
theorem ga_g_2 (hG : IsG n T R g) (hn : n ≤ oB) : gtA (hp u n T I J R) g 2 2 = some (g + 2) := gtA_hp hG.1.1 rfl (by have := hG.1.2; omega) hn hG.2.2.2.1
theorem ga_g_3 (hG : IsG n T R g) (hn : n ≤ oB) : gtA (hp u n T I J R) g 2 3 = some (g + 3) := gtA_hp hG.1.1 rfl (by have := hG.1.2; omega) hn hG.2.2.2.2.1
theorem ga_g_4 (hG : IsG n T R g) (hn : n ≤ oB) : gtA (hp u n T I J R) g 2 4 = some (g + 4) := gtA_hp hG.1.1 rfl (by have := hG.1.2; omega) hn hG.2.2.2.2.2.1
theorem ga_g_5 (hG : IsG n T R g) (hn : n ≤ oB) : gtA (hp u n T I J R) g 2 5 = some (g + 5) := gtA_hp hG.1.1 rfl (by have := hG.1.2; omega) hn hG.2.2.2.2.2.2.1
theorem ga_g_6 (hG : IsG n T R g) (hn : n ≤ oB) : gtA (hp u n T I J R) g 2 6 = some (g + 6) := gtA_hp hG.1.1 rfl (by have := hG.1.2; omega) hn hG.2.2.2.2.2.2.2.1
theorem ga_g_7 (hG : IsG n T R g) (hn : n ≤ oB) : gtA (hp u n T I J R) g 2 7 = some (g + 7) := gtA_hp hG.1.1 rfl (by have := hG.1.2; omega) hn hG.2.2.2.2.2.2.2.2.1
theorem ga_g_8 (hG : IsG n T R g) (hn : n ≤ oB) : gtA (hp u n T I J R) g 2 8 = some (g + 8) := gtA_hp hG.1.1 rfl (by have := hG.1.2; omega) hn hG.2.2.2.2.2.2.2.2.2.1
theorem ga_g_9 (hG : IsG n T R g) (hn : n ≤ oB) : gtA (hp u n T I J R) g 2 9 = some (g + 9) := gtA_hp hG.1.1 rfl (by have := hG.1.2; omega) hn hG.2.2.2.2.2.2.2.2.2.2.1
theorem ga_g_10 (hG : IsG n T R g) (hn : n ≤ oB) : gtA (hp u n T I J R) g 2 10 = some (g + 10) := gtA_hp hG.1.1 rfl (by have := hG.1.2; omega) hn hG.2.2.2.2.2.2.2.2.2.2.2
theorem gi_g_11 (hG : IsG n T R g) (hn : n ≤ oB) : gtI (hp u n T I J R) g 2 11 = some (I g 11) := gtI_hp hG.1.1 rfl (by have := hG.1.2; omega) hn
theorem pi_g_11 (hG : IsG n T R g) (hn : n ≤ oB) : ptI (hp u n T I J R) g 2 11 v = some (hp u n T (up2 I g 11 v) J R) := ptI_hp hG.1.1 rfl (by have := hG.1.2; omega) hn
theorem gi_g_12 (hG : IsG n T R g) (hn : n ≤ oB) : gtI (hp u n T I J R) g 2 12 = some (I g 12) := gtI_hp hG.1.1 rfl (by have := hG.1.2; omega) hn
theorem pi_g_12 (hG : IsG n T R g) (hn : n ≤ oB) : ptI (hp u n T I J R) g 2 12 v = some (hp u n T (up2 I g 12 v) J R) := ptI_hp hG.1.1 rfl (by have := hG.1.2; omega) hn
theorem gi_g_13 (hG : IsG n T R g) (hn : n ≤ oB) : gtI (hp u n T I J R) g 2 13 = some (I g 13) := gtI_hp hG.1.1 rfl (by have := hG.1.2; omega) hn
theorem pi_g_13 (hG : IsG n T R g) (hn : n ≤ oB) : ptI (hp u n T I J R) g 2 13 v = some (hp u n T (up2 I g 13 v) J R) := ptI_hp hG.1.1 rfl (by have := hG.1.2; omega) hn
theorem gi_g_14 (hG : IsG n T R g) (hn : n ≤ oB) : gtI (hp u n T I J R) g 2 14 = some (I g 14) := gtI_hp hG.1.1 rfl (by have := hG.1.2; omega) hn
theorem pi_g_14 (hG : IsG n T R g) (hn : n ≤ oB) : ptI (hp u n T I J R) g 2 14 v = some (hp u n T (up2 I g 14 v) J R) := ptI_hp hG.1.1 rfl (by have := hG.1.2; omega) hn
theorem gi_g_15 (hG : IsG n T R g) (hn : n ≤ oB) : gtI (hp u n T I J R) g 2 15 = some (I g 15) := gtI_hp hG.1.1 rfl (by have := hG.1.2; omega) hn
theorem pi_g_15 (hG : IsG n T R g) (hn : n ≤ oB) : ptI (hp u n T I J R) g 2 15 v = some (hp u n T (up2 I g 15 v) J R) := ptI_hp hG.1.1 rfl (by have := hG.1.2; omega) hn
theorem gi_g_16 (hG : IsG n T R g) (hn : n ≤ oB) : gtI (hp u n T I J R) g 2 16 = some (I g 16) := gtI_hp hG.1.1 rfl (by have := hG.1.2; omega) hn
theorem pi_g_16 (hG : IsG n T R g) (hn : n ≤ oB) : ptI (hp u n T I J R) g 2 16 v = some (hp u n T (up2 I g 16 v) J R) := ptI_hp hG.1.1 rfl (by have := hG.1.2; omega) hn
theorem gi_g_17 (hG : IsG n T R g) (hn : n ≤ oB) : gtI (hp u n T I J R) g 2 17 = some (I g 17) := gtI_hp hG.1.1 rfl (by have := hG.1.2; omega) hn
theorem pi_g_17 (hG : IsG n T R g) (hn : n ≤ oB) : ptI (hp u n T I J R) g 2 17 v = some (hp u n T (up2 I g 17 v) J R) := ptI_hp hG.1.1 rfl (by have := hG.1.2; omega) hn
theorem ga_g_0 (hG : IsG n T R g) (hn : n ≤ oB) (hc : R g 0 = some 30) : gtA (hp u n T I J R) g 2 0 = some 30 := gtA_hp hG.1.1 rfl (by have := hG.1.2; omega) hn hc
theorem vc_g (hG : IsG n T R g) (hn : n ≤ oB) : vc O d 2 M g as (hp u n T I J R) = ev O d M (.ref g :: as) (hp u n T I J R) := vc_hp hG.1.1 (by have := hG.1.2; omega) hn
theorem rd_g_1 (hG : IsG n T R g) (hn : n ≤ oB) (hj : j < 5) : rdI O (hp u n T I J R) (g + 1) (nI j) = some (I (g + 1) j) := rdI_hp hG.2.1.1 (by have := hG.1.2; omega) hn (by decide) hj
theorem wr_g_1 (hG : IsG n T R g) (hn : n ≤ oB) (hj : j < 5) : wrI (hp u n T I J R) (g + 1) (nI j) v = some (hp u n T (up2 I (g + 1) j v) J R) := wrI_hp hG.2.1.1 (by have := hG.1.2; omega) hn (by decide) hj
theorem ln_g_1 (hG : IsG n T R g) (hn : n ≤ oB) : lnA O (hp u n T I J R) (g + 1) = some (nI 5) := lnA_hp (by decide) hG.2.1.1 (by have := hG.1.2; omega) hn
theorem rd_g_2 (hG : IsG n T R g) (hn : n ≤ oB) (hj : j < 4) : rdI O (hp u n T I J R) (g + 2) (nI j) = some (I (g + 2) j) := rdI_hp hG.2.1.2.1 (by have := hG.1.2; omega) hn (by decide) hj
theorem wr_g_2 (hG : IsG n T R g) (hn : n ≤ oB) (hj : j < 4) : wrI (hp u n T I J R) (g + 2) (nI j) v = some (hp u n T (up2 I (g + 2) j v) J R) := wrI_hp hG.2.1.2.1 (by have := hG.1.2; omega) hn (by decide) hj
theorem ln_g_2 (hG : IsG n T R g) (hn : n ≤ oB) : lnA O (hp u n T I J R) (g + 2) = some (nI 4) := lnA_hp (by decide) hG.2.1.2.1 (by have := hG.1.2; omega) hn
theorem rd_g_3 (hG : IsG n T R g) (hn : n ≤ oB) (hj : j < 8) : rdI O (hp u n T I J R) (g + 3) (nI j) = some (I (g + 3) j) := rdI_hp hG.2.1.2.2.1 (by have := hG.1.2; omega) hn (by decide) hj
theorem wr_g_3 (hG : IsG n T R g) (hn : n ≤ oB) (hj : j < 8) : wrI (hp u n T I J R) (g + 3) (nI j) v = some (hp u n T (up2 I (g + 3) j v) J R) := wrI_hp hG.2.1.2.2.1 (by have := hG.1.2; omega) hn (by decide) hj
theorem ln_g_3 (hG : IsG n T R g) (hn : n ≤ oB) : lnA O (hp u n T I J R) (g + 3) = some (nI 8) := lnA_hp (by decide) hG.2.1.2.2.1 (by have := hG.1.2; omega) hn
theorem rd_g_4 (hG : IsG n T R g) (hn : n ≤ oB) (hj : j < 8) : rdI O (hp u n T I J R) (g + 4) (nI j) = some (I (g + 4) j) := rdI_hp hG.2.1.2.2.2.1 (by have := hG.1.2; omega) hn (by decide) hj
theorem wr_g_4 (hG : IsG n T R g) (hn : n ≤ oB) (hj : j < 8) : wrI (hp u n T I J R) (g + 4) (nI j) v = some (hp u n T (up2 I (g + 4) j v) J R) := wrI_hp hG.2.1.2.2.2.1 (by have := hG.1.2; omega) hn (by decide) hj
theorem ln_g_4 (hG : IsG n T R g) (hn : n ≤ oB) : lnA O (hp u n T I J R) (g + 4) = some (nI 8) := lnA_hp (by decide) hG.2.1.2.2.2.1 (by have := hG.1.2; omega) hn
theorem rd_g_5 (hG : IsG n T R g) (hn : n ≤ oB) (hj : j < 8) : rdI O (hp u n T I J R) (g + 5) (nI j) = some (I (g + 5) j) := rdI_hp hG.2.1.2.2.2.2.1 (by have := hG.1.2; omega) hn (by decide) hj
theorem wr_g_5 (hG : IsG n T R g) (hn : n ≤ oB) (hj : j < 8) : wrI (hp u n T I J R) (g + 5) (nI j) v = some (hp u n T (up2 I (g + 5) j v) J R) := wrI_hp hG.2.1.2.2.2.2.1 (by have := hG.1.2; omega) hn (by decide) hj
theorem ln_g_5 (hG : IsG n T R g) (hn : n ≤ oB) : lnA O (hp u n T I J R) (g + 5) = some (nI 8) := lnA_hp (by decide) hG.2.1.2.2.2.2.1 (by have := hG.1.2; omega) hn
theorem rd_g_6 (hG : IsG n T R g) (hn : n ≤ oB) (hj : j < 40) : rdI O (hp u n T I J R) (g + 6) (nI j) = some (I (g + 6) j) := rdI_hp hG.2.1.2.2.2.2.2.1 (by have := hG.1.2; omega) hn (by decide) hj
theorem wr_g_6 (hG : IsG n T R g) (hn : n ≤ oB) (hj : j < 40) : wrI (hp u n T I J R) (g + 6) (nI j) v = some (hp u n T (up2 I (g + 6) j v) J R) := wrI_hp hG.2.1.2.2.2.2.2.1 (by have := hG.1.2; omega) hn (by decide) hj
theorem ln_g_6 (hG : IsG n T R g) (hn : n ≤ oB) : lnA O (hp u n T I J R) (g + 6) = some (nI 40) := lnA_hp (by decide) hG.2.1.2.2.2.2.2.1 (by have := hG.1.2; omega) hn
theorem rd_g_7 (hG : IsG n T R g) (hn : n ≤ oB) (hj : j < 8) : rdI O (hp u n T I J R) (g + 7) (nI j) = some (I (g + 7) j) := rdI_hp hG.2.1.2.2.2.2.2.2.1 (by have := hG.1.2; omega) hn (by decide) hj
theorem wr_g_7 (hG : IsG n T R g) (hn : n ≤ oB) (hj : j < 8) : wrI (hp u n T I J R) (g + 7) (nI j) v = some (hp u n T (up2 I (g + 7) j v) J R) := wrI_hp hG.2.1.2.2.2.2.2.2.1 (by have := hG.1.2; omega) hn (by decide) hj
theorem ln_g_7 (hG : IsG n T R g) (hn : n ≤ oB) : lnA O (hp u n T I J R) (g + 7) = some (nI 8) := lnA_hp (by decide) hG.2.1.2.2.2.2.2.2.1 (by have := hG.1.2; omega) hn
theorem rd_g_8 (hG : IsG n T R g) (hn : n ≤ oB) (hj : j < 8) : rdI O (hp u n T I J R) (g + 8) (nI j) = some (I (g + 8) j) := rdI_hp hG.2.1.2.2.2.2.2.2.2.1 (by have := hG.1.2; omega) hn (by decide) hj
theorem wr_g_8 (hG : IsG n T R g) (hn : n ≤ oB) (hj : j < 8) : wrI (hp u n T I J R) (g + 8) (nI j) v = some (hp u n T (up2 I (g + 8) j v) J R) := wrI_hp hG.2.1.2.2.2.2.2.2.2.1 (by have := hG.1.2; omega) hn (by decide) hj
theorem ln_g_8 (hG : IsG n T R g) (hn : n ≤ oB) : lnA O (hp u n T I J R) (g + 8) = some (nI 8) := lnA_hp (by decide) hG.2.1.2.2.2.2.2.2.2.1 (by have := hG.1.2; omega) hn
theorem rd_g_9 (hG : IsG n T R g) (hn : n ≤ oB) (hj : j < 3) : rdI O (hp u n T I J R) (g + 9) (nI j) = some (I (g + 9) j) := rdI_hp hG.2.1.2.2.2.2.2.2.2.2.1 (by have := hG.1.2; omega) hn (by decide) hj
theorem wr_g_9 (hG : IsG n T R g) (hn : n ≤ oB) (hj : j < 3) : wrI (hp u n T I J R) (g + 9) (nI j) v = some (hp u n T (up2 I (g + 9) j v) J R) := wrI_hp hG.2.1.2.2.2.2.2.2.2.2.1 (by have := hG.1.2; omega) hn (by decide) hj
theorem ln_g_9 (hG : IsG n T R g) (hn : n ≤ oB) : lnA O (hp u n T I J R) (g + 9) = some (nI 3) := lnA_hp (by decide) hG.2.1.2.2.2.2.2.2.2.2.1 (by have := hG.1.2; omega) hn
theorem rd_g_10 (hG : IsG n T R g) (hn : n ≤ oB) (hj : j < 6) : rdR O (hp u n T I J R) (g + 10) (nI j) = some (R (g + 10) j) := rdR_hp (Or.inr rfl) hG.2.1.2.2.2.2.2.2.2.2.2 (by have := hG.1.2; omega) hn (by decide) hj
theorem vc_h (hH : IsH n T R h) (hn : n ≤ oB) : vc O d 3 M h as (hp u n T I J R) = ev O d M (.ref h :: as) (hp u n T I J R) := vc_hp hH.1 (by have := hH.2.2.2; omega) hn
theorem gi_h_1 (hH : IsH n T R h) (hn : n ≤ oB) : gtI (hp u n T I J R) h 3 1 = some (I h 1) := gtI_hp hH.1 rfl (by have := hH.2.2.2; omega) hn
theorem pi_h_1 (hH : IsH n T R h) (hn : n ≤ oB) : ptI (hp u n T I J R) h 3 1 v = some (hp u n T (up2 I h 1 v) J R) := ptI_hp hH.1 rfl (by have := hH.2.2.2; omega) hn
theorem gi_h_2 (hH : IsH n T R h) (hn : n ≤ oB) : gtI (hp u n T I J R) h 3 2 = some (I h 2) := gtI_hp hH.1 rfl (by have := hH.2.2.2; omega) hn
theorem pi_h_2 (hH : IsH n T R h) (hn : n ≤ oB) : ptI (hp u n T I J R) h 3 2 v = some (hp u n T (up2 I h 2 v) J R) := ptI_hp hH.1 rfl (by have := hH.2.2.2; omega) hn
end CEL
