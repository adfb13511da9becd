/-! small calls, as functions -/
/-- an int within -/
def rg (a : Int32) (lo hi : Nat) : Bool := decide (nI lo ≤ a ∧ a ≤ nI hi)
theorem rg_t {k lo hi : Nat} (h1 : lo ≤ k) (h2 : k ≤ hi) (h3 : hi < 2 ^ 31) : rg (nI k) lo hi = true := decide_eq_true ⟨nI_le h1 (by omega), nI_le h2 h3⟩
theorem arg_c (a : Int32) {lo hi : Nat} (hl : lo ≤ hi) (h : hi < 2 ^ 31) : (∃ k, lo ≤ k ∧ k ≤ hi ∧ a = nI k) ∨ (rg a lo hi = false ∧ (a < nI lo ∨ (¬ a < nI lo ∧ ¬ a ≤ nI hi ∧ nI hi < a))) := by
  by_cases h1 : nI lo ≤ a
  · by_cases h2 : a ≤ nI hi
    · have h0 : ¬ a < 0 := fun z => absurd (Int32.lt_of_le_of_lt h1 z) (nI_pos (by omega))
      obtain ⟨k, hk, rfl⟩ := nI_of h0
      exact Or.inl ⟨k, (nI_leI (by omega) hk).mp h1, (nI_leI hk h).mp h2, rfl⟩
    · exact Or.inr ⟨decide_eq_false (fun z => h2 z.2), Or.inr ⟨fun z => absurd h1 (Int32.not_le.mpr z), h2, Int32.not_le.mp h2⟩⟩
  · exact Or.inr ⟨decide_eq_false (fun z => h1 z.1), Or.inl (Int32.not_le.mp h1)⟩
section SML
variable {O : mO} {d : Nat} {K : mH}
theorem v_inL {a : Int32} {lo hi : Nat} {l h : Int64} (h1 : l = (nI lo).toInt64) (h2 : h = (nI hi).toInt64) (h3 : lo < 2 ^ 31) (h4 : hi < 2 ^ 31) : ev O d MX11_in [.long a.toInt64, .long l, .long h] K = some (some (.int (bI (rg a lo hi))), K) := by
  rw [evr (k_in a.toInt64 l h), h1, h2]
  have e : ∀ x y : Int32, (x.toInt64 ≤ y.toInt64) = (x ≤ y) := fun x y => by rw [Int64.le_iff_toInt_le, Int32.toInt_toInt64, Int32.toInt_toInt64, ← Int32.le_iff_toInt_le]
  unfold rg
  simp only [e]
theorem v_in_1_3 (a : Int32) : ev O d MX11_in [.long a.toInt64, .long 1, .long (3)] K = some (some (.int (bI (rg a 1 3))), K) := v_inL (by decide) (by decide) (by decide) (by decide)
theorem v_in_0_999 (a : Int32) : ev O d MX11_in [.long a.toInt64, .long 0, .long (999)] K = some (some (.int (bI (rg a 0 999))), K) := v_inL (by decide) (by decide) (by decide) (by decide)
theorem v_in_1_99 (a : Int32) : ev O d MX11_in [.long a.toInt64, .long 1, .long (99)] K = some (some (.int (bI (rg a 1 99))), K) := v_inL (by decide) (by decide) (by decide) (by decide)
theorem v_in_0_99 (a : Int32) : ev O d MX11_in [.long a.toInt64, .long 0, .long (99)] K = some (some (.int (bI (rg a 0 99))), K) := v_inL (by decide) (by decide) (by decide) (by decide)
theorem v_in_0_1 (a : Int32) : ev O d MX11_in [.long a.toInt64, .long 0, .long 1] K = some (some (.int (bI (rg a 0 1))), K) := v_inL (by decide) (by decide) (by decide) (by decide)
theorem v_in_0_9 (a : Int32) : ev O d MX11_in [.long a.toInt64, .long 0, .long (9)] K = some (some (.int (bI (rg a 0 9))), K) := v_inL (by decide) (by decide) (by decide) (by decide)
theorem v_in_0_10 (a : Int32) : ev O d MX11_in [.long a.toInt64, .long 0, .long (10)] K = some (some (.int (bI (rg a 0 10))), K) := v_inL (by decide) (by decide) (by decide) (by decide)
theorem v_in_0_2 (a : Int32) : ev O d MX11_in [.long a.toInt64, .long 0, .long (2)] K = some (some (.int (bI (rg a 0 2))), K) := v_inL (by decide) (by decide) (by decide) (by decide)
theorem v_in_0_7 (a : Int32) : ev O d MX11_in [.long a.toInt64, .long 0, .long (7)] K = some (some (.int (bI (rg a 0 7))), K) := v_inL (by decide) (by decide) (by decide) (by decide)
theorem v_in_0_3 (a : Int32) : ev O d MX11_in [.long a.toInt64, .long 0, .long (3)] K = some (some (.int (bI (rg a 0 3))), K) := v_inL (by decide) (by decide) (by decide) (by decide)
theorem v_in_1_60 (a : Int32) : ev O d MX11_in [.long a.toInt64, .long 1, .long (60)] K = some (some (.int (bI (rg a 1 60))), K) := v_inL (by decide) (by decide) (by decide) (by decide)
theorem v_in_1_20 (a : Int32) : ev O d MX11_in [.long a.toInt64, .long 1, .long (20)] K = some (some (.int (bI (rg a 1 20))), K) := v_inL (by decide) (by decide) (by decide) (by decide)
theorem v_in_0_1000000 (a : Int32) : ev O d MX11_in [.long a.toInt64, .long 0, .long (1000000)] K = some (some (.int (bI (rg a 0 1000000))), K) := v_inL (by decide) (by decide) (by decide) (by decide)
theorem v_in_14_16 (a : Int32) : ev O d MX11_in [.long a.toInt64, .long (14), .long (16)] K = some (some (.int (bI (rg a 14 16))), K) := v_inL (by decide) (by decide) (by decide) (by decide)
theorem v_in_20_24 (a : Int32) : ev O d MX11_in [.long a.toInt64, .long (20), .long (24)] K = some (some (.int (bI (rg a 20 24))), K) := v_inL (by decide) (by decide) (by decide) (by decide)
theorem v_in_25_27 (a : Int32) : ev O d MX11_in [.long a.toInt64, .long (25), .long (27)] K = some (some (.int (bI (rg a 25 27))), K) := v_inL (by decide) (by decide) (by decide) (by decide)
theorem v_is (s k : Int32) : ev O d MX11_is [.int s, .int k] K = some (some (.int (bI (decide ((s >>> (k &&& 31)) &&& nI 1 = nI 1)))), K) := evr (k_is s k)
theorem v_ones (s : Int32) : ev O d MX11_ones [.int s] K = some (some (.int (onF s 8)), K) := evr (k_ones s)
theorem v_within (v : Int64) (lo hi : Int32) : ev O d MX11_within [.long v, .int lo, .int hi] K = some (some (.int (wiF v lo hi)), K) := evr (k_within v lo hi)
theorem v_bit (x : Int32) : ev O d MJ6_bitCount_0f7a4 [.int x] K = some (some (.int (bcF x)), K) := evr (k_bit x)
variable {u n : Nat} {T : Nat → mT} {I : Nat → Nat → Int32} {J : Nat → Nat → Int64} {R : Nat → Nat → Option Nat} {v : Int32} {N k D V : Nat} {g h : Nat}
theorem v_isVault (hS : St n T R) (hN : I 71 0 = nI N) (hs : N < 2 ^ 31) : ev O (d + 1) MX11_isVault [.ref 69, .int v] (hp u n T I J R) = some (some (.int (bI (inR v N))), hp u n T I J R) := evr (k_isVault (St_M hS) hS.2.1 hN hs)
theorem v_isFamily (hS : St n T R) (hN : I 71 1 = nI N) (hs : N < 2 ^ 31) : ev O (d + 1) MX11_isFamily [.ref 69, .int v] (hp u n T I J R) = some (some (.int (bI (inR v N))), hp u n T I J R) := evr (k_isFamily (St_M hS) hS.2.1 hN hs)
theorem v_isDead (hS : St n T R) (hN : I 71 2 = nI N) (hs : N < 2 ^ 31) : ev O (d + 1) MX11_isDead [.ref 69, .int v] (hp u n T I J R) = some (some (.int (bI (inR v N))), hp u n T I J R) := evr (k_isDead (St_M hS) hS.2.1 hN hs)
theorem v_isIn (hS : St n T R) (hk : k < 8) : ev O d MX11_isIn [.ref 69, .int (nI k)] (hp u n T I J R) = some (some (.int (bI (decide (I 71 (9 + k) ≠ -1)))), hp u n T I J R) := evr (k_isIn (St_M hS) hS.2.1 hk)
theorem v_lyingIn (hS : St n T R) (hD : I 71 2 = nI D) (h8 : D ≤ 8) : ev O d MX11_lyingIn [.ref 69, .int v] (hp u n T I J R) = some (some (.int (lyF (fun k => I 71 (9 + k)) v D)), hp u n T I J R) := evr (k_lyingIn (St_M hS) hS.2.1 hD h8)
theorem v_freeIn (hS : St n T R) (hD : I 71 2 = nI D) (h8 : D ≤ 8) (hk : k < 5) : ev O (d + 1) MX11_freeIn [.ref 69, .int (nI k)] (hp u n T I J R) = some (some (.int (I 71 (37 + k) - nI (cnt (fun j => I 71 (9 + j)) (nI k) D))), hp u n T I J R) := evr (k_freeIn (St_M hS) hS.2.1 hD h8 hk)
theorem v_tell0 (hS : St n T R) (hk : k < 2 ^ 31) : ev O d MX11_tell [.ref 69, .int (nI k)] (hp u n T I J R) = some (some (.int (nI k)), hp u n T (up2 I 69 1 (nI 0)) J R) := evr (k_tell0 (St_M hS) hS.2.1 hk)
theorem v_tellN (hS : St n T R) {r : Nat} (hv : v = -nI r) (h0 : 0 < r) (h7 : r < 7) : ev O d MX11_tell [.ref 69, .int v] (hp u n T I J R) = some (some (.int v), hp u n T (up2 (up2 I 69 1 v) 70 r (I 70 r + nI 1)) J R) := by
  subst hv
  exact evr (k_tellN (St_M hS) hS.2.1 h0 h7)
theorem v_tell_1 (hS : St n T R) : ev O d MX11_tell [.ref 69, .int (-1)] (hp u n T I J R) = some (some (.int (-1)), hp u n T (up2 (up2 I 69 1 (-1)) 70 1 (I 70 1 + nI 1)) J R) := v_tellN hS (by decide) (by decide) (by decide)
theorem v_tell_2 (hS : St n T R) : ev O d MX11_tell [.ref 69, .int (-2)] (hp u n T I J R) = some (some (.int (-2)), hp u n T (up2 (up2 I 69 1 (-2)) 70 2 (I 70 2 + nI 1)) J R) := v_tellN hS (by decide) (by decide) (by decide)
theorem v_tell_3 (hS : St n T R) : ev O d MX11_tell [.ref 69, .int (-3)] (hp u n T I J R) = some (some (.int (-3)), hp u n T (up2 (up2 I 69 1 (-3)) 70 3 (I 70 3 + nI 1)) J R) := v_tellN hS (by decide) (by decide) (by decide)
theorem v_tell_5 (hS : St n T R) : ev O d MX11_tell [.ref 69, .int (-5)] (hp u n T I J R) = some (some (.int (-5)), hp u n T (up2 (up2 I 69 1 (-5)) 70 5 (I 70 5 + nI 1)) J R) := v_tellN hS (by decide) (by decide) (by decide)
theorem v_tell_6 (hS : St n T R) : ev O d MX11_tell [.ref 69, .int (-6)] (hp u n T I J R) = some (some (.int (-6)), hp u n T (up2 (up2 I 69 1 (-6)) 70 6 (I 70 6 + nI 1)) J R) := v_tellN hS (by decide) (by decide) (by decide)
theorem v_granted (hS : St n T R) : ev O d MX10_granted [.ref 0, .int v] (hp u n T I J R) = some (some (.int v), hp u n T (up2 I 0 16 (nI 0)) J R) := evr (c_granted hS.1 hS.2.1)
theorem v_refused (hS : St n T R) {pl : Nat} (hv : (if v < (-3) then ((-v) - (nI 2)) else ((-v) - (nI 1))) = nI pl) (h5 : pl < 5) : ev O (d + 1) MX10_refused [.ref 0, .int v] (hp u n T I J R) = some (some (.int v), hp u n T (up2 (up2 I 0 16 v) 24 pl (I 24 pl + nI 1)) J R) := by
  refine e_X10_refused ?_
  unfold F_X10_refused
  simp (disch := first | assumption | omega) only [hv, vc_0, ga_0_0, ga_0_1, ga_0_2, ga_0_3, ga_0_4, ga_0_5, ga_0_6, ga_0_7, ga_0_8, ga_0_9, gi_0_12, pi_0_12, gi_0_13, pi_0_13, gi_0_14, pi_0_14, gi_0_15, pi_0_15, gi_0_16, pi_0_16, rd_24, wr_24, ln_24, Option.bind_some, nI_leI]
  rw [if_neg (nI_pos (by omega)), if_neg (by omega), up2_off _ _ _ (by decide)]
theorem v_ref_1 (hS : St n T R) : ev O (d + 1) MX10_refused [.ref 0, .int (-1)] (hp u n T I J R) = some (some (.int (-1)), hp u n T (up2 (up2 I 0 16 (-1)) 24 0 (I 24 0 + nI 1)) J R) := v_refused hS (by decide) (by decide)
theorem v_ref_2 (hS : St n T R) : ev O (d + 1) MX10_refused [.ref 0, .int (-2)] (hp u n T I J R) = some (some (.int (-2)), hp u n T (up2 (up2 I 0 16 (-2)) 24 1 (I 24 1 + nI 1)) J R) := v_refused hS (by decide) (by decide)
theorem v_ref_3 (hS : St n T R) : ev O (d + 1) MX10_refused [.ref 0, .int (-3)] (hp u n T I J R) = some (some (.int (-3)), hp u n T (up2 (up2 I 0 16 (-3)) 24 2 (I 24 2 + nI 1)) J R) := v_refused hS (by decide) (by decide)
theorem v_ref_5 (hS : St n T R) : ev O (d + 1) MX10_refused [.ref 0, .int (-5)] (hp u n T I J R) = some (some (.int (-5)), hp u n T (up2 (up2 I 0 16 (-5)) 24 3 (I 24 3 + nI 1)) J R) := v_refused hS (by decide) (by decide)
theorem v_ref_6 (hS : St n T R) : ev O (d + 1) MX10_refused [.ref 0, .int (-6)] (hp u n T I J R) = some (some (.int (-6)), hp u n T (up2 (up2 I 0 16 (-6)) 24 4 (I 24 4 + nI 1)) J R) := v_refused hS (by decide) (by decide)
theorem v_hclear (hH : IsH n T R h) (hn : n ≤ oB) : ev O d MX3_clear [.ref h] (hp u n T I J R) = some (none, hp u n T (up2 I h 2 (nI 0)) J R) := evr (c_hclear hH hn)
theorem v_hasVault (hG : IsG n T R g) (hn : n ≤ oB) (hN : I g 11 = nI N) : ev O d MX2_hasVault [.ref g, .int v] (hp u n T I J R) = some (some (.int (bI (inR v N))), hp u n T I J R) := evr (c_hasVault hG hn hN)
theorem v_hasFamily (hG : IsG n T R g) (hn : n ≤ oB) (hN : I g 12 = nI N) : ev O d MX2_hasFamily [.ref g, .int v] (hp u n T I J R) = some (some (.int (bI (inR v N))), hp u n T I J R) := evr (c_hasFamily hG hn hN)
theorem v_hasDead (hG : IsG n T R g) (hn : n ≤ oB) (hN : I g 13 = nI N) : ev O d MX2_hasDead [.ref g, .int v] (hp u n T I J R) = some (some (.int (bI (inR v N))), hp u n T I J R) := evr (c_hasDead hG hn hN)
theorem v_hasLaw (hG : IsG n T R g) (hn : n ≤ oB) (hN : I g 16 = nI N) : ev O d MX2_hasLaw [.ref g, .int v] (hp u n T I J R) = some (some (.int (bI (inR v N))), hp u n T I J R) := evr (c_hasLaw hG hn hN)
theorem v_cIsIn (hG : IsG n T R g) (hn : n ≤ oB) (hD : I g 13 = nI D) (h8 : D ≤ 8) : ev O (d + 1) MX2_isIn [.ref g, .int v] (hp u n T I J R) = some (some (.int (bI (inR v D && decide (I (g + 4) v.toNatClampNeg ≠ -1)))), hp u n T I J R) := evr (c_isIn hG hn hD h8)
theorem v_cIsOut (hG : IsG n T R g) (hn : n ≤ oB) (hD : I g 13 = nI D) (h8 : D ≤ 8) : ev O (d + 1) MX2_isOut [.ref g, .int v] (hp u n T I J R) = some (some (.int (bI (inR v D && decide (I (g + 4) v.toNatClampNeg = -1)))), hp u n T I J R) := evr (c_isOut hG hn hD h8)
theorem v_cLying (hG : IsG n T R g) (hn : n ≤ oB) (hD : I g 13 = nI D) (h8 : D ≤ 8) : ev O d MX2_lyingIn [.ref g, .int v] (hp u n T I J R) = some (some (.int (lyF (I (g + 4)) v D)), hp u n T I J R) := evr (c_lyingIn hG hn hD h8)
theorem v_deadOf (hG : IsG n T R g) (hn : n ≤ oB) (hD : I g 13 = nI D) (h8 : D ≤ 8) : ev O d MX2_deadOf [.ref g, .int v] (hp u n T I J R) = some (some (.int (lyF (I (g + 3)) v D)), hp u n T I J R) := evr (c_deadOf hG hn hD h8)
theorem v_inAfter (hG : IsG n T R g) (hn : n ≤ oB) (hD : I g 13 = nI D) (h8 : D ≤ 8) : ev O d MX2_inAfter [.ref g, .int v] (hp u n T I J R) = some (some (.int (afF (I (g + 5)) v D)), hp u n T I J R) := evr (c_inAfter hG hn hD h8)
theorem v_freeBeds (hG : IsG n T R g) (hn : n ≤ oB) (hV : I g 11 = nI V) (h5 : V ≤ 5) (hD : I g 13 = nI D) (h8 : D ≤ 8) : ev O (d + 1) MX2_freeBeds [.ref g, .int v] (hp u n T I J R) = some (some (.int (if inR v V = true then I (g + 1) v.toNatClampNeg - nI (cnt (I (g + 4)) v D) else -1)), hp u n T I J R) := evr (c_freeBeds hG hn hV h5 hD h8)
theorem v_insideCount (hG : IsG n T R g) (hn : n ≤ oB) (hD : I g 13 = nI D) (h8 : D ≤ 8) : ev O (d + 1) MX2_insideCount [.ref g] (hp u n T I J R) = some (some (.int (nI (D - cnt (I (g + 4)) (-1) D))), hp u n T I J R) := evr (c_insideCount hG hn hD h8)
theorem v_wishOf {e : Int32} (hG : IsG n T R g) (hn : n ≤ oB) (hV : I g 11 = nI V) (h5 : V ≤ 5) (hD : I g 13 = nI D) (h8 : D ≤ 8) : ev O (d + 1) MX2_wishOf [.ref g, .int e, .int v] (hp u n T I J R) = some (some (.int (if (inR e D && inR v V) = true then I (g + 6) (e.toNatClampNeg * 5 + v.toNatClampNeg) else nI 0)), hp u n T I J R) := evr (c_wishOf hG hn hV h5 hD h8)
theorem v_lawAt (hG : IsG n T R g) (hn : n ≤ oB) (hN : I g 16 = nI N) (h6 : N ≤ 6) : ev O (d + 1) MX2_lawAt [.ref g, .int v] (hp u n T I J R) = some (some (va_rf (if inR v N = true then R (g + 10) v.toNatClampNeg else none)), hp u n T I J R) := evr (c_lawAt hG hn hN h6)
/-- the reference's change of a place -/
theorem v_change {j : Nat} (hS : St n T R) (hj : j < 5510) : ev O (d + 1) MX11_change [.ref 69, .int (nI j), .int v] (hp u n T I J R) = some (some (.int (I 71 j)), hp u n T (up2 (up2 I 71 j v) 69 1 (nI 0)) J R) := by
  refine e_X11_change ?_
  unfold F_X11_change
  simp (disch := first | assumption | omega) only [vc_69, gi_69_0, pi_69_0, gi_69_1, pi_69_1, ga_69_2, ga_69_3, ga_69_4, ga_69_5, ga_69_6, ga_69_7, gi_69_8, pi_69_8, ga_69_9, ga_69_10, gi_69_11, pi_69_11, ga_69_12, gi_69_13, pi_69_13, gi_69_14, pi_69_14, gi_69_15, pi_69_15, gi_69_16, pi_69_16, gj_69_17, pj_69_17, gi_69_18, pi_69_18, gi_69_19, pi_69_19, gi_69_20, pi_69_20, gi_69_21, pi_69_21, ga_69_22, gi_69_23, pi_69_23, ga_69_24, ga_69_25, gi_69_26, pi_69_26, ga_69_27, ga_69_28, gi_69_29, pi_69_29, gi_69_30, pi_69_30, ga_69_31, ga_69_32, ga_69_33, gi_69_34, pi_69_34, ga_69_35, ga_69_36, ga_69_37, gi_69_38, pi_69_38, gj_69_39, pj_69_39, gj_69_40, pj_69_40, ga_69_41, ga_69_42, ga_69_43, ga_69_44, ga_69_45, ga_69_46, ga_69_47, gi_69_48, pi_69_48, gi_69_49, pi_69_49, gi_69_50, pi_69_50, gi_69_51, pi_69_51, gj_69_52, pj_69_52, ga_69_53, gi_69_54, pi_69_54, gi_69_55, pi_69_55, rd_71, wr_71, ln_71, Option.bind_some]
theorem v_settled0 (hS : St n T R) (hk : k < 2 ^ 31) : ev O (d + 1) MX11_settled [.ref 69, .int (nI k)] (hp u n T I J R) = some (some (.int (nI k)), hp u n T (up2 (up2 I 69 8 (nI 0)) 69 1 (nI 0)) J R) := by
  refine e_X11_settled ?_
  unfold F_X11_settled F_X11_settled_j13
  rw [if_pos (nI_pos' hk)]
  simp (disch := first | assumption | omega) only [vc_69, gi_69_0, pi_69_0, gi_69_1, pi_69_1, ga_69_2, ga_69_3, ga_69_4, ga_69_5, ga_69_6, ga_69_7, gi_69_8, pi_69_8, ga_69_9, ga_69_10, gi_69_11, pi_69_11, ga_69_12, gi_69_13, pi_69_13, gi_69_14, pi_69_14, gi_69_15, pi_69_15, gi_69_16, pi_69_16, gj_69_17, pj_69_17, gi_69_18, pi_69_18, gi_69_19, pi_69_19, gi_69_20, pi_69_20, gi_69_21, pi_69_21, ga_69_22, gi_69_23, pi_69_23, ga_69_24, ga_69_25, gi_69_26, pi_69_26, ga_69_27, ga_69_28, gi_69_29, pi_69_29, gi_69_30, pi_69_30, ga_69_31, ga_69_32, ga_69_33, gi_69_34, pi_69_34, ga_69_35, ga_69_36, ga_69_37, gi_69_38, pi_69_38, gj_69_39, pj_69_39, gj_69_40, pj_69_40, ga_69_41, ga_69_42, ga_69_43, ga_69_44, ga_69_45, ga_69_46, ga_69_47, gi_69_48, pi_69_48, gi_69_49, pi_69_49, gi_69_50, pi_69_50, gi_69_51, pi_69_51, gj_69_52, pj_69_52, ga_69_53, gi_69_54, pi_69_54, gi_69_55, pi_69_55, Option.bind_some, v_tell0, toI_i]
end SML
/-- the calls are owed so -/
def HpF (K : mH) : Prop := ∃ (u n : Nat) (T : Nat → mT) (I : Nat → Nat → Int32) (J : Nat → Nat → Int64) (R : Nat → Nat → Option Nat), K = hp u n T I J R ∧ IsT n T ∧ n ≤ oB
/-- both answer alike, and what holds between them holds behind it -/
def Bo (O : mO) (Inv : Nat → mH → Prop) (Mc Mm : mM) (as : List Value) (c : Nat) (K : mH) : Prop := Rn O 200 Mc (.ref 0 :: as) K (fun r K1 => ∃ a : Int32, r = some (.int a) ∧ HpF K1 ∧ Rn O 200 Mm (.ref 69 :: as) K1 (fun r2 K2 => r2 = some (.int a) ∧ Inv (c + 1) K2))
def BoL (O : mO) (Inv : Nat → mH → Prop) (Mc Mm : mM) (as : List Value) (c : Nat) (K : mH) : Prop := Rn O 200 Mc (.ref 0 :: as) K (fun r K1 => ∃ a : Int64, r = some (.long a) ∧ HpF K1 ∧ Rn O 200 Mm (.ref 69 :: as) K1 (fun r2 K2 => r2 = some (.long a) ∧ Inv (c + 1) K2))
theorem Bo_of {O : mO} {Mc Mm : mM} {as : List Value} {c : Nat} {K K2 : mH} {a : Int32} {u n : Nat} {T : Nat → mT} {I : Nat → Nat → Int32} {J : Nat → Nat → Int64} {R : Nat → Nat → Option Nat} (h1 : ev O 200 Mc (.ref 0 :: as) K = some (some (.int a), hp u n T I J R)) (hS : St n T R) (h2 : ev O 200 Mm (.ref 69 :: as) (hp u n T I J R) = some (some (.int a), K2)) (h3 : Inv (c + 1) K2) : Bo O Inv Mc Mm as c K := by
  refine Rn.mono (ev_Rn h1) (Nat.le_refl _) ?_
  intro r K1 e
  cases e
  exact ⟨a, rfl, ⟨u, n, T, I, J, R, rfl, hS.1, hS.2.1⟩, Rn.mono (ev_Rn h2) (Nat.le_refl _) (fun r K1 e => by cases e; exact ⟨rfl, h3⟩)⟩
theorem BoL_of {O : mO} {Mc Mm : mM} {as : List Value} {c : Nat} {K K2 : mH} {a : Int64} {u n : Nat} {T : Nat → mT} {I : Nat → Nat → Int32} {J : Nat → Nat → Int64} {R : Nat → Nat → Option Nat} (h1 : ev O 200 Mc (.ref 0 :: as) K = some (some (.long a), hp u n T I J R)) (hS : St n T R) (h2 : ev O 200 Mm (.ref 69 :: as) (hp u n T I J R) = some (some (.long a), K2)) (h3 : Inv (c + 1) K2) : BoL O Inv Mc Mm as c K := by
  refine Rn.mono (ev_Rn h1) (Nat.le_refl _) ?_
  intro r K1 e
  cases e
  exact ⟨a, rfl, ⟨u, n, T, I, J, R, rfl, hS.1, hS.2.1⟩, Rn.mono (ev_Rn h2) (Nat.le_refl _) (fun r K1 e => by cases e; exact ⟨rfl, h3⟩)⟩
