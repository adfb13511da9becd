/-! the ground's methods that ask others -/
section GR2
variable {O : mO} {d u n : Nat} {T : Nat → mT} {I : Nat → Nat → Int32} {J : Nat → Nat → Int64} {R : Nat → Nat → Option Nat} {g q : Nat} {K : mH}
theorem k_bit (x : Int32) : Rn O d MJ6_bitCount_0f7a4 [.int x] K (fun r K' => r = some (.int (bcF x)) ∧ K' = K) := by
  show Go O d MJ6_bitCount_0f7a4 0 [some (.int x)] [] _ _
  refine g_iload_n dJ6_bitCount_0f7a4_0 rfl ?_
  refine g_iload_n dJ6_bitCount_0f7a4_1 rfl ?_
  refine g_iconst (v := nI 1) dJ6_bitCount_0f7a4_2 (by decide) ?_
  refine g_iushr dJ6_bitCount_0f7a4_3 ?_
  refine g_ldcwI dJ6_bitCount_0f7a4_4 iJ6_265 ?_
  refine g_iand dJ6_bitCount_0f7a4_7 ?_
  refine g_isub dJ6_bitCount_0f7a4_8 ?_
  refine g_istore_n (ls' := [some (.int _)]) dJ6_bitCount_0f7a4_9 (by decide) rfl ?_
  show Go O d MJ6_bitCount_0f7a4 10 [some (.int (bc1 x))] [] _ _
  refine g_iload_n dJ6_bitCount_0f7a4_10 rfl ?_
  refine g_ldcwI dJ6_bitCount_0f7a4_11 iJ6_266 ?_
  refine g_iand dJ6_bitCount_0f7a4_14 ?_
  refine g_iload_n dJ6_bitCount_0f7a4_15 rfl ?_
  refine g_iconst (v := nI 2) dJ6_bitCount_0f7a4_16 (by decide) ?_
  refine g_iushr dJ6_bitCount_0f7a4_17 ?_
  refine g_ldcwI dJ6_bitCount_0f7a4_18 iJ6_266 ?_
  refine g_iand dJ6_bitCount_0f7a4_21 ?_
  first | refine g_iaddN dJ6_bitCount_0f7a4_22 ?_ | refine g_iadd dJ6_bitCount_0f7a4_22 ?_
  refine g_istore_n (ls' := [some (.int _)]) dJ6_bitCount_0f7a4_23 (by decide) rfl ?_
  show Go O d MJ6_bitCount_0f7a4 24 [some (.int (bc2 (bc1 x)))] [] _ _
  refine g_iload_n dJ6_bitCount_0f7a4_24 rfl ?_
  refine g_iload_n dJ6_bitCount_0f7a4_25 rfl ?_
  refine g_iconst (v := nI 4) dJ6_bitCount_0f7a4_26 (by decide) ?_
  refine g_iushr dJ6_bitCount_0f7a4_27 ?_
  first | refine g_iaddN dJ6_bitCount_0f7a4_28 ?_ | refine g_iadd dJ6_bitCount_0f7a4_28 ?_
  refine g_ldcwI dJ6_bitCount_0f7a4_29 iJ6_267 ?_
  refine g_iand dJ6_bitCount_0f7a4_32 ?_
  refine g_istore_n (ls' := [some (.int _)]) dJ6_bitCount_0f7a4_33 (by decide) rfl ?_
  show Go O d MJ6_bitCount_0f7a4 34 [some (.int (bc3 (bc2 (bc1 x))))] [] _ _
  refine g_iload_n dJ6_bitCount_0f7a4_34 rfl ?_
  refine g_iload_n dJ6_bitCount_0f7a4_35 rfl ?_
  refine g_bipush (v := nI 8) dJ6_bitCount_0f7a4_36 (by decide) ?_
  refine g_iushr dJ6_bitCount_0f7a4_38 ?_
  first | refine g_iaddN dJ6_bitCount_0f7a4_39 ?_ | refine g_iadd dJ6_bitCount_0f7a4_39 ?_
  refine g_istore_n (ls' := [some (.int _)]) dJ6_bitCount_0f7a4_40 (by decide) rfl ?_
  show Go O d MJ6_bitCount_0f7a4 41 [some (.int (bc4 (bc3 (bc2 (bc1 x)))))] [] _ _
  refine g_iload_n dJ6_bitCount_0f7a4_41 rfl ?_
  refine g_iload_n dJ6_bitCount_0f7a4_42 rfl ?_
  refine g_bipush (v := nI 16) dJ6_bitCount_0f7a4_43 (by decide) ?_
  refine g_iushr dJ6_bitCount_0f7a4_45 ?_
  first | refine g_iaddN dJ6_bitCount_0f7a4_46 ?_ | refine g_iadd dJ6_bitCount_0f7a4_46 ?_
  refine g_istore_n (ls' := [some (.int _)]) dJ6_bitCount_0f7a4_47 (by decide) rfl ?_
  show Go O d MJ6_bitCount_0f7a4 48 [some (.int (bc5 (bc4 (bc3 (bc2 (bc1 x))))))] [] _ _
  refine g_iload_n dJ6_bitCount_0f7a4_48 rfl ?_
  refine g_bipush (v := nI 63) dJ6_bitCount_0f7a4_49 (by decide) ?_
  refine g_iand dJ6_bitCount_0f7a4_51 ?_
  exact g_ireturn dJ6_bitCount_0f7a4_52 rfl (by first | rfl | decide) ⟨rfl, rfl⟩
theorem c_freeBeds {V D : Nat} {v : Int32} (hG : IsG n T R g) (hn : n ≤ oB) (hV : I g 11 = nI V) (h5 : V ≤ 5) (hD : I g 13 = nI D) (h8 : D ≤ 8) : Rn O (d + 1) MX2_freeBeds [.ref g, .int v] (hp u n T I J R) (Sm u n T I J R (.int (if inR v V = true then I (g + 1) v.toNatClampNeg - nI (cnt (I (g + 4)) v D) else -1))) := by
  have hc := c_hasVault (O := O) (d := d) (u := u) (J := J) (v := v) hG hn hV
  have hl := c_lyingIn (O := O) (d := d) (u := u) (J := J) (v := v) hG hn hD h8
  obtain ⟨⟨t0, hg⟩, ⟨t1, t2, t3, t4, -⟩, ⟨r1, r2, r3, r4, -⟩⟩ := hG
  show Go O (d + 1) MX2_freeBeds 0 [some (.ref g), some (.int v)] [] _ _
  refine g_aload_n dX2_freeBeds_0 rfl ?_
  refine g_iload_n dX2_freeBeds_1 rfl ?_
  refine g_virt (Z := MX2_hasVault) dX2_freeBeds_2 mX2_88.1 mX2_88.2 (Nat.le_of_ble_eq_true rfl) rfl rfl (Nat.le_of_ble_eq_true rfl) (Nat.le_of_ble_eq_true rfl) (by assumption) rfl rfl (by omega) hn (hc) ?_
  rintro _ _ ⟨rfl, rfl⟩
  try dsimp only [Option.toList, List.cons_append, List.nil_append]
  cases hb : inR v V with
  | false =>
    refine g_if_eq (t := 26) dX2_freeBeds_5 (by decide) (fun c => ?_) (fun c => ?_)
    · refine g_iconst (v := -1) dX2_freeBeds_26 (by decide) ?_
      exact g_ireturn dX2_freeBeds_27 rfl (by first | rfl | decide) ⟨rfl, rfl⟩
    · exact absurd rfl c
  | true =>
    obtain ⟨k, hk, rfl⟩ := inR_ex hb (by omega)
    rw [nI_clamp (by omega)]
    refine g_if_eq (t := 26) dX2_freeBeds_5 (by decide) (fun c => ?_) (fun c => ?_)
    · exact absurd c (by decide)
    · refine g_aload_n dX2_freeBeds_8 rfl ?_
      refine g_getR dX2_freeBeds_9 fX2_9 (by assumption) rfl (by assumption) (by omega) hn ?_
      refine g_iload_n dX2_freeBeds_12 rfl ?_
      refine g_iald dX2_freeBeds_13 (by assumption) rfl (by omega) (by decide) (by omega) hn ?_
      refine g_aload_n dX2_freeBeds_14 rfl ?_
      refine g_iload_n dX2_freeBeds_15 rfl ?_
      refine g_virt (Z := MX2_lyingIn) dX2_freeBeds_16 mX2_91.1 mX2_91.2 (Nat.le_of_ble_eq_true rfl) rfl rfl (Nat.le_of_ble_eq_true rfl) (Nat.le_of_ble_eq_true rfl) (by assumption) rfl rfl (by omega) hn (hl) ?_
      rintro _ _ ⟨rfl, rfl⟩
      try dsimp only [Option.toList, List.cons_append, List.nil_append]
      refine g_stat (Z := MJ6_bitCount_0f7a4) dX2_freeBeds_19 mX2_95.1 mX2_95.2 (Nat.le_of_ble_eq_true rfl) rfl rfl (Nat.le_of_ble_eq_true rfl) (Nat.le_of_ble_eq_true rfl) (k_bit _) ?_
      rintro _ _ ⟨rfl, rfl⟩
      try dsimp only [Option.toList, List.cons_append, List.nil_append]
      rw [lyF_bc _ _ h8]
      refine g_isub dX2_freeBeds_22 ?_
      refine g_goto (t := 27) dX2_freeBeds_23 (by decide) ?_
      exact g_ireturn dX2_freeBeds_27 rfl (by first | rfl | decide) ⟨rfl, rfl⟩
theorem c_insideCount {D : Nat} (hG : IsG n T R g) (hn : n ≤ oB) (hD : I g 13 = nI D) (h8 : D ≤ 8) : Rn O (d + 1) MX2_insideCount [.ref g] (hp u n T I J R) (Sm u n T I J R (.int (nI (D - cnt (I (g + 4)) (-1) D)))) := by
  have hl := c_lyingIn (O := O) (d := d) (u := u) (J := J) (v := -1) hG hn hD h8
  obtain ⟨⟨t0, hg⟩, ⟨t1, t2, t3, t4, -⟩, ⟨r1, r2, r3, r4, -⟩⟩ := hG
  show Go O (d + 1) MX2_insideCount 0 [some (.ref g)] [] _ _
  refine g_aload_n dX2_insideCount_0 rfl ?_
  refine g_getI dX2_insideCount_1 fX2_52 (by assumption) rfl (by omega) hn ?_
  refine g_aload_n dX2_insideCount_4 rfl ?_
  refine g_iconst (v := -1) dX2_insideCount_5 (by decide) ?_
  refine g_virt (Z := MX2_lyingIn) dX2_insideCount_6 mX2_91.1 mX2_91.2 (Nat.le_of_ble_eq_true rfl) rfl rfl (Nat.le_of_ble_eq_true rfl) (Nat.le_of_ble_eq_true rfl) (by assumption) rfl rfl (by omega) hn (hl) ?_
  rintro _ _ ⟨rfl, rfl⟩
  try dsimp only [Option.toList, List.cons_append, List.nil_append]
  refine g_stat (Z := MJ6_bitCount_0f7a4) dX2_insideCount_9 mX2_95.1 mX2_95.2 (Nat.le_of_ble_eq_true rfl) rfl rfl (Nat.le_of_ble_eq_true rfl) (Nat.le_of_ble_eq_true rfl) (k_bit _) ?_
  rintro _ _ ⟨rfl, rfl⟩
  try dsimp only [Option.toList, List.cons_append, List.nil_append]
  rw [lyF_bc _ _ h8, hD]
  refine g_isubN dX2_insideCount_12 (cnt_le _ _ _) ?_
  exact g_ireturn dX2_insideCount_13 rfl (by first | rfl | decide) ⟨rfl, rfl⟩
theorem c_wishOf {V D : Nat} {e v : Int32} (hG : IsG n T R g) (hn : n ≤ oB) (hV : I g 11 = nI V) (h5 : V ≤ 5) (hD : I g 13 = nI D) (h8 : D ≤ 8) : Rn O (d + 1) MX2_wishOf [.ref g, .int e, .int v] (hp u n T I J R) (Sm u n T I J R (.int (if (inR e D && inR v V) = true then I (g + 6) (e.toNatClampNeg * 5 + v.toNatClampNeg) else nI 0))) := by
  have hc := c_hasDead (O := O) (d := d) (u := u) (J := J) (v := e) hG hn hD
  have hc2 := c_hasVault (O := O) (d := d) (u := u) (J := J) (v := v) hG hn hV
  obtain ⟨⟨t0, hg⟩, ⟨t1, t2, t3, t4, t5, t6, -⟩, ⟨r1, r2, r3, r4, r5, r6, -⟩⟩ := hG
  show Go O (d + 1) MX2_wishOf 0 [some (.ref g), some (.int e), some (.int v)] [] _ _
  refine g_aload_n dX2_wishOf_0 rfl ?_
  refine g_iload_n dX2_wishOf_1 rfl ?_
  refine g_virt (Z := MX2_hasDead) dX2_wishOf_2 mX2_77.1 mX2_77.2 (Nat.le_of_ble_eq_true rfl) rfl rfl (Nat.le_of_ble_eq_true rfl) (Nat.le_of_ble_eq_true rfl) (by assumption) rfl rfl (by omega) hn (hc) ?_
  rintro _ _ ⟨rfl, rfl⟩
  try dsimp only [Option.toList, List.cons_append, List.nil_append]
  cases hb : inR e D with
  | false =>
    refine g_if_eq (t := 29) dX2_wishOf_5 (by decide) (fun c => ?_) (fun c => ?_)
    · refine g_iconst (v := nI 0) dX2_wishOf_29 (by decide) ?_
      exact g_ireturn dX2_wishOf_30 rfl (by first | rfl | decide) ⟨rfl, rfl⟩
    · exact absurd rfl c
  | true =>
    obtain ⟨j, hj, rfl⟩ := inR_ex hb (by omega)
    rw [nI_clamp (by omega)]
    refine g_if_eq (t := 29) dX2_wishOf_5 (by decide) (fun c => ?_) (fun c => ?_)
    · exact absurd c (by decide)
    · refine g_aload_n dX2_wishOf_8 rfl ?_
      refine g_iload_n dX2_wishOf_9 rfl ?_
      refine g_virt (Z := MX2_hasVault) dX2_wishOf_10 mX2_88.1 mX2_88.2 (Nat.le_of_ble_eq_true rfl) rfl rfl (Nat.le_of_ble_eq_true rfl) (Nat.le_of_ble_eq_true rfl) (by assumption) rfl rfl (by omega) hn (hc2) ?_
      rintro _ _ ⟨rfl, rfl⟩
      try dsimp only [Option.toList, List.cons_append, List.nil_append]
      cases hb2 : inR v V with
      | false =>
        refine g_if_eq (t := 29) dX2_wishOf_13 (by decide) (fun c2 => ?_) (fun c2 => ?_)
        · refine g_iconst (v := nI 0) dX2_wishOf_29 (by decide) ?_
          exact g_ireturn dX2_wishOf_30 rfl (by first | rfl | decide) ⟨rfl, rfl⟩
        · exact absurd rfl c2
      | true =>
        obtain ⟨k, hk, rfl⟩ := inR_ex hb2 (by omega)
        rw [nI_clamp (by omega)]
        refine g_if_eq (t := 29) dX2_wishOf_13 (by decide) (fun c2 => ?_) (fun c2 => ?_)
        · exact absurd c2 (by decide)
        · refine g_aload_n dX2_wishOf_16 rfl ?_
          refine g_getR dX2_wishOf_17 fX2_27 (by assumption) rfl (by assumption) (by omega) hn ?_
          refine g_iload_n dX2_wishOf_20 rfl ?_
          refine g_iconst (v := nI 5) dX2_wishOf_21 (by decide) ?_
          first | refine g_imulN dX2_wishOf_22 ?_ | refine g_imul dX2_wishOf_22 ?_
          refine g_iload_n dX2_wishOf_23 rfl ?_
          first | refine g_iaddN dX2_wishOf_24 ?_ | refine g_iadd dX2_wishOf_24 ?_
          refine g_iald dX2_wishOf_25 (by assumption) rfl (by omega) (by decide) (by omega) hn ?_
          refine g_goto (t := 30) dX2_wishOf_26 (by decide) ?_
          exact g_ireturn dX2_wishOf_30 rfl (by first | rfl | decide) ⟨rfl, rfl⟩
theorem c_lawAt {N : Nat} {v : Int32} (hG : IsG n T R g) (hn : n ≤ oB) (hN : I g 16 = nI N) (h6 : N ≤ 6) : Rn O (d + 1) MX2_lawAt [.ref g, .int v] (hp u n T I J R) (Sm u n T I J R (va_rf (if inR v N = true then R (g + 10) v.toNatClampNeg else none))) := by
  have hc := c_hasLaw (O := O) (d := d) (u := u) (J := J) (v := v) hG hn hN
  obtain ⟨⟨t0, hg⟩, ⟨t1, t2, t3, t4, t5, t6, t7, t8, t9, t10⟩, ⟨r1, r2, r3, r4, r5, r6, r7, r8, r9, r10⟩⟩ := hG
  show Go O (d + 1) MX2_lawAt 0 [some (.ref g), some (.int v)] [] _ _
  refine g_aload_n dX2_lawAt_0 rfl ?_
  refine g_iload_n dX2_lawAt_1 rfl ?_
  refine g_virt (Z := MX2_hasLaw) dX2_lawAt_2 mX2_81.1 mX2_81.2 (Nat.le_of_ble_eq_true rfl) rfl rfl (Nat.le_of_ble_eq_true rfl) (Nat.le_of_ble_eq_true rfl) (by assumption) rfl rfl (by omega) hn (hc) ?_
  rintro _ _ ⟨rfl, rfl⟩
  try dsimp only [Option.toList, List.cons_append, List.nil_append]
  cases hb : inR v N with
  | false =>
    refine g_if_eq (t := 17) dX2_lawAt_5 (by decide) (fun c => ?_) (fun c => ?_)
    · refine g_null dX2_lawAt_17 ?_
      exact g_areturnN dX2_lawAt_18 rfl ⟨rfl, rfl⟩
    · exact absurd rfl c
  | true =>
    obtain ⟨k, hk, rfl⟩ := inR_ex hb (by omega)
    rw [nI_clamp (by omega)]
    refine g_if_eq (t := 17) dX2_lawAt_5 (by decide) (fun c => ?_) (fun c => ?_)
    · exact absurd c (by decide)
    · refine g_aload_n dX2_lawAt_8 rfl ?_
      refine g_getR dX2_lawAt_9 fX2_41 (by assumption) rfl (by assumption) (by omega) hn ?_
      refine g_iload_n dX2_lawAt_12 rfl ?_
      refine g_aald (Or.inr rfl) dX2_lawAt_13 (by assumption) rfl (by omega) (by decide) (by omega) hn ?_
      refine g_goto (t := 18) dX2_lawAt_14 (by decide) ?_
      rw [if_pos rfl]
      cases R (g + 10) k with
      | none => exact g_areturnN dX2_lawAt_18 rfl ⟨rfl, rfl⟩
      | some a => exact g_areturn dX2_lawAt_18 rfl ⟨rfl, rfl⟩
theorem c_inForce {N : Nat} (hG : IsG n T R g) (hn : n ≤ oB) (hN : I g 16 = nI N) (h6 : N ≤ 6) : Rn O (d + 2) MX2_inForce [.ref g] (hp u n T I J R) (Sm u n T I J R (va_rf (if inR (I g 17) N = true then R (g + 10) (I g 17).toNatClampNeg else none))) := by
  have hc := c_lawAt (O := O) (d := d) (u := u) (J := J) (v := I g 17) hG hn hN h6
  obtain ⟨⟨t0, hg⟩, -, -⟩ := hG
  show Go O (d + 1 + 1) MX2_inForce 0 [some (.ref g)] [] _ _
  refine g_aload_n dX2_inForce_0 rfl ?_
  refine g_aload_n dX2_inForce_1 rfl ?_
  refine g_getI dX2_inForce_2 fX2_64 (by assumption) rfl (by omega) hn ?_
  refine g_virt (Z := MX2_lawAt) dX2_inForce_5 mX2_84.1 mX2_84.2 (Nat.le_of_ble_eq_true rfl) rfl rfl (Nat.le_of_ble_eq_true rfl) (Nat.le_of_ble_eq_true rfl) (by assumption) rfl rfl (by omega) hn (hc) ?_
  rintro _ _ ⟨rfl, rfl⟩
  try dsimp only [Option.toList, List.cons_append, List.nil_append]
  cases (if inR (I g 17) N = true then R (g + 10) (I g 17).toNatClampNeg else none) with
  | none => exact g_areturnN dX2_inForce_8 rfl ⟨rfl, rfl⟩
  | some a => exact g_areturn dX2_inForce_8 rfl ⟨rfl, rfl⟩
theorem k_freeIn {D k : Nat} (hM : IsM n T R q) (hn : n ≤ oB) (hD : I (q + 2) 2 = nI D) (h8 : D ≤ 8) (hk : k < 5) : Rn O (d + 1) MX11_freeIn [.ref q, .int (nI k)] (hp u n T I J R) (Sm u n T I J R (.int (I (q + 2) (37 + k) - nI (cnt (fun j => I (q + 2) (9 + j)) (nI k) D)))) := by
  have hl := k_lyingIn (O := O) (d := d) (u := u) (J := J) (v := nI k) hM hn hD h8
  obtain ⟨⟨t0, hg⟩, ⟨t1, t2, -⟩, ⟨r2, r3, -⟩⟩ := hM
  show Go O (d + 1) MX11_freeIn 0 [some (.ref q), some (.int (nI k))] [] _ _
  refine g_aload_n dX11_freeIn_0 rfl ?_
  refine g_getR dX11_freeIn_1 fX11_13 (by assumption) rfl (by assumption) (by omega) hn ?_
  refine g_bipush (v := nI 37) dX11_freeIn_4 (by decide) ?_
  refine g_iload_n dX11_freeIn_6 rfl ?_
  first | refine g_iaddN dX11_freeIn_7 ?_ | refine g_iadd dX11_freeIn_7 ?_
  refine g_iald dX11_freeIn_8 (by assumption) rfl (by omega) (by decide) (by omega) hn ?_
  refine g_aload_n dX11_freeIn_9 rfl ?_
  refine g_iload_n dX11_freeIn_10 rfl ?_
  refine g_virt (Z := MX11_lyingIn) dX11_freeIn_11 mX11_176.1 mX11_176.2 (Nat.le_of_ble_eq_true rfl) rfl rfl (Nat.le_of_ble_eq_true rfl) (Nat.le_of_ble_eq_true rfl) (by assumption) rfl rfl (by omega) hn (hl) ?_
  rintro _ _ ⟨rfl, rfl⟩
  try dsimp only [Option.toList, List.cons_append, List.nil_append]
  refine g_stat (Z := MX11_ones) dX11_freeIn_14 mX11_179.1 mX11_179.2 (Nat.le_of_ble_eq_true rfl) rfl rfl (Nat.le_of_ble_eq_true rfl) (Nat.le_of_ble_eq_true rfl) (k_ones _) ?_
  rintro _ _ ⟨rfl, rfl⟩
  try dsimp only [Option.toList, List.cons_append, List.nil_append]
  rw [lyF_on _ _ h8]
  refine g_isub dX11_freeIn_17 ?_
  exact g_ireturn dX11_freeIn_18 rfl (by first | rfl | decide) ⟨rfl, rfl⟩
end GR2
