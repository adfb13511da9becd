/-! methods as functions, by gen50.py -/
noncomputable def F_X10_rooms (O : mO) (d : Nat) (a0 : Nat) (a1 : Int32) (K : mH) : Option (Int32 × mH) :=
  if a1 < 0 then
    some ((-1), K)
  else
    (gtA K a0 10 10).bind fun x2 =>
    (gtI K x2 2 13).bind fun x3 =>
    if a1 < ((nI 2) + x3) then
      (gtA K a0 10 2).bind fun x5 =>
      (gtA K a0 10 10).bind fun x6 =>
      (toV (vc O d 7 MX7_plan x5 [.ref x6] K)).bind fun K7 =>
      if a1 = 0 then
        (gtA K7 a0 10 2).bind fun x16 =>
        (gtI K7 x16 7 12).bind fun x17 =>
        some (x17, K7)
      else
        if a1 = (nI 1) then
          (gtA K7 a0 10 2).bind fun x14 =>
          (gtI K7 x14 7 13).bind fun x15 =>
          some (x15, K7)
        else
          (gtA K7 a0 10 2).bind fun x11 =>
          (gtA K7 x11 7 0).bind fun x12 =>
          (rdI O K7 x12 (a1 - (nI 2))).bind fun x13 =>
          some (x13, K7)
    else
      some ((-1), K)
theorem e_X10_rooms {O : mO} {d : Nat} {a0 : Nat} {a1 : Int32} {K : mH} {r0 : Int32} {K0 : mH} (h : F_X10_rooms O d a0 a1 K = some (r0, K0)) : ev O (d + 1) MX10_rooms [.ref a0, .int a1] K = some (some (.int r0), K0) := by
  refine Rn_evx ?_
  show Go O (d + 1) MX10_rooms 0 [some (.ref a0), some (.int a1)] [] K _
  generalize hP : (fun (r : Option Value) (K' : mH) => (r, K') = (some (.int r0), K0)) = P
  have hret : ∀ (r : Int32) (K' : mH), (r, K') = (r0, K0) → P (some (.int r)) K' := by
    intro r K' e
    cases e
    subst hP
    rfl
  clear hP
  unfold F_X10_rooms at h
  refine g_iload_n dX10_rooms_0 rfl ?_
  refine g_if_lt (t := 17) dX10_rooms_1 (by decide) (fun c1 => ?_) (fun c1 => ?_)
  · rw [if_pos c1] at h
    refine g_iconst (v := (-1)) dX10_rooms_17 (by decide) ?_
    exact g_ireturn dX10_rooms_18 rfl (by first | rfl | decide) (hret _ _ (Option.some.inj h))
  · rw [if_neg c1] at h
    refine g_iload_n dX10_rooms_4 rfl ?_
    refine g_iconst (v := (nI 2)) dX10_rooms_5 (by decide) ?_
    refine g_aload_n dX10_rooms_6 rfl ?_
    obtain ⟨x2, ex2, h⟩ := bs h
    refine q_getA dX10_rooms_7 fX10_89 ex2 ?_
    obtain ⟨x3, ex3, h⟩ := bs h
    refine q_getI dX10_rooms_10 fX10_157 ex3 ?_
    refine g_iadd dX10_rooms_13 ?_
    refine g_ic_lt (t := 19) dX10_rooms_14 (by decide) (fun c4 => ?_) (fun c4 => ?_)
    · rw [if_pos c4] at h
      refine g_aload_n dX10_rooms_19 rfl ?_
      obtain ⟨x5, ex5, h⟩ := bs h
      refine q_getA dX10_rooms_20 fX10_26 ex5 ?_
      refine g_aload_n dX10_rooms_23 rfl ?_
      obtain ⟨x6, ex6, h⟩ := bs h
      refine q_getA dX10_rooms_24 fX10_89 ex6 ?_
      obtain ⟨K7, eK7, h⟩ := bs h
      refine q_virt (Z := MX7_plan) (c := (RX7, TX7, 14)) (toV_s eK7) dX10_rooms_27 mX10_303.1 mX10_303.2 (Nat.le_of_ble_eq_true rfl) rfl rfl (Nat.le_of_ble_eq_true rfl) (Nat.le_of_ble_eq_true rfl) rfl rfl ?_
      show Go O (d + 1) MX10_rooms 30 [some (.ref a0), some (.int a1)] [] K7 P
      refine g_iload_n dX10_rooms_30 rfl ?_
      refine g_if_ne (t := 42) dX10_rooms_31 (by decide) (fun c8 => ?_) (fun c8 => ?_)
      · rw [if_neg c8] at h
        refine g_iload_n dX10_rooms_42 rfl ?_
        refine g_iconst (v := (nI 1)) dX10_rooms_43 (by decide) ?_
        refine g_ic_ne (t := 57) dX10_rooms_44 (by decide) (fun c10 => ?_) (fun c10 => ?_)
        · rw [if_neg c10] at h
          refine g_aload_n dX10_rooms_57 rfl ?_
          obtain ⟨x11, ex11, h⟩ := bs h
          refine q_getA dX10_rooms_58 fX10_26 ex11 ?_
          obtain ⟨x12, ex12, h⟩ := bs h
          refine q_getA dX10_rooms_61 fX10_312 ex12 ?_
          refine g_iload_n dX10_rooms_64 rfl ?_
          refine g_iconst (v := (nI 2)) dX10_rooms_65 (by decide) ?_
          refine g_isub dX10_rooms_66 ?_
          obtain ⟨x13, ex13, h⟩ := bs h
          refine q_iald dX10_rooms_67 ex13 ?_
          exact g_ireturn dX10_rooms_68 rfl (by first | rfl | decide) (hret _ _ (Option.some.inj h))
        · rw [if_pos c10] at h
          refine g_aload_n dX10_rooms_47 rfl ?_
          obtain ⟨x14, ex14, h⟩ := bs h
          refine q_getA dX10_rooms_48 fX10_26 ex14 ?_
          obtain ⟨x15, ex15, h⟩ := bs h
          refine q_getI dX10_rooms_51 fX10_310 ex15 ?_
          refine g_goto (t := 68) dX10_rooms_54 (by decide) ?_
          exact g_ireturn dX10_rooms_68 rfl (by first | rfl | decide) (hret _ _ (Option.some.inj h))
      · rw [if_pos c8] at h
        refine g_aload_n dX10_rooms_34 rfl ?_
        obtain ⟨x16, ex16, h⟩ := bs h
        refine q_getA dX10_rooms_35 fX10_26 ex16 ?_
        obtain ⟨x17, ex17, h⟩ := bs h
        refine q_getI dX10_rooms_38 fX10_307 ex17 ?_
        exact g_ireturn dX10_rooms_41 rfl (by first | rfl | decide) (hret _ _ (Option.some.inj h))
    · rw [if_neg c4] at h
      refine g_iconst (v := (-1)) dX10_rooms_17 (by decide) ?_
      exact g_ireturn dX10_rooms_18 rfl (by first | rfl | decide) (hret _ _ (Option.some.inj h))
noncomputable def F_X10_packed (O : mO) (d : Nat) (a0 : Nat) (a1 : Int32) (K : mH) : Option (Int32 × mH) :=
  if a1 < 0 then
    some ((-1), K)
  else
    if a1 ≤ (nI 1) then
      (gtA K a0 10 1).bind fun x3 =>
      (gtA K a0 10 10).bind fun x4 =>
      (toI (vc O d 4 MX4_packing x3 [.ref x4, .int a1] K)).bind fun p5 =>
      some (p5.1, p5.2)
    else
      some ((-1), K)
theorem e_X10_packed {O : mO} {d : Nat} {a0 : Nat} {a1 : Int32} {K : mH} {r0 : Int32} {K0 : mH} (h : F_X10_packed O d a0 a1 K = some (r0, K0)) : ev O (d + 1) MX10_packed [.ref a0, .int a1] K = some (some (.int r0), K0) := by
  refine Rn_evx ?_
  show Go O (d + 1) MX10_packed 0 [some (.ref a0), some (.int a1)] [] K _
  generalize hP : (fun (r : Option Value) (K' : mH) => (r, K') = (some (.int r0), K0)) = P
  have hret : ∀ (r : Int32) (K' : mH), (r, K') = (r0, K0) → P (some (.int r)) K' := by
    intro r K' e
    cases e
    subst hP
    rfl
  clear hP
  unfold F_X10_packed at h
  refine g_iload_n dX10_packed_0 rfl ?_
  refine g_if_lt (t := 9) dX10_packed_1 (by decide) (fun c1 => ?_) (fun c1 => ?_)
  · rw [if_pos c1] at h
    refine g_iconst (v := (-1)) dX10_packed_9 (by decide) ?_
    exact g_ireturn dX10_packed_10 rfl (by first | rfl | decide) (hret _ _ (Option.some.inj h))
  · rw [if_neg c1] at h
    refine g_iload_n dX10_packed_4 rfl ?_
    refine g_iconst (v := (nI 1)) dX10_packed_5 (by decide) ?_
    refine g_ic_le (t := 11) dX10_packed_6 (by decide) (fun c2 => ?_) (fun c2 => ?_)
    · rw [if_pos c2] at h
      refine g_aload_n dX10_packed_11 rfl ?_
      obtain ⟨x3, ex3, h⟩ := bs h
      refine q_getA dX10_packed_12 fX10_19 ex3 ?_
      refine g_aload_n dX10_packed_15 rfl ?_
      obtain ⟨x4, ex4, h⟩ := bs h
      refine q_getA dX10_packed_16 fX10_89 ex4 ?_
      refine g_iload_n dX10_packed_19 rfl ?_
      obtain ⟨p5, ep5, h⟩ := bs h
      refine q_virt (Z := MX4_packing) (c := (RX4, TX4, 2)) (toI_s ep5) dX10_packed_20 mX10_315.1 mX10_315.2 (Nat.le_of_ble_eq_true rfl) rfl rfl (Nat.le_of_ble_eq_true rfl) (Nat.le_of_ble_eq_true rfl) rfl rfl ?_
      show Go O (d + 1) MX10_packed 23 [some (.ref a0), some (.int a1)] [.int p5.1] p5.2 P
      exact g_ireturn dX10_packed_23 rfl (by first | rfl | decide) (hret _ _ (Option.some.inj h))
    · rw [if_neg c2] at h
      refine g_iconst (v := (-1)) dX10_packed_9 (by decide) ?_
      exact g_ireturn dX10_packed_10 rfl (by first | rfl | decide) (hret _ _ (Option.some.inj h))
noncomputable def F_X10_changes (O : mO) (d : Nat) (a0 : Nat) (a1 : Int32) (K : mH) : Option (Int32 × mH) :=
  if (-1) ≤ a1 then
    (gtA K a0 10 1).bind fun x2 =>
    (gtA K a0 10 10).bind fun x3 =>
    (toI (vc O d 4 MX4_exchange x2 [.ref x3, .int a1] K)).bind fun p4 =>
    some (p4.1, p4.2)
  else
    some ((-1), K)
theorem e_X10_changes {O : mO} {d : Nat} {a0 : Nat} {a1 : Int32} {K : mH} {r0 : Int32} {K0 : mH} (h : F_X10_changes O d a0 a1 K = some (r0, K0)) : ev O (d + 1) MX10_changes [.ref a0, .int a1] K = some (some (.int r0), K0) := by
  refine Rn_evx ?_
  show Go O (d + 1) MX10_changes 0 [some (.ref a0), some (.int a1)] [] K _
  generalize hP : (fun (r : Option Value) (K' : mH) => (r, K') = (some (.int r0), K0)) = P
  have hret : ∀ (r : Int32) (K' : mH), (r, K') = (r0, K0) → P (some (.int r)) K' := by
    intro r K' e
    cases e
    subst hP
    rfl
  clear hP
  unfold F_X10_changes at h
  refine g_iload_n dX10_changes_0 rfl ?_
  refine g_iconst (v := (-1)) dX10_changes_1 (by decide) ?_
  refine g_ic_ge (t := 7) dX10_changes_2 (by decide) (fun c1 => ?_) (fun c1 => ?_)
  · rw [if_pos c1] at h
    refine g_aload_n dX10_changes_7 rfl ?_
    obtain ⟨x2, ex2, h⟩ := bs h
    refine q_getA dX10_changes_8 fX10_19 ex2 ?_
    refine g_aload_n dX10_changes_11 rfl ?_
    obtain ⟨x3, ex3, h⟩ := bs h
    refine q_getA dX10_changes_12 fX10_89 ex3 ?_
    refine g_iload_n dX10_changes_15 rfl ?_
    obtain ⟨p4, ep4, h⟩ := bs h
    refine q_virt (Z := MX4_exchange) (c := (RX4, TX4, 2)) (toI_s ep4) dX10_changes_16 mX10_318.1 mX10_318.2 (Nat.le_of_ble_eq_true rfl) rfl rfl (Nat.le_of_ble_eq_true rfl) (Nat.le_of_ble_eq_true rfl) rfl rfl ?_
    show Go O (d + 1) MX10_changes 19 [some (.ref a0), some (.int a1)] [.int p4.1] p4.2 P
    exact g_ireturn dX10_changes_19 rfl (by first | rfl | decide) (hret _ _ (Option.some.inj h))
  · rw [if_neg c1] at h
    refine g_iconst (v := (-1)) dX10_changes_5 (by decide) ?_
    exact g_ireturn dX10_changes_6 rfl (by first | rfl | decide) (hret _ _ (Option.some.inj h))
noncomputable def F_X10_few_l38 (O : mO) (d : Nat) (v0 : Nat) (v1 : Int32) (v2 : Int32) (v3 : Int32) (s4 : Int32) (K : mH) : Option ((Int32 × mH) ⊕ (mH)) :=
  if v1 ≤ s4 then
    some (.inr K)
  else
    (gtA K v0 10 4).bind fun x9 =>
    (wrJ K x9 s4 (if s4 = 0 then (1000000000000) else 0)).bind fun K11 =>
    some (.inl ((s4 + nI 1), K11))
theorem e_X10_few_l38 {O : mO} {d : Nat} {v0 : Nat} {v1 : Int32} {v2 : Int32} {v3 : Int32} {P : Option Value → mH → Prop} {x : mH} (hex : ∀ q : mH, x = q → Go O (d + 1) MX10_few 69 [some (.ref v0), some (.int v1), some (.int v2), some (.int v3), none, none, none, none] [] q P) : ∀ (f : Nat) (q : Int32 × mH), lupF (fun (q : Int32 × mH) => F_X10_few_l38 O d v0 v1 v2 v3 q.1 q.2) f q = some x → Go O (d + 1) MX10_few 38 [some (.ref v0), some (.int v1), some (.int v2), some (.int v3), some (.int q.1), none, none, none] [] q.2 P := by
  intro f
  induction f with
  | zero =>
    intro q h
    cases h
  | succ f ih =>
    intro q h
    obtain ⟨y, h, hy1, hy2⟩ := lupF_s h
    have hin : ∀ q : Int32 × mH, y = .inl q → Go O (d + 1) MX10_few 38 [some (.ref v0), some (.int v1), some (.int v2), some (.int v3), some (.int q.1), none, none, none] [] q.2 P := fun q e => ih q (hy1 q e)
    replace hex : ∀ q : mH, y = .inr q → Go O (d + 1) MX10_few 69 [some (.ref v0), some (.int v1), some (.int v2), some (.int v3), none, none, none, none] [] q P := fun q e => hex q (hy2 q e).symm
    clear ih hy1 hy2
    obtain ⟨s4, K⟩ := q
    dsimp only at h ⊢
    unfold F_X10_few_l38 at h
    refine g_iload dX10_few_38 rfl ?_
    refine g_iload_n dX10_few_40 rfl ?_
    refine g_ic_ge (t := 69) dX10_few_41 (by decide) (fun c8 => ?_) (fun c8 => ?_)
    · rw [if_pos c8] at h
      refine Go_le ?_ (hex K (Option.some.inj h).symm)
      exact And.intro rfl (And.intro rfl (And.intro rfl (And.intro rfl (trivial))))
    · rw [if_neg c8] at h
      refine g_aload_n dX10_few_44 rfl ?_
      obtain ⟨x9, ex9, h⟩ := bs h
      refine q_getA dX10_few_45 fX10_37 ex9 ?_
      refine g_iload dX10_few_48 rfl ?_
      refine g_iload dX10_few_50 rfl ?_
      have hj : Go O (d + 1) MX10_few 62 [some (.ref v0), some (.int v1), some (.int v2), some (.int v3), some (.int s4), none, none, none] [.long (if s4 = 0 then (1000000000000) else 0), .int s4, .ref x9] K P := by
        obtain ⟨K11, eK11, h⟩ := bs h
        refine q_last dX10_few_62 eK11 ?_
        refine q_iinc (w := nI 1) (ls' := [some (.ref v0), some (.int v1), some (.int v2), some (.int v3), some (.int (s4 + nI 1)), none, none, none]) dX10_few_63 (by decide) rfl (by decide) rfl ?_
        refine g_goto (t := 38) dX10_few_66 (by decide) ?_
        refine Go_le ?_ (hin ((s4 + nI 1), K11) (Option.some.inj h).symm)
        exact And.intro rfl (And.intro rfl (And.intro rfl (And.intro rfl (And.intro rfl (trivial)))))
      refine g_if_ne (t := 61) dX10_few_52 (by decide) (fun c10 => ?_) (fun c10 => ?_)
      · skip
        refine g_lconst (v := 0) dX10_few_61 (by decide) ?_
        have hk : Go O (d + 1) MX10_few 62 [some (.ref v0), some (.int v1), some (.int v2), some (.int v3), some (.int s4), none, none, none] [.long 0, .int s4, .ref x9] K P := by simpa only [if_neg c10] using hj
        refine Go_le ?_ hk
        exact And.intro rfl (And.intro rfl (And.intro rfl (And.intro rfl (And.intro rfl (trivial)))))
      · skip
        refine g_ldc2 (v := 1000000000000) dX10_few_55 lX10_323 ?_
        refine g_goto (t := 62) dX10_few_58 (by decide) ?_
        have hk : Go O (d + 1) MX10_few 62 [some (.ref v0), some (.int v1), some (.int v2), some (.int v3), some (.int s4), none, none, none] [.long (1000000000000), .int s4, .ref x9] K P := by simpa only [if_pos c10] using hj
        refine Go_le ?_ hk
        exact And.intro rfl (And.intro rfl (And.intro rfl (And.intro rfl (And.intro rfl (trivial)))))
noncomputable def F_X10_few_j113 (O : mO) (d : Nat) (v0 : Nat) (v1 : Int32) (v2 : Int32) (v3 : Int32) (v4 : Int32) (v5 : Int32) (w0 : Int64) (K : mH) : Option ((Int32 × mH) ⊕ (mH)) :=
  (gtA K v0 10 4).bind fun x19 =>
  (gtA K v0 10 4).bind fun x20 =>
  (rdJ O K x20 v5).bind fun x21 =>
  (wrJ K x19 v5 (((x21 * ((nI 10) - v3).toInt64) / (10)) + w0)).bind fun K22 =>
  some (.inl ((v5 + (-1)), K22))
theorem e_X10_few_j113 {O : mO} {d : Nat} {v0 : Nat} {v1 : Int32} {v2 : Int32} {v3 : Int32} {v4 : Int32} {v5 : Int32} {w0 : Int64} {K : mH} {P : Option Value → mH → Prop} {y : (Int32 × mH) ⊕ (mH)} (hin : ∀ q : Int32 × mH, y = .inl q → Go O (d + 1) MX10_few 83 [some (.ref v0), some (.int v1), some (.int v2), some (.int v3), some (.int v4), some (.int q.1), none, none] [] q.2 P) (hex : ∀ q : mH, y = .inr q → Go O (d + 1) MX10_few 148 [some (.ref v0), some (.int v1), some (.int v2), some (.int v3), some (.int v4), none, none, none] [] q P) (h : F_X10_few_j113 O d v0 v1 v2 v3 v4 v5 w0 K = some y) : Go O (d + 1) MX10_few 113 [some (.ref v0), some (.int v1), some (.int v2), some (.int v3), some (.int v4), some (.int v5), none, none] [.long w0] K P := by
  unfold F_X10_few_j113 at h
  refine g_lstore (ls' := [some (.ref v0), some (.int v1), some (.int v2), some (.int v3), some (.int v4), some (.int v5), some (.long w0), none]) dX10_few_113 (by decide) rfl ?_
  refine g_aload_n dX10_few_115 rfl ?_
  obtain ⟨x19, ex19, h⟩ := bs h
  refine q_getA dX10_few_116 fX10_37 ex19 ?_
  refine g_iload dX10_few_119 rfl ?_
  refine g_aload_n dX10_few_121 rfl ?_
  obtain ⟨x20, ex20, h⟩ := bs h
  refine q_getA dX10_few_122 fX10_37 ex20 ?_
  refine g_iload dX10_few_125 rfl ?_
  obtain ⟨x21, ex21, h⟩ := bs h
  refine q_lald dX10_few_127 ex21 ?_
  refine g_bipush (v := (nI 10)) dX10_few_128 (by decide) ?_
  refine g_iload_n dX10_few_130 rfl ?_
  refine g_isub dX10_few_131 ?_
  refine g_i2l dX10_few_132 ?_
  refine g_lmul dX10_few_133 ?_
  refine g_ldc2 (v := 10) dX10_few_134 lX10_325 ?_
  refine g_ldiv dX10_few_137 (by decide) ?_
  refine g_lload dX10_few_138 rfl ?_
  refine g_ladd dX10_few_140 ?_
  obtain ⟨K22, eK22, h⟩ := bs h
  refine q_last dX10_few_141 eK22 ?_
  refine q_iinc (w := (-1)) (ls' := [some (.ref v0), some (.int v1), some (.int v2), some (.int v3), some (.int v4), some (.int (v5 + (-1))), some (.long w0), none]) dX10_few_142 (by decide) rfl (by decide) rfl ?_
  refine g_goto (t := 83) dX10_few_145 (by decide) ?_
  have hh := hin ((v5 + (-1)), K22) (Option.some.inj h).symm; (try dsimp only at hh); refine Go_le ?_ hh
  exact And.intro rfl (And.intro rfl (And.intro rfl (And.intro rfl (And.intro rfl (And.intro rfl (trivial))))))
noncomputable def F_X10_few_l83 (O : mO) (d : Nat) (v0 : Nat) (v1 : Int32) (v2 : Int32) (v3 : Int32) (v4 : Int32) (s5 : Int32) (K : mH) : Option ((Int32 × mH) ⊕ (mH)) :=
  if s5 < 0 then
    some (.inr K)
  else
    if s5 = 0 then
      F_X10_few_j113 O d v0 v1 v2 v3 v4 s5 0 K
    else
      (gtA K v0 10 4).bind fun x17 =>
      (rdJ O K x17 (s5 - (nI 1))).bind fun x18 =>
      F_X10_few_j113 O d v0 v1 v2 v3 v4 s5 ((x18 * v3.toInt64) / (10)) K
theorem e_X10_few_l83 {O : mO} {d : Nat} {v0 : Nat} {v1 : Int32} {v2 : Int32} {v3 : Int32} {v4 : Int32} {P : Option Value → mH → Prop} {x : mH} (hex : ∀ q : mH, x = q → Go O (d + 1) MX10_few 148 [some (.ref v0), some (.int v1), some (.int v2), some (.int v3), some (.int v4), none, none, none] [] q P) : ∀ (f : Nat) (q : Int32 × mH), lupF (fun (q : Int32 × mH) => F_X10_few_l83 O d v0 v1 v2 v3 v4 q.1 q.2) f q = some x → Go O (d + 1) MX10_few 83 [some (.ref v0), some (.int v1), some (.int v2), some (.int v3), some (.int v4), some (.int q.1), none, none] [] q.2 P := by
  intro f
  induction f with
  | zero =>
    intro q h
    cases h
  | succ f ih =>
    intro q h
    obtain ⟨y, h, hy1, hy2⟩ := lupF_s h
    have hin : ∀ q : Int32 × mH, y = .inl q → Go O (d + 1) MX10_few 83 [some (.ref v0), some (.int v1), some (.int v2), some (.int v3), some (.int v4), some (.int q.1), none, none] [] q.2 P := fun q e => ih q (hy1 q e)
    replace hex : ∀ q : mH, y = .inr q → Go O (d + 1) MX10_few 148 [some (.ref v0), some (.int v1), some (.int v2), some (.int v3), some (.int v4), none, none, none] [] q P := fun q e => hex q (hy2 q e).symm
    clear ih hy1 hy2
    obtain ⟨s5, K⟩ := q
    dsimp only at h ⊢
    unfold F_X10_few_l83 at h
    refine g_iload dX10_few_83 rfl ?_
    refine g_if_lt (t := 148) dX10_few_85 (by decide) (fun c14 => ?_) (fun c14 => ?_)
    · rw [if_pos c14] at h
      refine Go_le ?_ (hex K (Option.some.inj h).symm)
      exact And.intro rfl (And.intro rfl (And.intro rfl (And.intro rfl (And.intro rfl (trivial)))))
    · rw [if_neg c14] at h
      refine g_iload dX10_few_88 rfl ?_
      refine g_if_ne (t := 97) dX10_few_90 (by decide) (fun c16 => ?_) (fun c16 => ?_)
      · rw [if_neg c16] at h
        refine g_aload_n dX10_few_97 rfl ?_
        obtain ⟨x17, ex17, h⟩ := bs h
        refine q_getA dX10_few_98 fX10_37 ex17 ?_
        refine g_iload dX10_few_101 rfl ?_
        refine g_iconst (v := (nI 1)) dX10_few_103 (by decide) ?_
        refine g_isub dX10_few_104 ?_
        obtain ⟨x18, ex18, h⟩ := bs h
        refine q_lald dX10_few_105 ex18 ?_
        refine g_iload_n dX10_few_106 rfl ?_
        refine g_i2l dX10_few_107 ?_
        refine g_lmul dX10_few_108 ?_
        refine g_ldc2 (v := 10) dX10_few_109 lX10_325 ?_
        refine g_ldiv dX10_few_112 (by decide) ?_
        refine Go_le ?_ (e_X10_few_j113 hin hex h)
        exact And.intro rfl (And.intro rfl (And.intro rfl (And.intro rfl (And.intro rfl (And.intro rfl (trivial))))))
      · rw [if_pos c16] at h
        refine g_lconst (v := 0) dX10_few_93 (by decide) ?_
        refine g_goto (t := 113) dX10_few_94 (by decide) ?_
        refine Go_le ?_ (e_X10_few_j113 hin hex h)
        exact And.intro rfl (And.intro rfl (And.intro rfl (And.intro rfl (And.intro rfl (And.intro rfl (trivial))))))
noncomputable def F_X10_few_l72 (O : mO) (d : Nat) (v0 : Nat) (v1 : Int32) (v2 : Int32) (v3 : Int32) (s4 : Int32) (K : mH) : Option ((Int32 × mH) ⊕ (mH)) :=
  if v2 ≤ s4 then
    some (.inr K)
  else
    (lupF (fun (q : Int32 × mH) => F_X10_few_l83 O d v0 v1 v2 v3 s4 q.1 q.2) FU ((v1 - (nI 1)), K)).bind fun r25 =>
    some (.inl ((s4 + nI 1), r25))
theorem e_X10_few_l72 {O : mO} {d : Nat} {v0 : Nat} {v1 : Int32} {v2 : Int32} {v3 : Int32} {P : Option Value → mH → Prop} {x : mH} (hex : ∀ q : mH, x = q → Go O (d + 1) MX10_few 154 [some (.ref v0), some (.int v1), none, none, none, none, none, none] [] q P) : ∀ (f : Nat) (q : Int32 × mH), lupF (fun (q : Int32 × mH) => F_X10_few_l72 O d v0 v1 v2 v3 q.1 q.2) f q = some x → Go O (d + 1) MX10_few 72 [some (.ref v0), some (.int v1), some (.int v2), some (.int v3), some (.int q.1), none, none, none] [] q.2 P := by
  intro f
  induction f with
  | zero =>
    intro q h
    cases h
  | succ f ih =>
    intro q h
    obtain ⟨y, h, hy1, hy2⟩ := lupF_s h
    have hin : ∀ q : Int32 × mH, y = .inl q → Go O (d + 1) MX10_few 72 [some (.ref v0), some (.int v1), some (.int v2), some (.int v3), some (.int q.1), none, none, none] [] q.2 P := fun q e => ih q (hy1 q e)
    replace hex : ∀ q : mH, y = .inr q → Go O (d + 1) MX10_few 154 [some (.ref v0), some (.int v1), none, none, none, none, none, none] [] q P := fun q e => hex q (hy2 q e).symm
    clear ih hy1 hy2
    obtain ⟨s4, K⟩ := q
    dsimp only at h ⊢
    unfold F_X10_few_l72 at h
    refine g_iload dX10_few_72 rfl ?_
    refine g_iload_n dX10_few_74 rfl ?_
    refine g_ic_ge (t := 154) dX10_few_75 (by decide) (fun c13 => ?_) (fun c13 => ?_)
    · rw [if_pos c13] at h
      refine Go_le ?_ (hex K (Option.some.inj h).symm)
      exact And.intro rfl (And.intro rfl (trivial))
    · rw [if_neg c13] at h
      refine g_iload_n dX10_few_78 rfl ?_
      refine g_iconst (v := (nI 1)) dX10_few_79 (by decide) ?_
      refine g_isub dX10_few_80 ?_
      refine g_istore (ls' := [some (.ref v0), some (.int v1), some (.int v2), some (.int v3), some (.int s4), some (.int (v1 - (nI 1))), none, none]) dX10_few_81 (by decide) rfl ?_
      obtain ⟨r25, er25, h⟩ := bs h
      have hx : Go O (d + 1) MX10_few 148 [some (.ref v0), some (.int v1), some (.int v2), some (.int v3), some (.int s4), none, none, none] [] r25 P := by
        refine q_iinc (w := nI 1) (ls' := [some (.ref v0), some (.int v1), some (.int v2), some (.int v3), some (.int (s4 + nI 1)), none, none, none]) dX10_few_148 (by decide) rfl (by decide) rfl ?_
        refine g_goto (t := 72) dX10_few_151 (by decide) ?_
        refine Go_le ?_ (hin ((s4 + nI 1), r25) (Option.some.inj h).symm)
        exact And.intro rfl (And.intro rfl (And.intro rfl (And.intro rfl (And.intro rfl (trivial)))))
      refine Go_le ?_ (e_X10_few_l83 (fun q e => by cases e; exact hx) FU ((v1 - (nI 1)), K) er25)
      exact And.intro rfl (And.intro rfl (And.intro rfl (And.intro rfl (And.intro rfl (And.intro rfl (trivial))))))
noncomputable def F_X10_few_l160 (O : mO) (d : Nat) (v0 : Nat) (v1 : Int32) (K : mH) (s4 : Int64) (s6 : Int32) : Option ((Int64 × Int32) ⊕ (Int64)) :=
  if v1 ≤ s6 then
    some (.inr s4)
  else
    (gtA K v0 10 4).bind fun x28 =>
    (rdJ O K x28 s6).bind fun x29 =>
    some (.inl ((s4 + x29), (s6 + nI 1)))
theorem e_X10_few_l160 {O : mO} {d : Nat} {v0 : Nat} {v1 : Int32} {K : mH} {P : Option Value → mH → Prop} {x : Int64} (hex : ∀ q : Int64, x = q → Go O (d + 1) MX10_few 184 [none, none, none, none, some (.long q), none, none, none] [] K P) : ∀ (f : Nat) (q : Int64 × Int32), lupF (fun (q : Int64 × Int32) => F_X10_few_l160 O d v0 v1 K q.1 q.2) f q = some x → Go O (d + 1) MX10_few 160 [some (.ref v0), some (.int v1), none, none, some (.long q.1), none, some (.int q.2), none] [] K P := by
  intro f
  induction f with
  | zero =>
    intro q h
    cases h
  | succ f ih =>
    intro q h
    obtain ⟨y, h, hy1, hy2⟩ := lupF_s h
    have hin : ∀ q : Int64 × Int32, y = .inl q → Go O (d + 1) MX10_few 160 [some (.ref v0), some (.int v1), none, none, some (.long q.1), none, some (.int q.2), none] [] K P := fun q e => ih q (hy1 q e)
    replace hex : ∀ q : Int64, y = .inr q → Go O (d + 1) MX10_few 184 [none, none, none, none, some (.long q), none, none, none] [] K P := fun q e => hex q (hy2 q e).symm
    clear ih hy1 hy2
    obtain ⟨s4, s6⟩ := q
    dsimp only at h ⊢
    unfold F_X10_few_l160 at h
    refine g_iload dX10_few_160 rfl ?_
    refine g_iload_n dX10_few_162 rfl ?_
    refine g_ic_ge (t := 184) dX10_few_163 (by decide) (fun c27 => ?_) (fun c27 => ?_)
    · rw [if_pos c27] at h
      refine Go_le ?_ (hex s4 (Option.some.inj h).symm)
      exact And.intro rfl (trivial)
    · rw [if_neg c27] at h
      refine g_lload dX10_few_166 rfl ?_
      refine g_aload_n dX10_few_168 rfl ?_
      obtain ⟨x28, ex28, h⟩ := bs h
      refine q_getA dX10_few_169 fX10_37 ex28 ?_
      refine g_iload dX10_few_172 rfl ?_
      obtain ⟨x29, ex29, h⟩ := bs h
      refine q_lald dX10_few_174 ex29 ?_
      refine g_ladd dX10_few_175 ?_
      refine g_lstore (ls' := [some (.ref v0), some (.int v1), none, none, some (.long (s4 + x29)), none, some (.int s6), none]) dX10_few_176 (by decide) rfl ?_
      refine q_iinc (w := nI 1) (ls' := [some (.ref v0), some (.int v1), none, none, some (.long (s4 + x29)), none, some (.int (s6 + nI 1)), none]) dX10_few_178 (by decide) rfl (by decide) rfl ?_
      refine g_goto (t := 160) dX10_few_181 (by decide) ?_
      refine Go_le ?_ (hin ((s4 + x29), (s6 + nI 1)) (Option.some.inj h).symm)
      exact And.intro rfl (And.intro rfl (And.intro rfl (And.intro rfl (trivial))))
noncomputable def F_X10_few (O : mO) (d : Nat) (a0 : Nat) (a1 : Int32) (a2 : Int32) (K : mH) : Option (Int64 × mH) :=
  if a1 < (nI 1) then
    some ((-1), K)
  else
    if (nI 20) < a1 then
      some ((-1), K)
    else
      if a2 < 0 then
        some ((-1), K)
      else
        if a2 ≤ (nI 99) then
          (gtA K a0 10 10).bind fun x5 =>
          (gtA K x5 2 9).bind fun x6 =>
          (rdI O K x6 (nI 1)).bind fun x7 =>
          (lupF (fun (q : Int32 × mH) => F_X10_few_l38 O d a0 a1 a2 x7 q.1 q.2) FU ((nI 0), K)).bind fun r12 =>
          (lupF (fun (q : Int32 × mH) => F_X10_few_l72 O d a0 a1 a2 x7 q.1 q.2) FU ((nI 0), r12)).bind fun r26 =>
          (lupF (fun (q : Int64 × Int32) => F_X10_few_l160 O d a0 a1 r26 q.1 q.2) FU (0, (nI 0))).bind fun r30 =>
          some (r30, r26)
        else
          some ((-1), K)
theorem e_X10_few {O : mO} {d : Nat} {a0 : Nat} {a1 : Int32} {a2 : Int32} {K : mH} {r0 : Int64} {K0 : mH} (h : F_X10_few O d a0 a1 a2 K = some (r0, K0)) : ev O (d + 1) MX10_few [.ref a0, .int a1, .int a2] K = some (some (.long r0), K0) := by
  refine Rn_evx ?_
  show Go O (d + 1) MX10_few 0 [some (.ref a0), some (.int a1), some (.int a2), none, none, none, none, none] [] K _
  generalize hP : (fun (r : Option Value) (K' : mH) => (r, K') = (some (.long r0), K0)) = P
  have hret : ∀ (r : Int64) (K' : mH), (r, K') = (r0, K0) → P (some (.long r)) K' := by
    intro r K' e
    cases e
    subst hP
    rfl
  clear hP
  unfold F_X10_few at h
  refine g_iload_n dX10_few_0 rfl ?_
  refine g_iconst (v := (nI 1)) dX10_few_1 (by decide) ?_
  refine g_ic_lt (t := 21) dX10_few_2 (by decide) (fun c1 => ?_) (fun c1 => ?_)
  · rw [if_pos c1] at h
    refine g_ldc2 (v := -1) dX10_few_21 lX10_321 ?_
    exact g_lreturn dX10_few_24 rfl (hret _ _ (Option.some.inj h))
  · rw [if_neg c1] at h
    refine g_iload_n dX10_few_5 rfl ?_
    refine g_bipush (v := (nI 20)) dX10_few_6 (by decide) ?_
    refine g_ic_gt (t := 21) dX10_few_8 (by decide) (fun c2 => ?_) (fun c2 => ?_)
    · rw [if_pos c2] at h
      refine g_ldc2 (v := -1) dX10_few_21 lX10_321 ?_
      exact g_lreturn dX10_few_24 rfl (hret _ _ (Option.some.inj h))
    · rw [if_neg c2] at h
      refine g_iload_n dX10_few_11 rfl ?_
      refine g_if_lt (t := 21) dX10_few_12 (by decide) (fun c3 => ?_) (fun c3 => ?_)
      · rw [if_pos c3] at h
        refine g_ldc2 (v := -1) dX10_few_21 lX10_321 ?_
        exact g_lreturn dX10_few_24 rfl (hret _ _ (Option.some.inj h))
      · rw [if_neg c3] at h
        refine g_iload_n dX10_few_15 rfl ?_
        refine g_bipush (v := (nI 99)) dX10_few_16 (by decide) ?_
        refine g_ic_le (t := 25) dX10_few_18 (by decide) (fun c4 => ?_) (fun c4 => ?_)
        · rw [if_pos c4] at h
          refine g_aload_n dX10_few_25 rfl ?_
          obtain ⟨x5, ex5, h⟩ := bs h
          refine q_getA dX10_few_26 fX10_89 ex5 ?_
          obtain ⟨x6, ex6, h⟩ := bs h
          refine q_getA dX10_few_29 fX10_197 ex6 ?_
          refine g_iconst (v := (nI 1)) dX10_few_32 (by decide) ?_
          obtain ⟨x7, ex7, h⟩ := bs h
          refine q_iald dX10_few_33 ex7 ?_
          refine g_istore_n (ls' := [some (.ref a0), some (.int a1), some (.int a2), some (.int x7), none, none, none, none]) dX10_few_34 (by decide) rfl ?_
          refine g_iconst (v := (nI 0)) dX10_few_35 (by decide) ?_
          refine g_istore (ls' := [some (.ref a0), some (.int a1), some (.int a2), some (.int x7), some (.int (nI 0)), none, none, none]) dX10_few_36 (by decide) rfl ?_
          obtain ⟨r12, er12, h⟩ := bs h
          have hx : Go O (d + 1) MX10_few 69 [some (.ref a0), some (.int a1), some (.int a2), some (.int x7), none, none, none, none] [] r12 P := by
            refine g_iconst (v := (nI 0)) dX10_few_69 (by decide) ?_
            refine g_istore (ls' := [some (.ref a0), some (.int a1), some (.int a2), some (.int x7), some (.int (nI 0)), none, none, none]) dX10_few_70 (by decide) rfl ?_
            obtain ⟨r26, er26, h⟩ := bs h
            have hx : Go O (d + 1) MX10_few 154 [some (.ref a0), some (.int a1), none, none, none, none, none, none] [] r26 P := by
              refine g_lconst (v := 0) dX10_few_154 (by decide) ?_
              refine g_lstore (ls' := [some (.ref a0), some (.int a1), none, none, some (.long 0), none, none, none]) dX10_few_155 (by decide) rfl ?_
              refine g_iconst (v := (nI 0)) dX10_few_157 (by decide) ?_
              refine g_istore (ls' := [some (.ref a0), some (.int a1), none, none, some (.long 0), none, some (.int (nI 0)), none]) dX10_few_158 (by decide) rfl ?_
              obtain ⟨r30, er30, h⟩ := bs h
              have hx : Go O (d + 1) MX10_few 184 [none, none, none, none, some (.long r30), none, none, none] [] r26 P := by
                refine g_lload dX10_few_184 rfl ?_
                exact g_lreturn dX10_few_186 rfl (hret _ _ (Option.some.inj h))
              refine Go_le ?_ (e_X10_few_l160 (fun q e => by cases e; exact hx) FU (0, (nI 0)) er30)
              exact And.intro rfl (And.intro rfl (And.intro rfl (And.intro rfl (trivial))))
            refine Go_le ?_ (e_X10_few_l72 (fun q e => by cases e; exact hx) FU ((nI 0), r12) er26)
            exact And.intro rfl (And.intro rfl (And.intro rfl (And.intro rfl (And.intro rfl (trivial)))))
          refine Go_le ?_ (e_X10_few_l38 (fun q e => by cases e; exact hx) FU ((nI 0), K) er12)
          exact And.intro rfl (And.intro rfl (And.intro rfl (And.intro rfl (And.intro rfl (trivial)))))
        · rw [if_neg c4] at h
          refine g_ldc2 (v := -1) dX10_few_21 lX10_321 ?_
          exact g_lreturn dX10_few_24 rfl (hret _ _ (Option.some.inj h))
noncomputable def F_X10_compare_l32 (O : mO) (d : Nat) (v0 : Nat) (v2 : Option Nat) (s3 : Int32) (s4 : Int32) (K : mH) : Option ((Int32 × Int32 × mH) ⊕ (Int32 × mH)) :=
  (gtA K v0 10 10).bind fun x4 =>
  (gtI K x4 2 13).bind fun x5 =>
  if x5 ≤ s4 then
    some (.inr (s3, K))
  else
    (gtA K v0 10 10).bind fun x7 =>
    (toI (vc O d 2 MX2_isIn x7 [.int s4] K)).bind fun p8 =>
    if p8.1 = 0 then
      some (.inl (s3, (s4 + nI 1), p8.2))
    else
      (gtA p8.2 v0 10 10).bind fun x11 =>
      (toI (vc O d 2 MX2_told x11 [va_rf v2, .int (nI 0), .int s4] p8.2)).bind fun p12 =>
      some (.inl ((s3 + p12.1), (s4 + nI 1), p12.2))
theorem e_X10_compare_l32 {O : mO} {d : Nat} {v0 : Nat} {v2 : Option Nat} {P : Option Value → mH → Prop} {x : Int32 × mH} (hex : ∀ q : Int32 × mH, x = q → Go O (d + 1) MX10_compare 76 [none, none, none, some (.int q.1), none] [] q.2 P) : ∀ (f : Nat) (q : Int32 × Int32 × mH), lupF (fun (q : Int32 × Int32 × mH) => F_X10_compare_l32 O d v0 v2 q.1 q.2.1 q.2.2) f q = some x → Go O (d + 1) MX10_compare 32 [some (.ref v0), none, some (va_rf v2), some (.int q.1), some (.int q.2.1)] [] q.2.2 P := by
  intro f
  induction f with
  | zero =>
    intro q h
    cases h
  | succ f ih =>
    intro q h
    obtain ⟨y, h, hy1, hy2⟩ := lupF_s h
    have hin : ∀ q : Int32 × Int32 × mH, y = .inl q → Go O (d + 1) MX10_compare 32 [some (.ref v0), none, some (va_rf v2), some (.int q.1), some (.int q.2.1)] [] q.2.2 P := fun q e => ih q (hy1 q e)
    replace hex : ∀ q : Int32 × mH, y = .inr q → Go O (d + 1) MX10_compare 76 [none, none, none, some (.int q.1), none] [] q.2 P := fun q e => hex q (hy2 q e).symm
    clear ih hy1 hy2
    obtain ⟨s3, s4, K⟩ := q
    dsimp only at h ⊢
    unfold F_X10_compare_l32 at h
    refine g_iload dX10_compare_32 rfl ?_
    refine g_aload_n dX10_compare_34 rfl ?_
    obtain ⟨x4, ex4, h⟩ := bs h
    refine q_getA dX10_compare_35 fX10_89 ex4 ?_
    obtain ⟨x5, ex5, h⟩ := bs h
    refine q_getI dX10_compare_38 fX10_157 ex5 ?_
    refine g_ic_ge (t := 76) dX10_compare_41 (by decide) (fun c6 => ?_) (fun c6 => ?_)
    · rw [if_pos c6] at h
      refine Go_le ?_ (hex (s3, K) (Option.some.inj h).symm)
      exact And.intro rfl (trivial)
    · rw [if_neg c6] at h
      refine g_aload_n dX10_compare_44 rfl ?_
      obtain ⟨x7, ex7, h⟩ := bs h
      refine q_getA dX10_compare_45 fX10_89 ex7 ?_
      refine g_iload dX10_compare_48 rfl ?_
      obtain ⟨p8, ep8, h⟩ := bs h
      refine q_virt (Z := MX2_isIn) (c := (RX2, TX2, 18)) (toI_s ep8) dX10_compare_50 mX10_280.1 mX10_280.2 (Nat.le_of_ble_eq_true rfl) rfl rfl (Nat.le_of_ble_eq_true rfl) (Nat.le_of_ble_eq_true rfl) rfl rfl ?_
      show Go O (d + 1) MX10_compare 53 [some (.ref v0), none, some (va_rf v2), some (.int s3), some (.int s4)] [.int p8.1] p8.2 P
      refine g_if_eq (t := 70) dX10_compare_53 (by decide) (fun c10 => ?_) (fun c10 => ?_)
      · rw [if_pos c10] at h
        refine q_iinc (w := nI 1) (ls' := [some (.ref v0), none, some (va_rf v2), some (.int s3), some (.int (s4 + nI 1))]) dX10_compare_70 (by decide) rfl (by decide) (by cases v2 <;> rfl) ?_
        refine g_goto (t := 32) dX10_compare_73 (by decide) ?_
        refine Go_le ?_ (hin (s3, (s4 + nI 1), p8.2) (Option.some.inj h).symm)
        exact And.intro rfl (And.intro rfl (And.intro rfl (And.intro rfl (trivial))))
      · rw [if_neg c10] at h
        refine g_iload_n dX10_compare_56 rfl ?_
        refine g_aload_n dX10_compare_57 rfl ?_
        obtain ⟨x11, ex11, h⟩ := bs h
        refine q_getA dX10_compare_58 fX10_89 ex11 ?_
        refine q_aload_n dX10_compare_61 rfl ?_
        refine g_iconst (v := (nI 0)) dX10_compare_62 (by decide) ?_
        refine g_iload dX10_compare_63 rfl ?_
        obtain ⟨p12, ep12, h⟩ := bs h
        refine q_virt (Z := MX2_told) (c := (RX2, TX2, 18)) (toI_s ep12) dX10_compare_65 mX10_179.1 mX10_179.2 (Nat.le_of_ble_eq_true rfl) rfl rfl (Nat.le_of_ble_eq_true rfl) (by cases v2 <;> exact Nat.le_of_ble_eq_true rfl) rfl rfl ?_
        show Go O (d + 1) MX10_compare 68 [some (.ref v0), none, some (va_rf v2), some (.int s3), some (.int s4)] [.int p12.1, .int s3] p12.2 P
        refine g_iadd dX10_compare_68 ?_
        refine g_istore_n (ls' := [some (.ref v0), none, some (va_rf v2), some (.int (s3 + p12.1)), some (.int s4)]) dX10_compare_69 (by decide) (by cases v2 <;> rfl) ?_
        refine q_iinc (w := nI 1) (ls' := [some (.ref v0), none, some (va_rf v2), some (.int (s3 + p12.1)), some (.int (s4 + nI 1))]) dX10_compare_70 (by decide) rfl (by decide) (by cases v2 <;> rfl) ?_
        refine g_goto (t := 32) dX10_compare_73 (by decide) ?_
        refine Go_le ?_ (hin ((s3 + p12.1), (s4 + nI 1), p12.2) (Option.some.inj h).symm)
        exact And.intro rfl (And.intro rfl (And.intro rfl (And.intro rfl (trivial))))
noncomputable def F_X10_compare_j18 (O : mO) (d : Nat) (v0 : Nat) (v1 : Int32) (K : mH) : Option (Int32 × mH) :=
  (gtA K v0 10 10).bind fun x2 =>
  (toR (vc O d 2 MX2_lawAt x2 [.int v1] K)).bind fun p3 =>
  (lupF (fun (q : Int32 × Int32 × mH) => F_X10_compare_l32 O d v0 p3.1 q.1 q.2.1 q.2.2) FU ((nI 0), (nI 0), p3.2)).bind fun r13 =>
  some (r13.1, r13.2)
theorem e_X10_compare_j18 {O : mO} {d : Nat} {v0 : Nat} {v1 : Int32} {K : mH} {P : Option Value → mH → Prop} {x : Int32 × mH} (hret : ∀ (r : Int32) (K' : mH), (r, K') = x → P (some (.int r)) K') (h : F_X10_compare_j18 O d v0 v1 K = some x) : Go O (d + 1) MX10_compare 18 [some (.ref v0), some (.int v1), none, none, none] [] K P := by
  unfold F_X10_compare_j18 at h
  refine g_aload_n dX10_compare_18 rfl ?_
  obtain ⟨x2, ex2, h⟩ := bs h
  refine q_getA dX10_compare_19 fX10_89 ex2 ?_
  refine g_iload_n dX10_compare_22 rfl ?_
  obtain ⟨p3, ep3, h⟩ := bs h
  refine q_virt (Z := MX2_lawAt) (c := (RX2, TX2, 18)) (toR_s ep3) dX10_compare_23 mX10_327.1 mX10_327.2 (Nat.le_of_ble_eq_true rfl) rfl rfl (Nat.le_of_ble_eq_true rfl) (Nat.le_of_ble_eq_true rfl) rfl rfl ?_
  show Go O (d + 1) MX10_compare 26 [some (.ref v0), some (.int v1), none, none, none] [va_rf p3.1] p3.2 P
  refine q_astore_n (ls' := [some (.ref v0), some (.int v1), some (va_rf p3.1), none, none]) dX10_compare_26 (by decide) (by cases p3.1 <;> rfl) ?_
  refine g_iconst (v := (nI 0)) dX10_compare_27 (by decide) ?_
  refine g_istore_n (ls' := [some (.ref v0), some (.int v1), some (va_rf p3.1), some (.int (nI 0)), none]) dX10_compare_28 (by decide) (by cases p3.1 <;> rfl) ?_
  refine g_iconst (v := (nI 0)) dX10_compare_29 (by decide) ?_
  refine g_istore (ls' := [some (.ref v0), some (.int v1), some (va_rf p3.1), some (.int (nI 0)), some (.int (nI 0))]) dX10_compare_30 (by decide) (by cases p3.1 <;> rfl) ?_
  obtain ⟨r13, er13, h⟩ := bs h
  have hx : Go O (d + 1) MX10_compare 76 [none, none, none, some (.int r13.1), none] [] r13.2 P := by
    refine g_iload_n dX10_compare_76 rfl ?_
    exact g_ireturn dX10_compare_77 rfl (by first | rfl | decide) (hret _ _ (Option.some.inj h))
  refine Go_le ?_ (e_X10_compare_l32 (fun q e => by cases e; exact hx) FU ((nI 0), (nI 0), p3.2) er13)
  exact And.intro rfl (And.intro rfl (And.intro rfl (And.intro rfl (trivial))))
noncomputable def F_X10_compare (O : mO) (d : Nat) (a0 : Nat) (a1 : Int32) (K : mH) : Option (Int32 × mH) :=
  if a1 = (-1) then
    F_X10_compare_j18 O d a0 a1 K
  else
    (gtA K a0 10 10).bind fun x14 =>
    (toI (vc O d 2 MX2_hasLaw x14 [.int a1] K)).bind fun p15 =>
    if p15.1 = 0 then
      some ((-1), p15.2)
    else
      F_X10_compare_j18 O d a0 a1 p15.2
theorem e_X10_compare {O : mO} {d : Nat} {a0 : Nat} {a1 : Int32} {K : mH} {r0 : Int32} {K0 : mH} (h : F_X10_compare O d a0 a1 K = some (r0, K0)) : ev O (d + 1) MX10_compare [.ref a0, .int a1] K = some (some (.int r0), K0) := by
  refine Rn_evx ?_
  show Go O (d + 1) MX10_compare 0 [some (.ref a0), some (.int a1), none, none, none] [] K _
  generalize hP : (fun (r : Option Value) (K' : mH) => (r, K') = (some (.int r0), K0)) = P
  have hret : ∀ (r : Int32) (K' : mH), (r, K') = (r0, K0) → P (some (.int r)) K' := by
    intro r K' e
    cases e
    subst hP
    rfl
  clear hP
  unfold F_X10_compare at h
  refine g_iload_n dX10_compare_0 rfl ?_
  refine g_iconst (v := (-1)) dX10_compare_1 (by decide) ?_
  refine g_ic_eq (t := 18) dX10_compare_2 (by decide) (fun c1 => ?_) (fun c1 => ?_)
  · rw [if_pos c1] at h
    refine Go_le ?_ (e_X10_compare_j18 hret h)
    exact And.intro rfl (And.intro rfl (trivial))
  · rw [if_neg c1] at h
    refine g_aload_n dX10_compare_5 rfl ?_
    obtain ⟨x14, ex14, h⟩ := bs h
    refine q_getA dX10_compare_6 fX10_89 ex14 ?_
    refine g_iload_n dX10_compare_9 rfl ?_
    obtain ⟨p15, ep15, h⟩ := bs h
    refine q_virt (Z := MX2_hasLaw) (c := (RX2, TX2, 18)) (toI_s ep15) dX10_compare_10 mX10_248.1 mX10_248.2 (Nat.le_of_ble_eq_true rfl) rfl rfl (Nat.le_of_ble_eq_true rfl) (Nat.le_of_ble_eq_true rfl) rfl rfl ?_
    show Go O (d + 1) MX10_compare 13 [some (.ref a0), some (.int a1), none, none, none] [.int p15.1] p15.2 P
    refine g_if_ne (t := 18) dX10_compare_13 (by decide) (fun c16 => ?_) (fun c16 => ?_)
    · rw [if_neg c16] at h
      refine Go_le ?_ (e_X10_compare_j18 hret h)
      exact And.intro rfl (And.intro rfl (trivial))
    · rw [if_pos c16] at h
      refine g_iconst (v := (-1)) dX10_compare_16 (by decide) ?_
      exact g_ireturn dX10_compare_17 rfl (by first | rfl | decide) (hret _ _ (Option.some.inj h))
noncomputable def F_X10_centuries_j22 (O : mO) (d : Nat) (v0 : Nat) (K : mH) : Option (Int32 × mH) :=
  (toI (vc O d 10 MX10_refused v0 [.int (-1)] K)).bind fun p2 =>
  some (p2.1, p2.2)
theorem e_X10_centuries_j22 {O : mO} {d : Nat} {v0 : Nat} {K : mH} {P : Option Value → mH → Prop} {x : Int32 × mH} (hret : ∀ (r : Int32) (K' : mH), (r, K') = x → P (some (.int r)) K') (h : F_X10_centuries_j22 O d v0 K = some x) : Go O (d + 1) MX10_centuries 22 [some (.ref v0), none, none, none, none, none] [] K P := by
  unfold F_X10_centuries_j22 at h
  refine g_aload_n dX10_centuries_22 rfl ?_
  refine g_iconst (v := (-1)) dX10_centuries_23 (by decide) ?_
  obtain ⟨p2, ep2, h⟩ := bs h
  refine q_virt (Z := MX10_refused) (c := (RX10, TX10, 17)) (toI_s ep2) dX10_centuries_24 mX10_105.1 mX10_105.2 (Nat.le_of_ble_eq_true rfl) rfl rfl (Nat.le_of_ble_eq_true rfl) (Nat.le_of_ble_eq_true rfl) rfl rfl ?_
  show Go O (d + 1) MX10_centuries 27 [some (.ref v0), none, none, none, none, none] [.int p2.1] p2.2 P
  exact g_ireturn dX10_centuries_27 rfl (by first | rfl | decide) (hret _ _ (Option.some.inj h))
noncomputable def F_X10_centuries_l69 (O : mO) (d : Nat) (v0 : Nat) (v2 : Int32) (s3 : Int32) (s4 : Int32) (K : mH) : Option ((Int32 × Int32 × mH) ⊕ (Int32 × mH)) :=
  if v2 ≤ s4 then
    some (.inr (s3, K))
  else
    (gtA K v0 10 9).bind fun x15 =>
    (gtA K x15 2 9).bind fun x16 =>
    (rdI O K x16 (nI 0)).bind fun x17 =>
    if (nI 999) ≤ x17 then
      some (.inr (s3, K))
    else
      (toV (vc O d 10 MX10_drawOneAct v0 [] K)).bind fun K19 =>
      (gtA K19 v0 10 9).bind fun x20 =>
      (toI (vc O d 2 MX2_insideCount x20 [] K19)).bind fun p21 =>
      (gtA p21.2 v0 10 9).bind fun x22 =>
      (toI (vc O d 2 MX2_passYear x22 [] p21.2)).bind fun p23 =>
      (gtA p23.2 v0 10 9).bind fun x24 =>
      (toI (vc O d 2 MX2_insideCount x24 [] p23.2)).bind fun p25 =>
      some (.inl ((s3 + (p21.1 - p25.1)), (s4 + nI 1), p25.2))
theorem e_X10_centuries_l69 {O : mO} {d : Nat} {v0 : Nat} {v2 : Int32} {P : Option Value → mH → Prop} {x : Int32 × mH} (hex : ∀ q : Int32 × mH, x = q → Go O (d + 1) MX10_centuries 130 [some (.ref v0), none, none, some (.int q.1), none, none] [] q.2 P) : ∀ (f : Nat) (q : Int32 × Int32 × mH), lupF (fun (q : Int32 × Int32 × mH) => F_X10_centuries_l69 O d v0 v2 q.1 q.2.1 q.2.2) f q = some x → Go O (d + 1) MX10_centuries 69 [some (.ref v0), none, some (.int v2), some (.int q.1), some (.int q.2.1), none] [] q.2.2 P := by
  intro f
  induction f with
  | zero =>
    intro q h
    cases h
  | succ f ih =>
    intro q h
    obtain ⟨y, h, hy1, hy2⟩ := lupF_s h
    have hin : ∀ q : Int32 × Int32 × mH, y = .inl q → Go O (d + 1) MX10_centuries 69 [some (.ref v0), none, some (.int v2), some (.int q.1), some (.int q.2.1), none] [] q.2.2 P := fun q e => ih q (hy1 q e)
    replace hex : ∀ q : Int32 × mH, y = .inr q → Go O (d + 1) MX10_centuries 130 [some (.ref v0), none, none, some (.int q.1), none, none] [] q.2 P := fun q e => hex q (hy2 q e).symm
    clear ih hy1 hy2
    obtain ⟨s3, s4, K⟩ := q
    dsimp only at h ⊢
    unfold F_X10_centuries_l69 at h
    refine g_iload dX10_centuries_69 rfl ?_
    refine g_iload_n dX10_centuries_71 rfl ?_
    refine g_ic_ge (t := 130) dX10_centuries_72 (by decide) (fun c14 => ?_) (fun c14 => ?_)
    · rw [if_pos c14] at h
      refine Go_le ?_ (hex (s3, K) (Option.some.inj h).symm)
      exact And.intro rfl (And.intro rfl (trivial))
    · rw [if_neg c14] at h
      refine g_aload_n dX10_centuries_75 rfl ?_
      obtain ⟨x15, ex15, h⟩ := bs h
      refine q_getA dX10_centuries_76 fX10_93 ex15 ?_
      obtain ⟨x16, ex16, h⟩ := bs h
      refine q_getA dX10_centuries_79 fX10_197 ex16 ?_
      refine g_iconst (v := (nI 0)) dX10_centuries_82 (by decide) ?_
      obtain ⟨x17, ex17, h⟩ := bs h
      refine q_iald dX10_centuries_83 ex17 ?_
      refine g_sipush (v := (nI 999)) dX10_centuries_84 (by decide) ?_
      refine g_ic_ge (t := 130) dX10_centuries_87 (by decide) (fun c18 => ?_) (fun c18 => ?_)
      · rw [if_pos c18] at h
        refine Go_le ?_ (hex (s3, K) (Option.some.inj h).symm)
        exact And.intro rfl (And.intro rfl (trivial))
      · rw [if_neg c18] at h
        refine g_aload_n dX10_centuries_90 rfl ?_
        obtain ⟨K19, eK19, h⟩ := bs h
        refine q_virt (Z := MX10_drawOneAct) (c := (RX10, TX10, 17)) (toV_s eK19) dX10_centuries_91 mX10_338.1 mX10_338.2 (Nat.le_of_ble_eq_true rfl) rfl rfl (Nat.le_of_ble_eq_true rfl) (Nat.le_of_ble_eq_true rfl) rfl rfl ?_
        show Go O (d + 1) MX10_centuries 94 [some (.ref v0), none, some (.int v2), some (.int s3), some (.int s4), none] [] K19 P
        refine g_aload_n dX10_centuries_94 rfl ?_
        obtain ⟨x20, ex20, h⟩ := bs h
        refine q_getA dX10_centuries_95 fX10_93 ex20 ?_
        obtain ⟨p21, ep21, h⟩ := bs h
        refine q_virt (Z := MX2_insideCount) (c := (RX2, TX2, 18)) (toI_s ep21) dX10_centuries_98 mX10_341.1 mX10_341.2 (Nat.le_of_ble_eq_true rfl) rfl rfl (Nat.le_of_ble_eq_true rfl) (Nat.le_of_ble_eq_true rfl) rfl rfl ?_
        show Go O (d + 1) MX10_centuries 101 [some (.ref v0), none, some (.int v2), some (.int s3), some (.int s4), none] [.int p21.1] p21.2 P
        refine g_istore (ls' := [some (.ref v0), none, some (.int v2), some (.int s3), some (.int s4), some (.int p21.1)]) dX10_centuries_101 (by decide) rfl ?_
        refine g_aload_n dX10_centuries_103 rfl ?_
        obtain ⟨x22, ex22, h⟩ := bs h
        refine q_getA dX10_centuries_104 fX10_93 ex22 ?_
        obtain ⟨p23, ep23, h⟩ := bs h
        refine q_virt (Z := MX2_passYear) (c := (RX2, TX2, 18)) (toI_s ep23) dX10_centuries_107 mX10_344.1 mX10_344.2 (Nat.le_of_ble_eq_true rfl) rfl rfl (Nat.le_of_ble_eq_true rfl) (Nat.le_of_ble_eq_true rfl) rfl rfl ?_
        show Go O (d + 1) MX10_centuries 110 [some (.ref v0), none, some (.int v2), some (.int s3), some (.int s4), some (.int p21.1)] [.int p23.1] p23.2 P
        refine g_pop dX10_centuries_110 (by first | rfl | exact vrf_cat _) ?_
        refine g_iload_n dX10_centuries_111 rfl ?_
        refine g_iload dX10_centuries_112 rfl ?_
        refine g_aload_n dX10_centuries_114 rfl ?_
        obtain ⟨x24, ex24, h⟩ := bs h
        refine q_getA dX10_centuries_115 fX10_93 ex24 ?_
        obtain ⟨p25, ep25, h⟩ := bs h
        refine q_virt (Z := MX2_insideCount) (c := (RX2, TX2, 18)) (toI_s ep25) dX10_centuries_118 mX10_341.1 mX10_341.2 (Nat.le_of_ble_eq_true rfl) rfl rfl (Nat.le_of_ble_eq_true rfl) (Nat.le_of_ble_eq_true rfl) rfl rfl ?_
        show Go O (d + 1) MX10_centuries 121 [some (.ref v0), none, some (.int v2), some (.int s3), some (.int s4), some (.int p21.1)] [.int p25.1, .int p21.1, .int s3] p25.2 P
        refine g_isub dX10_centuries_121 ?_
        refine g_iadd dX10_centuries_122 ?_
        refine g_istore_n (ls' := [some (.ref v0), none, some (.int v2), some (.int (s3 + (p21.1 - p25.1))), some (.int s4), some (.int p21.1)]) dX10_centuries_123 (by decide) rfl ?_
        refine q_iinc (w := nI 1) (ls' := [some (.ref v0), none, some (.int v2), some (.int (s3 + (p21.1 - p25.1))), some (.int (s4 + nI 1)), some (.int p21.1)]) dX10_centuries_124 (by decide) rfl (by decide) rfl ?_
        refine g_goto (t := 69) dX10_centuries_127 (by decide) ?_
        refine Go_le ?_ (hin ((s3 + (p21.1 - p25.1)), (s4 + nI 1), p25.2) (Option.some.inj h).symm)
        exact And.intro rfl (And.intro rfl (And.intro rfl (And.intro rfl (trivial))))
noncomputable def F_X10_centuries_j130 (O : mO) (d : Nat) (v0 : Nat) (v3 : Int32) (K : mH) : Option (Int32 × mH) :=
  (toI (vc O d 10 MX10_granted v0 [.int v3] K)).bind fun p27 =>
  some (p27.1, p27.2)
theorem e_X10_centuries_j130 {O : mO} {d : Nat} {v0 : Nat} {v3 : Int32} {K : mH} {P : Option Value → mH → Prop} {x : Int32 × mH} (hret : ∀ (r : Int32) (K' : mH), (r, K') = x → P (some (.int r)) K') (h : F_X10_centuries_j130 O d v0 v3 K = some x) : Go O (d + 1) MX10_centuries 130 [some (.ref v0), none, none, some (.int v3), none, none] [] K P := by
  unfold F_X10_centuries_j130 at h
  refine g_aload_n dX10_centuries_130 rfl ?_
  refine g_iload_n dX10_centuries_131 rfl ?_
  obtain ⟨p27, ep27, h⟩ := bs h
  refine q_virt (Z := MX10_granted) (c := (RX10, TX10, 17)) (toI_s ep27) dX10_centuries_132 mX10_118.1 mX10_118.2 (Nat.le_of_ble_eq_true rfl) rfl rfl (Nat.le_of_ble_eq_true rfl) (Nat.le_of_ble_eq_true rfl) rfl rfl ?_
  show Go O (d + 1) MX10_centuries 135 [some (.ref v0), none, none, some (.int v3), none, none] [.int p27.1] p27.2 P
  exact g_ireturn dX10_centuries_135 rfl (by first | rfl | decide) (hret _ _ (Option.some.inj h))
noncomputable def F_X10_centuries (O : mO) (d : Nat) (a0 : Nat) (a1 : Int32) (a2 : Int32) (K : mH) : Option (Int32 × mH) :=
  if a1 < 0 then
    F_X10_centuries_j22 O d a0 K
  else
    if (1000000) < a1 then
      F_X10_centuries_j22 O d a0 K
    else
      if a2 < (nI 1) then
        F_X10_centuries_j22 O d a0 K
      else
        if a2 ≤ (nI 60) then
          (gtA K a0 10 10).bind fun x6 =>
          (gtI K x6 2 13).bind fun x7 =>
          if x7 = 0 then
            (toI (vc O d 10 MX10_refused a0 [.int (-3)] K)).bind fun p28 =>
            some (p28.1, p28.2)
          else
            (gtA K a0 10 9).bind fun x9 =>
            (gtA K a0 10 10).bind fun x10 =>
            (toV (vc O d 2 MX2_copyFrom x9 [.ref x10] K)).bind fun K11 =>
            (gtA K11 a0 10 3).bind fun x12 =>
            (ptI K11 x12 1 0 a1).bind fun K13 =>
            (lupF (fun (q : Int32 × Int32 × mH) => F_X10_centuries_l69 O d a0 a2 q.1 q.2.1 q.2.2) FU ((nI 0), (nI 0), K13)).bind fun r26 =>
            F_X10_centuries_j130 O d a0 r26.1 r26.2
        else
          F_X10_centuries_j22 O d a0 K
theorem e_X10_centuries {O : mO} {d : Nat} {a0 : Nat} {a1 : Int32} {a2 : Int32} {K : mH} {r0 : Int32} {K0 : mH} (h : F_X10_centuries O d a0 a1 a2 K = some (r0, K0)) : ev O (d + 1) MX10_centuries [.ref a0, .int a1, .int a2] K = some (some (.int r0), K0) := by
  refine Rn_evx ?_
  show Go O (d + 1) MX10_centuries 0 [some (.ref a0), some (.int a1), some (.int a2), none, none, none] [] K _
  generalize hP : (fun (r : Option Value) (K' : mH) => (r, K') = (some (.int r0), K0)) = P
  have hret : ∀ (r : Int32) (K' : mH), (r, K') = (r0, K0) → P (some (.int r)) K' := by
    intro r K' e
    cases e
    subst hP
    rfl
  clear hP
  unfold F_X10_centuries at h
  refine g_iload_n dX10_centuries_0 rfl ?_
  refine g_if_lt (t := 22) dX10_centuries_1 (by decide) (fun c1 => ?_) (fun c1 => ?_)
  · rw [if_pos c1] at h
    refine Go_le ?_ (e_X10_centuries_j22 hret h)
    exact And.intro rfl (trivial)
  · rw [if_neg c1] at h
    refine g_iload_n dX10_centuries_4 rfl ?_
    refine g_ldcwI (v := 1000000) dX10_centuries_5 iX10_331 ?_
    refine g_ic_gt (t := 22) dX10_centuries_8 (by decide) (fun c3 => ?_) (fun c3 => ?_)
    · rw [if_pos c3] at h
      refine Go_le ?_ (e_X10_centuries_j22 hret h)
      exact And.intro rfl (trivial)
    · rw [if_neg c3] at h
      refine g_iload_n dX10_centuries_11 rfl ?_
      refine g_iconst (v := (nI 1)) dX10_centuries_12 (by decide) ?_
      refine g_ic_lt (t := 22) dX10_centuries_13 (by decide) (fun c4 => ?_) (fun c4 => ?_)
      · rw [if_pos c4] at h
        refine Go_le ?_ (e_X10_centuries_j22 hret h)
        exact And.intro rfl (trivial)
      · rw [if_neg c4] at h
        refine g_iload_n dX10_centuries_16 rfl ?_
        refine g_bipush (v := (nI 60)) dX10_centuries_17 (by decide) ?_
        refine g_ic_le (t := 28) dX10_centuries_19 (by decide) (fun c5 => ?_) (fun c5 => ?_)
        · rw [if_pos c5] at h
          refine g_aload_n dX10_centuries_28 rfl ?_
          obtain ⟨x6, ex6, h⟩ := bs h
          refine q_getA dX10_centuries_29 fX10_89 ex6 ?_
          obtain ⟨x7, ex7, h⟩ := bs h
          refine q_getI dX10_centuries_32 fX10_157 ex7 ?_
          refine g_if_ne (t := 45) dX10_centuries_35 (by decide) (fun c8 => ?_) (fun c8 => ?_)
          · rw [if_neg c8] at h
            refine g_aload_n dX10_centuries_45 rfl ?_
            obtain ⟨x9, ex9, h⟩ := bs h
            refine q_getA dX10_centuries_46 fX10_93 ex9 ?_
            refine g_aload_n dX10_centuries_49 rfl ?_
            obtain ⟨x10, ex10, h⟩ := bs h
            refine q_getA dX10_centuries_50 fX10_89 ex10 ?_
            obtain ⟨K11, eK11, h⟩ := bs h
            refine q_virt (Z := MX2_copyFrom) (c := (RX2, TX2, 18)) (toV_s eK11) dX10_centuries_53 mX10_332.1 mX10_332.2 (Nat.le_of_ble_eq_true rfl) rfl rfl (Nat.le_of_ble_eq_true rfl) (Nat.le_of_ble_eq_true rfl) rfl rfl ?_
            show Go O (d + 1) MX10_centuries 56 [some (.ref a0), some (.int a1), some (.int a2), none, none, none] [] K11 P
            refine g_aload_n dX10_centuries_56 rfl ?_
            obtain ⟨x12, ex12, h⟩ := bs h
            refine q_getA dX10_centuries_57 fX10_33 ex12 ?_
            refine g_iload_n dX10_centuries_60 rfl ?_
            obtain ⟨K13, eK13, h⟩ := bs h
            refine q_put (c := (RX1, TX1, 1)) dX10_centuries_61 fX10_335 rfl rfl rfl (fun h => absurd h (by decide)) eK13 ?_
            refine g_iconst (v := (nI 0)) dX10_centuries_64 (by decide) ?_
            refine g_istore_n (ls' := [some (.ref a0), some (.int a1), some (.int a2), some (.int (nI 0)), none, none]) dX10_centuries_65 (by decide) rfl ?_
            refine g_iconst (v := (nI 0)) dX10_centuries_66 (by decide) ?_
            refine g_istore (ls' := [some (.ref a0), some (.int a1), some (.int a2), some (.int (nI 0)), some (.int (nI 0)), none]) dX10_centuries_67 (by decide) rfl ?_
            obtain ⟨r26, er26, h⟩ := bs h
            have hx : Go O (d + 1) MX10_centuries 130 [some (.ref a0), none, none, some (.int r26.1), none, none] [] r26.2 P := by
              refine Go_le ?_ (e_X10_centuries_j130 hret h)
              exact And.intro rfl (And.intro rfl (trivial))
            refine Go_le ?_ (e_X10_centuries_l69 (fun q e => by cases e; exact hx) FU ((nI 0), (nI 0), K13) er26)
            exact And.intro rfl (And.intro rfl (And.intro rfl (And.intro rfl (trivial))))
          · rw [if_pos c8] at h
            refine g_aload_n dX10_centuries_38 rfl ?_
            refine g_bipush (v := (-3)) dX10_centuries_39 (by decide) ?_
            obtain ⟨p28, ep28, h⟩ := bs h
            refine q_virt (Z := MX10_refused) (c := (RX10, TX10, 17)) (toI_s ep28) dX10_centuries_41 mX10_105.1 mX10_105.2 (Nat.le_of_ble_eq_true rfl) rfl rfl (Nat.le_of_ble_eq_true rfl) (Nat.le_of_ble_eq_true rfl) rfl rfl ?_
            show Go O (d + 1) MX10_centuries 44 [some (.ref a0), some (.int a1), some (.int a2), none, none, none] [.int p28.1] p28.2 P
            exact g_ireturn dX10_centuries_44 rfl (by first | rfl | decide) (hret _ _ (Option.some.inj h))
        · rw [if_neg c5] at h
          refine Go_le ?_ (e_X10_centuries_j22 hret h)
          exact And.intro rfl (trivial)
noncomputable def F_X10_drawn (O : mO) (d : Nat) (a0 : Nat) (a1 : Int32) (a2 : Int32) (K : mH) : Option (Int32 × mH) :=
  if a2 = 0 then
    (gtA K a0 10 9).bind fun x18 =>
    (toI (vc O d 2 MX2_hasDead x18 [.int a1] K)).bind fun p19 =>
    if p19.1 = 0 then
      some ((-100), p19.2)
    else
      (gtA p19.2 a0 10 9).bind fun x22 =>
      (gtA p19.2 x22 2 4).bind fun x23 =>
      (rdI O p19.2 x23 a1).bind fun x24 =>
      some (x24, p19.2)
  else
    if a2 = (nI 1) then
      (gtA K a0 10 9).bind fun x11 =>
      (toI (vc O d 2 MX2_hasDead x11 [.int a1] K)).bind fun p12 =>
      if p12.1 = 0 then
        some ((-100), p12.2)
      else
        (gtA p12.2 a0 10 9).bind fun x15 =>
        (gtA p12.2 x15 2 5).bind fun x16 =>
        (rdI O p12.2 x16 a1).bind fun x17 =>
        some (x17, p12.2)
    else
      if a2 = (nI 2) then
        (gtA K a0 10 9).bind fun x4 =>
        (toI (vc O d 2 MX2_hasFamily x4 [.int a1] K)).bind fun p5 =>
        if p5.1 = 0 then
          some ((-100), p5.2)
        else
          (gtA p5.2 a0 10 9).bind fun x8 =>
          (gtA p5.2 x8 2 2).bind fun x9 =>
          (rdI O p5.2 x9 a1).bind fun x10 =>
          some (x10, p5.2)
      else
        some ((-100), K)
theorem e_X10_drawn {O : mO} {d : Nat} {a0 : Nat} {a1 : Int32} {a2 : Int32} {K : mH} {r0 : Int32} {K0 : mH} (h : F_X10_drawn O d a0 a1 a2 K = some (r0, K0)) : ev O (d + 1) MX10_drawn [.ref a0, .int a1, .int a2] K = some (some (.int r0), K0) := by
  refine Rn_evx ?_
  show Go O (d + 1) MX10_drawn 0 [some (.ref a0), some (.int a1), some (.int a2)] [] K _
  generalize hP : (fun (r : Option Value) (K' : mH) => (r, K') = (some (.int r0), K0)) = P
  have hret : ∀ (r : Int32) (K' : mH), (r, K') = (r0, K0) → P (some (.int r)) K' := by
    intro r K' e
    cases e
    subst hP
    rfl
  clear hP
  unfold F_X10_drawn at h
  refine g_iload_n dX10_drawn_0 rfl ?_
  refine g_if_ne (t := 30) dX10_drawn_1 (by decide) (fun c1 => ?_) (fun c1 => ?_)
  · rw [if_neg c1] at h
    refine g_iload_n dX10_drawn_30 rfl ?_
    refine g_iconst (v := (nI 1)) dX10_drawn_31 (by decide) ?_
    refine g_ic_ne (t := 61) dX10_drawn_32 (by decide) (fun c2 => ?_) (fun c2 => ?_)
    · rw [if_neg c2] at h
      refine g_iload_n dX10_drawn_61 rfl ?_
      refine g_iconst (v := (nI 2)) dX10_drawn_62 (by decide) ?_
      refine g_ic_ne (t := 92) dX10_drawn_63 (by decide) (fun c3 => ?_) (fun c3 => ?_)
      · rw [if_neg c3] at h
        refine g_bipush (v := (-100)) dX10_drawn_92 (by decide) ?_
        exact g_ireturn dX10_drawn_94 rfl (by first | rfl | decide) (hret _ _ (Option.some.inj h))
      · rw [if_pos c3] at h
        refine g_aload_n dX10_drawn_66 rfl ?_
        obtain ⟨x4, ex4, h⟩ := bs h
        refine q_getA dX10_drawn_67 fX10_93 ex4 ?_
        refine g_iload_n dX10_drawn_70 rfl ?_
        obtain ⟨p5, ep5, h⟩ := bs h
        refine q_virt (Z := MX2_hasFamily) (c := (RX2, TX2, 18)) (toI_s ep5) dX10_drawn_71 mX10_137.1 mX10_137.2 (Nat.le_of_ble_eq_true rfl) rfl rfl (Nat.le_of_ble_eq_true rfl) (Nat.le_of_ble_eq_true rfl) rfl rfl ?_
        show Go O (d + 1) MX10_drawn 74 [some (.ref a0), some (.int a1), some (.int a2)] [.int p5.1] p5.2 P
        refine g_if_eq (t := 89) dX10_drawn_74 (by decide) (fun c7 => ?_) (fun c7 => ?_)
        · rw [if_pos c7] at h
          refine g_bipush (v := (-100)) dX10_drawn_89 (by decide) ?_
          exact g_ireturn dX10_drawn_91 rfl (by first | rfl | decide) (hret _ _ (Option.some.inj h))
        · rw [if_neg c7] at h
          refine g_aload_n dX10_drawn_77 rfl ?_
          obtain ⟨x8, ex8, h⟩ := bs h
          refine q_getA dX10_drawn_78 fX10_93 ex8 ?_
          obtain ⟨x9, ex9, h⟩ := bs h
          refine q_getA dX10_drawn_81 fX10_134 ex9 ?_
          refine g_iload_n dX10_drawn_84 rfl ?_
          obtain ⟨x10, ex10, h⟩ := bs h
          refine q_iald dX10_drawn_85 ex10 ?_
          refine g_goto (t := 91) dX10_drawn_86 (by decide) ?_
          exact g_ireturn dX10_drawn_91 rfl (by first | rfl | decide) (hret _ _ (Option.some.inj h))
    · rw [if_pos c2] at h
      refine g_aload_n dX10_drawn_35 rfl ?_
      obtain ⟨x11, ex11, h⟩ := bs h
      refine q_getA dX10_drawn_36 fX10_93 ex11 ?_
      refine g_iload_n dX10_drawn_39 rfl ?_
      obtain ⟨p12, ep12, h⟩ := bs h
      refine q_virt (Z := MX2_hasDead) (c := (RX2, TX2, 18)) (toI_s ep12) dX10_drawn_40 mX10_160.1 mX10_160.2 (Nat.le_of_ble_eq_true rfl) rfl rfl (Nat.le_of_ble_eq_true rfl) (Nat.le_of_ble_eq_true rfl) rfl rfl ?_
      show Go O (d + 1) MX10_drawn 43 [some (.ref a0), some (.int a1), some (.int a2)] [.int p12.1] p12.2 P
      refine g_if_eq (t := 58) dX10_drawn_43 (by decide) (fun c14 => ?_) (fun c14 => ?_)
      · rw [if_pos c14] at h
        refine g_bipush (v := (-100)) dX10_drawn_58 (by decide) ?_
        exact g_ireturn dX10_drawn_60 rfl (by first | rfl | decide) (hret _ _ (Option.some.inj h))
      · rw [if_neg c14] at h
        refine g_aload_n dX10_drawn_46 rfl ?_
        obtain ⟨x15, ex15, h⟩ := bs h
        refine q_getA dX10_drawn_47 fX10_93 ex15 ?_
        obtain ⟨x16, ex16, h⟩ := bs h
        refine q_getA dX10_drawn_50 fX10_169 ex16 ?_
        refine g_iload_n dX10_drawn_53 rfl ?_
        obtain ⟨x17, ex17, h⟩ := bs h
        refine q_iald dX10_drawn_54 ex17 ?_
        refine g_goto (t := 60) dX10_drawn_55 (by decide) ?_
        exact g_ireturn dX10_drawn_60 rfl (by first | rfl | decide) (hret _ _ (Option.some.inj h))
  · rw [if_pos c1] at h
    refine g_aload_n dX10_drawn_4 rfl ?_
    obtain ⟨x18, ex18, h⟩ := bs h
    refine q_getA dX10_drawn_5 fX10_93 ex18 ?_
    refine g_iload_n dX10_drawn_8 rfl ?_
    obtain ⟨p19, ep19, h⟩ := bs h
    refine q_virt (Z := MX2_hasDead) (c := (RX2, TX2, 18)) (toI_s ep19) dX10_drawn_9 mX10_160.1 mX10_160.2 (Nat.le_of_ble_eq_true rfl) rfl rfl (Nat.le_of_ble_eq_true rfl) (Nat.le_of_ble_eq_true rfl) rfl rfl ?_
    show Go O (d + 1) MX10_drawn 12 [some (.ref a0), some (.int a1), some (.int a2)] [.int p19.1] p19.2 P
    refine g_if_eq (t := 27) dX10_drawn_12 (by decide) (fun c21 => ?_) (fun c21 => ?_)
    · rw [if_pos c21] at h
      refine g_bipush (v := (-100)) dX10_drawn_27 (by decide) ?_
      exact g_ireturn dX10_drawn_29 rfl (by first | rfl | decide) (hret _ _ (Option.some.inj h))
    · rw [if_neg c21] at h
      refine g_aload_n dX10_drawn_15 rfl ?_
      obtain ⟨x22, ex22, h⟩ := bs h
      refine q_getA dX10_drawn_16 fX10_93 ex22 ?_
      obtain ⟨x23, ex23, h⟩ := bs h
      refine q_getA dX10_drawn_19 fX10_166 ex23 ?_
      refine g_iload_n dX10_drawn_22 rfl ?_
      obtain ⟨x24, ex24, h⟩ := bs h
      refine q_iald dX10_drawn_23 ex24 ?_
      refine g_goto (t := 29) dX10_drawn_24 (by decide) ?_
      exact g_ireturn dX10_drawn_29 rfl (by first | rfl | decide) (hret _ _ (Option.some.inj h))
noncomputable def F_X10_back_j9 (O : mO) (d : Nat) (v0 : Nat) (K : mH) : Option (Int32 × mH) :=
  (toI (vc O d 10 MX10_refused v0 [.int (-1)] K)).bind fun p2 =>
  some (p2.1, p2.2)
theorem e_X10_back_j9 {O : mO} {d : Nat} {v0 : Nat} {K : mH} {P : Option Value → mH → Prop} {x : Int32 × mH} (hret : ∀ (r : Int32) (K' : mH), (r, K') = x → P (some (.int r)) K') (h : F_X10_back_j9 O d v0 K = some x) : Go O (d + 1) MX10_back 9 [some (.ref v0), none, none] [] K P := by
  unfold F_X10_back_j9 at h
  refine g_aload_n dX10_back_9 rfl ?_
  refine g_iconst (v := (-1)) dX10_back_10 (by decide) ?_
  obtain ⟨p2, ep2, h⟩ := bs h
  refine q_virt (Z := MX10_refused) (c := (RX10, TX10, 17)) (toI_s ep2) dX10_back_11 mX10_105.1 mX10_105.2 (Nat.le_of_ble_eq_true rfl) rfl rfl (Nat.le_of_ble_eq_true rfl) (Nat.le_of_ble_eq_true rfl) rfl rfl ?_
  show Go O (d + 1) MX10_back 14 [some (.ref v0), none, none] [.int p2.1] p2.2 P
  exact g_ireturn dX10_back_14 rfl (by first | rfl | decide) (hret _ _ (Option.some.inj h))
noncomputable def F_X10_back (O : mO) (d : Nat) (a0 : Nat) (a1 : Int32) (K : mH) : Option (Int32 × mH) :=
  if a1 < 0 then
    F_X10_back_j9 O d a0 K
  else
    if a1 < (nI 2) then
      (gtA K a0 10 7).bind fun x4 =>
      (rdR O K x4 a1).bind fun x5 =>
      if x5 = none then
        (toI (vc O d 10 MX10_refused a0 [.int (-2)] K)).bind fun p12 =>
        some (p12.1, p12.2)
      else
        (gtA K a0 10 10).bind fun x7 =>
        (toV (vc O d 2 MX2_copyFrom x7 [va_rf x5] K)).bind fun K8 =>
        (gtA K8 a0 10 11).bind fun x9 =>
        (toV (vc O d 3 MX3_clear x9 [] K8)).bind fun K10 =>
        (toI (vc O d 10 MX10_granted a0 [.int (nI 0)] K10)).bind fun p11 =>
        some (p11.1, p11.2)
    else
      F_X10_back_j9 O d a0 K
theorem e_X10_back {O : mO} {d : Nat} {a0 : Nat} {a1 : Int32} {K : mH} {r0 : Int32} {K0 : mH} (h : F_X10_back O d a0 a1 K = some (r0, K0)) : ev O (d + 1) MX10_back [.ref a0, .int a1] K = some (some (.int r0), K0) := by
  refine Rn_evx ?_
  show Go O (d + 1) MX10_back 0 [some (.ref a0), some (.int a1), none] [] K _
  generalize hP : (fun (r : Option Value) (K' : mH) => (r, K') = (some (.int r0), K0)) = P
  have hret : ∀ (r : Int32) (K' : mH), (r, K') = (r0, K0) → P (some (.int r)) K' := by
    intro r K' e
    cases e
    subst hP
    rfl
  clear hP
  unfold F_X10_back at h
  refine g_iload_n dX10_back_0 rfl ?_
  refine g_if_lt (t := 9) dX10_back_1 (by decide) (fun c1 => ?_) (fun c1 => ?_)
  · rw [if_pos c1] at h
    refine Go_le ?_ (e_X10_back_j9 hret h)
    exact And.intro rfl (trivial)
  · rw [if_neg c1] at h
    refine g_iload_n dX10_back_4 rfl ?_
    refine g_iconst (v := (nI 2)) dX10_back_5 (by decide) ?_
    refine g_ic_lt (t := 15) dX10_back_6 (by decide) (fun c3 => ?_) (fun c3 => ?_)
    · rw [if_pos c3] at h
      refine g_aload_n dX10_back_15 rfl ?_
      obtain ⟨x4, ex4, h⟩ := bs h
      refine q_getA dX10_back_16 fX10_51 ex4 ?_
      refine g_iload_n dX10_back_19 rfl ?_
      obtain ⟨x5, ex5, h⟩ := bs h
      refine q_aald dX10_back_20 ex5 ?_
      refine q_astore_n (ls' := [some (.ref a0), some (.int a1), some (va_rf x5)]) dX10_back_21 (by decide) (by cases x5 <;> rfl) ?_
      refine q_aload_n dX10_back_22 rfl ?_
      refine q_ifnon (t := 33) dX10_back_23 (by decide) (fun c6 => ?_) (fun c6 => ?_)
      · rw [if_neg c6] at h
        refine g_aload_n dX10_back_33 rfl ?_
        obtain ⟨x7, ex7, h⟩ := bs h
        refine q_getA dX10_back_34 fX10_89 ex7 ?_
        refine q_aload_n dX10_back_37 rfl ?_
        obtain ⟨K8, eK8, h⟩ := bs h
        refine q_virt (Z := MX2_copyFrom) (c := (RX2, TX2, 18)) (toV_s eK8) dX10_back_38 mX10_332.1 mX10_332.2 (Nat.le_of_ble_eq_true rfl) rfl rfl (Nat.le_of_ble_eq_true rfl) (by cases x5 <;> exact Nat.le_of_ble_eq_true rfl) rfl rfl ?_
        show Go O (d + 1) MX10_back 41 [some (.ref a0), some (.int a1), some (va_rf x5)] [] K8 P
        refine g_aload_n dX10_back_41 rfl ?_
        obtain ⟨x9, ex9, h⟩ := bs h
        refine q_getA dX10_back_42 fX10_58 ex9 ?_
        obtain ⟨K10, eK10, h⟩ := bs h
        refine q_virt (Z := MX3_clear) (c := (RX3, TX3, 3)) (toV_s eK10) dX10_back_45 mX10_115.1 mX10_115.2 (Nat.le_of_ble_eq_true rfl) rfl rfl (Nat.le_of_ble_eq_true rfl) (Nat.le_of_ble_eq_true rfl) rfl rfl ?_
        show Go O (d + 1) MX10_back 48 [some (.ref a0), some (.int a1), some (va_rf x5)] [] K10 P
        refine g_aload_n dX10_back_48 rfl ?_
        refine g_iconst (v := (nI 0)) dX10_back_49 (by decide) ?_
        obtain ⟨p11, ep11, h⟩ := bs h
        refine q_virt (Z := MX10_granted) (c := (RX10, TX10, 17)) (toI_s ep11) dX10_back_50 mX10_118.1 mX10_118.2 (Nat.le_of_ble_eq_true rfl) rfl rfl (Nat.le_of_ble_eq_true rfl) (Nat.le_of_ble_eq_true rfl) rfl rfl ?_
        show Go O (d + 1) MX10_back 53 [some (.ref a0), some (.int a1), some (va_rf x5)] [.int p11.1] p11.2 P
        exact g_ireturn dX10_back_53 rfl (by first | rfl | decide) (hret _ _ (Option.some.inj h))
      · rw [if_pos c6] at h
        refine g_aload_n dX10_back_26 rfl ?_
        refine g_bipush (v := (-2)) dX10_back_27 (by decide) ?_
        obtain ⟨p12, ep12, h⟩ := bs h
        refine q_virt (Z := MX10_refused) (c := (RX10, TX10, 17)) (toI_s ep12) dX10_back_29 mX10_105.1 mX10_105.2 (Nat.le_of_ble_eq_true rfl) rfl rfl (Nat.le_of_ble_eq_true rfl) (Nat.le_of_ble_eq_true rfl) rfl rfl ?_
        show Go O (d + 1) MX10_back 32 [some (.ref a0), some (.int a1), some (va_rf x5)] [.int p12.1] p12.2 P
        exact g_ireturn dX10_back_32 rfl (by first | rfl | decide) (hret _ _ (Option.some.inj h))
    · rw [if_neg c3] at h
      refine Go_le ?_ (e_X10_back_j9 hret h)
      exact And.intro rfl (trivial)
noncomputable def F_X10_count_j47 (O : mO) (d : Nat) (v0 : Nat) (v1 : Int32) (K : mH) : Option (Int32 × mH) :=
  if v1 = nI 0 then
    (gtA K v0 10 10).bind fun x4 =>
    (gtI K x4 2 11).bind fun x5 =>
    some (x5, K)
  else if v1 = nI 1 then
    (gtA K v0 10 10).bind fun x7 =>
    (gtI K x7 2 12).bind fun x8 =>
    some (x8, K)
  else if v1 = nI 2 then
    (gtA K v0 10 10).bind fun x10 =>
    (gtI K x10 2 13).bind fun x11 =>
    some (x11, K)
  else if v1 = nI 3 then
    (gtA K v0 10 10).bind fun x13 =>
    (toI (vc O d 2 MX2_insideCount x13 [] K)).bind fun p14 =>
    some (p14.1, p14.2)
  else if v1 = nI 4 then
    (gtA K v0 10 10).bind fun x16 =>
    (gtI K x16 2 15).bind fun x17 =>
    some (x17, K)
  else if v1 = nI 5 then
    (gtA K v0 10 10).bind fun x19 =>
    (gtI K x19 2 16).bind fun x20 =>
    some (x20, K)
  else if v1 = nI 6 then
    (gtA K v0 10 11).bind fun x22 =>
    (gtI K x22 3 2).bind fun x23 =>
    some (x23, K)
  else if v1 = nI 7 then
    (gtI K v0 10 12).bind fun x25 =>
    some (x25, K)
  else if v1 = nI 13 then
    (gtA K v0 10 10).bind fun x27 =>
    (gtI K x27 2 17).bind fun x28 =>
    some (x28, K)
  else 
    some ((-1), K)
theorem e_X10_count_j47 {O : mO} {d : Nat} {v0 : Nat} {v1 : Int32} {K : mH} {P : Option Value → mH → Prop} {x : Int32 × mH} (hret : ∀ (r : Int32) (K' : mH), (r, K') = x → P (some (.int r)) K') (h : F_X10_count_j47 O d v0 v1 K = some x) : Go O (d + 1) MX10_count 47 [some (.ref v0), some (.int v1)] [] K P := by
  unfold F_X10_count_j47 at h
  refine g_iload_n dX10_count_47 rfl ?_
  by_cases c3 : v1 = nI 0
  · rw [if_pos c3] at h
    refine g_tsI (t := 120) (off := 72) dX10_count_48 (by rw [c3]; decide) (by rw [c3]; decide) (by decide) ?_
    refine g_aload_n dX10_count_120 rfl ?_
    obtain ⟨x4, ex4, h⟩ := bs h
    refine q_getA dX10_count_121 fX10_89 ex4 ?_
    obtain ⟨x5, ex5, h⟩ := bs h
    refine q_getI dX10_count_124 fX10_109 ex5 ?_
    exact g_ireturn dX10_count_127 rfl (by first | rfl | decide) (hret _ _ (Option.some.inj h))
  rw [if_neg c3] at h
  by_cases c6 : v1 = nI 1
  · rw [if_pos c6] at h
    refine g_tsI (t := 128) (off := 80) dX10_count_48 (by rw [c6]; decide) (by rw [c6]; decide) (by decide) ?_
    refine g_aload_n dX10_count_128 rfl ?_
    obtain ⟨x7, ex7, h⟩ := bs h
    refine q_getA dX10_count_129 fX10_89 ex7 ?_
    obtain ⟨x8, ex8, h⟩ := bs h
    refine q_getI dX10_count_132 fX10_131 ex8 ?_
    exact g_ireturn dX10_count_135 rfl (by first | rfl | decide) (hret _ _ (Option.some.inj h))
  rw [if_neg c6] at h
  by_cases c9 : v1 = nI 2
  · rw [if_pos c9] at h
    refine g_tsI (t := 136) (off := 88) dX10_count_48 (by rw [c9]; decide) (by rw [c9]; decide) (by decide) ?_
    refine g_aload_n dX10_count_136 rfl ?_
    obtain ⟨x10, ex10, h⟩ := bs h
    refine q_getA dX10_count_137 fX10_89 ex10 ?_
    obtain ⟨x11, ex11, h⟩ := bs h
    refine q_getI dX10_count_140 fX10_157 ex11 ?_
    exact g_ireturn dX10_count_143 rfl (by first | rfl | decide) (hret _ _ (Option.some.inj h))
  rw [if_neg c9] at h
  by_cases c12 : v1 = nI 3
  · rw [if_pos c12] at h
    refine g_tsI (t := 144) (off := 96) dX10_count_48 (by rw [c12]; decide) (by rw [c12]; decide) (by decide) ?_
    refine g_aload_n dX10_count_144 rfl ?_
    obtain ⟨x13, ex13, h⟩ := bs h
    refine q_getA dX10_count_145 fX10_89 ex13 ?_
    obtain ⟨p14, ep14, h⟩ := bs h
    refine q_virt (Z := MX2_insideCount) (c := (RX2, TX2, 18)) (toI_s ep14) dX10_count_148 mX10_341.1 mX10_341.2 (Nat.le_of_ble_eq_true rfl) rfl rfl (Nat.le_of_ble_eq_true rfl) (Nat.le_of_ble_eq_true rfl) rfl rfl ?_
    show Go O (d + 1) MX10_count 151 [some (.ref v0), some (.int v1)] [.int p14.1] p14.2 P
    exact g_ireturn dX10_count_151 rfl (by first | rfl | decide) (hret _ _ (Option.some.inj h))
  rw [if_neg c12] at h
  by_cases c15 : v1 = nI 4
  · rw [if_pos c15] at h
    refine g_tsI (t := 152) (off := 104) dX10_count_48 (by rw [c15]; decide) (by rw [c15]; decide) (by decide) ?_
    refine g_aload_n dX10_count_152 rfl ?_
    obtain ⟨x16, ex16, h⟩ := bs h
    refine q_getA dX10_count_153 fX10_89 ex16 ?_
    obtain ⟨x17, ex17, h⟩ := bs h
    refine q_getI dX10_count_156 fX10_287 ex17 ?_
    exact g_ireturn dX10_count_159 rfl (by first | rfl | decide) (hret _ _ (Option.some.inj h))
  rw [if_neg c15] at h
  by_cases c18 : v1 = nI 5
  · rw [if_pos c18] at h
    refine g_tsI (t := 160) (off := 112) dX10_count_48 (by rw [c18]; decide) (by rw [c18]; decide) (by decide) ?_
    refine g_aload_n dX10_count_160 rfl ?_
    obtain ⟨x19, ex19, h⟩ := bs h
    refine q_getA dX10_count_161 fX10_89 ex19 ?_
    obtain ⟨x20, ex20, h⟩ := bs h
    refine q_getI dX10_count_164 fX10_212 ex20 ?_
    exact g_ireturn dX10_count_167 rfl (by first | rfl | decide) (hret _ _ (Option.some.inj h))
  rw [if_neg c18] at h
  by_cases c21 : v1 = nI 6
  · rw [if_pos c21] at h
    refine g_tsI (t := 168) (off := 120) dX10_count_48 (by rw [c21]; decide) (by rw [c21]; decide) (by decide) ?_
    refine g_aload_n dX10_count_168 rfl ?_
    obtain ⟨x22, ex22, h⟩ := bs h
    refine q_getA dX10_count_169 fX10_58 ex22 ?_
    obtain ⟨x23, ex23, h⟩ := bs h
    refine q_getI dX10_count_172 fX10_261 ex23 ?_
    exact g_ireturn dX10_count_175 rfl (by first | rfl | decide) (hret _ _ (Option.some.inj h))
  rw [if_neg c21] at h
  by_cases c24 : v1 = nI 7
  · rw [if_pos c24] at h
    refine g_tsI (t := 176) (off := 128) dX10_count_48 (by rw [c24]; decide) (by rw [c24]; decide) (by decide) ?_
    refine g_aload_n dX10_count_176 rfl ?_
    obtain ⟨x25, ex25, h⟩ := bs h
    refine q_getI dX10_count_177 fX10_62 ex25 ?_
    exact g_ireturn dX10_count_180 rfl (by first | rfl | decide) (hret _ _ (Option.some.inj h))
  rw [if_neg c24] at h
  by_cases c26 : v1 = nI 13
  · rw [if_pos c26] at h
    refine g_tsI (t := 181) (off := 133) dX10_count_48 (by rw [c26]; decide) (by rw [c26]; decide) (by decide) ?_
    refine g_aload_n dX10_count_181 rfl ?_
    obtain ⟨x27, ex27, h⟩ := bs h
    refine q_getA dX10_count_182 fX10_89 ex27 ?_
    obtain ⟨x28, ex28, h⟩ := bs h
    refine q_getI dX10_count_185 fX10_251 ex28 ?_
    exact g_ireturn dX10_count_188 rfl (by first | rfl | decide) (hret _ _ (Option.some.inj h))
  rw [if_neg c26] at h
  have hdef : Go O (d + 1) MX10_count 189 [some (.ref v0), some (.int v1)] [] K P := by
    refine g_iconst (v := (-1)) dX10_count_189 (by decide) ?_
    exact g_ireturn dX10_count_190 rfl (by first | rfl | decide) (hret _ _ (Option.some.inj h))
  by_cases c29 : v1 = nI 8
  · refine g_tsI (t := 189) (off := 141) dX10_count_48 (by rw [c29]; decide) (by rw [c29]; decide) (by decide) hdef
  by_cases c30 : v1 = nI 9
  · refine g_tsI (t := 189) (off := 141) dX10_count_48 (by rw [c30]; decide) (by rw [c30]; decide) (by decide) hdef
  by_cases c31 : v1 = nI 10
  · refine g_tsI (t := 189) (off := 141) dX10_count_48 (by rw [c31]; decide) (by rw [c31]; decide) (by decide) hdef
  by_cases c32 : v1 = nI 11
  · refine g_tsI (t := 189) (off := 141) dX10_count_48 (by rw [c32]; decide) (by rw [c32]; decide) (by decide) hdef
  by_cases c33 : v1 = nI 12
  · refine g_tsI (t := 189) (off := 141) dX10_count_48 (by rw [c33]; decide) (by rw [c33]; decide) (by decide) hdef
  refine g_tsO (t := 189) dX10_count_48 ?_ (by decide) hdef
  have ic3 := ts_ne (by decide) c3
  have ic6 := ts_ne (by decide) c6
  have ic9 := ts_ne (by decide) c9
  have ic12 := ts_ne (by decide) c12
  have ic15 := ts_ne (by decide) c15
  have ic18 := ts_ne (by decide) c18
  have ic21 := ts_ne (by decide) c21
  have ic24 := ts_ne (by decide) c24
  have ic26 := ts_ne (by decide) c26
  have ic29 := ts_ne (by decide) c29
  have ic30 := ts_ne (by decide) c30
  have ic31 := ts_ne (by decide) c31
  have ic32 := ts_ne (by decide) c32
  have ic33 := ts_ne (by decide) c33
  omega
noncomputable def F_X10_count_j22 (O : mO) (d : Nat) (v0 : Nat) (v1 : Int32) (K : mH) : Option (Int32 × mH) :=
  if v1 < (nI 14) then
    F_X10_count_j47 O d v0 v1 K
  else
    if (nI 16) < v1 then
      F_X10_count_j47 O d v0 v1 K
    else
      (gtA K v0 10 10).bind fun x35 =>
      (gtA K x35 2 9).bind fun x36 =>
      (rdI O K x36 (v1 - (nI 14))).bind fun x37 =>
      some (x37, K)
theorem e_X10_count_j22 {O : mO} {d : Nat} {v0 : Nat} {v1 : Int32} {K : mH} {P : Option Value → mH → Prop} {x : Int32 × mH} (hret : ∀ (r : Int32) (K' : mH), (r, K') = x → P (some (.int r)) K') (h : F_X10_count_j22 O d v0 v1 K = some x) : Go O (d + 1) MX10_count 22 [some (.ref v0), some (.int v1)] [] K P := by
  unfold F_X10_count_j22 at h
  refine g_iload_n dX10_count_22 rfl ?_
  refine g_bipush (v := (nI 14)) dX10_count_23 (by decide) ?_
  refine g_ic_lt (t := 47) dX10_count_25 (by decide) (fun c2 => ?_) (fun c2 => ?_)
  · rw [if_pos c2] at h
    refine Go_le ?_ (e_X10_count_j47 hret h)
    exact And.intro rfl (And.intro rfl (trivial))
  · rw [if_neg c2] at h
    refine g_iload_n dX10_count_28 rfl ?_
    refine g_bipush (v := (nI 16)) dX10_count_29 (by decide) ?_
    refine g_ic_gt (t := 47) dX10_count_31 (by decide) (fun c34 => ?_) (fun c34 => ?_)
    · rw [if_pos c34] at h
      refine Go_le ?_ (e_X10_count_j47 hret h)
      exact And.intro rfl (And.intro rfl (trivial))
    · rw [if_neg c34] at h
      refine g_aload_n dX10_count_34 rfl ?_
      obtain ⟨x35, ex35, h⟩ := bs h
      refine q_getA dX10_count_35 fX10_89 ex35 ?_
      obtain ⟨x36, ex36, h⟩ := bs h
      refine q_getA dX10_count_38 fX10_197 ex36 ?_
      refine g_iload_n dX10_count_41 rfl ?_
      refine g_bipush (v := (nI 14)) dX10_count_42 (by decide) ?_
      refine g_isub dX10_count_44 ?_
      obtain ⟨x37, ex37, h⟩ := bs h
      refine q_iald dX10_count_45 ex37 ?_
      exact g_ireturn dX10_count_46 rfl (by first | rfl | decide) (hret _ _ (Option.some.inj h))
noncomputable def F_X10_count (O : mO) (d : Nat) (a0 : Nat) (a1 : Int32) (K : mH) : Option (Int32 × mH) :=
  if a1 < (nI 8) then
    F_X10_count_j22 O d a0 a1 K
  else
    if (nI 12) < a1 then
      F_X10_count_j22 O d a0 a1 K
    else
      (gtA K a0 10 6).bind fun x39 =>
      (rdI O K x39 (a1 - (nI 8))).bind fun x40 =>
      some (x40, K)
theorem e_X10_count {O : mO} {d : Nat} {a0 : Nat} {a1 : Int32} {K : mH} {r0 : Int32} {K0 : mH} (h : F_X10_count O d a0 a1 K = some (r0, K0)) : ev O (d + 1) MX10_count [.ref a0, .int a1] K = some (some (.int r0), K0) := by
  refine Rn_evx ?_
  show Go O (d + 1) MX10_count 0 [some (.ref a0), some (.int a1)] [] K _
  generalize hP : (fun (r : Option Value) (K' : mH) => (r, K') = (some (.int r0), K0)) = P
  have hret : ∀ (r : Int32) (K' : mH), (r, K') = (r0, K0) → P (some (.int r)) K' := by
    intro r K' e
    cases e
    subst hP
    rfl
  clear hP
  unfold F_X10_count at h
  refine g_iload_n dX10_count_0 rfl ?_
  refine g_bipush (v := (nI 8)) dX10_count_1 (by decide) ?_
  refine g_ic_lt (t := 22) dX10_count_3 (by decide) (fun c1 => ?_) (fun c1 => ?_)
  · rw [if_pos c1] at h
    refine Go_le ?_ (e_X10_count_j22 hret h)
    exact And.intro rfl (And.intro rfl (trivial))
  · rw [if_neg c1] at h
    refine g_iload_n dX10_count_6 rfl ?_
    refine g_bipush (v := (nI 12)) dX10_count_7 (by decide) ?_
    refine g_ic_gt (t := 22) dX10_count_9 (by decide) (fun c38 => ?_) (fun c38 => ?_)
    · rw [if_pos c38] at h
      refine Go_le ?_ (e_X10_count_j22 hret h)
      exact And.intro rfl (And.intro rfl (trivial))
    · rw [if_neg c38] at h
      refine g_aload_n dX10_count_12 rfl ?_
      obtain ⟨x39, ex39, h⟩ := bs h
      refine q_getA dX10_count_13 fX10_45 ex39 ?_
      refine g_iload_n dX10_count_16 rfl ?_
      refine g_bipush (v := (nI 8)) dX10_count_17 (by decide) ?_
      refine g_isub dX10_count_19 ?_
      obtain ⟨x40, ex40, h⟩ := bs h
      refine q_iald dX10_count_20 ex40 ?_
      exact g_ireturn dX10_count_21 rfl (by first | rfl | decide) (hret _ _ (Option.some.inj h))
noncomputable def F_X10_status (O : mO) (d : Nat) (a0 : Nat) (K : mH) : Option (Int32 × mH) :=
  (gtI K a0 10 16).bind fun x1 =>
  some (x1, K)
theorem e_X10_status {O : mO} {d : Nat} {a0 : Nat} {K : mH} {r0 : Int32} {K0 : mH} (h : F_X10_status O d a0 K = some (r0, K0)) : ev O (d + 1) MX10_status [.ref a0] K = some (some (.int r0), K0) := by
  refine Rn_evx ?_
  show Go O (d + 1) MX10_status 0 [some (.ref a0)] [] K _
  generalize hP : (fun (r : Option Value) (K' : mH) => (r, K') = (some (.int r0), K0)) = P
  have hret : ∀ (r : Int32) (K' : mH), (r, K') = (r0, K0) → P (some (.int r)) K' := by
    intro r K' e
    cases e
    subst hP
    rfl
  clear hP
  unfold F_X10_status at h
  refine g_aload_n dX10_status_0 rfl ?_
  obtain ⟨x1, ex1, h⟩ := bs h
  refine q_getI dX10_status_1 fX10_75 ex1 ?_
  exact g_ireturn dX10_status_4 rfl (by first | rfl | decide) (hret _ _ (Option.some.inj h))
noncomputable def F_X10_refused (O : mO) (d : Nat) (a0 : Nat) (a1 : Int32) (K : mH) : Option (Int32 × mH) :=
  (ptI K a0 10 16 a1).bind fun K1 =>
  if (if a1 < (-3) then ((-a1) - (nI 2)) else ((-a1) - (nI 1))) < 0 then
    some (a1, K1)
  else
    (gtA K1 a0 10 6).bind fun x5 =>
    (lnA O K1 x5).bind fun x6 =>
    if x6 ≤ (if a1 < (-3) then ((-a1) - (nI 2)) else ((-a1) - (nI 1))) then
      some (a1, K1)
    else
      (gtA K1 a0 10 6).bind fun x9 =>
      (rdI O K1 x9 (if a1 < (-3) then ((-a1) - (nI 2)) else ((-a1) - (nI 1)))).bind fun x10 =>
      (wrI K1 x9 (if a1 < (-3) then ((-a1) - (nI 2)) else ((-a1) - (nI 1))) (x10 + (nI 1))).bind fun K11 =>
      some (a1, K11)
theorem e_X10_refused {O : mO} {d : Nat} {a0 : Nat} {a1 : Int32} {K : mH} {r0 : Int32} {K0 : mH} (h : F_X10_refused O d a0 a1 K = some (r0, K0)) : ev O (d + 1) MX10_refused [.ref a0, .int a1] K = some (some (.int r0), K0) := by
  refine Rn_evx ?_
  show Go O (d + 1) MX10_refused 0 [some (.ref a0), some (.int a1), none] [] K _
  generalize hP : (fun (r : Option Value) (K' : mH) => (r, K') = (some (.int r0), K0)) = P
  have hret : ∀ (r : Int32) (K' : mH), (r, K') = (r0, K0) → P (some (.int r)) K' := by
    intro r K' e
    cases e
    subst hP
    rfl
  clear hP
  unfold F_X10_refused at h
  refine g_aload_n dX10_refused_0 rfl ?_
  refine g_iload_n dX10_refused_1 rfl ?_
  obtain ⟨K1, eK1, h⟩ := bs h
  refine q_put (c := (RX10, TX10, 17)) dX10_refused_2 fX10_75 rfl rfl rfl (fun h => absurd h (by decide)) eK1 ?_
  refine g_iload_n dX10_refused_5 rfl ?_
  refine g_bipush (v := (-3)) dX10_refused_6 (by decide) ?_
  have hj : Go O (d + 1) MX10_refused 22 [some (.ref a0), some (.int a1), none] [.int (if a1 < (-3) then ((-a1) - (nI 2)) else ((-a1) - (nI 1)))] K1 P := by
    refine g_istore_n (ls' := [some (.ref a0), some (.int a1), some (.int (if a1 < (-3) then ((-a1) - (nI 2)) else ((-a1) - (nI 1))))]) dX10_refused_22 (by decide) rfl ?_
    refine g_iload_n dX10_refused_23 rfl ?_
    refine g_if_lt (t := 46) dX10_refused_24 (by decide) (fun c4 => ?_) (fun c4 => ?_)
    · rw [if_pos c4] at h
      refine g_iload_n dX10_refused_46 rfl ?_
      exact g_ireturn dX10_refused_47 rfl (by first | rfl | decide) (hret _ _ (Option.some.inj h))
    · rw [if_neg c4] at h
      refine g_iload_n dX10_refused_27 rfl ?_
      refine g_aload_n dX10_refused_28 rfl ?_
      obtain ⟨x5, ex5, h⟩ := bs h
      refine q_getA dX10_refused_29 fX10_45 ex5 ?_
      obtain ⟨x6, ex6, h⟩ := bs h
      refine q_alen dX10_refused_32 ex6 ?_
      refine g_ic_ge (t := 46) dX10_refused_33 (by decide) (fun c8 => ?_) (fun c8 => ?_)
      · rw [if_pos c8] at h
        refine g_iload_n dX10_refused_46 rfl ?_
        exact g_ireturn dX10_refused_47 rfl (by first | rfl | decide) (hret _ _ (Option.some.inj h))
      · rw [if_neg c8] at h
        refine g_aload_n dX10_refused_36 rfl ?_
        obtain ⟨x9, ex9, h⟩ := bs h
        refine q_getA dX10_refused_37 fX10_45 ex9 ?_
        refine g_iload_n dX10_refused_40 rfl ?_
        refine g_dup2 dX10_refused_41 rfl rfl ?_
        obtain ⟨x10, ex10, h⟩ := bs h
        refine q_iald dX10_refused_42 ex10 ?_
        refine g_iconst (v := (nI 1)) dX10_refused_43 (by decide) ?_
        refine g_iadd dX10_refused_44 ?_
        obtain ⟨K11, eK11, h⟩ := bs h
        refine q_iast dX10_refused_45 eK11 ?_
        refine g_iload_n dX10_refused_46 rfl ?_
        exact g_ireturn dX10_refused_47 rfl (by first | rfl | decide) (hret _ _ (Option.some.inj h))
  refine g_ic_lt (t := 18) dX10_refused_8 (by decide) (fun c2 => ?_) (fun c2 => ?_)
  · skip
    refine g_iload_n dX10_refused_18 rfl ?_
    refine g_ineg dX10_refused_19 ?_
    refine g_iconst (v := (nI 2)) dX10_refused_20 (by decide) ?_
    refine g_isub dX10_refused_21 ?_
    have hk : Go O (d + 1) MX10_refused 22 [some (.ref a0), some (.int a1), none] [.int ((-a1) - (nI 2))] K1 P := by simpa only [if_pos c2] using hj
    refine Go_le ?_ hk
    exact And.intro rfl (And.intro rfl (trivial))
  · skip
    refine g_iload_n dX10_refused_11 rfl ?_
    refine g_ineg dX10_refused_12 ?_
    refine g_iconst (v := (nI 1)) dX10_refused_13 (by decide) ?_
    refine g_isub dX10_refused_14 ?_
    refine g_goto (t := 22) dX10_refused_15 (by decide) ?_
    have hk : Go O (d + 1) MX10_refused 22 [some (.ref a0), some (.int a1), none] [.int ((-a1) - (nI 1))] K1 P := by simpa only [if_neg c2] using hj
    refine Go_le ?_ hk
    exact And.intro rfl (And.intro rfl (trivial))
noncomputable def F_X10_answered (O : mO) (d : Nat) (a0 : Nat) (a1 : Int32) (K : mH) : Option (Int32 × mH) :=
  if 0 ≤ a1 then
    (toI (vc O d 10 MX10_granted a0 [.int a1] K)).bind fun p3 =>
    some (p3.1, p3.2)
  else
    (toI (vc O d 10 MX10_refused a0 [.int a1] K)).bind fun p4 =>
    some (p4.1, p4.2)
theorem e_X10_answered {O : mO} {d : Nat} {a0 : Nat} {a1 : Int32} {K : mH} {r0 : Int32} {K0 : mH} (h : F_X10_answered O d a0 a1 K = some (r0, K0)) : ev O (d + 1) MX10_answered [.ref a0, .int a1] K = some (some (.int r0), K0) := by
  refine Rn_evx ?_
  show Go O (d + 1) MX10_answered 0 [some (.ref a0), some (.int a1)] [] K _
  generalize hP : (fun (r : Option Value) (K' : mH) => (r, K') = (some (.int r0), K0)) = P
  have hret : ∀ (r : Int32) (K' : mH), (r, K') = (r0, K0) → P (some (.int r)) K' := by
    intro r K' e
    cases e
    subst hP
    rfl
  clear hP
  unfold F_X10_answered at h
  refine g_iload_n dX10_answered_0 rfl ?_
  refine g_if_ge (t := 12) dX10_answered_1 (by decide) (fun c2 => ?_) (fun c2 => ?_)
  · rw [if_pos c2] at h
    refine g_aload_n dX10_answered_12 rfl ?_
    refine g_iload_n dX10_answered_13 rfl ?_
    obtain ⟨p3, ep3, h⟩ := bs h
    refine q_virt (Z := MX10_granted) (c := (RX10, TX10, 17)) (toI_s ep3) dX10_answered_14 mX10_118.1 mX10_118.2 (Nat.le_of_ble_eq_true rfl) rfl rfl (Nat.le_of_ble_eq_true rfl) (Nat.le_of_ble_eq_true rfl) rfl rfl ?_
    show Go O (d + 1) MX10_answered 17 [some (.ref a0), some (.int a1)] [.int p3.1] p3.2 P
    exact g_ireturn dX10_answered_17 rfl (by first | rfl | decide) (hret _ _ (Option.some.inj h))
  · rw [if_neg c2] at h
    refine g_aload_n dX10_answered_4 rfl ?_
    refine g_iload_n dX10_answered_5 rfl ?_
    obtain ⟨p4, ep4, h⟩ := bs h
    refine q_virt (Z := MX10_refused) (c := (RX10, TX10, 17)) (toI_s ep4) dX10_answered_6 mX10_105.1 mX10_105.2 (Nat.le_of_ble_eq_true rfl) rfl rfl (Nat.le_of_ble_eq_true rfl) (Nat.le_of_ble_eq_true rfl) rfl rfl ?_
    show Go O (d + 1) MX10_answered 9 [some (.ref a0), some (.int a1)] [.int p4.1] p4.2 P
    refine g_goto (t := 17) dX10_answered_9 (by decide) ?_
    exact g_ireturn dX10_answered_17 rfl (by first | rfl | decide) (hret _ _ (Option.some.inj h))
noncomputable def F_X10_putBytes_l3 (O : mO) (d : Nat) (v0 : Nat) (v1 : Int32) (s2 : Int32) (K : mH) : Option ((Int32 × mH) ⊕ (mH)) :=
  if s2 < 0 then
    some (.inr K)
  else
    (gtI K v0 10 12).bind fun x2 =>
    (gtA K v0 10 5).bind fun x3 =>
    (lnA O K x3).bind fun x4 =>
    if x4 ≤ x2 then
      some (.inl ((s2 + (-8)), K))
    else
      (gtA K v0 10 5).bind fun x7 =>
      (gtI K v0 10 12).bind fun x8 =>
      (wrB K x7 x8 (v1.toUInt32 >>> (s2.toUInt32 &&& Int32.toUInt32 31)).toInt32.toInt8.toInt32).bind fun K9 =>
      (gtI K9 v0 10 12).bind fun x10 =>
      (ptI K9 v0 10 12 (x10 + (nI 1))).bind fun K11 =>
      some (.inl ((s2 + (-8)), K11))
theorem e_X10_putBytes_l3 {O : mO} {d : Nat} {v0 : Nat} {v1 : Int32} {P : Option Value → mH → Prop} {x : mH} (hex : ∀ q : mH, x = q → Go O (d + 1) MX10_putBytes 48 [none, none, none] [] q P) : ∀ (f : Nat) (q : Int32 × mH), lupF (fun (q : Int32 × mH) => F_X10_putBytes_l3 O d v0 v1 q.1 q.2) f q = some x → Go O (d + 1) MX10_putBytes 3 [some (.ref v0), some (.int v1), some (.int q.1)] [] q.2 P := by
  intro f
  induction f with
  | zero =>
    intro q h
    cases h
  | succ f ih =>
    intro q h
    obtain ⟨y, h, hy1, hy2⟩ := lupF_s h
    have hin : ∀ q : Int32 × mH, y = .inl q → Go O (d + 1) MX10_putBytes 3 [some (.ref v0), some (.int v1), some (.int q.1)] [] q.2 P := fun q e => ih q (hy1 q e)
    replace hex : ∀ q : mH, y = .inr q → Go O (d + 1) MX10_putBytes 48 [none, none, none] [] q P := fun q e => hex q (hy2 q e).symm
    clear ih hy1 hy2
    obtain ⟨s2, K⟩ := q
    dsimp only at h ⊢
    unfold F_X10_putBytes_l3 at h
    refine g_iload_n dX10_putBytes_3 rfl ?_
    refine g_if_lt (t := 48) dX10_putBytes_4 (by decide) (fun c1 => ?_) (fun c1 => ?_)
    · rw [if_pos c1] at h
      refine Go_le ?_ (hex K (Option.some.inj h).symm)
      exact trivial
    · rw [if_neg c1] at h
      refine g_aload_n dX10_putBytes_7 rfl ?_
      obtain ⟨x2, ex2, h⟩ := bs h
      refine q_getI dX10_putBytes_8 fX10_62 ex2 ?_
      refine g_aload_n dX10_putBytes_11 rfl ?_
      obtain ⟨x3, ex3, h⟩ := bs h
      refine q_getA dX10_putBytes_12 fX10_41 ex3 ?_
      obtain ⟨x4, ex4, h⟩ := bs h
      refine q_alen dX10_putBytes_15 ex4 ?_
      refine g_ic_ge (t := 42) dX10_putBytes_16 (by decide) (fun c6 => ?_) (fun c6 => ?_)
      · rw [if_pos c6] at h
        refine q_iinc (w := (-8)) (ls' := [some (.ref v0), some (.int v1), some (.int (s2 + (-8)))]) dX10_putBytes_42 (by decide) rfl (by decide) rfl ?_
        refine g_goto (t := 3) dX10_putBytes_45 (by decide) ?_
        have hh := hin ((s2 + (-8)), K) (Option.some.inj h).symm; (try dsimp only at hh); refine Go_le ?_ hh
        exact And.intro rfl (And.intro rfl (And.intro rfl (trivial)))
      · rw [if_neg c6] at h
        refine g_aload_n dX10_putBytes_19 rfl ?_
        obtain ⟨x7, ex7, h⟩ := bs h
        refine q_getA dX10_putBytes_20 fX10_41 ex7 ?_
        refine g_aload_n dX10_putBytes_23 rfl ?_
        obtain ⟨x8, ex8, h⟩ := bs h
        refine q_getI dX10_putBytes_24 fX10_62 ex8 ?_
        refine g_iload_n dX10_putBytes_27 rfl ?_
        refine g_iload_n dX10_putBytes_28 rfl ?_
        refine g_iushr dX10_putBytes_29 ?_
        refine g_i2b dX10_putBytes_30 ?_
        obtain ⟨K9, eK9, h⟩ := bs h
        refine q_bast dX10_putBytes_31 eK9 ?_
        refine g_aload_n dX10_putBytes_32 rfl ?_
        refine g_dup dX10_putBytes_33 (by first | rfl | exact vrf_cat _) ?_
        obtain ⟨x10, ex10, h⟩ := bs h
        refine q_getI dX10_putBytes_34 fX10_62 ex10 ?_
        refine g_iconst (v := (nI 1)) dX10_putBytes_37 (by decide) ?_
        refine g_iadd dX10_putBytes_38 ?_
        obtain ⟨K11, eK11, h⟩ := bs h
        refine q_put (c := (RX10, TX10, 17)) dX10_putBytes_39 fX10_62 rfl rfl rfl (fun h => absurd h (by decide)) eK11 ?_
        refine q_iinc (w := (-8)) (ls' := [some (.ref v0), some (.int v1), some (.int (s2 + (-8)))]) dX10_putBytes_42 (by decide) rfl (by decide) rfl ?_
        refine g_goto (t := 3) dX10_putBytes_45 (by decide) ?_
        have hh := hin ((s2 + (-8)), K11) (Option.some.inj h).symm; (try dsimp only at hh); refine Go_le ?_ hh
        exact And.intro rfl (And.intro rfl (And.intro rfl (trivial)))
noncomputable def F_X10_putBytes (O : mO) (d : Nat) (a0 : Nat) (a1 : Int32) (K : mH) : Option (mH) :=
  (lupF (fun (q : Int32 × mH) => F_X10_putBytes_l3 O d a0 a1 q.1 q.2) FU ((nI 24), K)).bind fun r12 =>
  some r12
theorem e_X10_putBytes {O : mO} {d : Nat} {a0 : Nat} {a1 : Int32} {K : mH} {x : mH} (h : F_X10_putBytes O d a0 a1 K = some x) : ev O (d + 1) MX10_putBytes [.ref a0, .int a1] K = some (none, x) := by
  refine Rn_evx ?_
  show Go O (d + 1) MX10_putBytes 0 [some (.ref a0), some (.int a1), none] [] K _
  generalize hP : (fun (r : Option Value) (K' : mH) => (r, K') = (none, x)) = P
  have hret : ∀ K' : mH, K' = x → P none K' := by
    intro K' e
    subst hP e
    rfl
  clear hP
  unfold F_X10_putBytes at h
  refine g_bipush (v := (nI 24)) dX10_putBytes_0 (by decide) ?_
  refine g_istore_n (ls' := [some (.ref a0), some (.int a1), some (.int (nI 24))]) dX10_putBytes_2 (by decide) rfl ?_
  obtain ⟨r12, er12, h⟩ := bs h
  have hx : Go O (d + 1) MX10_putBytes 48 [none, none, none] [] r12 P := by
    exact g_return dX10_putBytes_48 rfl (hret _ (Option.some.inj h))
  refine Go_le ?_ (e_X10_putBytes_l3 (fun q e => by cases e; exact hx) FU ((nI 24), K) er12)
  exact And.intro rfl (And.intro rfl (And.intro rfl (trivial)))
noncomputable def F_X10_takeTape (O : mO) (d : Nat) (a0 : Nat) (K : mH) : Option (Int32 × mH) :=
  (gtI K a0 10 12).bind fun x1 =>
  (ptI K a0 10 12 (nI 0)).bind fun K2 =>
  some (x1, K2)
theorem e_X10_takeTape {O : mO} {d : Nat} {a0 : Nat} {K : mH} {r0 : Int32} {K0 : mH} (h : F_X10_takeTape O d a0 K = some (r0, K0)) : ev O (d + 1) MX10_takeTape [.ref a0] K = some (some (.int r0), K0) := by
  refine Rn_evx ?_
  show Go O (d + 1) MX10_takeTape 0 [some (.ref a0), none] [] K _
  generalize hP : (fun (r : Option Value) (K' : mH) => (r, K') = (some (.int r0), K0)) = P
  have hret : ∀ (r : Int32) (K' : mH), (r, K') = (r0, K0) → P (some (.int r)) K' := by
    intro r K' e
    cases e
    subst hP
    rfl
  clear hP
  unfold F_X10_takeTape at h
  refine g_aload_n dX10_takeTape_0 rfl ?_
  obtain ⟨x1, ex1, h⟩ := bs h
  refine q_getI dX10_takeTape_1 fX10_62 ex1 ?_
  refine g_istore_n (ls' := [some (.ref a0), some (.int x1)]) dX10_takeTape_4 (by decide) rfl ?_
  refine g_aload_n dX10_takeTape_5 rfl ?_
  refine g_iconst (v := (nI 0)) dX10_takeTape_6 (by decide) ?_
  obtain ⟨K2, eK2, h⟩ := bs h
  refine q_put (c := (RX10, TX10, 17)) dX10_takeTape_7 fX10_62 rfl rfl rfl (fun h => absurd h (by decide)) eK2 ?_
  refine g_iload_n dX10_takeTape_10 rfl ?_
  exact g_ireturn dX10_takeTape_11 rfl (by first | rfl | decide) (hret _ _ (Option.some.inj h))
noncomputable def F_X10_comes (O : mO) (d : Nat) (a0 : Nat) (a1 : Int32) (a2 : Int32) (a3 : Int32) (K : mH) : Option (Int32 × mH) :=
  (gtA K a0 10 10).bind fun x1 =>
  (toI (vc O d 2 MX2_whyNotDead x1 [.int a1, .int a2, .int a3] K)).bind fun p2 =>
  if p2.1 = 0 then
    (gtA p2.2 a0 10 10).bind fun x4 =>
    (toV (vc O d 2 MX2_addDead x4 [.int a1, .int a2, .int a3] p2.2)).bind fun K5 =>
    some ((nI 1), K5)
  else
    some ((nI 0), p2.2)
theorem e_X10_comes {O : mO} {d : Nat} {a0 : Nat} {a1 : Int32} {a2 : Int32} {a3 : Int32} {K : mH} {r0 : Int32} {K0 : mH} (h : F_X10_comes O d a0 a1 a2 a3 K = some (r0, K0)) : ev O (d + 1) MX10_comes [.ref a0, .int a1, .int a2, .int a3] K = some (some (.int r0), K0) := by
  refine Rn_evx ?_
  show Go O (d + 1) MX10_comes 0 [some (.ref a0), some (.int a1), some (.int a2), some (.int a3)] [] K _
  generalize hP : (fun (r : Option Value) (K' : mH) => (r, K') = (some (.int r0), K0)) = P
  have hret : ∀ (r : Int32) (K' : mH), (r, K') = (r0, K0) → P (some (.int r)) K' := by
    intro r K' e
    cases e
    subst hP
    rfl
  clear hP
  unfold F_X10_comes at h
  refine g_aload_n dX10_comes_0 rfl ?_
  obtain ⟨x1, ex1, h⟩ := bs h
  refine q_getA dX10_comes_1 fX10_89 ex1 ?_
  refine g_iload_n dX10_comes_4 rfl ?_
  refine g_iload_n dX10_comes_5 rfl ?_
  refine g_iload_n dX10_comes_6 rfl ?_
  obtain ⟨p2, ep2, h⟩ := bs h
  refine q_virt (Z := MX2_whyNotDead) (c := (RX2, TX2, 18)) (toI_s ep2) dX10_comes_7 mX10_149.1 mX10_149.2 (Nat.le_of_ble_eq_true rfl) rfl rfl (Nat.le_of_ble_eq_true rfl) (Nat.le_of_ble_eq_true rfl) rfl rfl ?_
  show Go O (d + 1) MX10_comes 10 [some (.ref a0), some (.int a1), some (.int a2), some (.int a3)] [.int p2.1] p2.2 P
  refine g_if_eq (t := 15) dX10_comes_10 (by decide) (fun c3 => ?_) (fun c3 => ?_)
  · rw [if_pos c3] at h
    refine g_aload_n dX10_comes_15 rfl ?_
    obtain ⟨x4, ex4, h⟩ := bs h
    refine q_getA dX10_comes_16 fX10_89 ex4 ?_
    refine g_iload_n dX10_comes_19 rfl ?_
    refine g_iload_n dX10_comes_20 rfl ?_
    refine g_iload_n dX10_comes_21 rfl ?_
    obtain ⟨K5, eK5, h⟩ := bs h
    refine q_virt (Z := MX2_addDead) (c := (RX2, TX2, 18)) (toV_s eK5) dX10_comes_22 mX10_153.1 mX10_153.2 (Nat.le_of_ble_eq_true rfl) rfl rfl (Nat.le_of_ble_eq_true rfl) (Nat.le_of_ble_eq_true rfl) rfl rfl ?_
    show Go O (d + 1) MX10_comes 25 [some (.ref a0), some (.int a1), some (.int a2), some (.int a3)] [] K5 P
    refine g_iconst (v := (nI 1)) dX10_comes_25 (by decide) ?_
    exact g_ireturn dX10_comes_26 rfl (by first | rfl | decide) (hret _ _ (Option.some.inj h))
  · rw [if_neg c3] at h
    refine g_iconst (v := (nI 0)) dX10_comes_13 (by decide) ?_
    exact g_ireturn dX10_comes_14 rfl (by first | rfl | decide) (hret _ _ (Option.some.inj h))
noncomputable def F_X10_drawOneAct (O : mO) (d : Nat) (a0 : Nat) (K : mH) : Option (mH) :=
  (gtA K a0 10 3).bind fun x1 =>
  (gtA K a0 10 9).bind fun x2 =>
  (gtI K x2 2 13).bind fun x3 =>
  (toI (vc O d 1 MX1_draw x1 [.int x3] K)).bind fun p4 =>
  (gtA p4.2 a0 10 3).bind fun x5 =>
  (gtA p4.2 a0 10 9).bind fun x6 =>
  (gtI p4.2 x6 2 11).bind fun x7 =>
  (toI (vc O d 1 MX1_draw x5 [.int x7] p4.2)).bind fun p8 =>
  (gtA p8.2 a0 10 3).bind fun x9 =>
  (toI (vc O d 1 MX1_draw x9 [.int (nI 3)] p8.2)).bind fun p10 =>
  if p10.1 = nI 0 then
    (gtA p10.2 a0 10 9).bind fun x12 =>
    (toI (vc O d 2 MX2_renewFor x12 [.int p4.1] p10.2)).bind fun p13 =>
    some p13.2
  else if p10.1 = nI 1 then
    (gtA p10.2 a0 10 9).bind fun x15 =>
    (toI (vc O d 2 MX2_lodgeIn x15 [.int p4.1, .int p8.1] p10.2)).bind fun p16 =>
    some p16.2
  else 
    (gtA p10.2 a0 10 9).bind fun x17 =>
    (toI (vc O d 2 MX2_knockBy x17 [.int p4.1] p10.2)).bind fun p18 =>
    some p18.2
theorem e_X10_drawOneAct {O : mO} {d : Nat} {a0 : Nat} {K : mH} {x : mH} (h : F_X10_drawOneAct O d a0 K = some x) : ev O (d + 1) MX10_drawOneAct [.ref a0] K = some (none, x) := by
  refine Rn_evx ?_
  show Go O (d + 1) MX10_drawOneAct 0 [some (.ref a0), none, none] [] K _
  generalize hP : (fun (r : Option Value) (K' : mH) => (r, K') = (none, x)) = P
  have hret : ∀ K' : mH, K' = x → P none K' := by
    intro K' e
    subst hP e
    rfl
  clear hP
  unfold F_X10_drawOneAct at h
  refine g_aload_n dX10_drawOneAct_0 rfl ?_
  obtain ⟨x1, ex1, h⟩ := bs h
  refine q_getA dX10_drawOneAct_1 fX10_33 ex1 ?_
  refine g_aload_n dX10_drawOneAct_4 rfl ?_
  obtain ⟨x2, ex2, h⟩ := bs h
  refine q_getA dX10_drawOneAct_5 fX10_93 ex2 ?_
  obtain ⟨x3, ex3, h⟩ := bs h
  refine q_getI dX10_drawOneAct_8 fX10_157 ex3 ?_
  obtain ⟨p4, ep4, h⟩ := bs h
  refine q_virt (Z := MX1_draw) (c := (RX1, TX1, 1)) (toI_s ep4) dX10_drawOneAct_11 mX10_351.1 mX10_351.2 (Nat.le_of_ble_eq_true rfl) rfl rfl (Nat.le_of_ble_eq_true rfl) (Nat.le_of_ble_eq_true rfl) rfl rfl ?_
  show Go O (d + 1) MX10_drawOneAct 14 [some (.ref a0), none, none] [.int p4.1] p4.2 P
  refine g_istore_n (ls' := [some (.ref a0), some (.int p4.1), none]) dX10_drawOneAct_14 (by decide) rfl ?_
  refine g_aload_n dX10_drawOneAct_15 rfl ?_
  obtain ⟨x5, ex5, h⟩ := bs h
  refine q_getA dX10_drawOneAct_16 fX10_33 ex5 ?_
  refine g_aload_n dX10_drawOneAct_19 rfl ?_
  obtain ⟨x6, ex6, h⟩ := bs h
  refine q_getA dX10_drawOneAct_20 fX10_93 ex6 ?_
  obtain ⟨x7, ex7, h⟩ := bs h
  refine q_getI dX10_drawOneAct_23 fX10_109 ex7 ?_
  obtain ⟨p8, ep8, h⟩ := bs h
  refine q_virt (Z := MX1_draw) (c := (RX1, TX1, 1)) (toI_s ep8) dX10_drawOneAct_26 mX10_351.1 mX10_351.2 (Nat.le_of_ble_eq_true rfl) rfl rfl (Nat.le_of_ble_eq_true rfl) (Nat.le_of_ble_eq_true rfl) rfl rfl ?_
  show Go O (d + 1) MX10_drawOneAct 29 [some (.ref a0), some (.int p4.1), none] [.int p8.1] p8.2 P
  refine g_istore_n (ls' := [some (.ref a0), some (.int p4.1), some (.int p8.1)]) dX10_drawOneAct_29 (by decide) rfl ?_
  refine g_aload_n dX10_drawOneAct_30 rfl ?_
  obtain ⟨x9, ex9, h⟩ := bs h
  refine q_getA dX10_drawOneAct_31 fX10_33 ex9 ?_
  refine g_iconst (v := (nI 3)) dX10_drawOneAct_34 (by decide) ?_
  obtain ⟨p10, ep10, h⟩ := bs h
  refine q_virt (Z := MX1_draw) (c := (RX1, TX1, 1)) (toI_s ep10) dX10_drawOneAct_35 mX10_351.1 mX10_351.2 (Nat.le_of_ble_eq_true rfl) rfl rfl (Nat.le_of_ble_eq_true rfl) (Nat.le_of_ble_eq_true rfl) rfl rfl ?_
  show Go O (d + 1) MX10_drawOneAct 38 [some (.ref a0), some (.int p4.1), some (.int p8.1)] [.int p10.1] p10.2 P
  by_cases c11 : p10.1 = nI 0
  · rw [if_pos c11] at h
    refine g_ls (t := 64) dX10_drawOneAct_38 (by decide) (by rw [c11]; decide) ?_
    refine g_aload_n dX10_drawOneAct_64 rfl ?_
    obtain ⟨x12, ex12, h⟩ := bs h
    refine q_getA dX10_drawOneAct_65 fX10_93 ex12 ?_
    refine g_iload_n dX10_drawOneAct_68 rfl ?_
    obtain ⟨p13, ep13, h⟩ := bs h
    refine q_virt (Z := MX2_renewFor) (c := (RX2, TX2, 18)) (toI_s ep13) dX10_drawOneAct_69 mX10_354.1 mX10_354.2 (Nat.le_of_ble_eq_true rfl) rfl rfl (Nat.le_of_ble_eq_true rfl) (Nat.le_of_ble_eq_true rfl) rfl rfl ?_
    show Go O (d + 1) MX10_drawOneAct 72 [some (.ref a0), some (.int p4.1), some (.int p8.1)] [.int p13.1] p13.2 P
    refine g_pop dX10_drawOneAct_72 (by first | rfl | exact vrf_cat _) ?_
    refine g_goto (t := 98) dX10_drawOneAct_73 (by decide) ?_
    exact g_return dX10_drawOneAct_98 rfl (hret _ (Option.some.inj h))
  rw [if_neg c11] at h
  by_cases c14 : p10.1 = nI 1
  · rw [if_pos c14] at h
    refine g_ls (t := 76) dX10_drawOneAct_38 (by decide) (by rw [c14]; decide) ?_
    refine g_aload_n dX10_drawOneAct_76 rfl ?_
    obtain ⟨x15, ex15, h⟩ := bs h
    refine q_getA dX10_drawOneAct_77 fX10_93 ex15 ?_
    refine g_iload_n dX10_drawOneAct_80 rfl ?_
    refine g_iload_n dX10_drawOneAct_81 rfl ?_
    obtain ⟨p16, ep16, h⟩ := bs h
    refine q_virt (Z := MX2_lodgeIn) (c := (RX2, TX2, 18)) (toI_s ep16) dX10_drawOneAct_82 mX10_357.1 mX10_357.2 (Nat.le_of_ble_eq_true rfl) rfl rfl (Nat.le_of_ble_eq_true rfl) (Nat.le_of_ble_eq_true rfl) rfl rfl ?_
    show Go O (d + 1) MX10_drawOneAct 85 [some (.ref a0), some (.int p4.1), some (.int p8.1)] [.int p16.1] p16.2 P
    refine g_pop dX10_drawOneAct_85 (by first | rfl | exact vrf_cat _) ?_
    refine g_goto (t := 98) dX10_drawOneAct_86 (by decide) ?_
    exact g_return dX10_drawOneAct_98 rfl (hret _ (Option.some.inj h))
  rw [if_neg c14] at h
  have ic11 := ts_ne (by decide) c11
  have ic14 := ts_ne (by decide) c14
  refine g_ls (t := 89) dX10_drawOneAct_38 (by decide) (by simp [Op.lookupswitch.offset, List.find?]; omega) ?_
  refine g_aload_n dX10_drawOneAct_89 rfl ?_
  obtain ⟨x17, ex17, h⟩ := bs h
  refine q_getA dX10_drawOneAct_90 fX10_93 ex17 ?_
  refine g_iload_n dX10_drawOneAct_93 rfl ?_
  obtain ⟨p18, ep18, h⟩ := bs h
  refine q_virt (Z := MX2_knockBy) (c := (RX2, TX2, 18)) (toI_s ep18) dX10_drawOneAct_94 mX10_360.1 mX10_360.2 (Nat.le_of_ble_eq_true rfl) rfl rfl (Nat.le_of_ble_eq_true rfl) (Nat.le_of_ble_eq_true rfl) rfl rfl ?_
  show Go O (d + 1) MX10_drawOneAct 97 [some (.ref a0), some (.int p4.1), some (.int p8.1)] [.int p18.1] p18.2 P
  refine g_pop dX10_drawOneAct_97 (by first | rfl | exact vrf_cat _) ?_
  exact g_return dX10_drawOneAct_98 rfl (hret _ (Option.some.inj h))
noncomputable def F_X10_act_j70 (O : mO) (d : Nat) (v1 : Nat) (v5 : Int32) (K : mH) : Option (Int32 × mH) :=
  if v5 < 0 then
    some (v5, K)
  else
    (toV (vc O d 3 MX3_commit v1 [] K)).bind fun K6 =>
    some (v5, K6)
theorem e_X10_act_j70 {O : mO} {d : Nat} {v1 : Nat} {v5 : Int32} {K : mH} {P : Option Value → mH → Prop} {x : Int32 × mH} (hret : ∀ (r : Int32) (K' : mH), (r, K') = x → P (some (.int r)) K') (h : F_X10_act_j70 O d v1 v5 K = some x) : Go O (d + 1) MX10_act 70 [none, some (.ref v1), none, none, none, some (.int v5)] [] K P := by
  unfold F_X10_act_j70 at h
  refine g_iload dX10_act_70 rfl ?_
  refine g_if_lt (t := 79) dX10_act_72 (by decide) (fun c5 => ?_) (fun c5 => ?_)
  · rw [if_pos c5] at h
    refine g_iload dX10_act_79 rfl ?_
    exact g_ireturn dX10_act_81 rfl (by first | rfl | decide) (hret _ _ (Option.some.inj h))
  · rw [if_neg c5] at h
    refine g_aload_n dX10_act_75 rfl ?_
    obtain ⟨K6, eK6, h⟩ := bs h
    refine q_virt (Z := MX3_commit) (c := (RX3, TX3, 3)) (toV_s eK6) dX10_act_76 mX10_367.1 mX10_367.2 (Nat.le_of_ble_eq_true rfl) rfl rfl (Nat.le_of_ble_eq_true rfl) (Nat.le_of_ble_eq_true rfl) rfl rfl ?_
    show Go O (d + 1) MX10_act 79 [none, some (.ref v1), none, none, none, some (.int v5)] [] K6 P
    refine g_iload dX10_act_79 rfl ?_
    exact g_ireturn dX10_act_81 rfl (by first | rfl | decide) (hret _ _ (Option.some.inj h))
noncomputable def F_X10_act (O : mO) (d : Nat) (a0 : Nat) (a1 : Nat) (a2 : Int32) (a3 : Int32) (a4 : Int32) (K : mH) : Option (Int32 × mH) :=
  (toV (vc O d 3 MX3_prepare a1 [.ref a0, .int a2] K)).bind fun K1 =>
  if a2 = nI 0 then
    (toI (vc O d 2 MX2_renewFor a0 [.int a3] K1)).bind fun p3 =>
    F_X10_act_j70 O d a1 p3.1 p3.2
  else if a2 = nI 1 then
    (toI (vc O d 2 MX2_lodgeIn a0 [.int a3, .int a4] K1)).bind fun p8 =>
    F_X10_act_j70 O d a1 p8.1 p8.2
  else if a2 = nI 2 then
    (toI (vc O d 2 MX2_knockBy a0 [.int a3] K1)).bind fun p10 =>
    F_X10_act_j70 O d a1 p10.1 p10.2
  else 
    (toI (vc O d 2 MX2_passYear a0 [] K1)).bind fun p11 =>
    F_X10_act_j70 O d a1 p11.1 p11.2
theorem e_X10_act {O : mO} {d : Nat} {a0 : Nat} {a1 : Nat} {a2 : Int32} {a3 : Int32} {a4 : Int32} {K : mH} {r0 : Int32} {K0 : mH} (h : F_X10_act O d a0 a1 a2 a3 a4 K = some (r0, K0)) : ev O (d + 1) MX10_act [.ref a0, .ref a1, .int a2, .int a3, .int a4] K = some (some (.int r0), K0) := by
  refine Rn_evx ?_
  show Go O (d + 1) MX10_act 0 [some (.ref a0), some (.ref a1), some (.int a2), some (.int a3), some (.int a4), none] [] K _
  generalize hP : (fun (r : Option Value) (K' : mH) => (r, K') = (some (.int r0), K0)) = P
  have hret : ∀ (r : Int32) (K' : mH), (r, K') = (r0, K0) → P (some (.int r)) K' := by
    intro r K' e
    cases e
    subst hP
    rfl
  clear hP
  unfold F_X10_act at h
  refine g_aload_n dX10_act_0 rfl ?_
  refine g_aload_n dX10_act_1 rfl ?_
  refine g_iload_n dX10_act_2 rfl ?_
  obtain ⟨K1, eK1, h⟩ := bs h
  refine q_virt (Z := MX3_prepare) (c := (RX3, TX3, 3)) (toV_s eK1) dX10_act_3 mX10_363.1 mX10_363.2 (Nat.le_of_ble_eq_true rfl) rfl rfl (Nat.le_of_ble_eq_true rfl) (Nat.le_of_ble_eq_true rfl) rfl rfl ?_
  show Go O (d + 1) MX10_act 6 [some (.ref a0), some (.ref a1), some (.int a2), some (.int a3), some (.int a4), none] [] K1 P
  refine g_iload_n dX10_act_6 rfl ?_
  by_cases c2 : a2 = nI 0
  · rw [if_pos c2] at h
    refine g_tsI (t := 32) (off := 25) dX10_act_7 (by rw [c2]; decide) (by rw [c2]; decide) (by decide) ?_
    refine g_aload_n dX10_act_32 rfl ?_
    refine g_iload_n dX10_act_33 rfl ?_
    obtain ⟨p3, ep3, h⟩ := bs h
    refine q_virt (Z := MX2_renewFor) (c := (RX2, TX2, 18)) (toI_s ep3) dX10_act_34 mX10_354.1 mX10_354.2 (Nat.le_of_ble_eq_true rfl) rfl rfl (Nat.le_of_ble_eq_true rfl) (Nat.le_of_ble_eq_true rfl) rfl rfl ?_
    show Go O (d + 1) MX10_act 37 [some (.ref a0), some (.ref a1), some (.int a2), some (.int a3), some (.int a4), none] [.int p3.1] p3.2 P
    refine g_istore (ls' := [some (.ref a0), some (.ref a1), some (.int a2), some (.int a3), some (.int a4), some (.int p3.1)]) dX10_act_37 (by decide) rfl ?_
    refine g_goto (t := 70) dX10_act_39 (by decide) ?_
    refine Go_le ?_ (e_X10_act_j70 hret h)
    exact And.intro rfl (And.intro rfl (trivial))
  rw [if_neg c2] at h
  by_cases c7 : a2 = nI 1
  · rw [if_pos c7] at h
    refine g_tsI (t := 42) (off := 35) dX10_act_7 (by rw [c7]; decide) (by rw [c7]; decide) (by decide) ?_
    refine g_aload_n dX10_act_42 rfl ?_
    refine g_iload_n dX10_act_43 rfl ?_
    refine g_iload dX10_act_44 rfl ?_
    obtain ⟨p8, ep8, h⟩ := bs h
    refine q_virt (Z := MX2_lodgeIn) (c := (RX2, TX2, 18)) (toI_s ep8) dX10_act_46 mX10_357.1 mX10_357.2 (Nat.le_of_ble_eq_true rfl) rfl rfl (Nat.le_of_ble_eq_true rfl) (Nat.le_of_ble_eq_true rfl) rfl rfl ?_
    show Go O (d + 1) MX10_act 49 [some (.ref a0), some (.ref a1), some (.int a2), some (.int a3), some (.int a4), none] [.int p8.1] p8.2 P
    refine g_istore (ls' := [some (.ref a0), some (.ref a1), some (.int a2), some (.int a3), some (.int a4), some (.int p8.1)]) dX10_act_49 (by decide) rfl ?_
    refine g_goto (t := 70) dX10_act_51 (by decide) ?_
    refine Go_le ?_ (e_X10_act_j70 hret h)
    exact And.intro rfl (And.intro rfl (trivial))
  rw [if_neg c7] at h
  by_cases c9 : a2 = nI 2
  · rw [if_pos c9] at h
    refine g_tsI (t := 54) (off := 47) dX10_act_7 (by rw [c9]; decide) (by rw [c9]; decide) (by decide) ?_
    refine g_aload_n dX10_act_54 rfl ?_
    refine g_iload_n dX10_act_55 rfl ?_
    obtain ⟨p10, ep10, h⟩ := bs h
    refine q_virt (Z := MX2_knockBy) (c := (RX2, TX2, 18)) (toI_s ep10) dX10_act_56 mX10_360.1 mX10_360.2 (Nat.le_of_ble_eq_true rfl) rfl rfl (Nat.le_of_ble_eq_true rfl) (Nat.le_of_ble_eq_true rfl) rfl rfl ?_
    show Go O (d + 1) MX10_act 59 [some (.ref a0), some (.ref a1), some (.int a2), some (.int a3), some (.int a4), none] [.int p10.1] p10.2 P
    refine g_istore (ls' := [some (.ref a0), some (.ref a1), some (.int a2), some (.int a3), some (.int a4), some (.int p10.1)]) dX10_act_59 (by decide) rfl ?_
    refine g_goto (t := 70) dX10_act_61 (by decide) ?_
    refine Go_le ?_ (e_X10_act_j70 hret h)
    exact And.intro rfl (And.intro rfl (trivial))
  rw [if_neg c9] at h
  refine g_tsO (t := 64) dX10_act_7 ?_ (by decide) ?_
  rotate_left
  · skip
    refine g_aload_n dX10_act_64 rfl ?_
    obtain ⟨p11, ep11, h⟩ := bs h
    refine q_virt (Z := MX2_passYear) (c := (RX2, TX2, 18)) (toI_s ep11) dX10_act_65 mX10_344.1 mX10_344.2 (Nat.le_of_ble_eq_true rfl) rfl rfl (Nat.le_of_ble_eq_true rfl) (Nat.le_of_ble_eq_true rfl) rfl rfl ?_
    show Go O (d + 1) MX10_act 68 [some (.ref a0), some (.ref a1), some (.int a2), some (.int a3), some (.int a4), none] [.int p11.1] p11.2 P
    refine g_istore (ls' := [some (.ref a0), some (.ref a1), some (.int a2), some (.int a3), some (.int a4), some (.int p11.1)]) dX10_act_68 (by decide) rfl ?_
    refine Go_le ?_ (e_X10_act_j70 hret h)
    exact And.intro rfl (And.intro rfl (trivial))
  have ic2 := ts_ne (by decide) c2
  have ic7 := ts_ne (by decide) c7
  have ic9 := ts_ne (by decide) c9
  omega
noncomputable def F_X2_copyFrom_l164 (O : mO) (d : Nat) (v0 : Nat) (v1 : Nat) (s2 : Int32) (K : mH) : Option ((Int32 × mH) ⊕ (mH)) :=
  if (nI 6) ≤ s2 then
    some (.inr K)
  else
    (gtA K v0 2 10).bind fun x47 =>
    (gtA K v1 2 10).bind fun x48 =>
    (rdR O K x48 s2).bind fun x49 =>
    (wrR K x47 s2 x49).bind fun K50 =>
    some (.inl ((s2 + nI 1), K50))
theorem e_X2_copyFrom_l164 {O : mO} {d : Nat} {v0 : Nat} {v1 : Nat} {P : Option Value → mH → Prop} {x : mH} (hex : ∀ q : mH, x = q → Go O (d + 1) MX2_copyFrom 188 [some (.ref v0), some (.ref v1), none] [] q P) : ∀ (f : Nat) (q : Int32 × mH), lupF (fun (q : Int32 × mH) => F_X2_copyFrom_l164 O d v0 v1 q.1 q.2) f q = some x → Go O (d + 1) MX2_copyFrom 164 [some (.ref v0), some (.ref v1), some (.int q.1)] [] q.2 P := by
  intro f
  induction f with
  | zero =>
    intro q h
    cases h
  | succ f ih =>
    intro q h
    obtain ⟨y, h, hy1, hy2⟩ := lupF_s h
    have hin : ∀ q : Int32 × mH, y = .inl q → Go O (d + 1) MX2_copyFrom 164 [some (.ref v0), some (.ref v1), some (.int q.1)] [] q.2 P := fun q e => ih q (hy1 q e)
    replace hex : ∀ q : mH, y = .inr q → Go O (d + 1) MX2_copyFrom 188 [some (.ref v0), some (.ref v1), none] [] q P := fun q e => hex q (hy2 q e).symm
    clear ih hy1 hy2
    obtain ⟨s2, K⟩ := q
    dsimp only at h ⊢
    unfold F_X2_copyFrom_l164 at h
    refine g_iload_n dX2_copyFrom_164 rfl ?_
    refine g_bipush (v := (nI 6)) dX2_copyFrom_165 (by decide) ?_
    refine g_ic_ge (t := 188) dX2_copyFrom_167 (by decide) (fun c46 => ?_) (fun c46 => ?_)
    · rw [if_pos c46] at h
      refine Go_le ?_ (hex K (Option.some.inj h).symm)
      exact And.intro rfl (And.intro rfl (trivial))
    · rw [if_neg c46] at h
      refine g_aload_n dX2_copyFrom_170 rfl ?_
      obtain ⟨x47, ex47, h⟩ := bs h
      refine q_getA dX2_copyFrom_171 fX2_41 ex47 ?_
      refine g_iload_n dX2_copyFrom_174 rfl ?_
      refine g_aload_n dX2_copyFrom_175 rfl ?_
      obtain ⟨x48, ex48, h⟩ := bs h
      refine q_getA dX2_copyFrom_176 fX2_41 ex48 ?_
      refine g_iload_n dX2_copyFrom_179 rfl ?_
      obtain ⟨x49, ex49, h⟩ := bs h
      refine q_aald dX2_copyFrom_180 ex49 ?_
      obtain ⟨K50, eK50, h⟩ := bs h
      refine q_aast (v := x49) dX2_copyFrom_181 eK50 ?_
      refine q_iinc (w := nI 1) (ls' := [some (.ref v0), some (.ref v1), some (.int (s2 + nI 1))]) dX2_copyFrom_182 (by decide) rfl (by decide) rfl ?_
      refine g_goto (t := 164) dX2_copyFrom_185 (by decide) ?_
      refine Go_le ?_ (hin ((s2 + nI 1), K50) (Option.some.inj h).symm)
      exact And.intro rfl (And.intro rfl (And.intro rfl (trivial)))
noncomputable def F_X2_copyFrom (O : mO) (d : Nat) (a0 : Nat) (a1 : Nat) (K : mH) : Option (mH) :=
  (gtA K a1 2 1).bind fun x1 =>
  (gtA K a0 2 1).bind fun x2 =>
  (gtA K a0 2 1).bind fun x3 =>
  (lnA O K x3).bind fun x4 =>
  (cpA K x1 (nI 0) x2 (nI 0) x4).bind fun K5 =>
  (gtA K5 a1 2 2).bind fun x6 =>
  (gtA K5 a0 2 2).bind fun x7 =>
  (gtA K5 a0 2 2).bind fun x8 =>
  (lnA O K5 x8).bind fun x9 =>
  (cpA K5 x6 (nI 0) x7 (nI 0) x9).bind fun K10 =>
  (gtA K10 a1 2 3).bind fun x11 =>
  (gtA K10 a0 2 3).bind fun x12 =>
  (gtA K10 a0 2 3).bind fun x13 =>
  (lnA O K10 x13).bind fun x14 =>
  (cpA K10 x11 (nI 0) x12 (nI 0) x14).bind fun K15 =>
  (gtA K15 a1 2 4).bind fun x16 =>
  (gtA K15 a0 2 4).bind fun x17 =>
  (gtA K15 a0 2 4).bind fun x18 =>
  (lnA O K15 x18).bind fun x19 =>
  (cpA K15 x16 (nI 0) x17 (nI 0) x19).bind fun K20 =>
  (gtA K20 a1 2 5).bind fun x21 =>
  (gtA K20 a0 2 5).bind fun x22 =>
  (gtA K20 a0 2 5).bind fun x23 =>
  (lnA O K20 x23).bind fun x24 =>
  (cpA K20 x21 (nI 0) x22 (nI 0) x24).bind fun K25 =>
  (gtA K25 a1 2 6).bind fun x26 =>
  (gtA K25 a0 2 6).bind fun x27 =>
  (gtA K25 a0 2 6).bind fun x28 =>
  (lnA O K25 x28).bind fun x29 =>
  (cpA K25 x26 (nI 0) x27 (nI 0) x29).bind fun K30 =>
  (gtA K30 a1 2 7).bind fun x31 =>
  (gtA K30 a0 2 7).bind fun x32 =>
  (gtA K30 a0 2 7).bind fun x33 =>
  (lnA O K30 x33).bind fun x34 =>
  (cpA K30 x31 (nI 0) x32 (nI 0) x34).bind fun K35 =>
  (gtA K35 a1 2 8).bind fun x36 =>
  (gtA K35 a0 2 8).bind fun x37 =>
  (gtA K35 a0 2 8).bind fun x38 =>
  (lnA O K35 x38).bind fun x39 =>
  (cpA K35 x36 (nI 0) x37 (nI 0) x39).bind fun K40 =>
  (gtA K40 a1 2 9).bind fun x41 =>
  (gtA K40 a0 2 9).bind fun x42 =>
  (gtA K40 a0 2 9).bind fun x43 =>
  (lnA O K40 x43).bind fun x44 =>
  (cpA K40 x41 (nI 0) x42 (nI 0) x44).bind fun K45 =>
  (lupF (fun (q : Int32 × mH) => F_X2_copyFrom_l164 O d a0 a1 q.1 q.2) FU ((nI 0), K45)).bind fun r51 =>
  (gtI r51 a1 2 11).bind fun x52 =>
  (ptI r51 a0 2 11 x52).bind fun K53 =>
  (gtI K53 a1 2 12).bind fun x54 =>
  (ptI K53 a0 2 12 x54).bind fun K55 =>
  (gtI K55 a1 2 13).bind fun x56 =>
  (ptI K55 a0 2 13 x56).bind fun K57 =>
  (gtI K57 a1 2 14).bind fun x58 =>
  (ptI K57 a0 2 14 x58).bind fun K59 =>
  (gtI K59 a1 2 15).bind fun x60 =>
  (ptI K59 a0 2 15 x60).bind fun K61 =>
  (gtI K61 a1 2 16).bind fun x62 =>
  (ptI K61 a0 2 16 x62).bind fun K63 =>
  (gtI K63 a1 2 17).bind fun x64 =>
  (ptI K63 a0 2 17 x64).bind fun K65 =>
  some K65
theorem e_X2_copyFrom {O : mO} {d : Nat} {a0 : Nat} {a1 : Nat} {K : mH} {x : mH} (h : F_X2_copyFrom O d a0 a1 K = some x) : ev O (d + 1) MX2_copyFrom [.ref a0, .ref a1] K = some (none, x) := by
  refine Rn_evx ?_
  show Go O (d + 1) MX2_copyFrom 0 [some (.ref a0), some (.ref a1), none] [] K _
  generalize hP : (fun (r : Option Value) (K' : mH) => (r, K') = (none, x)) = P
  have hret : ∀ K' : mH, K' = x → P none K' := by
    intro K' e
    subst hP e
    rfl
  clear hP
  unfold F_X2_copyFrom at h
  refine g_aload_n dX2_copyFrom_0 rfl ?_
  obtain ⟨x1, ex1, h⟩ := bs h
  refine q_getA dX2_copyFrom_1 fX2_9 ex1 ?_
  refine g_iconst (v := (nI 0)) dX2_copyFrom_4 (by decide) ?_
  refine g_aload_n dX2_copyFrom_5 rfl ?_
  obtain ⟨x2, ex2, h⟩ := bs h
  refine q_getA dX2_copyFrom_6 fX2_9 ex2 ?_
  refine g_iconst (v := (nI 0)) dX2_copyFrom_9 (by decide) ?_
  refine g_aload_n dX2_copyFrom_10 rfl ?_
  obtain ⟨x3, ex3, h⟩ := bs h
  refine q_getA dX2_copyFrom_11 fX2_9 ex3 ?_
  obtain ⟨x4, ex4, h⟩ := bs h
  refine q_alen dX2_copyFrom_14 ex4 ?_
  obtain ⟨K5, eK5, h⟩ := bs h
  refine q_cpy dX2_copyFrom_15 cpX2 (Nat.le_of_ble_eq_true rfl) eK5 ?_
  refine g_aload_n dX2_copyFrom_18 rfl ?_
  obtain ⟨x6, ex6, h⟩ := bs h
  refine q_getA dX2_copyFrom_19 fX2_15 ex6 ?_
  refine g_iconst (v := (nI 0)) dX2_copyFrom_22 (by decide) ?_
  refine g_aload_n dX2_copyFrom_23 rfl ?_
  obtain ⟨x7, ex7, h⟩ := bs h
  refine q_getA dX2_copyFrom_24 fX2_15 ex7 ?_
  refine g_iconst (v := (nI 0)) dX2_copyFrom_27 (by decide) ?_
  refine g_aload_n dX2_copyFrom_28 rfl ?_
  obtain ⟨x8, ex8, h⟩ := bs h
  refine q_getA dX2_copyFrom_29 fX2_15 ex8 ?_
  obtain ⟨x9, ex9, h⟩ := bs h
  refine q_alen dX2_copyFrom_32 ex9 ?_
  obtain ⟨K10, eK10, h⟩ := bs h
  refine q_cpy dX2_copyFrom_33 cpX2 (Nat.le_of_ble_eq_true rfl) eK10 ?_
  refine g_aload_n dX2_copyFrom_36 rfl ?_
  obtain ⟨x11, ex11, h⟩ := bs h
  refine q_getA dX2_copyFrom_37 fX2_18 ex11 ?_
  refine g_iconst (v := (nI 0)) dX2_copyFrom_40 (by decide) ?_
  refine g_aload_n dX2_copyFrom_41 rfl ?_
  obtain ⟨x12, ex12, h⟩ := bs h
  refine q_getA dX2_copyFrom_42 fX2_18 ex12 ?_
  refine g_iconst (v := (nI 0)) dX2_copyFrom_45 (by decide) ?_
  refine g_aload_n dX2_copyFrom_46 rfl ?_
  obtain ⟨x13, ex13, h⟩ := bs h
  refine q_getA dX2_copyFrom_47 fX2_18 ex13 ?_
  obtain ⟨x14, ex14, h⟩ := bs h
  refine q_alen dX2_copyFrom_50 ex14 ?_
  obtain ⟨K15, eK15, h⟩ := bs h
  refine q_cpy dX2_copyFrom_51 cpX2 (Nat.le_of_ble_eq_true rfl) eK15 ?_
  refine g_aload_n dX2_copyFrom_54 rfl ?_
  obtain ⟨x16, ex16, h⟩ := bs h
  refine q_getA dX2_copyFrom_55 fX2_21 ex16 ?_
  refine g_iconst (v := (nI 0)) dX2_copyFrom_58 (by decide) ?_
  refine g_aload_n dX2_copyFrom_59 rfl ?_
  obtain ⟨x17, ex17, h⟩ := bs h
  refine q_getA dX2_copyFrom_60 fX2_21 ex17 ?_
  refine g_iconst (v := (nI 0)) dX2_copyFrom_63 (by decide) ?_
  refine g_aload_n dX2_copyFrom_64 rfl ?_
  obtain ⟨x18, ex18, h⟩ := bs h
  refine q_getA dX2_copyFrom_65 fX2_21 ex18 ?_
  obtain ⟨x19, ex19, h⟩ := bs h
  refine q_alen dX2_copyFrom_68 ex19 ?_
  obtain ⟨K20, eK20, h⟩ := bs h
  refine q_cpy dX2_copyFrom_69 cpX2 (Nat.le_of_ble_eq_true rfl) eK20 ?_
  refine g_aload_n dX2_copyFrom_72 rfl ?_
  obtain ⟨x21, ex21, h⟩ := bs h
  refine q_getA dX2_copyFrom_73 fX2_24 ex21 ?_
  refine g_iconst (v := (nI 0)) dX2_copyFrom_76 (by decide) ?_
  refine g_aload_n dX2_copyFrom_77 rfl ?_
  obtain ⟨x22, ex22, h⟩ := bs h
  refine q_getA dX2_copyFrom_78 fX2_24 ex22 ?_
  refine g_iconst (v := (nI 0)) dX2_copyFrom_81 (by decide) ?_
  refine g_aload_n dX2_copyFrom_82 rfl ?_
  obtain ⟨x23, ex23, h⟩ := bs h
  refine q_getA dX2_copyFrom_83 fX2_24 ex23 ?_
  obtain ⟨x24, ex24, h⟩ := bs h
  refine q_alen dX2_copyFrom_86 ex24 ?_
  obtain ⟨K25, eK25, h⟩ := bs h
  refine q_cpy dX2_copyFrom_87 cpX2 (Nat.le_of_ble_eq_true rfl) eK25 ?_
  refine g_aload_n dX2_copyFrom_90 rfl ?_
  obtain ⟨x26, ex26, h⟩ := bs h
  refine q_getA dX2_copyFrom_91 fX2_27 ex26 ?_
  refine g_iconst (v := (nI 0)) dX2_copyFrom_94 (by decide) ?_
  refine g_aload_n dX2_copyFrom_95 rfl ?_
  obtain ⟨x27, ex27, h⟩ := bs h
  refine q_getA dX2_copyFrom_96 fX2_27 ex27 ?_
  refine g_iconst (v := (nI 0)) dX2_copyFrom_99 (by decide) ?_
  refine g_aload_n dX2_copyFrom_100 rfl ?_
  obtain ⟨x28, ex28, h⟩ := bs h
  refine q_getA dX2_copyFrom_101 fX2_27 ex28 ?_
  obtain ⟨x29, ex29, h⟩ := bs h
  refine q_alen dX2_copyFrom_104 ex29 ?_
  obtain ⟨K30, eK30, h⟩ := bs h
  refine q_cpy dX2_copyFrom_105 cpX2 (Nat.le_of_ble_eq_true rfl) eK30 ?_
  refine g_aload_n dX2_copyFrom_108 rfl ?_
  obtain ⟨x31, ex31, h⟩ := bs h
  refine q_getA dX2_copyFrom_109 fX2_30 ex31 ?_
  refine g_iconst (v := (nI 0)) dX2_copyFrom_112 (by decide) ?_
  refine g_aload_n dX2_copyFrom_113 rfl ?_
  obtain ⟨x32, ex32, h⟩ := bs h
  refine q_getA dX2_copyFrom_114 fX2_30 ex32 ?_
  refine g_iconst (v := (nI 0)) dX2_copyFrom_117 (by decide) ?_
  refine g_aload_n dX2_copyFrom_118 rfl ?_
  obtain ⟨x33, ex33, h⟩ := bs h
  refine q_getA dX2_copyFrom_119 fX2_30 ex33 ?_
  obtain ⟨x34, ex34, h⟩ := bs h
  refine q_alen dX2_copyFrom_122 ex34 ?_
  obtain ⟨K35, eK35, h⟩ := bs h
  refine q_cpy dX2_copyFrom_123 cpX2 (Nat.le_of_ble_eq_true rfl) eK35 ?_
  refine g_aload_n dX2_copyFrom_126 rfl ?_
  obtain ⟨x36, ex36, h⟩ := bs h
  refine q_getA dX2_copyFrom_127 fX2_33 ex36 ?_
  refine g_iconst (v := (nI 0)) dX2_copyFrom_130 (by decide) ?_
  refine g_aload_n dX2_copyFrom_131 rfl ?_
  obtain ⟨x37, ex37, h⟩ := bs h
  refine q_getA dX2_copyFrom_132 fX2_33 ex37 ?_
  refine g_iconst (v := (nI 0)) dX2_copyFrom_135 (by decide) ?_
  refine g_aload_n dX2_copyFrom_136 rfl ?_
  obtain ⟨x38, ex38, h⟩ := bs h
  refine q_getA dX2_copyFrom_137 fX2_33 ex38 ?_
  obtain ⟨x39, ex39, h⟩ := bs h
  refine q_alen dX2_copyFrom_140 ex39 ?_
  obtain ⟨K40, eK40, h⟩ := bs h
  refine q_cpy dX2_copyFrom_141 cpX2 (Nat.le_of_ble_eq_true rfl) eK40 ?_
  refine g_aload_n dX2_copyFrom_144 rfl ?_
  obtain ⟨x41, ex41, h⟩ := bs h
  refine q_getA dX2_copyFrom_145 fX2_36 ex41 ?_
  refine g_iconst (v := (nI 0)) dX2_copyFrom_148 (by decide) ?_
  refine g_aload_n dX2_copyFrom_149 rfl ?_
  obtain ⟨x42, ex42, h⟩ := bs h
  refine q_getA dX2_copyFrom_150 fX2_36 ex42 ?_
  refine g_iconst (v := (nI 0)) dX2_copyFrom_153 (by decide) ?_
  refine g_aload_n dX2_copyFrom_154 rfl ?_
  obtain ⟨x43, ex43, h⟩ := bs h
  refine q_getA dX2_copyFrom_155 fX2_36 ex43 ?_
  obtain ⟨x44, ex44, h⟩ := bs h
  refine q_alen dX2_copyFrom_158 ex44 ?_
  obtain ⟨K45, eK45, h⟩ := bs h
  refine q_cpy dX2_copyFrom_159 cpX2 (Nat.le_of_ble_eq_true rfl) eK45 ?_
  refine g_iconst (v := (nI 0)) dX2_copyFrom_162 (by decide) ?_
  refine g_istore_n (ls' := [some (.ref a0), some (.ref a1), some (.int (nI 0))]) dX2_copyFrom_163 (by decide) rfl ?_
  obtain ⟨r51, er51, h⟩ := bs h
  have hx : Go O (d + 1) MX2_copyFrom 188 [some (.ref a0), some (.ref a1), none] [] r51 P := by
    refine g_aload_n dX2_copyFrom_188 rfl ?_
    refine g_aload_n dX2_copyFrom_189 rfl ?_
    obtain ⟨x52, ex52, h⟩ := bs h
    refine q_getI dX2_copyFrom_190 fX2_45 ex52 ?_
    obtain ⟨K53, eK53, h⟩ := bs h
    refine q_put (c := (RX2, TX2, 18)) dX2_copyFrom_193 fX2_45 rfl rfl rfl (fun h => absurd h (by decide)) eK53 ?_
    refine g_aload_n dX2_copyFrom_196 rfl ?_
    refine g_aload_n dX2_copyFrom_197 rfl ?_
    obtain ⟨x54, ex54, h⟩ := bs h
    refine q_getI dX2_copyFrom_198 fX2_49 ex54 ?_
    obtain ⟨K55, eK55, h⟩ := bs h
    refine q_put (c := (RX2, TX2, 18)) dX2_copyFrom_201 fX2_49 rfl rfl rfl (fun h => absurd h (by decide)) eK55 ?_
    refine g_aload_n dX2_copyFrom_204 rfl ?_
    refine g_aload_n dX2_copyFrom_205 rfl ?_
    obtain ⟨x56, ex56, h⟩ := bs h
    refine q_getI dX2_copyFrom_206 fX2_52 ex56 ?_
    obtain ⟨K57, eK57, h⟩ := bs h
    refine q_put (c := (RX2, TX2, 18)) dX2_copyFrom_209 fX2_52 rfl rfl rfl (fun h => absurd h (by decide)) eK57 ?_
    refine g_aload_n dX2_copyFrom_212 rfl ?_
    refine g_aload_n dX2_copyFrom_213 rfl ?_
    obtain ⟨x58, ex58, h⟩ := bs h
    refine q_getI dX2_copyFrom_214 fX2_55 ex58 ?_
    obtain ⟨K59, eK59, h⟩ := bs h
    refine q_put (c := (RX2, TX2, 18)) dX2_copyFrom_217 fX2_55 rfl rfl rfl (fun h => absurd h (by decide)) eK59 ?_
    refine g_aload_n dX2_copyFrom_220 rfl ?_
    refine g_aload_n dX2_copyFrom_221 rfl ?_
    obtain ⟨x60, ex60, h⟩ := bs h
    refine q_getI dX2_copyFrom_222 fX2_58 ex60 ?_
    obtain ⟨K61, eK61, h⟩ := bs h
    refine q_put (c := (RX2, TX2, 18)) dX2_copyFrom_225 fX2_58 rfl rfl rfl (fun h => absurd h (by decide)) eK61 ?_
    refine g_aload_n dX2_copyFrom_228 rfl ?_
    refine g_aload_n dX2_copyFrom_229 rfl ?_
    obtain ⟨x62, ex62, h⟩ := bs h
    refine q_getI dX2_copyFrom_230 fX2_61 ex62 ?_
    obtain ⟨K63, eK63, h⟩ := bs h
    refine q_put (c := (RX2, TX2, 18)) dX2_copyFrom_233 fX2_61 rfl rfl rfl (fun h => absurd h (by decide)) eK63 ?_
    refine g_aload_n dX2_copyFrom_236 rfl ?_
    refine g_aload_n dX2_copyFrom_237 rfl ?_
    obtain ⟨x64, ex64, h⟩ := bs h
    refine q_getI dX2_copyFrom_238 fX2_64 ex64 ?_
    obtain ⟨K65, eK65, h⟩ := bs h
    refine q_put (c := (RX2, TX2, 18)) dX2_copyFrom_241 fX2_64 rfl rfl rfl (fun h => absurd h (by decide)) eK65 ?_
    exact g_return dX2_copyFrom_244 rfl (hret _ (Option.some.inj h))
  refine Go_le ?_ (e_X2_copyFrom_l164 (fun q e => by cases e; exact hx) FU ((nI 0), K45) er51)
  exact And.intro rfl (And.intro rfl (And.intro rfl (trivial)))
noncomputable def F_X2_strangers_l13 (O : mO) (d : Nat) (v0 : Nat) (v1 : Int32) (s2 : Int32) (s3 : Int32) (K : mH) : Option ((Int32 × Int32 × mH) ⊕ (Int32 × mH)) :=
  (gtI K v0 2 15).bind fun x2 =>
  if x2 ≤ s3 then
    some (.inr (s2, K))
  else
    (gtA K v0 2 7).bind fun x4 =>
    (rdI O K x4 s3).bind fun x5 =>
    (toI (vc O d 2 MX2_inAfter v0 [.int x5] K)).bind fun p6 =>
    (gtA p6.2 v0 2 8).bind fun x7 =>
    (rdI O p6.2 x7 s3).bind fun x8 =>
    some (.inl ((s2 &&& (if x8 = (nI 1) then (v1 &&& (p6.1 ^^^ (-1))) else p6.1)), (s3 + nI 1), p6.2))
theorem e_X2_strangers_l13 {O : mO} {d : Nat} {v0 : Nat} {v1 : Int32} {P : Option Value → mH → Prop} {x : Int32 × mH} (hex : ∀ q : Int32 × mH, x = q → Go O (d + 1) MX2_strangers 63 [none, none, some (.int q.1), none, none] [] q.2 P) : ∀ (f : Nat) (q : Int32 × Int32 × mH), lupF (fun (q : Int32 × Int32 × mH) => F_X2_strangers_l13 O d v0 v1 q.1 q.2.1 q.2.2) f q = some x → Go O (d + 1) MX2_strangers 13 [some (.ref v0), some (.int v1), some (.int q.1), some (.int q.2.1), none] [] q.2.2 P := by
  intro f
  induction f with
  | zero =>
    intro q h
    cases h
  | succ f ih =>
    intro q h
    obtain ⟨y, h, hy1, hy2⟩ := lupF_s h
    have hin : ∀ q : Int32 × Int32 × mH, y = .inl q → Go O (d + 1) MX2_strangers 13 [some (.ref v0), some (.int v1), some (.int q.1), some (.int q.2.1), none] [] q.2.2 P := fun q e => ih q (hy1 q e)
    replace hex : ∀ q : Int32 × mH, y = .inr q → Go O (d + 1) MX2_strangers 63 [none, none, some (.int q.1), none, none] [] q.2 P := fun q e => hex q (hy2 q e).symm
    clear ih hy1 hy2
    obtain ⟨s2, s3, K⟩ := q
    dsimp only at h ⊢
    unfold F_X2_strangers_l13 at h
    refine g_iload_n dX2_strangers_13 rfl ?_
    refine g_aload_n dX2_strangers_14 rfl ?_
    obtain ⟨x2, ex2, h⟩ := bs h
    refine q_getI dX2_strangers_15 fX2_58 ex2 ?_
    refine g_ic_ge (t := 63) dX2_strangers_18 (by decide) (fun c3 => ?_) (fun c3 => ?_)
    · rw [if_pos c3] at h
      refine Go_le ?_ (hex (s2, K) (Option.some.inj h).symm)
      exact And.intro rfl (trivial)
    · rw [if_neg c3] at h
      refine g_aload_n dX2_strangers_21 rfl ?_
      refine g_aload_n dX2_strangers_22 rfl ?_
      obtain ⟨x4, ex4, h⟩ := bs h
      refine q_getA dX2_strangers_23 fX2_30 ex4 ?_
      refine g_iload_n dX2_strangers_26 rfl ?_
      obtain ⟨x5, ex5, h⟩ := bs h
      refine q_iald dX2_strangers_27 ex5 ?_
      obtain ⟨p6, ep6, h⟩ := bs h
      refine q_virt (Z := MX2_inAfter) (c := (RX2, TX2, 18)) (toI_s ep6) dX2_strangers_28 mX2_100.1 mX2_100.2 (Nat.le_of_ble_eq_true rfl) rfl rfl (Nat.le_of_ble_eq_true rfl) (Nat.le_of_ble_eq_true rfl) rfl rfl ?_
      show Go O (d + 1) MX2_strangers 31 [some (.ref v0), some (.int v1), some (.int s2), some (.int s3), none] [.int p6.1] p6.2 P
      refine g_istore (ls' := [some (.ref v0), some (.int v1), some (.int s2), some (.int s3), some (.int p6.1)]) dX2_strangers_31 (by decide) rfl ?_
      refine g_iload_n dX2_strangers_33 rfl ?_
      refine g_aload_n dX2_strangers_34 rfl ?_
      obtain ⟨x7, ex7, h⟩ := bs h
      refine q_getA dX2_strangers_35 fX2_33 ex7 ?_
      refine g_iload_n dX2_strangers_38 rfl ?_
      obtain ⟨x8, ex8, h⟩ := bs h
      refine q_iald dX2_strangers_39 ex8 ?_
      refine g_iconst (v := (nI 1)) dX2_strangers_40 (by decide) ?_
      have hj : Go O (d + 1) MX2_strangers 55 [some (.ref v0), some (.int v1), none, some (.int s3), none] [.int (if x8 = (nI 1) then (v1 &&& (p6.1 ^^^ (-1))) else p6.1), .int s2] p6.2 P := by
        refine g_iand dX2_strangers_55 ?_
        refine g_istore_n (ls' := [some (.ref v0), some (.int v1), some (.int (s2 &&& (if x8 = (nI 1) then (v1 &&& (p6.1 ^^^ (-1))) else p6.1))), some (.int s3), none]) dX2_strangers_56 (by decide) rfl ?_
        refine q_iinc (w := nI 1) (ls' := [some (.ref v0), some (.int v1), some (.int (s2 &&& (if x8 = (nI 1) then (v1 &&& (p6.1 ^^^ (-1))) else p6.1))), some (.int (s3 + nI 1)), none]) dX2_strangers_57 (by decide) rfl (by decide) rfl ?_
        refine g_goto (t := 13) dX2_strangers_60 (by decide) ?_
        have hh := hin ((s2 &&& (if x8 = (nI 1) then (v1 &&& (p6.1 ^^^ (-1))) else p6.1)), (s3 + nI 1), p6.2) (Option.some.inj h).symm; (try dsimp only at hh); refine Go_le ?_ hh
        exact And.intro rfl (And.intro rfl (And.intro rfl (And.intro rfl (trivial))))
      refine g_ic_ne (t := 53) dX2_strangers_41 (by decide) (fun c9 => ?_) (fun c9 => ?_)
      · skip
        refine g_iload dX2_strangers_53 rfl ?_
        have hk : Go O (d + 1) MX2_strangers 55 [some (.ref v0), some (.int v1), none, some (.int s3), none] [.int p6.1, .int s2] p6.2 P := by simpa only [if_neg c9] using hj
        refine Go_le ?_ hk
        exact And.intro rfl (And.intro rfl (And.intro rfl (trivial)))
      · skip
        refine g_iload_n dX2_strangers_44 rfl ?_
        refine g_iload dX2_strangers_45 rfl ?_
        refine g_iconst (v := (-1)) dX2_strangers_47 (by decide) ?_
        refine g_ixor dX2_strangers_48 ?_
        refine g_iand dX2_strangers_49 ?_
        refine g_goto (t := 55) dX2_strangers_50 (by decide) ?_
        have hk : Go O (d + 1) MX2_strangers 55 [some (.ref v0), some (.int v1), none, some (.int s3), none] [.int (v1 &&& (p6.1 ^^^ (-1))), .int s2] p6.2 P := by simpa only [if_pos c9] using hj
        refine Go_le ?_ hk
        exact And.intro rfl (And.intro rfl (And.intro rfl (trivial)))
noncomputable def F_X2_strangers (O : mO) (d : Nat) (a0 : Nat) (K : mH) : Option (Int32 × mH) :=
  (gtI K a0 2 13).bind fun x1 =>
  (lupF (fun (q : Int32 × Int32 × mH) => F_X2_strangers_l13 O d a0 (((nI 1) <<< (x1 &&& 31)) - (nI 1)) q.1 q.2.1 q.2.2) FU ((((nI 1) <<< (x1 &&& 31)) - (nI 1)), (nI 0), K)).bind fun r10 =>
  some (r10.1, r10.2)
theorem e_X2_strangers {O : mO} {d : Nat} {a0 : Nat} {K : mH} {r0 : Int32} {K0 : mH} (h : F_X2_strangers O d a0 K = some (r0, K0)) : ev O (d + 1) MX2_strangers [.ref a0] K = some (some (.int r0), K0) := by
  refine Rn_evx ?_
  show Go O (d + 1) MX2_strangers 0 [some (.ref a0), none, none, none, none] [] K _
  generalize hP : (fun (r : Option Value) (K' : mH) => (r, K') = (some (.int r0), K0)) = P
  have hret : ∀ (r : Int32) (K' : mH), (r, K') = (r0, K0) → P (some (.int r)) K' := by
    intro r K' e
    cases e
    subst hP
    rfl
  clear hP
  unfold F_X2_strangers at h
  refine g_iconst (v := (nI 1)) dX2_strangers_0 (by decide) ?_
  refine g_aload_n dX2_strangers_1 rfl ?_
  obtain ⟨x1, ex1, h⟩ := bs h
  refine q_getI dX2_strangers_2 fX2_52 ex1 ?_
  refine g_ishl dX2_strangers_5 ?_
  refine g_iconst (v := (nI 1)) dX2_strangers_6 (by decide) ?_
  refine g_isub dX2_strangers_7 ?_
  refine g_istore_n (ls' := [some (.ref a0), some (.int (((nI 1) <<< (x1 &&& 31)) - (nI 1))), none, none, none]) dX2_strangers_8 (by decide) rfl ?_
  refine g_iload_n dX2_strangers_9 rfl ?_
  refine g_istore_n (ls' := [some (.ref a0), some (.int (((nI 1) <<< (x1 &&& 31)) - (nI 1))), some (.int (((nI 1) <<< (x1 &&& 31)) - (nI 1))), none, none]) dX2_strangers_10 (by decide) rfl ?_
  refine g_iconst (v := (nI 0)) dX2_strangers_11 (by decide) ?_
  refine g_istore_n (ls' := [some (.ref a0), some (.int (((nI 1) <<< (x1 &&& 31)) - (nI 1))), some (.int (((nI 1) <<< (x1 &&& 31)) - (nI 1))), some (.int (nI 0)), none]) dX2_strangers_12 (by decide) rfl ?_
  obtain ⟨r10, er10, h⟩ := bs h
  have hx : Go O (d + 1) MX2_strangers 63 [none, none, some (.int r10.1), none, none] [] r10.2 P := by
    refine g_iload_n dX2_strangers_63 rfl ?_
    exact g_ireturn dX2_strangers_64 rfl (by first | rfl | decide) (hret _ _ (Option.some.inj h))
  refine Go_le ?_ (e_X2_strangers_l13 (fun q e => by cases e; exact hx) FU ((((nI 1) <<< (x1 &&& 31)) - (nI 1)), (nI 0), K) er10)
  exact And.intro rfl (And.intro rfl (And.intro rfl (And.intro rfl (trivial))))
noncomputable def F_X2_bill_l4 (O : mO) (d : Nat) (v0 : Nat) (v1 : Int32) (s2 : Int32) (s3 : Int32) (K : mH) : Option ((Int32 × Int32 × mH) ⊕ (Int32 × mH)) :=
  (gtI K v0 2 13).bind fun x1 =>
  if x1 ≤ s3 then
    some (.inr (s2, K))
  else
    (gtA K v0 2 3).bind fun x3 =>
    (rdI O K x3 s3).bind fun x4 =>
    if x4 = v1 then
      (toI (vc O d 2 MX2_isIn v0 [.int s3] K)).bind fun p7 =>
      if p7.1 = 0 then
        some (.inl (s2, (s3 + nI 1), p7.2))
      else
        (toR (vc O d 2 MX2_inForce v0 [] p7.2)).bind fun p10 =>
        (toI (vc O d 2 MX2_told v0 [va_rf p10.1, .int (nI 0), .int s3] p10.2)).bind fun p11 =>
        some (.inl ((s2 + p11.1), (s3 + nI 1), p11.2))
    else
      some (.inl (s2, (s3 + nI 1), K))
theorem e_X2_bill_l4 {O : mO} {d : Nat} {v0 : Nat} {v1 : Int32} {P : Option Value → mH → Prop} {x : Int32 × mH} (hex : ∀ q : Int32 × mH, x = q → Go O (d + 1) MX2_bill 49 [none, none, some (.int q.1), none] [] q.2 P) : ∀ (f : Nat) (q : Int32 × Int32 × mH), lupF (fun (q : Int32 × Int32 × mH) => F_X2_bill_l4 O d v0 v1 q.1 q.2.1 q.2.2) f q = some x → Go O (d + 1) MX2_bill 4 [some (.ref v0), some (.int v1), some (.int q.1), some (.int q.2.1)] [] q.2.2 P := by
  intro f
  induction f with
  | zero =>
    intro q h
    cases h
  | succ f ih =>
    intro q h
    obtain ⟨y, h, hy1, hy2⟩ := lupF_s h
    have hin : ∀ q : Int32 × Int32 × mH, y = .inl q → Go O (d + 1) MX2_bill 4 [some (.ref v0), some (.int v1), some (.int q.1), some (.int q.2.1)] [] q.2.2 P := fun q e => ih q (hy1 q e)
    replace hex : ∀ q : Int32 × mH, y = .inr q → Go O (d + 1) MX2_bill 49 [none, none, some (.int q.1), none] [] q.2 P := fun q e => hex q (hy2 q e).symm
    clear ih hy1 hy2
    obtain ⟨s2, s3, K⟩ := q
    dsimp only at h ⊢
    unfold F_X2_bill_l4 at h
    refine g_iload_n dX2_bill_4 rfl ?_
    refine g_aload_n dX2_bill_5 rfl ?_
    obtain ⟨x1, ex1, h⟩ := bs h
    refine q_getI dX2_bill_6 fX2_52 ex1 ?_
    refine g_ic_ge (t := 49) dX2_bill_9 (by decide) (fun c2 => ?_) (fun c2 => ?_)
    · rw [if_pos c2] at h
      refine Go_le ?_ (hex (s2, K) (Option.some.inj h).symm)
      exact And.intro rfl (trivial)
    · rw [if_neg c2] at h
      refine g_aload_n dX2_bill_12 rfl ?_
      obtain ⟨x3, ex3, h⟩ := bs h
      refine q_getA dX2_bill_13 fX2_18 ex3 ?_
      refine g_iload_n dX2_bill_16 rfl ?_
      obtain ⟨x4, ex4, h⟩ := bs h
      refine q_iald dX2_bill_17 ex4 ?_
      refine g_iload_n dX2_bill_18 rfl ?_
      refine g_ic_ne (t := 43) dX2_bill_19 (by decide) (fun c6 => ?_) (fun c6 => ?_)
      · rw [if_neg c6] at h
        refine q_iinc (w := nI 1) (ls' := [some (.ref v0), some (.int v1), some (.int s2), some (.int (s3 + nI 1))]) dX2_bill_43 (by decide) rfl (by decide) rfl ?_
        refine g_goto (t := 4) dX2_bill_46 (by decide) ?_
        refine Go_le ?_ (hin (s2, (s3 + nI 1), K) (Option.some.inj h).symm)
        exact And.intro rfl (And.intro rfl (And.intro rfl (And.intro rfl (trivial))))
      · rw [if_pos c6] at h
        refine g_aload_n dX2_bill_22 rfl ?_
        refine g_iload_n dX2_bill_23 rfl ?_
        obtain ⟨p7, ep7, h⟩ := bs h
        refine q_virt (Z := MX2_isIn) (c := (RX2, TX2, 18)) (toI_s ep7) dX2_bill_24 mX2_103.1 mX2_103.2 (Nat.le_of_ble_eq_true rfl) rfl rfl (Nat.le_of_ble_eq_true rfl) (Nat.le_of_ble_eq_true rfl) rfl rfl ?_
        show Go O (d + 1) MX2_bill 27 [some (.ref v0), some (.int v1), some (.int s2), some (.int s3)] [.int p7.1] p7.2 P
        refine g_if_eq (t := 43) dX2_bill_27 (by decide) (fun c9 => ?_) (fun c9 => ?_)
        · rw [if_pos c9] at h
          refine q_iinc (w := nI 1) (ls' := [some (.ref v0), some (.int v1), some (.int s2), some (.int (s3 + nI 1))]) dX2_bill_43 (by decide) rfl (by decide) rfl ?_
          refine g_goto (t := 4) dX2_bill_46 (by decide) ?_
          refine Go_le ?_ (hin (s2, (s3 + nI 1), p7.2) (Option.some.inj h).symm)
          exact And.intro rfl (And.intro rfl (And.intro rfl (And.intro rfl (trivial))))
        · rw [if_neg c9] at h
          refine g_iload_n dX2_bill_30 rfl ?_
          refine g_aload_n dX2_bill_31 rfl ?_
          refine g_aload_n dX2_bill_32 rfl ?_
          obtain ⟨p10, ep10, h⟩ := bs h
          refine q_virt (Z := MX2_inForce) (c := (RX2, TX2, 18)) (toR_s ep10) dX2_bill_33 mX2_106.1 mX2_106.2 (Nat.le_of_ble_eq_true rfl) rfl rfl (Nat.le_of_ble_eq_true rfl) (Nat.le_of_ble_eq_true rfl) rfl rfl ?_
          show Go O (d + 1) MX2_bill 36 [some (.ref v0), some (.int v1), some (.int s2), some (.int s3)] [va_rf p10.1, .ref v0, .int s2] p10.2 P
          refine g_iconst (v := (nI 0)) dX2_bill_36 (by decide) ?_
          refine g_iload_n dX2_bill_37 rfl ?_
          obtain ⟨p11, ep11, h⟩ := bs h
          refine q_virt (Z := MX2_told) (c := (RX2, TX2, 18)) (toI_s ep11) dX2_bill_38 mX2_110.1 mX2_110.2 (Nat.le_of_ble_eq_true rfl) rfl rfl (Nat.le_of_ble_eq_true rfl) (by cases p10.1 <;> exact Nat.le_of_ble_eq_true rfl) rfl rfl ?_
          show Go O (d + 1) MX2_bill 41 [some (.ref v0), some (.int v1), some (.int s2), some (.int s3)] [.int p11.1, .int s2] p11.2 P
          refine g_iadd dX2_bill_41 ?_
          refine g_istore_n (ls' := [some (.ref v0), some (.int v1), some (.int (s2 + p11.1)), some (.int s3)]) dX2_bill_42 (by decide) rfl ?_
          refine q_iinc (w := nI 1) (ls' := [some (.ref v0), some (.int v1), some (.int (s2 + p11.1)), some (.int (s3 + nI 1))]) dX2_bill_43 (by decide) rfl (by decide) rfl ?_
          refine g_goto (t := 4) dX2_bill_46 (by decide) ?_
          refine Go_le ?_ (hin ((s2 + p11.1), (s3 + nI 1), p11.2) (Option.some.inj h).symm)
          exact And.intro rfl (And.intro rfl (And.intro rfl (And.intro rfl (trivial))))
noncomputable def F_X2_bill (O : mO) (d : Nat) (a0 : Nat) (a1 : Int32) (K : mH) : Option (Int32 × mH) :=
  (lupF (fun (q : Int32 × Int32 × mH) => F_X2_bill_l4 O d a0 a1 q.1 q.2.1 q.2.2) FU ((nI 0), (nI 0), K)).bind fun r12 =>
  some (r12.1, r12.2)
theorem e_X2_bill {O : mO} {d : Nat} {a0 : Nat} {a1 : Int32} {K : mH} {r0 : Int32} {K0 : mH} (h : F_X2_bill O d a0 a1 K = some (r0, K0)) : ev O (d + 1) MX2_bill [.ref a0, .int a1] K = some (some (.int r0), K0) := by
  refine Rn_evx ?_
  show Go O (d + 1) MX2_bill 0 [some (.ref a0), some (.int a1), none, none] [] K _
  generalize hP : (fun (r : Option Value) (K' : mH) => (r, K') = (some (.int r0), K0)) = P
  have hret : ∀ (r : Int32) (K' : mH), (r, K') = (r0, K0) → P (some (.int r)) K' := by
    intro r K' e
    cases e
    subst hP
    rfl
  clear hP
  unfold F_X2_bill at h
  refine g_iconst (v := (nI 0)) dX2_bill_0 (by decide) ?_
  refine g_istore_n (ls' := [some (.ref a0), some (.int a1), some (.int (nI 0)), none]) dX2_bill_1 (by decide) rfl ?_
  refine g_iconst (v := (nI 0)) dX2_bill_2 (by decide) ?_
  refine g_istore_n (ls' := [some (.ref a0), some (.int a1), some (.int (nI 0)), some (.int (nI 0))]) dX2_bill_3 (by decide) rfl ?_
  obtain ⟨r12, er12, h⟩ := bs h
  have hx : Go O (d + 1) MX2_bill 49 [none, none, some (.int r12.1), none] [] r12.2 P := by
    refine g_iload_n dX2_bill_49 rfl ?_
    exact g_ireturn dX2_bill_50 rfl (by first | rfl | decide) (hret _ _ (Option.some.inj h))
  refine Go_le ?_ (e_X2_bill_l4 (fun q e => by cases e; exact hx) FU ((nI 0), (nI 0), K) er12)
  exact And.intro rfl (And.intro rfl (And.intro rfl (And.intro rfl (trivial))))
noncomputable def F_X2_whyNotDead (O : mO) (d : Nat) (a0 : Nat) (a1 : Int32) (a2 : Int32) (a3 : Int32) (K : mH) : Option (Int32 × mH) :=
  if a3 < (nI 1) then
    some ((-1), K)
  else
    if a3 ≤ (nI 99) then
      (toI (vc O d 2 MX2_hasFamily a0 [.int a1] K)).bind fun p3 =>
      if p3.1 = 0 then
        some ((-2), p3.2)
      else
        (toI (vc O d 2 MX2_hasVault a0 [.int a2] p3.2)).bind fun p5 =>
        if p5.1 = 0 then
          some ((-2), p5.2)
        else
          (toI (vc O d 2 MX2_freeBeds a0 [.int a2] p5.2)).bind fun p7 =>
          if (nI 1) ≤ p7.1 then
            (gtI p7.2 a0 2 13).bind fun x9 =>
            some ((if x9 < (nI 8) then (nI 0) else (-5)), p7.2)
          else
            some ((-3), p7.2)
    else
      some ((-1), K)
theorem e_X2_whyNotDead {O : mO} {d : Nat} {a0 : Nat} {a1 : Int32} {a2 : Int32} {a3 : Int32} {K : mH} {r0 : Int32} {K0 : mH} (h : F_X2_whyNotDead O d a0 a1 a2 a3 K = some (r0, K0)) : ev O (d + 1) MX2_whyNotDead [.ref a0, .int a1, .int a2, .int a3] K = some (some (.int r0), K0) := by
  refine Rn_evx ?_
  show Go O (d + 1) MX2_whyNotDead 0 [some (.ref a0), some (.int a1), some (.int a2), some (.int a3)] [] K _
  generalize hP : (fun (r : Option Value) (K' : mH) => (r, K') = (some (.int r0), K0)) = P
  have hret : ∀ (r : Int32) (K' : mH), (r, K') = (r0, K0) → P (some (.int r)) K' := by
    intro r K' e
    cases e
    subst hP
    rfl
  clear hP
  unfold F_X2_whyNotDead at h
  refine g_iload_n dX2_whyNotDead_0 rfl ?_
  refine g_iconst (v := (nI 1)) dX2_whyNotDead_1 (by decide) ?_
  refine g_ic_lt (t := 11) dX2_whyNotDead_2 (by decide) (fun c1 => ?_) (fun c1 => ?_)
  · rw [if_pos c1] at h
    refine g_iconst (v := (-1)) dX2_whyNotDead_11 (by decide) ?_
    exact g_ireturn dX2_whyNotDead_12 rfl (by first | rfl | decide) (hret _ _ (Option.some.inj h))
  · rw [if_neg c1] at h
    refine g_iload_n dX2_whyNotDead_5 rfl ?_
    refine g_bipush (v := (nI 99)) dX2_whyNotDead_6 (by decide) ?_
    refine g_ic_le (t := 13) dX2_whyNotDead_8 (by decide) (fun c2 => ?_) (fun c2 => ?_)
    · rw [if_pos c2] at h
      refine g_aload_n dX2_whyNotDead_13 rfl ?_
      refine g_iload_n dX2_whyNotDead_14 rfl ?_
      obtain ⟨p3, ep3, h⟩ := bs h
      refine q_virt (Z := MX2_hasFamily) (c := (RX2, TX2, 18)) (toI_s ep3) dX2_whyNotDead_15 mX2_135.1 mX2_135.2 (Nat.le_of_ble_eq_true rfl) rfl rfl (Nat.le_of_ble_eq_true rfl) (Nat.le_of_ble_eq_true rfl) rfl rfl ?_
      show Go O (d + 1) MX2_whyNotDead 18 [some (.ref a0), some (.int a1), some (.int a2), some (.int a3)] [.int p3.1] p3.2 P
      refine g_if_eq (t := 29) dX2_whyNotDead_18 (by decide) (fun c4 => ?_) (fun c4 => ?_)
      · rw [if_pos c4] at h
        refine g_bipush (v := (-2)) dX2_whyNotDead_29 (by decide) ?_
        exact g_ireturn dX2_whyNotDead_31 rfl (by first | rfl | decide) (hret _ _ (Option.some.inj h))
      · rw [if_neg c4] at h
        refine g_aload_n dX2_whyNotDead_21 rfl ?_
        refine g_iload_n dX2_whyNotDead_22 rfl ?_
        obtain ⟨p5, ep5, h⟩ := bs h
        refine q_virt (Z := MX2_hasVault) (c := (RX2, TX2, 18)) (toI_s ep5) dX2_whyNotDead_23 mX2_88.1 mX2_88.2 (Nat.le_of_ble_eq_true rfl) rfl rfl (Nat.le_of_ble_eq_true rfl) (Nat.le_of_ble_eq_true rfl) rfl rfl ?_
        show Go O (d + 1) MX2_whyNotDead 26 [some (.ref a0), some (.int a1), some (.int a2), some (.int a3)] [.int p5.1] p5.2 P
        refine g_if_ne (t := 32) dX2_whyNotDead_26 (by decide) (fun c6 => ?_) (fun c6 => ?_)
        · rw [if_neg c6] at h
          refine g_aload_n dX2_whyNotDead_32 rfl ?_
          refine g_iload_n dX2_whyNotDead_33 rfl ?_
          obtain ⟨p7, ep7, h⟩ := bs h
          refine q_virt (Z := MX2_freeBeds) (c := (RX2, TX2, 18)) (toI_s ep7) dX2_whyNotDead_34 mX2_138.1 mX2_138.2 (Nat.le_of_ble_eq_true rfl) rfl rfl (Nat.le_of_ble_eq_true rfl) (Nat.le_of_ble_eq_true rfl) rfl rfl ?_
          show Go O (d + 1) MX2_whyNotDead 37 [some (.ref a0), some (.int a1), some (.int a2), some (.int a3)] [.int p7.1] p7.2 P
          refine g_iconst (v := (nI 1)) dX2_whyNotDead_37 (by decide) ?_
          refine g_ic_ge (t := 44) dX2_whyNotDead_38 (by decide) (fun c8 => ?_) (fun c8 => ?_)
          · rw [if_pos c8] at h
            refine g_aload_n dX2_whyNotDead_44 rfl ?_
            obtain ⟨x9, ex9, h⟩ := bs h
            refine q_getI dX2_whyNotDead_45 fX2_52 ex9 ?_
            refine g_bipush (v := (nI 8)) dX2_whyNotDead_48 (by decide) ?_
            have hj : Go O (d + 1) MX2_whyNotDead 59 [none, none, none, none] [.int (if x9 < (nI 8) then (nI 0) else (-5))] p7.2 P := by
              exact g_ireturn dX2_whyNotDead_59 rfl (by first | rfl | decide) (hret _ _ (Option.some.inj h))
            refine g_ic_lt (t := 58) dX2_whyNotDead_50 (by decide) (fun c10 => ?_) (fun c10 => ?_)
            · skip
              refine g_iconst (v := (nI 0)) dX2_whyNotDead_58 (by decide) ?_
              have hk : Go O (d + 1) MX2_whyNotDead 59 [none, none, none, none] [.int (nI 0)] p7.2 P := by simpa only [if_pos c10] using hj
              refine Go_le ?_ hk
              exact trivial
            · skip
              refine g_bipush (v := (-5)) dX2_whyNotDead_53 (by decide) ?_
              refine g_goto (t := 59) dX2_whyNotDead_55 (by decide) ?_
              have hk : Go O (d + 1) MX2_whyNotDead 59 [none, none, none, none] [.int (-5)] p7.2 P := by simpa only [if_neg c10] using hj
              refine Go_le ?_ hk
              exact trivial
          · rw [if_neg c8] at h
            refine g_bipush (v := (-3)) dX2_whyNotDead_41 (by decide) ?_
            exact g_ireturn dX2_whyNotDead_43 rfl (by first | rfl | decide) (hret _ _ (Option.some.inj h))
        · rw [if_pos c6] at h
          refine g_bipush (v := (-2)) dX2_whyNotDead_29 (by decide) ?_
          exact g_ireturn dX2_whyNotDead_31 rfl (by first | rfl | decide) (hret _ _ (Option.some.inj h))
    · rw [if_neg c2] at h
      refine g_iconst (v := (-1)) dX2_whyNotDead_11 (by decide) ?_
      exact g_ireturn dX2_whyNotDead_12 rfl (by first | rfl | decide) (hret _ _ (Option.some.inj h))
noncomputable def F_X2_addDead (O : mO) (d : Nat) (a0 : Nat) (a1 : Int32) (a2 : Int32) (a3 : Int32) (K : mH) : Option (mH) :=
  (gtI K a0 2 13).bind fun x1 =>
  if (nI 8) ≤ x1 then
    some K
  else
    (gtA K a0 2 3).bind fun x4 =>
    (gtI K a0 2 13).bind fun x5 =>
    (wrI K x4 x5 a1).bind fun K6 =>
    (gtA K6 a0 2 4).bind fun x7 =>
    (gtI K6 a0 2 13).bind fun x8 =>
    (wrI K6 x7 x8 a2).bind fun K9 =>
    (gtA K9 a0 2 5).bind fun x10 =>
    (gtI K9 a0 2 13).bind fun x11 =>
    (wrI K9 x10 x11 a3).bind fun K12 =>
    (gtI K12 a0 2 13).bind fun x13 =>
    (ptI K12 a0 2 13 (x13 + (nI 1))).bind fun K14 =>
    some K14
theorem e_X2_addDead {O : mO} {d : Nat} {a0 : Nat} {a1 : Int32} {a2 : Int32} {a3 : Int32} {K : mH} {x : mH} (h : F_X2_addDead O d a0 a1 a2 a3 K = some x) : ev O (d + 1) MX2_addDead [.ref a0, .int a1, .int a2, .int a3] K = some (none, x) := by
  refine Rn_evx ?_
  show Go O (d + 1) MX2_addDead 0 [some (.ref a0), some (.int a1), some (.int a2), some (.int a3)] [] K _
  generalize hP : (fun (r : Option Value) (K' : mH) => (r, K') = (none, x)) = P
  have hret : ∀ K' : mH, K' = x → P none K' := by
    intro K' e
    subst hP e
    rfl
  clear hP
  unfold F_X2_addDead at h
  refine g_aload_n dX2_addDead_0 rfl ?_
  obtain ⟨x1, ex1, h⟩ := bs h
  refine q_getI dX2_addDead_1 fX2_52 ex1 ?_
  refine g_bipush (v := (nI 8)) dX2_addDead_4 (by decide) ?_
  refine g_ic_ge (t := 49) dX2_addDead_6 (by decide) (fun c3 => ?_) (fun c3 => ?_)
  · rw [if_pos c3] at h
    exact g_return dX2_addDead_49 rfl (hret _ (Option.some.inj h))
  · rw [if_neg c3] at h
    refine g_aload_n dX2_addDead_9 rfl ?_
    obtain ⟨x4, ex4, h⟩ := bs h
    refine q_getA dX2_addDead_10 fX2_18 ex4 ?_
    refine g_aload_n dX2_addDead_13 rfl ?_
    obtain ⟨x5, ex5, h⟩ := bs h
    refine q_getI dX2_addDead_14 fX2_52 ex5 ?_
    refine g_iload_n dX2_addDead_17 rfl ?_
    obtain ⟨K6, eK6, h⟩ := bs h
    refine q_iast dX2_addDead_18 eK6 ?_
    refine g_aload_n dX2_addDead_19 rfl ?_
    obtain ⟨x7, ex7, h⟩ := bs h
    refine q_getA dX2_addDead_20 fX2_21 ex7 ?_
    refine g_aload_n dX2_addDead_23 rfl ?_
    obtain ⟨x8, ex8, h⟩ := bs h
    refine q_getI dX2_addDead_24 fX2_52 ex8 ?_
    refine g_iload_n dX2_addDead_27 rfl ?_
    obtain ⟨K9, eK9, h⟩ := bs h
    refine q_iast dX2_addDead_28 eK9 ?_
    refine g_aload_n dX2_addDead_29 rfl ?_
    obtain ⟨x10, ex10, h⟩ := bs h
    refine q_getA dX2_addDead_30 fX2_24 ex10 ?_
    refine g_aload_n dX2_addDead_33 rfl ?_
    obtain ⟨x11, ex11, h⟩ := bs h
    refine q_getI dX2_addDead_34 fX2_52 ex11 ?_
    refine g_iload_n dX2_addDead_37 rfl ?_
    obtain ⟨K12, eK12, h⟩ := bs h
    refine q_iast dX2_addDead_38 eK12 ?_
    refine g_aload_n dX2_addDead_39 rfl ?_
    refine g_dup dX2_addDead_40 (by first | rfl | exact vrf_cat _) ?_
    obtain ⟨x13, ex13, h⟩ := bs h
    refine q_getI dX2_addDead_41 fX2_52 ex13 ?_
    refine g_iconst (v := (nI 1)) dX2_addDead_44 (by decide) ?_
    refine g_iadd dX2_addDead_45 ?_
    obtain ⟨K14, eK14, h⟩ := bs h
    refine q_put (c := (RX2, TX2, 18)) dX2_addDead_46 fX2_52 rfl rfl rfl (fun h => absurd h (by decide)) eK14 ?_
    exact g_return dX2_addDead_49 rfl (hret _ (Option.some.inj h))
noncomputable def F_X2_renewFor (O : mO) (d : Nat) (a0 : Nat) (a1 : Int32) (K : mH) : Option (Int32 × mH) :=
  (toI (vc O d 2 MX2_hasDead a0 [.int a1] K)).bind fun p1 =>
  if p1.1 = 0 then
    some ((-2), p1.2)
  else
    (gtA p1.2 a0 2 3).bind fun x3 =>
    (rdI O p1.2 x3 a1).bind fun x4 =>
    (toI (vc O d 2 MX2_isIn a0 [.int a1] p1.2)).bind fun p5 =>
    if p5.1 = 0 then
      some ((-3), p5.2)
    else
      (toI (vc O d 2 MX2_hasFamily a0 [.int x4] p5.2)).bind fun p7 =>
      if p7.1 = 0 then
        some ((-3), p7.2)
      else
        (gtA p7.2 a0 2 0).bind fun x9 =>
        (gtA p7.2 a0 2 4).bind fun x10 =>
        (rdI O p7.2 x10 a1).bind fun x11 =>
        (toV (vc O d 0 MX0_askOfDead x9 [.ref a0, .int a1, .int x11] p7.2)).bind fun K12 =>
        (gtA K12 a0 2 0).bind fun x13 =>
        (toR (vc O d 2 MX2_inForce a0 [] K12)).bind fun p14 =>
        (toI (vc O d 0 MX0_told x13 [va_rf p14.1, .int (nI 0)] p14.2)).bind fun p15 =>
        (gtA p15.2 a0 2 0).bind fun x16 =>
        (toR (vc O d 2 MX2_inForce a0 [] p15.2)).bind fun p17 =>
        (toI (vc O d 0 MX0_told x16 [va_rf p17.1, .int (nI 1)] p17.2)).bind fun p18 =>
        (gtA p18.2 a0 2 2).bind fun x19 =>
        (rdI O p18.2 x19 x4).bind fun x20 =>
        if p15.1 ≤ x20 then
          (gtA p18.2 a0 2 2).bind fun x22 =>
          (rdI O p18.2 x22 x4).bind fun x23 =>
          (wrI p18.2 x22 x4 (x23 - p15.1)).bind fun K24 =>
          (gtA K24 a0 2 5).bind fun x25 =>
          (gtA K24 a0 2 5).bind fun x26 =>
          (rdI O K24 x26 a1).bind fun x27 =>
          (wrI K24 x25 a1 (if (x27 + p18.1) < (nI 99) then (x27 + p18.1) else (nI 99))).bind fun K28 =>
          some (p15.1, K28)
        else
          some ((-3), p18.2)
theorem e_X2_renewFor {O : mO} {d : Nat} {a0 : Nat} {a1 : Int32} {K : mH} {r0 : Int32} {K0 : mH} (h : F_X2_renewFor O d a0 a1 K = some (r0, K0)) : ev O (d + 1) MX2_renewFor [.ref a0, .int a1] K = some (some (.int r0), K0) := by
  refine Rn_evx ?_
  show Go O (d + 1) MX2_renewFor 0 [some (.ref a0), some (.int a1), none, none, none] [] K _
  generalize hP : (fun (r : Option Value) (K' : mH) => (r, K') = (some (.int r0), K0)) = P
  have hret : ∀ (r : Int32) (K' : mH), (r, K') = (r0, K0) → P (some (.int r)) K' := by
    intro r K' e
    cases e
    subst hP
    rfl
  clear hP
  unfold F_X2_renewFor at h
  refine g_aload_n dX2_renewFor_0 rfl ?_
  refine g_iload_n dX2_renewFor_1 rfl ?_
  obtain ⟨p1, ep1, h⟩ := bs h
  refine q_virt (Z := MX2_hasDead) (c := (RX2, TX2, 18)) (toI_s ep1) dX2_renewFor_2 mX2_77.1 mX2_77.2 (Nat.le_of_ble_eq_true rfl) rfl rfl (Nat.le_of_ble_eq_true rfl) (Nat.le_of_ble_eq_true rfl) rfl rfl ?_
  show Go O (d + 1) MX2_renewFor 5 [some (.ref a0), some (.int a1), none, none, none] [.int p1.1] p1.2 P
  refine g_if_ne (t := 11) dX2_renewFor_5 (by decide) (fun c2 => ?_) (fun c2 => ?_)
  · rw [if_neg c2] at h
    refine g_aload_n dX2_renewFor_11 rfl ?_
    obtain ⟨x3, ex3, h⟩ := bs h
    refine q_getA dX2_renewFor_12 fX2_18 ex3 ?_
    refine g_iload_n dX2_renewFor_15 rfl ?_
    obtain ⟨x4, ex4, h⟩ := bs h
    refine q_iald dX2_renewFor_16 ex4 ?_
    refine g_istore_n (ls' := [some (.ref a0), some (.int a1), some (.int x4), none, none]) dX2_renewFor_17 (by decide) rfl ?_
    refine g_aload_n dX2_renewFor_18 rfl ?_
    refine g_iload_n dX2_renewFor_19 rfl ?_
    obtain ⟨p5, ep5, h⟩ := bs h
    refine q_virt (Z := MX2_isIn) (c := (RX2, TX2, 18)) (toI_s ep5) dX2_renewFor_20 mX2_103.1 mX2_103.2 (Nat.le_of_ble_eq_true rfl) rfl rfl (Nat.le_of_ble_eq_true rfl) (Nat.le_of_ble_eq_true rfl) rfl rfl ?_
    show Go O (d + 1) MX2_renewFor 23 [some (.ref a0), some (.int a1), some (.int x4), none, none] [.int p5.1] p5.2 P
    refine g_if_eq (t := 34) dX2_renewFor_23 (by decide) (fun c6 => ?_) (fun c6 => ?_)
    · rw [if_pos c6] at h
      refine g_bipush (v := (-3)) dX2_renewFor_34 (by decide) ?_
      exact g_ireturn dX2_renewFor_36 rfl (by first | rfl | decide) (hret _ _ (Option.some.inj h))
    · rw [if_neg c6] at h
      refine g_aload_n dX2_renewFor_26 rfl ?_
      refine g_iload_n dX2_renewFor_27 rfl ?_
      obtain ⟨p7, ep7, h⟩ := bs h
      refine q_virt (Z := MX2_hasFamily) (c := (RX2, TX2, 18)) (toI_s ep7) dX2_renewFor_28 mX2_135.1 mX2_135.2 (Nat.le_of_ble_eq_true rfl) rfl rfl (Nat.le_of_ble_eq_true rfl) (Nat.le_of_ble_eq_true rfl) rfl rfl ?_
      show Go O (d + 1) MX2_renewFor 31 [some (.ref a0), some (.int a1), some (.int x4), none, none] [.int p7.1] p7.2 P
      refine g_if_ne (t := 37) dX2_renewFor_31 (by decide) (fun c8 => ?_) (fun c8 => ?_)
      · rw [if_neg c8] at h
        refine g_aload_n dX2_renewFor_37 rfl ?_
        obtain ⟨x9, ex9, h⟩ := bs h
        refine q_getA dX2_renewFor_38 fX2_67 ex9 ?_
        refine g_aload_n dX2_renewFor_41 rfl ?_
        refine g_iload_n dX2_renewFor_42 rfl ?_
        refine g_aload_n dX2_renewFor_43 rfl ?_
        obtain ⟨x10, ex10, h⟩ := bs h
        refine q_getA dX2_renewFor_44 fX2_21 ex10 ?_
        refine g_iload_n dX2_renewFor_47 rfl ?_
        obtain ⟨x11, ex11, h⟩ := bs h
        refine q_iald dX2_renewFor_48 ex11 ?_
        obtain ⟨K12, eK12, h⟩ := bs h
        refine q_virt (Z := MX0_askOfDead) (c := (RX0, TX0, 2)) (toV_s eK12) dX2_renewFor_49 mX2_114.1 mX2_114.2 (Nat.le_of_ble_eq_true rfl) rfl rfl (Nat.le_of_ble_eq_true rfl) (Nat.le_of_ble_eq_true rfl) rfl rfl ?_
        show Go O (d + 1) MX2_renewFor 52 [some (.ref a0), some (.int a1), some (.int x4), none, none] [] K12 P
        refine g_aload_n dX2_renewFor_52 rfl ?_
        obtain ⟨x13, ex13, h⟩ := bs h
        refine q_getA dX2_renewFor_53 fX2_67 ex13 ?_
        refine g_aload_n dX2_renewFor_56 rfl ?_
        obtain ⟨p14, ep14, h⟩ := bs h
        refine q_virt (Z := MX2_inForce) (c := (RX2, TX2, 18)) (toR_s ep14) dX2_renewFor_57 mX2_106.1 mX2_106.2 (Nat.le_of_ble_eq_true rfl) rfl rfl (Nat.le_of_ble_eq_true rfl) (Nat.le_of_ble_eq_true rfl) rfl rfl ?_
        show Go O (d + 1) MX2_renewFor 60 [some (.ref a0), some (.int a1), some (.int x4), none, none] [va_rf p14.1, .ref x13] p14.2 P
        refine g_iconst (v := (nI 0)) dX2_renewFor_60 (by decide) ?_
        obtain ⟨p15, ep15, h⟩ := bs h
        refine q_virt (Z := MX0_told) (c := (RX0, TX0, 2)) (toI_s ep15) dX2_renewFor_61 mX2_120.1 mX2_120.2 (Nat.le_of_ble_eq_true rfl) rfl rfl (Nat.le_of_ble_eq_true rfl) (by cases p14.1 <;> exact Nat.le_of_ble_eq_true rfl) rfl rfl ?_
        show Go O (d + 1) MX2_renewFor 64 [some (.ref a0), some (.int a1), some (.int x4), none, none] [.int p15.1] p15.2 P
        refine g_istore_n (ls' := [some (.ref a0), some (.int a1), some (.int x4), some (.int p15.1), none]) dX2_renewFor_64 (by decide) rfl ?_
        refine g_aload_n dX2_renewFor_65 rfl ?_
        obtain ⟨x16, ex16, h⟩ := bs h
        refine q_getA dX2_renewFor_66 fX2_67 ex16 ?_
        refine g_aload_n dX2_renewFor_69 rfl ?_
        obtain ⟨p17, ep17, h⟩ := bs h
        refine q_virt (Z := MX2_inForce) (c := (RX2, TX2, 18)) (toR_s ep17) dX2_renewFor_70 mX2_106.1 mX2_106.2 (Nat.le_of_ble_eq_true rfl) rfl rfl (Nat.le_of_ble_eq_true rfl) (Nat.le_of_ble_eq_true rfl) rfl rfl ?_
        show Go O (d + 1) MX2_renewFor 73 [some (.ref a0), some (.int a1), some (.int x4), some (.int p15.1), none] [va_rf p17.1, .ref x16] p17.2 P
        refine g_iconst (v := (nI 1)) dX2_renewFor_73 (by decide) ?_
        obtain ⟨p18, ep18, h⟩ := bs h
        refine q_virt (Z := MX0_told) (c := (RX0, TX0, 2)) (toI_s ep18) dX2_renewFor_74 mX2_120.1 mX2_120.2 (Nat.le_of_ble_eq_true rfl) rfl rfl (Nat.le_of_ble_eq_true rfl) (by cases p17.1 <;> exact Nat.le_of_ble_eq_true rfl) rfl rfl ?_
        show Go O (d + 1) MX2_renewFor 77 [some (.ref a0), some (.int a1), some (.int x4), some (.int p15.1), none] [.int p18.1] p18.2 P
        refine g_istore (ls' := [some (.ref a0), some (.int a1), some (.int x4), some (.int p15.1), some (.int p18.1)]) dX2_renewFor_77 (by decide) rfl ?_
        refine g_aload_n dX2_renewFor_79 rfl ?_
        obtain ⟨x19, ex19, h⟩ := bs h
        refine q_getA dX2_renewFor_80 fX2_15 ex19 ?_
        refine g_iload_n dX2_renewFor_83 rfl ?_
        obtain ⟨x20, ex20, h⟩ := bs h
        refine q_iald dX2_renewFor_84 ex20 ?_
        refine g_iload_n dX2_renewFor_85 rfl ?_
        refine g_ic_ge (t := 92) dX2_renewFor_86 (by decide) (fun c21 => ?_) (fun c21 => ?_)
        · rw [if_pos c21] at h
          refine g_aload_n dX2_renewFor_92 rfl ?_
          obtain ⟨x22, ex22, h⟩ := bs h
          refine q_getA dX2_renewFor_93 fX2_15 ex22 ?_
          refine g_iload_n dX2_renewFor_96 rfl ?_
          refine g_dup2 dX2_renewFor_97 rfl rfl ?_
          obtain ⟨x23, ex23, h⟩ := bs h
          refine q_iald dX2_renewFor_98 ex23 ?_
          refine g_iload_n dX2_renewFor_99 rfl ?_
          refine g_isub dX2_renewFor_100 ?_
          obtain ⟨K24, eK24, h⟩ := bs h
          refine q_iast dX2_renewFor_101 eK24 ?_
          refine g_aload_n dX2_renewFor_102 rfl ?_
          obtain ⟨x25, ex25, h⟩ := bs h
          refine q_getA dX2_renewFor_103 fX2_24 ex25 ?_
          refine g_iload_n dX2_renewFor_106 rfl ?_
          refine g_bipush (v := (nI 99)) dX2_renewFor_107 (by decide) ?_
          refine g_aload_n dX2_renewFor_109 rfl ?_
          obtain ⟨x26, ex26, h⟩ := bs h
          refine q_getA dX2_renewFor_110 fX2_24 ex26 ?_
          refine g_iload_n dX2_renewFor_113 rfl ?_
          obtain ⟨x27, ex27, h⟩ := bs h
          refine q_iald dX2_renewFor_114 ex27 ?_
          refine g_iload dX2_renewFor_115 rfl ?_
          refine g_iadd dX2_renewFor_117 ?_
          refine g_min dX2_renewFor_118 mX2_141 (Nat.le_of_ble_eq_true rfl) (mNo2_h3 rfl) ?_
          obtain ⟨K28, eK28, h⟩ := bs h
          refine q_iast dX2_renewFor_121 eK28 ?_
          refine g_iload_n dX2_renewFor_122 rfl ?_
          exact g_ireturn dX2_renewFor_123 rfl (by first | rfl | decide) (hret _ _ (Option.some.inj h))
        · rw [if_neg c21] at h
          refine g_bipush (v := (-3)) dX2_renewFor_89 (by decide) ?_
          exact g_ireturn dX2_renewFor_91 rfl (by first | rfl | decide) (hret _ _ (Option.some.inj h))
      · rw [if_pos c8] at h
        refine g_bipush (v := (-3)) dX2_renewFor_34 (by decide) ?_
        exact g_ireturn dX2_renewFor_36 rfl (by first | rfl | decide) (hret _ _ (Option.some.inj h))
  · rw [if_pos c2] at h
    refine g_bipush (v := (-2)) dX2_renewFor_8 (by decide) ?_
    exact g_ireturn dX2_renewFor_10 rfl (by first | rfl | decide) (hret _ _ (Option.some.inj h))
noncomputable def F_X2_lodgeIn_j83 (O : mO) (d : Nat) (v0 : Nat) (v1 : Int32) (v2 : Int32) (K : mH) : Option (Int32 × mH) :=
  (gtA K v0 2 4).bind fun x19 =>
  (wrI K x19 v1 v2).bind fun K20 =>
  (toI (vc O d 2 MX2_freeBeds v0 [.int v2] K20)).bind fun p21 =>
  some (p21.1, p21.2)
theorem e_X2_lodgeIn_j83 {O : mO} {d : Nat} {v0 : Nat} {v1 : Int32} {v2 : Int32} {K : mH} {P : Option Value → mH → Prop} {x : Int32 × mH} (hret : ∀ (r : Int32) (K' : mH), (r, K') = x → P (some (.int r)) K') (h : F_X2_lodgeIn_j83 O d v0 v1 v2 K = some x) : Go O (d + 1) MX2_lodgeIn 83 [some (.ref v0), some (.int v1), some (.int v2)] [] K P := by
  unfold F_X2_lodgeIn_j83 at h
  refine g_aload_n dX2_lodgeIn_83 rfl ?_
  obtain ⟨x19, ex19, h⟩ := bs h
  refine q_getA dX2_lodgeIn_84 fX2_21 ex19 ?_
  refine g_iload_n dX2_lodgeIn_87 rfl ?_
  refine g_iload_n dX2_lodgeIn_88 rfl ?_
  obtain ⟨K20, eK20, h⟩ := bs h
  refine q_iast dX2_lodgeIn_89 eK20 ?_
  refine g_aload_n dX2_lodgeIn_90 rfl ?_
  refine g_iload_n dX2_lodgeIn_91 rfl ?_
  obtain ⟨p21, ep21, h⟩ := bs h
  refine q_virt (Z := MX2_freeBeds) (c := (RX2, TX2, 18)) (toI_s ep21) dX2_lodgeIn_92 mX2_138.1 mX2_138.2 (Nat.le_of_ble_eq_true rfl) rfl rfl (Nat.le_of_ble_eq_true rfl) (Nat.le_of_ble_eq_true rfl) rfl rfl ?_
  show Go O (d + 1) MX2_lodgeIn 95 [some (.ref v0), some (.int v1), some (.int v2)] [.int p21.1] p21.2 P
  exact g_ireturn dX2_lodgeIn_95 rfl (by first | rfl | decide) (hret _ _ (Option.some.inj h))
noncomputable def F_X2_lodgeIn (O : mO) (d : Nat) (a0 : Nat) (a1 : Int32) (a2 : Int32) (K : mH) : Option (Int32 × mH) :=
  (toI (vc O d 2 MX2_hasDead a0 [.int a1] K)).bind fun p1 =>
  if p1.1 = 0 then
    some ((-2), p1.2)
  else
    (toI (vc O d 2 MX2_hasVault a0 [.int a2] p1.2)).bind fun p3 =>
    if p3.1 = 0 then
      some ((-2), p3.2)
    else
      (gtA p3.2 a0 2 4).bind fun x5 =>
      (rdI O p3.2 x5 a1).bind fun x6 =>
      if x6 = a2 then
        some ((-3), p3.2)
      else
        (toI (vc O d 2 MX2_freeBeds a0 [.int a2] p3.2)).bind fun p8 =>
        if (nI 1) ≤ p8.1 then
          (gtA p8.2 a0 2 0).bind fun x10 =>
          (toV (vc O d 0 MX0_askOfDead x10 [.ref a0, .int a1, .int a2] p8.2)).bind fun K11 =>
          (gtA K11 a0 2 0).bind fun x12 =>
          (toR (vc O d 2 MX2_inForce a0 [] K11)).bind fun p13 =>
          (toI (vc O d 0 MX0_bars x12 [va_rf p13.1] p13.2)).bind fun p14 =>
          if p14.1 = 0 then
            (toI (vc O d 2 MX2_isOut a0 [.int a1] p14.2)).bind fun p16 =>
            if p16.1 = 0 then
              F_X2_lodgeIn_j83 O d a0 a1 a2 p16.2
            else
              (gtA p16.2 a0 2 5).bind fun x22 =>
              (wrI p16.2 x22 a1 (nI 1)).bind fun K23 =>
              F_X2_lodgeIn_j83 O d a0 a1 a2 K23
          else
            some ((-3), p14.2)
        else
          some ((-3), p8.2)
theorem e_X2_lodgeIn {O : mO} {d : Nat} {a0 : Nat} {a1 : Int32} {a2 : Int32} {K : mH} {r0 : Int32} {K0 : mH} (h : F_X2_lodgeIn O d a0 a1 a2 K = some (r0, K0)) : ev O (d + 1) MX2_lodgeIn [.ref a0, .int a1, .int a2] K = some (some (.int r0), K0) := by
  refine Rn_evx ?_
  show Go O (d + 1) MX2_lodgeIn 0 [some (.ref a0), some (.int a1), some (.int a2)] [] K _
  generalize hP : (fun (r : Option Value) (K' : mH) => (r, K') = (some (.int r0), K0)) = P
  have hret : ∀ (r : Int32) (K' : mH), (r, K') = (r0, K0) → P (some (.int r)) K' := by
    intro r K' e
    cases e
    subst hP
    rfl
  clear hP
  unfold F_X2_lodgeIn at h
  refine g_aload_n dX2_lodgeIn_0 rfl ?_
  refine g_iload_n dX2_lodgeIn_1 rfl ?_
  obtain ⟨p1, ep1, h⟩ := bs h
  refine q_virt (Z := MX2_hasDead) (c := (RX2, TX2, 18)) (toI_s ep1) dX2_lodgeIn_2 mX2_77.1 mX2_77.2 (Nat.le_of_ble_eq_true rfl) rfl rfl (Nat.le_of_ble_eq_true rfl) (Nat.le_of_ble_eq_true rfl) rfl rfl ?_
  show Go O (d + 1) MX2_lodgeIn 5 [some (.ref a0), some (.int a1), some (.int a2)] [.int p1.1] p1.2 P
  refine g_if_eq (t := 16) dX2_lodgeIn_5 (by decide) (fun c2 => ?_) (fun c2 => ?_)
  · rw [if_pos c2] at h
    refine g_bipush (v := (-2)) dX2_lodgeIn_16 (by decide) ?_
    exact g_ireturn dX2_lodgeIn_18 rfl (by first | rfl | decide) (hret _ _ (Option.some.inj h))
  · rw [if_neg c2] at h
    refine g_aload_n dX2_lodgeIn_8 rfl ?_
    refine g_iload_n dX2_lodgeIn_9 rfl ?_
    obtain ⟨p3, ep3, h⟩ := bs h
    refine q_virt (Z := MX2_hasVault) (c := (RX2, TX2, 18)) (toI_s ep3) dX2_lodgeIn_10 mX2_88.1 mX2_88.2 (Nat.le_of_ble_eq_true rfl) rfl rfl (Nat.le_of_ble_eq_true rfl) (Nat.le_of_ble_eq_true rfl) rfl rfl ?_
    show Go O (d + 1) MX2_lodgeIn 13 [some (.ref a0), some (.int a1), some (.int a2)] [.int p3.1] p3.2 P
    refine g_if_ne (t := 19) dX2_lodgeIn_13 (by decide) (fun c4 => ?_) (fun c4 => ?_)
    · rw [if_neg c4] at h
      refine g_aload_n dX2_lodgeIn_19 rfl ?_
      obtain ⟨x5, ex5, h⟩ := bs h
      refine q_getA dX2_lodgeIn_20 fX2_21 ex5 ?_
      refine g_iload_n dX2_lodgeIn_23 rfl ?_
      obtain ⟨x6, ex6, h⟩ := bs h
      refine q_iald dX2_lodgeIn_24 ex6 ?_
      refine g_iload_n dX2_lodgeIn_25 rfl ?_
      refine g_ic_eq (t := 38) dX2_lodgeIn_26 (by decide) (fun c7 => ?_) (fun c7 => ?_)
      · rw [if_pos c7] at h
        refine g_bipush (v := (-3)) dX2_lodgeIn_38 (by decide) ?_
        exact g_ireturn dX2_lodgeIn_40 rfl (by first | rfl | decide) (hret _ _ (Option.some.inj h))
      · rw [if_neg c7] at h
        refine g_aload_n dX2_lodgeIn_29 rfl ?_
        refine g_iload_n dX2_lodgeIn_30 rfl ?_
        obtain ⟨p8, ep8, h⟩ := bs h
        refine q_virt (Z := MX2_freeBeds) (c := (RX2, TX2, 18)) (toI_s ep8) dX2_lodgeIn_31 mX2_138.1 mX2_138.2 (Nat.le_of_ble_eq_true rfl) rfl rfl (Nat.le_of_ble_eq_true rfl) (Nat.le_of_ble_eq_true rfl) rfl rfl ?_
        show Go O (d + 1) MX2_lodgeIn 34 [some (.ref a0), some (.int a1), some (.int a2)] [.int p8.1] p8.2 P
        refine g_iconst (v := (nI 1)) dX2_lodgeIn_34 (by decide) ?_
        refine g_ic_ge (t := 41) dX2_lodgeIn_35 (by decide) (fun c9 => ?_) (fun c9 => ?_)
        · rw [if_pos c9] at h
          refine g_aload_n dX2_lodgeIn_41 rfl ?_
          obtain ⟨x10, ex10, h⟩ := bs h
          refine q_getA dX2_lodgeIn_42 fX2_67 ex10 ?_
          refine g_aload_n dX2_lodgeIn_45 rfl ?_
          refine g_iload_n dX2_lodgeIn_46 rfl ?_
          refine g_iload_n dX2_lodgeIn_47 rfl ?_
          obtain ⟨K11, eK11, h⟩ := bs h
          refine q_virt (Z := MX0_askOfDead) (c := (RX0, TX0, 2)) (toV_s eK11) dX2_lodgeIn_48 mX2_114.1 mX2_114.2 (Nat.le_of_ble_eq_true rfl) rfl rfl (Nat.le_of_ble_eq_true rfl) (Nat.le_of_ble_eq_true rfl) rfl rfl ?_
          show Go O (d + 1) MX2_lodgeIn 51 [some (.ref a0), some (.int a1), some (.int a2)] [] K11 P
          refine g_aload_n dX2_lodgeIn_51 rfl ?_
          obtain ⟨x12, ex12, h⟩ := bs h
          refine q_getA dX2_lodgeIn_52 fX2_67 ex12 ?_
          refine g_aload_n dX2_lodgeIn_55 rfl ?_
          obtain ⟨p13, ep13, h⟩ := bs h
          refine q_virt (Z := MX2_inForce) (c := (RX2, TX2, 18)) (toR_s ep13) dX2_lodgeIn_56 mX2_106.1 mX2_106.2 (Nat.le_of_ble_eq_true rfl) rfl rfl (Nat.le_of_ble_eq_true rfl) (Nat.le_of_ble_eq_true rfl) rfl rfl ?_
          show Go O (d + 1) MX2_lodgeIn 59 [some (.ref a0), some (.int a1), some (.int a2)] [va_rf p13.1, .ref x12] p13.2 P
          obtain ⟨p14, ep14, h⟩ := bs h
          refine q_virt (Z := MX0_bars) (c := (RX0, TX0, 2)) (toI_s ep14) dX2_lodgeIn_59 mX2_131.1 mX2_131.2 (Nat.le_of_ble_eq_true rfl) rfl rfl (Nat.le_of_ble_eq_true rfl) (by cases p13.1 <;> exact Nat.le_of_ble_eq_true rfl) rfl rfl ?_
          show Go O (d + 1) MX2_lodgeIn 62 [some (.ref a0), some (.int a1), some (.int a2)] [.int p14.1] p14.2 P
          refine g_if_eq (t := 68) dX2_lodgeIn_62 (by decide) (fun c15 => ?_) (fun c15 => ?_)
          · rw [if_pos c15] at h
            refine g_aload_n dX2_lodgeIn_68 rfl ?_
            refine g_iload_n dX2_lodgeIn_69 rfl ?_
            obtain ⟨p16, ep16, h⟩ := bs h
            refine q_virt (Z := MX2_isOut) (c := (RX2, TX2, 18)) (toI_s ep16) dX2_lodgeIn_70 mX2_147.1 mX2_147.2 (Nat.le_of_ble_eq_true rfl) rfl rfl (Nat.le_of_ble_eq_true rfl) (Nat.le_of_ble_eq_true rfl) rfl rfl ?_
            show Go O (d + 1) MX2_lodgeIn 73 [some (.ref a0), some (.int a1), some (.int a2)] [.int p16.1] p16.2 P
            refine g_if_eq (t := 83) dX2_lodgeIn_73 (by decide) (fun c18 => ?_) (fun c18 => ?_)
            · rw [if_pos c18] at h
              refine Go_le ?_ (e_X2_lodgeIn_j83 hret h)
              exact And.intro rfl (And.intro rfl (And.intro rfl (trivial)))
            · rw [if_neg c18] at h
              refine g_aload_n dX2_lodgeIn_76 rfl ?_
              obtain ⟨x22, ex22, h⟩ := bs h
              refine q_getA dX2_lodgeIn_77 fX2_24 ex22 ?_
              refine g_iload_n dX2_lodgeIn_80 rfl ?_
              refine g_iconst (v := (nI 1)) dX2_lodgeIn_81 (by decide) ?_
              obtain ⟨K23, eK23, h⟩ := bs h
              refine q_iast dX2_lodgeIn_82 eK23 ?_
              refine Go_le ?_ (e_X2_lodgeIn_j83 hret h)
              exact And.intro rfl (And.intro rfl (And.intro rfl (trivial)))
          · rw [if_neg c15] at h
            refine g_bipush (v := (-3)) dX2_lodgeIn_65 (by decide) ?_
            exact g_ireturn dX2_lodgeIn_67 rfl (by first | rfl | decide) (hret _ _ (Option.some.inj h))
        · rw [if_neg c9] at h
          refine g_bipush (v := (-3)) dX2_lodgeIn_38 (by decide) ?_
          exact g_ireturn dX2_lodgeIn_40 rfl (by first | rfl | decide) (hret _ _ (Option.some.inj h))
    · rw [if_pos c4] at h
      refine g_bipush (v := (-2)) dX2_lodgeIn_16 (by decide) ?_
      exact g_ireturn dX2_lodgeIn_18 rfl (by first | rfl | decide) (hret _ _ (Option.some.inj h))
noncomputable def F_X2_knockBy (O : mO) (d : Nat) (a0 : Nat) (a1 : Int32) (K : mH) : Option (Int32 × mH) :=
  (toI (vc O d 2 MX2_hasDead a0 [.int a1] K)).bind fun p1 =>
  if p1.1 = 0 then
    some ((-2), p1.2)
  else
    (toI (vc O d 2 MX2_isIn a0 [.int a1] p1.2)).bind fun p3 =>
    if p3.1 = 0 then
      some ((-3), p3.2)
    else
      (gtI p3.2 a0 2 14).bind fun x5 =>
      if ((x5 >>> (a1 &&& 31)) &&& (nI 1)) = (nI 1) then
        some ((-3), p3.2)
      else
        (gtI p3.2 a0 2 14).bind fun x7 =>
        (ptI p3.2 a0 2 14 (x7 ||| ((nI 1) <<< (a1 &&& 31)))).bind fun K8 =>
        (gtA K8 a0 2 5).bind fun x9 =>
        (gtA K8 a0 2 5).bind fun x10 =>
        (rdI O K8 x10 a1).bind fun x11 =>
        (wrI K8 x9 a1 (if (x11 + (nI 1)) < (nI 99) then (x11 + (nI 1)) else (nI 99))).bind fun K12 =>
        (gtA K12 a0 2 5).bind fun x13 =>
        (rdI O K12 x13 a1).bind fun x14 =>
        some (x14, K12)
theorem e_X2_knockBy {O : mO} {d : Nat} {a0 : Nat} {a1 : Int32} {K : mH} {r0 : Int32} {K0 : mH} (h : F_X2_knockBy O d a0 a1 K = some (r0, K0)) : ev O (d + 1) MX2_knockBy [.ref a0, .int a1] K = some (some (.int r0), K0) := by
  refine Rn_evx ?_
  show Go O (d + 1) MX2_knockBy 0 [some (.ref a0), some (.int a1)] [] K _
  generalize hP : (fun (r : Option Value) (K' : mH) => (r, K') = (some (.int r0), K0)) = P
  have hret : ∀ (r : Int32) (K' : mH), (r, K') = (r0, K0) → P (some (.int r)) K' := by
    intro r K' e
    cases e
    subst hP
    rfl
  clear hP
  unfold F_X2_knockBy at h
  refine g_aload_n dX2_knockBy_0 rfl ?_
  refine g_iload_n dX2_knockBy_1 rfl ?_
  obtain ⟨p1, ep1, h⟩ := bs h
  refine q_virt (Z := MX2_hasDead) (c := (RX2, TX2, 18)) (toI_s ep1) dX2_knockBy_2 mX2_77.1 mX2_77.2 (Nat.le_of_ble_eq_true rfl) rfl rfl (Nat.le_of_ble_eq_true rfl) (Nat.le_of_ble_eq_true rfl) rfl rfl ?_
  show Go O (d + 1) MX2_knockBy 5 [some (.ref a0), some (.int a1)] [.int p1.1] p1.2 P
  refine g_if_ne (t := 11) dX2_knockBy_5 (by decide) (fun c2 => ?_) (fun c2 => ?_)
  · rw [if_neg c2] at h
    refine g_aload_n dX2_knockBy_11 rfl ?_
    refine g_iload_n dX2_knockBy_12 rfl ?_
    obtain ⟨p3, ep3, h⟩ := bs h
    refine q_virt (Z := MX2_isIn) (c := (RX2, TX2, 18)) (toI_s ep3) dX2_knockBy_13 mX2_103.1 mX2_103.2 (Nat.le_of_ble_eq_true rfl) rfl rfl (Nat.le_of_ble_eq_true rfl) (Nat.le_of_ble_eq_true rfl) rfl rfl ?_
    show Go O (d + 1) MX2_knockBy 16 [some (.ref a0), some (.int a1)] [.int p3.1] p3.2 P
    refine g_if_eq (t := 31) dX2_knockBy_16 (by decide) (fun c4 => ?_) (fun c4 => ?_)
    · rw [if_pos c4] at h
      refine g_bipush (v := (-3)) dX2_knockBy_31 (by decide) ?_
      exact g_ireturn dX2_knockBy_33 rfl (by first | rfl | decide) (hret _ _ (Option.some.inj h))
    · rw [if_neg c4] at h
      refine g_aload_n dX2_knockBy_19 rfl ?_
      obtain ⟨x5, ex5, h⟩ := bs h
      refine q_getI dX2_knockBy_20 fX2_55 ex5 ?_
      refine g_iload_n dX2_knockBy_23 rfl ?_
      refine g_ishr dX2_knockBy_24 ?_
      refine g_iconst (v := (nI 1)) dX2_knockBy_25 (by decide) ?_
      refine g_iand dX2_knockBy_26 ?_
      refine g_iconst (v := (nI 1)) dX2_knockBy_27 (by decide) ?_
      refine g_ic_ne (t := 34) dX2_knockBy_28 (by decide) (fun c6 => ?_) (fun c6 => ?_)
      · rw [if_neg c6] at h
        refine g_aload_n dX2_knockBy_34 rfl ?_
        refine g_dup dX2_knockBy_35 (by first | rfl | exact vrf_cat _) ?_
        obtain ⟨x7, ex7, h⟩ := bs h
        refine q_getI dX2_knockBy_36 fX2_55 ex7 ?_
        refine g_iconst (v := (nI 1)) dX2_knockBy_39 (by decide) ?_
        refine g_iload_n dX2_knockBy_40 rfl ?_
        refine g_ishl dX2_knockBy_41 ?_
        refine g_ior dX2_knockBy_42 ?_
        obtain ⟨K8, eK8, h⟩ := bs h
        refine q_put (c := (RX2, TX2, 18)) dX2_knockBy_43 fX2_55 rfl rfl rfl (fun h => absurd h (by decide)) eK8 ?_
        refine g_aload_n dX2_knockBy_46 rfl ?_
        obtain ⟨x9, ex9, h⟩ := bs h
        refine q_getA dX2_knockBy_47 fX2_24 ex9 ?_
        refine g_iload_n dX2_knockBy_50 rfl ?_
        refine g_bipush (v := (nI 99)) dX2_knockBy_51 (by decide) ?_
        refine g_aload_n dX2_knockBy_53 rfl ?_
        obtain ⟨x10, ex10, h⟩ := bs h
        refine q_getA dX2_knockBy_54 fX2_24 ex10 ?_
        refine g_iload_n dX2_knockBy_57 rfl ?_
        obtain ⟨x11, ex11, h⟩ := bs h
        refine q_iald dX2_knockBy_58 ex11 ?_
        refine g_iconst (v := (nI 1)) dX2_knockBy_59 (by decide) ?_
        refine g_iadd dX2_knockBy_60 ?_
        refine g_min dX2_knockBy_61 mX2_141 (Nat.le_of_ble_eq_true rfl) (mNo2_h3 rfl) ?_
        obtain ⟨K12, eK12, h⟩ := bs h
        refine q_iast dX2_knockBy_64 eK12 ?_
        refine g_aload_n dX2_knockBy_65 rfl ?_
        obtain ⟨x13, ex13, h⟩ := bs h
        refine q_getA dX2_knockBy_66 fX2_24 ex13 ?_
        refine g_iload_n dX2_knockBy_69 rfl ?_
        obtain ⟨x14, ex14, h⟩ := bs h
        refine q_iald dX2_knockBy_70 ex14 ?_
        exact g_ireturn dX2_knockBy_71 rfl (by first | rfl | decide) (hret _ _ (Option.some.inj h))
      · rw [if_pos c6] at h
        refine g_bipush (v := (-3)) dX2_knockBy_31 (by decide) ?_
        exact g_ireturn dX2_knockBy_33 rfl (by first | rfl | decide) (hret _ _ (Option.some.inj h))
  · rw [if_pos c2] at h
    refine g_bipush (v := (-2)) dX2_knockBy_8 (by decide) ?_
    exact g_ireturn dX2_knockBy_10 rfl (by first | rfl | decide) (hret _ _ (Option.some.inj h))
noncomputable def F_X2_passYear_l17 (O : mO) (d : Nat) (v0 : Nat) (s1 : Int32) (K : mH) : Option ((Int32 × mH) ⊕ (mH)) :=
  (gtI K v0 2 12).bind fun x4 =>
  if x4 ≤ s1 then
    some (.inr K)
  else
    (gtA K v0 2 0).bind fun x6 =>
    (toV (vc O d 0 MX0_askOfFamily x6 [.ref v0, .int s1] K)).bind fun K7 =>
    (gtA K7 v0 2 2).bind fun x8 =>
    (gtA K7 v0 2 2).bind fun x9 =>
    (rdI O K7 x9 s1).bind fun x10 =>
    (gtA K7 v0 2 0).bind fun x11 =>
    (toR (vc O d 2 MX2_inForce v0 [] K7)).bind fun p12 =>
    (toI (vc O d 0 MX0_told x11 [va_rf p12.1, .int (nI 2)] p12.2)).bind fun p13 =>
    (wrI p13.2 x8 s1 (if (x10 + p13.1) < (nI 999) then (x10 + p13.1) else (nI 999))).bind fun K14 =>
    some (.inl ((s1 + nI 1), K14))
theorem e_X2_passYear_l17 {O : mO} {d : Nat} {v0 : Nat} {P : Option Value → mH → Prop} {x : mH} (hex : ∀ q : mH, x = q → Go O (d + 1) MX2_passYear 71 [some (.ref v0), none] [] q P) : ∀ (f : Nat) (q : Int32 × mH), lupF (fun (q : Int32 × mH) => F_X2_passYear_l17 O d v0 q.1 q.2) f q = some x → Go O (d + 1) MX2_passYear 17 [some (.ref v0), some (.int q.1)] [] q.2 P := by
  intro f
  induction f with
  | zero =>
    intro q h
    cases h
  | succ f ih =>
    intro q h
    obtain ⟨y, h, hy1, hy2⟩ := lupF_s h
    have hin : ∀ q : Int32 × mH, y = .inl q → Go O (d + 1) MX2_passYear 17 [some (.ref v0), some (.int q.1)] [] q.2 P := fun q e => ih q (hy1 q e)
    replace hex : ∀ q : mH, y = .inr q → Go O (d + 1) MX2_passYear 71 [some (.ref v0), none] [] q P := fun q e => hex q (hy2 q e).symm
    clear ih hy1 hy2
    obtain ⟨s1, K⟩ := q
    dsimp only at h ⊢
    unfold F_X2_passYear_l17 at h
    refine g_iload_n dX2_passYear_17 rfl ?_
    refine g_aload_n dX2_passYear_18 rfl ?_
    obtain ⟨x4, ex4, h⟩ := bs h
    refine q_getI dX2_passYear_19 fX2_49 ex4 ?_
    refine g_ic_ge (t := 71) dX2_passYear_22 (by decide) (fun c5 => ?_) (fun c5 => ?_)
    · rw [if_pos c5] at h
      refine Go_le ?_ (hex K (Option.some.inj h).symm)
      exact And.intro rfl (trivial)
    · rw [if_neg c5] at h
      refine g_aload_n dX2_passYear_25 rfl ?_
      obtain ⟨x6, ex6, h⟩ := bs h
      refine q_getA dX2_passYear_26 fX2_67 ex6 ?_
      refine g_aload_n dX2_passYear_29 rfl ?_
      refine g_iload_n dX2_passYear_30 rfl ?_
      obtain ⟨K7, eK7, h⟩ := bs h
      refine q_virt (Z := MX0_askOfFamily) (c := (RX0, TX0, 2)) (toV_s eK7) dX2_passYear_31 mX2_127.1 mX2_127.2 (Nat.le_of_ble_eq_true rfl) rfl rfl (Nat.le_of_ble_eq_true rfl) (Nat.le_of_ble_eq_true rfl) rfl rfl ?_
      show Go O (d + 1) MX2_passYear 34 [some (.ref v0), some (.int s1)] [] K7 P
      refine g_aload_n dX2_passYear_34 rfl ?_
      obtain ⟨x8, ex8, h⟩ := bs h
      refine q_getA dX2_passYear_35 fX2_15 ex8 ?_
      refine g_iload_n dX2_passYear_38 rfl ?_
      refine g_sipush (v := (nI 999)) dX2_passYear_39 (by decide) ?_
      refine g_aload_n dX2_passYear_42 rfl ?_
      obtain ⟨x9, ex9, h⟩ := bs h
      refine q_getA dX2_passYear_43 fX2_15 ex9 ?_
      refine g_iload_n dX2_passYear_46 rfl ?_
      obtain ⟨x10, ex10, h⟩ := bs h
      refine q_iald dX2_passYear_47 ex10 ?_
      refine g_aload_n dX2_passYear_48 rfl ?_
      obtain ⟨x11, ex11, h⟩ := bs h
      refine q_getA dX2_passYear_49 fX2_67 ex11 ?_
      refine g_aload_n dX2_passYear_52 rfl ?_
      obtain ⟨p12, ep12, h⟩ := bs h
      refine q_virt (Z := MX2_inForce) (c := (RX2, TX2, 18)) (toR_s ep12) dX2_passYear_53 mX2_106.1 mX2_106.2 (Nat.le_of_ble_eq_true rfl) rfl rfl (Nat.le_of_ble_eq_true rfl) (Nat.le_of_ble_eq_true rfl) rfl rfl ?_
      show Go O (d + 1) MX2_passYear 56 [some (.ref v0), some (.int s1)] [va_rf p12.1, .ref x11, .int x10, .int (nI 999), .int s1, .ref x8] p12.2 P
      refine g_iconst (v := (nI 2)) dX2_passYear_56 (by decide) ?_
      obtain ⟨p13, ep13, h⟩ := bs h
      refine q_virt (Z := MX0_told) (c := (RX0, TX0, 2)) (toI_s ep13) dX2_passYear_57 mX2_120.1 mX2_120.2 (Nat.le_of_ble_eq_true rfl) rfl rfl (Nat.le_of_ble_eq_true rfl) (by cases p12.1 <;> exact Nat.le_of_ble_eq_true rfl) rfl rfl ?_
      show Go O (d + 1) MX2_passYear 60 [some (.ref v0), some (.int s1)] [.int p13.1, .int x10, .int (nI 999), .int s1, .ref x8] p13.2 P
      refine g_iadd dX2_passYear_60 ?_
      refine g_min dX2_passYear_61 mX2_141 (Nat.le_of_ble_eq_true rfl) (mNo2_h3 rfl) ?_
      obtain ⟨K14, eK14, h⟩ := bs h
      refine q_iast dX2_passYear_64 eK14 ?_
      refine q_iinc (w := nI 1) (ls' := [some (.ref v0), some (.int (s1 + nI 1))]) dX2_passYear_65 (by decide) rfl (by decide) rfl ?_
      refine g_goto (t := 17) dX2_passYear_68 (by decide) ?_
      refine Go_le ?_ (hin ((s1 + nI 1), K14) (Option.some.inj h).symm)
      exact And.intro rfl (And.intro rfl (trivial))
noncomputable def F_X2_passYear_j123 (O : mO) (d : Nat) (v0 : Nat) (v1 : Int32) (w0 : Int32) (w1 : Int32) (w2 : Nat) (K : mH) : Option ((Int32 × mH) ⊕ (mH)) :=
  (wrI K w2 w1 w0).bind fun K31 =>
  some (.inl ((v1 + nI 1), K31))
theorem e_X2_passYear_j123 {O : mO} {d : Nat} {v0 : Nat} {v1 : Int32} {w0 : Int32} {w1 : Int32} {w2 : Nat} {K : mH} {P : Option Value → mH → Prop} {y : (Int32 × mH) ⊕ (mH)} (hin : ∀ q : Int32 × mH, y = .inl q → Go O (d + 1) MX2_passYear 73 [some (.ref v0), some (.int q.1)] [] q.2 P) (hex : ∀ q : mH, y = .inr q → Go O (d + 1) MX2_passYear 130 [some (.ref v0), none] [] q P) (h : F_X2_passYear_j123 O d v0 v1 w0 w1 w2 K = some y) : Go O (d + 1) MX2_passYear 123 [some (.ref v0), some (.int v1)] [.int w0, .int w1, .ref w2] K P := by
  unfold F_X2_passYear_j123 at h
  obtain ⟨K31, eK31, h⟩ := bs h
  refine q_iast dX2_passYear_123 eK31 ?_
  refine q_iinc (w := nI 1) (ls' := [some (.ref v0), some (.int (v1 + nI 1))]) dX2_passYear_124 (by decide) rfl (by decide) rfl ?_
  refine g_goto (t := 73) dX2_passYear_127 (by decide) ?_
  refine Go_le ?_ (hin ((v1 + nI 1), K31) (Option.some.inj h).symm)
  exact And.intro rfl (And.intro rfl (trivial))
noncomputable def F_X2_passYear_l73 (O : mO) (d : Nat) (v0 : Nat) (s1 : Int32) (K : mH) : Option ((Int32 × mH) ⊕ (mH)) :=
  (gtI K v0 2 13).bind fun x16 =>
  if x16 ≤ s1 then
    some (.inr K)
  else
    (toI (vc O d 2 MX2_isIn v0 [.int s1] K)).bind fun p18 =>
    if p18.1 = 0 then
      some (.inl ((s1 + nI 1), p18.2))
    else
      (gtA p18.2 v0 2 5).bind fun x21 =>
      (rdI O p18.2 x21 s1).bind fun x22 =>
      (wrI p18.2 x21 s1 (x22 - (nI 1))).bind fun K23 =>
      (gtA K23 v0 2 4).bind fun x24 =>
      (gtA K23 v0 2 5).bind fun x25 =>
      (rdI O K23 x25 s1).bind fun x26 =>
      if x26 = 0 then
        F_X2_passYear_j123 O d v0 s1 (-1) s1 x24 K23
      else
        (gtA K23 v0 2 4).bind fun x29 =>
        (rdI O K23 x29 s1).bind fun x30 =>
        F_X2_passYear_j123 O d v0 s1 x30 s1 x24 K23
theorem e_X2_passYear_l73 {O : mO} {d : Nat} {v0 : Nat} {P : Option Value → mH → Prop} {x : mH} (hex : ∀ q : mH, x = q → Go O (d + 1) MX2_passYear 130 [some (.ref v0), none] [] q P) : ∀ (f : Nat) (q : Int32 × mH), lupF (fun (q : Int32 × mH) => F_X2_passYear_l73 O d v0 q.1 q.2) f q = some x → Go O (d + 1) MX2_passYear 73 [some (.ref v0), some (.int q.1)] [] q.2 P := by
  intro f
  induction f with
  | zero =>
    intro q h
    cases h
  | succ f ih =>
    intro q h
    obtain ⟨y, h, hy1, hy2⟩ := lupF_s h
    have hin : ∀ q : Int32 × mH, y = .inl q → Go O (d + 1) MX2_passYear 73 [some (.ref v0), some (.int q.1)] [] q.2 P := fun q e => ih q (hy1 q e)
    replace hex : ∀ q : mH, y = .inr q → Go O (d + 1) MX2_passYear 130 [some (.ref v0), none] [] q P := fun q e => hex q (hy2 q e).symm
    clear ih hy1 hy2
    obtain ⟨s1, K⟩ := q
    dsimp only at h ⊢
    unfold F_X2_passYear_l73 at h
    refine g_iload_n dX2_passYear_73 rfl ?_
    refine g_aload_n dX2_passYear_74 rfl ?_
    obtain ⟨x16, ex16, h⟩ := bs h
    refine q_getI dX2_passYear_75 fX2_52 ex16 ?_
    refine g_ic_ge (t := 130) dX2_passYear_78 (by decide) (fun c17 => ?_) (fun c17 => ?_)
    · rw [if_pos c17] at h
      refine Go_le ?_ (hex K (Option.some.inj h).symm)
      exact And.intro rfl (trivial)
    · rw [if_neg c17] at h
      refine g_aload_n dX2_passYear_81 rfl ?_
      refine g_iload_n dX2_passYear_82 rfl ?_
      obtain ⟨p18, ep18, h⟩ := bs h
      refine q_virt (Z := MX2_isIn) (c := (RX2, TX2, 18)) (toI_s ep18) dX2_passYear_83 mX2_103.1 mX2_103.2 (Nat.le_of_ble_eq_true rfl) rfl rfl (Nat.le_of_ble_eq_true rfl) (Nat.le_of_ble_eq_true rfl) rfl rfl ?_
      show Go O (d + 1) MX2_passYear 86 [some (.ref v0), some (.int s1)] [.int p18.1] p18.2 P
      refine g_if_eq (t := 124) dX2_passYear_86 (by decide) (fun c20 => ?_) (fun c20 => ?_)
      · rw [if_pos c20] at h
        refine q_iinc (w := nI 1) (ls' := [some (.ref v0), some (.int (s1 + nI 1))]) dX2_passYear_124 (by decide) rfl (by decide) rfl ?_
        refine g_goto (t := 73) dX2_passYear_127 (by decide) ?_
        refine Go_le ?_ (hin ((s1 + nI 1), p18.2) (Option.some.inj h).symm)
        exact And.intro rfl (And.intro rfl (trivial))
      · rw [if_neg c20] at h
        refine g_aload_n dX2_passYear_89 rfl ?_
        obtain ⟨x21, ex21, h⟩ := bs h
        refine q_getA dX2_passYear_90 fX2_24 ex21 ?_
        refine g_iload_n dX2_passYear_93 rfl ?_
        refine g_dup2 dX2_passYear_94 rfl rfl ?_
        obtain ⟨x22, ex22, h⟩ := bs h
        refine q_iald dX2_passYear_95 ex22 ?_
        refine g_iconst (v := (nI 1)) dX2_passYear_96 (by decide) ?_
        refine g_isub dX2_passYear_97 ?_
        obtain ⟨K23, eK23, h⟩ := bs h
        refine q_iast dX2_passYear_98 eK23 ?_
        refine g_aload_n dX2_passYear_99 rfl ?_
        obtain ⟨x24, ex24, h⟩ := bs h
        refine q_getA dX2_passYear_100 fX2_21 ex24 ?_
        refine g_iload_n dX2_passYear_103 rfl ?_
        refine g_aload_n dX2_passYear_104 rfl ?_
        obtain ⟨x25, ex25, h⟩ := bs h
        refine q_getA dX2_passYear_105 fX2_24 ex25 ?_
        refine g_iload_n dX2_passYear_108 rfl ?_
        obtain ⟨x26, ex26, h⟩ := bs h
        refine q_iald dX2_passYear_109 ex26 ?_
        refine g_if_ne (t := 117) dX2_passYear_110 (by decide) (fun c28 => ?_) (fun c28 => ?_)
        · rw [if_neg c28] at h
          refine g_aload_n dX2_passYear_117 rfl ?_
          obtain ⟨x29, ex29, h⟩ := bs h
          refine q_getA dX2_passYear_118 fX2_21 ex29 ?_
          refine g_iload_n dX2_passYear_121 rfl ?_
          obtain ⟨x30, ex30, h⟩ := bs h
          refine q_iald dX2_passYear_122 ex30 ?_
          refine Go_le ?_ (e_X2_passYear_j123 hin hex h)
          exact And.intro rfl (And.intro rfl (trivial))
        · rw [if_pos c28] at h
          refine g_iconst (v := (-1)) dX2_passYear_113 (by decide) ?_
          refine g_goto (t := 123) dX2_passYear_114 (by decide) ?_
          refine Go_le ?_ (e_X2_passYear_j123 hin hex h)
          exact And.intro rfl (And.intro rfl (trivial))
noncomputable def F_X2_passYear (O : mO) (d : Nat) (a0 : Nat) (K : mH) : Option (Int32 × mH) :=
  (gtA K a0 2 9).bind fun x1 =>
  (rdI O K x1 (nI 0)).bind fun x2 =>
  if x2 < (nI 999) then
    (lupF (fun (q : Int32 × mH) => F_X2_passYear_l17 O d a0 q.1 q.2) FU ((nI 0), K)).bind fun r15 =>
    (lupF (fun (q : Int32 × mH) => F_X2_passYear_l73 O d a0 q.1 q.2) FU ((nI 0), r15)).bind fun r32 =>
    (gtA r32 a0 2 9).bind fun x33 =>
    (rdI O r32 x33 (nI 0)).bind fun x34 =>
    (wrI r32 x33 (nI 0) (x34 + (nI 1))).bind fun K35 =>
    (gtA K35 a0 2 9).bind fun x36 =>
    (rdI O K35 x36 (nI 0)).bind fun x37 =>
    some (x37, K35)
  else
    some ((-3), K)
theorem e_X2_passYear {O : mO} {d : Nat} {a0 : Nat} {K : mH} {r0 : Int32} {K0 : mH} (h : F_X2_passYear O d a0 K = some (r0, K0)) : ev O (d + 1) MX2_passYear [.ref a0] K = some (some (.int r0), K0) := by
  refine Rn_evx ?_
  show Go O (d + 1) MX2_passYear 0 [some (.ref a0), none] [] K _
  generalize hP : (fun (r : Option Value) (K' : mH) => (r, K') = (some (.int r0), K0)) = P
  have hret : ∀ (r : Int32) (K' : mH), (r, K') = (r0, K0) → P (some (.int r)) K' := by
    intro r K' e
    cases e
    subst hP
    rfl
  clear hP
  unfold F_X2_passYear at h
  refine g_aload_n dX2_passYear_0 rfl ?_
  obtain ⟨x1, ex1, h⟩ := bs h
  refine q_getA dX2_passYear_1 fX2_36 ex1 ?_
  refine g_iconst (v := (nI 0)) dX2_passYear_4 (by decide) ?_
  obtain ⟨x2, ex2, h⟩ := bs h
  refine q_iald dX2_passYear_5 ex2 ?_
  refine g_sipush (v := (nI 999)) dX2_passYear_6 (by decide) ?_
  refine g_ic_lt (t := 15) dX2_passYear_9 (by decide) (fun c3 => ?_) (fun c3 => ?_)
  · rw [if_pos c3] at h
    refine g_iconst (v := (nI 0)) dX2_passYear_15 (by decide) ?_
    refine g_istore_n (ls' := [some (.ref a0), some (.int (nI 0))]) dX2_passYear_16 (by decide) rfl ?_
    obtain ⟨r15, er15, h⟩ := bs h
    have hx : Go O (d + 1) MX2_passYear 71 [some (.ref a0), none] [] r15 P := by
      refine g_iconst (v := (nI 0)) dX2_passYear_71 (by decide) ?_
      refine g_istore_n (ls' := [some (.ref a0), some (.int (nI 0))]) dX2_passYear_72 (by decide) rfl ?_
      obtain ⟨r32, er32, h⟩ := bs h
      have hx : Go O (d + 1) MX2_passYear 130 [some (.ref a0), none] [] r32 P := by
        refine g_aload_n dX2_passYear_130 rfl ?_
        obtain ⟨x33, ex33, h⟩ := bs h
        refine q_getA dX2_passYear_131 fX2_36 ex33 ?_
        refine g_iconst (v := (nI 0)) dX2_passYear_134 (by decide) ?_
        refine g_dup2 dX2_passYear_135 rfl rfl ?_
        obtain ⟨x34, ex34, h⟩ := bs h
        refine q_iald dX2_passYear_136 ex34 ?_
        refine g_iconst (v := (nI 1)) dX2_passYear_137 (by decide) ?_
        refine g_iadd dX2_passYear_138 ?_
        obtain ⟨K35, eK35, h⟩ := bs h
        refine q_iast dX2_passYear_139 eK35 ?_
        refine g_aload_n dX2_passYear_140 rfl ?_
        obtain ⟨x36, ex36, h⟩ := bs h
        refine q_getA dX2_passYear_141 fX2_36 ex36 ?_
        refine g_iconst (v := (nI 0)) dX2_passYear_144 (by decide) ?_
        obtain ⟨x37, ex37, h⟩ := bs h
        refine q_iald dX2_passYear_145 ex37 ?_
        exact g_ireturn dX2_passYear_146 rfl (by first | rfl | decide) (hret _ _ (Option.some.inj h))
      refine Go_le ?_ (e_X2_passYear_l73 (fun q e => by cases e; exact hx) FU ((nI 0), r15) er32)
      exact And.intro rfl (And.intro rfl (trivial))
    refine Go_le ?_ (e_X2_passYear_l17 (fun q e => by cases e; exact hx) FU ((nI 0), K) er15)
    exact And.intro rfl (And.intro rfl (trivial))
  · rw [if_neg c3] at h
    refine g_bipush (v := (-3)) dX2_passYear_12 (by decide) ?_
    exact g_ireturn dX2_passYear_14 rfl (by first | rfl | decide) (hret _ _ (Option.some.inj h))
noncomputable def F_X9_begin (O : mO) (d : Nat) (a0 : Nat) (a1 : Nat) (a2 : Nat) (K : mH) : Option (mH) :=
  (gtA K a0 9 2).bind fun x1 =>
  (toV (vc O d 2 MX2_copyFrom x1 [.ref a1] K)).bind fun K2 =>
  (gtA K2 a0 9 3).bind fun x3 =>
  (toV (vc O d 3 MX3_copyFrom x3 [.ref a2] K2)).bind fun K4 =>
  (ptI K4 a0 9 4 (nI 0)).bind fun K5 =>
  (ptI K5 a0 9 5 (-1)).bind fun K6 =>
  some K6
theorem e_X9_begin {O : mO} {d : Nat} {a0 : Nat} {a1 : Nat} {a2 : Nat} {K : mH} {x : mH} (h : F_X9_begin O d a0 a1 a2 K = some x) : ev O (d + 1) MX9_begin [.ref a0, .ref a1, .ref a2] K = some (none, x) := by
  refine Rn_evx ?_
  show Go O (d + 1) MX9_begin 0 [some (.ref a0), some (.ref a1), some (.ref a2)] [] K _
  generalize hP : (fun (r : Option Value) (K' : mH) => (r, K') = (none, x)) = P
  have hret : ∀ K' : mH, K' = x → P none K' := by
    intro K' e
    subst hP e
    rfl
  clear hP
  unfold F_X9_begin at h
  refine g_aload_n dX9_begin_0 rfl ?_
  obtain ⟨x1, ex1, h⟩ := bs h
  refine q_getA dX9_begin_1 fX9_38 ex1 ?_
  refine g_aload_n dX9_begin_4 rfl ?_
  obtain ⟨K2, eK2, h⟩ := bs h
  refine q_virt (Z := MX2_copyFrom) (c := (RX2, TX2, 18)) (toV_s eK2) dX9_begin_5 mX9_42.1 mX9_42.2 (Nat.le_of_ble_eq_true rfl) rfl rfl (Nat.le_of_ble_eq_true rfl) (Nat.le_of_ble_eq_true rfl) rfl rfl ?_
  show Go O (d + 1) MX9_begin 8 [some (.ref a0), some (.ref a1), some (.ref a2)] [] K2 P
  refine g_aload_n dX9_begin_8 rfl ?_
  obtain ⟨x3, ex3, h⟩ := bs h
  refine q_getA dX9_begin_9 fX9_18 ex3 ?_
  refine g_aload_n dX9_begin_12 rfl ?_
  obtain ⟨K4, eK4, h⟩ := bs h
  refine q_virt (Z := MX3_copyFrom) (c := (RX3, TX3, 3)) (toV_s eK4) dX9_begin_13 mX9_46.1 mX9_46.2 (Nat.le_of_ble_eq_true rfl) rfl rfl (Nat.le_of_ble_eq_true rfl) (Nat.le_of_ble_eq_true rfl) rfl rfl ?_
  show Go O (d + 1) MX9_begin 16 [some (.ref a0), some (.ref a1), some (.ref a2)] [] K4 P
  refine g_aload_n dX9_begin_16 rfl ?_
  refine g_iconst (v := (nI 0)) dX9_begin_17 (by decide) ?_
  obtain ⟨K5, eK5, h⟩ := bs h
  refine q_put (c := (RX9, TX9, 6)) dX9_begin_18 fX9_22 rfl rfl rfl (fun h => absurd h (by decide)) eK5 ?_
  refine g_aload_n dX9_begin_21 rfl ?_
  refine g_iconst (v := (-1)) dX9_begin_22 (by decide) ?_
  obtain ⟨K6, eK6, h⟩ := bs h
  refine q_put (c := (RX9, TX9, 6)) dX9_begin_23 fX9_26 rfl rfl rfl (fun h => absurd h (by decide)) eK6 ?_
  exact g_return dX9_begin_26 rfl (hret _ (Option.some.inj h))
noncomputable def F_X9_carryOut_l12 (O : mO) (d : Nat) (v0 : Nat) (v1 : Nat) (v2 : Int32) (s3 : Int32) (K : mH) : Option ((Int32 × mH) ⊕ ((mH) ⊕ (Int32 × mH))) :=
  (toI (vc O d 5 MX5_part v1 [.int v2, .int (nI 1)] K)).bind fun p3 =>
  if p3.1 ≤ s3 then
    some (.inr (.inl p3.2))
  else
    (toV (vc O d 9 MX9_setWords v0 [] p3.2)).bind fun K5 =>
    (gtA K5 v0 9 0).bind fun x6 =>
    (gtA K5 v0 9 1).bind fun x7 =>
    (toI (vc O d 8 MX8_work x6 [.ref v1, .int v2, .int (nI 4), .ref x7] K5)).bind fun p8 =>
    if (if p8.1 = (nI 1) then (nI 1) else (nI 0)) = 0 then
      some (.inl ((s3 + nI 1), p8.2))
    else
      (toI (vc O d 9 MX9_canDo v0 [.ref v1, .int v2] p8.2)).bind fun p11 =>
      if p11.1 = 0 then
        some (.inr (.inr (v2, p11.2)))
      else
        some (.inl ((s3 + nI 1), p11.2))
theorem e_X9_carryOut_l12 {O : mO} {d : Nat} {v0 : Nat} {v1 : Nat} {v2 : Int32} {P : Option Value → mH → Prop} {x : (mH) ⊕ (Int32 × mH)} (hex : ∀ q : mH, x = .inl q → Go O (d + 1) MX9_carryOut 73 [some (.ref v0), some (.ref v1), some (.int v2), none, none] [] q P) (hrt : ∀ (r : Int32) (K' : mH), x = .inr (r, K') → P (some (.int r)) K') : ∀ (f : Nat) (q : Int32 × mH), lupF (fun (q : Int32 × mH) => F_X9_carryOut_l12 O d v0 v1 v2 q.1 q.2) f q = some x → Go O (d + 1) MX9_carryOut 12 [some (.ref v0), some (.ref v1), some (.int v2), some (.int q.1), none] [] q.2 P := by
  intro f
  induction f with
  | zero =>
    intro q h
    cases h
  | succ f ih =>
    intro q h
    obtain ⟨y, h, hy1, hy2⟩ := lupF_s h
    have hin : ∀ q : Int32 × mH, y = .inl q → Go O (d + 1) MX9_carryOut 12 [some (.ref v0), some (.ref v1), some (.int v2), some (.int q.1), none] [] q.2 P := fun q e => ih q (hy1 q e)
    replace hex : ∀ q : mH, y = .inr (.inl q) → Go O (d + 1) MX9_carryOut 73 [some (.ref v0), some (.ref v1), some (.int v2), none, none] [] q P := fun q e => hex q (hy2 _ e).symm
    replace hrt : ∀ (r : Int32) (K' : mH), y = .inr (.inr (r, K')) → P (some (.int r)) K' := fun r K' e => hrt r K' (hy2 _ e).symm
    clear ih hy1 hy2
    obtain ⟨s3, K⟩ := q
    dsimp only at h ⊢
    unfold F_X9_carryOut_l12 at h
    refine g_iload_n dX9_carryOut_12 rfl ?_
    refine g_aload_n dX9_carryOut_13 rfl ?_
    refine g_iload_n dX9_carryOut_14 rfl ?_
    refine g_iconst (v := (nI 1)) dX9_carryOut_15 (by decide) ?_
    obtain ⟨p3, ep3, h⟩ := bs h
    refine q_virt (Z := MX5_part) (c := (RX5, TX5, 4)) (toI_s ep3) dX9_carryOut_16 mX9_54.1 mX9_54.2 (Nat.le_of_ble_eq_true rfl) rfl rfl (Nat.le_of_ble_eq_true rfl) (Nat.le_of_ble_eq_true rfl) rfl rfl ?_
    show Go O (d + 1) MX9_carryOut 19 [some (.ref v0), some (.ref v1), some (.int v2), some (.int s3), none] [.int p3.1, .int s3] p3.2 P
    refine g_ic_ge (t := 73) dX9_carryOut_19 (by decide) (fun c4 => ?_) (fun c4 => ?_)
    · rw [if_pos c4] at h
      refine Go_le ?_ (hex p3.2 (Option.some.inj h).symm)
      exact And.intro rfl (And.intro rfl (And.intro rfl (trivial)))
    · rw [if_neg c4] at h
      refine g_aload_n dX9_carryOut_22 rfl ?_
      obtain ⟨K5, eK5, h⟩ := bs h
      refine q_virt (Z := MX9_setWords) (c := (RX9, TX9, 6)) (toV_s eK5) dX9_carryOut_23 mX9_58.1 mX9_58.2 (Nat.le_of_ble_eq_true rfl) rfl rfl (Nat.le_of_ble_eq_true rfl) (Nat.le_of_ble_eq_true rfl) rfl rfl ?_
      show Go O (d + 1) MX9_carryOut 26 [some (.ref v0), some (.ref v1), some (.int v2), some (.int s3), none] [] K5 P
      refine g_aload_n dX9_carryOut_26 rfl ?_
      obtain ⟨x6, ex6, h⟩ := bs h
      refine q_getA dX9_carryOut_27 fX9_29 ex6 ?_
      refine g_aload_n dX9_carryOut_30 rfl ?_
      refine g_iload_n dX9_carryOut_31 rfl ?_
      refine g_iconst (v := (nI 4)) dX9_carryOut_32 (by decide) ?_
      refine g_aload_n dX9_carryOut_33 rfl ?_
      obtain ⟨x7, ex7, h⟩ := bs h
      refine q_getA dX9_carryOut_34 fX9_11 ex7 ?_
      obtain ⟨p8, ep8, h⟩ := bs h
      refine q_virt (Z := MX8_work) (c := (RX8, TX8, 2)) (toI_s ep8) dX9_carryOut_37 mX9_61.1 mX9_61.2 (Nat.le_of_ble_eq_true rfl) rfl rfl (Nat.le_of_ble_eq_true rfl) (Nat.le_of_ble_eq_true rfl) rfl rfl ?_
      show Go O (d + 1) MX9_carryOut 40 [some (.ref v0), some (.ref v1), some (.int v2), some (.int s3), none] [.int p8.1] p8.2 P
      refine g_iconst (v := (nI 1)) dX9_carryOut_40 (by decide) ?_
      have hj : Go O (d + 1) MX9_carryOut 49 [some (.ref v0), some (.ref v1), some (.int v2), some (.int s3), none] [.int (if p8.1 = (nI 1) then (nI 1) else (nI 0))] p8.2 P := by
        refine g_istore (ls' := [some (.ref v0), some (.ref v1), some (.int v2), some (.int s3), some (.int (if p8.1 = (nI 1) then (nI 1) else (nI 0)))]) dX9_carryOut_49 (by decide) rfl ?_
        refine g_iload dX9_carryOut_51 rfl ?_
        refine g_if_eq (t := 67) dX9_carryOut_53 (by decide) (fun c10 => ?_) (fun c10 => ?_)
        · rw [if_pos c10] at h
          refine q_iinc (w := nI 1) (ls' := [some (.ref v0), some (.ref v1), some (.int v2), some (.int (s3 + nI 1)), some (.int (if p8.1 = (nI 1) then (nI 1) else (nI 0)))]) dX9_carryOut_67 (by decide) rfl (by decide) rfl ?_
          refine g_goto (t := 12) dX9_carryOut_70 (by decide) ?_
          refine Go_le ?_ (hin ((s3 + nI 1), p8.2) (Option.some.inj h).symm)
          exact And.intro rfl (And.intro rfl (And.intro rfl (And.intro rfl (trivial))))
        · rw [if_neg c10] at h
          refine g_aload_n dX9_carryOut_56 rfl ?_
          refine g_aload_n dX9_carryOut_57 rfl ?_
          refine g_iload_n dX9_carryOut_58 rfl ?_
          obtain ⟨p11, ep11, h⟩ := bs h
          refine q_virt (Z := MX9_canDo) (c := (RX9, TX9, 6)) (toI_s ep11) dX9_carryOut_59 mX9_67.1 mX9_67.2 (Nat.le_of_ble_eq_true rfl) rfl rfl (Nat.le_of_ble_eq_true rfl) (Nat.le_of_ble_eq_true rfl) rfl rfl ?_
          show Go O (d + 1) MX9_carryOut 62 [some (.ref v0), some (.ref v1), some (.int v2), some (.int s3), some (.int (if p8.1 = (nI 1) then (nI 1) else (nI 0)))] [.int p11.1] p11.2 P
          refine g_if_ne (t := 67) dX9_carryOut_62 (by decide) (fun c12 => ?_) (fun c12 => ?_)
          · rw [if_neg c12] at h
            refine q_iinc (w := nI 1) (ls' := [some (.ref v0), some (.ref v1), some (.int v2), some (.int (s3 + nI 1)), some (.int (if p8.1 = (nI 1) then (nI 1) else (nI 0)))]) dX9_carryOut_67 (by decide) rfl (by decide) rfl ?_
            refine g_goto (t := 12) dX9_carryOut_70 (by decide) ?_
            refine Go_le ?_ (hin ((s3 + nI 1), p11.2) (Option.some.inj h).symm)
            exact And.intro rfl (And.intro rfl (And.intro rfl (And.intro rfl (trivial))))
          · rw [if_pos c12] at h
            refine g_iload_n dX9_carryOut_65 rfl ?_
            exact g_ireturn dX9_carryOut_66 rfl (by first | rfl | decide) (hrt _ _ (Option.some.inj h).symm)
      refine g_ic_ne (t := 48) dX9_carryOut_41 (by decide) (fun c9 => ?_) (fun c9 => ?_)
      · skip
        refine g_iconst (v := (nI 0)) dX9_carryOut_48 (by decide) ?_
        have hk : Go O (d + 1) MX9_carryOut 49 [some (.ref v0), some (.ref v1), some (.int v2), some (.int s3), none] [.int (nI 0)] p8.2 P := by simpa only [if_neg c9] using hj
        refine Go_le ?_ hk
        exact And.intro rfl (And.intro rfl (And.intro rfl (And.intro rfl (trivial))))
      · skip
        refine g_iconst (v := (nI 1)) dX9_carryOut_44 (by decide) ?_
        refine g_goto (t := 49) dX9_carryOut_45 (by decide) ?_
        have hk : Go O (d + 1) MX9_carryOut 49 [some (.ref v0), some (.ref v1), some (.int v2), some (.int s3), none] [.int (nI 1)] p8.2 P := by simpa only [if_pos c9] using hj
        refine Go_le ?_ hk
        exact And.intro rfl (And.intro rfl (And.intro rfl (And.intro rfl (trivial))))
noncomputable def F_X9_carryOut_l2 (O : mO) (d : Nat) (v0 : Nat) (v1 : Nat) (s2 : Int32) (K : mH) : Option ((Int32 × mH) ⊕ ((mH) ⊕ (Int32 × mH))) :=
  (gtI K v1 5 3).bind fun x1 =>
  if x1 ≤ s2 then
    some (.inr (.inl K))
  else
    (lupF (fun (q : Int32 × mH) => F_X9_carryOut_l12 O d v0 v1 s2 q.1 q.2) FU ((nI 0), K)).bind fun r13 => match r13 with
      | .inl r14 =>
      
        some (.inl ((s2 + nI 1), r14))
      | .inr r14 => some (.inr (.inr r14))
theorem e_X9_carryOut_l2 {O : mO} {d : Nat} {v0 : Nat} {v1 : Nat} {P : Option Value → mH → Prop} {x : (mH) ⊕ (Int32 × mH)} (hex : ∀ q : mH, x = .inl q → Go O (d + 1) MX9_carryOut 79 [none, none, none, none, none] [] q P) (hrt : ∀ (r : Int32) (K' : mH), x = .inr (r, K') → P (some (.int r)) K') : ∀ (f : Nat) (q : Int32 × mH), lupF (fun (q : Int32 × mH) => F_X9_carryOut_l2 O d v0 v1 q.1 q.2) f q = some x → Go O (d + 1) MX9_carryOut 2 [some (.ref v0), some (.ref v1), some (.int q.1), none, none] [] q.2 P := by
  intro f
  induction f with
  | zero =>
    intro q h
    cases h
  | succ f ih =>
    intro q h
    obtain ⟨y, h, hy1, hy2⟩ := lupF_s h
    have hin : ∀ q : Int32 × mH, y = .inl q → Go O (d + 1) MX9_carryOut 2 [some (.ref v0), some (.ref v1), some (.int q.1), none, none] [] q.2 P := fun q e => ih q (hy1 q e)
    replace hex : ∀ q : mH, y = .inr (.inl q) → Go O (d + 1) MX9_carryOut 79 [none, none, none, none, none] [] q P := fun q e => hex q (hy2 _ e).symm
    replace hrt : ∀ (r : Int32) (K' : mH), y = .inr (.inr (r, K')) → P (some (.int r)) K' := fun r K' e => hrt r K' (hy2 _ e).symm
    clear ih hy1 hy2
    obtain ⟨s2, K⟩ := q
    dsimp only at h ⊢
    unfold F_X9_carryOut_l2 at h
    refine g_iload_n dX9_carryOut_2 rfl ?_
    refine g_aload_n dX9_carryOut_3 rfl ?_
    obtain ⟨x1, ex1, h⟩ := bs h
    refine q_getI dX9_carryOut_4 fX9_49 ex1 ?_
    refine g_ic_ge (t := 79) dX9_carryOut_7 (by decide) (fun c2 => ?_) (fun c2 => ?_)
    · rw [if_pos c2] at h
      refine Go_le ?_ (hex K (Option.some.inj h).symm)
      exact trivial
    · rw [if_neg c2] at h
      refine g_iconst (v := (nI 0)) dX9_carryOut_10 (by decide) ?_
      refine g_istore_n (ls' := [some (.ref v0), some (.ref v1), some (.int s2), some (.int (nI 0)), none]) dX9_carryOut_11 (by decide) rfl ?_
      obtain ⟨r13, er13, h⟩ := bs h
      rcases r13 with r14 | r14
      · dsimp only at h
        have hx : Go O (d + 1) MX9_carryOut 73 [some (.ref v0), some (.ref v1), some (.int s2), none, none] [] r14 P := by
          refine q_iinc (w := nI 1) (ls' := [some (.ref v0), some (.ref v1), some (.int (s2 + nI 1)), none, none]) dX9_carryOut_73 (by decide) rfl (by decide) rfl ?_
          refine g_goto (t := 2) dX9_carryOut_76 (by decide) ?_
          refine Go_le ?_ (hin ((s2 + nI 1), r14) (Option.some.inj h).symm)
          exact And.intro rfl (And.intro rfl (And.intro rfl (trivial)))
        refine Go_le ?_ (e_X9_carryOut_l12 (fun q e => by cases e; exact hx) (fun r K' e => by cases e) FU ((nI 0), K) er13)
        exact And.intro rfl (And.intro rfl (And.intro rfl (And.intro rfl (trivial))))
      · dsimp only at h
        refine Go_le ?_ (e_X9_carryOut_l12 (fun q e => by cases e) (fun r K' e => by cases e; exact hrt _ _ (Option.some.inj h).symm) FU ((nI 0), K) er13)
        exact And.intro rfl (And.intro rfl (And.intro rfl (And.intro rfl (trivial))))
noncomputable def F_X9_carryOut (O : mO) (d : Nat) (a0 : Nat) (a1 : Nat) (K : mH) : Option (Int32 × mH) :=
  (lupF (fun (q : Int32 × mH) => F_X9_carryOut_l2 O d a0 a1 q.1 q.2) FU ((nI 0), K)).bind fun r15 => match r15 with
    | .inl r16 =>
    
      some ((-1), r16)
    | .inr r16 => some r16
theorem e_X9_carryOut {O : mO} {d : Nat} {a0 : Nat} {a1 : Nat} {K : mH} {r0 : Int32} {K0 : mH} (h : F_X9_carryOut O d a0 a1 K = some (r0, K0)) : ev O (d + 1) MX9_carryOut [.ref a0, .ref a1] K = some (some (.int r0), K0) := by
  refine Rn_evx ?_
  show Go O (d + 1) MX9_carryOut 0 [some (.ref a0), some (.ref a1), none, none, none] [] K _
  generalize hP : (fun (r : Option Value) (K' : mH) => (r, K') = (some (.int r0), K0)) = P
  have hret : ∀ (r : Int32) (K' : mH), (r, K') = (r0, K0) → P (some (.int r)) K' := by
    intro r K' e
    cases e
    subst hP
    rfl
  clear hP
  unfold F_X9_carryOut at h
  refine g_iconst (v := (nI 0)) dX9_carryOut_0 (by decide) ?_
  refine g_istore_n (ls' := [some (.ref a0), some (.ref a1), some (.int (nI 0)), none, none]) dX9_carryOut_1 (by decide) rfl ?_
  obtain ⟨r15, er15, h⟩ := bs h
  rcases r15 with r16 | r16
  · dsimp only at h
    have hx : Go O (d + 1) MX9_carryOut 79 [none, none, none, none, none] [] r16 P := by
      refine g_iconst (v := (-1)) dX9_carryOut_79 (by decide) ?_
      exact g_ireturn dX9_carryOut_80 rfl (by first | rfl | decide) (hret _ _ (Option.some.inj h))
    refine Go_le ?_ (e_X9_carryOut_l2 (fun q e => by cases e; exact hx) (fun r K' e => by cases e) FU ((nI 0), K) er15)
    exact And.intro rfl (And.intro rfl (And.intro rfl (trivial)))
  · dsimp only at h
    refine Go_le ?_ (e_X9_carryOut_l2 (fun q e => by cases e) (fun r K' e => by cases e; exact hret _ _ (Option.some.inj h)) FU ((nI 0), K) er15)
    exact And.intro rfl (And.intro rfl (And.intro rfl (trivial)))
noncomputable def F_X9_canDo_j112 (O : mO) (d : Nat) (w0 : Int32) (w1 : Nat) (K : mH) : Option (Int32 × mH) :=
  (ptI K w1 9 5 w0).bind fun K23 =>
  some ((nI 1), K23)
theorem e_X9_canDo_j112 {O : mO} {d : Nat} {w0 : Int32} {w1 : Nat} {K : mH} {P : Option Value → mH → Prop} {x : Int32 × mH} (hret : ∀ (r : Int32) (K' : mH), (r, K') = x → P (some (.int r)) K') (h : F_X9_canDo_j112 O d w0 w1 K = some x) : Go O (d + 1) MX9_canDo 112 [none, none, none, none, none, none, none] [.int w0, .ref w1] K P := by
  unfold F_X9_canDo_j112 at h
  obtain ⟨K23, eK23, h⟩ := bs h
  refine q_put (c := (RX9, TX9, 6)) dX9_canDo_112 fX9_26 rfl rfl rfl (fun h => absurd h (by decide)) eK23 ?_
  refine g_iconst (v := (nI 1)) dX9_canDo_115 (by decide) ?_
  exact g_ireturn dX9_canDo_116 rfl (by first | rfl | decide) (hret _ _ (Option.some.inj h))
noncomputable def F_X9_canDo (O : mO) (d : Nat) (a0 : Nat) (a1 : Nat) (a2 : Int32) (K : mH) : Option (Int32 × mH) :=
  (toI (vc O d 5 MX5_part a1 [.int a2, .int (nI 0)] K)).bind fun p1 =>
  (gtA p1.2 a0 9 0).bind fun x2 =>
  (gtA p1.2 a0 9 1).bind fun x3 =>
  (toI (vc O d 8 MX8_work x2 [.ref a1, .int a2, .int (nI 2), .ref x3] p1.2)).bind fun p4 =>
  (gtA p4.2 a0 9 0).bind fun x5 =>
  (gtI p4.2 x5 8 1).bind fun x6 =>
  if x6 = 0 then
    (gtA p4.2 a0 9 0).bind fun x8 =>
    (gtA p4.2 a0 9 1).bind fun x9 =>
    (toI (vc O d 8 MX8_work x8 [.ref a1, .int a2, .int (nI 3), .ref x9] p4.2)).bind fun p10 =>
    (gtA p10.2 a0 9 0).bind fun x11 =>
    (gtI p10.2 x11 8 1).bind fun x12 =>
    if x12 = 0 then
      (gtA p10.2 a0 9 2).bind fun x14 =>
      (gtA p10.2 a0 9 3).bind fun x15 =>
      (toI (ev O d MX10_act [.ref x14, .ref x15, .int p1.1, .int p4.1, .int p10.1] p10.2)).bind fun p16 =>
      if 0 ≤ p16.1 then
        (gtI p16.2 a0 9 4).bind fun x18 =>
        (ptI p16.2 a0 9 4 (x18 + (nI 1))).bind fun K19 =>
        if p1.1 = 0 then
          F_X9_canDo_j112 O d p16.1 a0 K19
        else
          (gtI K19 a0 9 5).bind fun x22 =>
          F_X9_canDo_j112 O d x22 a0 K19
      else
        some ((nI 0), p16.2)
    else
      some ((nI 0), p10.2)
  else
    some ((nI 0), p4.2)
theorem e_X9_canDo {O : mO} {d : Nat} {a0 : Nat} {a1 : Nat} {a2 : Int32} {K : mH} {r0 : Int32} {K0 : mH} (h : F_X9_canDo O d a0 a1 a2 K = some (r0, K0)) : ev O (d + 1) MX9_canDo [.ref a0, .ref a1, .int a2] K = some (some (.int r0), K0) := by
  refine Rn_evx ?_
  show Go O (d + 1) MX9_canDo 0 [some (.ref a0), some (.ref a1), some (.int a2), none, none, none, none] [] K _
  generalize hP : (fun (r : Option Value) (K' : mH) => (r, K') = (some (.int r0), K0)) = P
  have hret : ∀ (r : Int32) (K' : mH), (r, K') = (r0, K0) → P (some (.int r)) K' := by
    intro r K' e
    cases e
    subst hP
    rfl
  clear hP
  unfold F_X9_canDo at h
  refine g_aload_n dX9_canDo_0 rfl ?_
  refine g_iload_n dX9_canDo_1 rfl ?_
  refine g_iconst (v := (nI 0)) dX9_canDo_2 (by decide) ?_
  obtain ⟨p1, ep1, h⟩ := bs h
  refine q_virt (Z := MX5_part) (c := (RX5, TX5, 4)) (toI_s ep1) dX9_canDo_3 mX9_54.1 mX9_54.2 (Nat.le_of_ble_eq_true rfl) rfl rfl (Nat.le_of_ble_eq_true rfl) (Nat.le_of_ble_eq_true rfl) rfl rfl ?_
  show Go O (d + 1) MX9_canDo 6 [some (.ref a0), some (.ref a1), some (.int a2), none, none, none, none] [.int p1.1] p1.2 P
  refine g_istore_n (ls' := [some (.ref a0), some (.ref a1), some (.int a2), some (.int p1.1), none, none, none]) dX9_canDo_6 (by decide) rfl ?_
  refine g_aload_n dX9_canDo_7 rfl ?_
  obtain ⟨x2, ex2, h⟩ := bs h
  refine q_getA dX9_canDo_8 fX9_29 ex2 ?_
  refine g_aload_n dX9_canDo_11 rfl ?_
  refine g_iload_n dX9_canDo_12 rfl ?_
  refine g_iconst (v := (nI 2)) dX9_canDo_13 (by decide) ?_
  refine g_aload_n dX9_canDo_14 rfl ?_
  obtain ⟨x3, ex3, h⟩ := bs h
  refine q_getA dX9_canDo_15 fX9_11 ex3 ?_
  obtain ⟨p4, ep4, h⟩ := bs h
  refine q_virt (Z := MX8_work) (c := (RX8, TX8, 2)) (toI_s ep4) dX9_canDo_18 mX9_61.1 mX9_61.2 (Nat.le_of_ble_eq_true rfl) rfl rfl (Nat.le_of_ble_eq_true rfl) (Nat.le_of_ble_eq_true rfl) rfl rfl ?_
  show Go O (d + 1) MX9_canDo 21 [some (.ref a0), some (.ref a1), some (.int a2), some (.int p1.1), none, none, none] [.int p4.1] p4.2 P
  refine g_istore (ls' := [some (.ref a0), some (.ref a1), some (.int a2), some (.int p1.1), some (.int p4.1), none, none]) dX9_canDo_21 (by decide) rfl ?_
  refine g_aload_n dX9_canDo_23 rfl ?_
  obtain ⟨x5, ex5, h⟩ := bs h
  refine q_getA dX9_canDo_24 fX9_29 ex5 ?_
  obtain ⟨x6, ex6, h⟩ := bs h
  refine q_getI dX9_canDo_27 fX9_71 ex6 ?_
  refine g_if_eq (t := 35) dX9_canDo_30 (by decide) (fun c7 => ?_) (fun c7 => ?_)
  · rw [if_pos c7] at h
    refine g_aload_n dX9_canDo_35 rfl ?_
    obtain ⟨x8, ex8, h⟩ := bs h
    refine q_getA dX9_canDo_36 fX9_29 ex8 ?_
    refine g_aload_n dX9_canDo_39 rfl ?_
    refine g_iload_n dX9_canDo_40 rfl ?_
    refine g_iconst (v := (nI 3)) dX9_canDo_41 (by decide) ?_
    refine g_aload_n dX9_canDo_42 rfl ?_
    obtain ⟨x9, ex9, h⟩ := bs h
    refine q_getA dX9_canDo_43 fX9_11 ex9 ?_
    obtain ⟨p10, ep10, h⟩ := bs h
    refine q_virt (Z := MX8_work) (c := (RX8, TX8, 2)) (toI_s ep10) dX9_canDo_46 mX9_61.1 mX9_61.2 (Nat.le_of_ble_eq_true rfl) rfl rfl (Nat.le_of_ble_eq_true rfl) (Nat.le_of_ble_eq_true rfl) rfl rfl ?_
    show Go O (d + 1) MX9_canDo 49 [some (.ref a0), some (.ref a1), some (.int a2), some (.int p1.1), some (.int p4.1), none, none] [.int p10.1] p10.2 P
    refine g_istore (ls' := [some (.ref a0), some (.ref a1), some (.int a2), some (.int p1.1), some (.int p4.1), some (.int p10.1), none]) dX9_canDo_49 (by decide) rfl ?_
    refine g_aload_n dX9_canDo_51 rfl ?_
    obtain ⟨x11, ex11, h⟩ := bs h
    refine q_getA dX9_canDo_52 fX9_29 ex11 ?_
    obtain ⟨x12, ex12, h⟩ := bs h
    refine q_getI dX9_canDo_55 fX9_71 ex12 ?_
    refine g_if_eq (t := 63) dX9_canDo_58 (by decide) (fun c13 => ?_) (fun c13 => ?_)
    · rw [if_pos c13] at h
      refine g_aload_n dX9_canDo_63 rfl ?_
      obtain ⟨x14, ex14, h⟩ := bs h
      refine q_getA dX9_canDo_64 fX9_38 ex14 ?_
      refine g_aload_n dX9_canDo_67 rfl ?_
      obtain ⟨x15, ex15, h⟩ := bs h
      refine q_getA dX9_canDo_68 fX9_18 ex15 ?_
      refine g_iload_n dX9_canDo_71 rfl ?_
      refine g_iload dX9_canDo_72 rfl ?_
      refine g_iload dX9_canDo_74 rfl ?_
      obtain ⟨p16, ep16, h⟩ := bs h
      refine q_stat (Z := MX10_act) (toI_s ep16) dX9_canDo_76 mX9_75.1 mX9_75.2 (Nat.le_of_ble_eq_true rfl) rfl rfl (Nat.le_of_ble_eq_true rfl) (Nat.le_of_ble_eq_true rfl) ?_
      show Go O (d + 1) MX9_canDo 79 [some (.ref a0), some (.ref a1), some (.int a2), some (.int p1.1), some (.int p4.1), some (.int p10.1), none] [.int p16.1] p16.2 P
      refine g_istore (ls' := [some (.ref a0), some (.ref a1), some (.int a2), some (.int p1.1), some (.int p4.1), some (.int p10.1), some (.int p16.1)]) dX9_canDo_79 (by decide) rfl ?_
      refine g_iload dX9_canDo_81 rfl ?_
      refine g_if_ge (t := 88) dX9_canDo_83 (by decide) (fun c17 => ?_) (fun c17 => ?_)
      · rw [if_pos c17] at h
        refine g_aload_n dX9_canDo_88 rfl ?_
        refine g_dup dX9_canDo_89 (by first | rfl | exact vrf_cat _) ?_
        obtain ⟨x18, ex18, h⟩ := bs h
        refine q_getI dX9_canDo_90 fX9_22 ex18 ?_
        refine g_iconst (v := (nI 1)) dX9_canDo_93 (by decide) ?_
        refine g_iadd dX9_canDo_94 ?_
        obtain ⟨K19, eK19, h⟩ := bs h
        refine q_put (c := (RX9, TX9, 6)) dX9_canDo_95 fX9_22 rfl rfl rfl (fun h => absurd h (by decide)) eK19 ?_
        refine g_aload_n dX9_canDo_98 rfl ?_
        refine g_iload_n dX9_canDo_99 rfl ?_
        refine g_if_ne (t := 108) dX9_canDo_100 (by decide) (fun c21 => ?_) (fun c21 => ?_)
        · rw [if_neg c21] at h
          refine g_aload_n dX9_canDo_108 rfl ?_
          obtain ⟨x22, ex22, h⟩ := bs h
          refine q_getI dX9_canDo_109 fX9_26 ex22 ?_
          refine Go_le ?_ (e_X9_canDo_j112 hret h)
          exact trivial
        · rw [if_pos c21] at h
          refine g_iload dX9_canDo_103 rfl ?_
          refine g_goto (t := 112) dX9_canDo_105 (by decide) ?_
          refine Go_le ?_ (e_X9_canDo_j112 hret h)
          exact trivial
      · rw [if_neg c17] at h
        refine g_iconst (v := (nI 0)) dX9_canDo_86 (by decide) ?_
        exact g_ireturn dX9_canDo_87 rfl (by first | rfl | decide) (hret _ _ (Option.some.inj h))
    · rw [if_neg c13] at h
      refine g_iconst (v := (nI 0)) dX9_canDo_61 (by decide) ?_
      exact g_ireturn dX9_canDo_62 rfl (by first | rfl | decide) (hret _ _ (Option.some.inj h))
  · rw [if_neg c7] at h
    refine g_iconst (v := (nI 0)) dX9_canDo_33 (by decide) ?_
    exact g_ireturn dX9_canDo_34 rfl (by first | rfl | decide) (hret _ _ (Option.some.inj h))
noncomputable def F_X9_setWords_j87 (O : mO) (d : Nat) (v0 : Nat) (v1 : Int32) (w0 : Int32) (w1 : Int32) (w2 : Nat) (K : mH) : Option ((Int32 × mH) ⊕ (mH)) :=
  (wrI K w2 w1 w0).bind fun K22 =>
  some (.inl ((v1 + nI 1), K22))
theorem e_X9_setWords_j87 {O : mO} {d : Nat} {v0 : Nat} {v1 : Int32} {w0 : Int32} {w1 : Int32} {w2 : Nat} {K : mH} {P : Option Value → mH → Prop} {y : (Int32 × mH) ⊕ (mH)} (hin : ∀ q : Int32 × mH, y = .inl q → Go O (d + 1) MX9_setWords 50 [some (.ref v0), some (.int q.1)] [] q.2 P) (hex : ∀ q : mH, y = .inr q → Go O (d + 1) MX9_setWords 94 [some (.ref v0), none] [] q P) (h : F_X9_setWords_j87 O d v0 v1 w0 w1 w2 K = some y) : Go O (d + 1) MX9_setWords 87 [some (.ref v0), some (.int v1)] [.int w0, .int w1, .ref w2] K P := by
  unfold F_X9_setWords_j87 at h
  obtain ⟨K22, eK22, h⟩ := bs h
  refine q_iast dX9_setWords_87 eK22 ?_
  refine q_iinc (w := nI 1) (ls' := [some (.ref v0), some (.int (v1 + nI 1))]) dX9_setWords_88 (by decide) rfl (by decide) rfl ?_
  refine g_goto (t := 50) dX9_setWords_91 (by decide) ?_
  refine Go_le ?_ (hin ((v1 + nI 1), K22) (Option.some.inj h).symm)
  exact And.intro rfl (And.intro rfl (trivial))
noncomputable def F_X9_setWords_l50 (O : mO) (d : Nat) (v0 : Nat) (s1 : Int32) (K : mH) : Option ((Int32 × mH) ⊕ (mH)) :=
  if (nI 8) ≤ s1 then
    some (.inr K)
  else
    (gtA K v0 9 1).bind fun x17 =>
    (gtA K v0 9 2).bind fun x18 =>
    (toI (vc O d 2 MX2_hasDead x18 [.int s1] K)).bind fun p19 =>
    if p19.1 = 0 then
      F_X9_setWords_j87 O d v0 s1 (-1) ((nI 4) + s1) x17 p19.2
    else
      (gtA p19.2 v0 9 2).bind fun x23 =>
      (gtA p19.2 x23 2 5).bind fun x24 =>
      (rdI O p19.2 x24 s1).bind fun x25 =>
      F_X9_setWords_j87 O d v0 s1 x25 ((nI 4) + s1) x17 p19.2
theorem e_X9_setWords_l50 {O : mO} {d : Nat} {v0 : Nat} {P : Option Value → mH → Prop} {x : mH} (hex : ∀ q : mH, x = q → Go O (d + 1) MX9_setWords 94 [some (.ref v0), none] [] q P) : ∀ (f : Nat) (q : Int32 × mH), lupF (fun (q : Int32 × mH) => F_X9_setWords_l50 O d v0 q.1 q.2) f q = some x → Go O (d + 1) MX9_setWords 50 [some (.ref v0), some (.int q.1)] [] q.2 P := by
  intro f
  induction f with
  | zero =>
    intro q h
    cases h
  | succ f ih =>
    intro q h
    obtain ⟨y, h, hy1, hy2⟩ := lupF_s h
    have hin : ∀ q : Int32 × mH, y = .inl q → Go O (d + 1) MX9_setWords 50 [some (.ref v0), some (.int q.1)] [] q.2 P := fun q e => ih q (hy1 q e)
    replace hex : ∀ q : mH, y = .inr q → Go O (d + 1) MX9_setWords 94 [some (.ref v0), none] [] q P := fun q e => hex q (hy2 q e).symm
    clear ih hy1 hy2
    obtain ⟨s1, K⟩ := q
    dsimp only at h ⊢
    unfold F_X9_setWords_l50 at h
    refine g_iload_n dX9_setWords_50 rfl ?_
    refine g_bipush (v := (nI 8)) dX9_setWords_51 (by decide) ?_
    refine g_ic_ge (t := 94) dX9_setWords_53 (by decide) (fun c16 => ?_) (fun c16 => ?_)
    · rw [if_pos c16] at h
      refine Go_le ?_ (hex K (Option.some.inj h).symm)
      exact And.intro rfl (trivial)
    · rw [if_neg c16] at h
      refine g_aload_n dX9_setWords_56 rfl ?_
      obtain ⟨x17, ex17, h⟩ := bs h
      refine q_getA dX9_setWords_57 fX9_11 ex17 ?_
      refine g_iconst (v := (nI 4)) dX9_setWords_60 (by decide) ?_
      refine g_iload_n dX9_setWords_61 rfl ?_
      refine g_iadd dX9_setWords_62 ?_
      refine g_aload_n dX9_setWords_63 rfl ?_
      obtain ⟨x18, ex18, h⟩ := bs h
      refine q_getA dX9_setWords_64 fX9_38 ex18 ?_
      refine g_iload_n dX9_setWords_67 rfl ?_
      obtain ⟨p19, ep19, h⟩ := bs h
      refine q_virt (Z := MX2_hasDead) (c := (RX2, TX2, 18)) (toI_s ep19) dX9_setWords_68 mX9_86.1 mX9_86.2 (Nat.le_of_ble_eq_true rfl) rfl rfl (Nat.le_of_ble_eq_true rfl) (Nat.le_of_ble_eq_true rfl) rfl rfl ?_
      show Go O (d + 1) MX9_setWords 71 [some (.ref v0), some (.int s1)] [.int p19.1, .int ((nI 4) + s1), .ref x17] p19.2 P
      refine g_if_eq (t := 86) dX9_setWords_71 (by decide) (fun c21 => ?_) (fun c21 => ?_)
      · rw [if_pos c21] at h
        refine g_iconst (v := (-1)) dX9_setWords_86 (by decide) ?_
        refine Go_le ?_ (e_X9_setWords_j87 hin hex h)
        exact And.intro rfl (And.intro rfl (trivial))
      · rw [if_neg c21] at h
        refine g_aload_n dX9_setWords_74 rfl ?_
        obtain ⟨x23, ex23, h⟩ := bs h
        refine q_getA dX9_setWords_75 fX9_38 ex23 ?_
        obtain ⟨x24, ex24, h⟩ := bs h
        refine q_getA dX9_setWords_78 fX9_90 ex24 ?_
        refine g_iload_n dX9_setWords_81 rfl ?_
        obtain ⟨x25, ex25, h⟩ := bs h
        refine q_iald dX9_setWords_82 ex25 ?_
        refine g_goto (t := 87) dX9_setWords_83 (by decide) ?_
        refine Go_le ?_ (e_X9_setWords_j87 hin hex h)
        exact And.intro rfl (And.intro rfl (trivial))
noncomputable def F_X9_setWords_j133 (O : mO) (d : Nat) (v0 : Nat) (v1 : Int32) (w0 : Int32) (w1 : Int32) (w2 : Nat) (K : mH) : Option ((Int32 × mH) ⊕ (mH)) :=
  (wrI K w2 w1 w0).bind fun K33 =>
  some (.inl ((v1 + nI 1), K33))
theorem e_X9_setWords_j133 {O : mO} {d : Nat} {v0 : Nat} {v1 : Int32} {w0 : Int32} {w1 : Int32} {w2 : Nat} {K : mH} {P : Option Value → mH → Prop} {y : (Int32 × mH) ⊕ (mH)} (hin : ∀ q : Int32 × mH, y = .inl q → Go O (d + 1) MX9_setWords 96 [some (.ref v0), some (.int q.1)] [] q.2 P) (hex : ∀ q : mH, y = .inr q → Go O (d + 1) MX9_setWords 140 [none, none] [] q P) (h : F_X9_setWords_j133 O d v0 v1 w0 w1 w2 K = some y) : Go O (d + 1) MX9_setWords 133 [some (.ref v0), some (.int v1)] [.int w0, .int w1, .ref w2] K P := by
  unfold F_X9_setWords_j133 at h
  obtain ⟨K33, eK33, h⟩ := bs h
  refine q_iast dX9_setWords_133 eK33 ?_
  refine q_iinc (w := nI 1) (ls' := [some (.ref v0), some (.int (v1 + nI 1))]) dX9_setWords_134 (by decide) rfl (by decide) rfl ?_
  refine g_goto (t := 96) dX9_setWords_137 (by decide) ?_
  refine Go_le ?_ (hin ((v1 + nI 1), K33) (Option.some.inj h).symm)
  exact And.intro rfl (And.intro rfl (trivial))
noncomputable def F_X9_setWords_l96 (O : mO) (d : Nat) (v0 : Nat) (s1 : Int32) (K : mH) : Option ((Int32 × mH) ⊕ (mH)) :=
  if (nI 4) ≤ s1 then
    some (.inr K)
  else
    (gtA K v0 9 1).bind fun x28 =>
    (gtA K v0 9 2).bind fun x29 =>
    (toI (vc O d 2 MX2_hasFamily x29 [.int s1] K)).bind fun p30 =>
    if p30.1 = 0 then
      F_X9_setWords_j133 O d v0 s1 (-1) ((nI 12) + s1) x28 p30.2
    else
      (gtA p30.2 v0 9 2).bind fun x34 =>
      (gtA p30.2 x34 2 2).bind fun x35 =>
      (rdI O p30.2 x35 s1).bind fun x36 =>
      F_X9_setWords_j133 O d v0 s1 x36 ((nI 12) + s1) x28 p30.2
theorem e_X9_setWords_l96 {O : mO} {d : Nat} {v0 : Nat} {P : Option Value → mH → Prop} {x : mH} (hex : ∀ q : mH, x = q → Go O (d + 1) MX9_setWords 140 [none, none] [] q P) : ∀ (f : Nat) (q : Int32 × mH), lupF (fun (q : Int32 × mH) => F_X9_setWords_l96 O d v0 q.1 q.2) f q = some x → Go O (d + 1) MX9_setWords 96 [some (.ref v0), some (.int q.1)] [] q.2 P := by
  intro f
  induction f with
  | zero =>
    intro q h
    cases h
  | succ f ih =>
    intro q h
    obtain ⟨y, h, hy1, hy2⟩ := lupF_s h
    have hin : ∀ q : Int32 × mH, y = .inl q → Go O (d + 1) MX9_setWords 96 [some (.ref v0), some (.int q.1)] [] q.2 P := fun q e => ih q (hy1 q e)
    replace hex : ∀ q : mH, y = .inr q → Go O (d + 1) MX9_setWords 140 [none, none] [] q P := fun q e => hex q (hy2 q e).symm
    clear ih hy1 hy2
    obtain ⟨s1, K⟩ := q
    dsimp only at h ⊢
    unfold F_X9_setWords_l96 at h
    refine g_iload_n dX9_setWords_96 rfl ?_
    refine g_iconst (v := (nI 4)) dX9_setWords_97 (by decide) ?_
    refine g_ic_ge (t := 140) dX9_setWords_98 (by decide) (fun c27 => ?_) (fun c27 => ?_)
    · rw [if_pos c27] at h
      refine Go_le ?_ (hex K (Option.some.inj h).symm)
      exact trivial
    · rw [if_neg c27] at h
      refine g_aload_n dX9_setWords_101 rfl ?_
      obtain ⟨x28, ex28, h⟩ := bs h
      refine q_getA dX9_setWords_102 fX9_11 ex28 ?_
      refine g_bipush (v := (nI 12)) dX9_setWords_105 (by decide) ?_
      refine g_iload_n dX9_setWords_107 rfl ?_
      refine g_iadd dX9_setWords_108 ?_
      refine g_aload_n dX9_setWords_109 rfl ?_
      obtain ⟨x29, ex29, h⟩ := bs h
      refine q_getA dX9_setWords_110 fX9_38 ex29 ?_
      refine g_iload_n dX9_setWords_113 rfl ?_
      obtain ⟨p30, ep30, h⟩ := bs h
      refine q_virt (Z := MX2_hasFamily) (c := (RX2, TX2, 18)) (toI_s ep30) dX9_setWords_114 mX9_93.1 mX9_93.2 (Nat.le_of_ble_eq_true rfl) rfl rfl (Nat.le_of_ble_eq_true rfl) (Nat.le_of_ble_eq_true rfl) rfl rfl ?_
      show Go O (d + 1) MX9_setWords 117 [some (.ref v0), some (.int s1)] [.int p30.1, .int ((nI 12) + s1), .ref x28] p30.2 P
      refine g_if_eq (t := 132) dX9_setWords_117 (by decide) (fun c32 => ?_) (fun c32 => ?_)
      · rw [if_pos c32] at h
        refine g_iconst (v := (-1)) dX9_setWords_132 (by decide) ?_
        refine Go_le ?_ (e_X9_setWords_j133 hin hex h)
        exact And.intro rfl (And.intro rfl (trivial))
      · rw [if_neg c32] at h
        refine g_aload_n dX9_setWords_120 rfl ?_
        obtain ⟨x34, ex34, h⟩ := bs h
        refine q_getA dX9_setWords_121 fX9_38 ex34 ?_
        obtain ⟨x35, ex35, h⟩ := bs h
        refine q_getA dX9_setWords_124 fX9_96 ex35 ?_
        refine g_iload_n dX9_setWords_127 rfl ?_
        obtain ⟨x36, ex36, h⟩ := bs h
        refine q_iald dX9_setWords_128 ex36 ?_
        refine g_goto (t := 133) dX9_setWords_129 (by decide) ?_
        refine Go_le ?_ (e_X9_setWords_j133 hin hex h)
        exact And.intro rfl (And.intro rfl (trivial))
noncomputable def F_X9_setWords (O : mO) (d : Nat) (a0 : Nat) (K : mH) : Option (mH) :=
  (gtA K a0 9 1).bind fun x1 =>
  (gtA K a0 9 2).bind fun x2 =>
  (gtA K x2 2 9).bind fun x3 =>
  (rdI O K x3 (nI 0)).bind fun x4 =>
  (wrI K x1 (nI 0) x4).bind fun K5 =>
  (gtA K5 a0 9 1).bind fun x6 =>
  (gtI K5 a0 9 4).bind fun x7 =>
  (wrI K5 x6 (nI 1) x7).bind fun K8 =>
  (gtA K8 a0 9 1).bind fun x9 =>
  (gtI K8 a0 9 5).bind fun x10 =>
  (wrI K8 x9 (nI 2) x10).bind fun K11 =>
  (gtA K11 a0 9 1).bind fun x12 =>
  (gtA K11 a0 9 2).bind fun x13 =>
  (toI (vc O d 2 MX2_insideCount x13 [] K11)).bind fun p14 =>
  (wrI p14.2 x12 (nI 3) p14.1).bind fun K15 =>
  (lupF (fun (q : Int32 × mH) => F_X9_setWords_l50 O d a0 q.1 q.2) FU ((nI 0), K15)).bind fun r26 =>
  (lupF (fun (q : Int32 × mH) => F_X9_setWords_l96 O d a0 q.1 q.2) FU ((nI 0), r26)).bind fun r37 =>
  some r37
theorem e_X9_setWords {O : mO} {d : Nat} {a0 : Nat} {K : mH} {x : mH} (h : F_X9_setWords O d a0 K = some x) : ev O (d + 1) MX9_setWords [.ref a0] K = some (none, x) := by
  refine Rn_evx ?_
  show Go O (d + 1) MX9_setWords 0 [some (.ref a0), none] [] K _
  generalize hP : (fun (r : Option Value) (K' : mH) => (r, K') = (none, x)) = P
  have hret : ∀ K' : mH, K' = x → P none K' := by
    intro K' e
    subst hP e
    rfl
  clear hP
  unfold F_X9_setWords at h
  refine g_aload_n dX9_setWords_0 rfl ?_
  obtain ⟨x1, ex1, h⟩ := bs h
  refine q_getA dX9_setWords_1 fX9_11 ex1 ?_
  refine g_iconst (v := (nI 0)) dX9_setWords_4 (by decide) ?_
  refine g_aload_n dX9_setWords_5 rfl ?_
  obtain ⟨x2, ex2, h⟩ := bs h
  refine q_getA dX9_setWords_6 fX9_38 ex2 ?_
  obtain ⟨x3, ex3, h⟩ := bs h
  refine q_getA dX9_setWords_9 fX9_79 ex3 ?_
  refine g_iconst (v := (nI 0)) dX9_setWords_12 (by decide) ?_
  obtain ⟨x4, ex4, h⟩ := bs h
  refine q_iald dX9_setWords_13 ex4 ?_
  obtain ⟨K5, eK5, h⟩ := bs h
  refine q_iast dX9_setWords_14 eK5 ?_
  refine g_aload_n dX9_setWords_15 rfl ?_
  obtain ⟨x6, ex6, h⟩ := bs h
  refine q_getA dX9_setWords_16 fX9_11 ex6 ?_
  refine g_iconst (v := (nI 1)) dX9_setWords_19 (by decide) ?_
  refine g_aload_n dX9_setWords_20 rfl ?_
  obtain ⟨x7, ex7, h⟩ := bs h
  refine q_getI dX9_setWords_21 fX9_22 ex7 ?_
  obtain ⟨K8, eK8, h⟩ := bs h
  refine q_iast dX9_setWords_24 eK8 ?_
  refine g_aload_n dX9_setWords_25 rfl ?_
  obtain ⟨x9, ex9, h⟩ := bs h
  refine q_getA dX9_setWords_26 fX9_11 ex9 ?_
  refine g_iconst (v := (nI 2)) dX9_setWords_29 (by decide) ?_
  refine g_aload_n dX9_setWords_30 rfl ?_
  obtain ⟨x10, ex10, h⟩ := bs h
  refine q_getI dX9_setWords_31 fX9_26 ex10 ?_
  obtain ⟨K11, eK11, h⟩ := bs h
  refine q_iast dX9_setWords_34 eK11 ?_
  refine g_aload_n dX9_setWords_35 rfl ?_
  obtain ⟨x12, ex12, h⟩ := bs h
  refine q_getA dX9_setWords_36 fX9_11 ex12 ?_
  refine g_iconst (v := (nI 3)) dX9_setWords_39 (by decide) ?_
  refine g_aload_n dX9_setWords_40 rfl ?_
  obtain ⟨x13, ex13, h⟩ := bs h
  refine q_getA dX9_setWords_41 fX9_38 ex13 ?_
  obtain ⟨p14, ep14, h⟩ := bs h
  refine q_virt (Z := MX2_insideCount) (c := (RX2, TX2, 18)) (toI_s ep14) dX9_setWords_44 mX9_82.1 mX9_82.2 (Nat.le_of_ble_eq_true rfl) rfl rfl (Nat.le_of_ble_eq_true rfl) (Nat.le_of_ble_eq_true rfl) rfl rfl ?_
  show Go O (d + 1) MX9_setWords 47 [some (.ref a0), none] [.int p14.1, .int (nI 3), .ref x12] p14.2 P
  obtain ⟨K15, eK15, h⟩ := bs h
  refine q_iast dX9_setWords_47 eK15 ?_
  refine g_iconst (v := (nI 0)) dX9_setWords_48 (by decide) ?_
  refine g_istore_n (ls' := [some (.ref a0), some (.int (nI 0))]) dX9_setWords_49 (by decide) rfl ?_
  obtain ⟨r26, er26, h⟩ := bs h
  have hx : Go O (d + 1) MX9_setWords 94 [some (.ref a0), none] [] r26 P := by
    refine g_iconst (v := (nI 0)) dX9_setWords_94 (by decide) ?_
    refine g_istore_n (ls' := [some (.ref a0), some (.int (nI 0))]) dX9_setWords_95 (by decide) rfl ?_
    obtain ⟨r37, er37, h⟩ := bs h
    have hx : Go O (d + 1) MX9_setWords 140 [none, none] [] r37 P := by
      exact g_return dX9_setWords_140 rfl (hret _ (Option.some.inj h))
    refine Go_le ?_ (e_X9_setWords_l96 (fun q e => by cases e; exact hx) FU ((nI 0), r26) er37)
    exact And.intro rfl (And.intro rfl (trivial))
  refine Go_le ?_ (e_X9_setWords_l50 (fun q e => by cases e; exact hx) FU ((nI 0), K15) er26)
  exact And.intro rfl (And.intro rfl (trivial))
