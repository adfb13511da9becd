/-! methods as functions, by gen50.py -/
noncomputable def F_X11_isSmall (O : mO) (d : Nat) (a0 : Int32) (K : mH) : Option (Int32 × mH) :=
  (zz (if a0 < (nI 97) then (nI 0) else (if (nI 122) < a0 then (nI 0) else (nI 1)))).bind fun z3 =>
  some (z3, K)
theorem e_X11_isSmall {O : mO} {d : Nat} {a0 : Int32} {K : mH} {r0 : Int32} {K0 : mH} (h : F_X11_isSmall O d a0 K = some (r0, K0)) : ev O (d + 1) MX11_isSmall [.int a0] K = some (some (.int r0), K0) := by
  refine Rn_evx ?_
  show Go O (d + 1) MX11_isSmall 0 [some (.int a0)] [] K _
  generalize hP : (fun (r : Option Value) (K' : mH) => (r, K') = (some (.int r0), K0)) = P
  have hret : ∀ (r : Int32) (K' : mH), (r, K') = (r0, K0) → P (some (.int r)) K' := by
    intro r K' e
    cases e
    subst hP
    rfl
  clear hP
  unfold F_X11_isSmall at h
  refine g_iload_n dX11_isSmall_0 rfl ?_
  refine g_bipush (v := (nI 97)) dX11_isSmall_1 (by decide) ?_
  have hj : Go O (d + 1) MX11_isSmall 17 [none] [.int (if a0 < (nI 97) then (nI 0) else (if (nI 122) < a0 then (nI 0) else (nI 1)))] K P := by
    obtain ⟨z3, ez3, h⟩ := bs h
    exact q_zret dX11_isSmall_17 rfl ez3 (hret _ _ (Option.some.inj h))
  refine g_ic_lt (t := 16) dX11_isSmall_3 (by decide) (fun c1 => ?_) (fun c1 => ?_)
  · skip
    refine g_iconst (v := (nI 0)) dX11_isSmall_16 (by decide) ?_
    have hk : Go O (d + 1) MX11_isSmall 17 [none] [.int (nI 0)] K P := by simpa only [if_pos c1] using hj
    refine Go_le ?_ hk
    exact trivial
  · skip
    refine g_iload_n dX11_isSmall_6 rfl ?_
    refine g_bipush (v := (nI 122)) dX11_isSmall_7 (by decide) ?_
    refine g_ic_gt (t := 16) dX11_isSmall_9 (by decide) (fun c2 => ?_) (fun c2 => ?_)
    · skip
      refine g_iconst (v := (nI 0)) dX11_isSmall_16 (by decide) ?_
      have hk : Go O (d + 1) MX11_isSmall 17 [none] [.int (nI 0)] K P := by simpa only [if_neg c1, if_pos c2] using hj
      refine Go_le ?_ hk
      exact trivial
    · skip
      refine g_iconst (v := (nI 1)) dX11_isSmall_12 (by decide) ?_
      refine g_goto (t := 17) dX11_isSmall_13 (by decide) ?_
      have hk : Go O (d + 1) MX11_isSmall 17 [none] [.int (nI 1)] K P := by simpa only [if_neg c1, if_neg c2] using hj
      refine Go_le ?_ hk
      exact trivial
noncomputable def F_X11_isDigit (O : mO) (d : Nat) (a0 : Int32) (K : mH) : Option (Int32 × mH) :=
  (zz (if a0 < (nI 48) then (nI 0) else (if (nI 57) < a0 then (nI 0) else (nI 1)))).bind fun z3 =>
  some (z3, K)
theorem e_X11_isDigit {O : mO} {d : Nat} {a0 : Int32} {K : mH} {r0 : Int32} {K0 : mH} (h : F_X11_isDigit O d a0 K = some (r0, K0)) : ev O (d + 1) MX11_isDigit [.int a0] K = some (some (.int r0), K0) := by
  refine Rn_evx ?_
  show Go O (d + 1) MX11_isDigit 0 [some (.int a0)] [] K _
  generalize hP : (fun (r : Option Value) (K' : mH) => (r, K') = (some (.int r0), K0)) = P
  have hret : ∀ (r : Int32) (K' : mH), (r, K') = (r0, K0) → P (some (.int r)) K' := by
    intro r K' e
    cases e
    subst hP
    rfl
  clear hP
  unfold F_X11_isDigit at h
  refine g_iload_n dX11_isDigit_0 rfl ?_
  refine g_bipush (v := (nI 48)) dX11_isDigit_1 (by decide) ?_
  have hj : Go O (d + 1) MX11_isDigit 17 [none] [.int (if a0 < (nI 48) then (nI 0) else (if (nI 57) < a0 then (nI 0) else (nI 1)))] K P := by
    obtain ⟨z3, ez3, h⟩ := bs h
    exact q_zret dX11_isDigit_17 rfl ez3 (hret _ _ (Option.some.inj h))
  refine g_ic_lt (t := 16) dX11_isDigit_3 (by decide) (fun c1 => ?_) (fun c1 => ?_)
  · skip
    refine g_iconst (v := (nI 0)) dX11_isDigit_16 (by decide) ?_
    have hk : Go O (d + 1) MX11_isDigit 17 [none] [.int (nI 0)] K P := by simpa only [if_pos c1] using hj
    refine Go_le ?_ hk
    exact trivial
  · skip
    refine g_iload_n dX11_isDigit_6 rfl ?_
    refine g_bipush (v := (nI 57)) dX11_isDigit_7 (by decide) ?_
    refine g_ic_gt (t := 16) dX11_isDigit_9 (by decide) (fun c2 => ?_) (fun c2 => ?_)
    · skip
      refine g_iconst (v := (nI 0)) dX11_isDigit_16 (by decide) ?_
      have hk : Go O (d + 1) MX11_isDigit 17 [none] [.int (nI 0)] K P := by simpa only [if_neg c1, if_pos c2] using hj
      refine Go_le ?_ hk
      exact trivial
    · skip
      refine g_iconst (v := (nI 1)) dX11_isDigit_12 (by decide) ?_
      refine g_goto (t := 17) dX11_isDigit_13 (by decide) ?_
      have hk : Go O (d + 1) MX11_isDigit 17 [none] [.int (nI 1)] K P := by simpa only [if_neg c1, if_neg c2] using hj
      refine Go_le ?_ hk
      exact trivial
noncomputable def F_X11_begin (O : mO) (d : Nat) (a0 : Nat) (K : mH) : Option (mH) :=
  (ptI K a0 11 15 (nI 0)).bind fun K1 =>
  (ptI K1 a0 11 19 (nI 0)).bind fun K2 =>
  (ptI K2 a0 11 18 (-1)).bind fun K3 =>
  (toV (vc O d 11 MX11_next a0 [] K3)).bind fun K4 =>
  some K4
theorem e_X11_begin {O : mO} {d : Nat} {a0 : Nat} {K : mH} {x : mH} (h : F_X11_begin O d a0 K = some x) : ev O (d + 1) MX11_begin [.ref a0] K = some (none, x) := by
  refine Rn_evx ?_
  show Go O (d + 1) MX11_begin 0 [some (.ref a0)] [] K _
  generalize hP : (fun (r : Option Value) (K' : mH) => (r, K') = (none, x)) = P
  have hret : ∀ K' : mH, K' = x → P none K' := by
    intro K' e
    subst hP e
    rfl
  clear hP
  unfold F_X11_begin at h
  refine g_aload_n dX11_begin_0 rfl ?_
  refine g_iconst (v := (nI 0)) dX11_begin_1 (by decide) ?_
  obtain ⟨K1, eK1, h⟩ := bs h
  refine q_put (c := (RX11, TX11, 56)) dX11_begin_2 fX11_241 rfl rfl rfl (fun h => absurd h (by decide)) eK1 ?_
  refine g_aload_n dX11_begin_5 rfl ?_
  refine g_iconst (v := (nI 0)) dX11_begin_6 (by decide) ?_
  obtain ⟨K2, eK2, h⟩ := bs h
  refine q_put (c := (RX11, TX11, 56)) dX11_begin_7 fX11_244 rfl rfl rfl (fun h => absurd h (by decide)) eK2 ?_
  refine g_aload_n dX11_begin_10 rfl ?_
  refine g_iconst (v := (-1)) dX11_begin_11 (by decide) ?_
  obtain ⟨K3, eK3, h⟩ := bs h
  refine q_put (c := (RX11, TX11, 56)) dX11_begin_12 fX11_38 rfl rfl rfl (fun h => absurd h (by decide)) eK3 ?_
  refine g_aload_n dX11_begin_15 rfl ?_
  obtain ⟨K4, eK4, h⟩ := bs h
  refine q_virt (Z := MX11_next) (c := (RX11, TX11, 56)) (toV_s eK4) dX11_begin_16 mX11_248.1 mX11_248.2 (Nat.le_of_ble_eq_true rfl) rfl rfl (Nat.le_of_ble_eq_true rfl) (Nat.le_of_ble_eq_true rfl) rfl rfl ?_
  show Go O (d + 1) MX11_begin 19 [some (.ref a0)] [] K4 P
  exact g_return dX11_begin_19 rfl (hret _ (Option.some.inj h))
noncomputable def F_X11_next_l8 (O : mO) (d : Nat) (v0 : Nat)  (K : mH) : Option ((mH) ⊕ (mH)) :=
  (gtI K v0 11 14).bind fun x3 =>
  (gtI K v0 11 13).bind fun x4 =>
  if x4 ≤ x3 then
    some (.inr K)
  else
    (gtA K v0 11 12).bind fun x6 =>
    (gtI K v0 11 14).bind fun x7 =>
    (rdI O K x6 x7).bind fun x8 =>
    if x8 = (nI 32) then
      (gtI K v0 11 14).bind fun x10 =>
      (ptI K v0 11 14 (x10 + (nI 1))).bind fun K11 =>
      some (.inl K11)
    else
      some (.inr K)
theorem e_X11_next_l8 {O : mO} {d : Nat} {v0 : Nat} {P : Option Value → mH → Prop} {x : mH} (hex : ∀ q : mH, x = q → Go O (d + 1) MX11_next 46 [some (.ref v0)] [] q P) : ∀ (f : Nat) (q : mH), lupF (fun (q : mH) => F_X11_next_l8 O d v0 q) f q = some x → Go O (d + 1) MX11_next 8 [some (.ref v0)] [] q P := by
  intro f
  induction f with
  | zero =>
    intro q h
    cases h
  | succ f ih =>
    intro K h
    obtain ⟨y, h, hy1, hy2⟩ := lupF_s h
    have hin : ∀ q : mH, y = .inl q → Go O (d + 1) MX11_next 8 [some (.ref v0)] [] q P := fun q e => ih q (hy1 q e)
    replace hex : ∀ q : mH, y = .inr q → Go O (d + 1) MX11_next 46 [some (.ref v0)] [] q P := fun q e => hex q (hy2 q e).symm
    clear ih hy1 hy2
    try dsimp only at h
    unfold F_X11_next_l8 at h
    refine g_aload_n dX11_next_8 rfl ?_
    obtain ⟨x3, ex3, h⟩ := bs h
    refine q_getI dX11_next_9 fX11_251 ex3 ?_
    refine g_aload_n dX11_next_12 rfl ?_
    obtain ⟨x4, ex4, h⟩ := bs h
    refine q_getI dX11_next_13 fX11_232 ex4 ?_
    refine g_ic_ge (t := 46) dX11_next_16 (by decide) (fun c5 => ?_) (fun c5 => ?_)
    · rw [if_pos c5] at h
      refine Go_le ?_ (hex K (Option.some.inj h).symm)
      exact And.intro rfl (trivial)
    · rw [if_neg c5] at h
      refine g_aload_n dX11_next_19 rfl ?_
      obtain ⟨x6, ex6, h⟩ := bs h
      refine q_getA dX11_next_20 fX11_35 ex6 ?_
      refine g_aload_n dX11_next_23 rfl ?_
      obtain ⟨x7, ex7, h⟩ := bs h
      refine q_getI dX11_next_24 fX11_251 ex7 ?_
      obtain ⟨x8, ex8, h⟩ := bs h
      refine q_iald dX11_next_27 ex8 ?_
      refine g_bipush (v := (nI 32)) dX11_next_28 (by decide) ?_
      refine g_ic_ne (t := 46) dX11_next_30 (by decide) (fun c9 => ?_) (fun c9 => ?_)
      · rw [if_neg c9] at h
        refine Go_le ?_ (hex K (Option.some.inj h).symm)
        exact And.intro rfl (trivial)
      · rw [if_pos c9] at h
        refine g_aload_n dX11_next_33 rfl ?_
        refine g_dup dX11_next_34 (by first | rfl | exact vrf_cat _) ?_
        obtain ⟨x10, ex10, h⟩ := bs h
        refine q_getI dX11_next_35 fX11_251 ex10 ?_
        refine g_iconst (v := (nI 1)) dX11_next_38 (by decide) ?_
        refine g_iadd dX11_next_39 ?_
        obtain ⟨K11, eK11, h⟩ := bs h
        refine q_put (c := (RX11, TX11, 56)) dX11_next_40 fX11_251 rfl rfl rfl (fun h => absurd h (by decide)) eK11 ?_
        refine g_goto (t := 8) dX11_next_43 (by decide) ?_
        refine Go_le ?_ (hin K11 (Option.some.inj h).symm)
        exact And.intro rfl (trivial)
noncomputable def F_X11_next_j227 (O : mO) (d : Nat) (v0 : Nat) (w0 : Int64) (w1 : Nat) (K : mH) : Option ((mH) ⊕ (mH)) :=
  (ptJ K w1 11 17 w0).bind fun K48 =>
  (gtI K48 v0 11 15).bind fun x49 =>
  (ptI K48 v0 11 15 (x49 + (nI 1))).bind fun K50 =>
  some (.inl K50)
theorem e_X11_next_j227 {O : mO} {d : Nat} {v0 : Nat} {w0 : Int64} {w1 : Nat} {K : mH} {P : Option Value → mH → Prop} {y : (mH) ⊕ (mH)} (hin : ∀ q : mH, y = .inl q → Go O (d + 1) MX11_next 149 [some (.ref v0)] [] q P) (hex : ∀ q : mH, y = .inr q → Go O (d + 1) MX11_next 243 [some (.ref v0)] [] q P) (h : F_X11_next_j227 O d v0 w0 w1 K = some y) : Go O (d + 1) MX11_next 227 [some (.ref v0)] [.long w0, .ref w1] K P := by
  unfold F_X11_next_j227 at h
  obtain ⟨K48, eK48, h⟩ := bs h
  refine q_put (c := (RX11, TX11, 56)) dX11_next_227 fX11_254 rfl rfl rfl (fun h => absurd h (by decide)) eK48 ?_
  refine g_aload_n dX11_next_230 rfl ?_
  refine g_dup dX11_next_231 (by first | rfl | exact vrf_cat _) ?_
  obtain ⟨x49, ex49, h⟩ := bs h
  refine q_getI dX11_next_232 fX11_241 ex49 ?_
  refine g_iconst (v := (nI 1)) dX11_next_235 (by decide) ?_
  refine g_iadd dX11_next_236 ?_
  obtain ⟨K50, eK50, h⟩ := bs h
  refine q_put (c := (RX11, TX11, 56)) dX11_next_237 fX11_241 rfl rfl rfl (fun h => absurd h (by decide)) eK50 ?_
  refine g_goto (t := 149) dX11_next_240 (by decide) ?_
  refine Go_le ?_ (hin K50 (Option.some.inj h).symm)
  exact And.intro rfl (trivial)
noncomputable def F_X11_next_l149 (O : mO) (d : Nat) (v0 : Nat)  (K : mH) : Option ((mH) ⊕ (mH)) :=
  (gtI K v0 11 16).bind fun x34 =>
  if x34 = (nI 1) then
    (gtI K v0 11 15).bind fun x36 =>
    (gtI K v0 11 13).bind fun x37 =>
    if x37 ≤ x36 then
      some (.inr K)
    else
      (gtA K v0 11 12).bind fun x39 =>
      (gtI K v0 11 15).bind fun x40 =>
      (rdI O K x39 x40).bind fun x41 =>
      (toI (ev O d MX11_isSmall [.int x41] K)).bind fun p42 =>
      if p42.1 = 0 then
        some (.inr p42.2)
      else
        (gtI p42.2 v0 11 15).bind fun x44 =>
        (gtI p42.2 v0 11 14).bind fun x45 =>
        if (nI 10) ≤ (x44 - x45) then
          F_X11_next_j227 O d v0 (-1) v0 p42.2
        else
          (gtJ p42.2 v0 11 17).bind fun x51 =>
          (gtA p42.2 v0 11 12).bind fun x52 =>
          (gtI p42.2 v0 11 15).bind fun x53 =>
          (rdI O p42.2 x52 x53).bind fun x54 =>
          F_X11_next_j227 O d v0 (((x51 * (32)) + x54.toInt64) - (96)) v0 p42.2
  else
    some (.inr K)
theorem e_X11_next_l149 {O : mO} {d : Nat} {v0 : Nat} {P : Option Value → mH → Prop} {x : mH} (hex : ∀ q : mH, x = q → Go O (d + 1) MX11_next 243 [some (.ref v0)] [] q P) : ∀ (f : Nat) (q : mH), lupF (fun (q : mH) => F_X11_next_l149 O d v0 q) f q = some x → Go O (d + 1) MX11_next 149 [some (.ref v0)] [] q P := by
  intro f
  induction f with
  | zero =>
    intro q h
    cases h
  | succ f ih =>
    intro K h
    obtain ⟨y, h, hy1, hy2⟩ := lupF_s h
    have hin : ∀ q : mH, y = .inl q → Go O (d + 1) MX11_next 149 [some (.ref v0)] [] q P := fun q e => ih q (hy1 q e)
    replace hex : ∀ q : mH, y = .inr q → Go O (d + 1) MX11_next 243 [some (.ref v0)] [] q P := fun q e => hex q (hy2 q e).symm
    clear ih hy1 hy2
    try dsimp only at h
    unfold F_X11_next_l149 at h
    refine g_aload_n dX11_next_149 rfl ?_
    obtain ⟨x34, ex34, h⟩ := bs h
    refine q_getI dX11_next_150 fX11_264 ex34 ?_
    refine g_iconst (v := (nI 1)) dX11_next_153 (by decide) ?_
    refine g_ic_ne (t := 243) dX11_next_154 (by decide) (fun c35 => ?_) (fun c35 => ?_)
    · rw [if_neg c35] at h
      refine Go_le ?_ (hex K (Option.some.inj h).symm)
      exact And.intro rfl (trivial)
    · rw [if_pos c35] at h
      refine g_aload_n dX11_next_157 rfl ?_
      obtain ⟨x36, ex36, h⟩ := bs h
      refine q_getI dX11_next_158 fX11_241 ex36 ?_
      refine g_aload_n dX11_next_161 rfl ?_
      obtain ⟨x37, ex37, h⟩ := bs h
      refine q_getI dX11_next_162 fX11_232 ex37 ?_
      refine g_ic_ge (t := 243) dX11_next_165 (by decide) (fun c38 => ?_) (fun c38 => ?_)
      · rw [if_pos c38] at h
        refine Go_le ?_ (hex K (Option.some.inj h).symm)
        exact And.intro rfl (trivial)
      · rw [if_neg c38] at h
        refine g_aload_n dX11_next_168 rfl ?_
        obtain ⟨x39, ex39, h⟩ := bs h
        refine q_getA dX11_next_169 fX11_35 ex39 ?_
        refine g_aload_n dX11_next_172 rfl ?_
        obtain ⟨x40, ex40, h⟩ := bs h
        refine q_getI dX11_next_173 fX11_241 ex40 ?_
        obtain ⟨x41, ex41, h⟩ := bs h
        refine q_iald dX11_next_176 ex41 ?_
        obtain ⟨p42, ep42, h⟩ := bs h
        refine q_stat (Z := MX11_isSmall) (toI_s ep42) dX11_next_177 mX11_258.1 mX11_258.2 (Nat.le_of_ble_eq_true rfl) rfl rfl (Nat.le_of_ble_eq_true rfl) (Nat.le_of_ble_eq_true rfl) ?_
        show Go O (d + 1) MX11_next 180 [some (.ref v0)] [.int p42.1] p42.2 P
        refine g_if_eq (t := 243) dX11_next_180 (by decide) (fun c43 => ?_) (fun c43 => ?_)
        · rw [if_pos c43] at h
          refine Go_le ?_ (hex p42.2 (Option.some.inj h).symm)
          exact And.intro rfl (trivial)
        · rw [if_neg c43] at h
          refine g_aload_n dX11_next_183 rfl ?_
          refine g_aload_n dX11_next_184 rfl ?_
          obtain ⟨x44, ex44, h⟩ := bs h
          refine q_getI dX11_next_185 fX11_241 ex44 ?_
          refine g_aload_n dX11_next_188 rfl ?_
          obtain ⟨x45, ex45, h⟩ := bs h
          refine q_getI dX11_next_189 fX11_251 ex45 ?_
          refine g_isub dX11_next_192 ?_
          refine g_bipush (v := (nI 10)) dX11_next_193 (by decide) ?_
          refine g_ic_ge (t := 224) dX11_next_195 (by decide) (fun c47 => ?_) (fun c47 => ?_)
          · rw [if_pos c47] at h
            refine g_ldc2 (v := -1) dX11_next_224 lX11_271 ?_
            refine Go_le ?_ (e_X11_next_j227 hin hex h)
            exact And.intro rfl (trivial)
          · rw [if_neg c47] at h
            refine g_aload_n dX11_next_198 rfl ?_
            obtain ⟨x51, ex51, h⟩ := bs h
            refine q_getJ dX11_next_199 fX11_254 ex51 ?_
            refine g_ldc2 (v := 32) dX11_next_202 lX11_267 ?_
            refine g_lmul dX11_next_205 ?_
            refine g_aload_n dX11_next_206 rfl ?_
            obtain ⟨x52, ex52, h⟩ := bs h
            refine q_getA dX11_next_207 fX11_35 ex52 ?_
            refine g_aload_n dX11_next_210 rfl ?_
            obtain ⟨x53, ex53, h⟩ := bs h
            refine q_getI dX11_next_211 fX11_241 ex53 ?_
            obtain ⟨x54, ex54, h⟩ := bs h
            refine q_iald dX11_next_214 ex54 ?_
            refine g_i2l dX11_next_215 ?_
            refine g_ladd dX11_next_216 ?_
            refine g_ldc2 (v := 96) dX11_next_217 lX11_269 ?_
            refine g_lsub dX11_next_220 ?_
            refine g_goto (t := 227) dX11_next_221 (by decide) ?_
            refine Go_le ?_ (e_X11_next_j227 hin hex h)
            exact And.intro rfl (trivial)
noncomputable def F_X11_next_j319 (O : mO) (d : Nat) (v0 : Nat) (w0 : Int64) (w1 : Nat) (K : mH) : Option ((mH) ⊕ (mH)) :=
  (ptJ K w1 11 17 w0).bind fun K73 =>
  (gtI K73 v0 11 15).bind fun x74 =>
  (ptI K73 v0 11 15 (x74 + (nI 1))).bind fun K75 =>
  some (.inl K75)
theorem e_X11_next_j319 {O : mO} {d : Nat} {v0 : Nat} {w0 : Int64} {w1 : Nat} {K : mH} {P : Option Value → mH → Prop} {y : (mH) ⊕ (mH)} (hin : ∀ q : mH, y = .inl q → Go O (d + 1) MX11_next 243 [some (.ref v0)] [] q P) (hex : ∀ q : mH, y = .inr q → Go O (d + 1) MX11_next 335 [none] [] q P) (h : F_X11_next_j319 O d v0 w0 w1 K = some y) : Go O (d + 1) MX11_next 319 [some (.ref v0)] [.long w0, .ref w1] K P := by
  unfold F_X11_next_j319 at h
  obtain ⟨K73, eK73, h⟩ := bs h
  refine q_put (c := (RX11, TX11, 56)) dX11_next_319 fX11_254 rfl rfl rfl (fun h => absurd h (by decide)) eK73 ?_
  refine g_aload_n dX11_next_322 rfl ?_
  refine g_dup dX11_next_323 (by first | rfl | exact vrf_cat _) ?_
  obtain ⟨x74, ex74, h⟩ := bs h
  refine q_getI dX11_next_324 fX11_241 ex74 ?_
  refine g_iconst (v := (nI 1)) dX11_next_327 (by decide) ?_
  refine g_iadd dX11_next_328 ?_
  obtain ⟨K75, eK75, h⟩ := bs h
  refine q_put (c := (RX11, TX11, 56)) dX11_next_329 fX11_241 rfl rfl rfl (fun h => absurd h (by decide)) eK75 ?_
  refine g_goto (t := 243) dX11_next_332 (by decide) ?_
  refine Go_le ?_ (hin K75 (Option.some.inj h).symm)
  exact And.intro rfl (trivial)
noncomputable def F_X11_next_l243 (O : mO) (d : Nat) (v0 : Nat)  (K : mH) : Option ((mH) ⊕ (mH)) :=
  (gtI K v0 11 16).bind fun x56 =>
  if x56 = (nI 2) then
    (gtI K v0 11 15).bind fun x58 =>
    (gtI K v0 11 13).bind fun x59 =>
    if x59 ≤ x58 then
      some (.inr K)
    else
      (gtA K v0 11 12).bind fun x61 =>
      (gtI K v0 11 15).bind fun x62 =>
      (rdI O K x61 x62).bind fun x63 =>
      (toI (ev O d MX11_isDigit [.int x63] K)).bind fun p64 =>
      if p64.1 = 0 then
        some (.inr p64.2)
      else
        (gtJ p64.2 v0 11 17).bind fun x66 =>
        if (lg_cmp x66 (1000000)) ≤ 0 then
          (gtJ p64.2 v0 11 17).bind fun x69 =>
          (gtA p64.2 v0 11 12).bind fun x70 =>
          (gtI p64.2 v0 11 15).bind fun x71 =>
          (rdI O p64.2 x70 x71).bind fun x72 =>
          F_X11_next_j319 O d v0 (((x69 * (10)) + x72.toInt64) - (48)) v0 p64.2
        else
          (gtJ p64.2 v0 11 17).bind fun x76 =>
          F_X11_next_j319 O d v0 x76 v0 p64.2
  else
    some (.inr K)
theorem e_X11_next_l243 {O : mO} {d : Nat} {v0 : Nat} {P : Option Value → mH → Prop} {x : mH} (hex : ∀ q : mH, x = q → Go O (d + 1) MX11_next 335 [none] [] q P) : ∀ (f : Nat) (q : mH), lupF (fun (q : mH) => F_X11_next_l243 O d v0 q) f q = some x → Go O (d + 1) MX11_next 243 [some (.ref v0)] [] q P := by
  intro f
  induction f with
  | zero =>
    intro q h
    cases h
  | succ f ih =>
    intro K h
    obtain ⟨y, h, hy1, hy2⟩ := lupF_s h
    have hin : ∀ q : mH, y = .inl q → Go O (d + 1) MX11_next 243 [some (.ref v0)] [] q P := fun q e => ih q (hy1 q e)
    replace hex : ∀ q : mH, y = .inr q → Go O (d + 1) MX11_next 335 [none] [] q P := fun q e => hex q (hy2 q e).symm
    clear ih hy1 hy2
    try dsimp only at h
    unfold F_X11_next_l243 at h
    refine g_aload_n dX11_next_243 rfl ?_
    obtain ⟨x56, ex56, h⟩ := bs h
    refine q_getI dX11_next_244 fX11_264 ex56 ?_
    refine g_iconst (v := (nI 2)) dX11_next_247 (by decide) ?_
    refine g_ic_ne (t := 335) dX11_next_248 (by decide) (fun c57 => ?_) (fun c57 => ?_)
    · rw [if_neg c57] at h
      refine Go_le ?_ (hex K (Option.some.inj h).symm)
      exact trivial
    · rw [if_pos c57] at h
      refine g_aload_n dX11_next_251 rfl ?_
      obtain ⟨x58, ex58, h⟩ := bs h
      refine q_getI dX11_next_252 fX11_241 ex58 ?_
      refine g_aload_n dX11_next_255 rfl ?_
      obtain ⟨x59, ex59, h⟩ := bs h
      refine q_getI dX11_next_256 fX11_232 ex59 ?_
      refine g_ic_ge (t := 335) dX11_next_259 (by decide) (fun c60 => ?_) (fun c60 => ?_)
      · rw [if_pos c60] at h
        refine Go_le ?_ (hex K (Option.some.inj h).symm)
        exact trivial
      · rw [if_neg c60] at h
        refine g_aload_n dX11_next_262 rfl ?_
        obtain ⟨x61, ex61, h⟩ := bs h
        refine q_getA dX11_next_263 fX11_35 ex61 ?_
        refine g_aload_n dX11_next_266 rfl ?_
        obtain ⟨x62, ex62, h⟩ := bs h
        refine q_getI dX11_next_267 fX11_241 ex62 ?_
        obtain ⟨x63, ex63, h⟩ := bs h
        refine q_iald dX11_next_270 ex63 ?_
        obtain ⟨p64, ep64, h⟩ := bs h
        refine q_stat (Z := MX11_isDigit) (toI_s ep64) dX11_next_271 mX11_261.1 mX11_261.2 (Nat.le_of_ble_eq_true rfl) rfl rfl (Nat.le_of_ble_eq_true rfl) (Nat.le_of_ble_eq_true rfl) ?_
        show Go O (d + 1) MX11_next 274 [some (.ref v0)] [.int p64.1] p64.2 P
        refine g_if_eq (t := 335) dX11_next_274 (by decide) (fun c65 => ?_) (fun c65 => ?_)
        · rw [if_pos c65] at h
          refine Go_le ?_ (hex p64.2 (Option.some.inj h).symm)
          exact trivial
        · rw [if_neg c65] at h
          refine g_aload_n dX11_next_277 rfl ?_
          refine g_aload_n dX11_next_278 rfl ?_
          obtain ⟨x66, ex66, h⟩ := bs h
          refine q_getJ dX11_next_279 fX11_254 ex66 ?_
          refine g_ldc2 (v := 1000000) dX11_next_282 lX11_273 ?_
          refine g_lcmp dX11_next_285 ?_
          refine g_if_le (t := 296) dX11_next_286 (by decide) (fun c68 => ?_) (fun c68 => ?_)
          · rw [if_pos c68] at h
            refine g_aload_n dX11_next_296 rfl ?_
            obtain ⟨x69, ex69, h⟩ := bs h
            refine q_getJ dX11_next_297 fX11_254 ex69 ?_
            refine g_ldc2 (v := 10) dX11_next_300 lX11_230 ?_
            refine g_lmul dX11_next_303 ?_
            refine g_aload_n dX11_next_304 rfl ?_
            obtain ⟨x70, ex70, h⟩ := bs h
            refine q_getA dX11_next_305 fX11_35 ex70 ?_
            refine g_aload_n dX11_next_308 rfl ?_
            obtain ⟨x71, ex71, h⟩ := bs h
            refine q_getI dX11_next_309 fX11_241 ex71 ?_
            obtain ⟨x72, ex72, h⟩ := bs h
            refine q_iald dX11_next_312 ex72 ?_
            refine g_i2l dX11_next_313 ?_
            refine g_ladd dX11_next_314 ?_
            refine g_ldc2 (v := 48) dX11_next_315 lX11_275 ?_
            refine g_lsub dX11_next_318 ?_
            refine Go_le ?_ (e_X11_next_j319 hin hex h)
            exact And.intro rfl (trivial)
          · rw [if_neg c68] at h
            refine g_aload_n dX11_next_289 rfl ?_
            obtain ⟨x76, ex76, h⟩ := bs h
            refine q_getJ dX11_next_290 fX11_254 ex76 ?_
            refine g_goto (t := 319) dX11_next_293 (by decide) ?_
            refine Go_le ?_ (e_X11_next_j319 hin hex h)
            exact And.intro rfl (trivial)
noncomputable def F_X11_next_j114 (O : mO) (d : Nat) (v0 : Nat) (w0 : Int32) (w1 : Nat) (K : mH) : Option (mH) :=
  (ptI K w1 11 16 w0).bind fun K31 =>
  (gtI K31 v0 11 16).bind fun x32 =>
  if x32 = (nI 3) then
    (gtA K31 v0 11 12).bind fun x78 =>
    (gtI K31 v0 11 14).bind fun x79 =>
    (rdI O K31 x78 x79).bind fun x80 =>
    (ptJ K31 v0 11 17 x80.toInt64).bind fun K81 =>
    (gtI K81 v0 11 15).bind fun x82 =>
    (ptI K81 v0 11 15 (x82 + (nI 1))).bind fun K83 =>
    (lupF (fun (q : mH) => F_X11_next_l149 O d v0 q) FU K83).bind fun r84 =>
    (lupF (fun (q : mH) => F_X11_next_l243 O d v0 q) FU r84).bind fun r85 =>
    some r85
  else
    (lupF (fun (q : mH) => F_X11_next_l149 O d v0 q) FU K31).bind fun r55 =>
    (lupF (fun (q : mH) => F_X11_next_l243 O d v0 q) FU r55).bind fun r77 =>
    some r77
theorem e_X11_next_j114 {O : mO} {d : Nat} {v0 : Nat} {w0 : Int32} {w1 : Nat} {K : mH} {P : Option Value → mH → Prop} {x : mH} (hret : ∀ K' : mH, K' = x → P none K') (h : F_X11_next_j114 O d v0 w0 w1 K = some x) : Go O (d + 1) MX11_next 114 [some (.ref v0)] [.int w0, .ref w1] K P := by
  unfold F_X11_next_j114 at h
  obtain ⟨K31, eK31, h⟩ := bs h
  refine q_put (c := (RX11, TX11, 56)) dX11_next_114 fX11_264 rfl rfl rfl (fun h => absurd h (by decide)) eK31 ?_
  refine g_aload_n dX11_next_117 rfl ?_
  obtain ⟨x32, ex32, h⟩ := bs h
  refine q_getI dX11_next_118 fX11_264 ex32 ?_
  refine g_iconst (v := (nI 3)) dX11_next_121 (by decide) ?_
  refine g_ic_ne (t := 149) dX11_next_122 (by decide) (fun c33 => ?_) (fun c33 => ?_)
  · rw [if_neg c33] at h
    obtain ⟨r55, er55, h⟩ := bs h
    have hx : Go O (d + 1) MX11_next 243 [some (.ref v0)] [] r55 P := by
      obtain ⟨r77, er77, h⟩ := bs h
      have hx : Go O (d + 1) MX11_next 335 [none] [] r77 P := by
        exact g_return dX11_next_335 rfl (hret _ (Option.some.inj h))
      refine Go_le ?_ (e_X11_next_l243 (fun q e => by cases e; exact hx) FU r55 er77)
      exact And.intro rfl (trivial)
    refine Go_le ?_ (e_X11_next_l149 (fun q e => by cases e; exact hx) FU K31 er55)
    exact And.intro rfl (trivial)
  · rw [if_pos c33] at h
    refine g_aload_n dX11_next_125 rfl ?_
    refine g_aload_n dX11_next_126 rfl ?_
    obtain ⟨x78, ex78, h⟩ := bs h
    refine q_getA dX11_next_127 fX11_35 ex78 ?_
    refine g_aload_n dX11_next_130 rfl ?_
    obtain ⟨x79, ex79, h⟩ := bs h
    refine q_getI dX11_next_131 fX11_251 ex79 ?_
    obtain ⟨x80, ex80, h⟩ := bs h
    refine q_iald dX11_next_134 ex80 ?_
    refine g_i2l dX11_next_135 ?_
    obtain ⟨K81, eK81, h⟩ := bs h
    refine q_put (c := (RX11, TX11, 56)) dX11_next_136 fX11_254 rfl rfl rfl (fun h => absurd h (by decide)) eK81 ?_
    refine g_aload_n dX11_next_139 rfl ?_
    refine g_dup dX11_next_140 (by first | rfl | exact vrf_cat _) ?_
    obtain ⟨x82, ex82, h⟩ := bs h
    refine q_getI dX11_next_141 fX11_241 ex82 ?_
    refine g_iconst (v := (nI 1)) dX11_next_144 (by decide) ?_
    refine g_iadd dX11_next_145 ?_
    obtain ⟨K83, eK83, h⟩ := bs h
    refine q_put (c := (RX11, TX11, 56)) dX11_next_146 fX11_241 rfl rfl rfl (fun h => absurd h (by decide)) eK83 ?_
    obtain ⟨r84, er84, h⟩ := bs h
    have hx : Go O (d + 1) MX11_next 243 [some (.ref v0)] [] r84 P := by
      obtain ⟨r85, er85, h⟩ := bs h
      have hx : Go O (d + 1) MX11_next 335 [none] [] r85 P := by
        exact g_return dX11_next_335 rfl (hret _ (Option.some.inj h))
      refine Go_le ?_ (e_X11_next_l243 (fun q e => by cases e; exact hx) FU r84 er85)
      exact And.intro rfl (trivial)
    refine Go_le ?_ (e_X11_next_l149 (fun q e => by cases e; exact hx) FU K83 er84)
    exact And.intro rfl (trivial)
noncomputable def F_X11_next_j46 (O : mO) (d : Nat) (v0 : Nat) (K : mH) : Option (mH) :=
  (gtI K v0 11 14).bind fun x13 =>
  (ptI K v0 11 15 x13).bind fun K14 =>
  (ptJ K14 v0 11 17 0).bind fun K15 =>
  (gtI K15 v0 11 14).bind fun x16 =>
  (gtI K15 v0 11 13).bind fun x17 =>
  if x16 = x17 then
    F_X11_next_j114 O d v0 (nI 0) v0 K15
  else
    (gtA K15 v0 11 12).bind fun x20 =>
    (gtI K15 v0 11 14).bind fun x21 =>
    (rdI O K15 x20 x21).bind fun x22 =>
    (toI (ev O d MX11_isSmall [.int x22] K15)).bind fun p23 =>
    if p23.1 = 0 then
      (gtA p23.2 v0 11 12).bind fun x26 =>
      (gtI p23.2 v0 11 14).bind fun x27 =>
      (rdI O p23.2 x26 x27).bind fun x28 =>
      (toI (ev O d MX11_isDigit [.int x28] p23.2)).bind fun p29 =>
      F_X11_next_j114 O d v0 (if p29.1 = 0 then (nI 3) else (nI 2)) v0 p29.2
    else
      F_X11_next_j114 O d v0 (nI 1) v0 p23.2
theorem e_X11_next_j46 {O : mO} {d : Nat} {v0 : Nat} {K : mH} {P : Option Value → mH → Prop} {x : mH} (hret : ∀ K' : mH, K' = x → P none K') (h : F_X11_next_j46 O d v0 K = some x) : Go O (d + 1) MX11_next 46 [some (.ref v0)] [] K P := by
  unfold F_X11_next_j46 at h
  refine g_aload_n dX11_next_46 rfl ?_
  refine g_aload_n dX11_next_47 rfl ?_
  obtain ⟨x13, ex13, h⟩ := bs h
  refine q_getI dX11_next_48 fX11_251 ex13 ?_
  obtain ⟨K14, eK14, h⟩ := bs h
  refine q_put (c := (RX11, TX11, 56)) dX11_next_51 fX11_241 rfl rfl rfl (fun h => absurd h (by decide)) eK14 ?_
  refine g_aload_n dX11_next_54 rfl ?_
  refine g_lconst (v := 0) dX11_next_55 (by decide) ?_
  obtain ⟨K15, eK15, h⟩ := bs h
  refine q_put (c := (RX11, TX11, 56)) dX11_next_56 fX11_254 rfl rfl rfl (fun h => absurd h (by decide)) eK15 ?_
  refine g_aload_n dX11_next_59 rfl ?_
  refine g_aload_n dX11_next_60 rfl ?_
  obtain ⟨x16, ex16, h⟩ := bs h
  refine q_getI dX11_next_61 fX11_251 ex16 ?_
  refine g_aload_n dX11_next_64 rfl ?_
  obtain ⟨x17, ex17, h⟩ := bs h
  refine q_getI dX11_next_65 fX11_232 ex17 ?_
  refine g_ic_ne (t := 75) dX11_next_68 (by decide) (fun c19 => ?_) (fun c19 => ?_)
  · rw [if_neg c19] at h
    refine g_aload_n dX11_next_75 rfl ?_
    obtain ⟨x20, ex20, h⟩ := bs h
    refine q_getA dX11_next_76 fX11_35 ex20 ?_
    refine g_aload_n dX11_next_79 rfl ?_
    obtain ⟨x21, ex21, h⟩ := bs h
    refine q_getI dX11_next_80 fX11_251 ex21 ?_
    obtain ⟨x22, ex22, h⟩ := bs h
    refine q_iald dX11_next_83 ex22 ?_
    obtain ⟨p23, ep23, h⟩ := bs h
    refine q_stat (Z := MX11_isSmall) (toI_s ep23) dX11_next_84 mX11_258.1 mX11_258.2 (Nat.le_of_ble_eq_true rfl) rfl rfl (Nat.le_of_ble_eq_true rfl) (Nat.le_of_ble_eq_true rfl) ?_
    show Go O (d + 1) MX11_next 87 [some (.ref v0)] [.int p23.1, .ref v0] p23.2 P
    refine g_if_eq (t := 94) dX11_next_87 (by decide) (fun c25 => ?_) (fun c25 => ?_)
    · rw [if_pos c25] at h
      refine g_aload_n dX11_next_94 rfl ?_
      obtain ⟨x26, ex26, h⟩ := bs h
      refine q_getA dX11_next_95 fX11_35 ex26 ?_
      refine g_aload_n dX11_next_98 rfl ?_
      obtain ⟨x27, ex27, h⟩ := bs h
      refine q_getI dX11_next_99 fX11_251 ex27 ?_
      obtain ⟨x28, ex28, h⟩ := bs h
      refine q_iald dX11_next_102 ex28 ?_
      obtain ⟨p29, ep29, h⟩ := bs h
      refine q_stat (Z := MX11_isDigit) (toI_s ep29) dX11_next_103 mX11_261.1 mX11_261.2 (Nat.le_of_ble_eq_true rfl) rfl rfl (Nat.le_of_ble_eq_true rfl) (Nat.le_of_ble_eq_true rfl) ?_
      show Go O (d + 1) MX11_next 106 [some (.ref v0)] [.int p29.1, .ref v0] p29.2 P
      have hj : Go O (d + 1) MX11_next 114 [some (.ref v0)] [.int (if p29.1 = 0 then (nI 3) else (nI 2)), .ref v0] p29.2 P := by
        refine Go_le ?_ (e_X11_next_j114 hret h)
        exact And.intro rfl (trivial)
      refine g_if_eq (t := 113) dX11_next_106 (by decide) (fun c30 => ?_) (fun c30 => ?_)
      · skip
        refine g_iconst (v := (nI 3)) dX11_next_113 (by decide) ?_
        have hk : Go O (d + 1) MX11_next 114 [some (.ref v0)] [.int (nI 3), .ref v0] p29.2 P := by simpa only [if_pos c30] using hj
        refine Go_le ?_ hk
        exact And.intro rfl (trivial)
      · skip
        refine g_iconst (v := (nI 2)) dX11_next_109 (by decide) ?_
        refine g_goto (t := 114) dX11_next_110 (by decide) ?_
        have hk : Go O (d + 1) MX11_next 114 [some (.ref v0)] [.int (nI 2), .ref v0] p29.2 P := by simpa only [if_neg c30] using hj
        refine Go_le ?_ hk
        exact And.intro rfl (trivial)
    · rw [if_neg c25] at h
      refine g_iconst (v := (nI 1)) dX11_next_90 (by decide) ?_
      refine g_goto (t := 114) dX11_next_91 (by decide) ?_
      refine Go_le ?_ (e_X11_next_j114 hret h)
      exact And.intro rfl (trivial)
  · rw [if_pos c19] at h
    refine g_iconst (v := (nI 0)) dX11_next_71 (by decide) ?_
    refine g_goto (t := 114) dX11_next_72 (by decide) ?_
    refine Go_le ?_ (e_X11_next_j114 hret h)
    exact And.intro rfl (trivial)
noncomputable def F_X11_next (O : mO) (d : Nat) (a0 : Nat) (K : mH) : Option (mH) :=
  (gtI K a0 11 15).bind fun x1 =>
  (ptI K a0 11 14 x1).bind fun K2 =>
  (lupF (fun (q : mH) => F_X11_next_l8 O d a0 q) FU K2).bind fun r12 =>
  F_X11_next_j46 O d a0 r12
theorem e_X11_next {O : mO} {d : Nat} {a0 : Nat} {K : mH} {x : mH} (h : F_X11_next O d a0 K = some x) : ev O (d + 1) MX11_next [.ref a0] K = some (none, x) := by
  refine Rn_evx ?_
  show Go O (d + 1) MX11_next 0 [some (.ref a0)] [] K _
  generalize hP : (fun (r : Option Value) (K' : mH) => (r, K') = (none, x)) = P
  have hret : ∀ K' : mH, K' = x → P none K' := by
    intro K' e
    subst hP e
    rfl
  clear hP
  unfold F_X11_next at h
  refine g_aload_n dX11_next_0 rfl ?_
  refine g_aload_n dX11_next_1 rfl ?_
  obtain ⟨x1, ex1, h⟩ := bs h
  refine q_getI dX11_next_2 fX11_241 ex1 ?_
  obtain ⟨K2, eK2, h⟩ := bs h
  refine q_put (c := (RX11, TX11, 56)) dX11_next_5 fX11_251 rfl rfl rfl (fun h => absurd h (by decide)) eK2 ?_
  obtain ⟨r12, er12, h⟩ := bs h
  have hx : Go O (d + 1) MX11_next 46 [some (.ref a0)] [] r12 P := by
    refine Go_le ?_ (e_X11_next_j46 hret h)
    exact And.intro rfl (trivial)
  refine Go_le ?_ (e_X11_next_l8 (fun q e => by cases e; exact hx) FU K2 er12)
  exact And.intro rfl (trivial)
noncomputable def F_X11_isWord (O : mO) (d : Nat) (a0 : Nat) (a1 : Int64) (K : mH) : Option (Int32 × mH) :=
  (gtI K a0 11 16).bind fun x1 =>
  if x1 = (nI 1) then
    (gtJ K a0 11 17).bind fun x4 =>
    (zz (if (lg_cmp x4 a1) = 0 then (nI 1) else (nI 0))).bind fun z6 =>
    some (z6, K)
  else
    some ((nI 0), K)
theorem e_X11_isWord {O : mO} {d : Nat} {a0 : Nat} {a1 : Int64} {K : mH} {r0 : Int32} {K0 : mH} (h : F_X11_isWord O d a0 a1 K = some (r0, K0)) : ev O (d + 1) MX11_isWord [.ref a0, .long a1] K = some (some (.int r0), K0) := by
  refine Rn_evx ?_
  show Go O (d + 1) MX11_isWord 0 [some (.ref a0), some (.long a1), none] [] K _
  generalize hP : (fun (r : Option Value) (K' : mH) => (r, K') = (some (.int r0), K0)) = P
  have hret : ∀ (r : Int32) (K' : mH), (r, K') = (r0, K0) → P (some (.int r)) K' := by
    intro r K' e
    cases e
    subst hP
    rfl
  clear hP
  unfold F_X11_isWord at h
  refine g_aload_n dX11_isWord_0 rfl ?_
  obtain ⟨x1, ex1, h⟩ := bs h
  refine q_getI dX11_isWord_1 fX11_264 ex1 ?_
  refine g_iconst (v := (nI 1)) dX11_isWord_4 (by decide) ?_
  refine g_ic_ne (t := 21) dX11_isWord_5 (by decide) (fun c3 => ?_) (fun c3 => ?_)
  · rw [if_neg c3] at h
    refine g_iconst (v := (nI 0)) dX11_isWord_21 (by decide) ?_
    exact g_ireturn dX11_isWord_22 rfl (by first | rfl | decide) (hret _ _ (Option.some.inj h))
  · rw [if_pos c3] at h
    refine g_aload_n dX11_isWord_8 rfl ?_
    obtain ⟨x4, ex4, h⟩ := bs h
    refine q_getJ dX11_isWord_9 fX11_254 ex4 ?_
    refine g_lload_n dX11_isWord_12 rfl ?_
    refine g_lcmp dX11_isWord_13 ?_
    have hj : Go O (d + 1) MX11_isWord 22 [none, none, none] [.int (if (lg_cmp x4 a1) = 0 then (nI 1) else (nI 0))] K P := by
      obtain ⟨z6, ez6, h⟩ := bs h
      exact q_zret dX11_isWord_22 rfl ez6 (hret _ _ (Option.some.inj h))
    refine g_if_ne (t := 21) dX11_isWord_14 (by decide) (fun c5 => ?_) (fun c5 => ?_)
    · skip
      refine g_iconst (v := (nI 0)) dX11_isWord_21 (by decide) ?_
      have hk : Go O (d + 1) MX11_isWord 22 [none, none, none] [.int (nI 0)] K P := by simpa only [if_neg c5] using hj
      refine Go_le ?_ hk
      exact trivial
    · skip
      refine g_iconst (v := (nI 1)) dX11_isWord_17 (by decide) ?_
      refine g_goto (t := 22) dX11_isWord_18 (by decide) ?_
      have hk : Go O (d + 1) MX11_isWord 22 [none, none, none] [.int (nI 1)] K P := by simpa only [if_pos c5] using hj
      refine Go_le ?_ hk
      exact trivial
noncomputable def F_X11_isSign (O : mO) (d : Nat) (a0 : Nat) (a1 : Int32) (K : mH) : Option (Int32 × mH) :=
  (gtI K a0 11 16).bind fun x1 =>
  if x1 = (nI 3) then
    (gtJ K a0 11 17).bind fun x4 =>
    (zz (if (lg_cmp x4 a1.toInt64) = 0 then (nI 1) else (nI 0))).bind fun z6 =>
    some (z6, K)
  else
    some ((nI 0), K)
theorem e_X11_isSign {O : mO} {d : Nat} {a0 : Nat} {a1 : Int32} {K : mH} {r0 : Int32} {K0 : mH} (h : F_X11_isSign O d a0 a1 K = some (r0, K0)) : ev O (d + 1) MX11_isSign [.ref a0, .int a1] K = some (some (.int r0), K0) := by
  refine Rn_evx ?_
  show Go O (d + 1) MX11_isSign 0 [some (.ref a0), some (.int a1)] [] K _
  generalize hP : (fun (r : Option Value) (K' : mH) => (r, K') = (some (.int r0), K0)) = P
  have hret : ∀ (r : Int32) (K' : mH), (r, K') = (r0, K0) → P (some (.int r)) K' := by
    intro r K' e
    cases e
    subst hP
    rfl
  clear hP
  unfold F_X11_isSign at h
  refine g_aload_n dX11_isSign_0 rfl ?_
  obtain ⟨x1, ex1, h⟩ := bs h
  refine q_getI dX11_isSign_1 fX11_264 ex1 ?_
  refine g_iconst (v := (nI 3)) dX11_isSign_4 (by decide) ?_
  refine g_ic_ne (t := 22) dX11_isSign_5 (by decide) (fun c3 => ?_) (fun c3 => ?_)
  · rw [if_neg c3] at h
    refine g_iconst (v := (nI 0)) dX11_isSign_22 (by decide) ?_
    exact g_ireturn dX11_isSign_23 rfl (by first | rfl | decide) (hret _ _ (Option.some.inj h))
  · rw [if_pos c3] at h
    refine g_aload_n dX11_isSign_8 rfl ?_
    obtain ⟨x4, ex4, h⟩ := bs h
    refine q_getJ dX11_isSign_9 fX11_254 ex4 ?_
    refine g_iload_n dX11_isSign_12 rfl ?_
    refine g_i2l dX11_isSign_13 ?_
    refine g_lcmp dX11_isSign_14 ?_
    have hj : Go O (d + 1) MX11_isSign 23 [none, none] [.int (if (lg_cmp x4 a1.toInt64) = 0 then (nI 1) else (nI 0))] K P := by
      obtain ⟨z6, ez6, h⟩ := bs h
      exact q_zret dX11_isSign_23 rfl ez6 (hret _ _ (Option.some.inj h))
    refine g_if_ne (t := 22) dX11_isSign_15 (by decide) (fun c5 => ?_) (fun c5 => ?_)
    · skip
      refine g_iconst (v := (nI 0)) dX11_isSign_22 (by decide) ?_
      have hk : Go O (d + 1) MX11_isSign 23 [none, none] [.int (nI 0)] K P := by simpa only [if_neg c5] using hj
      refine Go_le ?_ hk
      exact trivial
    · skip
      refine g_iconst (v := (nI 1)) dX11_isSign_18 (by decide) ?_
      refine g_goto (t := 23) dX11_isSign_19 (by decide) ?_
      have hk : Go O (d + 1) MX11_isSign 23 [none, none] [.int (nI 1)] K P := by simpa only [if_pos c5] using hj
      refine Go_le ?_ hk
      exact trivial
noncomputable def F_X11_must_j24 (O : mO) (d : Nat) (v0 : Nat) (K : mH) : Option (mH) :=
  (gtI K v0 11 19).bind fun x5 =>
  if x5 = 0 then
    (toV (vc O d 11 MX11_next v0 [] K)).bind fun K8 =>
    some K8
  else
    some K
theorem e_X11_must_j24 {O : mO} {d : Nat} {v0 : Nat} {K : mH} {P : Option Value → mH → Prop} {x : mH} (hret : ∀ K' : mH, K' = x → P none K') (h : F_X11_must_j24 O d v0 K = some x) : Go O (d + 1) MX11_must 24 [some (.ref v0), none] [] K P := by
  unfold F_X11_must_j24 at h
  refine g_aload_n dX11_must_24 rfl ?_
  obtain ⟨x5, ex5, h⟩ := bs h
  refine q_getI dX11_must_25 fX11_244 ex5 ?_
  refine g_if_ne (t := 35) dX11_must_28 (by decide) (fun c7 => ?_) (fun c7 => ?_)
  · rw [if_neg c7] at h
    exact g_return dX11_must_35 rfl (hret _ (Option.some.inj h))
  · rw [if_pos c7] at h
    refine g_aload_n dX11_must_31 rfl ?_
    obtain ⟨K8, eK8, h⟩ := bs h
    refine q_virt (Z := MX11_next) (c := (RX11, TX11, 56)) (toV_s eK8) dX11_must_32 mX11_248.1 mX11_248.2 (Nat.le_of_ble_eq_true rfl) rfl rfl (Nat.le_of_ble_eq_true rfl) (Nat.le_of_ble_eq_true rfl) rfl rfl ?_
    show Go O (d + 1) MX11_must 35 [some (.ref v0), none] [] K8 P
    exact g_return dX11_must_35 rfl (hret _ (Option.some.inj h))
noncomputable def F_X11_must (O : mO) (d : Nat) (a0 : Nat) (a1 : Int32) (K : mH) : Option (mH) :=
  (gtI K a0 11 19).bind fun x1 =>
  if x1 = 0 then
    if a1 = 0 then
      (ptI K a0 11 19 (nI 1)).bind fun K11 =>
      (gtI K11 a0 11 14).bind fun x12 =>
      (ptI K11 a0 11 18 x12).bind fun K13 =>
      F_X11_must_j24 O d a0 K13
    else
      F_X11_must_j24 O d a0 K
  else
    F_X11_must_j24 O d a0 K
theorem e_X11_must {O : mO} {d : Nat} {a0 : Nat} {a1 : Int32} {K : mH} {x : mH} (h : F_X11_must O d a0 a1 K = some x) : ev O (d + 1) MX11_must [.ref a0, .int a1] K = some (none, x) := by
  refine Rn_evx ?_
  show Go O (d + 1) MX11_must 0 [some (.ref a0), some (.int a1)] [] K _
  generalize hP : (fun (r : Option Value) (K' : mH) => (r, K') = (none, x)) = P
  have hret : ∀ K' : mH, K' = x → P none K' := by
    intro K' e
    subst hP e
    rfl
  clear hP
  unfold F_X11_must at h
  refine g_aload_n dX11_must_0 rfl ?_
  obtain ⟨x1, ex1, h⟩ := bs h
  refine q_getI dX11_must_1 fX11_244 ex1 ?_
  refine g_if_ne (t := 24) dX11_must_4 (by decide) (fun c4 => ?_) (fun c4 => ?_)
  · rw [if_neg c4] at h
    refine Go_le ?_ (e_X11_must_j24 hret h)
    exact And.intro rfl (trivial)
  · rw [if_pos c4] at h
    refine g_iload_n dX11_must_7 rfl ?_
    refine g_if_ne (t := 24) dX11_must_8 (by decide) (fun c10 => ?_) (fun c10 => ?_)
    · rw [if_neg c10] at h
      refine Go_le ?_ (e_X11_must_j24 hret h)
      exact And.intro rfl (trivial)
    · rw [if_pos c10] at h
      refine g_aload_n dX11_must_11 rfl ?_
      refine g_iconst (v := (nI 1)) dX11_must_12 (by decide) ?_
      obtain ⟨K11, eK11, h⟩ := bs h
      refine q_put (c := (RX11, TX11, 56)) dX11_must_13 fX11_244 rfl rfl rfl (fun h => absurd h (by decide)) eK11 ?_
      refine g_aload_n dX11_must_16 rfl ?_
      refine g_aload_n dX11_must_17 rfl ?_
      obtain ⟨x12, ex12, h⟩ := bs h
      refine q_getI dX11_must_18 fX11_251 ex12 ?_
      obtain ⟨K13, eK13, h⟩ := bs h
      refine q_put (c := (RX11, TX11, 56)) dX11_must_21 fX11_38 rfl rfl rfl (fun h => absurd h (by decide)) eK13 ?_
      refine Go_le ?_ (e_X11_must_j24 hret h)
      exact And.intro rfl (trivial)
noncomputable def F_X11_number_j33 (O : mO) (d : Nat) (v5 : Int32) (w0 : Int32) (w1 : Nat) (K : mH) : Option (Int32 × mH) :=
  (toV (vc O d 11 MX11_must w1 [.int w0] K)).bind fun K5 =>
  some (v5, K5)
theorem e_X11_number_j33 {O : mO} {d : Nat} {v5 : Int32} {w0 : Int32} {w1 : Nat} {K : mH} {P : Option Value → mH → Prop} {x : Int32 × mH} (hret : ∀ (r : Int32) (K' : mH), (r, K') = x → P (some (.int r)) K') (h : F_X11_number_j33 O d v5 w0 w1 K = some x) : Go O (d + 1) MX11_number 33 [none, none, none, none, none, some (.int v5)] [.int w0, .ref w1] K P := by
  unfold F_X11_number_j33 at h
  obtain ⟨K5, eK5, h⟩ := bs h
  refine q_virt (Z := MX11_must) (c := (RX11, TX11, 56)) (toV_s eK5) dX11_number_33 mX11_277.1 mX11_277.2 (Nat.le_of_ble_eq_true rfl) rfl rfl (Nat.le_of_ble_eq_true rfl) (Nat.le_of_ble_eq_true rfl) rfl rfl ?_
  show Go O (d + 1) MX11_number 36 [none, none, none, none, none, some (.int v5)] [] K5 P
  refine g_iload dX11_number_36 rfl ?_
  exact g_ireturn dX11_number_38 rfl (by first | rfl | decide) (hret _ _ (Option.some.inj h))
noncomputable def F_X11_number_j32 (O : mO) (d : Nat) (v5 : Int32) (w0 : Nat) (K : mH) : Option (Int32 × mH) :=
  F_X11_number_j33 O d v5 (nI 0) w0 K
theorem e_X11_number_j32 {O : mO} {d : Nat} {v5 : Int32} {w0 : Nat} {K : mH} {P : Option Value → mH → Prop} {x : Int32 × mH} (hret : ∀ (r : Int32) (K' : mH), (r, K') = x → P (some (.int r)) K') (h : F_X11_number_j32 O d v5 w0 K = some x) : Go O (d + 1) MX11_number 32 [none, none, none, none, none, some (.int v5)] [.ref w0] K P := by
  unfold F_X11_number_j32 at h
  refine g_iconst (v := (nI 0)) dX11_number_32 (by decide) ?_
  refine Go_le ?_ (e_X11_number_j33 hret h)
  exact And.intro rfl (trivial)
noncomputable def F_X11_number (O : mO) (d : Nat) (a0 : Nat) (a1 : Int64) (a3 : Int64) (K : mH) : Option (Int32 × mH) :=
  (gtJ K a0 11 17).bind fun x1 =>
  (gtI K a0 11 16).bind fun x2 =>
  if x2 = (nI 2) then
    (gtJ K a0 11 17).bind fun x6 =>
    (toI (ev O d MX11_in [.long x6, .long a1, .long a3] K)).bind fun p7 =>
    (toV (vc O d 11 MX11_must a0 [.int (if p7.1 = 0 then (nI 0) else (nI 1))] p7.2)).bind fun K9 =>
    some (x1.toInt32, K9)
  else
    F_X11_number_j32 O d x1.toInt32 a0 K
theorem e_X11_number {O : mO} {d : Nat} {a0 : Nat} {a1 : Int64} {a3 : Int64} {K : mH} {r0 : Int32} {K0 : mH} (h : F_X11_number O d a0 a1 a3 K = some (r0, K0)) : ev O (d + 1) MX11_number [.ref a0, .long a1, .long a3] K = some (some (.int r0), K0) := by
  refine Rn_evx ?_
  show Go O (d + 1) MX11_number 0 [some (.ref a0), some (.long a1), none, some (.long a3), none, none] [] K _
  generalize hP : (fun (r : Option Value) (K' : mH) => (r, K') = (some (.int r0), K0)) = P
  have hret : ∀ (r : Int32) (K' : mH), (r, K') = (r0, K0) → P (some (.int r)) K' := by
    intro r K' e
    cases e
    subst hP
    rfl
  clear hP
  unfold F_X11_number at h
  refine g_aload_n dX11_number_0 rfl ?_
  obtain ⟨x1, ex1, h⟩ := bs h
  refine q_getJ dX11_number_1 fX11_254 ex1 ?_
  refine g_l2i dX11_number_4 ?_
  refine g_istore (ls' := [some (.ref a0), some (.long a1), none, some (.long a3), none, some (.int x1.toInt32)]) dX11_number_5 (by decide) rfl ?_
  refine g_aload_n dX11_number_7 rfl ?_
  refine g_aload_n dX11_number_8 rfl ?_
  obtain ⟨x2, ex2, h⟩ := bs h
  refine q_getI dX11_number_9 fX11_264 ex2 ?_
  refine g_iconst (v := (nI 2)) dX11_number_12 (by decide) ?_
  refine g_ic_ne (t := 32) dX11_number_13 (by decide) (fun c4 => ?_) (fun c4 => ?_)
  · rw [if_neg c4] at h
    refine Go_le ?_ (e_X11_number_j32 hret h)
    exact And.intro rfl (trivial)
  · rw [if_pos c4] at h
    refine g_aload_n dX11_number_16 rfl ?_
    obtain ⟨x6, ex6, h⟩ := bs h
    refine q_getJ dX11_number_17 fX11_254 ex6 ?_
    refine g_lload_n dX11_number_20 rfl ?_
    refine g_lload_n dX11_number_21 rfl ?_
    obtain ⟨p7, ep7, h⟩ := bs h
    refine q_stat (Z := MX11_in) (toI_s ep7) dX11_number_22 mX11_169.1 mX11_169.2 (Nat.le_of_ble_eq_true rfl) rfl rfl (Nat.le_of_ble_eq_true rfl) (Nat.le_of_ble_eq_true rfl) ?_
    show Go O (d + 1) MX11_number 25 [some (.ref a0), some (.long a1), none, some (.long a3), none, some (.int x1.toInt32)] [.int p7.1, .ref a0] p7.2 P
    have hj : Go O (d + 1) MX11_number 33 [none, none, none, none, none, some (.int x1.toInt32)] [.int (if p7.1 = 0 then (nI 0) else (nI 1)), .ref a0] p7.2 P := by
      obtain ⟨K9, eK9, h⟩ := bs h
      refine q_virt (Z := MX11_must) (c := (RX11, TX11, 56)) (toV_s eK9) dX11_number_33 mX11_277.1 mX11_277.2 (Nat.le_of_ble_eq_true rfl) rfl rfl (Nat.le_of_ble_eq_true rfl) (Nat.le_of_ble_eq_true rfl) rfl rfl ?_
      show Go O (d + 1) MX11_number 36 [none, none, none, none, none, some (.int x1.toInt32)] [] K9 P
      refine g_iload dX11_number_36 rfl ?_
      exact g_ireturn dX11_number_38 rfl (by first | rfl | decide) (hret _ _ (Option.some.inj h))
    refine g_if_eq (t := 32) dX11_number_25 (by decide) (fun c8 => ?_) (fun c8 => ?_)
    · skip
      refine g_iconst (v := (nI 0)) dX11_number_32 (by decide) ?_
      have hk : Go O (d + 1) MX11_number 33 [none, none, none, none, none, some (.int x1.toInt32)] [.int (nI 0), .ref a0] p7.2 P := by simpa only [if_pos c8] using hj
      refine Go_le ?_ hk
      exact And.intro rfl (trivial)
    · skip
      refine g_iconst (v := (nI 1)) dX11_number_28 (by decide) ?_
      refine g_goto (t := 33) dX11_number_29 (by decide) ?_
      have hk : Go O (d + 1) MX11_number 33 [none, none, none, none, none, some (.int x1.toInt32)] [.int (nI 1), .ref a0] p7.2 P := by simpa only [if_neg c8] using hj
      refine Go_le ?_ hk
      exact And.intro rfl (trivial)
noncomputable def F_X11_emit (O : mO) (d : Nat) (a0 : Nat) (a1 : Int32) (a2 : Int32) (K : mH) : Option (mH) :=
  (gtA K a0 11 24).bind fun x1 =>
  (gtI K a0 11 23).bind fun x2 =>
  (wrI K x1 x2 a1).bind fun K3 =>
  (gtA K3 a0 11 25).bind fun x4 =>
  (gtI K3 a0 11 23).bind fun x5 =>
  (wrI K3 x4 x5 a2).bind fun K6 =>
  (gtI K6 a0 11 23).bind fun x7 =>
  (ptI K6 a0 11 23 (x7 + (nI 1))).bind fun K8 =>
  some K8
theorem e_X11_emit {O : mO} {d : Nat} {a0 : Nat} {a1 : Int32} {a2 : Int32} {K : mH} {x : mH} (h : F_X11_emit O d a0 a1 a2 K = some x) : ev O (d + 1) MX11_emit [.ref a0, .int a1, .int a2] K = some (none, x) := by
  refine Rn_evx ?_
  show Go O (d + 1) MX11_emit 0 [some (.ref a0), some (.int a1), some (.int a2)] [] K _
  generalize hP : (fun (r : Option Value) (K' : mH) => (r, K') = (none, x)) = P
  have hret : ∀ K' : mH, K' = x → P none K' := by
    intro K' e
    subst hP e
    rfl
  clear hP
  unfold F_X11_emit at h
  refine g_aload_n dX11_emit_0 rfl ?_
  obtain ⟨x1, ex1, h⟩ := bs h
  refine q_getA dX11_emit_1 fX11_45 ex1 ?_
  refine g_aload_n dX11_emit_4 rfl ?_
  obtain ⟨x2, ex2, h⟩ := bs h
  refine q_getI dX11_emit_5 fX11_281 ex2 ?_
  refine g_iload_n dX11_emit_8 rfl ?_
  obtain ⟨K3, eK3, h⟩ := bs h
  refine q_iast dX11_emit_9 eK3 ?_
  refine g_aload_n dX11_emit_10 rfl ?_
  obtain ⟨x4, ex4, h⟩ := bs h
  refine q_getA dX11_emit_11 fX11_48 ex4 ?_
  refine g_aload_n dX11_emit_14 rfl ?_
  obtain ⟨x5, ex5, h⟩ := bs h
  refine q_getI dX11_emit_15 fX11_281 ex5 ?_
  refine g_iload_n dX11_emit_18 rfl ?_
  obtain ⟨K6, eK6, h⟩ := bs h
  refine q_iast dX11_emit_19 eK6 ?_
  refine g_aload_n dX11_emit_20 rfl ?_
  refine g_dup dX11_emit_21 (by first | rfl | exact vrf_cat _) ?_
  obtain ⟨x7, ex7, h⟩ := bs h
  refine q_getI dX11_emit_22 fX11_281 ex7 ?_
  refine g_iconst (v := (nI 1)) dX11_emit_25 (by decide) ?_
  refine g_iadd dX11_emit_26 ?_
  obtain ⟨K8, eK8, h⟩ := bs h
  refine q_put (c := (RX11, TX11, 56)) dX11_emit_27 fX11_281 rfl rfl rfl (fun h => absurd h (by decide)) eK8 ?_
  exact g_return dX11_emit_30 rfl (hret _ (Option.some.inj h))
noncomputable def F_X11_push (O : mO) (d : Nat) (a0 : Nat) (a1 : Int32) (a2 : Int32) (K : mH) : Option (mH) :=
  (gtA K a0 11 27).bind fun x1 =>
  (gtI K a0 11 29).bind fun x2 =>
  (wrI K x1 x2 a1).bind fun K3 =>
  (gtA K3 a0 11 28).bind fun x4 =>
  (gtI K3 a0 11 29).bind fun x5 =>
  (wrI K3 x4 x5 a2).bind fun K6 =>
  (gtI K6 a0 11 29).bind fun x7 =>
  (ptI K6 a0 11 29 (x7 + (nI 1))).bind fun K8 =>
  some K8
theorem e_X11_push {O : mO} {d : Nat} {a0 : Nat} {a1 : Int32} {a2 : Int32} {K : mH} {x : mH} (h : F_X11_push O d a0 a1 a2 K = some x) : ev O (d + 1) MX11_push [.ref a0, .int a1, .int a2] K = some (none, x) := by
  refine Rn_evx ?_
  show Go O (d + 1) MX11_push 0 [some (.ref a0), some (.int a1), some (.int a2)] [] K _
  generalize hP : (fun (r : Option Value) (K' : mH) => (r, K') = (none, x)) = P
  have hret : ∀ K' : mH, K' = x → P none K' := by
    intro K' e
    subst hP e
    rfl
  clear hP
  unfold F_X11_push at h
  refine g_aload_n dX11_push_0 rfl ?_
  obtain ⟨x1, ex1, h⟩ := bs h
  refine q_getA dX11_push_1 fX11_51 ex1 ?_
  refine g_aload_n dX11_push_4 rfl ?_
  obtain ⟨x2, ex2, h⟩ := bs h
  refine q_getI dX11_push_5 fX11_284 ex2 ?_
  refine g_iload_n dX11_push_8 rfl ?_
  obtain ⟨K3, eK3, h⟩ := bs h
  refine q_iast dX11_push_9 eK3 ?_
  refine g_aload_n dX11_push_10 rfl ?_
  obtain ⟨x4, ex4, h⟩ := bs h
  refine q_getA dX11_push_11 fX11_54 ex4 ?_
  refine g_aload_n dX11_push_14 rfl ?_
  obtain ⟨x5, ex5, h⟩ := bs h
  refine q_getI dX11_push_15 fX11_284 ex5 ?_
  refine g_iload_n dX11_push_18 rfl ?_
  obtain ⟨K6, eK6, h⟩ := bs h
  refine q_iast dX11_push_19 eK6 ?_
  refine g_aload_n dX11_push_20 rfl ?_
  refine g_dup dX11_push_21 (by first | rfl | exact vrf_cat _) ?_
  obtain ⟨x7, ex7, h⟩ := bs h
  refine q_getI dX11_push_22 fX11_284 ex7 ?_
  refine g_iconst (v := (nI 1)) dX11_push_25 (by decide) ?_
  refine g_iadd dX11_push_26 ?_
  obtain ⟨K8, eK8, h⟩ := bs h
  refine q_put (c := (RX11, TX11, 56)) dX11_push_27 fX11_284 rfl rfl rfl (fun h => absurd h (by decide)) eK8 ?_
  exact g_return dX11_push_30 rfl (hret _ (Option.some.inj h))
noncomputable def F_X11_binds (O : mO) (d : Nat) (a0 : Int32) (K : mH) : Option (Int32 × mH) :=
  if a0 < (nI 31) then
    some ((if a0 = (nI 30) then (nI 1) else (if a0 = (nI 29) then (nI 2) else (if a0 = (nI 28) then (nI 3) else (if a0 < (nI 25) then (if a0 < (nI 22) then (nI 5) else (nI 6)) else (nI 4))))), K)
  else
    some ((nI 0), K)
theorem e_X11_binds {O : mO} {d : Nat} {a0 : Int32} {K : mH} {r0 : Int32} {K0 : mH} (h : F_X11_binds O d a0 K = some (r0, K0)) : ev O (d + 1) MX11_binds [.int a0] K = some (some (.int r0), K0) := by
  refine Rn_evx ?_
  show Go O (d + 1) MX11_binds 0 [some (.int a0)] [] K _
  generalize hP : (fun (r : Option Value) (K' : mH) => (r, K') = (some (.int r0), K0)) = P
  have hret : ∀ (r : Int32) (K' : mH), (r, K') = (r0, K0) → P (some (.int r)) K' := by
    intro r K' e
    cases e
    subst hP
    rfl
  clear hP
  unfold F_X11_binds at h
  refine g_iload_n dX11_binds_0 rfl ?_
  refine g_bipush (v := (nI 31)) dX11_binds_1 (by decide) ?_
  refine g_ic_lt (t := 10) dX11_binds_3 (by decide) (fun c7 => ?_) (fun c7 => ?_)
  · rw [if_pos c7] at h
    refine g_iload_n dX11_binds_10 rfl ?_
    refine g_bipush (v := (nI 30)) dX11_binds_11 (by decide) ?_
    have hj : Go O (d + 1) MX11_binds 62 [none] [.int (if a0 = (nI 30) then (nI 1) else (if a0 = (nI 29) then (nI 2) else (if a0 = (nI 28) then (nI 3) else (if a0 < (nI 25) then (if a0 < (nI 22) then (nI 5) else (nI 6)) else (nI 4)))))] K P := by
      exact g_ireturn dX11_binds_62 rfl (by first | rfl | decide) (hret _ _ (Option.some.inj h))
    refine g_ic_ne (t := 20) dX11_binds_13 (by decide) (fun c8 => ?_) (fun c8 => ?_)
    · skip
      refine g_iload_n dX11_binds_20 rfl ?_
      refine g_bipush (v := (nI 29)) dX11_binds_21 (by decide) ?_
      refine g_ic_ne (t := 30) dX11_binds_23 (by decide) (fun c9 => ?_) (fun c9 => ?_)
      · skip
        refine g_iload_n dX11_binds_30 rfl ?_
        refine g_bipush (v := (nI 28)) dX11_binds_31 (by decide) ?_
        refine g_ic_ne (t := 40) dX11_binds_33 (by decide) (fun c10 => ?_) (fun c10 => ?_)
        · skip
          refine g_iload_n dX11_binds_40 rfl ?_
          refine g_bipush (v := (nI 25)) dX11_binds_41 (by decide) ?_
          refine g_ic_lt (t := 50) dX11_binds_43 (by decide) (fun c11 => ?_) (fun c11 => ?_)
          · skip
            refine g_iload_n dX11_binds_50 rfl ?_
            refine g_bipush (v := (nI 22)) dX11_binds_51 (by decide) ?_
            refine g_ic_lt (t := 61) dX11_binds_53 (by decide) (fun c12 => ?_) (fun c12 => ?_)
            · skip
              refine g_iconst (v := (nI 5)) dX11_binds_61 (by decide) ?_
              have hk : Go O (d + 1) MX11_binds 62 [none] [.int (nI 5)] K P := by simpa only [if_neg c8, if_neg c9, if_neg c10, if_pos c11, if_pos c12] using hj
              refine Go_le ?_ hk
              exact trivial
            · skip
              refine g_bipush (v := (nI 6)) dX11_binds_56 (by decide) ?_
              refine g_goto (t := 62) dX11_binds_58 (by decide) ?_
              have hk : Go O (d + 1) MX11_binds 62 [none] [.int (nI 6)] K P := by simpa only [if_neg c8, if_neg c9, if_neg c10, if_pos c11, if_neg c12] using hj
              refine Go_le ?_ hk
              exact trivial
          · skip
            refine g_iconst (v := (nI 4)) dX11_binds_46 (by decide) ?_
            refine g_goto (t := 62) dX11_binds_47 (by decide) ?_
            have hk : Go O (d + 1) MX11_binds 62 [none] [.int (nI 4)] K P := by simpa only [if_neg c8, if_neg c9, if_neg c10, if_neg c11] using hj
            refine Go_le ?_ hk
            exact trivial
        · skip
          refine g_iconst (v := (nI 3)) dX11_binds_36 (by decide) ?_
          refine g_goto (t := 62) dX11_binds_37 (by decide) ?_
          have hk : Go O (d + 1) MX11_binds 62 [none] [.int (nI 3)] K P := by simpa only [if_neg c8, if_neg c9, if_pos c10] using hj
          refine Go_le ?_ hk
          exact trivial
      · skip
        refine g_iconst (v := (nI 2)) dX11_binds_26 (by decide) ?_
        refine g_goto (t := 62) dX11_binds_27 (by decide) ?_
        have hk : Go O (d + 1) MX11_binds 62 [none] [.int (nI 2)] K P := by simpa only [if_neg c8, if_pos c9] using hj
        refine Go_le ?_ hk
        exact trivial
    · skip
      refine g_iconst (v := (nI 1)) dX11_binds_16 (by decide) ?_
      refine g_goto (t := 62) dX11_binds_17 (by decide) ?_
      have hk : Go O (d + 1) MX11_binds 62 [none] [.int (nI 1)] K P := by simpa only [if_pos c8] using hj
      refine Go_le ?_ hk
      exact trivial
  · rw [if_neg c7] at h
    refine g_iconst (v := (nI 0)) dX11_binds_6 (by decide) ?_
    refine g_goto (t := 62) dX11_binds_7 (by decide) ?_
    exact g_ireturn dX11_binds_62 rfl (by first | rfl | decide) (hret _ _ (Option.some.inj h))
noncomputable def F_X11_settle_j63 (O : mO) (d : Nat) (v0 : Nat) (v1 : Int32) (K : mH) : Option ((mH) ⊕ (mH)) :=
  (gtA K v0 11 25).bind fun x14 =>
  (gtA K v0 11 28).bind fun x15 =>
  (gtI K v0 11 29).bind fun x16 =>
  (rdI O K x15 x16).bind fun x17 =>
  (gtI K v0 11 23).bind fun x18 =>
  (wrI K x14 x17 x18).bind fun K19 =>
  some (.inl K19)
theorem e_X11_settle_j63 {O : mO} {d : Nat} {v0 : Nat} {v1 : Int32} {K : mH} {P : Option Value → mH → Prop} {y : (mH) ⊕ (mH)} (hin : ∀ q : mH, y = .inl q → Go O (d + 1) MX11_settle 0 [some (.ref v0), some (.int v1)] [] q P) (hex : ∀ q : mH, y = .inr q → Go O (d + 1) MX11_settle 101 [none, none] [] q P) (h : F_X11_settle_j63 O d v0 v1 K = some y) : Go O (d + 1) MX11_settle 63 [some (.ref v0), some (.int v1)] [] K P := by
  unfold F_X11_settle_j63 at h
  refine g_aload_n dX11_settle_63 rfl ?_
  obtain ⟨x14, ex14, h⟩ := bs h
  refine q_getA dX11_settle_64 fX11_48 ex14 ?_
  refine g_aload_n dX11_settle_67 rfl ?_
  obtain ⟨x15, ex15, h⟩ := bs h
  refine q_getA dX11_settle_68 fX11_54 ex15 ?_
  refine g_aload_n dX11_settle_71 rfl ?_
  obtain ⟨x16, ex16, h⟩ := bs h
  refine q_getI dX11_settle_72 fX11_284 ex16 ?_
  obtain ⟨x17, ex17, h⟩ := bs h
  refine q_iald dX11_settle_75 ex17 ?_
  refine g_aload_n dX11_settle_76 rfl ?_
  obtain ⟨x18, ex18, h⟩ := bs h
  refine q_getI dX11_settle_77 fX11_281 ex18 ?_
  obtain ⟨K19, eK19, h⟩ := bs h
  refine q_iast dX11_settle_80 eK19 ?_
  refine g_goto (t := 0) dX11_settle_81 (by decide) ?_
  refine Go_le ?_ (hin K19 (Option.some.inj h).symm)
  exact And.intro rfl (And.intro rfl (trivial))
noncomputable def F_X11_settle_l0 (O : mO) (d : Nat) (v0 : Nat) (v1 : Int32)  (K : mH) : Option ((mH) ⊕ (mH)) :=
  (gtI K v0 11 29).bind fun x1 =>
  if x1 ≤ 0 then
    some (.inr K)
  else
    (gtA K v0 11 27).bind fun x3 =>
    (gtI K v0 11 29).bind fun x4 =>
    (rdI O K x3 (x4 - (nI 1))).bind fun x5 =>
    (toI (ev O d MX11_binds [.int x5] K)).bind fun p6 =>
    if p6.1 < v1 then
      some (.inr p6.2)
    else
      (gtI p6.2 v0 11 29).bind fun x8 =>
      (ptI p6.2 v0 11 29 (x8 - (nI 1))).bind fun K9 =>
      (gtA K9 v0 11 27).bind fun x10 =>
      (gtI K9 v0 11 29).bind fun x11 =>
      (rdI O K9 x10 x11).bind fun x12 =>
      if x12 = (nI 29) then
        F_X11_settle_j63 O d v0 v1 K9
      else
        (gtA K9 v0 11 27).bind fun x20 =>
        (gtI K9 v0 11 29).bind fun x21 =>
        (rdI O K9 x20 x21).bind fun x22 =>
        if x22 = (nI 30) then
          F_X11_settle_j63 O d v0 v1 K9
        else
          (gtA K9 v0 11 27).bind fun x24 =>
          (gtI K9 v0 11 29).bind fun x25 =>
          (rdI O K9 x24 x25).bind fun x26 =>
          (toV (vc O d 11 MX11_emit v0 [.int x26, .int (nI 0)] K9)).bind fun K27 =>
          some (.inl K27)
theorem e_X11_settle_l0 {O : mO} {d : Nat} {v0 : Nat} {v1 : Int32} {P : Option Value → mH → Prop} {x : mH} (hex : ∀ q : mH, x = q → Go O (d + 1) MX11_settle 101 [none, none] [] q P) : ∀ (f : Nat) (q : mH), lupF (fun (q : mH) => F_X11_settle_l0 O d v0 v1 q) f q = some x → Go O (d + 1) MX11_settle 0 [some (.ref v0), some (.int v1)] [] q P := by
  intro f
  induction f with
  | zero =>
    intro q h
    cases h
  | succ f ih =>
    intro K h
    obtain ⟨y, h, hy1, hy2⟩ := lupF_s h
    have hin : ∀ q : mH, y = .inl q → Go O (d + 1) MX11_settle 0 [some (.ref v0), some (.int v1)] [] q P := fun q e => ih q (hy1 q e)
    replace hex : ∀ q : mH, y = .inr q → Go O (d + 1) MX11_settle 101 [none, none] [] q P := fun q e => hex q (hy2 q e).symm
    clear ih hy1 hy2
    try dsimp only at h
    unfold F_X11_settle_l0 at h
    refine g_aload_n dX11_settle_0 rfl ?_
    obtain ⟨x1, ex1, h⟩ := bs h
    refine q_getI dX11_settle_1 fX11_284 ex1 ?_
    refine g_if_le (t := 101) dX11_settle_4 (by decide) (fun c2 => ?_) (fun c2 => ?_)
    · rw [if_pos c2] at h
      refine Go_le ?_ (hex K (Option.some.inj h).symm)
      exact trivial
    · rw [if_neg c2] at h
      refine g_aload_n dX11_settle_7 rfl ?_
      obtain ⟨x3, ex3, h⟩ := bs h
      refine q_getA dX11_settle_8 fX11_51 ex3 ?_
      refine g_aload_n dX11_settle_11 rfl ?_
      obtain ⟨x4, ex4, h⟩ := bs h
      refine q_getI dX11_settle_12 fX11_284 ex4 ?_
      refine g_iconst (v := (nI 1)) dX11_settle_15 (by decide) ?_
      refine g_isub dX11_settle_16 ?_
      obtain ⟨x5, ex5, h⟩ := bs h
      refine q_iald dX11_settle_17 ex5 ?_
      obtain ⟨p6, ep6, h⟩ := bs h
      refine q_stat (Z := MX11_binds) (toI_s ep6) dX11_settle_18 mX11_287.1 mX11_287.2 (Nat.le_of_ble_eq_true rfl) rfl rfl (Nat.le_of_ble_eq_true rfl) (Nat.le_of_ble_eq_true rfl) ?_
      show Go O (d + 1) MX11_settle 21 [some (.ref v0), some (.int v1)] [.int p6.1] p6.2 P
      refine g_iload_n dX11_settle_21 rfl ?_
      refine g_ic_lt (t := 101) dX11_settle_22 (by decide) (fun c7 => ?_) (fun c7 => ?_)
      · rw [if_pos c7] at h
        refine Go_le ?_ (hex p6.2 (Option.some.inj h).symm)
        exact trivial
      · rw [if_neg c7] at h
        refine g_aload_n dX11_settle_25 rfl ?_
        refine g_dup dX11_settle_26 (by first | rfl | exact vrf_cat _) ?_
        obtain ⟨x8, ex8, h⟩ := bs h
        refine q_getI dX11_settle_27 fX11_284 ex8 ?_
        refine g_iconst (v := (nI 1)) dX11_settle_30 (by decide) ?_
        refine g_isub dX11_settle_31 ?_
        obtain ⟨K9, eK9, h⟩ := bs h
        refine q_put (c := (RX11, TX11, 56)) dX11_settle_32 fX11_284 rfl rfl rfl (fun h => absurd h (by decide)) eK9 ?_
        refine g_aload_n dX11_settle_35 rfl ?_
        obtain ⟨x10, ex10, h⟩ := bs h
        refine q_getA dX11_settle_36 fX11_51 ex10 ?_
        refine g_aload_n dX11_settle_39 rfl ?_
        obtain ⟨x11, ex11, h⟩ := bs h
        refine q_getI dX11_settle_40 fX11_284 ex11 ?_
        obtain ⟨x12, ex12, h⟩ := bs h
        refine q_iald dX11_settle_43 ex12 ?_
        refine g_bipush (v := (nI 29)) dX11_settle_44 (by decide) ?_
        refine g_ic_eq (t := 63) dX11_settle_46 (by decide) (fun c13 => ?_) (fun c13 => ?_)
        · rw [if_pos c13] at h
          refine Go_le ?_ (e_X11_settle_j63 hin hex h)
          exact And.intro rfl (And.intro rfl (trivial))
        · rw [if_neg c13] at h
          refine g_aload_n dX11_settle_49 rfl ?_
          obtain ⟨x20, ex20, h⟩ := bs h
          refine q_getA dX11_settle_50 fX11_51 ex20 ?_
          refine g_aload_n dX11_settle_53 rfl ?_
          obtain ⟨x21, ex21, h⟩ := bs h
          refine q_getI dX11_settle_54 fX11_284 ex21 ?_
          obtain ⟨x22, ex22, h⟩ := bs h
          refine q_iald dX11_settle_57 ex22 ?_
          refine g_bipush (v := (nI 30)) dX11_settle_58 (by decide) ?_
          refine g_ic_ne (t := 84) dX11_settle_60 (by decide) (fun c23 => ?_) (fun c23 => ?_)
          · rw [if_neg c23] at h
            refine g_aload_n dX11_settle_84 rfl ?_
            refine g_aload_n dX11_settle_85 rfl ?_
            obtain ⟨x24, ex24, h⟩ := bs h
            refine q_getA dX11_settle_86 fX11_51 ex24 ?_
            refine g_aload_n dX11_settle_89 rfl ?_
            obtain ⟨x25, ex25, h⟩ := bs h
            refine q_getI dX11_settle_90 fX11_284 ex25 ?_
            obtain ⟨x26, ex26, h⟩ := bs h
            refine q_iald dX11_settle_93 ex26 ?_
            refine g_iconst (v := (nI 0)) dX11_settle_94 (by decide) ?_
            obtain ⟨K27, eK27, h⟩ := bs h
            refine q_virt (Z := MX11_emit) (c := (RX11, TX11, 56)) (toV_s eK27) dX11_settle_95 mX11_290.1 mX11_290.2 (Nat.le_of_ble_eq_true rfl) rfl rfl (Nat.le_of_ble_eq_true rfl) (Nat.le_of_ble_eq_true rfl) rfl rfl ?_
            show Go O (d + 1) MX11_settle 98 [some (.ref v0), some (.int v1)] [] K27 P
            refine g_goto (t := 0) dX11_settle_98 (by decide) ?_
            refine Go_le ?_ (hin K27 (Option.some.inj h).symm)
            exact And.intro rfl (And.intro rfl (trivial))
          · rw [if_pos c23] at h
            refine Go_le ?_ (e_X11_settle_j63 hin hex h)
            exact And.intro rfl (And.intro rfl (trivial))
noncomputable def F_X11_settle (O : mO) (d : Nat) (a0 : Nat) (a1 : Int32) (K : mH) : Option (mH) :=
  (lupF (fun (q : mH) => F_X11_settle_l0 O d a0 a1 q) FU K).bind fun r28 =>
  some r28
theorem e_X11_settle {O : mO} {d : Nat} {a0 : Nat} {a1 : Int32} {K : mH} {x : mH} (h : F_X11_settle O d a0 a1 K = some x) : ev O (d + 1) MX11_settle [.ref a0, .int a1] K = some (none, x) := by
  refine Rn_evx ?_
  show Go O (d + 1) MX11_settle 0 [some (.ref a0), some (.int a1)] [] K _
  generalize hP : (fun (r : Option Value) (K' : mH) => (r, K') = (none, x)) = P
  have hret : ∀ K' : mH, K' = x → P none K' := by
    intro K' e
    subst hP e
    rfl
  clear hP
  unfold F_X11_settle at h
  obtain ⟨r28, er28, h⟩ := bs h
  have hx : Go O (d + 1) MX11_settle 101 [none, none] [] r28 P := by
    exact g_return dX11_settle_101 rfl (hret _ (Option.some.inj h))
  refine Go_le ?_ (e_X11_settle_l0 (fun q e => by cases e; exact hx) FU K er28)
  exact And.intro rfl (And.intro rfl (trivial))
noncomputable def F_X11_inner_l4 (O : mO) (d : Nat) (v0 : Nat) (K : mH) (s1 : Int32) (s2 : Int32) : Option ((Int32 × Int32) ⊕ (Int32)) :=
  (gtI K v0 11 29).bind fun x1 =>
  if x1 ≤ s2 then
    some (.inr s1)
  else
    (gtA K v0 11 27).bind fun x3 =>
    (rdI O K x3 s2).bind fun x4 =>
    if x4 < (nI 31) then
      some (.inl (s1, (s2 + nI 1)))
    else
      (gtA K v0 11 27).bind fun x7 =>
      (rdI O K x7 s2).bind fun x8 =>
      some (.inl (x8, (s2 + nI 1)))
theorem e_X11_inner_l4 {O : mO} {d : Nat} {v0 : Nat} {K : mH} {P : Option Value → mH → Prop} {x : Int32} (hex : ∀ q : Int32, x = q → Go O (d + 1) MX11_inner 40 [none, some (.int q), none] [] K P) : ∀ (f : Nat) (q : Int32 × Int32), lupF (fun (q : Int32 × Int32) => F_X11_inner_l4 O d v0 K q.1 q.2) f q = some x → Go O (d + 1) MX11_inner 4 [some (.ref v0), some (.int q.1), some (.int q.2)] [] K P := by
  intro f
  induction f with
  | zero =>
    intro q h
    cases h
  | succ f ih =>
    intro q h
    obtain ⟨y, h, hy1, hy2⟩ := lupF_s h
    have hin : ∀ q : Int32 × Int32, y = .inl q → Go O (d + 1) MX11_inner 4 [some (.ref v0), some (.int q.1), some (.int q.2)] [] K P := fun q e => ih q (hy1 q e)
    replace hex : ∀ q : Int32, y = .inr q → Go O (d + 1) MX11_inner 40 [none, some (.int q), none] [] K P := fun q e => hex q (hy2 q e).symm
    clear ih hy1 hy2
    obtain ⟨s1, s2⟩ := q
    dsimp only at h ⊢
    unfold F_X11_inner_l4 at h
    refine g_iload_n dX11_inner_4 rfl ?_
    refine g_aload_n dX11_inner_5 rfl ?_
    obtain ⟨x1, ex1, h⟩ := bs h
    refine q_getI dX11_inner_6 fX11_284 ex1 ?_
    refine g_ic_ge (t := 40) dX11_inner_9 (by decide) (fun c2 => ?_) (fun c2 => ?_)
    · rw [if_pos c2] at h
      refine Go_le ?_ (hex s1 (Option.some.inj h).symm)
      exact And.intro rfl (trivial)
    · rw [if_neg c2] at h
      refine g_aload_n dX11_inner_12 rfl ?_
      obtain ⟨x3, ex3, h⟩ := bs h
      refine q_getA dX11_inner_13 fX11_51 ex3 ?_
      refine g_iload_n dX11_inner_16 rfl ?_
      obtain ⟨x4, ex4, h⟩ := bs h
      refine q_iald dX11_inner_17 ex4 ?_
      refine g_bipush (v := (nI 31)) dX11_inner_18 (by decide) ?_
      refine g_ic_lt (t := 32) dX11_inner_20 (by decide) (fun c6 => ?_) (fun c6 => ?_)
      · rw [if_pos c6] at h
        refine g_iload_n dX11_inner_32 rfl ?_
        refine g_istore_n (ls' := [some (.ref v0), some (.int s1), some (.int s2)]) dX11_inner_33 (by decide) rfl ?_
        refine q_iinc (w := nI 1) (ls' := [some (.ref v0), some (.int s1), some (.int (s2 + nI 1))]) dX11_inner_34 (by decide) rfl (by decide) rfl ?_
        refine g_goto (t := 4) dX11_inner_37 (by decide) ?_
        refine Go_le ?_ (hin (s1, (s2 + nI 1)) (Option.some.inj h).symm)
        exact And.intro rfl (And.intro rfl (And.intro rfl (trivial)))
      · rw [if_neg c6] at h
        refine g_aload_n dX11_inner_23 rfl ?_
        obtain ⟨x7, ex7, h⟩ := bs h
        refine q_getA dX11_inner_24 fX11_51 ex7 ?_
        refine g_iload_n dX11_inner_27 rfl ?_
        obtain ⟨x8, ex8, h⟩ := bs h
        refine q_iald dX11_inner_28 ex8 ?_
        refine g_goto (t := 33) dX11_inner_29 (by decide) ?_
        refine g_istore_n (ls' := [some (.ref v0), some (.int x8), some (.int s2)]) dX11_inner_33 (by decide) rfl ?_
        refine q_iinc (w := nI 1) (ls' := [some (.ref v0), some (.int x8), some (.int (s2 + nI 1))]) dX11_inner_34 (by decide) rfl (by decide) rfl ?_
        refine g_goto (t := 4) dX11_inner_37 (by decide) ?_
        refine Go_le ?_ (hin (x8, (s2 + nI 1)) (Option.some.inj h).symm)
        exact And.intro rfl (And.intro rfl (And.intro rfl (trivial)))
noncomputable def F_X11_inner (O : mO) (d : Nat) (a0 : Nat) (K : mH) : Option (Int32 × mH) :=
  (lupF (fun (q : Int32 × Int32) => F_X11_inner_l4 O d a0 K q.1 q.2) FU ((-1), (nI 0))).bind fun r9 =>
  some (r9, K)
theorem e_X11_inner {O : mO} {d : Nat} {a0 : Nat} {K : mH} {r0 : Int32} {K0 : mH} (h : F_X11_inner O d a0 K = some (r0, K0)) : ev O (d + 1) MX11_inner [.ref a0] K = some (some (.int r0), K0) := by
  refine Rn_evx ?_
  show Go O (d + 1) MX11_inner 0 [some (.ref a0), none, none] [] K _
  generalize hP : (fun (r : Option Value) (K' : mH) => (r, K') = (some (.int r0), K0)) = P
  have hret : ∀ (r : Int32) (K' : mH), (r, K') = (r0, K0) → P (some (.int r)) K' := by
    intro r K' e
    cases e
    subst hP
    rfl
  clear hP
  unfold F_X11_inner at h
  refine g_iconst (v := (-1)) dX11_inner_0 (by decide) ?_
  refine g_istore_n (ls' := [some (.ref a0), some (.int (-1)), none]) dX11_inner_1 (by decide) rfl ?_
  refine g_iconst (v := (nI 0)) dX11_inner_2 (by decide) ?_
  refine g_istore_n (ls' := [some (.ref a0), some (.int (-1)), some (.int (nI 0))]) dX11_inner_3 (by decide) rfl ?_
  obtain ⟨r9, er9, h⟩ := bs h
  have hx : Go O (d + 1) MX11_inner 40 [none, some (.int r9), none] [] K P := by
    refine g_iload_n dX11_inner_40 rfl ?_
    exact g_ireturn dX11_inner_41 rfl (by first | rfl | decide) (hret _ _ (Option.some.inj h))
  refine Go_le ?_ (e_X11_inner_l4 (fun q e => by cases e; exact hx) FU ((-1), (nI 0)) er9)
  exact And.intro rfl (And.intro rfl (And.intro rfl (trivial)))
noncomputable def F_X11_isCompared_l7 (O : mO) (d : Nat) (v0 : Nat) (s1 : Int32) (K : mH) : Option ((Int32 × mH) ⊕ (Int32 × mH)) :=
  if s1 < 0 then
    some (.inr (s1, K))
  else
    (gtA K v0 11 27).bind fun x3 =>
    (rdI O K x3 s1).bind fun x4 =>
    (toI (ev O d MX11_in [.long x4.toInt64, .long (20), .long (24)] K)).bind fun p5 =>
    if p5.1 = 0 then
      some (.inr (s1, p5.2))
    else
      some (.inl ((s1 + (-1)), p5.2))
theorem e_X11_isCompared_l7 {O : mO} {d : Nat} {v0 : Nat} {P : Option Value → mH → Prop} {x : Int32 × mH} (hex : ∀ q : Int32 × mH, x = q → Go O (d + 1) MX11_isCompared 36 [some (.ref v0), some (.int q.1)] [] q.2 P) : ∀ (f : Nat) (q : Int32 × mH), lupF (fun (q : Int32 × mH) => F_X11_isCompared_l7 O d v0 q.1 q.2) f q = some x → Go O (d + 1) MX11_isCompared 7 [some (.ref v0), some (.int q.1)] [] q.2 P := by
  intro f
  induction f with
  | zero =>
    intro q h
    cases h
  | succ f ih =>
    intro q h
    obtain ⟨y, h, hy1, hy2⟩ := lupF_s h
    have hin : ∀ q : Int32 × mH, y = .inl q → Go O (d + 1) MX11_isCompared 7 [some (.ref v0), some (.int q.1)] [] q.2 P := fun q e => ih q (hy1 q e)
    replace hex : ∀ q : Int32 × mH, y = .inr q → Go O (d + 1) MX11_isCompared 36 [some (.ref v0), some (.int q.1)] [] q.2 P := fun q e => hex q (hy2 q e).symm
    clear ih hy1 hy2
    obtain ⟨s1, K⟩ := q
    dsimp only at h ⊢
    unfold F_X11_isCompared_l7 at h
    refine g_iload_n dX11_isCompared_7 rfl ?_
    refine g_if_lt (t := 36) dX11_isCompared_8 (by decide) (fun c2 => ?_) (fun c2 => ?_)
    · rw [if_pos c2] at h
      refine Go_le ?_ (hex (s1, K) (Option.some.inj h).symm)
      exact And.intro rfl (And.intro rfl (trivial))
    · rw [if_neg c2] at h
      refine g_aload_n dX11_isCompared_11 rfl ?_
      obtain ⟨x3, ex3, h⟩ := bs h
      refine q_getA dX11_isCompared_12 fX11_51 ex3 ?_
      refine g_iload_n dX11_isCompared_15 rfl ?_
      obtain ⟨x4, ex4, h⟩ := bs h
      refine q_iald dX11_isCompared_16 ex4 ?_
      refine g_i2l dX11_isCompared_17 ?_
      refine g_ldc2 (v := 20) dX11_isCompared_18 lX11_294 ?_
      refine g_ldc2 (v := 24) dX11_isCompared_21 lX11_296 ?_
      obtain ⟨p5, ep5, h⟩ := bs h
      refine q_stat (Z := MX11_in) (toI_s ep5) dX11_isCompared_24 mX11_169.1 mX11_169.2 (Nat.le_of_ble_eq_true rfl) rfl rfl (Nat.le_of_ble_eq_true rfl) (Nat.le_of_ble_eq_true rfl) ?_
      show Go O (d + 1) MX11_isCompared 27 [some (.ref v0), some (.int s1)] [.int p5.1] p5.2 P
      refine g_if_eq (t := 36) dX11_isCompared_27 (by decide) (fun c6 => ?_) (fun c6 => ?_)
      · rw [if_pos c6] at h
        refine Go_le ?_ (hex (s1, p5.2) (Option.some.inj h).symm)
        exact And.intro rfl (And.intro rfl (trivial))
      · rw [if_neg c6] at h
        refine q_iinc (w := (-1)) (ls' := [some (.ref v0), some (.int (s1 + (-1)))]) dX11_isCompared_30 (by decide) rfl (by decide) rfl ?_
        refine g_goto (t := 7) dX11_isCompared_33 (by decide) ?_
        have hh := hin ((s1 + (-1)), p5.2) (Option.some.inj h).symm; (try dsimp only at hh); refine Go_le ?_ hh
        exact And.intro rfl (And.intro rfl (trivial))
noncomputable def F_X11_isCompared_j36 (O : mO) (d : Nat) (v0 : Nat) (v1 : Int32) (K : mH) : Option (Int32 × mH) :=
  if v1 < 0 then
    some ((nI 0), K)
  else
    (gtA K v0 11 27).bind fun x10 =>
    (rdI O K x10 v1).bind fun x11 =>
    (toI (ev O d MX11_in [.long x11.toInt64, .long (25), .long (27)] K)).bind fun p12 =>
    (zz (if p12.1 = 0 then (nI 0) else (nI 1))).bind fun z14 =>
    some (z14, p12.2)
theorem e_X11_isCompared_j36 {O : mO} {d : Nat} {v0 : Nat} {v1 : Int32} {K : mH} {P : Option Value → mH → Prop} {x : Int32 × mH} (hret : ∀ (r : Int32) (K' : mH), (r, K') = x → P (some (.int r)) K') (h : F_X11_isCompared_j36 O d v0 v1 K = some x) : Go O (d + 1) MX11_isCompared 36 [some (.ref v0), some (.int v1)] [] K P := by
  unfold F_X11_isCompared_j36 at h
  refine g_iload_n dX11_isCompared_36 rfl ?_
  refine g_if_lt (t := 63) dX11_isCompared_37 (by decide) (fun c9 => ?_) (fun c9 => ?_)
  · rw [if_pos c9] at h
    refine g_iconst (v := (nI 0)) dX11_isCompared_63 (by decide) ?_
    exact g_ireturn dX11_isCompared_64 rfl (by first | rfl | decide) (hret _ _ (Option.some.inj h))
  · rw [if_neg c9] at h
    refine g_aload_n dX11_isCompared_40 rfl ?_
    obtain ⟨x10, ex10, h⟩ := bs h
    refine q_getA dX11_isCompared_41 fX11_51 ex10 ?_
    refine g_iload_n dX11_isCompared_44 rfl ?_
    obtain ⟨x11, ex11, h⟩ := bs h
    refine q_iald dX11_isCompared_45 ex11 ?_
    refine g_i2l dX11_isCompared_46 ?_
    refine g_ldc2 (v := 25) dX11_isCompared_47 lX11_298 ?_
    refine g_ldc2 (v := 27) dX11_isCompared_50 lX11_300 ?_
    obtain ⟨p12, ep12, h⟩ := bs h
    refine q_stat (Z := MX11_in) (toI_s ep12) dX11_isCompared_53 mX11_169.1 mX11_169.2 (Nat.le_of_ble_eq_true rfl) rfl rfl (Nat.le_of_ble_eq_true rfl) (Nat.le_of_ble_eq_true rfl) ?_
    show Go O (d + 1) MX11_isCompared 56 [some (.ref v0), some (.int v1)] [.int p12.1] p12.2 P
    have hj : Go O (d + 1) MX11_isCompared 64 [none, none] [.int (if p12.1 = 0 then (nI 0) else (nI 1))] p12.2 P := by
      obtain ⟨z14, ez14, h⟩ := bs h
      exact q_zret dX11_isCompared_64 rfl ez14 (hret _ _ (Option.some.inj h))
    refine g_if_eq (t := 63) dX11_isCompared_56 (by decide) (fun c13 => ?_) (fun c13 => ?_)
    · skip
      refine g_iconst (v := (nI 0)) dX11_isCompared_63 (by decide) ?_
      have hk : Go O (d + 1) MX11_isCompared 64 [none, none] [.int (nI 0)] p12.2 P := by simpa only [if_pos c13] using hj
      refine Go_le ?_ hk
      exact trivial
    · skip
      refine g_iconst (v := (nI 1)) dX11_isCompared_59 (by decide) ?_
      refine g_goto (t := 64) dX11_isCompared_60 (by decide) ?_
      have hk : Go O (d + 1) MX11_isCompared 64 [none, none] [.int (nI 1)] p12.2 P := by simpa only [if_neg c13] using hj
      refine Go_le ?_ hk
      exact trivial
noncomputable def F_X11_isCompared (O : mO) (d : Nat) (a0 : Nat) (K : mH) : Option (Int32 × mH) :=
  (gtI K a0 11 29).bind fun x1 =>
  (lupF (fun (q : Int32 × mH) => F_X11_isCompared_l7 O d a0 q.1 q.2) FU ((x1 - (nI 1)), K)).bind fun r7 =>
  F_X11_isCompared_j36 O d a0 r7.1 r7.2
theorem e_X11_isCompared {O : mO} {d : Nat} {a0 : Nat} {K : mH} {r0 : Int32} {K0 : mH} (h : F_X11_isCompared O d a0 K = some (r0, K0)) : ev O (d + 1) MX11_isCompared [.ref a0] K = some (some (.int r0), K0) := by
  refine Rn_evx ?_
  show Go O (d + 1) MX11_isCompared 0 [some (.ref a0), none] [] K _
  generalize hP : (fun (r : Option Value) (K' : mH) => (r, K') = (some (.int r0), K0)) = P
  have hret : ∀ (r : Int32) (K' : mH), (r, K') = (r0, K0) → P (some (.int r)) K' := by
    intro r K' e
    cases e
    subst hP
    rfl
  clear hP
  unfold F_X11_isCompared at h
  refine g_aload_n dX11_isCompared_0 rfl ?_
  obtain ⟨x1, ex1, h⟩ := bs h
  refine q_getI dX11_isCompared_1 fX11_284 ex1 ?_
  refine g_iconst (v := (nI 1)) dX11_isCompared_4 (by decide) ?_
  refine g_isub dX11_isCompared_5 ?_
  refine g_istore_n (ls' := [some (.ref a0), some (.int (x1 - (nI 1)))]) dX11_isCompared_6 (by decide) rfl ?_
  obtain ⟨r7, er7, h⟩ := bs h
  have hx : Go O (d + 1) MX11_isCompared 36 [some (.ref a0), some (.int r7.1)] [] r7.2 P := by
    refine Go_le ?_ (e_X11_isCompared_j36 hret h)
    exact And.intro rfl (And.intro rfl (trivial))
  refine Go_le ?_ (e_X11_isCompared_l7 (fun q e => by cases e; exact hx) FU ((x1 - (nI 1)), K) er7)
  exact And.intro rfl (And.intro rfl (trivial))
noncomputable def F_X11_partAt_l4 (O : mO) (d : Nat) (v0 : Nat) (s1 : Int32) (s2 : Int32) (K : mH) : Option ((Int32 × Int32 × mH) ⊕ (Int32 × mH)) :=
  if (nI 9) ≤ s2 then
    some (.inr (s1, K))
  else
    (gtA K v0 11 31).bind fun x2 =>
    (rdJ O K x2 s2).bind fun x3 =>
    (toI (vc O d 11 MX11_isWord v0 [.long x3] K)).bind fun p4 =>
    some (.inl ((if p4.1 = 0 then s1 else (s2 + (nI 1))), (s2 + nI 1), p4.2))
theorem e_X11_partAt_l4 {O : mO} {d : Nat} {v0 : Nat} {P : Option Value → mH → Prop} {x : Int32 × mH} (hex : ∀ q : Int32 × mH, x = q → Go O (d + 1) MX11_partAt 37 [none, some (.int q.1), none] [] q.2 P) : ∀ (f : Nat) (q : Int32 × Int32 × mH), lupF (fun (q : Int32 × Int32 × mH) => F_X11_partAt_l4 O d v0 q.1 q.2.1 q.2.2) f q = some x → Go O (d + 1) MX11_partAt 4 [some (.ref v0), some (.int q.1), some (.int q.2.1)] [] q.2.2 P := by
  intro f
  induction f with
  | zero =>
    intro q h
    cases h
  | succ f ih =>
    intro q h
    obtain ⟨y, h, hy1, hy2⟩ := lupF_s h
    have hin : ∀ q : Int32 × Int32 × mH, y = .inl q → Go O (d + 1) MX11_partAt 4 [some (.ref v0), some (.int q.1), some (.int q.2.1)] [] q.2.2 P := fun q e => ih q (hy1 q e)
    replace hex : ∀ q : Int32 × mH, y = .inr q → Go O (d + 1) MX11_partAt 37 [none, some (.int q.1), none] [] q.2 P := fun q e => hex q (hy2 q e).symm
    clear ih hy1 hy2
    obtain ⟨s1, s2, K⟩ := q
    dsimp only at h ⊢
    unfold F_X11_partAt_l4 at h
    refine g_iload_n dX11_partAt_4 rfl ?_
    refine g_bipush (v := (nI 9)) dX11_partAt_5 (by decide) ?_
    refine g_ic_ge (t := 37) dX11_partAt_7 (by decide) (fun c1 => ?_) (fun c1 => ?_)
    · rw [if_pos c1] at h
      refine Go_le ?_ (hex (s1, K) (Option.some.inj h).symm)
      exact And.intro rfl (trivial)
    · rw [if_neg c1] at h
      refine g_aload_n dX11_partAt_10 rfl ?_
      refine g_aload_n dX11_partAt_11 rfl ?_
      obtain ⟨x2, ex2, h⟩ := bs h
      refine q_getA dX11_partAt_12 fX11_75 ex2 ?_
      refine g_iload_n dX11_partAt_15 rfl ?_
      obtain ⟨x3, ex3, h⟩ := bs h
      refine q_lald dX11_partAt_16 ex3 ?_
      obtain ⟨p4, ep4, h⟩ := bs h
      refine q_virt (Z := MX11_isWord) (c := (RX11, TX11, 56)) (toI_s ep4) dX11_partAt_17 mX11_302.1 mX11_302.2 (Nat.le_of_ble_eq_true rfl) rfl rfl (Nat.le_of_ble_eq_true rfl) (Nat.le_of_ble_eq_true rfl) rfl rfl ?_
      show Go O (d + 1) MX11_partAt 20 [some (.ref v0), some (.int s1), some (.int s2)] [.int p4.1] p4.2 P
      have hj : Go O (d + 1) MX11_partAt 30 [some (.ref v0), none, some (.int s2)] [.int (if p4.1 = 0 then s1 else (s2 + (nI 1)))] p4.2 P := by
        refine g_istore_n (ls' := [some (.ref v0), some (.int (if p4.1 = 0 then s1 else (s2 + (nI 1)))), some (.int s2)]) dX11_partAt_30 (by decide) rfl ?_
        refine q_iinc (w := nI 1) (ls' := [some (.ref v0), some (.int (if p4.1 = 0 then s1 else (s2 + (nI 1)))), some (.int (s2 + nI 1))]) dX11_partAt_31 (by decide) rfl (by decide) rfl ?_
        refine g_goto (t := 4) dX11_partAt_34 (by decide) ?_
        refine Go_le ?_ (hin ((if p4.1 = 0 then s1 else (s2 + (nI 1))), (s2 + nI 1), p4.2) (Option.some.inj h).symm)
        exact And.intro rfl (And.intro rfl (And.intro rfl (trivial)))
      refine g_if_eq (t := 29) dX11_partAt_20 (by decide) (fun c5 => ?_) (fun c5 => ?_)
      · skip
        refine g_iload_n dX11_partAt_29 rfl ?_
        have hk : Go O (d + 1) MX11_partAt 30 [some (.ref v0), none, some (.int s2)] [.int s1] p4.2 P := by simpa only [if_pos c5] using hj
        refine Go_le ?_ hk
        exact And.intro rfl (And.intro rfl (trivial))
      · skip
        refine g_iload_n dX11_partAt_23 rfl ?_
        refine g_iconst (v := (nI 1)) dX11_partAt_24 (by decide) ?_
        refine g_iadd dX11_partAt_25 ?_
        refine g_goto (t := 30) dX11_partAt_26 (by decide) ?_
        have hk : Go O (d + 1) MX11_partAt 30 [some (.ref v0), none, some (.int s2)] [.int (s2 + (nI 1))] p4.2 P := by simpa only [if_neg c5] using hj
        refine Go_le ?_ hk
        exact And.intro rfl (And.intro rfl (trivial))
noncomputable def F_X11_partAt (O : mO) (d : Nat) (a0 : Nat) (K : mH) : Option (Int32 × mH) :=
  (lupF (fun (q : Int32 × Int32 × mH) => F_X11_partAt_l4 O d a0 q.1 q.2.1 q.2.2) FU ((-1), (nI 0), K)).bind fun r6 =>
  some (r6.1, r6.2)
theorem e_X11_partAt {O : mO} {d : Nat} {a0 : Nat} {K : mH} {r0 : Int32} {K0 : mH} (h : F_X11_partAt O d a0 K = some (r0, K0)) : ev O (d + 1) MX11_partAt [.ref a0] K = some (some (.int r0), K0) := by
  refine Rn_evx ?_
  show Go O (d + 1) MX11_partAt 0 [some (.ref a0), none, none] [] K _
  generalize hP : (fun (r : Option Value) (K' : mH) => (r, K') = (some (.int r0), K0)) = P
  have hret : ∀ (r : Int32) (K' : mH), (r, K') = (r0, K0) → P (some (.int r)) K' := by
    intro r K' e
    cases e
    subst hP
    rfl
  clear hP
  unfold F_X11_partAt at h
  refine g_iconst (v := (-1)) dX11_partAt_0 (by decide) ?_
  refine g_istore_n (ls' := [some (.ref a0), some (.int (-1)), none]) dX11_partAt_1 (by decide) rfl ?_
  refine g_iconst (v := (nI 0)) dX11_partAt_2 (by decide) ?_
  refine g_istore_n (ls' := [some (.ref a0), some (.int (-1)), some (.int (nI 0))]) dX11_partAt_3 (by decide) rfl ?_
  obtain ⟨r6, er6, h⟩ := bs h
  have hx : Go O (d + 1) MX11_partAt 37 [none, some (.int r6.1), none] [] r6.2 P := by
    refine g_iload_n dX11_partAt_37 rfl ?_
    exact g_ireturn dX11_partAt_38 rfl (by first | rfl | decide) (hret _ _ (Option.some.inj h))
  refine Go_le ?_ (e_X11_partAt_l4 (fun q e => by cases e; exact hx) FU ((-1), (nI 0), K) er6)
  exact And.intro rfl (And.intro rfl (And.intro rfl (trivial)))
noncomputable def F_X11_orderPartAt_l4 (O : mO) (d : Nat) (v0 : Nat) (s1 : Int32) (s2 : Int32) (K : mH) : Option ((Int32 × Int32 × mH) ⊕ (Int32 × mH)) :=
  if (nI 6) ≤ s2 then
    some (.inr (s1, K))
  else
    (gtA K v0 11 32).bind fun x2 =>
    (rdJ O K x2 s2).bind fun x3 =>
    (toI (vc O d 11 MX11_isWord v0 [.long x3] K)).bind fun p4 =>
    some (.inl ((if p4.1 = 0 then s1 else (s2 + (nI 1))), (s2 + nI 1), p4.2))
theorem e_X11_orderPartAt_l4 {O : mO} {d : Nat} {v0 : Nat} {P : Option Value → mH → Prop} {x : Int32 × mH} (hex : ∀ q : Int32 × mH, x = q → Go O (d + 1) MX11_orderPartAt 37 [none, some (.int q.1), none] [] q.2 P) : ∀ (f : Nat) (q : Int32 × Int32 × mH), lupF (fun (q : Int32 × Int32 × mH) => F_X11_orderPartAt_l4 O d v0 q.1 q.2.1 q.2.2) f q = some x → Go O (d + 1) MX11_orderPartAt 4 [some (.ref v0), some (.int q.1), some (.int q.2.1)] [] q.2.2 P := by
  intro f
  induction f with
  | zero =>
    intro q h
    cases h
  | succ f ih =>
    intro q h
    obtain ⟨y, h, hy1, hy2⟩ := lupF_s h
    have hin : ∀ q : Int32 × Int32 × mH, y = .inl q → Go O (d + 1) MX11_orderPartAt 4 [some (.ref v0), some (.int q.1), some (.int q.2.1)] [] q.2.2 P := fun q e => ih q (hy1 q e)
    replace hex : ∀ q : Int32 × mH, y = .inr q → Go O (d + 1) MX11_orderPartAt 37 [none, some (.int q.1), none] [] q.2 P := fun q e => hex q (hy2 q e).symm
    clear ih hy1 hy2
    obtain ⟨s1, s2, K⟩ := q
    dsimp only at h ⊢
    unfold F_X11_orderPartAt_l4 at h
    refine g_iload_n dX11_orderPartAt_4 rfl ?_
    refine g_bipush (v := (nI 6)) dX11_orderPartAt_5 (by decide) ?_
    refine g_ic_ge (t := 37) dX11_orderPartAt_7 (by decide) (fun c1 => ?_) (fun c1 => ?_)
    · rw [if_pos c1] at h
      refine Go_le ?_ (hex (s1, K) (Option.some.inj h).symm)
      exact And.intro rfl (trivial)
    · rw [if_neg c1] at h
      refine g_aload_n dX11_orderPartAt_10 rfl ?_
      refine g_aload_n dX11_orderPartAt_11 rfl ?_
      obtain ⟨x2, ex2, h⟩ := bs h
      refine q_getA dX11_orderPartAt_12 fX11_85 ex2 ?_
      refine g_iload_n dX11_orderPartAt_15 rfl ?_
      obtain ⟨x3, ex3, h⟩ := bs h
      refine q_lald dX11_orderPartAt_16 ex3 ?_
      obtain ⟨p4, ep4, h⟩ := bs h
      refine q_virt (Z := MX11_isWord) (c := (RX11, TX11, 56)) (toI_s ep4) dX11_orderPartAt_17 mX11_302.1 mX11_302.2 (Nat.le_of_ble_eq_true rfl) rfl rfl (Nat.le_of_ble_eq_true rfl) (Nat.le_of_ble_eq_true rfl) rfl rfl ?_
      show Go O (d + 1) MX11_orderPartAt 20 [some (.ref v0), some (.int s1), some (.int s2)] [.int p4.1] p4.2 P
      have hj : Go O (d + 1) MX11_orderPartAt 30 [some (.ref v0), none, some (.int s2)] [.int (if p4.1 = 0 then s1 else (s2 + (nI 1)))] p4.2 P := by
        refine g_istore_n (ls' := [some (.ref v0), some (.int (if p4.1 = 0 then s1 else (s2 + (nI 1)))), some (.int s2)]) dX11_orderPartAt_30 (by decide) rfl ?_
        refine q_iinc (w := nI 1) (ls' := [some (.ref v0), some (.int (if p4.1 = 0 then s1 else (s2 + (nI 1)))), some (.int (s2 + nI 1))]) dX11_orderPartAt_31 (by decide) rfl (by decide) rfl ?_
        refine g_goto (t := 4) dX11_orderPartAt_34 (by decide) ?_
        refine Go_le ?_ (hin ((if p4.1 = 0 then s1 else (s2 + (nI 1))), (s2 + nI 1), p4.2) (Option.some.inj h).symm)
        exact And.intro rfl (And.intro rfl (And.intro rfl (trivial)))
      refine g_if_eq (t := 29) dX11_orderPartAt_20 (by decide) (fun c5 => ?_) (fun c5 => ?_)
      · skip
        refine g_iload_n dX11_orderPartAt_29 rfl ?_
        have hk : Go O (d + 1) MX11_orderPartAt 30 [some (.ref v0), none, some (.int s2)] [.int s1] p4.2 P := by simpa only [if_pos c5] using hj
        refine Go_le ?_ hk
        exact And.intro rfl (And.intro rfl (trivial))
      · skip
        refine g_iload_n dX11_orderPartAt_23 rfl ?_
        refine g_iconst (v := (nI 1)) dX11_orderPartAt_24 (by decide) ?_
        refine g_iadd dX11_orderPartAt_25 ?_
        refine g_goto (t := 30) dX11_orderPartAt_26 (by decide) ?_
        have hk : Go O (d + 1) MX11_orderPartAt 30 [some (.ref v0), none, some (.int s2)] [.int (s2 + (nI 1))] p4.2 P := by simpa only [if_neg c5] using hj
        refine Go_le ?_ hk
        exact And.intro rfl (And.intro rfl (trivial))
noncomputable def F_X11_orderPartAt (O : mO) (d : Nat) (a0 : Nat) (K : mH) : Option (Int32 × mH) :=
  (lupF (fun (q : Int32 × Int32 × mH) => F_X11_orderPartAt_l4 O d a0 q.1 q.2.1 q.2.2) FU ((-1), (nI 0), K)).bind fun r6 =>
  some (r6.1, r6.2)
theorem e_X11_orderPartAt {O : mO} {d : Nat} {a0 : Nat} {K : mH} {r0 : Int32} {K0 : mH} (h : F_X11_orderPartAt O d a0 K = some (r0, K0)) : ev O (d + 1) MX11_orderPartAt [.ref a0] K = some (some (.int r0), K0) := by
  refine Rn_evx ?_
  show Go O (d + 1) MX11_orderPartAt 0 [some (.ref a0), none, none] [] K _
  generalize hP : (fun (r : Option Value) (K' : mH) => (r, K') = (some (.int r0), K0)) = P
  have hret : ∀ (r : Int32) (K' : mH), (r, K') = (r0, K0) → P (some (.int r)) K' := by
    intro r K' e
    cases e
    subst hP
    rfl
  clear hP
  unfold F_X11_orderPartAt at h
  refine g_iconst (v := (-1)) dX11_orderPartAt_0 (by decide) ?_
  refine g_istore_n (ls' := [some (.ref a0), some (.int (-1)), none]) dX11_orderPartAt_1 (by decide) rfl ?_
  refine g_iconst (v := (nI 0)) dX11_orderPartAt_2 (by decide) ?_
  refine g_istore_n (ls' := [some (.ref a0), some (.int (-1)), some (.int (nI 0))]) dX11_orderPartAt_3 (by decide) rfl ?_
  obtain ⟨r6, er6, h⟩ := bs h
  have hx : Go O (d + 1) MX11_orderPartAt 37 [none, some (.int r6.1), none] [] r6.2 P := by
    refine g_iload_n dX11_orderPartAt_37 rfl ?_
    exact g_ireturn dX11_orderPartAt_38 rfl (by first | rfl | decide) (hret _ _ (Option.some.inj h))
  refine Go_le ?_ (e_X11_orderPartAt_l4 (fun q e => by cases e; exact hx) FU ((-1), (nI 0), K) er6)
  exact And.intro rfl (And.intro rfl (And.intro rfl (trivial)))
noncomputable def F_X11_openBracket (O : mO) (d : Nat) (a0 : Nat) (a1 : Int32) (K : mH) : Option (mH) :=
  (gtI K a0 11 30).bind fun x1 =>
  (toV (vc O d 11 MX11_must a0 [.int (if (nI 8) ≤ x1 then (nI 0) else (nI 1))] K)).bind fun K3 =>
  (gtI K3 a0 11 19).bind fun x4 =>
  if x4 = 0 then
    (gtI K3 a0 11 30).bind fun x7 =>
    (ptI K3 a0 11 30 (x7 + (nI 1))).bind fun K8 =>
    (toV (vc O d 11 MX11_push a0 [.int a1, .int (nI 0)] K8)).bind fun K9 =>
    some K9
  else
    some K3
theorem e_X11_openBracket {O : mO} {d : Nat} {a0 : Nat} {a1 : Int32} {K : mH} {x : mH} (h : F_X11_openBracket O d a0 a1 K = some x) : ev O (d + 1) MX11_openBracket [.ref a0, .int a1] K = some (none, x) := by
  refine Rn_evx ?_
  show Go O (d + 1) MX11_openBracket 0 [some (.ref a0), some (.int a1)] [] K _
  generalize hP : (fun (r : Option Value) (K' : mH) => (r, K') = (none, x)) = P
  have hret : ∀ K' : mH, K' = x → P none K' := by
    intro K' e
    subst hP e
    rfl
  clear hP
  unfold F_X11_openBracket at h
  refine g_aload_n dX11_openBracket_0 rfl ?_
  refine g_aload_n dX11_openBracket_1 rfl ?_
  obtain ⟨x1, ex1, h⟩ := bs h
  refine q_getI dX11_openBracket_2 fX11_306 ex1 ?_
  refine g_bipush (v := (nI 8)) dX11_openBracket_5 (by decide) ?_
  have hj : Go O (d + 1) MX11_openBracket 15 [some (.ref a0), some (.int a1)] [.int (if (nI 8) ≤ x1 then (nI 0) else (nI 1)), .ref a0] K P := by
    obtain ⟨K3, eK3, h⟩ := bs h
    refine q_virt (Z := MX11_must) (c := (RX11, TX11, 56)) (toV_s eK3) dX11_openBracket_15 mX11_277.1 mX11_277.2 (Nat.le_of_ble_eq_true rfl) rfl rfl (Nat.le_of_ble_eq_true rfl) (Nat.le_of_ble_eq_true rfl) rfl rfl ?_
    show Go O (d + 1) MX11_openBracket 18 [some (.ref a0), some (.int a1)] [] K3 P
    refine g_aload_n dX11_openBracket_18 rfl ?_
    obtain ⟨x4, ex4, h⟩ := bs h
    refine q_getI dX11_openBracket_19 fX11_244 ex4 ?_
    refine g_if_ne (t := 41) dX11_openBracket_22 (by decide) (fun c6 => ?_) (fun c6 => ?_)
    · rw [if_neg c6] at h
      exact g_return dX11_openBracket_41 rfl (hret _ (Option.some.inj h))
    · rw [if_pos c6] at h
      refine g_aload_n dX11_openBracket_25 rfl ?_
      refine g_dup dX11_openBracket_26 (by first | rfl | exact vrf_cat _) ?_
      obtain ⟨x7, ex7, h⟩ := bs h
      refine q_getI dX11_openBracket_27 fX11_306 ex7 ?_
      refine g_iconst (v := (nI 1)) dX11_openBracket_30 (by decide) ?_
      refine g_iadd dX11_openBracket_31 ?_
      obtain ⟨K8, eK8, h⟩ := bs h
      refine q_put (c := (RX11, TX11, 56)) dX11_openBracket_32 fX11_306 rfl rfl rfl (fun h => absurd h (by decide)) eK8 ?_
      refine g_aload_n dX11_openBracket_35 rfl ?_
      refine g_iload_n dX11_openBracket_36 rfl ?_
      refine g_iconst (v := (nI 0)) dX11_openBracket_37 (by decide) ?_
      obtain ⟨K9, eK9, h⟩ := bs h
      refine q_virt (Z := MX11_push) (c := (RX11, TX11, 56)) (toV_s eK9) dX11_openBracket_38 mX11_309.1 mX11_309.2 (Nat.le_of_ble_eq_true rfl) rfl rfl (Nat.le_of_ble_eq_true rfl) (Nat.le_of_ble_eq_true rfl) rfl rfl ?_
      show Go O (d + 1) MX11_openBracket 41 [some (.ref a0), some (.int a1)] [] K9 P
      exact g_return dX11_openBracket_41 rfl (hret _ (Option.some.inj h))
  refine g_ic_ge (t := 14) dX11_openBracket_7 (by decide) (fun c2 => ?_) (fun c2 => ?_)
  · skip
    refine g_iconst (v := (nI 0)) dX11_openBracket_14 (by decide) ?_
    have hk : Go O (d + 1) MX11_openBracket 15 [some (.ref a0), some (.int a1)] [.int (nI 0), .ref a0] K P := by simpa only [if_pos c2] using hj
    refine Go_le ?_ hk
    exact And.intro rfl (And.intro rfl (trivial))
  · skip
    refine g_iconst (v := (nI 1)) dX11_openBracket_10 (by decide) ?_
    refine g_goto (t := 15) dX11_openBracket_11 (by decide) ?_
    have hk : Go O (d + 1) MX11_openBracket 15 [some (.ref a0), some (.int a1)] [.int (nI 1), .ref a0] K P := by simpa only [if_neg c2] using hj
    refine Go_le ?_ hk
    exact And.intro rfl (And.intro rfl (trivial))
noncomputable def F_X11_leaf_j19 (O : mO) (d : Nat) (v0 : Nat) (v2 : Int32) (v3 : Int32) (w0 : Int32) (w1 : Nat) (K : mH) : Option (mH) :=
  (toV (vc O d 11 MX11_must w1 [.int w0] K)).bind fun K3 =>
  (gtI K3 v0 11 19).bind fun x4 =>
  if x4 = 0 then
    (toV (vc O d 11 MX11_emit v0 [.int v2, .int v3] K3)).bind fun K7 =>
    (gtI K7 v0 11 26).bind fun x8 =>
    (ptI K7 v0 11 26 (x8 + (nI 1))).bind fun K9 =>
    some K9
  else
    some K3
theorem e_X11_leaf_j19 {O : mO} {d : Nat} {v0 : Nat} {v2 : Int32} {v3 : Int32} {w0 : Int32} {w1 : Nat} {K : mH} {P : Option Value → mH → Prop} {x : mH} (hret : ∀ K' : mH, K' = x → P none K') (h : F_X11_leaf_j19 O d v0 v2 v3 w0 w1 K = some x) : Go O (d + 1) MX11_leaf 19 [some (.ref v0), none, some (.int v2), some (.int v3)] [.int w0, .ref w1] K P := by
  unfold F_X11_leaf_j19 at h
  obtain ⟨K3, eK3, h⟩ := bs h
  refine q_virt (Z := MX11_must) (c := (RX11, TX11, 56)) (toV_s eK3) dX11_leaf_19 mX11_277.1 mX11_277.2 (Nat.le_of_ble_eq_true rfl) rfl rfl (Nat.le_of_ble_eq_true rfl) (Nat.le_of_ble_eq_true rfl) rfl rfl ?_
  show Go O (d + 1) MX11_leaf 22 [some (.ref v0), none, some (.int v2), some (.int v3)] [] K3 P
  refine g_aload_n dX11_leaf_22 rfl ?_
  obtain ⟨x4, ex4, h⟩ := bs h
  refine q_getI dX11_leaf_23 fX11_244 ex4 ?_
  refine g_if_ne (t := 45) dX11_leaf_26 (by decide) (fun c6 => ?_) (fun c6 => ?_)
  · rw [if_neg c6] at h
    exact g_return dX11_leaf_45 rfl (hret _ (Option.some.inj h))
  · rw [if_pos c6] at h
    refine g_aload_n dX11_leaf_29 rfl ?_
    refine g_iload_n dX11_leaf_30 rfl ?_
    refine g_iload_n dX11_leaf_31 rfl ?_
    obtain ⟨K7, eK7, h⟩ := bs h
    refine q_virt (Z := MX11_emit) (c := (RX11, TX11, 56)) (toV_s eK7) dX11_leaf_32 mX11_290.1 mX11_290.2 (Nat.le_of_ble_eq_true rfl) rfl rfl (Nat.le_of_ble_eq_true rfl) (Nat.le_of_ble_eq_true rfl) rfl rfl ?_
    show Go O (d + 1) MX11_leaf 35 [some (.ref v0), none, some (.int v2), some (.int v3)] [] K7 P
    refine g_aload_n dX11_leaf_35 rfl ?_
    refine g_dup dX11_leaf_36 (by first | rfl | exact vrf_cat _) ?_
    obtain ⟨x8, ex8, h⟩ := bs h
    refine q_getI dX11_leaf_37 fX11_312 ex8 ?_
    refine g_iconst (v := (nI 1)) dX11_leaf_40 (by decide) ?_
    refine g_iadd dX11_leaf_41 ?_
    obtain ⟨K9, eK9, h⟩ := bs h
    refine q_put (c := (RX11, TX11, 56)) dX11_leaf_42 fX11_312 rfl rfl rfl (fun h => absurd h (by decide)) eK9 ?_
    exact g_return dX11_leaf_45 rfl (hret _ (Option.some.inj h))
noncomputable def F_X11_leaf_j18 (O : mO) (d : Nat) (v0 : Nat) (v2 : Int32) (v3 : Int32) (w0 : Nat) (K : mH) : Option (mH) :=
  F_X11_leaf_j19 O d v0 v2 v3 (nI 0) w0 K
theorem e_X11_leaf_j18 {O : mO} {d : Nat} {v0 : Nat} {v2 : Int32} {v3 : Int32} {w0 : Nat} {K : mH} {P : Option Value → mH → Prop} {x : mH} (hret : ∀ K' : mH, K' = x → P none K') (h : F_X11_leaf_j18 O d v0 v2 v3 w0 K = some x) : Go O (d + 1) MX11_leaf 18 [some (.ref v0), none, some (.int v2), some (.int v3)] [.ref w0] K P := by
  unfold F_X11_leaf_j18 at h
  refine g_iconst (v := (nI 0)) dX11_leaf_18 (by decide) ?_
  refine Go_le ?_ (e_X11_leaf_j19 hret h)
  exact And.intro rfl (And.intro rfl (And.intro rfl (trivial)))
noncomputable def F_X11_leaf (O : mO) (d : Nat) (a0 : Nat) (a1 : Int32) (a2 : Int32) (a3 : Int32) (K : mH) : Option (mH) :=
  if a1 = 0 then
    F_X11_leaf_j18 O d a0 a2 a3 a0 K
  else
    (gtI K a0 11 26).bind fun x10 =>
    (toV (vc O d 11 MX11_must a0 [.int (if (nI 50) ≤ x10 then (nI 0) else (nI 1))] K)).bind fun K12 =>
    (gtI K12 a0 11 19).bind fun x13 =>
    if x13 = 0 then
      (toV (vc O d 11 MX11_emit a0 [.int a2, .int a3] K12)).bind fun K16 =>
      (gtI K16 a0 11 26).bind fun x17 =>
      (ptI K16 a0 11 26 (x17 + (nI 1))).bind fun K18 =>
      some K18
    else
      some K12
theorem e_X11_leaf {O : mO} {d : Nat} {a0 : Nat} {a1 : Int32} {a2 : Int32} {a3 : Int32} {K : mH} {x : mH} (h : F_X11_leaf O d a0 a1 a2 a3 K = some x) : ev O (d + 1) MX11_leaf [.ref a0, .int a1, .int a2, .int a3] K = some (none, x) := by
  refine Rn_evx ?_
  show Go O (d + 1) MX11_leaf 0 [some (.ref a0), some (.int a1), some (.int a2), some (.int a3)] [] K _
  generalize hP : (fun (r : Option Value) (K' : mH) => (r, K') = (none, x)) = P
  have hret : ∀ K' : mH, K' = x → P none K' := by
    intro K' e
    subst hP e
    rfl
  clear hP
  unfold F_X11_leaf at h
  refine g_aload_n dX11_leaf_0 rfl ?_
  refine g_iload_n dX11_leaf_1 rfl ?_
  refine g_if_eq (t := 18) dX11_leaf_2 (by decide) (fun c2 => ?_) (fun c2 => ?_)
  · rw [if_pos c2] at h
    refine Go_le ?_ (e_X11_leaf_j18 hret h)
    exact And.intro rfl (And.intro rfl (And.intro rfl (trivial)))
  · rw [if_neg c2] at h
    refine g_aload_n dX11_leaf_5 rfl ?_
    obtain ⟨x10, ex10, h⟩ := bs h
    refine q_getI dX11_leaf_6 fX11_312 ex10 ?_
    refine g_bipush (v := (nI 50)) dX11_leaf_9 (by decide) ?_
    have hj : Go O (d + 1) MX11_leaf 19 [some (.ref a0), none, some (.int a2), some (.int a3)] [.int (if (nI 50) ≤ x10 then (nI 0) else (nI 1)), .ref a0] K P := by
      obtain ⟨K12, eK12, h⟩ := bs h
      refine q_virt (Z := MX11_must) (c := (RX11, TX11, 56)) (toV_s eK12) dX11_leaf_19 mX11_277.1 mX11_277.2 (Nat.le_of_ble_eq_true rfl) rfl rfl (Nat.le_of_ble_eq_true rfl) (Nat.le_of_ble_eq_true rfl) rfl rfl ?_
      show Go O (d + 1) MX11_leaf 22 [some (.ref a0), none, some (.int a2), some (.int a3)] [] K12 P
      refine g_aload_n dX11_leaf_22 rfl ?_
      obtain ⟨x13, ex13, h⟩ := bs h
      refine q_getI dX11_leaf_23 fX11_244 ex13 ?_
      refine g_if_ne (t := 45) dX11_leaf_26 (by decide) (fun c15 => ?_) (fun c15 => ?_)
      · rw [if_neg c15] at h
        exact g_return dX11_leaf_45 rfl (hret _ (Option.some.inj h))
      · rw [if_pos c15] at h
        refine g_aload_n dX11_leaf_29 rfl ?_
        refine g_iload_n dX11_leaf_30 rfl ?_
        refine g_iload_n dX11_leaf_31 rfl ?_
        obtain ⟨K16, eK16, h⟩ := bs h
        refine q_virt (Z := MX11_emit) (c := (RX11, TX11, 56)) (toV_s eK16) dX11_leaf_32 mX11_290.1 mX11_290.2 (Nat.le_of_ble_eq_true rfl) rfl rfl (Nat.le_of_ble_eq_true rfl) (Nat.le_of_ble_eq_true rfl) rfl rfl ?_
        show Go O (d + 1) MX11_leaf 35 [some (.ref a0), none, some (.int a2), some (.int a3)] [] K16 P
        refine g_aload_n dX11_leaf_35 rfl ?_
        refine g_dup dX11_leaf_36 (by first | rfl | exact vrf_cat _) ?_
        obtain ⟨x17, ex17, h⟩ := bs h
        refine q_getI dX11_leaf_37 fX11_312 ex17 ?_
        refine g_iconst (v := (nI 1)) dX11_leaf_40 (by decide) ?_
        refine g_iadd dX11_leaf_41 ?_
        obtain ⟨K18, eK18, h⟩ := bs h
        refine q_put (c := (RX11, TX11, 56)) dX11_leaf_42 fX11_312 rfl rfl rfl (fun h => absurd h (by decide)) eK18 ?_
        exact g_return dX11_leaf_45 rfl (hret _ (Option.some.inj h))
    refine g_ic_ge (t := 18) dX11_leaf_11 (by decide) (fun c11 => ?_) (fun c11 => ?_)
    · skip
      refine g_iconst (v := (nI 0)) dX11_leaf_18 (by decide) ?_
      have hk : Go O (d + 1) MX11_leaf 19 [some (.ref a0), none, some (.int a2), some (.int a3)] [.int (nI 0), .ref a0] K P := by simpa only [if_pos c11] using hj
      refine Go_le ?_ hk
      exact And.intro rfl (And.intro rfl (And.intro rfl (trivial)))
    · skip
      refine g_iconst (v := (nI 1)) dX11_leaf_14 (by decide) ?_
      refine g_goto (t := 19) dX11_leaf_15 (by decide) ?_
      have hk : Go O (d + 1) MX11_leaf 19 [some (.ref a0), none, some (.int a2), some (.int a3)] [.int (nI 1), .ref a0] K P := by simpa only [if_neg c11] using hj
      refine Go_le ?_ hk
      exact And.intro rfl (And.intro rfl (And.intro rfl (trivial)))
noncomputable def F_X11_readPart_j99 (O : mO) (d : Nat) (v0 : Nat) (v1 : Int32) (w0 : Int32) (w1 : Int32) (w2 : Int32) (w3 : Nat) (K : mH) : Option (Int32 × mH) :=
  (toV (vc O d 11 MX11_leaf w3 [.int w2, .int w1, .int w0] K)).bind fun K15 =>
  (gtI K15 v0 11 20).bind fun x16 =>
  if x16 = 0 then
    some ((nI 3), K15)
  else
    if v1 < (nI 5) then
      some ((nI 3), K15)
    else
      (gtI K15 v0 11 19).bind fun x22 =>
      if x22 = 0 then
        (gtI K15 v0 11 23).bind fun x25 =>
        (gtA K15 v0 11 25).bind fun x26 =>
        (toI (vc O d 11 MX11_number v0 [.long 0, .long (if v1 = (nI 5) then (7) else (3))] K15)).bind fun p28 =>
        (wrI p28.2 x26 (x25 - (nI 1)) p28.1).bind fun K29 =>
        some ((nI 3), K29)
      else
        some ((nI 3), K15)
theorem e_X11_readPart_j99 {O : mO} {d : Nat} {v0 : Nat} {v1 : Int32} {w0 : Int32} {w1 : Int32} {w2 : Int32} {w3 : Nat} {K : mH} {P : Option Value → mH → Prop} {x : Int32 × mH} (hret : ∀ (r : Int32) (K' : mH), (r, K') = x → P (some (.int r)) K') (h : F_X11_readPart_j99 O d v0 v1 w0 w1 w2 w3 K = some x) : Go O (d + 1) MX11_readPart 99 [some (.ref v0), some (.int v1), none, none] [.int w0, .int w1, .int w2, .ref w3] K P := by
  unfold F_X11_readPart_j99 at h
  obtain ⟨K15, eK15, h⟩ := bs h
  refine q_virt (Z := MX11_leaf) (c := (RX11, TX11, 56)) (toV_s eK15) dX11_readPart_99 mX11_333.1 mX11_333.2 (Nat.le_of_ble_eq_true rfl) rfl rfl (Nat.le_of_ble_eq_true rfl) (Nat.le_of_ble_eq_true rfl) rfl rfl ?_
  show Go O (d + 1) MX11_readPart 102 [some (.ref v0), some (.int v1), none, none] [] K15 P
  refine g_aload_n dX11_readPart_102 rfl ?_
  obtain ⟨x16, ex16, h⟩ := bs h
  refine q_getI dX11_readPart_103 fX11_321 ex16 ?_
  refine g_if_eq (t := 153) dX11_readPart_106 (by decide) (fun c19 => ?_) (fun c19 => ?_)
  · rw [if_pos c19] at h
    refine g_iconst (v := (nI 3)) dX11_readPart_153 (by decide) ?_
    exact g_ireturn dX11_readPart_154 rfl (by first | rfl | decide) (hret _ _ (Option.some.inj h))
  · rw [if_neg c19] at h
    refine g_iload_n dX11_readPart_109 rfl ?_
    refine g_iconst (v := (nI 5)) dX11_readPart_110 (by decide) ?_
    refine g_ic_lt (t := 153) dX11_readPart_111 (by decide) (fun c21 => ?_) (fun c21 => ?_)
    · rw [if_pos c21] at h
      refine g_iconst (v := (nI 3)) dX11_readPart_153 (by decide) ?_
      exact g_ireturn dX11_readPart_154 rfl (by first | rfl | decide) (hret _ _ (Option.some.inj h))
    · rw [if_neg c21] at h
      refine g_aload_n dX11_readPart_114 rfl ?_
      obtain ⟨x22, ex22, h⟩ := bs h
      refine q_getI dX11_readPart_115 fX11_244 ex22 ?_
      refine g_if_ne (t := 153) dX11_readPart_118 (by decide) (fun c24 => ?_) (fun c24 => ?_)
      · rw [if_neg c24] at h
        refine g_iconst (v := (nI 3)) dX11_readPart_153 (by decide) ?_
        exact g_ireturn dX11_readPart_154 rfl (by first | rfl | decide) (hret _ _ (Option.some.inj h))
      · rw [if_pos c24] at h
        refine g_aload_n dX11_readPart_121 rfl ?_
        obtain ⟨x25, ex25, h⟩ := bs h
        refine q_getI dX11_readPart_122 fX11_281 ex25 ?_
        refine g_iconst (v := (nI 1)) dX11_readPart_125 (by decide) ?_
        refine g_isub dX11_readPart_126 ?_
        refine g_istore_n (ls' := [some (.ref v0), some (.int v1), none, some (.int (x25 - (nI 1)))]) dX11_readPart_127 (by decide) rfl ?_
        refine g_aload_n dX11_readPart_128 rfl ?_
        obtain ⟨x26, ex26, h⟩ := bs h
        refine q_getA dX11_readPart_129 fX11_48 ex26 ?_
        refine g_iload_n dX11_readPart_132 rfl ?_
        refine g_aload_n dX11_readPart_133 rfl ?_
        refine g_lconst (v := 0) dX11_readPart_134 (by decide) ?_
        refine g_iload_n dX11_readPart_135 rfl ?_
        refine g_iconst (v := (nI 5)) dX11_readPart_136 (by decide) ?_
        have hj : Go O (d + 1) MX11_readPart 149 [none, none, none, none] [.long (if v1 = (nI 5) then (7) else (3)), .long 0, .ref v0, .int (x25 - (nI 1)), .ref x26] K15 P := by
          obtain ⟨p28, ep28, h⟩ := bs h
          refine q_virt (Z := MX11_number) (c := (RX11, TX11, 56)) (toI_s ep28) dX11_readPart_149 mX11_339.1 mX11_339.2 (Nat.le_of_ble_eq_true rfl) rfl rfl (Nat.le_of_ble_eq_true rfl) (Nat.le_of_ble_eq_true rfl) rfl rfl ?_
          show Go O (d + 1) MX11_readPart 152 [none, none, none, none] [.int p28.1, .int (x25 - (nI 1)), .ref x26] p28.2 P
          obtain ⟨K29, eK29, h⟩ := bs h
          refine q_iast dX11_readPart_152 eK29 ?_
          refine g_iconst (v := (nI 3)) dX11_readPart_153 (by decide) ?_
          exact g_ireturn dX11_readPart_154 rfl (by first | rfl | decide) (hret _ _ (Option.some.inj h))
        refine g_ic_ne (t := 146) dX11_readPart_137 (by decide) (fun c27 => ?_) (fun c27 => ?_)
        · skip
          refine g_ldc2 (v := 3) dX11_readPart_146 lX11_186 ?_
          have hk : Go O (d + 1) MX11_readPart 149 [none, none, none, none] [.long (3), .long 0, .ref v0, .int (x25 - (nI 1)), .ref x26] K15 P := by simpa only [if_neg c27] using hj
          refine Go_le ?_ hk
          exact trivial
        · skip
          refine g_ldc2 (v := 7) dX11_readPart_140 lX11_337 ?_
          refine g_goto (t := 149) dX11_readPart_143 (by decide) ?_
          have hk : Go O (d + 1) MX11_readPart 149 [none, none, none, none] [.long (7), .long 0, .ref v0, .int (x25 - (nI 1)), .ref x26] K15 P := by simpa only [if_pos c27] using hj
          refine Go_le ?_ hk
          exact trivial
noncomputable def F_X11_readPart_j60 (O : mO) (d : Nat) (v0 : Nat) (v1 : Int32) (w0 : Int32) (K : mH) : Option (Int32 × mH) :=
  if w0 = 0 then
    F_X11_readPart_j99 O d v0 v1 (nI 0) (if v1 = (-1) then (nI 0) else v1) (if v1 = (-1) then (if w0 = 0 then (nI 0) else (nI 1)) else (nI 1)) v0 K
  else
    (gtJ K v0 11 17).bind fun x30 =>
    F_X11_readPart_j99 O d v0 v1 x30.toInt32 (if v1 = (-1) then (nI 0) else v1) (if v1 = (-1) then (if w0 = 0 then (nI 0) else (nI 1)) else (nI 1)) v0 K
theorem e_X11_readPart_j60 {O : mO} {d : Nat} {v0 : Nat} {v1 : Int32} {w0 : Int32} {K : mH} {P : Option Value → mH → Prop} {x : Int32 × mH} (hret : ∀ (r : Int32) (K' : mH), (r, K') = x → P (some (.int r)) K') (h : F_X11_readPart_j60 O d v0 v1 w0 K = some x) : Go O (d + 1) MX11_readPart 60 [some (.ref v0), some (.int v1), none, none] [.int w0] K P := by
  unfold F_X11_readPart_j60 at h
  refine g_istore_n (ls' := [some (.ref v0), some (.int v1), some (.int w0), none]) dX11_readPart_60 (by decide) rfl ?_
  refine g_aload_n dX11_readPart_61 rfl ?_
  refine g_iload_n dX11_readPart_62 rfl ?_
  refine g_iconst (v := (-1)) dX11_readPart_63 (by decide) ?_
  have hj : Go O (d + 1) MX11_readPart 76 [some (.ref v0), some (.int v1), some (.int w0), none] [.int (if v1 = (-1) then (if w0 = 0 then (nI 0) else (nI 1)) else (nI 1)), .ref v0] K P := by
    refine g_iload_n dX11_readPart_76 rfl ?_
    refine g_iconst (v := (-1)) dX11_readPart_77 (by decide) ?_
    have hj : Go O (d + 1) MX11_readPart 86 [some (.ref v0), some (.int v1), some (.int w0), none] [.int (if v1 = (-1) then (nI 0) else v1), .int (if v1 = (-1) then (if w0 = 0 then (nI 0) else (nI 1)) else (nI 1)), .ref v0] K P := by
      refine g_iload_n dX11_readPart_86 rfl ?_
      refine g_if_eq (t := 98) dX11_readPart_87 (by decide) (fun c14 => ?_) (fun c14 => ?_)
      · rw [if_pos c14] at h
        refine g_iconst (v := (nI 0)) dX11_readPart_98 (by decide) ?_
        refine Go_le ?_ (e_X11_readPart_j99 hret h)
        exact And.intro rfl (And.intro rfl (trivial))
      · rw [if_neg c14] at h
        refine g_aload_n dX11_readPart_90 rfl ?_
        obtain ⟨x30, ex30, h⟩ := bs h
        refine q_getJ dX11_readPart_91 fX11_254 ex30 ?_
        refine g_l2i dX11_readPart_94 ?_
        refine g_goto (t := 99) dX11_readPart_95 (by decide) ?_
        refine Go_le ?_ (e_X11_readPart_j99 hret h)
        exact And.intro rfl (And.intro rfl (trivial))
    refine g_ic_ne (t := 85) dX11_readPart_78 (by decide) (fun c12 => ?_) (fun c12 => ?_)
    · skip
      refine g_iload_n dX11_readPart_85 rfl ?_
      have hk : Go O (d + 1) MX11_readPart 86 [some (.ref v0), some (.int v1), some (.int w0), none] [.int v1, .int (if v1 = (-1) then (if w0 = 0 then (nI 0) else (nI 1)) else (nI 1)), .ref v0] K P := by simpa only [if_neg c12] using hj
      refine Go_le ?_ hk
      exact And.intro rfl (And.intro rfl (And.intro rfl (trivial)))
    · skip
      refine g_iconst (v := (nI 0)) dX11_readPart_81 (by decide) ?_
      refine g_goto (t := 86) dX11_readPart_82 (by decide) ?_
      have hk : Go O (d + 1) MX11_readPart 86 [some (.ref v0), some (.int v1), some (.int w0), none] [.int (nI 0), .int (if v1 = (-1) then (if w0 = 0 then (nI 0) else (nI 1)) else (nI 1)), .ref v0] K P := by simpa only [if_pos c12] using hj
      refine Go_le ?_ hk
      exact And.intro rfl (And.intro rfl (And.intro rfl (trivial)))
  refine g_ic_ne (t := 71) dX11_readPart_64 (by decide) (fun c10 => ?_) (fun c10 => ?_)
  · skip
    refine g_iconst (v := (nI 1)) dX11_readPart_71 (by decide) ?_
    refine g_goto (t := 76) dX11_readPart_72 (by decide) ?_
    have hk : Go O (d + 1) MX11_readPart 76 [some (.ref v0), some (.int v1), some (.int w0), none] [.int (nI 1), .ref v0] K P := by simpa only [if_neg c10] using hj
    refine Go_le ?_ hk
    exact And.intro rfl (And.intro rfl (And.intro rfl (trivial)))
  · skip
    refine g_iload_n dX11_readPart_67 rfl ?_
    refine g_if_eq (t := 75) dX11_readPart_68 (by decide) (fun c11 => ?_) (fun c11 => ?_)
    · skip
      refine g_iconst (v := (nI 0)) dX11_readPart_75 (by decide) ?_
      have hk : Go O (d + 1) MX11_readPart 76 [some (.ref v0), some (.int v1), some (.int w0), none] [.int (nI 0), .ref v0] K P := by simpa only [if_pos c10, if_pos c11] using hj
      refine Go_le ?_ hk
      exact And.intro rfl (And.intro rfl (And.intro rfl (trivial)))
    · skip
      refine g_iconst (v := (nI 1)) dX11_readPart_71 (by decide) ?_
      refine g_goto (t := 76) dX11_readPart_72 (by decide) ?_
      have hk : Go O (d + 1) MX11_readPart 76 [some (.ref v0), some (.int v1), some (.int w0), none] [.int (nI 1), .ref v0] K P := by simpa only [if_pos c10, if_neg c11] using hj
      refine Go_le ?_ hk
      exact And.intro rfl (And.intro rfl (And.intro rfl (trivial)))
noncomputable def F_X11_readPart_j59 (O : mO) (d : Nat) (v0 : Nat) (v1 : Int32) (K : mH) : Option (Int32 × mH) :=
  F_X11_readPart_j60 O d v0 v1 (nI 0) K
theorem e_X11_readPart_j59 {O : mO} {d : Nat} {v0 : Nat} {v1 : Int32} {K : mH} {P : Option Value → mH → Prop} {x : Int32 × mH} (hret : ∀ (r : Int32) (K' : mH), (r, K') = x → P (some (.int r)) K') (h : F_X11_readPart_j59 O d v0 v1 K = some x) : Go O (d + 1) MX11_readPart 59 [some (.ref v0), some (.int v1), none, none] [] K P := by
  unfold F_X11_readPart_j59 at h
  refine g_iconst (v := (nI 0)) dX11_readPart_59 (by decide) ?_
  refine Go_le ?_ (e_X11_readPart_j60 hret h)
  exact And.intro rfl (And.intro rfl (trivial))
noncomputable def F_X11_readPart_j35 (O : mO) (d : Nat) (v0 : Nat) (w0 : Int32) (K : mH) : Option (Int32 × mH) :=
  (gtI K v0 11 16).bind fun x7 =>
  if x7 = (nI 2) then
    (gtJ K v0 11 17).bind fun x31 =>
    if (if 0 < (lg_cmp x31 (1000)) then (nI 0) else (nI 1)) = 0 then
      F_X11_readPart_j99 O d v0 w0 (nI 0) (if w0 = (-1) then (nI 0) else w0) (if w0 = (-1) then (if (if 0 < (lg_cmp x31 (1000)) then (nI 0) else (nI 1)) = 0 then (nI 0) else (nI 1)) else (nI 1)) v0 K
    else
      (gtJ K v0 11 17).bind fun x38 =>
      F_X11_readPart_j99 O d v0 w0 x38.toInt32 (if w0 = (-1) then (nI 0) else w0) (if w0 = (-1) then (if (if 0 < (lg_cmp x31 (1000)) then (nI 0) else (nI 1)) = 0 then (nI 0) else (nI 1)) else (nI 1)) v0 K
  else
    F_X11_readPart_j59 O d v0 w0 K
theorem e_X11_readPart_j35 {O : mO} {d : Nat} {v0 : Nat} {w0 : Int32} {K : mH} {P : Option Value → mH → Prop} {x : Int32 × mH} (hret : ∀ (r : Int32) (K' : mH), (r, K') = x → P (some (.int r)) K') (h : F_X11_readPart_j35 O d v0 w0 K = some x) : Go O (d + 1) MX11_readPart 35 [some (.ref v0), none, none, none] [.int w0] K P := by
  unfold F_X11_readPart_j35 at h
  refine g_istore_n (ls' := [some (.ref v0), some (.int w0), none, none]) dX11_readPart_35 (by decide) rfl ?_
  refine g_aload_n dX11_readPart_36 rfl ?_
  obtain ⟨x7, ex7, h⟩ := bs h
  refine q_getI dX11_readPart_37 fX11_264 ex7 ?_
  refine g_iconst (v := (nI 2)) dX11_readPart_40 (by decide) ?_
  refine g_ic_ne (t := 59) dX11_readPart_41 (by decide) (fun c9 => ?_) (fun c9 => ?_)
  · rw [if_neg c9] at h
    refine Go_le ?_ (e_X11_readPart_j59 hret h)
    exact And.intro rfl (And.intro rfl (trivial))
  · rw [if_pos c9] at h
    refine g_aload_n dX11_readPart_44 rfl ?_
    obtain ⟨x31, ex31, h⟩ := bs h
    refine q_getJ dX11_readPart_45 fX11_254 ex31 ?_
    refine g_ldc2 (v := 1000) dX11_readPart_48 lX11_331 ?_
    refine g_lcmp dX11_readPart_51 ?_
    have hj : Go O (d + 1) MX11_readPart 60 [some (.ref v0), some (.int w0), none, none] [.int (if 0 < (lg_cmp x31 (1000)) then (nI 0) else (nI 1))] K P := by
      refine g_istore_n (ls' := [some (.ref v0), some (.int w0), some (.int (if 0 < (lg_cmp x31 (1000)) then (nI 0) else (nI 1))), none]) dX11_readPart_60 (by decide) rfl ?_
      refine g_aload_n dX11_readPart_61 rfl ?_
      refine g_iload_n dX11_readPart_62 rfl ?_
      refine g_iconst (v := (-1)) dX11_readPart_63 (by decide) ?_
      have hj : Go O (d + 1) MX11_readPart 76 [some (.ref v0), some (.int w0), some (.int (if 0 < (lg_cmp x31 (1000)) then (nI 0) else (nI 1))), none] [.int (if w0 = (-1) then (if (if 0 < (lg_cmp x31 (1000)) then (nI 0) else (nI 1)) = 0 then (nI 0) else (nI 1)) else (nI 1)), .ref v0] K P := by
        refine g_iload_n dX11_readPart_76 rfl ?_
        refine g_iconst (v := (-1)) dX11_readPart_77 (by decide) ?_
        have hj : Go O (d + 1) MX11_readPart 86 [some (.ref v0), some (.int w0), some (.int (if 0 < (lg_cmp x31 (1000)) then (nI 0) else (nI 1))), none] [.int (if w0 = (-1) then (nI 0) else w0), .int (if w0 = (-1) then (if (if 0 < (lg_cmp x31 (1000)) then (nI 0) else (nI 1)) = 0 then (nI 0) else (nI 1)) else (nI 1)), .ref v0] K P := by
          refine g_iload_n dX11_readPart_86 rfl ?_
          refine g_if_eq (t := 98) dX11_readPart_87 (by decide) (fun c37 => ?_) (fun c37 => ?_)
          · rw [if_pos c37] at h
            refine g_iconst (v := (nI 0)) dX11_readPart_98 (by decide) ?_
            refine Go_le ?_ (e_X11_readPart_j99 hret h)
            exact And.intro rfl (And.intro rfl (trivial))
          · rw [if_neg c37] at h
            refine g_aload_n dX11_readPart_90 rfl ?_
            obtain ⟨x38, ex38, h⟩ := bs h
            refine q_getJ dX11_readPart_91 fX11_254 ex38 ?_
            refine g_l2i dX11_readPart_94 ?_
            refine g_goto (t := 99) dX11_readPart_95 (by decide) ?_
            refine Go_le ?_ (e_X11_readPart_j99 hret h)
            exact And.intro rfl (And.intro rfl (trivial))
        refine g_ic_ne (t := 85) dX11_readPart_78 (by decide) (fun c35 => ?_) (fun c35 => ?_)
        · skip
          refine g_iload_n dX11_readPart_85 rfl ?_
          have hk : Go O (d + 1) MX11_readPart 86 [some (.ref v0), some (.int w0), some (.int (if 0 < (lg_cmp x31 (1000)) then (nI 0) else (nI 1))), none] [.int w0, .int (if w0 = (-1) then (if (if 0 < (lg_cmp x31 (1000)) then (nI 0) else (nI 1)) = 0 then (nI 0) else (nI 1)) else (nI 1)), .ref v0] K P := by simpa only [if_neg c35] using hj
          refine Go_le ?_ hk
          exact And.intro rfl (And.intro rfl (And.intro rfl (trivial)))
        · skip
          refine g_iconst (v := (nI 0)) dX11_readPart_81 (by decide) ?_
          refine g_goto (t := 86) dX11_readPart_82 (by decide) ?_
          have hk : Go O (d + 1) MX11_readPart 86 [some (.ref v0), some (.int w0), some (.int (if 0 < (lg_cmp x31 (1000)) then (nI 0) else (nI 1))), none] [.int (nI 0), .int (if w0 = (-1) then (if (if 0 < (lg_cmp x31 (1000)) then (nI 0) else (nI 1)) = 0 then (nI 0) else (nI 1)) else (nI 1)), .ref v0] K P := by simpa only [if_pos c35] using hj
          refine Go_le ?_ hk
          exact And.intro rfl (And.intro rfl (And.intro rfl (trivial)))
      refine g_ic_ne (t := 71) dX11_readPart_64 (by decide) (fun c33 => ?_) (fun c33 => ?_)
      · skip
        refine g_iconst (v := (nI 1)) dX11_readPart_71 (by decide) ?_
        refine g_goto (t := 76) dX11_readPart_72 (by decide) ?_
        have hk : Go O (d + 1) MX11_readPart 76 [some (.ref v0), some (.int w0), some (.int (if 0 < (lg_cmp x31 (1000)) then (nI 0) else (nI 1))), none] [.int (nI 1), .ref v0] K P := by simpa only [if_neg c33] using hj
        refine Go_le ?_ hk
        exact And.intro rfl (And.intro rfl (And.intro rfl (trivial)))
      · skip
        refine g_iload_n dX11_readPart_67 rfl ?_
        refine g_if_eq (t := 75) dX11_readPart_68 (by decide) (fun c34 => ?_) (fun c34 => ?_)
        · skip
          refine g_iconst (v := (nI 0)) dX11_readPart_75 (by decide) ?_
          have hk : Go O (d + 1) MX11_readPart 76 [some (.ref v0), some (.int w0), some (.int (if 0 < (lg_cmp x31 (1000)) then (nI 0) else (nI 1))), none] [.int (nI 0), .ref v0] K P := by simpa only [if_pos c33, if_pos c34] using hj
          refine Go_le ?_ hk
          exact And.intro rfl (And.intro rfl (And.intro rfl (trivial)))
        · skip
          refine g_iconst (v := (nI 1)) dX11_readPart_71 (by decide) ?_
          refine g_goto (t := 76) dX11_readPart_72 (by decide) ?_
          have hk : Go O (d + 1) MX11_readPart 76 [some (.ref v0), some (.int w0), some (.int (if 0 < (lg_cmp x31 (1000)) then (nI 0) else (nI 1))), none] [.int (nI 1), .ref v0] K P := by simpa only [if_pos c33, if_neg c34] using hj
          refine Go_le ?_ hk
          exact And.intro rfl (And.intro rfl (And.intro rfl (trivial)))
    refine g_if_gt (t := 59) dX11_readPart_52 (by decide) (fun c32 => ?_) (fun c32 => ?_)
    · skip
      refine g_iconst (v := (nI 0)) dX11_readPart_59 (by decide) ?_
      have hk : Go O (d + 1) MX11_readPart 60 [some (.ref v0), some (.int w0), none, none] [.int (nI 0)] K P := by simpa only [if_pos c32] using hj
      refine Go_le ?_ hk
      exact And.intro rfl (And.intro rfl (trivial))
    · skip
      refine g_iconst (v := (nI 1)) dX11_readPart_55 (by decide) ?_
      refine g_goto (t := 60) dX11_readPart_56 (by decide) ?_
      have hk : Go O (d + 1) MX11_readPart 60 [some (.ref v0), some (.int w0), none, none] [.int (nI 1)] K P := by simpa only [if_neg c32] using hj
      refine Go_le ?_ hk
      exact And.intro rfl (And.intro rfl (trivial))
noncomputable def F_X11_readPart (O : mO) (d : Nat) (a0 : Nat) (K : mH) : Option (Int32 × mH) :=
  (toI (vc O d 11 MX11_isSign a0 [.int (nI 91)] K)).bind fun p1 =>
  if p1.1 = 0 then
    (gtI p1.2 a0 11 20).bind fun x3 =>
    if x3 = 0 then
      (toI (vc O d 11 MX11_partAt a0 [] p1.2)).bind fun p6 =>
      F_X11_readPart_j35 O d a0 p6.1 p6.2
    else
      (toI (vc O d 11 MX11_orderPartAt a0 [] p1.2)).bind fun p39 =>
      F_X11_readPart_j35 O d a0 p39.1 p39.2
  else
    (toV (vc O d 11 MX11_openBracket a0 [.int (nI 32)] p1.2)).bind fun K40 =>
    some ((nI 1), K40)
theorem e_X11_readPart {O : mO} {d : Nat} {a0 : Nat} {K : mH} {r0 : Int32} {K0 : mH} (h : F_X11_readPart O d a0 K = some (r0, K0)) : ev O (d + 1) MX11_readPart [.ref a0] K = some (some (.int r0), K0) := by
  refine Rn_evx ?_
  show Go O (d + 1) MX11_readPart 0 [some (.ref a0), none, none, none] [] K _
  generalize hP : (fun (r : Option Value) (K' : mH) => (r, K') = (some (.int r0), K0)) = P
  have hret : ∀ (r : Int32) (K' : mH), (r, K') = (r0, K0) → P (some (.int r)) K' := by
    intro r K' e
    cases e
    subst hP
    rfl
  clear hP
  unfold F_X11_readPart at h
  refine g_aload_n dX11_readPart_0 rfl ?_
  refine g_bipush (v := (nI 91)) dX11_readPart_1 (by decide) ?_
  obtain ⟨p1, ep1, h⟩ := bs h
  refine q_virt (Z := MX11_isSign) (c := (RX11, TX11, 56)) (toI_s ep1) dX11_readPart_3 mX11_315.1 mX11_315.2 (Nat.le_of_ble_eq_true rfl) rfl rfl (Nat.le_of_ble_eq_true rfl) (Nat.le_of_ble_eq_true rfl) rfl rfl ?_
  show Go O (d + 1) MX11_readPart 6 [some (.ref a0), none, none, none] [.int p1.1] p1.2 P
  refine g_if_eq (t := 17) dX11_readPart_6 (by decide) (fun c2 => ?_) (fun c2 => ?_)
  · rw [if_pos c2] at h
    refine g_aload_n dX11_readPart_17 rfl ?_
    obtain ⟨x3, ex3, h⟩ := bs h
    refine q_getI dX11_readPart_18 fX11_321 ex3 ?_
    refine g_if_eq (t := 31) dX11_readPart_21 (by decide) (fun c5 => ?_) (fun c5 => ?_)
    · rw [if_pos c5] at h
      refine g_aload_n dX11_readPart_31 rfl ?_
      obtain ⟨p6, ep6, h⟩ := bs h
      refine q_virt (Z := MX11_partAt) (c := (RX11, TX11, 56)) (toI_s ep6) dX11_readPart_32 mX11_328.1 mX11_328.2 (Nat.le_of_ble_eq_true rfl) rfl rfl (Nat.le_of_ble_eq_true rfl) (Nat.le_of_ble_eq_true rfl) rfl rfl ?_
      show Go O (d + 1) MX11_readPart 35 [some (.ref a0), none, none, none] [.int p6.1] p6.2 P
      refine Go_le ?_ (e_X11_readPart_j35 hret h)
      exact And.intro rfl (trivial)
    · rw [if_neg c5] at h
      refine g_aload_n dX11_readPart_24 rfl ?_
      obtain ⟨p39, ep39, h⟩ := bs h
      refine q_virt (Z := MX11_orderPartAt) (c := (RX11, TX11, 56)) (toI_s ep39) dX11_readPart_25 mX11_324.1 mX11_324.2 (Nat.le_of_ble_eq_true rfl) rfl rfl (Nat.le_of_ble_eq_true rfl) (Nat.le_of_ble_eq_true rfl) rfl rfl ?_
      show Go O (d + 1) MX11_readPart 28 [some (.ref a0), none, none, none] [.int p39.1] p39.2 P
      refine g_goto (t := 35) dX11_readPart_28 (by decide) ?_
      refine Go_le ?_ (e_X11_readPart_j35 hret h)
      exact And.intro rfl (trivial)
  · rw [if_neg c2] at h
    refine g_aload_n dX11_readPart_9 rfl ?_
    refine g_bipush (v := (nI 32)) dX11_readPart_10 (by decide) ?_
    obtain ⟨K40, eK40, h⟩ := bs h
    refine q_virt (Z := MX11_openBracket) (c := (RX11, TX11, 56)) (toV_s eK40) dX11_readPart_12 mX11_318.1 mX11_318.2 (Nat.le_of_ble_eq_true rfl) rfl rfl (Nat.le_of_ble_eq_true rfl) (Nat.le_of_ble_eq_true rfl) rfl rfl ?_
    show Go O (d + 1) MX11_readPart 15 [some (.ref a0), none, none, none] [] K40 P
    refine g_iconst (v := (nI 1)) dX11_readPart_15 (by decide) ?_
    exact g_ireturn dX11_readPart_16 rfl (by first | rfl | decide) (hret _ _ (Option.some.inj h))
noncomputable def F_X11_readPlain (O : mO) (d : Nat) (a0 : Nat) (K : mH) : Option (Int32 × mH) :=
  (toI (vc O d 11 MX11_isWord a0 [.long (14836)] K)).bind fun p1 =>
  if p1.1 = 0 then
    (toI (vc O d 11 MX11_isSign a0 [.int (nI 40)] p1.2)).bind fun p3 =>
    if p3.1 = 0 then
      (toI (vc O d 11 MX11_readPart a0 [] p3.2)).bind fun p5 =>
      some (p5.1, p5.2)
    else
      (toV (vc O d 11 MX11_openBracket a0 [.int (nI 31)] p3.2)).bind fun K6 =>
      some ((nI 0), K6)
  else
    (toV (vc O d 11 MX11_push a0 [.int (nI 28), .int (nI 0)] p1.2)).bind fun K7 =>
    (toV (vc O d 11 MX11_next a0 [] K7)).bind fun K8 =>
    some ((nI 0), K8)
theorem e_X11_readPlain {O : mO} {d : Nat} {a0 : Nat} {K : mH} {r0 : Int32} {K0 : mH} (h : F_X11_readPlain O d a0 K = some (r0, K0)) : ev O (d + 1) MX11_readPlain [.ref a0] K = some (some (.int r0), K0) := by
  refine Rn_evx ?_
  show Go O (d + 1) MX11_readPlain 0 [some (.ref a0)] [] K _
  generalize hP : (fun (r : Option Value) (K' : mH) => (r, K') = (some (.int r0), K0)) = P
  have hret : ∀ (r : Int32) (K' : mH), (r, K') = (r0, K0) → P (some (.int r)) K' := by
    intro r K' e
    cases e
    subst hP
    rfl
  clear hP
  unfold F_X11_readPlain at h
  refine g_aload_n dX11_readPlain_0 rfl ?_
  refine g_ldc2 (v := 14836) dX11_readPlain_1 lX11_343 ?_
  obtain ⟨p1, ep1, h⟩ := bs h
  refine q_virt (Z := MX11_isWord) (c := (RX11, TX11, 56)) (toI_s ep1) dX11_readPlain_4 mX11_302.1 mX11_302.2 (Nat.le_of_ble_eq_true rfl) rfl rfl (Nat.le_of_ble_eq_true rfl) (Nat.le_of_ble_eq_true rfl) rfl rfl ?_
  show Go O (d + 1) MX11_readPlain 7 [some (.ref a0)] [.int p1.1] p1.2 P
  refine g_if_eq (t := 23) dX11_readPlain_7 (by decide) (fun c2 => ?_) (fun c2 => ?_)
  · rw [if_pos c2] at h
    refine g_aload_n dX11_readPlain_23 rfl ?_
    refine g_bipush (v := (nI 40)) dX11_readPlain_24 (by decide) ?_
    obtain ⟨p3, ep3, h⟩ := bs h
    refine q_virt (Z := MX11_isSign) (c := (RX11, TX11, 56)) (toI_s ep3) dX11_readPlain_26 mX11_315.1 mX11_315.2 (Nat.le_of_ble_eq_true rfl) rfl rfl (Nat.le_of_ble_eq_true rfl) (Nat.le_of_ble_eq_true rfl) rfl rfl ?_
    show Go O (d + 1) MX11_readPlain 29 [some (.ref a0)] [.int p3.1] p3.2 P
    refine g_if_eq (t := 40) dX11_readPlain_29 (by decide) (fun c4 => ?_) (fun c4 => ?_)
    · rw [if_pos c4] at h
      refine g_aload_n dX11_readPlain_40 rfl ?_
      obtain ⟨p5, ep5, h⟩ := bs h
      refine q_virt (Z := MX11_readPart) (c := (RX11, TX11, 56)) (toI_s ep5) dX11_readPlain_41 mX11_345.1 mX11_345.2 (Nat.le_of_ble_eq_true rfl) rfl rfl (Nat.le_of_ble_eq_true rfl) (Nat.le_of_ble_eq_true rfl) rfl rfl ?_
      show Go O (d + 1) MX11_readPlain 44 [some (.ref a0)] [.int p5.1] p5.2 P
      exact g_ireturn dX11_readPlain_44 rfl (by first | rfl | decide) (hret _ _ (Option.some.inj h))
    · rw [if_neg c4] at h
      refine g_aload_n dX11_readPlain_32 rfl ?_
      refine g_bipush (v := (nI 31)) dX11_readPlain_33 (by decide) ?_
      obtain ⟨K6, eK6, h⟩ := bs h
      refine q_virt (Z := MX11_openBracket) (c := (RX11, TX11, 56)) (toV_s eK6) dX11_readPlain_35 mX11_318.1 mX11_318.2 (Nat.le_of_ble_eq_true rfl) rfl rfl (Nat.le_of_ble_eq_true rfl) (Nat.le_of_ble_eq_true rfl) rfl rfl ?_
      show Go O (d + 1) MX11_readPlain 38 [some (.ref a0)] [] K6 P
      refine g_iconst (v := (nI 0)) dX11_readPlain_38 (by decide) ?_
      exact g_ireturn dX11_readPlain_39 rfl (by first | rfl | decide) (hret _ _ (Option.some.inj h))
  · rw [if_neg c2] at h
    refine g_aload_n dX11_readPlain_10 rfl ?_
    refine g_bipush (v := (nI 28)) dX11_readPlain_11 (by decide) ?_
    refine g_iconst (v := (nI 0)) dX11_readPlain_13 (by decide) ?_
    obtain ⟨K7, eK7, h⟩ := bs h
    refine q_virt (Z := MX11_push) (c := (RX11, TX11, 56)) (toV_s eK7) dX11_readPlain_14 mX11_309.1 mX11_309.2 (Nat.le_of_ble_eq_true rfl) rfl rfl (Nat.le_of_ble_eq_true rfl) (Nat.le_of_ble_eq_true rfl) rfl rfl ?_
    show Go O (d + 1) MX11_readPlain 17 [some (.ref a0)] [] K7 P
    refine g_aload_n dX11_readPlain_17 rfl ?_
    obtain ⟨K8, eK8, h⟩ := bs h
    refine q_virt (Z := MX11_next) (c := (RX11, TX11, 56)) (toV_s eK8) dX11_readPlain_18 mX11_248.1 mX11_248.2 (Nat.le_of_ble_eq_true rfl) rfl rfl (Nat.le_of_ble_eq_true rfl) (Nat.le_of_ble_eq_true rfl) rfl rfl ?_
    show Go O (d + 1) MX11_readPlain 21 [some (.ref a0)] [] K8 P
    refine g_iconst (v := (nI 0)) dX11_readPlain_21 (by decide) ?_
    exact g_ireturn dX11_readPlain_22 rfl (by first | rfl | decide) (hret _ _ (Option.some.inj h))
noncomputable def F_X11_behindSum_j224 (O : mO) (d : Nat) (v0 : Nat) (v2 : Int32) (w0 : Int32) (w1 : Nat) (K : mH) : Option (Int32 × mH) :=
  (toV (vc O d 11 MX11_must w1 [.int w0] K)).bind fun K28 =>
  (gtI K28 v0 11 19).bind fun x29 =>
  if x29 = 0 then
    (toV (vc O d 11 MX11_settle v0 [.int (nI 5)] K28)).bind fun K32 =>
    (toV (vc O d 11 MX11_push v0 [.int v2, .int (nI 0)] K32)).bind fun K33 =>
    some ((nI 1), K33)
  else
    some ((nI 1), K28)
theorem e_X11_behindSum_j224 {O : mO} {d : Nat} {v0 : Nat} {v2 : Int32} {w0 : Int32} {w1 : Nat} {K : mH} {P : Option Value → mH → Prop} {x : Int32 × mH} (hret : ∀ (r : Int32) (K' : mH), (r, K') = x → P (some (.int r)) K') (h : F_X11_behindSum_j224 O d v0 v2 w0 w1 K = some x) : Go O (d + 1) MX11_behindSum 224 [some (.ref v0), none, some (.int v2), none] [.int w0, .ref w1] K P := by
  unfold F_X11_behindSum_j224 at h
  obtain ⟨K28, eK28, h⟩ := bs h
  refine q_virt (Z := MX11_must) (c := (RX11, TX11, 56)) (toV_s eK28) dX11_behindSum_224 mX11_277.1 mX11_277.2 (Nat.le_of_ble_eq_true rfl) rfl rfl (Nat.le_of_ble_eq_true rfl) (Nat.le_of_ble_eq_true rfl) rfl rfl ?_
  show Go O (d + 1) MX11_behindSum 227 [some (.ref v0), none, some (.int v2), none] [] K28 P
  refine g_aload_n dX11_behindSum_227 rfl ?_
  obtain ⟨x29, ex29, h⟩ := bs h
  refine q_getI dX11_behindSum_228 fX11_244 ex29 ?_
  refine g_if_ne (t := 245) dX11_behindSum_231 (by decide) (fun c31 => ?_) (fun c31 => ?_)
  · rw [if_neg c31] at h
    refine g_iconst (v := (nI 1)) dX11_behindSum_245 (by decide) ?_
    exact g_ireturn dX11_behindSum_246 rfl (by first | rfl | decide) (hret _ _ (Option.some.inj h))
  · rw [if_pos c31] at h
    refine g_aload_n dX11_behindSum_234 rfl ?_
    refine g_iconst (v := (nI 5)) dX11_behindSum_235 (by decide) ?_
    obtain ⟨K32, eK32, h⟩ := bs h
    refine q_virt (Z := MX11_settle) (c := (RX11, TX11, 56)) (toV_s eK32) dX11_behindSum_236 mX11_348.1 mX11_348.2 (Nat.le_of_ble_eq_true rfl) rfl rfl (Nat.le_of_ble_eq_true rfl) (Nat.le_of_ble_eq_true rfl) rfl rfl ?_
    show Go O (d + 1) MX11_behindSum 239 [some (.ref v0), none, some (.int v2), none] [] K32 P
    refine g_aload_n dX11_behindSum_239 rfl ?_
    refine g_iload_n dX11_behindSum_240 rfl ?_
    refine g_iconst (v := (nI 0)) dX11_behindSum_241 (by decide) ?_
    obtain ⟨K33, eK33, h⟩ := bs h
    refine q_virt (Z := MX11_push) (c := (RX11, TX11, 56)) (toV_s eK33) dX11_behindSum_242 mX11_309.1 mX11_309.2 (Nat.le_of_ble_eq_true rfl) rfl rfl (Nat.le_of_ble_eq_true rfl) (Nat.le_of_ble_eq_true rfl) rfl rfl ?_
    show Go O (d + 1) MX11_behindSum 245 [some (.ref v0), none, some (.int v2), none] [] K33 P
    refine g_iconst (v := (nI 1)) dX11_behindSum_245 (by decide) ?_
    exact g_ireturn dX11_behindSum_246 rfl (by first | rfl | decide) (hret _ _ (Option.some.inj h))
noncomputable def F_X11_behindSum_j219 (O : mO) (d : Nat) (v0 : Nat) (v2 : Int32) (w0 : Nat) (K : mH) : Option (Int32 × mH) :=
  F_X11_behindSum_j224 O d v0 v2 (nI 1) w0 K
theorem e_X11_behindSum_j219 {O : mO} {d : Nat} {v0 : Nat} {v2 : Int32} {w0 : Nat} {K : mH} {P : Option Value → mH → Prop} {x : Int32 × mH} (hret : ∀ (r : Int32) (K' : mH), (r, K') = x → P (some (.int r)) K') (h : F_X11_behindSum_j219 O d v0 v2 w0 K = some x) : Go O (d + 1) MX11_behindSum 219 [some (.ref v0), none, some (.int v2), none] [.ref w0] K P := by
  unfold F_X11_behindSum_j219 at h
  refine g_iconst (v := (nI 1)) dX11_behindSum_219 (by decide) ?_
  refine g_goto (t := 224) dX11_behindSum_220 (by decide) ?_
  refine Go_le ?_ (e_X11_behindSum_j224 hret h)
  exact And.intro rfl (And.intro rfl (trivial))
noncomputable def F_X11_behindSum_j202 (O : mO) (d : Nat) (v0 : Nat) (w0 : Int32) (K : mH) : Option (Int32 × mH) :=
  if w0 = (nI 27) then
    (toI (vc O d 11 MX11_isSign v0 [.int (nI 61)] K)).bind fun p34 =>
    (toV (vc O d 11 MX11_must v0 [.int (if p34.1 = 0 then (nI 0) else (nI 1))] p34.2)).bind fun K36 =>
    (gtI K36 v0 11 19).bind fun x37 =>
    if x37 = 0 then
      (toV (vc O d 11 MX11_settle v0 [.int (nI 5)] K36)).bind fun K40 =>
      (toV (vc O d 11 MX11_push v0 [.int w0, .int (nI 0)] K40)).bind fun K41 =>
      some ((nI 1), K41)
    else
      some ((nI 1), K36)
  else
    F_X11_behindSum_j219 O d v0 w0 v0 K
theorem e_X11_behindSum_j202 {O : mO} {d : Nat} {v0 : Nat} {w0 : Int32} {K : mH} {P : Option Value → mH → Prop} {x : Int32 × mH} (hret : ∀ (r : Int32) (K' : mH), (r, K') = x → P (some (.int r)) K') (h : F_X11_behindSum_j202 O d v0 w0 K = some x) : Go O (d + 1) MX11_behindSum 202 [some (.ref v0), none, none, none] [.int w0] K P := by
  unfold F_X11_behindSum_j202 at h
  refine g_istore_n (ls' := [some (.ref v0), none, some (.int w0), none]) dX11_behindSum_202 (by decide) rfl ?_
  refine g_aload_n dX11_behindSum_203 rfl ?_
  refine g_iload_n dX11_behindSum_204 rfl ?_
  refine g_bipush (v := (nI 27)) dX11_behindSum_205 (by decide) ?_
  refine g_ic_ne (t := 219) dX11_behindSum_207 (by decide) (fun c27 => ?_) (fun c27 => ?_)
  · rw [if_neg c27] at h
    refine Go_le ?_ (e_X11_behindSum_j219 hret h)
    exact And.intro rfl (And.intro rfl (trivial))
  · rw [if_pos c27] at h
    refine g_aload_n dX11_behindSum_210 rfl ?_
    refine g_bipush (v := (nI 61)) dX11_behindSum_211 (by decide) ?_
    obtain ⟨p34, ep34, h⟩ := bs h
    refine q_virt (Z := MX11_isSign) (c := (RX11, TX11, 56)) (toI_s ep34) dX11_behindSum_213 mX11_315.1 mX11_315.2 (Nat.le_of_ble_eq_true rfl) rfl rfl (Nat.le_of_ble_eq_true rfl) (Nat.le_of_ble_eq_true rfl) rfl rfl ?_
    show Go O (d + 1) MX11_behindSum 216 [some (.ref v0), none, some (.int w0), none] [.int p34.1, .ref v0] p34.2 P
    have hj : Go O (d + 1) MX11_behindSum 224 [some (.ref v0), none, some (.int w0), none] [.int (if p34.1 = 0 then (nI 0) else (nI 1)), .ref v0] p34.2 P := by
      obtain ⟨K36, eK36, h⟩ := bs h
      refine q_virt (Z := MX11_must) (c := (RX11, TX11, 56)) (toV_s eK36) dX11_behindSum_224 mX11_277.1 mX11_277.2 (Nat.le_of_ble_eq_true rfl) rfl rfl (Nat.le_of_ble_eq_true rfl) (Nat.le_of_ble_eq_true rfl) rfl rfl ?_
      show Go O (d + 1) MX11_behindSum 227 [some (.ref v0), none, some (.int w0), none] [] K36 P
      refine g_aload_n dX11_behindSum_227 rfl ?_
      obtain ⟨x37, ex37, h⟩ := bs h
      refine q_getI dX11_behindSum_228 fX11_244 ex37 ?_
      refine g_if_ne (t := 245) dX11_behindSum_231 (by decide) (fun c39 => ?_) (fun c39 => ?_)
      · rw [if_neg c39] at h
        refine g_iconst (v := (nI 1)) dX11_behindSum_245 (by decide) ?_
        exact g_ireturn dX11_behindSum_246 rfl (by first | rfl | decide) (hret _ _ (Option.some.inj h))
      · rw [if_pos c39] at h
        refine g_aload_n dX11_behindSum_234 rfl ?_
        refine g_iconst (v := (nI 5)) dX11_behindSum_235 (by decide) ?_
        obtain ⟨K40, eK40, h⟩ := bs h
        refine q_virt (Z := MX11_settle) (c := (RX11, TX11, 56)) (toV_s eK40) dX11_behindSum_236 mX11_348.1 mX11_348.2 (Nat.le_of_ble_eq_true rfl) rfl rfl (Nat.le_of_ble_eq_true rfl) (Nat.le_of_ble_eq_true rfl) rfl rfl ?_
        show Go O (d + 1) MX11_behindSum 239 [some (.ref v0), none, some (.int w0), none] [] K40 P
        refine g_aload_n dX11_behindSum_239 rfl ?_
        refine g_iload_n dX11_behindSum_240 rfl ?_
        refine g_iconst (v := (nI 0)) dX11_behindSum_241 (by decide) ?_
        obtain ⟨K41, eK41, h⟩ := bs h
        refine q_virt (Z := MX11_push) (c := (RX11, TX11, 56)) (toV_s eK41) dX11_behindSum_242 mX11_309.1 mX11_309.2 (Nat.le_of_ble_eq_true rfl) rfl rfl (Nat.le_of_ble_eq_true rfl) (Nat.le_of_ble_eq_true rfl) rfl rfl ?_
        show Go O (d + 1) MX11_behindSum 245 [some (.ref v0), none, some (.int w0), none] [] K41 P
        refine g_iconst (v := (nI 1)) dX11_behindSum_245 (by decide) ?_
        exact g_ireturn dX11_behindSum_246 rfl (by first | rfl | decide) (hret _ _ (Option.some.inj h))
    refine g_if_eq (t := 223) dX11_behindSum_216 (by decide) (fun c35 => ?_) (fun c35 => ?_)
    · skip
      refine g_iconst (v := (nI 0)) dX11_behindSum_223 (by decide) ?_
      have hk : Go O (d + 1) MX11_behindSum 224 [some (.ref v0), none, some (.int w0), none] [.int (nI 0), .ref v0] p34.2 P := by simpa only [if_pos c35] using hj
      refine Go_le ?_ hk
      exact And.intro rfl (And.intro rfl (trivial))
    · skip
      refine g_iconst (v := (nI 1)) dX11_behindSum_219 (by decide) ?_
      refine g_goto (t := 224) dX11_behindSum_220 (by decide) ?_
      have hk : Go O (d + 1) MX11_behindSum 224 [some (.ref v0), none, some (.int w0), none] [.int (nI 1), .ref v0] p34.2 P := by simpa only [if_neg c35] using hj
      refine Go_le ?_ hk
      exact And.intro rfl (And.intro rfl (trivial))
noncomputable def F_X11_behindSum_j163 (O : mO) (d : Nat) (v0 : Nat) (K : mH) : Option (Int32 × mH) :=
  (toI (vc O d 11 MX11_isCompared v0 [] K)).bind fun p19 =>
  if p19.1 = 0 then
    (toI (vc O d 11 MX11_isSign v0 [.int (nI 60)] p19.2)).bind fun p21 =>
    if p21.1 = 0 then
      (toI (vc O d 11 MX11_isSign v0 [.int (nI 62)] p21.2)).bind fun p24 =>
      F_X11_behindSum_j202 O d v0 (if p24.1 = 0 then (nI 27) else (nI 26)) p24.2
    else
      F_X11_behindSum_j202 O d v0 (nI 25) p21.2
  else
    some ((nI 2), p19.2)
theorem e_X11_behindSum_j163 {O : mO} {d : Nat} {v0 : Nat} {K : mH} {P : Option Value → mH → Prop} {x : Int32 × mH} (hret : ∀ (r : Int32) (K' : mH), (r, K') = x → P (some (.int r)) K') (h : F_X11_behindSum_j163 O d v0 K = some x) : Go O (d + 1) MX11_behindSum 163 [some (.ref v0), none, none, none] [] K P := by
  unfold F_X11_behindSum_j163 at h
  refine g_aload_n dX11_behindSum_163 rfl ?_
  obtain ⟨p19, ep19, h⟩ := bs h
  refine q_virt (Z := MX11_isCompared) (c := (RX11, TX11, 56)) (toI_s ep19) dX11_behindSum_164 mX11_354.1 mX11_354.2 (Nat.le_of_ble_eq_true rfl) rfl rfl (Nat.le_of_ble_eq_true rfl) (Nat.le_of_ble_eq_true rfl) rfl rfl ?_
  show Go O (d + 1) MX11_behindSum 167 [some (.ref v0), none, none, none] [.int p19.1] p19.2 P
  refine g_if_eq (t := 172) dX11_behindSum_167 (by decide) (fun c20 => ?_) (fun c20 => ?_)
  · rw [if_pos c20] at h
    refine g_aload_n dX11_behindSum_172 rfl ?_
    refine g_bipush (v := (nI 60)) dX11_behindSum_173 (by decide) ?_
    obtain ⟨p21, ep21, h⟩ := bs h
    refine q_virt (Z := MX11_isSign) (c := (RX11, TX11, 56)) (toI_s ep21) dX11_behindSum_175 mX11_315.1 mX11_315.2 (Nat.le_of_ble_eq_true rfl) rfl rfl (Nat.le_of_ble_eq_true rfl) (Nat.le_of_ble_eq_true rfl) rfl rfl ?_
    show Go O (d + 1) MX11_behindSum 178 [some (.ref v0), none, none, none] [.int p21.1] p21.2 P
    refine g_if_eq (t := 186) dX11_behindSum_178 (by decide) (fun c23 => ?_) (fun c23 => ?_)
    · rw [if_pos c23] at h
      refine g_aload_n dX11_behindSum_186 rfl ?_
      refine g_bipush (v := (nI 62)) dX11_behindSum_187 (by decide) ?_
      obtain ⟨p24, ep24, h⟩ := bs h
      refine q_virt (Z := MX11_isSign) (c := (RX11, TX11, 56)) (toI_s ep24) dX11_behindSum_189 mX11_315.1 mX11_315.2 (Nat.le_of_ble_eq_true rfl) rfl rfl (Nat.le_of_ble_eq_true rfl) (Nat.le_of_ble_eq_true rfl) rfl rfl ?_
      show Go O (d + 1) MX11_behindSum 192 [some (.ref v0), none, none, none] [.int p24.1] p24.2 P
      have hj : Go O (d + 1) MX11_behindSum 202 [some (.ref v0), none, none, none] [.int (if p24.1 = 0 then (nI 27) else (nI 26))] p24.2 P := by
        refine Go_le ?_ (e_X11_behindSum_j202 hret h)
        exact And.intro rfl (trivial)
      refine g_if_eq (t := 200) dX11_behindSum_192 (by decide) (fun c25 => ?_) (fun c25 => ?_)
      · skip
        refine g_bipush (v := (nI 27)) dX11_behindSum_200 (by decide) ?_
        have hk : Go O (d + 1) MX11_behindSum 202 [some (.ref v0), none, none, none] [.int (nI 27)] p24.2 P := by simpa only [if_pos c25] using hj
        refine Go_le ?_ hk
        exact And.intro rfl (trivial)
      · skip
        refine g_bipush (v := (nI 26)) dX11_behindSum_195 (by decide) ?_
        refine g_goto (t := 202) dX11_behindSum_197 (by decide) ?_
        have hk : Go O (d + 1) MX11_behindSum 202 [some (.ref v0), none, none, none] [.int (nI 26)] p24.2 P := by simpa only [if_neg c25] using hj
        refine Go_le ?_ hk
        exact And.intro rfl (trivial)
    · rw [if_neg c23] at h
      refine g_bipush (v := (nI 25)) dX11_behindSum_181 (by decide) ?_
      refine g_goto (t := 202) dX11_behindSum_183 (by decide) ?_
      refine Go_le ?_ (e_X11_behindSum_j202 hret h)
      exact And.intro rfl (trivial)
  · rw [if_neg c20] at h
    refine g_iconst (v := (nI 2)) dX11_behindSum_170 (by decide) ?_
    exact g_ireturn dX11_behindSum_171 rfl (by first | rfl | decide) (hret _ _ (Option.some.inj h))
noncomputable def F_X11_behindSum_j71 (O : mO) (d : Nat) (v0 : Nat) (v1 : Int32) (w0 : Int32) (K : mH) : Option (Int32 × mH) :=
  if w0 = (-1) then
    (toI (vc O d 11 MX11_inner v0 [] K)).bind fun p16 =>
    if p16.1 = (nI 32) then
      (toI (vc O d 11 MX11_isSign v0 [.int (nI 93)] p16.2)).bind fun p43 =>
      (toV (vc O d 11 MX11_must v0 [.int p43.1] p43.2)).bind fun K44 =>
      (gtI K44 v0 11 19).bind fun x45 =>
      if x45 = 0 then
        (toV (vc O d 11 MX11_settle v0 [.int (nI 5)] K44)).bind fun K48 =>
        (gtI K48 v0 11 29).bind fun x49 =>
        (ptI K48 v0 11 29 (x49 - (nI 1))).bind fun K50 =>
        (gtI K50 v0 11 30).bind fun x51 =>
        (ptI K50 v0 11 30 (x51 - (nI 1))).bind fun K52 =>
        some ((nI 3), K52)
      else
        some ((nI 3), K44)
    else
      if p16.1 = (-1) then
        if v1 = 0 then
          some ((nI 4), p16.2)
        else
          F_X11_behindSum_j163 O d v0 p16.2
      else
        F_X11_behindSum_j163 O d v0 p16.2
  else
    (toI (ev O d MX11_binds [.int w0] K)).bind fun p53 =>
    (toV (vc O d 11 MX11_settle v0 [.int p53.1] p53.2)).bind fun K54 =>
    (toV (vc O d 11 MX11_push v0 [.int w0, .int (nI 0)] K54)).bind fun K55 =>
    (toV (vc O d 11 MX11_next v0 [] K55)).bind fun K56 =>
    some ((nI 1), K56)
theorem e_X11_behindSum_j71 {O : mO} {d : Nat} {v0 : Nat} {v1 : Int32} {w0 : Int32} {K : mH} {P : Option Value → mH → Prop} {x : Int32 × mH} (hret : ∀ (r : Int32) (K' : mH), (r, K') = x → P (some (.int r)) K') (h : F_X11_behindSum_j71 O d v0 v1 w0 K = some x) : Go O (d + 1) MX11_behindSum 71 [some (.ref v0), some (.int v1), none, none] [.int w0] K P := by
  unfold F_X11_behindSum_j71 at h
  refine g_istore_n (ls' := [some (.ref v0), some (.int v1), some (.int w0), none]) dX11_behindSum_71 (by decide) rfl ?_
  refine g_iload_n dX11_behindSum_72 rfl ?_
  refine g_iconst (v := (-1)) dX11_behindSum_73 (by decide) ?_
  refine g_ic_eq (t := 97) dX11_behindSum_74 (by decide) (fun c15 => ?_) (fun c15 => ?_)
  · rw [if_pos c15] at h
    refine g_aload_n dX11_behindSum_97 rfl ?_
    obtain ⟨p16, ep16, h⟩ := bs h
    refine q_virt (Z := MX11_inner) (c := (RX11, TX11, 56)) (toI_s ep16) dX11_behindSum_98 mX11_351.1 mX11_351.2 (Nat.le_of_ble_eq_true rfl) rfl rfl (Nat.le_of_ble_eq_true rfl) (Nat.le_of_ble_eq_true rfl) rfl rfl ?_
    show Go O (d + 1) MX11_behindSum 101 [some (.ref v0), some (.int v1), some (.int w0), none] [.int p16.1] p16.2 P
    refine g_istore_n (ls' := [some (.ref v0), some (.int v1), some (.int w0), some (.int p16.1)]) dX11_behindSum_101 (by decide) rfl ?_
    refine g_iload_n dX11_behindSum_102 rfl ?_
    refine g_bipush (v := (nI 32)) dX11_behindSum_103 (by decide) ?_
    refine g_ic_ne (t := 152) dX11_behindSum_105 (by decide) (fun c17 => ?_) (fun c17 => ?_)
    · rw [if_neg c17] at h
      refine g_iload_n dX11_behindSum_152 rfl ?_
      refine g_iconst (v := (-1)) dX11_behindSum_153 (by decide) ?_
      refine g_ic_ne (t := 163) dX11_behindSum_154 (by decide) (fun c18 => ?_) (fun c18 => ?_)
      · rw [if_neg c18] at h
        refine Go_le ?_ (e_X11_behindSum_j163 hret h)
        exact And.intro rfl (trivial)
      · rw [if_pos c18] at h
        refine g_iload_n dX11_behindSum_157 rfl ?_
        refine g_if_ne (t := 163) dX11_behindSum_158 (by decide) (fun c42 => ?_) (fun c42 => ?_)
        · rw [if_neg c42] at h
          refine Go_le ?_ (e_X11_behindSum_j163 hret h)
          exact And.intro rfl (trivial)
        · rw [if_pos c42] at h
          refine g_iconst (v := (nI 4)) dX11_behindSum_161 (by decide) ?_
          exact g_ireturn dX11_behindSum_162 rfl (by first | rfl | decide) (hret _ _ (Option.some.inj h))
    · rw [if_pos c17] at h
      refine g_aload_n dX11_behindSum_108 rfl ?_
      refine g_aload_n dX11_behindSum_109 rfl ?_
      refine g_bipush (v := (nI 93)) dX11_behindSum_110 (by decide) ?_
      obtain ⟨p43, ep43, h⟩ := bs h
      refine q_virt (Z := MX11_isSign) (c := (RX11, TX11, 56)) (toI_s ep43) dX11_behindSum_112 mX11_315.1 mX11_315.2 (Nat.le_of_ble_eq_true rfl) rfl rfl (Nat.le_of_ble_eq_true rfl) (Nat.le_of_ble_eq_true rfl) rfl rfl ?_
      show Go O (d + 1) MX11_behindSum 115 [some (.ref v0), some (.int v1), some (.int w0), some (.int p16.1)] [.int p43.1, .ref v0] p43.2 P
      obtain ⟨K44, eK44, h⟩ := bs h
      refine q_virt (Z := MX11_must) (c := (RX11, TX11, 56)) (toV_s eK44) dX11_behindSum_115 mX11_277.1 mX11_277.2 (Nat.le_of_ble_eq_true rfl) rfl rfl (Nat.le_of_ble_eq_true rfl) (Nat.le_of_ble_eq_true rfl) rfl rfl ?_
      show Go O (d + 1) MX11_behindSum 118 [some (.ref v0), some (.int v1), some (.int w0), some (.int p16.1)] [] K44 P
      refine g_aload_n dX11_behindSum_118 rfl ?_
      obtain ⟨x45, ex45, h⟩ := bs h
      refine q_getI dX11_behindSum_119 fX11_244 ex45 ?_
      refine g_if_ne (t := 150) dX11_behindSum_122 (by decide) (fun c47 => ?_) (fun c47 => ?_)
      · rw [if_neg c47] at h
        refine g_iconst (v := (nI 3)) dX11_behindSum_150 (by decide) ?_
        exact g_ireturn dX11_behindSum_151 rfl (by first | rfl | decide) (hret _ _ (Option.some.inj h))
      · rw [if_pos c47] at h
        refine g_aload_n dX11_behindSum_125 rfl ?_
        refine g_iconst (v := (nI 5)) dX11_behindSum_126 (by decide) ?_
        obtain ⟨K48, eK48, h⟩ := bs h
        refine q_virt (Z := MX11_settle) (c := (RX11, TX11, 56)) (toV_s eK48) dX11_behindSum_127 mX11_348.1 mX11_348.2 (Nat.le_of_ble_eq_true rfl) rfl rfl (Nat.le_of_ble_eq_true rfl) (Nat.le_of_ble_eq_true rfl) rfl rfl ?_
        show Go O (d + 1) MX11_behindSum 130 [some (.ref v0), some (.int v1), some (.int w0), some (.int p16.1)] [] K48 P
        refine g_aload_n dX11_behindSum_130 rfl ?_
        refine g_dup dX11_behindSum_131 (by first | rfl | exact vrf_cat _) ?_
        obtain ⟨x49, ex49, h⟩ := bs h
        refine q_getI dX11_behindSum_132 fX11_284 ex49 ?_
        refine g_iconst (v := (nI 1)) dX11_behindSum_135 (by decide) ?_
        refine g_isub dX11_behindSum_136 ?_
        obtain ⟨K50, eK50, h⟩ := bs h
        refine q_put (c := (RX11, TX11, 56)) dX11_behindSum_137 fX11_284 rfl rfl rfl (fun h => absurd h (by decide)) eK50 ?_
        refine g_aload_n dX11_behindSum_140 rfl ?_
        refine g_dup dX11_behindSum_141 (by first | rfl | exact vrf_cat _) ?_
        obtain ⟨x51, ex51, h⟩ := bs h
        refine q_getI dX11_behindSum_142 fX11_306 ex51 ?_
        refine g_iconst (v := (nI 1)) dX11_behindSum_145 (by decide) ?_
        refine g_isub dX11_behindSum_146 ?_
        obtain ⟨K52, eK52, h⟩ := bs h
        refine q_put (c := (RX11, TX11, 56)) dX11_behindSum_147 fX11_306 rfl rfl rfl (fun h => absurd h (by decide)) eK52 ?_
        refine g_iconst (v := (nI 3)) dX11_behindSum_150 (by decide) ?_
        exact g_ireturn dX11_behindSum_151 rfl (by first | rfl | decide) (hret _ _ (Option.some.inj h))
  · rw [if_neg c15] at h
    refine g_aload_n dX11_behindSum_77 rfl ?_
    refine g_iload_n dX11_behindSum_78 rfl ?_
    obtain ⟨p53, ep53, h⟩ := bs h
    refine q_stat (Z := MX11_binds) (toI_s ep53) dX11_behindSum_79 mX11_287.1 mX11_287.2 (Nat.le_of_ble_eq_true rfl) rfl rfl (Nat.le_of_ble_eq_true rfl) (Nat.le_of_ble_eq_true rfl) ?_
    show Go O (d + 1) MX11_behindSum 82 [some (.ref v0), some (.int v1), some (.int w0), none] [.int p53.1, .ref v0] p53.2 P
    obtain ⟨K54, eK54, h⟩ := bs h
    refine q_virt (Z := MX11_settle) (c := (RX11, TX11, 56)) (toV_s eK54) dX11_behindSum_82 mX11_348.1 mX11_348.2 (Nat.le_of_ble_eq_true rfl) rfl rfl (Nat.le_of_ble_eq_true rfl) (Nat.le_of_ble_eq_true rfl) rfl rfl ?_
    show Go O (d + 1) MX11_behindSum 85 [some (.ref v0), some (.int v1), some (.int w0), none] [] K54 P
    refine g_aload_n dX11_behindSum_85 rfl ?_
    refine g_iload_n dX11_behindSum_86 rfl ?_
    refine g_iconst (v := (nI 0)) dX11_behindSum_87 (by decide) ?_
    obtain ⟨K55, eK55, h⟩ := bs h
    refine q_virt (Z := MX11_push) (c := (RX11, TX11, 56)) (toV_s eK55) dX11_behindSum_88 mX11_309.1 mX11_309.2 (Nat.le_of_ble_eq_true rfl) rfl rfl (Nat.le_of_ble_eq_true rfl) (Nat.le_of_ble_eq_true rfl) rfl rfl ?_
    show Go O (d + 1) MX11_behindSum 91 [some (.ref v0), some (.int v1), some (.int w0), none] [] K55 P
    refine g_aload_n dX11_behindSum_91 rfl ?_
    obtain ⟨K56, eK56, h⟩ := bs h
    refine q_virt (Z := MX11_next) (c := (RX11, TX11, 56)) (toV_s eK56) dX11_behindSum_92 mX11_248.1 mX11_248.2 (Nat.le_of_ble_eq_true rfl) rfl rfl (Nat.le_of_ble_eq_true rfl) (Nat.le_of_ble_eq_true rfl) rfl rfl ?_
    show Go O (d + 1) MX11_behindSum 95 [some (.ref v0), some (.int v1), some (.int w0), none] [] K56 P
    refine g_iconst (v := (nI 1)) dX11_behindSum_95 (by decide) ?_
    exact g_ireturn dX11_behindSum_96 rfl (by first | rfl | decide) (hret _ _ (Option.some.inj h))
noncomputable def F_X11_behindSum (O : mO) (d : Nat) (a0 : Nat) (a1 : Int32) (K : mH) : Option (Int32 × mH) :=
  (toI (vc O d 11 MX11_isSign a0 [.int (nI 43)] K)).bind fun p1 =>
  if p1.1 = 0 then
    (toI (vc O d 11 MX11_isSign a0 [.int (nI 45)] p1.2)).bind fun p4 =>
    if p4.1 = 0 then
      (toI (vc O d 11 MX11_isSign a0 [.int (nI 42)] p4.2)).bind fun p7 =>
      if p7.1 = 0 then
        (toI (vc O d 11 MX11_isSign a0 [.int (nI 47)] p7.2)).bind fun p10 =>
        if p10.1 = 0 then
          (toI (vc O d 11 MX11_isSign a0 [.int (nI 37)] p10.2)).bind fun p13 =>
          F_X11_behindSum_j71 O d a0 a1 (if p13.1 = 0 then (-1) else (nI 24)) p13.2
        else
          F_X11_behindSum_j71 O d a0 a1 (nI 23) p10.2
      else
        F_X11_behindSum_j71 O d a0 a1 (nI 22) p7.2
    else
      F_X11_behindSum_j71 O d a0 a1 (nI 21) p4.2
  else
    F_X11_behindSum_j71 O d a0 a1 (nI 20) p1.2
theorem e_X11_behindSum {O : mO} {d : Nat} {a0 : Nat} {a1 : Int32} {K : mH} {r0 : Int32} {K0 : mH} (h : F_X11_behindSum O d a0 a1 K = some (r0, K0)) : ev O (d + 1) MX11_behindSum [.ref a0, .int a1] K = some (some (.int r0), K0) := by
  refine Rn_evx ?_
  show Go O (d + 1) MX11_behindSum 0 [some (.ref a0), some (.int a1), none, none] [] K _
  generalize hP : (fun (r : Option Value) (K' : mH) => (r, K') = (some (.int r0), K0)) = P
  have hret : ∀ (r : Int32) (K' : mH), (r, K') = (r0, K0) → P (some (.int r)) K' := by
    intro r K' e
    cases e
    subst hP
    rfl
  clear hP
  unfold F_X11_behindSum at h
  refine g_aload_n dX11_behindSum_0 rfl ?_
  refine g_bipush (v := (nI 43)) dX11_behindSum_1 (by decide) ?_
  obtain ⟨p1, ep1, h⟩ := bs h
  refine q_virt (Z := MX11_isSign) (c := (RX11, TX11, 56)) (toI_s ep1) dX11_behindSum_3 mX11_315.1 mX11_315.2 (Nat.le_of_ble_eq_true rfl) rfl rfl (Nat.le_of_ble_eq_true rfl) (Nat.le_of_ble_eq_true rfl) rfl rfl ?_
  show Go O (d + 1) MX11_behindSum 6 [some (.ref a0), some (.int a1), none, none] [.int p1.1] p1.2 P
  refine g_if_eq (t := 14) dX11_behindSum_6 (by decide) (fun c3 => ?_) (fun c3 => ?_)
  · rw [if_pos c3] at h
    refine g_aload_n dX11_behindSum_14 rfl ?_
    refine g_bipush (v := (nI 45)) dX11_behindSum_15 (by decide) ?_
    obtain ⟨p4, ep4, h⟩ := bs h
    refine q_virt (Z := MX11_isSign) (c := (RX11, TX11, 56)) (toI_s ep4) dX11_behindSum_17 mX11_315.1 mX11_315.2 (Nat.le_of_ble_eq_true rfl) rfl rfl (Nat.le_of_ble_eq_true rfl) (Nat.le_of_ble_eq_true rfl) rfl rfl ?_
    show Go O (d + 1) MX11_behindSum 20 [some (.ref a0), some (.int a1), none, none] [.int p4.1] p4.2 P
    refine g_if_eq (t := 28) dX11_behindSum_20 (by decide) (fun c6 => ?_) (fun c6 => ?_)
    · rw [if_pos c6] at h
      refine g_aload_n dX11_behindSum_28 rfl ?_
      refine g_bipush (v := (nI 42)) dX11_behindSum_29 (by decide) ?_
      obtain ⟨p7, ep7, h⟩ := bs h
      refine q_virt (Z := MX11_isSign) (c := (RX11, TX11, 56)) (toI_s ep7) dX11_behindSum_31 mX11_315.1 mX11_315.2 (Nat.le_of_ble_eq_true rfl) rfl rfl (Nat.le_of_ble_eq_true rfl) (Nat.le_of_ble_eq_true rfl) rfl rfl ?_
      show Go O (d + 1) MX11_behindSum 34 [some (.ref a0), some (.int a1), none, none] [.int p7.1] p7.2 P
      refine g_if_eq (t := 42) dX11_behindSum_34 (by decide) (fun c9 => ?_) (fun c9 => ?_)
      · rw [if_pos c9] at h
        refine g_aload_n dX11_behindSum_42 rfl ?_
        refine g_bipush (v := (nI 47)) dX11_behindSum_43 (by decide) ?_
        obtain ⟨p10, ep10, h⟩ := bs h
        refine q_virt (Z := MX11_isSign) (c := (RX11, TX11, 56)) (toI_s ep10) dX11_behindSum_45 mX11_315.1 mX11_315.2 (Nat.le_of_ble_eq_true rfl) rfl rfl (Nat.le_of_ble_eq_true rfl) (Nat.le_of_ble_eq_true rfl) rfl rfl ?_
        show Go O (d + 1) MX11_behindSum 48 [some (.ref a0), some (.int a1), none, none] [.int p10.1] p10.2 P
        refine g_if_eq (t := 56) dX11_behindSum_48 (by decide) (fun c12 => ?_) (fun c12 => ?_)
        · rw [if_pos c12] at h
          refine g_aload_n dX11_behindSum_56 rfl ?_
          refine g_bipush (v := (nI 37)) dX11_behindSum_57 (by decide) ?_
          obtain ⟨p13, ep13, h⟩ := bs h
          refine q_virt (Z := MX11_isSign) (c := (RX11, TX11, 56)) (toI_s ep13) dX11_behindSum_59 mX11_315.1 mX11_315.2 (Nat.le_of_ble_eq_true rfl) rfl rfl (Nat.le_of_ble_eq_true rfl) (Nat.le_of_ble_eq_true rfl) rfl rfl ?_
          show Go O (d + 1) MX11_behindSum 62 [some (.ref a0), some (.int a1), none, none] [.int p13.1] p13.2 P
          have hj : Go O (d + 1) MX11_behindSum 71 [some (.ref a0), some (.int a1), none, none] [.int (if p13.1 = 0 then (-1) else (nI 24))] p13.2 P := by
            refine Go_le ?_ (e_X11_behindSum_j71 hret h)
            exact And.intro rfl (And.intro rfl (trivial))
          refine g_if_eq (t := 70) dX11_behindSum_62 (by decide) (fun c14 => ?_) (fun c14 => ?_)
          · skip
            refine g_iconst (v := (-1)) dX11_behindSum_70 (by decide) ?_
            have hk : Go O (d + 1) MX11_behindSum 71 [some (.ref a0), some (.int a1), none, none] [.int (-1)] p13.2 P := by simpa only [if_pos c14] using hj
            refine Go_le ?_ hk
            exact And.intro rfl (And.intro rfl (trivial))
          · skip
            refine g_bipush (v := (nI 24)) dX11_behindSum_65 (by decide) ?_
            refine g_goto (t := 71) dX11_behindSum_67 (by decide) ?_
            have hk : Go O (d + 1) MX11_behindSum 71 [some (.ref a0), some (.int a1), none, none] [.int (nI 24)] p13.2 P := by simpa only [if_neg c14] using hj
            refine Go_le ?_ hk
            exact And.intro rfl (And.intro rfl (trivial))
        · rw [if_neg c12] at h
          refine g_bipush (v := (nI 23)) dX11_behindSum_51 (by decide) ?_
          refine g_goto (t := 71) dX11_behindSum_53 (by decide) ?_
          refine Go_le ?_ (e_X11_behindSum_j71 hret h)
          exact And.intro rfl (And.intro rfl (trivial))
      · rw [if_neg c9] at h
        refine g_bipush (v := (nI 22)) dX11_behindSum_37 (by decide) ?_
        refine g_goto (t := 71) dX11_behindSum_39 (by decide) ?_
        refine Go_le ?_ (e_X11_behindSum_j71 hret h)
        exact And.intro rfl (And.intro rfl (trivial))
    · rw [if_neg c6] at h
      refine g_bipush (v := (nI 21)) dX11_behindSum_23 (by decide) ?_
      refine g_goto (t := 71) dX11_behindSum_25 (by decide) ?_
      refine Go_le ?_ (e_X11_behindSum_j71 hret h)
      exact And.intro rfl (And.intro rfl (trivial))
  · rw [if_neg c3] at h
    refine g_bipush (v := (nI 20)) dX11_behindSum_9 (by decide) ?_
    refine g_goto (t := 71) dX11_behindSum_11 (by decide) ?_
    refine Go_le ?_ (e_X11_behindSum_j71 hret h)
    exact And.intro rfl (And.intro rfl (trivial))
noncomputable def F_X11_behindTest_j22 (O : mO) (d : Nat) (v0 : Nat) (v1 : Int32) (K : mH) : Option (Int32 × mH) :=
  (toV (vc O d 11 MX11_settle v0 [.int (if v1 = 0 then (nI 1) else (nI 2))] K)).bind fun K4 =>
  (gtI K4 v0 11 23).bind fun x6 =>
  (toV (vc O d 11 MX11_push v0 [.int (if v1 = 0 then (nI 30) else (nI 29)), .int x6] K4)).bind fun K7 =>
  (toV (vc O d 11 MX11_emit v0 [.int (if v1 = 0 then (nI 30) else (nI 29)), .int (nI 0)] K7)).bind fun K9 =>
  (toV (vc O d 11 MX11_next v0 [] K9)).bind fun K10 =>
  some ((nI 0), K10)
theorem e_X11_behindTest_j22 {O : mO} {d : Nat} {v0 : Nat} {v1 : Int32} {K : mH} {P : Option Value → mH → Prop} {x : Int32 × mH} (hret : ∀ (r : Int32) (K' : mH), (r, K') = x → P (some (.int r)) K') (h : F_X11_behindTest_j22 O d v0 v1 K = some x) : Go O (d + 1) MX11_behindTest 22 [some (.ref v0), some (.int v1)] [] K P := by
  unfold F_X11_behindTest_j22 at h
  refine g_aload_n dX11_behindTest_22 rfl ?_
  refine g_iload_n dX11_behindTest_23 rfl ?_
  have hj : Go O (d + 1) MX11_behindTest 32 [some (.ref v0), some (.int v1)] [.int (if v1 = 0 then (nI 1) else (nI 2)), .ref v0] K P := by
    obtain ⟨K4, eK4, h⟩ := bs h
    refine q_virt (Z := MX11_settle) (c := (RX11, TX11, 56)) (toV_s eK4) dX11_behindTest_32 mX11_348.1 mX11_348.2 (Nat.le_of_ble_eq_true rfl) rfl rfl (Nat.le_of_ble_eq_true rfl) (Nat.le_of_ble_eq_true rfl) rfl rfl ?_
    show Go O (d + 1) MX11_behindTest 35 [some (.ref v0), some (.int v1)] [] K4 P
    refine g_aload_n dX11_behindTest_35 rfl ?_
    refine g_iload_n dX11_behindTest_36 rfl ?_
    have hj : Go O (d + 1) MX11_behindTest 47 [some (.ref v0), some (.int v1)] [.int (if v1 = 0 then (nI 30) else (nI 29)), .ref v0] K4 P := by
      refine g_aload_n dX11_behindTest_47 rfl ?_
      obtain ⟨x6, ex6, h⟩ := bs h
      refine q_getI dX11_behindTest_48 fX11_281 ex6 ?_
      obtain ⟨K7, eK7, h⟩ := bs h
      refine q_virt (Z := MX11_push) (c := (RX11, TX11, 56)) (toV_s eK7) dX11_behindTest_51 mX11_309.1 mX11_309.2 (Nat.le_of_ble_eq_true rfl) rfl rfl (Nat.le_of_ble_eq_true rfl) (Nat.le_of_ble_eq_true rfl) rfl rfl ?_
      show Go O (d + 1) MX11_behindTest 54 [some (.ref v0), some (.int v1)] [] K7 P
      refine g_aload_n dX11_behindTest_54 rfl ?_
      refine g_iload_n dX11_behindTest_55 rfl ?_
      have hj : Go O (d + 1) MX11_behindTest 66 [some (.ref v0), none] [.int (if v1 = 0 then (nI 30) else (nI 29)), .ref v0] K7 P := by
        refine g_iconst (v := (nI 0)) dX11_behindTest_66 (by decide) ?_
        obtain ⟨K9, eK9, h⟩ := bs h
        refine q_virt (Z := MX11_emit) (c := (RX11, TX11, 56)) (toV_s eK9) dX11_behindTest_67 mX11_290.1 mX11_290.2 (Nat.le_of_ble_eq_true rfl) rfl rfl (Nat.le_of_ble_eq_true rfl) (Nat.le_of_ble_eq_true rfl) rfl rfl ?_
        show Go O (d + 1) MX11_behindTest 70 [some (.ref v0), none] [] K9 P
        refine g_aload_n dX11_behindTest_70 rfl ?_
        obtain ⟨K10, eK10, h⟩ := bs h
        refine q_virt (Z := MX11_next) (c := (RX11, TX11, 56)) (toV_s eK10) dX11_behindTest_71 mX11_248.1 mX11_248.2 (Nat.le_of_ble_eq_true rfl) rfl rfl (Nat.le_of_ble_eq_true rfl) (Nat.le_of_ble_eq_true rfl) rfl rfl ?_
        show Go O (d + 1) MX11_behindTest 74 [some (.ref v0), none] [] K10 P
        refine g_iconst (v := (nI 0)) dX11_behindTest_74 (by decide) ?_
        exact g_ireturn dX11_behindTest_75 rfl (by first | rfl | decide) (hret _ _ (Option.some.inj h))
      refine g_if_eq (t := 64) dX11_behindTest_56 (by decide) (fun c8 => ?_) (fun c8 => ?_)
      · skip
        refine g_bipush (v := (nI 30)) dX11_behindTest_64 (by decide) ?_
        have hk : Go O (d + 1) MX11_behindTest 66 [some (.ref v0), none] [.int (nI 30), .ref v0] K7 P := by simpa only [if_pos c8] using hj
        refine Go_le ?_ hk
        exact And.intro rfl (trivial)
      · skip
        refine g_bipush (v := (nI 29)) dX11_behindTest_59 (by decide) ?_
        refine g_goto (t := 66) dX11_behindTest_61 (by decide) ?_
        have hk : Go O (d + 1) MX11_behindTest 66 [some (.ref v0), none] [.int (nI 29), .ref v0] K7 P := by simpa only [if_neg c8] using hj
        refine Go_le ?_ hk
        exact And.intro rfl (trivial)
    refine g_if_eq (t := 45) dX11_behindTest_37 (by decide) (fun c5 => ?_) (fun c5 => ?_)
    · skip
      refine g_bipush (v := (nI 30)) dX11_behindTest_45 (by decide) ?_
      have hk : Go O (d + 1) MX11_behindTest 47 [some (.ref v0), some (.int v1)] [.int (nI 30), .ref v0] K4 P := by simpa only [if_pos c5] using hj
      refine Go_le ?_ hk
      exact And.intro rfl (And.intro rfl (trivial))
    · skip
      refine g_bipush (v := (nI 29)) dX11_behindTest_40 (by decide) ?_
      refine g_goto (t := 47) dX11_behindTest_42 (by decide) ?_
      have hk : Go O (d + 1) MX11_behindTest 47 [some (.ref v0), some (.int v1)] [.int (nI 29), .ref v0] K4 P := by simpa only [if_neg c5] using hj
      refine Go_le ?_ hk
      exact And.intro rfl (And.intro rfl (trivial))
  refine g_if_eq (t := 31) dX11_behindTest_24 (by decide) (fun c3 => ?_) (fun c3 => ?_)
  · skip
    refine g_iconst (v := (nI 1)) dX11_behindTest_31 (by decide) ?_
    have hk : Go O (d + 1) MX11_behindTest 32 [some (.ref v0), some (.int v1)] [.int (nI 1), .ref v0] K P := by simpa only [if_pos c3] using hj
    refine Go_le ?_ hk
    exact And.intro rfl (And.intro rfl (trivial))
  · skip
    refine g_iconst (v := (nI 2)) dX11_behindTest_27 (by decide) ?_
    refine g_goto (t := 32) dX11_behindTest_28 (by decide) ?_
    have hk : Go O (d + 1) MX11_behindTest 32 [some (.ref v0), some (.int v1)] [.int (nI 2), .ref v0] K P := by simpa only [if_neg c3] using hj
    refine Go_le ?_ hk
    exact And.intro rfl (And.intro rfl (trivial))
noncomputable def F_X11_behindTest (O : mO) (d : Nat) (a0 : Nat) (K : mH) : Option (Int32 × mH) :=
  (toI (vc O d 11 MX11_isWord a0 [.long (1476)] K)).bind fun p1 =>
  if p1.1 = 0 then
    (toI (vc O d 11 MX11_isWord a0 [.long (498)] p1.2)).bind fun p11 =>
    if p11.1 = 0 then
      (toI (vc O d 11 MX11_inner a0 [] p11.2)).bind fun p13 =>
      if p13.1 = (-1) then
        some ((nI 4), p13.2)
      else
        (toI (vc O d 11 MX11_isSign a0 [.int (nI 41)] p13.2)).bind fun p15 =>
        (toV (vc O d 11 MX11_must a0 [.int p15.1] p15.2)).bind fun K16 =>
        (gtI K16 a0 11 19).bind fun x17 =>
        if x17 = 0 then
          (toV (vc O d 11 MX11_settle a0 [.int (nI 1)] K16)).bind fun K20 =>
          (gtI K20 a0 11 29).bind fun x21 =>
          (ptI K20 a0 11 29 (x21 - (nI 1))).bind fun K22 =>
          (gtI K22 a0 11 30).bind fun x23 =>
          (ptI K22 a0 11 30 (x23 - (nI 1))).bind fun K24 =>
          some ((nI 2), K24)
        else
          some ((nI 2), K16)
    else
      F_X11_behindTest_j22 O d a0 p1.1 p11.2
  else
    F_X11_behindTest_j22 O d a0 p1.1 p1.2
theorem e_X11_behindTest {O : mO} {d : Nat} {a0 : Nat} {K : mH} {r0 : Int32} {K0 : mH} (h : F_X11_behindTest O d a0 K = some (r0, K0)) : ev O (d + 1) MX11_behindTest [.ref a0] K = some (some (.int r0), K0) := by
  refine Rn_evx ?_
  show Go O (d + 1) MX11_behindTest 0 [some (.ref a0), none] [] K _
  generalize hP : (fun (r : Option Value) (K' : mH) => (r, K') = (some (.int r0), K0)) = P
  have hret : ∀ (r : Int32) (K' : mH), (r, K') = (r0, K0) → P (some (.int r)) K' := by
    intro r K' e
    cases e
    subst hP
    rfl
  clear hP
  unfold F_X11_behindTest at h
  refine g_aload_n dX11_behindTest_0 rfl ?_
  refine g_ldc2 (v := 1476) dX11_behindTest_1 lX11_358 ?_
  obtain ⟨p1, ep1, h⟩ := bs h
  refine q_virt (Z := MX11_isWord) (c := (RX11, TX11, 56)) (toI_s ep1) dX11_behindTest_4 mX11_302.1 mX11_302.2 (Nat.le_of_ble_eq_true rfl) rfl rfl (Nat.le_of_ble_eq_true rfl) (Nat.le_of_ble_eq_true rfl) rfl rfl ?_
  show Go O (d + 1) MX11_behindTest 7 [some (.ref a0), none] [.int p1.1] p1.2 P
  refine g_istore_n (ls' := [some (.ref a0), some (.int p1.1)]) dX11_behindTest_7 (by decide) rfl ?_
  refine g_iload_n dX11_behindTest_8 rfl ?_
  refine g_if_ne (t := 22) dX11_behindTest_9 (by decide) (fun c2 => ?_) (fun c2 => ?_)
  · rw [if_neg c2] at h
    refine Go_le ?_ (e_X11_behindTest_j22 hret h)
    exact And.intro rfl (And.intro rfl (trivial))
  · rw [if_pos c2] at h
    refine g_aload_n dX11_behindTest_12 rfl ?_
    refine g_ldc2 (v := 498) dX11_behindTest_13 lX11_360 ?_
    obtain ⟨p11, ep11, h⟩ := bs h
    refine q_virt (Z := MX11_isWord) (c := (RX11, TX11, 56)) (toI_s ep11) dX11_behindTest_16 mX11_302.1 mX11_302.2 (Nat.le_of_ble_eq_true rfl) rfl rfl (Nat.le_of_ble_eq_true rfl) (Nat.le_of_ble_eq_true rfl) rfl rfl ?_
    show Go O (d + 1) MX11_behindTest 19 [some (.ref a0), some (.int p1.1)] [.int p11.1] p11.2 P
    refine g_if_eq (t := 76) dX11_behindTest_19 (by decide) (fun c12 => ?_) (fun c12 => ?_)
    · rw [if_pos c12] at h
      refine g_aload_n dX11_behindTest_76 rfl ?_
      obtain ⟨p13, ep13, h⟩ := bs h
      refine q_virt (Z := MX11_inner) (c := (RX11, TX11, 56)) (toI_s ep13) dX11_behindTest_77 mX11_351.1 mX11_351.2 (Nat.le_of_ble_eq_true rfl) rfl rfl (Nat.le_of_ble_eq_true rfl) (Nat.le_of_ble_eq_true rfl) rfl rfl ?_
      show Go O (d + 1) MX11_behindTest 80 [some (.ref a0), some (.int p1.1)] [.int p13.1] p13.2 P
      refine g_iconst (v := (-1)) dX11_behindTest_80 (by decide) ?_
      refine g_ic_ne (t := 86) dX11_behindTest_81 (by decide) (fun c14 => ?_) (fun c14 => ?_)
      · rw [if_neg c14] at h
        refine g_aload_n dX11_behindTest_86 rfl ?_
        refine g_aload_n dX11_behindTest_87 rfl ?_
        refine g_bipush (v := (nI 41)) dX11_behindTest_88 (by decide) ?_
        obtain ⟨p15, ep15, h⟩ := bs h
        refine q_virt (Z := MX11_isSign) (c := (RX11, TX11, 56)) (toI_s ep15) dX11_behindTest_90 mX11_315.1 mX11_315.2 (Nat.le_of_ble_eq_true rfl) rfl rfl (Nat.le_of_ble_eq_true rfl) (Nat.le_of_ble_eq_true rfl) rfl rfl ?_
        show Go O (d + 1) MX11_behindTest 93 [some (.ref a0), some (.int p1.1)] [.int p15.1, .ref a0] p15.2 P
        obtain ⟨K16, eK16, h⟩ := bs h
        refine q_virt (Z := MX11_must) (c := (RX11, TX11, 56)) (toV_s eK16) dX11_behindTest_93 mX11_277.1 mX11_277.2 (Nat.le_of_ble_eq_true rfl) rfl rfl (Nat.le_of_ble_eq_true rfl) (Nat.le_of_ble_eq_true rfl) rfl rfl ?_
        show Go O (d + 1) MX11_behindTest 96 [some (.ref a0), some (.int p1.1)] [] K16 P
        refine g_aload_n dX11_behindTest_96 rfl ?_
        obtain ⟨x17, ex17, h⟩ := bs h
        refine q_getI dX11_behindTest_97 fX11_244 ex17 ?_
        refine g_if_ne (t := 128) dX11_behindTest_100 (by decide) (fun c19 => ?_) (fun c19 => ?_)
        · rw [if_neg c19] at h
          refine g_iconst (v := (nI 2)) dX11_behindTest_128 (by decide) ?_
          exact g_ireturn dX11_behindTest_129 rfl (by first | rfl | decide) (hret _ _ (Option.some.inj h))
        · rw [if_pos c19] at h
          refine g_aload_n dX11_behindTest_103 rfl ?_
          refine g_iconst (v := (nI 1)) dX11_behindTest_104 (by decide) ?_
          obtain ⟨K20, eK20, h⟩ := bs h
          refine q_virt (Z := MX11_settle) (c := (RX11, TX11, 56)) (toV_s eK20) dX11_behindTest_105 mX11_348.1 mX11_348.2 (Nat.le_of_ble_eq_true rfl) rfl rfl (Nat.le_of_ble_eq_true rfl) (Nat.le_of_ble_eq_true rfl) rfl rfl ?_
          show Go O (d + 1) MX11_behindTest 108 [some (.ref a0), some (.int p1.1)] [] K20 P
          refine g_aload_n dX11_behindTest_108 rfl ?_
          refine g_dup dX11_behindTest_109 (by first | rfl | exact vrf_cat _) ?_
          obtain ⟨x21, ex21, h⟩ := bs h
          refine q_getI dX11_behindTest_110 fX11_284 ex21 ?_
          refine g_iconst (v := (nI 1)) dX11_behindTest_113 (by decide) ?_
          refine g_isub dX11_behindTest_114 ?_
          obtain ⟨K22, eK22, h⟩ := bs h
          refine q_put (c := (RX11, TX11, 56)) dX11_behindTest_115 fX11_284 rfl rfl rfl (fun h => absurd h (by decide)) eK22 ?_
          refine g_aload_n dX11_behindTest_118 rfl ?_
          refine g_dup dX11_behindTest_119 (by first | rfl | exact vrf_cat _) ?_
          obtain ⟨x23, ex23, h⟩ := bs h
          refine q_getI dX11_behindTest_120 fX11_306 ex23 ?_
          refine g_iconst (v := (nI 1)) dX11_behindTest_123 (by decide) ?_
          refine g_isub dX11_behindTest_124 ?_
          obtain ⟨K24, eK24, h⟩ := bs h
          refine q_put (c := (RX11, TX11, 56)) dX11_behindTest_125 fX11_306 rfl rfl rfl (fun h => absurd h (by decide)) eK24 ?_
          refine g_iconst (v := (nI 2)) dX11_behindTest_128 (by decide) ?_
          exact g_ireturn dX11_behindTest_129 rfl (by first | rfl | decide) (hret _ _ (Option.some.inj h))
      · rw [if_pos c14] at h
        refine g_iconst (v := (nI 4)) dX11_behindTest_84 (by decide) ?_
        exact g_ireturn dX11_behindTest_85 rfl (by first | rfl | decide) (hret _ _ (Option.some.inj h))
    · rw [if_neg c12] at h
      refine Go_le ?_ (e_X11_behindTest_j22 hret h)
      exact And.intro rfl (And.intro rfl (trivial))
noncomputable def F_X11_readExpression_l20 (O : mO) (d : Nat) (v0 : Nat) (v1 : Int32) (s2 : Int32) (K : mH) : Option ((Int32 × mH) ⊕ (mH)) :=
  (gtI K v0 11 19).bind fun x4 =>
  if x4 = 0 then
    if s2 = (nI 4) then
      some (.inr K)
    else
      if s2 = 0 then
        (toI (vc O d 11 MX11_readPlain v0 [] K)).bind fun p19 =>
        some (.inl (p19.1, p19.2))
      else
        if s2 = (nI 1) then
          (toI (vc O d 11 MX11_readPart v0 [] K)).bind fun p18 =>
          some (.inl (p18.1, p18.2))
        else
          if s2 = (nI 3) then
            (toI (vc O d 11 MX11_behindSum v0 [.int v1] K)).bind fun p17 =>
            some (.inl (p17.1, p17.2))
          else
            (toI (vc O d 11 MX11_behindTest v0 [] K)).bind fun p16 =>
            some (.inl (p16.1, p16.2))
  else
    some (.inr K)
theorem e_X11_readExpression_l20 {O : mO} {d : Nat} {v0 : Nat} {v1 : Int32} {P : Option Value → mH → Prop} {x : mH} (hex : ∀ q : mH, x = q → Go O (d + 1) MX11_readExpression 76 [some (.ref v0), none, none] [] q P) : ∀ (f : Nat) (q : Int32 × mH), lupF (fun (q : Int32 × mH) => F_X11_readExpression_l20 O d v0 v1 q.1 q.2) f q = some x → Go O (d + 1) MX11_readExpression 20 [some (.ref v0), some (.int v1), some (.int q.1)] [] q.2 P := by
  intro f
  induction f with
  | zero =>
    intro q h
    cases h
  | succ f ih =>
    intro q h
    obtain ⟨y, h, hy1, hy2⟩ := lupF_s h
    have hin : ∀ q : Int32 × mH, y = .inl q → Go O (d + 1) MX11_readExpression 20 [some (.ref v0), some (.int v1), some (.int q.1)] [] q.2 P := fun q e => ih q (hy1 q e)
    replace hex : ∀ q : mH, y = .inr q → Go O (d + 1) MX11_readExpression 76 [some (.ref v0), none, none] [] q P := fun q e => hex q (hy2 q e).symm
    clear ih hy1 hy2
    obtain ⟨s2, K⟩ := q
    dsimp only at h ⊢
    unfold F_X11_readExpression_l20 at h
    refine g_aload_n dX11_readExpression_20 rfl ?_
    obtain ⟨x4, ex4, h⟩ := bs h
    refine q_getI dX11_readExpression_21 fX11_244 ex4 ?_
    refine g_if_ne (t := 76) dX11_readExpression_24 (by decide) (fun c5 => ?_) (fun c5 => ?_)
    · rw [if_neg c5] at h
      refine Go_le ?_ (hex K (Option.some.inj h).symm)
      exact And.intro rfl (trivial)
    · rw [if_pos c5] at h
      refine g_iload_n dX11_readExpression_27 rfl ?_
      refine g_iconst (v := (nI 4)) dX11_readExpression_28 (by decide) ?_
      refine g_ic_eq (t := 76) dX11_readExpression_29 (by decide) (fun c6 => ?_) (fun c6 => ?_)
      · rw [if_pos c6] at h
        refine Go_le ?_ (hex K (Option.some.inj h).symm)
        exact And.intro rfl (trivial)
      · rw [if_neg c6] at h
        refine g_iload_n dX11_readExpression_32 rfl ?_
        refine g_if_ne (t := 43) dX11_readExpression_33 (by decide) (fun c10 => ?_) (fun c10 => ?_)
        · rw [if_neg c10] at h
          refine g_iload_n dX11_readExpression_43 rfl ?_
          refine g_iconst (v := (nI 1)) dX11_readExpression_44 (by decide) ?_
          refine g_ic_ne (t := 55) dX11_readExpression_45 (by decide) (fun c13 => ?_) (fun c13 => ?_)
          · rw [if_neg c13] at h
            refine g_iload_n dX11_readExpression_55 rfl ?_
            refine g_iconst (v := (nI 3)) dX11_readExpression_56 (by decide) ?_
            refine g_ic_ne (t := 68) dX11_readExpression_57 (by decide) (fun c15 => ?_) (fun c15 => ?_)
            · rw [if_neg c15] at h
              refine g_aload_n dX11_readExpression_68 rfl ?_
              obtain ⟨p16, ep16, h⟩ := bs h
              refine q_virt (Z := MX11_behindTest) (c := (RX11, TX11, 56)) (toI_s ep16) dX11_readExpression_69 mX11_369.1 mX11_369.2 (Nat.le_of_ble_eq_true rfl) rfl rfl (Nat.le_of_ble_eq_true rfl) (Nat.le_of_ble_eq_true rfl) rfl rfl ?_
              show Go O (d + 1) MX11_readExpression 72 [some (.ref v0), some (.int v1), some (.int s2)] [.int p16.1] p16.2 P
              refine g_istore_n (ls' := [some (.ref v0), some (.int v1), some (.int p16.1)]) dX11_readExpression_72 (by decide) rfl ?_
              refine g_goto (t := 20) dX11_readExpression_73 (by decide) ?_
              refine Go_le ?_ (hin (p16.1, p16.2) (Option.some.inj h).symm)
              exact And.intro rfl (And.intro rfl (And.intro rfl (trivial)))
            · rw [if_pos c15] at h
              refine g_aload_n dX11_readExpression_60 rfl ?_
              refine g_iload_n dX11_readExpression_61 rfl ?_
              obtain ⟨p17, ep17, h⟩ := bs h
              refine q_virt (Z := MX11_behindSum) (c := (RX11, TX11, 56)) (toI_s ep17) dX11_readExpression_62 mX11_365.1 mX11_365.2 (Nat.le_of_ble_eq_true rfl) rfl rfl (Nat.le_of_ble_eq_true rfl) (Nat.le_of_ble_eq_true rfl) rfl rfl ?_
              show Go O (d + 1) MX11_readExpression 65 [some (.ref v0), some (.int v1), some (.int s2)] [.int p17.1] p17.2 P
              refine g_goto (t := 72) dX11_readExpression_65 (by decide) ?_
              refine g_istore_n (ls' := [some (.ref v0), some (.int v1), some (.int p17.1)]) dX11_readExpression_72 (by decide) rfl ?_
              refine g_goto (t := 20) dX11_readExpression_73 (by decide) ?_
              refine Go_le ?_ (hin (p17.1, p17.2) (Option.some.inj h).symm)
              exact And.intro rfl (And.intro rfl (And.intro rfl (trivial)))
          · rw [if_pos c13] at h
            refine g_aload_n dX11_readExpression_48 rfl ?_
            obtain ⟨p18, ep18, h⟩ := bs h
            refine q_virt (Z := MX11_readPart) (c := (RX11, TX11, 56)) (toI_s ep18) dX11_readExpression_49 mX11_345.1 mX11_345.2 (Nat.le_of_ble_eq_true rfl) rfl rfl (Nat.le_of_ble_eq_true rfl) (Nat.le_of_ble_eq_true rfl) rfl rfl ?_
            show Go O (d + 1) MX11_readExpression 52 [some (.ref v0), some (.int v1), some (.int s2)] [.int p18.1] p18.2 P
            refine g_goto (t := 72) dX11_readExpression_52 (by decide) ?_
            refine g_istore_n (ls' := [some (.ref v0), some (.int v1), some (.int p18.1)]) dX11_readExpression_72 (by decide) rfl ?_
            refine g_goto (t := 20) dX11_readExpression_73 (by decide) ?_
            refine Go_le ?_ (hin (p18.1, p18.2) (Option.some.inj h).symm)
            exact And.intro rfl (And.intro rfl (And.intro rfl (trivial)))
        · rw [if_pos c10] at h
          refine g_aload_n dX11_readExpression_36 rfl ?_
          obtain ⟨p19, ep19, h⟩ := bs h
          refine q_virt (Z := MX11_readPlain) (c := (RX11, TX11, 56)) (toI_s ep19) dX11_readExpression_37 mX11_362.1 mX11_362.2 (Nat.le_of_ble_eq_true rfl) rfl rfl (Nat.le_of_ble_eq_true rfl) (Nat.le_of_ble_eq_true rfl) rfl rfl ?_
          show Go O (d + 1) MX11_readExpression 40 [some (.ref v0), some (.int v1), some (.int s2)] [.int p19.1] p19.2 P
          refine g_goto (t := 72) dX11_readExpression_40 (by decide) ?_
          refine g_istore_n (ls' := [some (.ref v0), some (.int v1), some (.int p19.1)]) dX11_readExpression_72 (by decide) rfl ?_
          refine g_goto (t := 20) dX11_readExpression_73 (by decide) ?_
          refine Go_le ?_ (hin (p19.1, p19.2) (Option.some.inj h).symm)
          exact And.intro rfl (And.intro rfl (And.intro rfl (trivial)))
noncomputable def F_X11_readExpression_j76 (O : mO) (d : Nat) (v0 : Nat) (K : mH) : Option (mH) :=
  (toV (vc O d 11 MX11_settle v0 [.int (nI 1)] K)).bind fun K21 =>
  some K21
theorem e_X11_readExpression_j76 {O : mO} {d : Nat} {v0 : Nat} {K : mH} {P : Option Value → mH → Prop} {x : mH} (hret : ∀ K' : mH, K' = x → P none K') (h : F_X11_readExpression_j76 O d v0 K = some x) : Go O (d + 1) MX11_readExpression 76 [some (.ref v0), none, none] [] K P := by
  unfold F_X11_readExpression_j76 at h
  refine g_aload_n dX11_readExpression_76 rfl ?_
  refine g_iconst (v := (nI 1)) dX11_readExpression_77 (by decide) ?_
  obtain ⟨K21, eK21, h⟩ := bs h
  refine q_virt (Z := MX11_settle) (c := (RX11, TX11, 56)) (toV_s eK21) dX11_readExpression_78 mX11_348.1 mX11_348.2 (Nat.le_of_ble_eq_true rfl) rfl rfl (Nat.le_of_ble_eq_true rfl) (Nat.le_of_ble_eq_true rfl) rfl rfl ?_
  show Go O (d + 1) MX11_readExpression 81 [some (.ref v0), none, none] [] K21 P
  exact g_return dX11_readExpression_81 rfl (hret _ (Option.some.inj h))
noncomputable def F_X11_readExpression (O : mO) (d : Nat) (a0 : Nat) (a1 : Int32) (K : mH) : Option (mH) :=
  (ptI K a0 11 29 (nI 0)).bind fun K1 =>
  (ptI K1 a0 11 30 (nI 0)).bind fun K2 =>
  (lupF (fun (q : Int32 × mH) => F_X11_readExpression_l20 O d a0 a1 q.1 q.2) FU ((if a1 = 0 then (nI 1) else (nI 0)), K2)).bind fun r20 =>
  F_X11_readExpression_j76 O d a0 r20
theorem e_X11_readExpression {O : mO} {d : Nat} {a0 : Nat} {a1 : Int32} {K : mH} {x : mH} (h : F_X11_readExpression O d a0 a1 K = some x) : ev O (d + 1) MX11_readExpression [.ref a0, .int a1] K = some (none, x) := by
  refine Rn_evx ?_
  show Go O (d + 1) MX11_readExpression 0 [some (.ref a0), some (.int a1), none] [] K _
  generalize hP : (fun (r : Option Value) (K' : mH) => (r, K') = (none, x)) = P
  have hret : ∀ K' : mH, K' = x → P none K' := by
    intro K' e
    subst hP e
    rfl
  clear hP
  unfold F_X11_readExpression at h
  refine g_aload_n dX11_readExpression_0 rfl ?_
  refine g_iconst (v := (nI 0)) dX11_readExpression_1 (by decide) ?_
  obtain ⟨K1, eK1, h⟩ := bs h
  refine q_put (c := (RX11, TX11, 56)) dX11_readExpression_2 fX11_284 rfl rfl rfl (fun h => absurd h (by decide)) eK1 ?_
  refine g_aload_n dX11_readExpression_5 rfl ?_
  refine g_iconst (v := (nI 0)) dX11_readExpression_6 (by decide) ?_
  obtain ⟨K2, eK2, h⟩ := bs h
  refine q_put (c := (RX11, TX11, 56)) dX11_readExpression_7 fX11_306 rfl rfl rfl (fun h => absurd h (by decide)) eK2 ?_
  refine g_iload_n dX11_readExpression_10 rfl ?_
  have hj : Go O (d + 1) MX11_readExpression 19 [some (.ref a0), some (.int a1), none] [.int (if a1 = 0 then (nI 1) else (nI 0))] K2 P := by
    refine g_istore_n (ls' := [some (.ref a0), some (.int a1), some (.int (if a1 = 0 then (nI 1) else (nI 0)))]) dX11_readExpression_19 (by decide) rfl ?_
    obtain ⟨r20, er20, h⟩ := bs h
    have hx : Go O (d + 1) MX11_readExpression 76 [some (.ref a0), none, none] [] r20 P := by
      refine Go_le ?_ (e_X11_readExpression_j76 hret h)
      exact And.intro rfl (trivial)
    refine Go_le ?_ (e_X11_readExpression_l20 (fun q e => by cases e; exact hx) FU ((if a1 = 0 then (nI 1) else (nI 0)), K2) er20)
    exact And.intro rfl (And.intro rfl (And.intro rfl (trivial)))
  refine g_if_eq (t := 18) dX11_readExpression_11 (by decide) (fun c3 => ?_) (fun c3 => ?_)
  · skip
    refine g_iconst (v := (nI 1)) dX11_readExpression_18 (by decide) ?_
    have hk : Go O (d + 1) MX11_readExpression 19 [some (.ref a0), some (.int a1), none] [.int (nI 1)] K2 P := by simpa only [if_pos c3] using hj
    refine Go_le ?_ hk
    exact And.intro rfl (And.intro rfl (trivial))
  · skip
    refine g_iconst (v := (nI 0)) dX11_readExpression_14 (by decide) ?_
    refine g_goto (t := 19) dX11_readExpression_15 (by decide) ?_
    have hk : Go O (d + 1) MX11_readExpression 19 [some (.ref a0), some (.int a1), none] [.int (nI 0)] K2 P := by simpa only [if_neg c3] using hj
    refine Go_le ?_ hk
    exact And.intro rfl (And.intro rfl (trivial))
noncomputable def F_X11_beginText (O : mO) (d : Nat) (a0 : Nat) (a1 : Int32) (K : mH) : Option (mH) :=
  (zz a1).bind fun z2 =>
  (ptI K a0 11 20 a1).bind fun K1 =>
  (toV (vc O d 11 MX11_begin a0 [] K1)).bind fun K3 =>
  (ptI K3 a0 11 21 (nI 0)).bind fun K4 =>
  (ptI K4 a0 11 23 (nI 0)).bind fun K5 =>
  (ptI K5 a0 11 26 (nI 0)).bind fun K6 =>
  some K6
theorem e_X11_beginText {O : mO} {d : Nat} {a0 : Nat} {a1 : Int32} {K : mH} {x : mH} (h : F_X11_beginText O d a0 a1 K = some x) : ev O (d + 1) MX11_beginText [.ref a0, .int a1] K = some (none, x) := by
  refine Rn_evx ?_
  show Go O (d + 1) MX11_beginText 0 [some (.ref a0), some (.int a1)] [] K _
  generalize hP : (fun (r : Option Value) (K' : mH) => (r, K') = (none, x)) = P
  have hret : ∀ K' : mH, K' = x → P none K' := by
    intro K' e
    subst hP e
    rfl
  clear hP
  unfold F_X11_beginText at h
  refine g_aload_n dX11_beginText_0 rfl ?_
  refine g_iload_n dX11_beginText_1 rfl ?_
  obtain ⟨z2, ez2, h⟩ := bs h
  obtain ⟨K1, eK1, h⟩ := bs h
  refine q_put (c := (RX11, TX11, 56)) dX11_beginText_2 fX11_321 rfl (zz_nar ez2).2.1 (zz_nar ez2).2.2 (fun h => absurd h (by decide)) eK1 ?_
  refine g_aload_n dX11_beginText_5 rfl ?_
  obtain ⟨K3, eK3, h⟩ := bs h
  refine q_virt (Z := MX11_begin) (c := (RX11, TX11, 56)) (toV_s eK3) dX11_beginText_6 mX11_372.1 mX11_372.2 (Nat.le_of_ble_eq_true rfl) rfl rfl (Nat.le_of_ble_eq_true rfl) (Nat.le_of_ble_eq_true rfl) rfl rfl ?_
  show Go O (d + 1) MX11_beginText 9 [some (.ref a0), some (.int a1)] [] K3 P
  refine g_aload_n dX11_beginText_9 rfl ?_
  refine g_iconst (v := (nI 0)) dX11_beginText_10 (by decide) ?_
  obtain ⟨K4, eK4, h⟩ := bs h
  refine q_put (c := (RX11, TX11, 56)) dX11_beginText_11 fX11_375 rfl rfl rfl (fun h => absurd h (by decide)) eK4 ?_
  refine g_aload_n dX11_beginText_14 rfl ?_
  refine g_iconst (v := (nI 0)) dX11_beginText_15 (by decide) ?_
  obtain ⟨K5, eK5, h⟩ := bs h
  refine q_put (c := (RX11, TX11, 56)) dX11_beginText_16 fX11_281 rfl rfl rfl (fun h => absurd h (by decide)) eK5 ?_
  refine g_aload_n dX11_beginText_19 rfl ?_
  refine g_iconst (v := (nI 0)) dX11_beginText_20 (by decide) ?_
  obtain ⟨K6, eK6, h⟩ := bs h
  refine q_put (c := (RX11, TX11, 56)) dX11_beginText_21 fX11_312 rfl rfl rfl (fun h => absurd h (by decide)) eK6 ?_
  exact g_return dX11_beginText_24 rfl (hret _ (Option.some.inj h))
noncomputable def F_X11_endText_j19 (O : mO) (d : Nat) (v0 : Nat) (K : mH) : Option (mH) :=
  (ptI K v0 11 20 (nI 0)).bind fun K4 =>
  (ptI K4 v0 11 13 (nI 0)).bind fun K5 =>
  some K5
theorem e_X11_endText_j19 {O : mO} {d : Nat} {v0 : Nat} {K : mH} {P : Option Value → mH → Prop} {x : mH} (hret : ∀ K' : mH, K' = x → P none K') (h : F_X11_endText_j19 O d v0 K = some x) : Go O (d + 1) MX11_endText 19 [some (.ref v0)] [] K P := by
  unfold F_X11_endText_j19 at h
  refine g_aload_n dX11_endText_19 rfl ?_
  refine g_iconst (v := (nI 0)) dX11_endText_20 (by decide) ?_
  obtain ⟨K4, eK4, h⟩ := bs h
  refine q_put (c := (RX11, TX11, 56)) dX11_endText_21 fX11_321 rfl rfl rfl (fun h => absurd h (by decide)) eK4 ?_
  refine g_aload_n dX11_endText_24 rfl ?_
  refine g_iconst (v := (nI 0)) dX11_endText_25 (by decide) ?_
  obtain ⟨K5, eK5, h⟩ := bs h
  refine q_put (c := (RX11, TX11, 56)) dX11_endText_26 fX11_232 rfl rfl rfl (fun h => absurd h (by decide)) eK5 ?_
  exact g_return dX11_endText_29 rfl (hret _ (Option.some.inj h))
noncomputable def F_X11_endText (O : mO) (d : Nat) (a0 : Nat) (K : mH) : Option (mH) :=
  (gtI K a0 11 19).bind fun x1 =>
  if x1 = 0 then
    (gtI K a0 11 16).bind fun x6 =>
    if x6 = 0 then
      F_X11_endText_j19 O d a0 K
    else
      (toV (vc O d 11 MX11_must a0 [.int (nI 0)] K)).bind fun K9 =>
      F_X11_endText_j19 O d a0 K9
  else
    F_X11_endText_j19 O d a0 K
theorem e_X11_endText {O : mO} {d : Nat} {a0 : Nat} {K : mH} {x : mH} (h : F_X11_endText O d a0 K = some x) : ev O (d + 1) MX11_endText [.ref a0] K = some (none, x) := by
  refine Rn_evx ?_
  show Go O (d + 1) MX11_endText 0 [some (.ref a0)] [] K _
  generalize hP : (fun (r : Option Value) (K' : mH) => (r, K') = (none, x)) = P
  have hret : ∀ K' : mH, K' = x → P none K' := by
    intro K' e
    subst hP e
    rfl
  clear hP
  unfold F_X11_endText at h
  refine g_aload_n dX11_endText_0 rfl ?_
  obtain ⟨x1, ex1, h⟩ := bs h
  refine q_getI dX11_endText_1 fX11_244 ex1 ?_
  refine g_if_ne (t := 19) dX11_endText_4 (by decide) (fun c3 => ?_) (fun c3 => ?_)
  · rw [if_neg c3] at h
    refine Go_le ?_ (e_X11_endText_j19 hret h)
    exact And.intro rfl (trivial)
  · rw [if_pos c3] at h
    refine g_aload_n dX11_endText_7 rfl ?_
    obtain ⟨x6, ex6, h⟩ := bs h
    refine q_getI dX11_endText_8 fX11_264 ex6 ?_
    refine g_if_eq (t := 19) dX11_endText_11 (by decide) (fun c8 => ?_) (fun c8 => ?_)
    · rw [if_pos c8] at h
      refine Go_le ?_ (e_X11_endText_j19 hret h)
      exact And.intro rfl (trivial)
    · rw [if_neg c8] at h
      refine g_aload_n dX11_endText_14 rfl ?_
      refine g_iconst (v := (nI 0)) dX11_endText_15 (by decide) ?_
      obtain ⟨K9, eK9, h⟩ := bs h
      refine q_virt (Z := MX11_must) (c := (RX11, TX11, 56)) (toV_s eK9) dX11_endText_16 mX11_277.1 mX11_277.2 (Nat.le_of_ble_eq_true rfl) rfl rfl (Nat.le_of_ble_eq_true rfl) (Nat.le_of_ble_eq_true rfl) rfl rfl ?_
      show Go O (d + 1) MX11_endText 19 [some (.ref a0)] [] K9 P
      refine Go_le ?_ (e_X11_endText_j19 hret h)
      exact And.intro rfl (trivial)
noncomputable def F_X11_readLaw_l4 (O : mO) (d : Nat) (v0 : Nat) (s1 : Int32) (s2 : Int32) (K : mH) : Option ((Int32 × Int32 × mH) ⊕ (Int32 × mH)) :=
  if (nI 4) ≤ s2 then
    some (.inr (s1, K))
  else
    (gtA K v0 11 33).bind fun x2 =>
    (rdJ O K x2 s2).bind fun x3 =>
    (toI (vc O d 11 MX11_isWord v0 [.long x3] K)).bind fun p4 =>
    some (.inl ((if p4.1 = 0 then s1 else s2), (s2 + nI 1), p4.2))
theorem e_X11_readLaw_l4 {O : mO} {d : Nat} {v0 : Nat} {P : Option Value → mH → Prop} {x : Int32 × mH} (hex : ∀ q : Int32 × mH, x = q → Go O (d + 1) MX11_readLaw 34 [some (.ref v0), some (.int q.1), none, none] [] q.2 P) : ∀ (f : Nat) (q : Int32 × Int32 × mH), lupF (fun (q : Int32 × Int32 × mH) => F_X11_readLaw_l4 O d v0 q.1 q.2.1 q.2.2) f q = some x → Go O (d + 1) MX11_readLaw 4 [some (.ref v0), some (.int q.1), some (.int q.2.1), none] [] q.2.2 P := by
  intro f
  induction f with
  | zero =>
    intro q h
    cases h
  | succ f ih =>
    intro q h
    obtain ⟨y, h, hy1, hy2⟩ := lupF_s h
    have hin : ∀ q : Int32 × Int32 × mH, y = .inl q → Go O (d + 1) MX11_readLaw 4 [some (.ref v0), some (.int q.1), some (.int q.2.1), none] [] q.2.2 P := fun q e => ih q (hy1 q e)
    replace hex : ∀ q : Int32 × mH, y = .inr q → Go O (d + 1) MX11_readLaw 34 [some (.ref v0), some (.int q.1), none, none] [] q.2 P := fun q e => hex q (hy2 q e).symm
    clear ih hy1 hy2
    obtain ⟨s1, s2, K⟩ := q
    dsimp only at h ⊢
    unfold F_X11_readLaw_l4 at h
    refine g_iload_n dX11_readLaw_4 rfl ?_
    refine g_iconst (v := (nI 4)) dX11_readLaw_5 (by decide) ?_
    refine g_ic_ge (t := 34) dX11_readLaw_6 (by decide) (fun c1 => ?_) (fun c1 => ?_)
    · rw [if_pos c1] at h
      refine Go_le ?_ (hex (s1, K) (Option.some.inj h).symm)
      exact And.intro rfl (And.intro rfl (trivial))
    · rw [if_neg c1] at h
      refine g_aload_n dX11_readLaw_9 rfl ?_
      refine g_aload_n dX11_readLaw_10 rfl ?_
      obtain ⟨x2, ex2, h⟩ := bs h
      refine q_getA dX11_readLaw_11 fX11_96 ex2 ?_
      refine g_iload_n dX11_readLaw_14 rfl ?_
      obtain ⟨x3, ex3, h⟩ := bs h
      refine q_lald dX11_readLaw_15 ex3 ?_
      obtain ⟨p4, ep4, h⟩ := bs h
      refine q_virt (Z := MX11_isWord) (c := (RX11, TX11, 56)) (toI_s ep4) dX11_readLaw_16 mX11_302.1 mX11_302.2 (Nat.le_of_ble_eq_true rfl) rfl rfl (Nat.le_of_ble_eq_true rfl) (Nat.le_of_ble_eq_true rfl) rfl rfl ?_
      show Go O (d + 1) MX11_readLaw 19 [some (.ref v0), some (.int s1), some (.int s2), none] [.int p4.1] p4.2 P
      have hj : Go O (d + 1) MX11_readLaw 27 [some (.ref v0), none, some (.int s2), none] [.int (if p4.1 = 0 then s1 else s2)] p4.2 P := by
        refine g_istore_n (ls' := [some (.ref v0), some (.int (if p4.1 = 0 then s1 else s2)), some (.int s2), none]) dX11_readLaw_27 (by decide) rfl ?_
        refine q_iinc (w := nI 1) (ls' := [some (.ref v0), some (.int (if p4.1 = 0 then s1 else s2)), some (.int (s2 + nI 1)), none]) dX11_readLaw_28 (by decide) rfl (by decide) rfl ?_
        refine g_goto (t := 4) dX11_readLaw_31 (by decide) ?_
        refine Go_le ?_ (hin ((if p4.1 = 0 then s1 else s2), (s2 + nI 1), p4.2) (Option.some.inj h).symm)
        exact And.intro rfl (And.intro rfl (And.intro rfl (trivial)))
      refine g_if_eq (t := 26) dX11_readLaw_19 (by decide) (fun c5 => ?_) (fun c5 => ?_)
      · skip
        refine g_iload_n dX11_readLaw_26 rfl ?_
        have hk : Go O (d + 1) MX11_readLaw 27 [some (.ref v0), none, some (.int s2), none] [.int s1] p4.2 P := by simpa only [if_pos c5] using hj
        refine Go_le ?_ hk
        exact And.intro rfl (And.intro rfl (trivial))
      · skip
        refine g_iload_n dX11_readLaw_22 rfl ?_
        refine g_goto (t := 27) dX11_readLaw_23 (by decide) ?_
        have hk : Go O (d + 1) MX11_readLaw 27 [some (.ref v0), none, some (.int s2), none] [.int s2] p4.2 P := by simpa only [if_neg c5] using hj
        refine Go_le ?_ hk
        exact And.intro rfl (And.intro rfl (trivial))
noncomputable def F_X11_readLaw_l75 (O : mO) (d : Nat) (v0 : Nat) (v1 : Int32) (v2 : Int32) (s3 : Int32) (K : mH) : Option ((Int32 × mH) ⊕ (mH)) :=
  if (nI 8) ≤ s3 then
    some (.inr K)
  else
    (gtA K v0 11 22).bind fun x14 =>
    (wrI K x14 (v2 + s3) (nI 0)).bind fun K15 =>
    some (.inl ((s3 + nI 1), K15))
theorem e_X11_readLaw_l75 {O : mO} {d : Nat} {v0 : Nat} {v1 : Int32} {v2 : Int32} {P : Option Value → mH → Prop} {x : mH} (hex : ∀ q : mH, x = q → Go O (d + 1) MX11_readLaw 96 [some (.ref v0), some (.int v1), some (.int v2), none] [] q P) : ∀ (f : Nat) (q : Int32 × mH), lupF (fun (q : Int32 × mH) => F_X11_readLaw_l75 O d v0 v1 v2 q.1 q.2) f q = some x → Go O (d + 1) MX11_readLaw 75 [some (.ref v0), some (.int v1), some (.int v2), some (.int q.1)] [] q.2 P := by
  intro f
  induction f with
  | zero =>
    intro q h
    cases h
  | succ f ih =>
    intro q h
    obtain ⟨y, h, hy1, hy2⟩ := lupF_s h
    have hin : ∀ q : Int32 × mH, y = .inl q → Go O (d + 1) MX11_readLaw 75 [some (.ref v0), some (.int v1), some (.int v2), some (.int q.1)] [] q.2 P := fun q e => ih q (hy1 q e)
    replace hex : ∀ q : mH, y = .inr q → Go O (d + 1) MX11_readLaw 96 [some (.ref v0), some (.int v1), some (.int v2), none] [] q P := fun q e => hex q (hy2 q e).symm
    clear ih hy1 hy2
    obtain ⟨s3, K⟩ := q
    dsimp only at h ⊢
    unfold F_X11_readLaw_l75 at h
    refine g_iload_n dX11_readLaw_75 rfl ?_
    refine g_bipush (v := (nI 8)) dX11_readLaw_76 (by decide) ?_
    refine g_ic_ge (t := 96) dX11_readLaw_78 (by decide) (fun c13 => ?_) (fun c13 => ?_)
    · rw [if_pos c13] at h
      refine Go_le ?_ (hex K (Option.some.inj h).symm)
      exact And.intro rfl (And.intro rfl (And.intro rfl (trivial)))
    · rw [if_neg c13] at h
      refine g_aload_n dX11_readLaw_81 rfl ?_
      obtain ⟨x14, ex14, h⟩ := bs h
      refine q_getA dX11_readLaw_82 fX11_42 ex14 ?_
      refine g_iload_n dX11_readLaw_85 rfl ?_
      refine g_iload_n dX11_readLaw_86 rfl ?_
      refine g_iadd dX11_readLaw_87 ?_
      refine g_iconst (v := (nI 0)) dX11_readLaw_88 (by decide) ?_
      obtain ⟨K15, eK15, h⟩ := bs h
      refine q_iast dX11_readLaw_89 eK15 ?_
      refine q_iinc (w := nI 1) (ls' := [some (.ref v0), some (.int v1), some (.int v2), some (.int (s3 + nI 1))]) dX11_readLaw_90 (by decide) rfl (by decide) rfl ?_
      refine g_goto (t := 75) dX11_readLaw_93 (by decide) ?_
      refine Go_le ?_ (hin ((s3 + nI 1), K15) (Option.some.inj h).symm)
      exact And.intro rfl (And.intro rfl (And.intro rfl (And.intro rfl (trivial))))
noncomputable def F_X11_readLaw_j185 (O : mO) (d : Nat) (v0 : Nat) (v2 : Int32) (K : mH) : Option (mH) :=
  (gtA K v0 11 22).bind fun x35 =>
  (gtI K v0 11 23).bind fun x36 =>
  (wrI K x35 (v2 + (nI 6)) x36).bind fun K37 =>
  some K37
theorem e_X11_readLaw_j185 {O : mO} {d : Nat} {v0 : Nat} {v2 : Int32} {K : mH} {P : Option Value → mH → Prop} {x : mH} (hret : ∀ K' : mH, K' = x → P none K') (h : F_X11_readLaw_j185 O d v0 v2 K = some x) : Go O (d + 1) MX11_readLaw 185 [some (.ref v0), none, some (.int v2), none] [] K P := by
  unfold F_X11_readLaw_j185 at h
  refine g_aload_n dX11_readLaw_185 rfl ?_
  obtain ⟨x35, ex35, h⟩ := bs h
  refine q_getA dX11_readLaw_186 fX11_42 ex35 ?_
  refine g_iload_n dX11_readLaw_189 rfl ?_
  refine g_bipush (v := (nI 6)) dX11_readLaw_190 (by decide) ?_
  refine g_iadd dX11_readLaw_192 ?_
  refine g_aload_n dX11_readLaw_193 rfl ?_
  obtain ⟨x36, ex36, h⟩ := bs h
  refine q_getI dX11_readLaw_194 fX11_281 ex36 ?_
  obtain ⟨K37, eK37, h⟩ := bs h
  refine q_iast dX11_readLaw_197 eK37 ?_
  exact g_return dX11_readLaw_198 rfl (hret _ (Option.some.inj h))
noncomputable def F_X11_readLaw_j135 (O : mO) (d : Nat) (v0 : Nat) (v2 : Int32) (K : mH) : Option (mH) :=
  (gtA K v0 11 22).bind fun x26 =>
  (gtI K v0 11 23).bind fun x27 =>
  (wrI K x26 (v2 + (nI 4)) x27).bind fun K28 =>
  (gtA K28 v0 11 22).bind fun x29 =>
  (gtI K28 v0 11 23).bind fun x30 =>
  (wrI K28 x29 (v2 + (nI 5)) x30).bind fun K31 =>
  (gtI K31 v0 11 19).bind fun x32 =>
  if x32 = 0 then
    (toI (vc O d 11 MX11_isWord v0 [.long (294)] K31)).bind fun p38 =>
    if p38.1 = 0 then
      F_X11_readLaw_j185 O d v0 v2 p38.2
    else
      (toV (vc O d 11 MX11_next v0 [] p38.2)).bind fun K41 =>
      (toV (vc O d 11 MX11_readExpression v0 [.int (nI 1)] K41)).bind fun K42 =>
      F_X11_readLaw_j185 O d v0 v2 K42
  else
    F_X11_readLaw_j185 O d v0 v2 K31
theorem e_X11_readLaw_j135 {O : mO} {d : Nat} {v0 : Nat} {v2 : Int32} {K : mH} {P : Option Value → mH → Prop} {x : mH} (hret : ∀ K' : mH, K' = x → P none K') (h : F_X11_readLaw_j135 O d v0 v2 K = some x) : Go O (d + 1) MX11_readLaw 135 [some (.ref v0), none, some (.int v2), none] [] K P := by
  unfold F_X11_readLaw_j135 at h
  refine g_aload_n dX11_readLaw_135 rfl ?_
  obtain ⟨x26, ex26, h⟩ := bs h
  refine q_getA dX11_readLaw_136 fX11_42 ex26 ?_
  refine g_iload_n dX11_readLaw_139 rfl ?_
  refine g_iconst (v := (nI 4)) dX11_readLaw_140 (by decide) ?_
  refine g_iadd dX11_readLaw_141 ?_
  refine g_aload_n dX11_readLaw_142 rfl ?_
  obtain ⟨x27, ex27, h⟩ := bs h
  refine q_getI dX11_readLaw_143 fX11_281 ex27 ?_
  obtain ⟨K28, eK28, h⟩ := bs h
  refine q_iast dX11_readLaw_146 eK28 ?_
  refine g_aload_n dX11_readLaw_147 rfl ?_
  obtain ⟨x29, ex29, h⟩ := bs h
  refine q_getA dX11_readLaw_148 fX11_42 ex29 ?_
  refine g_iload_n dX11_readLaw_151 rfl ?_
  refine g_iconst (v := (nI 5)) dX11_readLaw_152 (by decide) ?_
  refine g_iadd dX11_readLaw_153 ?_
  refine g_aload_n dX11_readLaw_154 rfl ?_
  obtain ⟨x30, ex30, h⟩ := bs h
  refine q_getI dX11_readLaw_155 fX11_281 ex30 ?_
  obtain ⟨K31, eK31, h⟩ := bs h
  refine q_iast dX11_readLaw_158 eK31 ?_
  refine g_aload_n dX11_readLaw_159 rfl ?_
  obtain ⟨x32, ex32, h⟩ := bs h
  refine q_getI dX11_readLaw_160 fX11_244 ex32 ?_
  refine g_if_ne (t := 185) dX11_readLaw_163 (by decide) (fun c34 => ?_) (fun c34 => ?_)
  · rw [if_neg c34] at h
    refine Go_le ?_ (e_X11_readLaw_j185 hret h)
    exact And.intro rfl (And.intro rfl (trivial))
  · rw [if_pos c34] at h
    refine g_aload_n dX11_readLaw_166 rfl ?_
    refine g_ldc2 (v := 294) dX11_readLaw_167 lX11_381 ?_
    obtain ⟨p38, ep38, h⟩ := bs h
    refine q_virt (Z := MX11_isWord) (c := (RX11, TX11, 56)) (toI_s ep38) dX11_readLaw_170 mX11_302.1 mX11_302.2 (Nat.le_of_ble_eq_true rfl) rfl rfl (Nat.le_of_ble_eq_true rfl) (Nat.le_of_ble_eq_true rfl) rfl rfl ?_
    show Go O (d + 1) MX11_readLaw 173 [some (.ref v0), none, some (.int v2), none] [.int p38.1] p38.2 P
    refine g_if_eq (t := 185) dX11_readLaw_173 (by decide) (fun c40 => ?_) (fun c40 => ?_)
    · rw [if_pos c40] at h
      refine Go_le ?_ (e_X11_readLaw_j185 hret h)
      exact And.intro rfl (And.intro rfl (trivial))
    · rw [if_neg c40] at h
      refine g_aload_n dX11_readLaw_176 rfl ?_
      obtain ⟨K41, eK41, h⟩ := bs h
      refine q_virt (Z := MX11_next) (c := (RX11, TX11, 56)) (toV_s eK41) dX11_readLaw_177 mX11_248.1 mX11_248.2 (Nat.le_of_ble_eq_true rfl) rfl rfl (Nat.le_of_ble_eq_true rfl) (Nat.le_of_ble_eq_true rfl) rfl rfl ?_
      show Go O (d + 1) MX11_readLaw 180 [some (.ref v0), none, some (.int v2), none] [] K41 P
      refine g_aload_n dX11_readLaw_180 rfl ?_
      refine g_iconst (v := (nI 1)) dX11_readLaw_181 (by decide) ?_
      obtain ⟨K42, eK42, h⟩ := bs h
      refine q_virt (Z := MX11_readExpression) (c := (RX11, TX11, 56)) (toV_s eK42) dX11_readLaw_182 mX11_378.1 mX11_378.2 (Nat.le_of_ble_eq_true rfl) rfl rfl (Nat.le_of_ble_eq_true rfl) (Nat.le_of_ble_eq_true rfl) rfl rfl ?_
      show Go O (d + 1) MX11_readLaw 185 [some (.ref v0), none, some (.int v2), none] [] K42 P
      refine Go_le ?_ (e_X11_readLaw_j185 hret h)
      exact And.intro rfl (And.intro rfl (trivial))
noncomputable def F_X11_readLaw_j54 (O : mO) (d : Nat) (v0 : Nat) (v1 : Int32) (w0 : Int32) (w1 : Nat) (K : mH) : Option (mH) :=
  (toV (vc O d 11 MX11_must w1 [.int w0] K)).bind fun K9 =>
  (gtI K9 v0 11 19).bind fun x10 =>
  if x10 = 0 then
    (gtI K9 v0 11 21).bind fun x12 =>
    (lupF (fun (q : Int32 × mH) => F_X11_readLaw_l75 O d v0 v1 ((nI 8) * x12) q.1 q.2) FU ((nI 0), K9)).bind fun r16 =>
    (gtA r16 v0 11 22).bind fun x17 =>
    (wrI r16 x17 ((nI 8) * x12) v1).bind fun K18 =>
    (gtI K18 v0 11 21).bind fun x19 =>
    (ptI K18 v0 11 21 (x19 + (nI 1))).bind fun K20 =>
    (gtA K20 v0 11 22).bind fun x21 =>
    (gtI K20 v0 11 23).bind fun x22 =>
    (wrI K20 x21 (((nI 8) * x12) + (nI 3)) x22).bind fun K23 =>
    if v1 = (nI 3) then
      F_X11_readLaw_j135 O d v0 ((nI 8) * x12) K23
    else
      (toV (vc O d 11 MX11_readExpression v0 [.int (nI 0)] K23)).bind fun K43 =>
      F_X11_readLaw_j135 O d v0 ((nI 8) * x12) K43
  else
    some K9
theorem e_X11_readLaw_j54 {O : mO} {d : Nat} {v0 : Nat} {v1 : Int32} {w0 : Int32} {w1 : Nat} {K : mH} {P : Option Value → mH → Prop} {x : mH} (hret : ∀ K' : mH, K' = x → P none K') (h : F_X11_readLaw_j54 O d v0 v1 w0 w1 K = some x) : Go O (d + 1) MX11_readLaw 54 [some (.ref v0), some (.int v1), none, none] [.int w0, .ref w1] K P := by
  unfold F_X11_readLaw_j54 at h
  obtain ⟨K9, eK9, h⟩ := bs h
  refine q_virt (Z := MX11_must) (c := (RX11, TX11, 56)) (toV_s eK9) dX11_readLaw_54 mX11_277.1 mX11_277.2 (Nat.le_of_ble_eq_true rfl) rfl rfl (Nat.le_of_ble_eq_true rfl) (Nat.le_of_ble_eq_true rfl) rfl rfl ?_
  show Go O (d + 1) MX11_readLaw 57 [some (.ref v0), some (.int v1), none, none] [] K9 P
  refine g_aload_n dX11_readLaw_57 rfl ?_
  obtain ⟨x10, ex10, h⟩ := bs h
  refine q_getI dX11_readLaw_58 fX11_244 ex10 ?_
  refine g_if_eq (t := 65) dX11_readLaw_61 (by decide) (fun c11 => ?_) (fun c11 => ?_)
  · rw [if_pos c11] at h
    refine g_bipush (v := (nI 8)) dX11_readLaw_65 (by decide) ?_
    refine g_aload_n dX11_readLaw_67 rfl ?_
    obtain ⟨x12, ex12, h⟩ := bs h
    refine q_getI dX11_readLaw_68 fX11_375 ex12 ?_
    refine g_imul dX11_readLaw_71 ?_
    refine g_istore_n (ls' := [some (.ref v0), some (.int v1), some (.int ((nI 8) * x12)), none]) dX11_readLaw_72 (by decide) rfl ?_
    refine g_iconst (v := (nI 0)) dX11_readLaw_73 (by decide) ?_
    refine g_istore_n (ls' := [some (.ref v0), some (.int v1), some (.int ((nI 8) * x12)), some (.int (nI 0))]) dX11_readLaw_74 (by decide) rfl ?_
    obtain ⟨r16, er16, h⟩ := bs h
    have hx : Go O (d + 1) MX11_readLaw 96 [some (.ref v0), some (.int v1), some (.int ((nI 8) * x12)), none] [] r16 P := by
      refine g_aload_n dX11_readLaw_96 rfl ?_
      obtain ⟨x17, ex17, h⟩ := bs h
      refine q_getA dX11_readLaw_97 fX11_42 ex17 ?_
      refine g_iload_n dX11_readLaw_100 rfl ?_
      refine g_iload_n dX11_readLaw_101 rfl ?_
      obtain ⟨K18, eK18, h⟩ := bs h
      refine q_iast dX11_readLaw_102 eK18 ?_
      refine g_aload_n dX11_readLaw_103 rfl ?_
      refine g_dup dX11_readLaw_104 (by first | rfl | exact vrf_cat _) ?_
      obtain ⟨x19, ex19, h⟩ := bs h
      refine q_getI dX11_readLaw_105 fX11_375 ex19 ?_
      refine g_iconst (v := (nI 1)) dX11_readLaw_108 (by decide) ?_
      refine g_iadd dX11_readLaw_109 ?_
      obtain ⟨K20, eK20, h⟩ := bs h
      refine q_put (c := (RX11, TX11, 56)) dX11_readLaw_110 fX11_375 rfl rfl rfl (fun h => absurd h (by decide)) eK20 ?_
      refine g_aload_n dX11_readLaw_113 rfl ?_
      obtain ⟨x21, ex21, h⟩ := bs h
      refine q_getA dX11_readLaw_114 fX11_42 ex21 ?_
      refine g_iload_n dX11_readLaw_117 rfl ?_
      refine g_iconst (v := (nI 3)) dX11_readLaw_118 (by decide) ?_
      refine g_iadd dX11_readLaw_119 ?_
      refine g_aload_n dX11_readLaw_120 rfl ?_
      obtain ⟨x22, ex22, h⟩ := bs h
      refine q_getI dX11_readLaw_121 fX11_281 ex22 ?_
      obtain ⟨K23, eK23, h⟩ := bs h
      refine q_iast dX11_readLaw_124 eK23 ?_
      refine g_iload_n dX11_readLaw_125 rfl ?_
      refine g_iconst (v := (nI 3)) dX11_readLaw_126 (by decide) ?_
      refine g_ic_eq (t := 135) dX11_readLaw_127 (by decide) (fun c25 => ?_) (fun c25 => ?_)
      · rw [if_pos c25] at h
        refine Go_le ?_ (e_X11_readLaw_j135 hret h)
        exact And.intro rfl (And.intro rfl (trivial))
      · rw [if_neg c25] at h
        refine g_aload_n dX11_readLaw_130 rfl ?_
        refine g_iconst (v := (nI 0)) dX11_readLaw_131 (by decide) ?_
        obtain ⟨K43, eK43, h⟩ := bs h
        refine q_virt (Z := MX11_readExpression) (c := (RX11, TX11, 56)) (toV_s eK43) dX11_readLaw_132 mX11_378.1 mX11_378.2 (Nat.le_of_ble_eq_true rfl) rfl rfl (Nat.le_of_ble_eq_true rfl) (Nat.le_of_ble_eq_true rfl) rfl rfl ?_
        show Go O (d + 1) MX11_readLaw 135 [some (.ref v0), some (.int v1), some (.int ((nI 8) * x12)), none] [] K43 P
        refine Go_le ?_ (e_X11_readLaw_j135 hret h)
        exact And.intro rfl (And.intro rfl (trivial))
    refine Go_le ?_ (e_X11_readLaw_l75 (fun q e => by cases e; exact hx) FU ((nI 0), K9) er16)
    exact And.intro rfl (And.intro rfl (And.intro rfl (And.intro rfl (trivial))))
  · rw [if_neg c11] at h
    exact g_return dX11_readLaw_64 rfl (hret _ (Option.some.inj h))
noncomputable def F_X11_readLaw_j53 (O : mO) (d : Nat) (v0 : Nat) (v1 : Int32) (w0 : Nat) (K : mH) : Option (mH) :=
  F_X11_readLaw_j54 O d v0 v1 (nI 0) w0 K
theorem e_X11_readLaw_j53 {O : mO} {d : Nat} {v0 : Nat} {v1 : Int32} {w0 : Nat} {K : mH} {P : Option Value → mH → Prop} {x : mH} (hret : ∀ K' : mH, K' = x → P none K') (h : F_X11_readLaw_j53 O d v0 v1 w0 K = some x) : Go O (d + 1) MX11_readLaw 53 [some (.ref v0), some (.int v1), none, none] [.ref w0] K P := by
  unfold F_X11_readLaw_j53 at h
  refine g_iconst (v := (nI 0)) dX11_readLaw_53 (by decide) ?_
  refine Go_le ?_ (e_X11_readLaw_j54 hret h)
  exact And.intro rfl (And.intro rfl (trivial))
noncomputable def F_X11_readLaw (O : mO) (d : Nat) (a0 : Nat) (K : mH) : Option (mH) :=
  (lupF (fun (q : Int32 × Int32 × mH) => F_X11_readLaw_l4 O d a0 q.1 q.2.1 q.2.2) FU ((-1), (nI 0), K)).bind fun r6 =>
  if r6.1 = (-1) then
    F_X11_readLaw_j53 O d a0 r6.1 a0 r6.2
  else
    (gtI r6.2 a0 11 21).bind fun x44 =>
    (toV (vc O d 11 MX11_must a0 [.int (if (nI 12) ≤ x44 then (nI 0) else (nI 1))] r6.2)).bind fun K46 =>
    (gtI K46 a0 11 19).bind fun x47 =>
    if x47 = 0 then
      (gtI K46 a0 11 21).bind fun x49 =>
      (lupF (fun (q : Int32 × mH) => F_X11_readLaw_l75 O d a0 r6.1 ((nI 8) * x49) q.1 q.2) FU ((nI 0), K46)).bind fun r50 =>
      (gtA r50 a0 11 22).bind fun x51 =>
      (wrI r50 x51 ((nI 8) * x49) r6.1).bind fun K52 =>
      (gtI K52 a0 11 21).bind fun x53 =>
      (ptI K52 a0 11 21 (x53 + (nI 1))).bind fun K54 =>
      (gtA K54 a0 11 22).bind fun x55 =>
      (gtI K54 a0 11 23).bind fun x56 =>
      (wrI K54 x55 (((nI 8) * x49) + (nI 3)) x56).bind fun K57 =>
      if r6.1 = (nI 3) then
        F_X11_readLaw_j135 O d a0 ((nI 8) * x49) K57
      else
        (toV (vc O d 11 MX11_readExpression a0 [.int (nI 0)] K57)).bind fun K60 =>
        F_X11_readLaw_j135 O d a0 ((nI 8) * x49) K60
    else
      some K46
theorem e_X11_readLaw {O : mO} {d : Nat} {a0 : Nat} {K : mH} {x : mH} (h : F_X11_readLaw O d a0 K = some x) : ev O (d + 1) MX11_readLaw [.ref a0] K = some (none, x) := by
  refine Rn_evx ?_
  show Go O (d + 1) MX11_readLaw 0 [some (.ref a0), none, none, none] [] K _
  generalize hP : (fun (r : Option Value) (K' : mH) => (r, K') = (none, x)) = P
  have hret : ∀ K' : mH, K' = x → P none K' := by
    intro K' e
    subst hP e
    rfl
  clear hP
  unfold F_X11_readLaw at h
  refine g_iconst (v := (-1)) dX11_readLaw_0 (by decide) ?_
  refine g_istore_n (ls' := [some (.ref a0), some (.int (-1)), none, none]) dX11_readLaw_1 (by decide) rfl ?_
  refine g_iconst (v := (nI 0)) dX11_readLaw_2 (by decide) ?_
  refine g_istore_n (ls' := [some (.ref a0), some (.int (-1)), some (.int (nI 0)), none]) dX11_readLaw_3 (by decide) rfl ?_
  obtain ⟨r6, er6, h⟩ := bs h
  have hx : Go O (d + 1) MX11_readLaw 34 [some (.ref a0), some (.int r6.1), none, none] [] r6.2 P := by
    refine g_aload_n dX11_readLaw_34 rfl ?_
    refine g_iload_n dX11_readLaw_35 rfl ?_
    refine g_iconst (v := (-1)) dX11_readLaw_36 (by decide) ?_
    refine g_ic_eq (t := 53) dX11_readLaw_37 (by decide) (fun c8 => ?_) (fun c8 => ?_)
    · rw [if_pos c8] at h
      refine Go_le ?_ (e_X11_readLaw_j53 hret h)
      exact And.intro rfl (And.intro rfl (trivial))
    · rw [if_neg c8] at h
      refine g_aload_n dX11_readLaw_40 rfl ?_
      obtain ⟨x44, ex44, h⟩ := bs h
      refine q_getI dX11_readLaw_41 fX11_375 ex44 ?_
      refine g_bipush (v := (nI 12)) dX11_readLaw_44 (by decide) ?_
      have hj : Go O (d + 1) MX11_readLaw 54 [some (.ref a0), some (.int r6.1), none, none] [.int (if (nI 12) ≤ x44 then (nI 0) else (nI 1)), .ref a0] r6.2 P := by
        obtain ⟨K46, eK46, h⟩ := bs h
        refine q_virt (Z := MX11_must) (c := (RX11, TX11, 56)) (toV_s eK46) dX11_readLaw_54 mX11_277.1 mX11_277.2 (Nat.le_of_ble_eq_true rfl) rfl rfl (Nat.le_of_ble_eq_true rfl) (Nat.le_of_ble_eq_true rfl) rfl rfl ?_
        show Go O (d + 1) MX11_readLaw 57 [some (.ref a0), some (.int r6.1), none, none] [] K46 P
        refine g_aload_n dX11_readLaw_57 rfl ?_
        obtain ⟨x47, ex47, h⟩ := bs h
        refine q_getI dX11_readLaw_58 fX11_244 ex47 ?_
        refine g_if_eq (t := 65) dX11_readLaw_61 (by decide) (fun c48 => ?_) (fun c48 => ?_)
        · rw [if_pos c48] at h
          refine g_bipush (v := (nI 8)) dX11_readLaw_65 (by decide) ?_
          refine g_aload_n dX11_readLaw_67 rfl ?_
          obtain ⟨x49, ex49, h⟩ := bs h
          refine q_getI dX11_readLaw_68 fX11_375 ex49 ?_
          refine g_imul dX11_readLaw_71 ?_
          refine g_istore_n (ls' := [some (.ref a0), some (.int r6.1), some (.int ((nI 8) * x49)), none]) dX11_readLaw_72 (by decide) rfl ?_
          refine g_iconst (v := (nI 0)) dX11_readLaw_73 (by decide) ?_
          refine g_istore_n (ls' := [some (.ref a0), some (.int r6.1), some (.int ((nI 8) * x49)), some (.int (nI 0))]) dX11_readLaw_74 (by decide) rfl ?_
          obtain ⟨r50, er50, h⟩ := bs h
          have hx : Go O (d + 1) MX11_readLaw 96 [some (.ref a0), some (.int r6.1), some (.int ((nI 8) * x49)), none] [] r50 P := by
            refine g_aload_n dX11_readLaw_96 rfl ?_
            obtain ⟨x51, ex51, h⟩ := bs h
            refine q_getA dX11_readLaw_97 fX11_42 ex51 ?_
            refine g_iload_n dX11_readLaw_100 rfl ?_
            refine g_iload_n dX11_readLaw_101 rfl ?_
            obtain ⟨K52, eK52, h⟩ := bs h
            refine q_iast dX11_readLaw_102 eK52 ?_
            refine g_aload_n dX11_readLaw_103 rfl ?_
            refine g_dup dX11_readLaw_104 (by first | rfl | exact vrf_cat _) ?_
            obtain ⟨x53, ex53, h⟩ := bs h
            refine q_getI dX11_readLaw_105 fX11_375 ex53 ?_
            refine g_iconst (v := (nI 1)) dX11_readLaw_108 (by decide) ?_
            refine g_iadd dX11_readLaw_109 ?_
            obtain ⟨K54, eK54, h⟩ := bs h
            refine q_put (c := (RX11, TX11, 56)) dX11_readLaw_110 fX11_375 rfl rfl rfl (fun h => absurd h (by decide)) eK54 ?_
            refine g_aload_n dX11_readLaw_113 rfl ?_
            obtain ⟨x55, ex55, h⟩ := bs h
            refine q_getA dX11_readLaw_114 fX11_42 ex55 ?_
            refine g_iload_n dX11_readLaw_117 rfl ?_
            refine g_iconst (v := (nI 3)) dX11_readLaw_118 (by decide) ?_
            refine g_iadd dX11_readLaw_119 ?_
            refine g_aload_n dX11_readLaw_120 rfl ?_
            obtain ⟨x56, ex56, h⟩ := bs h
            refine q_getI dX11_readLaw_121 fX11_281 ex56 ?_
            obtain ⟨K57, eK57, h⟩ := bs h
            refine q_iast dX11_readLaw_124 eK57 ?_
            refine g_iload_n dX11_readLaw_125 rfl ?_
            refine g_iconst (v := (nI 3)) dX11_readLaw_126 (by decide) ?_
            refine g_ic_eq (t := 135) dX11_readLaw_127 (by decide) (fun c59 => ?_) (fun c59 => ?_)
            · rw [if_pos c59] at h
              refine Go_le ?_ (e_X11_readLaw_j135 hret h)
              exact And.intro rfl (And.intro rfl (trivial))
            · rw [if_neg c59] at h
              refine g_aload_n dX11_readLaw_130 rfl ?_
              refine g_iconst (v := (nI 0)) dX11_readLaw_131 (by decide) ?_
              obtain ⟨K60, eK60, h⟩ := bs h
              refine q_virt (Z := MX11_readExpression) (c := (RX11, TX11, 56)) (toV_s eK60) dX11_readLaw_132 mX11_378.1 mX11_378.2 (Nat.le_of_ble_eq_true rfl) rfl rfl (Nat.le_of_ble_eq_true rfl) (Nat.le_of_ble_eq_true rfl) rfl rfl ?_
              show Go O (d + 1) MX11_readLaw 135 [some (.ref a0), some (.int r6.1), some (.int ((nI 8) * x49)), none] [] K60 P
              refine Go_le ?_ (e_X11_readLaw_j135 hret h)
              exact And.intro rfl (And.intro rfl (trivial))
          refine Go_le ?_ (e_X11_readLaw_l75 (fun q e => by cases e; exact hx) FU ((nI 0), K46) er50)
          exact And.intro rfl (And.intro rfl (And.intro rfl (And.intro rfl (trivial))))
        · rw [if_neg c48] at h
          exact g_return dX11_readLaw_64 rfl (hret _ (Option.some.inj h))
      refine g_ic_ge (t := 53) dX11_readLaw_46 (by decide) (fun c45 => ?_) (fun c45 => ?_)
      · skip
        refine g_iconst (v := (nI 0)) dX11_readLaw_53 (by decide) ?_
        have hk : Go O (d + 1) MX11_readLaw 54 [some (.ref a0), some (.int r6.1), none, none] [.int (nI 0), .ref a0] r6.2 P := by simpa only [if_pos c45] using hj
        refine Go_le ?_ hk
        exact And.intro rfl (And.intro rfl (trivial))
      · skip
        refine g_iconst (v := (nI 1)) dX11_readLaw_49 (by decide) ?_
        refine g_goto (t := 54) dX11_readLaw_50 (by decide) ?_
        have hk : Go O (d + 1) MX11_readLaw 54 [some (.ref a0), some (.int r6.1), none, none] [.int (nI 1), .ref a0] r6.2 P := by simpa only [if_neg c45] using hj
        refine Go_le ?_ hk
        exact And.intro rfl (And.intro rfl (trivial))
  refine Go_le ?_ (e_X11_readLaw_l4 (fun q e => by cases e; exact hx) FU ((-1), (nI 0), K) er6)
  exact And.intro rfl (And.intro rfl (And.intro rfl (trivial)))
noncomputable def F_X11_law_l37 (O : mO) (d : Nat) (v0 : Nat)  (K : mH) : Option ((mH) ⊕ (mH)) :=
  (gtI K v0 11 19).bind fun x7 =>
  if x7 = 0 then
    (toI (vc O d 11 MX11_isSign v0 [.int (nI 59)] K)).bind fun p9 =>
    if p9.1 = 0 then
      some (.inr p9.2)
    else
      (toV (vc O d 11 MX11_next v0 [] p9.2)).bind fun K11 =>
      (toV (vc O d 11 MX11_readLaw v0 [] K11)).bind fun K12 =>
      some (.inl K12)
  else
    some (.inr K)
theorem e_X11_law_l37 {O : mO} {d : Nat} {v0 : Nat} {P : Option Value → mH → Prop} {x : mH} (hex : ∀ q : mH, x = q → Go O (d + 1) MX11_law 64 [some (.ref v0), none, none] [] q P) : ∀ (f : Nat) (q : mH), lupF (fun (q : mH) => F_X11_law_l37 O d v0 q) f q = some x → Go O (d + 1) MX11_law 37 [some (.ref v0), none, none] [] q P := by
  intro f
  induction f with
  | zero =>
    intro q h
    cases h
  | succ f ih =>
    intro K h
    obtain ⟨y, h, hy1, hy2⟩ := lupF_s h
    have hin : ∀ q : mH, y = .inl q → Go O (d + 1) MX11_law 37 [some (.ref v0), none, none] [] q P := fun q e => ih q (hy1 q e)
    replace hex : ∀ q : mH, y = .inr q → Go O (d + 1) MX11_law 64 [some (.ref v0), none, none] [] q P := fun q e => hex q (hy2 q e).symm
    clear ih hy1 hy2
    try dsimp only at h
    unfold F_X11_law_l37 at h
    refine g_aload_n dX11_law_37 rfl ?_
    obtain ⟨x7, ex7, h⟩ := bs h
    refine q_getI dX11_law_38 fX11_244 ex7 ?_
    refine g_if_ne (t := 64) dX11_law_41 (by decide) (fun c8 => ?_) (fun c8 => ?_)
    · rw [if_neg c8] at h
      refine Go_le ?_ (hex K (Option.some.inj h).symm)
      exact And.intro rfl (trivial)
    · rw [if_pos c8] at h
      refine g_aload_n dX11_law_44 rfl ?_
      refine g_bipush (v := (nI 59)) dX11_law_45 (by decide) ?_
      obtain ⟨p9, ep9, h⟩ := bs h
      refine q_virt (Z := MX11_isSign) (c := (RX11, TX11, 56)) (toI_s ep9) dX11_law_47 mX11_315.1 mX11_315.2 (Nat.le_of_ble_eq_true rfl) rfl rfl (Nat.le_of_ble_eq_true rfl) (Nat.le_of_ble_eq_true rfl) rfl rfl ?_
      show Go O (d + 1) MX11_law 50 [some (.ref v0), none, none] [.int p9.1] p9.2 P
      refine g_if_eq (t := 64) dX11_law_50 (by decide) (fun c10 => ?_) (fun c10 => ?_)
      · rw [if_pos c10] at h
        refine Go_le ?_ (hex p9.2 (Option.some.inj h).symm)
        exact And.intro rfl (trivial)
      · rw [if_neg c10] at h
        refine g_aload_n dX11_law_53 rfl ?_
        obtain ⟨K11, eK11, h⟩ := bs h
        refine q_virt (Z := MX11_next) (c := (RX11, TX11, 56)) (toV_s eK11) dX11_law_54 mX11_248.1 mX11_248.2 (Nat.le_of_ble_eq_true rfl) rfl rfl (Nat.le_of_ble_eq_true rfl) (Nat.le_of_ble_eq_true rfl) rfl rfl ?_
        show Go O (d + 1) MX11_law 57 [some (.ref v0), none, none] [] K11 P
        refine g_aload_n dX11_law_57 rfl ?_
        obtain ⟨K12, eK12, h⟩ := bs h
        refine q_virt (Z := MX11_readLaw) (c := (RX11, TX11, 56)) (toV_s eK12) dX11_law_58 mX11_386.1 mX11_386.2 (Nat.le_of_ble_eq_true rfl) rfl rfl (Nat.le_of_ble_eq_true rfl) (Nat.le_of_ble_eq_true rfl) rfl rfl ?_
        show Go O (d + 1) MX11_law 61 [some (.ref v0), none, none] [] K12 P
        refine g_goto (t := 37) dX11_law_61 (by decide) ?_
        refine Go_le ?_ (hin K12 (Option.some.inj h).symm)
        exact And.intro rfl (trivial)
noncomputable def F_X11_law_l110 (O : mO) (d : Nat) (v0 : Nat) (v1 : Int32) (s2 : Int32) (K : mH) : Option ((Int32 × mH) ⊕ (mH)) :=
  (gtI K v0 11 21).bind fun x22 =>
  if ((nI 8) * x22) ≤ s2 then
    some (.inr K)
  else
    (gtA K v0 11 3).bind fun x24 =>
    (gtA K v0 11 22).bind fun x25 =>
    (rdI O K x25 s2).bind fun x26 =>
    (wrI K x24 ((v1 + (nI 2)) + s2) x26).bind fun K27 =>
    some (.inl ((s2 + nI 1), K27))
theorem e_X11_law_l110 {O : mO} {d : Nat} {v0 : Nat} {v1 : Int32} {P : Option Value → mH → Prop} {x : mH} (hex : ∀ q : mH, x = q → Go O (d + 1) MX11_law 143 [some (.ref v0), some (.int v1), none] [] q P) : ∀ (f : Nat) (q : Int32 × mH), lupF (fun (q : Int32 × mH) => F_X11_law_l110 O d v0 v1 q.1 q.2) f q = some x → Go O (d + 1) MX11_law 110 [some (.ref v0), some (.int v1), some (.int q.1)] [] q.2 P := by
  intro f
  induction f with
  | zero =>
    intro q h
    cases h
  | succ f ih =>
    intro q h
    obtain ⟨y, h, hy1, hy2⟩ := lupF_s h
    have hin : ∀ q : Int32 × mH, y = .inl q → Go O (d + 1) MX11_law 110 [some (.ref v0), some (.int v1), some (.int q.1)] [] q.2 P := fun q e => ih q (hy1 q e)
    replace hex : ∀ q : mH, y = .inr q → Go O (d + 1) MX11_law 143 [some (.ref v0), some (.int v1), none] [] q P := fun q e => hex q (hy2 q e).symm
    clear ih hy1 hy2
    obtain ⟨s2, K⟩ := q
    dsimp only at h ⊢
    unfold F_X11_law_l110 at h
    refine g_iload_n dX11_law_110 rfl ?_
    refine g_bipush (v := (nI 8)) dX11_law_111 (by decide) ?_
    refine g_aload_n dX11_law_113 rfl ?_
    obtain ⟨x22, ex22, h⟩ := bs h
    refine q_getI dX11_law_114 fX11_375 ex22 ?_
    refine g_imul dX11_law_117 ?_
    refine g_ic_ge (t := 143) dX11_law_118 (by decide) (fun c23 => ?_) (fun c23 => ?_)
    · rw [if_pos c23] at h
      refine Go_le ?_ (hex K (Option.some.inj h).symm)
      exact And.intro rfl (And.intro rfl (trivial))
    · rw [if_neg c23] at h
      refine g_aload_n dX11_law_121 rfl ?_
      obtain ⟨x24, ex24, h⟩ := bs h
      refine q_getA dX11_law_122 fX11_13 ex24 ?_
      refine g_iload_n dX11_law_125 rfl ?_
      refine g_iconst (v := (nI 2)) dX11_law_126 (by decide) ?_
      refine g_iadd dX11_law_127 ?_
      refine g_iload_n dX11_law_128 rfl ?_
      refine g_iadd dX11_law_129 ?_
      refine g_aload_n dX11_law_130 rfl ?_
      obtain ⟨x25, ex25, h⟩ := bs h
      refine q_getA dX11_law_131 fX11_42 ex25 ?_
      refine g_iload_n dX11_law_134 rfl ?_
      obtain ⟨x26, ex26, h⟩ := bs h
      refine q_iald dX11_law_135 ex26 ?_
      obtain ⟨K27, eK27, h⟩ := bs h
      refine q_iast dX11_law_136 eK27 ?_
      refine q_iinc (w := nI 1) (ls' := [some (.ref v0), some (.int v1), some (.int (s2 + nI 1))]) dX11_law_137 (by decide) rfl (by decide) rfl ?_
      refine g_goto (t := 110) dX11_law_140 (by decide) ?_
      refine Go_le ?_ (hin ((s2 + nI 1), K27) (Option.some.inj h).symm)
      exact And.intro rfl (And.intro rfl (And.intro rfl (trivial)))
noncomputable def F_X11_law_l145 (O : mO) (d : Nat) (v0 : Nat) (v1 : Int32) (s2 : Int32) (K : mH) : Option ((Int32 × mH) ⊕ (mH)) :=
  (gtI K v0 11 23).bind fun x29 =>
  if x29 ≤ s2 then
    some (.inr K)
  else
    (gtA K v0 11 3).bind fun x31 =>
    (gtA K v0 11 24).bind fun x32 =>
    (rdI O K x32 s2).bind fun x33 =>
    (wrI K x31 ((v1 + (nI 98)) + ((nI 2) * s2)) x33).bind fun K34 =>
    (gtA K34 v0 11 3).bind fun x35 =>
    (gtA K34 v0 11 25).bind fun x36 =>
    (rdI O K34 x36 s2).bind fun x37 =>
    (wrI K34 x35 (((v1 + (nI 98)) + ((nI 2) * s2)) + (nI 1)) x37).bind fun K38 =>
    some (.inl ((s2 + nI 1), K38))
theorem e_X11_law_l145 {O : mO} {d : Nat} {v0 : Nat} {v1 : Int32} {P : Option Value → mH → Prop} {x : mH} (hex : ∀ q : mH, x = q → Go O (d + 1) MX11_law 199 [some (.ref v0), none, none] [] q P) : ∀ (f : Nat) (q : Int32 × mH), lupF (fun (q : Int32 × mH) => F_X11_law_l145 O d v0 v1 q.1 q.2) f q = some x → Go O (d + 1) MX11_law 145 [some (.ref v0), some (.int v1), some (.int q.1)] [] q.2 P := by
  intro f
  induction f with
  | zero =>
    intro q h
    cases h
  | succ f ih =>
    intro q h
    obtain ⟨y, h, hy1, hy2⟩ := lupF_s h
    have hin : ∀ q : Int32 × mH, y = .inl q → Go O (d + 1) MX11_law 145 [some (.ref v0), some (.int v1), some (.int q.1)] [] q.2 P := fun q e => ih q (hy1 q e)
    replace hex : ∀ q : mH, y = .inr q → Go O (d + 1) MX11_law 199 [some (.ref v0), none, none] [] q P := fun q e => hex q (hy2 q e).symm
    clear ih hy1 hy2
    obtain ⟨s2, K⟩ := q
    dsimp only at h ⊢
    unfold F_X11_law_l145 at h
    refine g_iload_n dX11_law_145 rfl ?_
    refine g_aload_n dX11_law_146 rfl ?_
    obtain ⟨x29, ex29, h⟩ := bs h
    refine q_getI dX11_law_147 fX11_281 ex29 ?_
    refine g_ic_ge (t := 199) dX11_law_150 (by decide) (fun c30 => ?_) (fun c30 => ?_)
    · rw [if_pos c30] at h
      refine Go_le ?_ (hex K (Option.some.inj h).symm)
      exact And.intro rfl (trivial)
    · rw [if_neg c30] at h
      refine g_aload_n dX11_law_153 rfl ?_
      obtain ⟨x31, ex31, h⟩ := bs h
      refine q_getA dX11_law_154 fX11_13 ex31 ?_
      refine g_iload_n dX11_law_157 rfl ?_
      refine g_bipush (v := (nI 98)) dX11_law_158 (by decide) ?_
      refine g_iadd dX11_law_160 ?_
      refine g_iconst (v := (nI 2)) dX11_law_161 (by decide) ?_
      refine g_iload_n dX11_law_162 rfl ?_
      refine g_imul dX11_law_163 ?_
      refine g_iadd dX11_law_164 ?_
      refine g_aload_n dX11_law_165 rfl ?_
      obtain ⟨x32, ex32, h⟩ := bs h
      refine q_getA dX11_law_166 fX11_45 ex32 ?_
      refine g_iload_n dX11_law_169 rfl ?_
      obtain ⟨x33, ex33, h⟩ := bs h
      refine q_iald dX11_law_170 ex33 ?_
      obtain ⟨K34, eK34, h⟩ := bs h
      refine q_iast dX11_law_171 eK34 ?_
      refine g_aload_n dX11_law_172 rfl ?_
      obtain ⟨x35, ex35, h⟩ := bs h
      refine q_getA dX11_law_173 fX11_13 ex35 ?_
      refine g_iload_n dX11_law_176 rfl ?_
      refine g_bipush (v := (nI 98)) dX11_law_177 (by decide) ?_
      refine g_iadd dX11_law_179 ?_
      refine g_iconst (v := (nI 2)) dX11_law_180 (by decide) ?_
      refine g_iload_n dX11_law_181 rfl ?_
      refine g_imul dX11_law_182 ?_
      refine g_iadd dX11_law_183 ?_
      refine g_iconst (v := (nI 1)) dX11_law_184 (by decide) ?_
      refine g_iadd dX11_law_185 ?_
      refine g_aload_n dX11_law_186 rfl ?_
      obtain ⟨x36, ex36, h⟩ := bs h
      refine q_getA dX11_law_187 fX11_48 ex36 ?_
      refine g_iload_n dX11_law_190 rfl ?_
      obtain ⟨x37, ex37, h⟩ := bs h
      refine q_iald dX11_law_191 ex37 ?_
      obtain ⟨K38, eK38, h⟩ := bs h
      refine q_iast dX11_law_192 eK38 ?_
      refine q_iinc (w := nI 1) (ls' := [some (.ref v0), some (.int v1), some (.int (s2 + nI 1))]) dX11_law_193 (by decide) rfl (by decide) rfl ?_
      refine g_goto (t := 145) dX11_law_196 (by decide) ?_
      refine Go_le ?_ (hin ((s2 + nI 1), K38) (Option.some.inj h).symm)
      exact And.intro rfl (And.intro rfl (And.intro rfl (trivial)))
noncomputable def F_X11_law_j64 (O : mO) (d : Nat) (v0 : Nat) (K : mH) : Option (Int32 × mH) :=
  (toV (vc O d 11 MX11_endText v0 [] K)).bind fun K14 =>
  (gtI K14 v0 11 19).bind fun x15 =>
  if x15 = 0 then
    (gtA K14 v0 11 3).bind fun x17 =>
    (rdI O K14 x17 (nI 4)).bind fun x18 =>
    (gtA K14 v0 11 3).bind fun x19 =>
    (gtI K14 v0 11 21).bind fun x20 =>
    (wrI K14 x19 (((nI 110) + ((nI 900) * x18)) + (nI 1)) x20).bind fun K21 =>
    (lupF (fun (q : Int32 × mH) => F_X11_law_l110 O d v0 ((nI 110) + ((nI 900) * x18)) q.1 q.2) FU ((nI 0), K21)).bind fun r28 =>
    (lupF (fun (q : Int32 × mH) => F_X11_law_l145 O d v0 ((nI 110) + ((nI 900) * x18)) q.1 q.2) FU ((nI 0), r28)).bind fun r39 =>
    (gtA r39 v0 11 3).bind fun x40 =>
    (rdI O r39 x40 (nI 4)).bind fun x41 =>
    (wrI r39 x40 (nI 4) (x41 + (nI 1))).bind fun K42 =>
    (gtA K42 v0 11 3).bind fun x43 =>
    (rdI O K42 x43 (nI 4)).bind fun x44 =>
    (toI (vc O d 11 MX11_tell v0 [.int (x44 - (nI 1))] K42)).bind fun p45 =>
    some (p45.1, p45.2)
  else
    (toI (vc O d 11 MX11_tell v0 [.int (-6)] K14)).bind fun p46 =>
    some (p46.1, p46.2)
theorem e_X11_law_j64 {O : mO} {d : Nat} {v0 : Nat} {K : mH} {P : Option Value → mH → Prop} {x : Int32 × mH} (hret : ∀ (r : Int32) (K' : mH), (r, K') = x → P (some (.int r)) K') (h : F_X11_law_j64 O d v0 K = some x) : Go O (d + 1) MX11_law 64 [some (.ref v0), none, none] [] K P := by
  unfold F_X11_law_j64 at h
  refine g_aload_n dX11_law_64 rfl ?_
  obtain ⟨K14, eK14, h⟩ := bs h
  refine q_virt (Z := MX11_endText) (c := (RX11, TX11, 56)) (toV_s eK14) dX11_law_65 mX11_389.1 mX11_389.2 (Nat.le_of_ble_eq_true rfl) rfl rfl (Nat.le_of_ble_eq_true rfl) (Nat.le_of_ble_eq_true rfl) rfl rfl ?_
  show Go O (d + 1) MX11_law 68 [some (.ref v0), none, none] [] K14 P
  refine g_aload_n dX11_law_68 rfl ?_
  obtain ⟨x15, ex15, h⟩ := bs h
  refine q_getI dX11_law_69 fX11_244 ex15 ?_
  refine g_if_eq (t := 82) dX11_law_72 (by decide) (fun c16 => ?_) (fun c16 => ?_)
  · rw [if_pos c16] at h
    refine g_bipush (v := (nI 110)) dX11_law_82 (by decide) ?_
    refine g_sipush (v := (nI 900)) dX11_law_84 (by decide) ?_
    refine g_aload_n dX11_law_87 rfl ?_
    obtain ⟨x17, ex17, h⟩ := bs h
    refine q_getA dX11_law_88 fX11_13 ex17 ?_
    refine g_iconst (v := (nI 4)) dX11_law_91 (by decide) ?_
    obtain ⟨x18, ex18, h⟩ := bs h
    refine q_iald dX11_law_92 ex18 ?_
    refine g_imul dX11_law_93 ?_
    refine g_iadd dX11_law_94 ?_
    refine g_istore_n (ls' := [some (.ref v0), some (.int ((nI 110) + ((nI 900) * x18))), none]) dX11_law_95 (by decide) rfl ?_
    refine g_aload_n dX11_law_96 rfl ?_
    obtain ⟨x19, ex19, h⟩ := bs h
    refine q_getA dX11_law_97 fX11_13 ex19 ?_
    refine g_iload_n dX11_law_100 rfl ?_
    refine g_iconst (v := (nI 1)) dX11_law_101 (by decide) ?_
    refine g_iadd dX11_law_102 ?_
    refine g_aload_n dX11_law_103 rfl ?_
    obtain ⟨x20, ex20, h⟩ := bs h
    refine q_getI dX11_law_104 fX11_375 ex20 ?_
    obtain ⟨K21, eK21, h⟩ := bs h
    refine q_iast dX11_law_107 eK21 ?_
    refine g_iconst (v := (nI 0)) dX11_law_108 (by decide) ?_
    refine g_istore_n (ls' := [some (.ref v0), some (.int ((nI 110) + ((nI 900) * x18))), some (.int (nI 0))]) dX11_law_109 (by decide) rfl ?_
    obtain ⟨r28, er28, h⟩ := bs h
    have hx : Go O (d + 1) MX11_law 143 [some (.ref v0), some (.int ((nI 110) + ((nI 900) * x18))), none] [] r28 P := by
      refine g_iconst (v := (nI 0)) dX11_law_143 (by decide) ?_
      refine g_istore_n (ls' := [some (.ref v0), some (.int ((nI 110) + ((nI 900) * x18))), some (.int (nI 0))]) dX11_law_144 (by decide) rfl ?_
      obtain ⟨r39, er39, h⟩ := bs h
      have hx : Go O (d + 1) MX11_law 199 [some (.ref v0), none, none] [] r39 P := by
        refine g_aload_n dX11_law_199 rfl ?_
        obtain ⟨x40, ex40, h⟩ := bs h
        refine q_getA dX11_law_200 fX11_13 ex40 ?_
        refine g_iconst (v := (nI 4)) dX11_law_203 (by decide) ?_
        refine g_dup2 dX11_law_204 rfl rfl ?_
        obtain ⟨x41, ex41, h⟩ := bs h
        refine q_iald dX11_law_205 ex41 ?_
        refine g_iconst (v := (nI 1)) dX11_law_206 (by decide) ?_
        refine g_iadd dX11_law_207 ?_
        obtain ⟨K42, eK42, h⟩ := bs h
        refine q_iast dX11_law_208 eK42 ?_
        refine g_aload_n dX11_law_209 rfl ?_
        refine g_aload_n dX11_law_210 rfl ?_
        obtain ⟨x43, ex43, h⟩ := bs h
        refine q_getA dX11_law_211 fX11_13 ex43 ?_
        refine g_iconst (v := (nI 4)) dX11_law_214 (by decide) ?_
        obtain ⟨x44, ex44, h⟩ := bs h
        refine q_iald dX11_law_215 ex44 ?_
        refine g_iconst (v := (nI 1)) dX11_law_216 (by decide) ?_
        refine g_isub dX11_law_217 ?_
        obtain ⟨p45, ep45, h⟩ := bs h
        refine q_virt (Z := MX11_tell) (c := (RX11, TX11, 56)) (toI_s ep45) dX11_law_218 mX11_158.1 mX11_158.2 (Nat.le_of_ble_eq_true rfl) rfl rfl (Nat.le_of_ble_eq_true rfl) (Nat.le_of_ble_eq_true rfl) rfl rfl ?_
        show Go O (d + 1) MX11_law 221 [some (.ref v0), none, none] [.int p45.1] p45.2 P
        exact g_ireturn dX11_law_221 rfl (by first | rfl | decide) (hret _ _ (Option.some.inj h))
      refine Go_le ?_ (e_X11_law_l145 (fun q e => by cases e; exact hx) FU ((nI 0), r28) er39)
      exact And.intro rfl (And.intro rfl (And.intro rfl (trivial)))
    refine Go_le ?_ (e_X11_law_l110 (fun q e => by cases e; exact hx) FU ((nI 0), K21) er28)
    exact And.intro rfl (And.intro rfl (And.intro rfl (trivial)))
  · rw [if_neg c16] at h
    refine g_aload_n dX11_law_75 rfl ?_
    refine g_bipush (v := (-6)) dX11_law_76 (by decide) ?_
    obtain ⟨p46, ep46, h⟩ := bs h
    refine q_virt (Z := MX11_tell) (c := (RX11, TX11, 56)) (toI_s ep46) dX11_law_78 mX11_158.1 mX11_158.2 (Nat.le_of_ble_eq_true rfl) rfl rfl (Nat.le_of_ble_eq_true rfl) (Nat.le_of_ble_eq_true rfl) rfl rfl ?_
    show Go O (d + 1) MX11_law 81 [some (.ref v0), none, none] [.int p46.1] p46.2 P
    exact g_ireturn dX11_law_81 rfl (by first | rfl | decide) (hret _ _ (Option.some.inj h))
noncomputable def F_X11_law (O : mO) (d : Nat) (a0 : Nat) (K : mH) : Option (Int32 × mH) :=
  (ptI K a0 11 0 (nI 0)).bind fun K1 =>
  (gtA K1 a0 11 3).bind fun x2 =>
  (rdI O K1 x2 (nI 4)).bind fun x3 =>
  if x3 = (nI 6) then
    (ptI K1 a0 11 13 (nI 0)).bind fun K47 =>
    (toI (vc O d 11 MX11_tell a0 [.int (-5)] K47)).bind fun p48 =>
    some (p48.1, p48.2)
  else
    (toV (vc O d 11 MX11_beginText a0 [.int (nI 0)] K1)).bind fun K5 =>
    (toV (vc O d 11 MX11_readLaw a0 [] K5)).bind fun K6 =>
    (lupF (fun (q : mH) => F_X11_law_l37 O d a0 q) FU K6).bind fun r13 =>
    F_X11_law_j64 O d a0 r13
theorem e_X11_law {O : mO} {d : Nat} {a0 : Nat} {K : mH} {r0 : Int32} {K0 : mH} (h : F_X11_law O d a0 K = some (r0, K0)) : ev O (d + 1) MX11_law [.ref a0] K = some (some (.int r0), K0) := by
  refine Rn_evx ?_
  show Go O (d + 1) MX11_law 0 [some (.ref a0), none, none] [] K _
  generalize hP : (fun (r : Option Value) (K' : mH) => (r, K') = (some (.int r0), K0)) = P
  have hret : ∀ (r : Int32) (K' : mH), (r, K') = (r0, K0) → P (some (.int r)) K' := by
    intro r K' e
    cases e
    subst hP
    rfl
  clear hP
  unfold F_X11_law at h
  refine g_aload_n dX11_law_0 rfl ?_
  refine g_iconst (v := (nI 0)) dX11_law_1 (by decide) ?_
  obtain ⟨K1, eK1, h⟩ := bs h
  refine q_put (c := (RX11, TX11, 56)) dX11_law_2 fX11_149 rfl rfl rfl (fun h => absurd h (by decide)) eK1 ?_
  refine g_aload_n dX11_law_5 rfl ?_
  obtain ⟨x2, ex2, h⟩ := bs h
  refine q_getA dX11_law_6 fX11_13 ex2 ?_
  refine g_iconst (v := (nI 4)) dX11_law_9 (by decide) ?_
  obtain ⟨x3, ex3, h⟩ := bs h
  refine q_iald dX11_law_10 ex3 ?_
  refine g_bipush (v := (nI 6)) dX11_law_11 (by decide) ?_
  refine g_ic_ne (t := 28) dX11_law_13 (by decide) (fun c4 => ?_) (fun c4 => ?_)
  · rw [if_neg c4] at h
    refine g_aload_n dX11_law_28 rfl ?_
    refine g_iconst (v := (nI 0)) dX11_law_29 (by decide) ?_
    obtain ⟨K5, eK5, h⟩ := bs h
    refine q_virt (Z := MX11_beginText) (c := (RX11, TX11, 56)) (toV_s eK5) dX11_law_30 mX11_383.1 mX11_383.2 (Nat.le_of_ble_eq_true rfl) rfl rfl (Nat.le_of_ble_eq_true rfl) (Nat.le_of_ble_eq_true rfl) rfl rfl ?_
    show Go O (d + 1) MX11_law 33 [some (.ref a0), none, none] [] K5 P
    refine g_aload_n dX11_law_33 rfl ?_
    obtain ⟨K6, eK6, h⟩ := bs h
    refine q_virt (Z := MX11_readLaw) (c := (RX11, TX11, 56)) (toV_s eK6) dX11_law_34 mX11_386.1 mX11_386.2 (Nat.le_of_ble_eq_true rfl) rfl rfl (Nat.le_of_ble_eq_true rfl) (Nat.le_of_ble_eq_true rfl) rfl rfl ?_
    show Go O (d + 1) MX11_law 37 [some (.ref a0), none, none] [] K6 P
    obtain ⟨r13, er13, h⟩ := bs h
    have hx : Go O (d + 1) MX11_law 64 [some (.ref a0), none, none] [] r13 P := by
      refine Go_le ?_ (e_X11_law_j64 hret h)
      exact And.intro rfl (trivial)
    refine Go_le ?_ (e_X11_law_l37 (fun q e => by cases e; exact hx) FU K6 er13)
    exact And.intro rfl (trivial)
  · rw [if_pos c4] at h
    refine g_aload_n dX11_law_16 rfl ?_
    refine g_iconst (v := (nI 0)) dX11_law_17 (by decide) ?_
    obtain ⟨K47, eK47, h⟩ := bs h
    refine q_put (c := (RX11, TX11, 56)) dX11_law_18 fX11_232 rfl rfl rfl (fun h => absurd h (by decide)) eK47 ?_
    refine g_aload_n dX11_law_21 rfl ?_
    refine g_bipush (v := (-5)) dX11_law_22 (by decide) ?_
    obtain ⟨p48, ep48, h⟩ := bs h
    refine q_virt (Z := MX11_tell) (c := (RX11, TX11, 56)) (toI_s ep48) dX11_law_24 mX11_158.1 mX11_158.2 (Nat.le_of_ble_eq_true rfl) rfl rfl (Nat.le_of_ble_eq_true rfl) (Nat.le_of_ble_eq_true rfl) rfl rfl ?_
    show Go O (d + 1) MX11_law 27 [some (.ref a0), none, none] [.int p48.1] p48.2 P
    exact g_ireturn dX11_law_27 rfl (by first | rfl | decide) (hret _ _ (Option.some.inj h))
noncomputable def F_X11_readSum_j22 (O : mO) (d : Nat) (v0 : Nat) (v1 : Int32) (K : mH) : Option (mH) :=
  (gtA K v0 11 47).bind fun x7 =>
  (gtI K v0 11 23).bind fun x8 =>
  (wrI K x7 (v1 + (nI 1)) x8).bind fun K9 =>
  some K9
theorem e_X11_readSum_j22 {O : mO} {d : Nat} {v0 : Nat} {v1 : Int32} {K : mH} {P : Option Value → mH → Prop} {x : mH} (hret : ∀ K' : mH, K' = x → P none K') (h : F_X11_readSum_j22 O d v0 v1 K = some x) : Go O (d + 1) MX11_readSum 22 [some (.ref v0), some (.int v1)] [] K P := by
  unfold F_X11_readSum_j22 at h
  refine g_aload_n dX11_readSum_22 rfl ?_
  obtain ⟨x7, ex7, h⟩ := bs h
  refine q_getA dX11_readSum_23 fX11_134 ex7 ?_
  refine g_iload_n dX11_readSum_26 rfl ?_
  refine g_iconst (v := (nI 1)) dX11_readSum_27 (by decide) ?_
  refine g_iadd dX11_readSum_28 ?_
  refine g_aload_n dX11_readSum_29 rfl ?_
  obtain ⟨x8, ex8, h⟩ := bs h
  refine q_getI dX11_readSum_30 fX11_281 ex8 ?_
  obtain ⟨K9, eK9, h⟩ := bs h
  refine q_iast dX11_readSum_33 eK9 ?_
  exact g_return dX11_readSum_34 rfl (hret _ (Option.some.inj h))
noncomputable def F_X11_readSum (O : mO) (d : Nat) (a0 : Nat) (a1 : Int32) (K : mH) : Option (mH) :=
  (gtA K a0 11 47).bind fun x1 =>
  (gtI K a0 11 23).bind fun x2 =>
  (wrI K x1 a1 x2).bind fun K3 =>
  (gtI K3 a0 11 19).bind fun x4 =>
  if x4 = 0 then
    (toV (vc O d 11 MX11_readExpression a0 [.int (nI 0)] K3)).bind fun K10 =>
    F_X11_readSum_j22 O d a0 a1 K10
  else
    F_X11_readSum_j22 O d a0 a1 K3
theorem e_X11_readSum {O : mO} {d : Nat} {a0 : Nat} {a1 : Int32} {K : mH} {x : mH} (h : F_X11_readSum O d a0 a1 K = some x) : ev O (d + 1) MX11_readSum [.ref a0, .int a1] K = some (none, x) := by
  refine Rn_evx ?_
  show Go O (d + 1) MX11_readSum 0 [some (.ref a0), some (.int a1)] [] K _
  generalize hP : (fun (r : Option Value) (K' : mH) => (r, K') = (none, x)) = P
  have hret : ∀ K' : mH, K' = x → P none K' := by
    intro K' e
    subst hP e
    rfl
  clear hP
  unfold F_X11_readSum at h
  refine g_aload_n dX11_readSum_0 rfl ?_
  obtain ⟨x1, ex1, h⟩ := bs h
  refine q_getA dX11_readSum_1 fX11_134 ex1 ?_
  refine g_iload_n dX11_readSum_4 rfl ?_
  refine g_aload_n dX11_readSum_5 rfl ?_
  obtain ⟨x2, ex2, h⟩ := bs h
  refine q_getI dX11_readSum_6 fX11_281 ex2 ?_
  obtain ⟨K3, eK3, h⟩ := bs h
  refine q_iast dX11_readSum_9 eK3 ?_
  refine g_aload_n dX11_readSum_10 rfl ?_
  obtain ⟨x4, ex4, h⟩ := bs h
  refine q_getI dX11_readSum_11 fX11_244 ex4 ?_
  refine g_if_ne (t := 22) dX11_readSum_14 (by decide) (fun c6 => ?_) (fun c6 => ?_)
  · rw [if_neg c6] at h
    refine Go_le ?_ (e_X11_readSum_j22 hret h)
    exact And.intro rfl (And.intro rfl (trivial))
  · rw [if_pos c6] at h
    refine g_aload_n dX11_readSum_17 rfl ?_
    refine g_iconst (v := (nI 0)) dX11_readSum_18 (by decide) ?_
    obtain ⟨K10, eK10, h⟩ := bs h
    refine q_virt (Z := MX11_readExpression) (c := (RX11, TX11, 56)) (toV_s eK10) dX11_readSum_19 mX11_378.1 mX11_378.2 (Nat.le_of_ble_eq_true rfl) rfl rfl (Nat.le_of_ble_eq_true rfl) (Nat.le_of_ble_eq_true rfl) rfl rfl ?_
    show Go O (d + 1) MX11_readSum 22 [some (.ref a0), some (.int a1)] [] K10 P
    refine Go_le ?_ (e_X11_readSum_j22 hret h)
    exact And.intro rfl (And.intro rfl (trivial))
noncomputable def F_X11_readOrder_l4 (O : mO) (d : Nat) (v0 : Nat) (s1 : Int32) (s2 : Int32) (K : mH) : Option ((Int32 × Int32 × mH) ⊕ (Int32 × mH)) :=
  if (nI 4) ≤ s2 then
    some (.inr (s1, K))
  else
    (gtA K v0 11 46).bind fun x2 =>
    (rdJ O K x2 s2).bind fun x3 =>
    (toI (vc O d 11 MX11_isWord v0 [.long x3] K)).bind fun p4 =>
    some (.inl ((if p4.1 = 0 then s1 else s2), (s2 + nI 1), p4.2))
theorem e_X11_readOrder_l4 {O : mO} {d : Nat} {v0 : Nat} {P : Option Value → mH → Prop} {x : Int32 × mH} (hex : ∀ q : Int32 × mH, x = q → Go O (d + 1) MX11_readOrder 34 [some (.ref v0), some (.int q.1), none, none] [] q.2 P) : ∀ (f : Nat) (q : Int32 × Int32 × mH), lupF (fun (q : Int32 × Int32 × mH) => F_X11_readOrder_l4 O d v0 q.1 q.2.1 q.2.2) f q = some x → Go O (d + 1) MX11_readOrder 4 [some (.ref v0), some (.int q.1), some (.int q.2.1), none] [] q.2.2 P := by
  intro f
  induction f with
  | zero =>
    intro q h
    cases h
  | succ f ih =>
    intro q h
    obtain ⟨y, h, hy1, hy2⟩ := lupF_s h
    have hin : ∀ q : Int32 × Int32 × mH, y = .inl q → Go O (d + 1) MX11_readOrder 4 [some (.ref v0), some (.int q.1), some (.int q.2.1), none] [] q.2.2 P := fun q e => ih q (hy1 q e)
    replace hex : ∀ q : Int32 × mH, y = .inr q → Go O (d + 1) MX11_readOrder 34 [some (.ref v0), some (.int q.1), none, none] [] q.2 P := fun q e => hex q (hy2 q e).symm
    clear ih hy1 hy2
    obtain ⟨s1, s2, K⟩ := q
    dsimp only at h ⊢
    unfold F_X11_readOrder_l4 at h
    refine g_iload_n dX11_readOrder_4 rfl ?_
    refine g_iconst (v := (nI 4)) dX11_readOrder_5 (by decide) ?_
    refine g_ic_ge (t := 34) dX11_readOrder_6 (by decide) (fun c1 => ?_) (fun c1 => ?_)
    · rw [if_pos c1] at h
      refine Go_le ?_ (hex (s1, K) (Option.some.inj h).symm)
      exact And.intro rfl (And.intro rfl (trivial))
    · rw [if_neg c1] at h
      refine g_aload_n dX11_readOrder_9 rfl ?_
      refine g_aload_n dX11_readOrder_10 rfl ?_
      obtain ⟨x2, ex2, h⟩ := bs h
      refine q_getA dX11_readOrder_11 fX11_131 ex2 ?_
      refine g_iload_n dX11_readOrder_14 rfl ?_
      obtain ⟨x3, ex3, h⟩ := bs h
      refine q_lald dX11_readOrder_15 ex3 ?_
      obtain ⟨p4, ep4, h⟩ := bs h
      refine q_virt (Z := MX11_isWord) (c := (RX11, TX11, 56)) (toI_s ep4) dX11_readOrder_16 mX11_302.1 mX11_302.2 (Nat.le_of_ble_eq_true rfl) rfl rfl (Nat.le_of_ble_eq_true rfl) (Nat.le_of_ble_eq_true rfl) rfl rfl ?_
      show Go O (d + 1) MX11_readOrder 19 [some (.ref v0), some (.int s1), some (.int s2), none] [.int p4.1] p4.2 P
      have hj : Go O (d + 1) MX11_readOrder 27 [some (.ref v0), none, some (.int s2), none] [.int (if p4.1 = 0 then s1 else s2)] p4.2 P := by
        refine g_istore_n (ls' := [some (.ref v0), some (.int (if p4.1 = 0 then s1 else s2)), some (.int s2), none]) dX11_readOrder_27 (by decide) rfl ?_
        refine q_iinc (w := nI 1) (ls' := [some (.ref v0), some (.int (if p4.1 = 0 then s1 else s2)), some (.int (s2 + nI 1)), none]) dX11_readOrder_28 (by decide) rfl (by decide) rfl ?_
        refine g_goto (t := 4) dX11_readOrder_31 (by decide) ?_
        refine Go_le ?_ (hin ((if p4.1 = 0 then s1 else s2), (s2 + nI 1), p4.2) (Option.some.inj h).symm)
        exact And.intro rfl (And.intro rfl (And.intro rfl (trivial)))
      refine g_if_eq (t := 26) dX11_readOrder_19 (by decide) (fun c5 => ?_) (fun c5 => ?_)
      · skip
        refine g_iload_n dX11_readOrder_26 rfl ?_
        have hk : Go O (d + 1) MX11_readOrder 27 [some (.ref v0), none, some (.int s2), none] [.int s1] p4.2 P := by simpa only [if_pos c5] using hj
        refine Go_le ?_ hk
        exact And.intro rfl (And.intro rfl (trivial))
      · skip
        refine g_iload_n dX11_readOrder_22 rfl ?_
        refine g_goto (t := 27) dX11_readOrder_23 (by decide) ?_
        have hk : Go O (d + 1) MX11_readOrder 27 [some (.ref v0), none, some (.int s2), none] [.int s2] p4.2 P := by simpa only [if_neg c5] using hj
        refine Go_le ?_ hk
        exact And.intro rfl (And.intro rfl (trivial))
noncomputable def F_X11_readOrder_l85 (O : mO) (d : Nat) (v0 : Nat) (v1 : Int32) (v2 : Int32) (s3 : Int32) (K : mH) : Option ((Int32 × mH) ⊕ (mH)) :=
  if (nI 8) ≤ s3 then
    some (.inr K)
  else
    (gtA K v0 11 47).bind fun x16 =>
    (wrI K x16 (v2 + s3) (nI 0)).bind fun K17 =>
    some (.inl ((s3 + nI 1), K17))
theorem e_X11_readOrder_l85 {O : mO} {d : Nat} {v0 : Nat} {v1 : Int32} {v2 : Int32} {P : Option Value → mH → Prop} {x : mH} (hex : ∀ q : mH, x = q → Go O (d + 1) MX11_readOrder 106 [some (.ref v0), some (.int v1), some (.int v2), none] [] q P) : ∀ (f : Nat) (q : Int32 × mH), lupF (fun (q : Int32 × mH) => F_X11_readOrder_l85 O d v0 v1 v2 q.1 q.2) f q = some x → Go O (d + 1) MX11_readOrder 85 [some (.ref v0), some (.int v1), some (.int v2), some (.int q.1)] [] q.2 P := by
  intro f
  induction f with
  | zero =>
    intro q h
    cases h
  | succ f ih =>
    intro q h
    obtain ⟨y, h, hy1, hy2⟩ := lupF_s h
    have hin : ∀ q : Int32 × mH, y = .inl q → Go O (d + 1) MX11_readOrder 85 [some (.ref v0), some (.int v1), some (.int v2), some (.int q.1)] [] q.2 P := fun q e => ih q (hy1 q e)
    replace hex : ∀ q : mH, y = .inr q → Go O (d + 1) MX11_readOrder 106 [some (.ref v0), some (.int v1), some (.int v2), none] [] q P := fun q e => hex q (hy2 q e).symm
    clear ih hy1 hy2
    obtain ⟨s3, K⟩ := q
    dsimp only at h ⊢
    unfold F_X11_readOrder_l85 at h
    refine g_iload_n dX11_readOrder_85 rfl ?_
    refine g_bipush (v := (nI 8)) dX11_readOrder_86 (by decide) ?_
    refine g_ic_ge (t := 106) dX11_readOrder_88 (by decide) (fun c15 => ?_) (fun c15 => ?_)
    · rw [if_pos c15] at h
      refine Go_le ?_ (hex K (Option.some.inj h).symm)
      exact And.intro rfl (And.intro rfl (And.intro rfl (trivial)))
    · rw [if_neg c15] at h
      refine g_aload_n dX11_readOrder_91 rfl ?_
      obtain ⟨x16, ex16, h⟩ := bs h
      refine q_getA dX11_readOrder_92 fX11_134 ex16 ?_
      refine g_iload_n dX11_readOrder_95 rfl ?_
      refine g_iload_n dX11_readOrder_96 rfl ?_
      refine g_iadd dX11_readOrder_97 ?_
      refine g_iconst (v := (nI 0)) dX11_readOrder_98 (by decide) ?_
      obtain ⟨K17, eK17, h⟩ := bs h
      refine q_iast dX11_readOrder_99 eK17 ?_
      refine q_iinc (w := nI 1) (ls' := [some (.ref v0), some (.int v1), some (.int v2), some (.int (s3 + nI 1))]) dX11_readOrder_100 (by decide) rfl (by decide) rfl ?_
      refine g_goto (t := 85) dX11_readOrder_103 (by decide) ?_
      refine Go_le ?_ (hin ((s3 + nI 1), K17) (Option.some.inj h).symm)
      exact And.intro rfl (And.intro rfl (And.intro rfl (And.intro rfl (trivial))))
noncomputable def F_X11_readOrder_j241 (O : mO) (d : Nat) (v0 : Nat) (v2 : Int32) (K : mH) : Option (mH) :=
  (gtA K v0 11 47).bind fun x36 =>
  (gtI K v0 11 23).bind fun x37 =>
  (wrI K x36 (v2 + (nI 6)) x37).bind fun K38 =>
  some K38
theorem e_X11_readOrder_j241 {O : mO} {d : Nat} {v0 : Nat} {v2 : Int32} {K : mH} {P : Option Value → mH → Prop} {x : mH} (hret : ∀ K' : mH, K' = x → P none K') (h : F_X11_readOrder_j241 O d v0 v2 K = some x) : Go O (d + 1) MX11_readOrder 241 [some (.ref v0), none, some (.int v2), none] [] K P := by
  unfold F_X11_readOrder_j241 at h
  refine g_aload_n dX11_readOrder_241 rfl ?_
  obtain ⟨x36, ex36, h⟩ := bs h
  refine q_getA dX11_readOrder_242 fX11_134 ex36 ?_
  refine g_iload_n dX11_readOrder_245 rfl ?_
  refine g_bipush (v := (nI 6)) dX11_readOrder_246 (by decide) ?_
  refine g_iadd dX11_readOrder_248 ?_
  refine g_aload_n dX11_readOrder_249 rfl ?_
  obtain ⟨x37, ex37, h⟩ := bs h
  refine q_getI dX11_readOrder_250 fX11_281 ex37 ?_
  obtain ⟨K38, eK38, h⟩ := bs h
  refine q_iast dX11_readOrder_253 eK38 ?_
  exact g_return dX11_readOrder_254 rfl (hret _ (Option.some.inj h))
noncomputable def F_X11_readOrder_j203 (O : mO) (d : Nat) (v0 : Nat) (v2 : Int32) (K : mH) : Option (mH) :=
  (gtA K v0 11 47).bind fun x30 =>
  (gtI K v0 11 23).bind fun x31 =>
  (wrI K x30 (v2 + (nI 5)) x31).bind fun K32 =>
  (gtI K32 v0 11 19).bind fun x33 =>
  if x33 = 0 then
    (toI (vc O d 11 MX11_isWord v0 [.long (294)] K32)).bind fun p39 =>
    if p39.1 = 0 then
      F_X11_readOrder_j241 O d v0 v2 p39.2
    else
      (toV (vc O d 11 MX11_next v0 [] p39.2)).bind fun K42 =>
      (toV (vc O d 11 MX11_readExpression v0 [.int (nI 1)] K42)).bind fun K43 =>
      F_X11_readOrder_j241 O d v0 v2 K43
  else
    F_X11_readOrder_j241 O d v0 v2 K32
theorem e_X11_readOrder_j203 {O : mO} {d : Nat} {v0 : Nat} {v2 : Int32} {K : mH} {P : Option Value → mH → Prop} {x : mH} (hret : ∀ K' : mH, K' = x → P none K') (h : F_X11_readOrder_j203 O d v0 v2 K = some x) : Go O (d + 1) MX11_readOrder 203 [some (.ref v0), none, some (.int v2), none] [] K P := by
  unfold F_X11_readOrder_j203 at h
  refine g_aload_n dX11_readOrder_203 rfl ?_
  obtain ⟨x30, ex30, h⟩ := bs h
  refine q_getA dX11_readOrder_204 fX11_134 ex30 ?_
  refine g_iload_n dX11_readOrder_207 rfl ?_
  refine g_iconst (v := (nI 5)) dX11_readOrder_208 (by decide) ?_
  refine g_iadd dX11_readOrder_209 ?_
  refine g_aload_n dX11_readOrder_210 rfl ?_
  obtain ⟨x31, ex31, h⟩ := bs h
  refine q_getI dX11_readOrder_211 fX11_281 ex31 ?_
  obtain ⟨K32, eK32, h⟩ := bs h
  refine q_iast dX11_readOrder_214 eK32 ?_
  refine g_aload_n dX11_readOrder_215 rfl ?_
  obtain ⟨x33, ex33, h⟩ := bs h
  refine q_getI dX11_readOrder_216 fX11_244 ex33 ?_
  refine g_if_ne (t := 241) dX11_readOrder_219 (by decide) (fun c35 => ?_) (fun c35 => ?_)
  · rw [if_neg c35] at h
    refine Go_le ?_ (e_X11_readOrder_j241 hret h)
    exact And.intro rfl (And.intro rfl (trivial))
  · rw [if_pos c35] at h
    refine g_aload_n dX11_readOrder_222 rfl ?_
    refine g_ldc2 (v := 294) dX11_readOrder_223 lX11_381 ?_
    obtain ⟨p39, ep39, h⟩ := bs h
    refine q_virt (Z := MX11_isWord) (c := (RX11, TX11, 56)) (toI_s ep39) dX11_readOrder_226 mX11_302.1 mX11_302.2 (Nat.le_of_ble_eq_true rfl) rfl rfl (Nat.le_of_ble_eq_true rfl) (Nat.le_of_ble_eq_true rfl) rfl rfl ?_
    show Go O (d + 1) MX11_readOrder 229 [some (.ref v0), none, some (.int v2), none] [.int p39.1] p39.2 P
    refine g_if_eq (t := 241) dX11_readOrder_229 (by decide) (fun c41 => ?_) (fun c41 => ?_)
    · rw [if_pos c41] at h
      refine Go_le ?_ (e_X11_readOrder_j241 hret h)
      exact And.intro rfl (And.intro rfl (trivial))
    · rw [if_neg c41] at h
      refine g_aload_n dX11_readOrder_232 rfl ?_
      obtain ⟨K42, eK42, h⟩ := bs h
      refine q_virt (Z := MX11_next) (c := (RX11, TX11, 56)) (toV_s eK42) dX11_readOrder_233 mX11_248.1 mX11_248.2 (Nat.le_of_ble_eq_true rfl) rfl rfl (Nat.le_of_ble_eq_true rfl) (Nat.le_of_ble_eq_true rfl) rfl rfl ?_
      show Go O (d + 1) MX11_readOrder 236 [some (.ref v0), none, some (.int v2), none] [] K42 P
      refine g_aload_n dX11_readOrder_236 rfl ?_
      refine g_iconst (v := (nI 1)) dX11_readOrder_237 (by decide) ?_
      obtain ⟨K43, eK43, h⟩ := bs h
      refine q_virt (Z := MX11_readExpression) (c := (RX11, TX11, 56)) (toV_s eK43) dX11_readOrder_238 mX11_378.1 mX11_378.2 (Nat.le_of_ble_eq_true rfl) rfl rfl (Nat.le_of_ble_eq_true rfl) (Nat.le_of_ble_eq_true rfl) rfl rfl ?_
      show Go O (d + 1) MX11_readOrder 241 [some (.ref v0), none, some (.int v2), none] [] K43 P
      refine Go_le ?_ (e_X11_readOrder_j241 hret h)
      exact And.intro rfl (And.intro rfl (trivial))
noncomputable def F_X11_readOrder_j155 (O : mO) (d : Nat) (v0 : Nat) (v2 : Int32) (K : mH) : Option (mH) :=
  (gtA K v0 11 47).bind fun x25 =>
  (wrI K x25 (v2 + (nI 7)) (nI 1)).bind fun K26 =>
  (gtI K26 v0 11 19).bind fun x27 =>
  if x27 = 0 then
    (toI (vc O d 11 MX11_isWord v0 [.long (21279923)] K26)).bind fun p44 =>
    if p44.1 = 0 then
      F_X11_readOrder_j203 O d v0 v2 p44.2
    else
      (toV (vc O d 11 MX11_next v0 [] p44.2)).bind fun K47 =>
      (gtA K47 v0 11 47).bind fun x48 =>
      (toI (vc O d 11 MX11_number v0 [.long 1, .long (20)] K47)).bind fun p49 =>
      (wrI p49.2 x48 (v2 + (nI 7)) p49.1).bind fun K50 =>
      F_X11_readOrder_j203 O d v0 v2 K50
  else
    F_X11_readOrder_j203 O d v0 v2 K26
theorem e_X11_readOrder_j155 {O : mO} {d : Nat} {v0 : Nat} {v2 : Int32} {K : mH} {P : Option Value → mH → Prop} {x : mH} (hret : ∀ K' : mH, K' = x → P none K') (h : F_X11_readOrder_j155 O d v0 v2 K = some x) : Go O (d + 1) MX11_readOrder 155 [some (.ref v0), none, some (.int v2), none] [] K P := by
  unfold F_X11_readOrder_j155 at h
  refine g_aload_n dX11_readOrder_155 rfl ?_
  obtain ⟨x25, ex25, h⟩ := bs h
  refine q_getA dX11_readOrder_156 fX11_134 ex25 ?_
  refine g_iload_n dX11_readOrder_159 rfl ?_
  refine g_bipush (v := (nI 7)) dX11_readOrder_160 (by decide) ?_
  refine g_iadd dX11_readOrder_162 ?_
  refine g_iconst (v := (nI 1)) dX11_readOrder_163 (by decide) ?_
  obtain ⟨K26, eK26, h⟩ := bs h
  refine q_iast dX11_readOrder_164 eK26 ?_
  refine g_aload_n dX11_readOrder_165 rfl ?_
  obtain ⟨x27, ex27, h⟩ := bs h
  refine q_getI dX11_readOrder_166 fX11_244 ex27 ?_
  refine g_if_ne (t := 203) dX11_readOrder_169 (by decide) (fun c29 => ?_) (fun c29 => ?_)
  · rw [if_neg c29] at h
    refine Go_le ?_ (e_X11_readOrder_j203 hret h)
    exact And.intro rfl (And.intro rfl (trivial))
  · rw [if_pos c29] at h
    refine g_aload_n dX11_readOrder_172 rfl ?_
    refine g_ldc2 (v := 21279923) dX11_readOrder_173 lX11_508 ?_
    obtain ⟨p44, ep44, h⟩ := bs h
    refine q_virt (Z := MX11_isWord) (c := (RX11, TX11, 56)) (toI_s ep44) dX11_readOrder_176 mX11_302.1 mX11_302.2 (Nat.le_of_ble_eq_true rfl) rfl rfl (Nat.le_of_ble_eq_true rfl) (Nat.le_of_ble_eq_true rfl) rfl rfl ?_
    show Go O (d + 1) MX11_readOrder 179 [some (.ref v0), none, some (.int v2), none] [.int p44.1] p44.2 P
    refine g_if_eq (t := 203) dX11_readOrder_179 (by decide) (fun c46 => ?_) (fun c46 => ?_)
    · rw [if_pos c46] at h
      refine Go_le ?_ (e_X11_readOrder_j203 hret h)
      exact And.intro rfl (And.intro rfl (trivial))
    · rw [if_neg c46] at h
      refine g_aload_n dX11_readOrder_182 rfl ?_
      obtain ⟨K47, eK47, h⟩ := bs h
      refine q_virt (Z := MX11_next) (c := (RX11, TX11, 56)) (toV_s eK47) dX11_readOrder_183 mX11_248.1 mX11_248.2 (Nat.le_of_ble_eq_true rfl) rfl rfl (Nat.le_of_ble_eq_true rfl) (Nat.le_of_ble_eq_true rfl) rfl rfl ?_
      show Go O (d + 1) MX11_readOrder 186 [some (.ref v0), none, some (.int v2), none] [] K47 P
      refine g_aload_n dX11_readOrder_186 rfl ?_
      obtain ⟨x48, ex48, h⟩ := bs h
      refine q_getA dX11_readOrder_187 fX11_134 ex48 ?_
      refine g_iload_n dX11_readOrder_190 rfl ?_
      refine g_bipush (v := (nI 7)) dX11_readOrder_191 (by decide) ?_
      refine g_iadd dX11_readOrder_193 ?_
      refine g_aload_n dX11_readOrder_194 rfl ?_
      refine g_lconst (v := 1) dX11_readOrder_195 (by decide) ?_
      refine g_ldc2 (v := 20) dX11_readOrder_196 lX11_294 ?_
      obtain ⟨p49, ep49, h⟩ := bs h
      refine q_virt (Z := MX11_number) (c := (RX11, TX11, 56)) (toI_s ep49) dX11_readOrder_199 mX11_339.1 mX11_339.2 (Nat.le_of_ble_eq_true rfl) rfl rfl (Nat.le_of_ble_eq_true rfl) (Nat.le_of_ble_eq_true rfl) rfl rfl ?_
      show Go O (d + 1) MX11_readOrder 202 [some (.ref v0), none, some (.int v2), none] [.int p49.1, .int (v2 + (nI 7)), .ref x48] p49.2 P
      obtain ⟨K50, eK50, h⟩ := bs h
      refine q_iast dX11_readOrder_202 eK50 ?_
      refine Go_le ?_ (e_X11_readOrder_j203 hret h)
      exact And.intro rfl (And.intro rfl (trivial))
noncomputable def F_X11_readOrder_j148 (O : mO) (d : Nat) (v0 : Nat) (v2 : Int32) (K : mH) : Option (mH) :=
  (toV (vc O d 11 MX11_readSum v0 [.int (v2 + (nI 3))] K)).bind fun K54 =>
  F_X11_readOrder_j155 O d v0 v2 K54
theorem e_X11_readOrder_j148 {O : mO} {d : Nat} {v0 : Nat} {v2 : Int32} {K : mH} {P : Option Value → mH → Prop} {x : mH} (hret : ∀ K' : mH, K' = x → P none K') (h : F_X11_readOrder_j148 O d v0 v2 K = some x) : Go O (d + 1) MX11_readOrder 148 [some (.ref v0), none, some (.int v2), none] [] K P := by
  unfold F_X11_readOrder_j148 at h
  refine g_aload_n dX11_readOrder_148 rfl ?_
  refine g_iload_n dX11_readOrder_149 rfl ?_
  refine g_iconst (v := (nI 3)) dX11_readOrder_150 (by decide) ?_
  refine g_iadd dX11_readOrder_151 ?_
  obtain ⟨K54, eK54, h⟩ := bs h
  refine q_virt (Z := MX11_readSum) (c := (RX11, TX11, 56)) (toV_s eK54) dX11_readOrder_152 mX11_503.1 mX11_503.2 (Nat.le_of_ble_eq_true rfl) rfl rfl (Nat.le_of_ble_eq_true rfl) (Nat.le_of_ble_eq_true rfl) rfl rfl ?_
  show Go O (d + 1) MX11_readOrder 155 [some (.ref v0), none, some (.int v2), none] [] K54 P
  refine Go_le ?_ (e_X11_readOrder_j155 hret h)
  exact And.intro rfl (And.intro rfl (trivial))
noncomputable def F_X11_readOrder_j125 (O : mO) (d : Nat) (v0 : Nat) (v1 : Int32) (v2 : Int32) (K : mH) : Option (mH) :=
  if v1 = (nI 1) then
    (gtI K v0 11 19).bind fun x51 =>
    if x51 = 0 then
      (toI (vc O d 11 MX11_isWord v0 [.long (302)] K)).bind fun p55 =>
      (toV (vc O d 11 MX11_must v0 [.int p55.1] p55.2)).bind fun K56 =>
      F_X11_readOrder_j148 O d v0 v2 K56
    else
      F_X11_readOrder_j148 O d v0 v2 K
  else
    F_X11_readOrder_j155 O d v0 v2 K
theorem e_X11_readOrder_j125 {O : mO} {d : Nat} {v0 : Nat} {v1 : Int32} {v2 : Int32} {K : mH} {P : Option Value → mH → Prop} {x : mH} (hret : ∀ K' : mH, K' = x → P none K') (h : F_X11_readOrder_j125 O d v0 v1 v2 K = some x) : Go O (d + 1) MX11_readOrder 125 [some (.ref v0), some (.int v1), some (.int v2), none] [] K P := by
  unfold F_X11_readOrder_j125 at h
  refine g_iload_n dX11_readOrder_125 rfl ?_
  refine g_iconst (v := (nI 1)) dX11_readOrder_126 (by decide) ?_
  refine g_ic_ne (t := 155) dX11_readOrder_127 (by decide) (fun c24 => ?_) (fun c24 => ?_)
  · rw [if_neg c24] at h
    refine Go_le ?_ (e_X11_readOrder_j155 hret h)
    exact And.intro rfl (And.intro rfl (trivial))
  · rw [if_pos c24] at h
    refine g_aload_n dX11_readOrder_130 rfl ?_
    obtain ⟨x51, ex51, h⟩ := bs h
    refine q_getI dX11_readOrder_131 fX11_244 ex51 ?_
    refine g_if_ne (t := 148) dX11_readOrder_134 (by decide) (fun c53 => ?_) (fun c53 => ?_)
    · rw [if_neg c53] at h
      refine Go_le ?_ (e_X11_readOrder_j148 hret h)
      exact And.intro rfl (And.intro rfl (trivial))
    · rw [if_pos c53] at h
      refine g_aload_n dX11_readOrder_137 rfl ?_
      refine g_aload_n dX11_readOrder_138 rfl ?_
      refine g_ldc2 (v := 302) dX11_readOrder_139 lX11_506 ?_
      obtain ⟨p55, ep55, h⟩ := bs h
      refine q_virt (Z := MX11_isWord) (c := (RX11, TX11, 56)) (toI_s ep55) dX11_readOrder_142 mX11_302.1 mX11_302.2 (Nat.le_of_ble_eq_true rfl) rfl rfl (Nat.le_of_ble_eq_true rfl) (Nat.le_of_ble_eq_true rfl) rfl rfl ?_
      show Go O (d + 1) MX11_readOrder 145 [some (.ref v0), some (.int v1), some (.int v2), none] [.int p55.1, .ref v0] p55.2 P
      obtain ⟨K56, eK56, h⟩ := bs h
      refine q_virt (Z := MX11_must) (c := (RX11, TX11, 56)) (toV_s eK56) dX11_readOrder_145 mX11_277.1 mX11_277.2 (Nat.le_of_ble_eq_true rfl) rfl rfl (Nat.le_of_ble_eq_true rfl) (Nat.le_of_ble_eq_true rfl) rfl rfl ?_
      show Go O (d + 1) MX11_readOrder 148 [some (.ref v0), some (.int v1), some (.int v2), none] [] K56 P
      refine Go_le ?_ (e_X11_readOrder_j148 hret h)
      exact And.intro rfl (And.intro rfl (trivial))
noncomputable def F_X11_readOrder_j54 (O : mO) (d : Nat) (v0 : Nat) (v1 : Int32) (w0 : Int32) (w1 : Nat) (K : mH) : Option (mH) :=
  (toV (vc O d 11 MX11_must w1 [.int w0] K)).bind fun K9 =>
  (gtI K9 v0 11 19).bind fun x10 =>
  if x10 = 0 then
    (gtI K9 v0 11 21).bind fun x12 =>
    (gtI K9 v0 11 21).bind fun x13 =>
    (ptI K9 v0 11 21 (x13 + (nI 1))).bind fun K14 =>
    (lupF (fun (q : Int32 × mH) => F_X11_readOrder_l85 O d v0 v1 ((nI 8) * x12) q.1 q.2) FU ((nI 0), K14)).bind fun r18 =>
    (gtA r18 v0 11 47).bind fun x19 =>
    (wrI r18 x19 ((nI 8) * x12) v1).bind fun K20 =>
    if v1 = (nI 3) then
      F_X11_readOrder_j125 O d v0 v1 ((nI 8) * x12) K20
    else
      (toV (vc O d 11 MX11_readSum v0 [.int (((nI 8) * x12) + (nI 1))] K20)).bind fun K57 =>
      F_X11_readOrder_j125 O d v0 v1 ((nI 8) * x12) K57
  else
    some K9
theorem e_X11_readOrder_j54 {O : mO} {d : Nat} {v0 : Nat} {v1 : Int32} {w0 : Int32} {w1 : Nat} {K : mH} {P : Option Value → mH → Prop} {x : mH} (hret : ∀ K' : mH, K' = x → P none K') (h : F_X11_readOrder_j54 O d v0 v1 w0 w1 K = some x) : Go O (d + 1) MX11_readOrder 54 [some (.ref v0), some (.int v1), none, none] [.int w0, .ref w1] K P := by
  unfold F_X11_readOrder_j54 at h
  obtain ⟨K9, eK9, h⟩ := bs h
  refine q_virt (Z := MX11_must) (c := (RX11, TX11, 56)) (toV_s eK9) dX11_readOrder_54 mX11_277.1 mX11_277.2 (Nat.le_of_ble_eq_true rfl) rfl rfl (Nat.le_of_ble_eq_true rfl) (Nat.le_of_ble_eq_true rfl) rfl rfl ?_
  show Go O (d + 1) MX11_readOrder 57 [some (.ref v0), some (.int v1), none, none] [] K9 P
  refine g_aload_n dX11_readOrder_57 rfl ?_
  obtain ⟨x10, ex10, h⟩ := bs h
  refine q_getI dX11_readOrder_58 fX11_244 ex10 ?_
  refine g_if_eq (t := 65) dX11_readOrder_61 (by decide) (fun c11 => ?_) (fun c11 => ?_)
  · rw [if_pos c11] at h
    refine g_bipush (v := (nI 8)) dX11_readOrder_65 (by decide) ?_
    refine g_aload_n dX11_readOrder_67 rfl ?_
    obtain ⟨x12, ex12, h⟩ := bs h
    refine q_getI dX11_readOrder_68 fX11_375 ex12 ?_
    refine g_imul dX11_readOrder_71 ?_
    refine g_istore_n (ls' := [some (.ref v0), some (.int v1), some (.int ((nI 8) * x12)), none]) dX11_readOrder_72 (by decide) rfl ?_
    refine g_aload_n dX11_readOrder_73 rfl ?_
    refine g_dup dX11_readOrder_74 (by first | rfl | exact vrf_cat _) ?_
    obtain ⟨x13, ex13, h⟩ := bs h
    refine q_getI dX11_readOrder_75 fX11_375 ex13 ?_
    refine g_iconst (v := (nI 1)) dX11_readOrder_78 (by decide) ?_
    refine g_iadd dX11_readOrder_79 ?_
    obtain ⟨K14, eK14, h⟩ := bs h
    refine q_put (c := (RX11, TX11, 56)) dX11_readOrder_80 fX11_375 rfl rfl rfl (fun h => absurd h (by decide)) eK14 ?_
    refine g_iconst (v := (nI 0)) dX11_readOrder_83 (by decide) ?_
    refine g_istore_n (ls' := [some (.ref v0), some (.int v1), some (.int ((nI 8) * x12)), some (.int (nI 0))]) dX11_readOrder_84 (by decide) rfl ?_
    obtain ⟨r18, er18, h⟩ := bs h
    have hx : Go O (d + 1) MX11_readOrder 106 [some (.ref v0), some (.int v1), some (.int ((nI 8) * x12)), none] [] r18 P := by
      refine g_aload_n dX11_readOrder_106 rfl ?_
      obtain ⟨x19, ex19, h⟩ := bs h
      refine q_getA dX11_readOrder_107 fX11_134 ex19 ?_
      refine g_iload_n dX11_readOrder_110 rfl ?_
      refine g_iload_n dX11_readOrder_111 rfl ?_
      obtain ⟨K20, eK20, h⟩ := bs h
      refine q_iast dX11_readOrder_112 eK20 ?_
      refine g_iload_n dX11_readOrder_113 rfl ?_
      refine g_iconst (v := (nI 3)) dX11_readOrder_114 (by decide) ?_
      refine g_ic_eq (t := 125) dX11_readOrder_115 (by decide) (fun c22 => ?_) (fun c22 => ?_)
      · rw [if_pos c22] at h
        refine Go_le ?_ (e_X11_readOrder_j125 hret h)
        exact And.intro rfl (And.intro rfl (And.intro rfl (trivial)))
      · rw [if_neg c22] at h
        refine g_aload_n dX11_readOrder_118 rfl ?_
        refine g_iload_n dX11_readOrder_119 rfl ?_
        refine g_iconst (v := (nI 1)) dX11_readOrder_120 (by decide) ?_
        refine g_iadd dX11_readOrder_121 ?_
        obtain ⟨K57, eK57, h⟩ := bs h
        refine q_virt (Z := MX11_readSum) (c := (RX11, TX11, 56)) (toV_s eK57) dX11_readOrder_122 mX11_503.1 mX11_503.2 (Nat.le_of_ble_eq_true rfl) rfl rfl (Nat.le_of_ble_eq_true rfl) (Nat.le_of_ble_eq_true rfl) rfl rfl ?_
        show Go O (d + 1) MX11_readOrder 125 [some (.ref v0), some (.int v1), some (.int ((nI 8) * x12)), none] [] K57 P
        refine Go_le ?_ (e_X11_readOrder_j125 hret h)
        exact And.intro rfl (And.intro rfl (And.intro rfl (trivial)))
    refine Go_le ?_ (e_X11_readOrder_l85 (fun q e => by cases e; exact hx) FU ((nI 0), K14) er18)
    exact And.intro rfl (And.intro rfl (And.intro rfl (And.intro rfl (trivial))))
  · rw [if_neg c11] at h
    exact g_return dX11_readOrder_64 rfl (hret _ (Option.some.inj h))
noncomputable def F_X11_readOrder_j53 (O : mO) (d : Nat) (v0 : Nat) (v1 : Int32) (w0 : Nat) (K : mH) : Option (mH) :=
  F_X11_readOrder_j54 O d v0 v1 (nI 0) w0 K
theorem e_X11_readOrder_j53 {O : mO} {d : Nat} {v0 : Nat} {v1 : Int32} {w0 : Nat} {K : mH} {P : Option Value → mH → Prop} {x : mH} (hret : ∀ K' : mH, K' = x → P none K') (h : F_X11_readOrder_j53 O d v0 v1 w0 K = some x) : Go O (d + 1) MX11_readOrder 53 [some (.ref v0), some (.int v1), none, none] [.ref w0] K P := by
  unfold F_X11_readOrder_j53 at h
  refine g_iconst (v := (nI 0)) dX11_readOrder_53 (by decide) ?_
  refine Go_le ?_ (e_X11_readOrder_j54 hret h)
  exact And.intro rfl (And.intro rfl (trivial))
noncomputable def F_X11_readOrder (O : mO) (d : Nat) (a0 : Nat) (K : mH) : Option (mH) :=
  (lupF (fun (q : Int32 × Int32 × mH) => F_X11_readOrder_l4 O d a0 q.1 q.2.1 q.2.2) FU ((-1), (nI 0), K)).bind fun r6 =>
  if r6.1 = (-1) then
    F_X11_readOrder_j53 O d a0 r6.1 a0 r6.2
  else
    (gtI r6.2 a0 11 21).bind fun x58 =>
    (toV (vc O d 11 MX11_must a0 [.int (if (nI 12) ≤ x58 then (nI 0) else (nI 1))] r6.2)).bind fun K60 =>
    (gtI K60 a0 11 19).bind fun x61 =>
    if x61 = 0 then
      (gtI K60 a0 11 21).bind fun x63 =>
      (gtI K60 a0 11 21).bind fun x64 =>
      (ptI K60 a0 11 21 (x64 + (nI 1))).bind fun K65 =>
      (lupF (fun (q : Int32 × mH) => F_X11_readOrder_l85 O d a0 r6.1 ((nI 8) * x63) q.1 q.2) FU ((nI 0), K65)).bind fun r66 =>
      (gtA r66 a0 11 47).bind fun x67 =>
      (wrI r66 x67 ((nI 8) * x63) r6.1).bind fun K68 =>
      if r6.1 = (nI 3) then
        F_X11_readOrder_j125 O d a0 r6.1 ((nI 8) * x63) K68
      else
        (toV (vc O d 11 MX11_readSum a0 [.int (((nI 8) * x63) + (nI 1))] K68)).bind fun K71 =>
        F_X11_readOrder_j125 O d a0 r6.1 ((nI 8) * x63) K71
    else
      some K60
theorem e_X11_readOrder {O : mO} {d : Nat} {a0 : Nat} {K : mH} {x : mH} (h : F_X11_readOrder O d a0 K = some x) : ev O (d + 1) MX11_readOrder [.ref a0] K = some (none, x) := by
  refine Rn_evx ?_
  show Go O (d + 1) MX11_readOrder 0 [some (.ref a0), none, none, none] [] K _
  generalize hP : (fun (r : Option Value) (K' : mH) => (r, K') = (none, x)) = P
  have hret : ∀ K' : mH, K' = x → P none K' := by
    intro K' e
    subst hP e
    rfl
  clear hP
  unfold F_X11_readOrder at h
  refine g_iconst (v := (-1)) dX11_readOrder_0 (by decide) ?_
  refine g_istore_n (ls' := [some (.ref a0), some (.int (-1)), none, none]) dX11_readOrder_1 (by decide) rfl ?_
  refine g_iconst (v := (nI 0)) dX11_readOrder_2 (by decide) ?_
  refine g_istore_n (ls' := [some (.ref a0), some (.int (-1)), some (.int (nI 0)), none]) dX11_readOrder_3 (by decide) rfl ?_
  obtain ⟨r6, er6, h⟩ := bs h
  have hx : Go O (d + 1) MX11_readOrder 34 [some (.ref a0), some (.int r6.1), none, none] [] r6.2 P := by
    refine g_aload_n dX11_readOrder_34 rfl ?_
    refine g_iload_n dX11_readOrder_35 rfl ?_
    refine g_iconst (v := (-1)) dX11_readOrder_36 (by decide) ?_
    refine g_ic_eq (t := 53) dX11_readOrder_37 (by decide) (fun c8 => ?_) (fun c8 => ?_)
    · rw [if_pos c8] at h
      refine Go_le ?_ (e_X11_readOrder_j53 hret h)
      exact And.intro rfl (And.intro rfl (trivial))
    · rw [if_neg c8] at h
      refine g_aload_n dX11_readOrder_40 rfl ?_
      obtain ⟨x58, ex58, h⟩ := bs h
      refine q_getI dX11_readOrder_41 fX11_375 ex58 ?_
      refine g_bipush (v := (nI 12)) dX11_readOrder_44 (by decide) ?_
      have hj : Go O (d + 1) MX11_readOrder 54 [some (.ref a0), some (.int r6.1), none, none] [.int (if (nI 12) ≤ x58 then (nI 0) else (nI 1)), .ref a0] r6.2 P := by
        obtain ⟨K60, eK60, h⟩ := bs h
        refine q_virt (Z := MX11_must) (c := (RX11, TX11, 56)) (toV_s eK60) dX11_readOrder_54 mX11_277.1 mX11_277.2 (Nat.le_of_ble_eq_true rfl) rfl rfl (Nat.le_of_ble_eq_true rfl) (Nat.le_of_ble_eq_true rfl) rfl rfl ?_
        show Go O (d + 1) MX11_readOrder 57 [some (.ref a0), some (.int r6.1), none, none] [] K60 P
        refine g_aload_n dX11_readOrder_57 rfl ?_
        obtain ⟨x61, ex61, h⟩ := bs h
        refine q_getI dX11_readOrder_58 fX11_244 ex61 ?_
        refine g_if_eq (t := 65) dX11_readOrder_61 (by decide) (fun c62 => ?_) (fun c62 => ?_)
        · rw [if_pos c62] at h
          refine g_bipush (v := (nI 8)) dX11_readOrder_65 (by decide) ?_
          refine g_aload_n dX11_readOrder_67 rfl ?_
          obtain ⟨x63, ex63, h⟩ := bs h
          refine q_getI dX11_readOrder_68 fX11_375 ex63 ?_
          refine g_imul dX11_readOrder_71 ?_
          refine g_istore_n (ls' := [some (.ref a0), some (.int r6.1), some (.int ((nI 8) * x63)), none]) dX11_readOrder_72 (by decide) rfl ?_
          refine g_aload_n dX11_readOrder_73 rfl ?_
          refine g_dup dX11_readOrder_74 (by first | rfl | exact vrf_cat _) ?_
          obtain ⟨x64, ex64, h⟩ := bs h
          refine q_getI dX11_readOrder_75 fX11_375 ex64 ?_
          refine g_iconst (v := (nI 1)) dX11_readOrder_78 (by decide) ?_
          refine g_iadd dX11_readOrder_79 ?_
          obtain ⟨K65, eK65, h⟩ := bs h
          refine q_put (c := (RX11, TX11, 56)) dX11_readOrder_80 fX11_375 rfl rfl rfl (fun h => absurd h (by decide)) eK65 ?_
          refine g_iconst (v := (nI 0)) dX11_readOrder_83 (by decide) ?_
          refine g_istore_n (ls' := [some (.ref a0), some (.int r6.1), some (.int ((nI 8) * x63)), some (.int (nI 0))]) dX11_readOrder_84 (by decide) rfl ?_
          obtain ⟨r66, er66, h⟩ := bs h
          have hx : Go O (d + 1) MX11_readOrder 106 [some (.ref a0), some (.int r6.1), some (.int ((nI 8) * x63)), none] [] r66 P := by
            refine g_aload_n dX11_readOrder_106 rfl ?_
            obtain ⟨x67, ex67, h⟩ := bs h
            refine q_getA dX11_readOrder_107 fX11_134 ex67 ?_
            refine g_iload_n dX11_readOrder_110 rfl ?_
            refine g_iload_n dX11_readOrder_111 rfl ?_
            obtain ⟨K68, eK68, h⟩ := bs h
            refine q_iast dX11_readOrder_112 eK68 ?_
            refine g_iload_n dX11_readOrder_113 rfl ?_
            refine g_iconst (v := (nI 3)) dX11_readOrder_114 (by decide) ?_
            refine g_ic_eq (t := 125) dX11_readOrder_115 (by decide) (fun c70 => ?_) (fun c70 => ?_)
            · rw [if_pos c70] at h
              refine Go_le ?_ (e_X11_readOrder_j125 hret h)
              exact And.intro rfl (And.intro rfl (And.intro rfl (trivial)))
            · rw [if_neg c70] at h
              refine g_aload_n dX11_readOrder_118 rfl ?_
              refine g_iload_n dX11_readOrder_119 rfl ?_
              refine g_iconst (v := (nI 1)) dX11_readOrder_120 (by decide) ?_
              refine g_iadd dX11_readOrder_121 ?_
              obtain ⟨K71, eK71, h⟩ := bs h
              refine q_virt (Z := MX11_readSum) (c := (RX11, TX11, 56)) (toV_s eK71) dX11_readOrder_122 mX11_503.1 mX11_503.2 (Nat.le_of_ble_eq_true rfl) rfl rfl (Nat.le_of_ble_eq_true rfl) (Nat.le_of_ble_eq_true rfl) rfl rfl ?_
              show Go O (d + 1) MX11_readOrder 125 [some (.ref a0), some (.int r6.1), some (.int ((nI 8) * x63)), none] [] K71 P
              refine Go_le ?_ (e_X11_readOrder_j125 hret h)
              exact And.intro rfl (And.intro rfl (And.intro rfl (trivial)))
          refine Go_le ?_ (e_X11_readOrder_l85 (fun q e => by cases e; exact hx) FU ((nI 0), K65) er66)
          exact And.intro rfl (And.intro rfl (And.intro rfl (And.intro rfl (trivial))))
        · rw [if_neg c62] at h
          exact g_return dX11_readOrder_64 rfl (hret _ (Option.some.inj h))
      refine g_ic_ge (t := 53) dX11_readOrder_46 (by decide) (fun c59 => ?_) (fun c59 => ?_)
      · skip
        refine g_iconst (v := (nI 0)) dX11_readOrder_53 (by decide) ?_
        have hk : Go O (d + 1) MX11_readOrder 54 [some (.ref a0), some (.int r6.1), none, none] [.int (nI 0), .ref a0] r6.2 P := by simpa only [if_pos c59] using hj
        refine Go_le ?_ hk
        exact And.intro rfl (And.intro rfl (trivial))
      · skip
        refine g_iconst (v := (nI 1)) dX11_readOrder_49 (by decide) ?_
        refine g_goto (t := 54) dX11_readOrder_50 (by decide) ?_
        have hk : Go O (d + 1) MX11_readOrder 54 [some (.ref a0), some (.int r6.1), none, none] [.int (nI 1), .ref a0] r6.2 P := by simpa only [if_neg c59] using hj
        refine Go_le ?_ hk
        exact And.intro rfl (And.intro rfl (trivial))
  refine Go_le ?_ (e_X11_readOrder_l4 (fun q e => by cases e; exact hx) FU ((-1), (nI 0), K) er6)
  exact And.intro rfl (And.intro rfl (And.intro rfl (trivial)))
