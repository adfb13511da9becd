/-! methods as functions, by gen50.py -/
noncomputable def F_X4_kept_j53 (O : mO) (d : Nat) (v0 : Nat) (v1 : Nat) (v2 : Int32) (v3 : Int32) (v4 : Int32) (v5 : Int32) (v6 : Int32) (w0 : Int32) (w1 : Int32) (w2 : Nat) (K : mH) : Option ((Int32 × mH) ⊕ (mH)) :=
  (wrI K w2 w1 w0).bind fun K8 =>
  some (.inl ((v6 + nI 1), K8))
theorem e_X4_kept_j53 {O : mO} {d : Nat} {v0 : Nat} {v1 : Nat} {v2 : Int32} {v3 : Int32} {v4 : Int32} {v5 : Int32} {v6 : Int32} {w0 : Int32} {w1 : Int32} {w2 : Nat} {K : mH} {P : Option Value → mH → Prop} {y : (Int32 × mH) ⊕ (mH)} (hin : ∀ q : Int32 × mH, y = .inl q → Go O (d + 1) MX4_kept 16 [some (.ref v0), some (.ref v1), some (.int v2), some (.int v3), some (.int v4), some (.int v5), some (.int q.1), none, none, none, none, none] [] q.2 P) (hex : ∀ q : mH, y = .inr q → Go O (d + 1) MX4_kept 60 [some (.ref v0), some (.ref v1), some (.int v2), none, some (.int v4), some (.int v5), none, none, none, none, none, none] [] q P) (h : F_X4_kept_j53 O d v0 v1 v2 v3 v4 v5 v6 w0 w1 w2 K = some y) : Go O (d + 1) MX4_kept 53 [some (.ref v0), some (.ref v1), some (.int v2), some (.int v3), some (.int v4), some (.int v5), some (.int v6), none, none, none, none, none] [.int w0, .int w1, .ref w2] K P := by
  unfold F_X4_kept_j53 at h
  obtain ⟨K8, eK8, h⟩ := bs h
  refine q_iast dX4_kept_53 eK8 ?_
  refine q_iinc (w := nI 1) (ls' := [some (.ref v0), some (.ref v1), some (.int v2), some (.int v3), some (.int v4), some (.int v5), some (.int (v6 + nI 1)), none, none, none, none, none]) dX4_kept_54 (by decide) rfl (by decide) rfl ?_
  refine g_goto (t := 16) dX4_kept_57 (by decide) ?_
  refine Go_le ?_ (hin ((v6 + nI 1), K8) (Option.some.inj h).symm)
  exact And.intro rfl (And.intro rfl (And.intro rfl (And.intro rfl (And.intro rfl (And.intro rfl (And.intro rfl (trivial)))))))
noncomputable def F_X4_kept_l16 (O : mO) (d : Nat) (v0 : Nat) (v1 : Nat) (v2 : Int32) (v3 : Int32) (v4 : Int32) (v5 : Int32) (s6 : Int32) (K : mH) : Option ((Int32 × mH) ⊕ (mH)) :=
  (gtI K v1 2 13).bind fun x3 =>
  if x3 ≤ s6 then
    some (.inr K)
  else
    (gtA K v0 4 0).bind fun x5 =>
    if ((v5 >>> (s6 &&& 31)) &&& (nI 1)) = (nI 1) then
      (toI (ev O d MX4_costOf [.ref v1, .int s6, .int v3] K)).bind fun p9 =>
      F_X4_kept_j53 O d v0 v1 v2 v3 v4 v5 s6 p9.1 s6 x5 p9.2
    else
      F_X4_kept_j53 O d v0 v1 v2 v3 v4 v5 s6 (nI 0) s6 x5 K
theorem e_X4_kept_l16 {O : mO} {d : Nat} {v0 : Nat} {v1 : Nat} {v2 : Int32} {v3 : Int32} {v4 : Int32} {v5 : Int32} {P : Option Value → mH → Prop} {x : mH} (hex : ∀ q : mH, x = q → Go O (d + 1) MX4_kept 60 [some (.ref v0), some (.ref v1), some (.int v2), none, some (.int v4), some (.int v5), none, none, none, none, none, none] [] q P) : ∀ (f : Nat) (q : Int32 × mH), lupF (fun (q : Int32 × mH) => F_X4_kept_l16 O d v0 v1 v2 v3 v4 v5 q.1 q.2) f q = some x → Go O (d + 1) MX4_kept 16 [some (.ref v0), some (.ref v1), some (.int v2), some (.int v3), some (.int v4), some (.int v5), some (.int q.1), none, none, none, none, none] [] q.2 P := by
  intro f
  induction f with
  | zero =>
    intro q h
    cases h
  | succ f ih =>
    intro q h
    obtain ⟨y, h, hy1, hy2⟩ := lupF_s h
    have hin : ∀ q : Int32 × mH, y = .inl q → Go O (d + 1) MX4_kept 16 [some (.ref v0), some (.ref v1), some (.int v2), some (.int v3), some (.int v4), some (.int v5), some (.int q.1), none, none, none, none, none] [] q.2 P := fun q e => ih q (hy1 q e)
    replace hex : ∀ q : mH, y = .inr q → Go O (d + 1) MX4_kept 60 [some (.ref v0), some (.ref v1), some (.int v2), none, some (.int v4), some (.int v5), none, none, none, none, none, none] [] q P := fun q e => hex q (hy2 q e).symm
    clear ih hy1 hy2
    obtain ⟨s6, K⟩ := q
    dsimp only at h ⊢
    unfold F_X4_kept_l16 at h
    refine g_iload dX4_kept_16 rfl ?_
    refine g_aload_n dX4_kept_18 rfl ?_
    obtain ⟨x3, ex3, h⟩ := bs h
    refine q_getI dX4_kept_19 fX4_27 ex3 ?_
    refine g_ic_ge (t := 60) dX4_kept_22 (by decide) (fun c4 => ?_) (fun c4 => ?_)
    · rw [if_pos c4] at h
      refine Go_le ?_ (hex K (Option.some.inj h).symm)
      exact And.intro rfl (And.intro rfl (And.intro rfl (And.intro rfl (And.intro rfl (trivial)))))
    · rw [if_neg c4] at h
      refine g_aload_n dX4_kept_25 rfl ?_
      obtain ⟨x5, ex5, h⟩ := bs h
      refine q_getA dX4_kept_26 fX4_9 ex5 ?_
      refine g_iload dX4_kept_29 rfl ?_
      refine g_iload dX4_kept_31 rfl ?_
      refine g_iload dX4_kept_33 rfl ?_
      refine g_ishr dX4_kept_35 ?_
      refine g_iconst (v := (nI 1)) dX4_kept_36 (by decide) ?_
      refine g_iand dX4_kept_37 ?_
      refine g_iconst (v := (nI 1)) dX4_kept_38 (by decide) ?_
      refine g_ic_ne (t := 52) dX4_kept_39 (by decide) (fun c7 => ?_) (fun c7 => ?_)
      · rw [if_neg c7] at h
        refine g_iconst (v := (nI 0)) dX4_kept_52 (by decide) ?_
        refine Go_le ?_ (e_X4_kept_j53 hin hex h)
        exact And.intro rfl (And.intro rfl (And.intro rfl (And.intro rfl (And.intro rfl (And.intro rfl (And.intro rfl (trivial)))))))
      · rw [if_pos c7] at h
        refine g_aload_n dX4_kept_42 rfl ?_
        refine g_iload dX4_kept_43 rfl ?_
        refine g_iload_n dX4_kept_45 rfl ?_
        obtain ⟨p9, ep9, h⟩ := bs h
        refine q_stat (Z := MX4_costOf) (toI_s ep9) dX4_kept_46 mX4_31.1 mX4_31.2 (Nat.le_of_ble_eq_true rfl) rfl rfl (Nat.le_of_ble_eq_true rfl) (Nat.le_of_ble_eq_true rfl) ?_
        show Go O (d + 1) MX4_kept 49 [some (.ref v0), some (.ref v1), some (.int v2), some (.int v3), some (.int v4), some (.int v5), some (.int s6), none, none, none, none, none] [.int p9.1, .int s6, .ref x5] p9.2 P
        refine g_goto (t := 53) dX4_kept_49 (by decide) ?_
        refine Go_le ?_ (e_X4_kept_j53 hin hex h)
        exact And.intro rfl (And.intro rfl (And.intro rfl (And.intro rfl (And.intro rfl (And.intro rfl (And.intro rfl (trivial)))))))
noncomputable def F_X4_kept_l69 (O : mO) (d : Nat) (v0 : Nat) (v1 : Nat) (v2 : Int32) (v4 : Int32) (v5 : Int32) (s6 : Int32) (s7 : Int32) (s8 : Int32) (K : mH) : Option ((Int32 × Int32 × Int32 × mH) ⊕ (Int32 × Int32 × mH)) :=
  if v5 < s8 then
    some (.inr (s6, s7, K))
  else
    (toI (vc O d 4 MX4_costOfAll v0 [.int s8] K)).bind fun p12 =>
    (toI (ev O d MJ6_bitCount_0f7a4 [.int s8] p12.2)).bind fun p13 =>
    (toI (ev O d MJ6_bitCount_0f7a4 [.int s6] p13.2)).bind fun p14 =>
    if (s8 &&& (v5 ^^^ (-1))) = 0 then
      (gtA p14.2 v1 2 2).bind fun x20 =>
      (rdI O p14.2 x20 v2).bind fun x21 =>
      some (.inl ((if x21 < p12.1 then s6 else (if (if 0 < (p13.1 - p14.1) then (nI 1) else (if (p13.1 - p14.1) = 0 then (if s7 ≤ p12.1 then (nI 0) else (nI 1)) else (nI 0))) = 0 then s6 else s8)), (if x21 < p12.1 then s7 else (if (if 0 < (p13.1 - p14.1) then (nI 1) else (if (p13.1 - p14.1) = 0 then (if s7 ≤ p12.1 then (nI 0) else (nI 1)) else (nI 0))) = 0 then s7 else p12.1)), (s8 + nI 1), p14.2))
    else
      some (.inl (s6, s7, (s8 + nI 1), p14.2))
theorem e_X4_kept_l69 {O : mO} {d : Nat} {v0 : Nat} {v1 : Nat} {v2 : Int32} {v4 : Int32} {v5 : Int32} {P : Option Value → mH → Prop} {x : Int32 × Int32 × mH} (hex : ∀ q : Int32 × Int32 × mH, x = q → Go O (d + 1) MX4_kept 161 [none, none, none, none, some (.int v4), none, some (.int q.1), some (.int q.2.1), none, none, none, none] [] q.2.2 P) : ∀ (f : Nat) (q : Int32 × Int32 × Int32 × mH), lupF (fun (q : Int32 × Int32 × Int32 × mH) => F_X4_kept_l69 O d v0 v1 v2 v4 v5 q.1 q.2.1 q.2.2.1 q.2.2.2) f q = some x → Go O (d + 1) MX4_kept 69 [some (.ref v0), some (.ref v1), some (.int v2), none, some (.int v4), some (.int v5), some (.int q.1), some (.int q.2.1), some (.int q.2.2.1), none, none, none] [] q.2.2.2 P := by
  intro f
  induction f with
  | zero =>
    intro q h
    cases h
  | succ f ih =>
    intro q h
    obtain ⟨y, h, hy1, hy2⟩ := lupF_s h
    have hin : ∀ q : Int32 × Int32 × Int32 × mH, y = .inl q → Go O (d + 1) MX4_kept 69 [some (.ref v0), some (.ref v1), some (.int v2), none, some (.int v4), some (.int v5), some (.int q.1), some (.int q.2.1), some (.int q.2.2.1), none, none, none] [] q.2.2.2 P := fun q e => ih q (hy1 q e)
    replace hex : ∀ q : Int32 × Int32 × mH, y = .inr q → Go O (d + 1) MX4_kept 161 [none, none, none, none, some (.int v4), none, some (.int q.1), some (.int q.2.1), none, none, none, none] [] q.2.2 P := fun q e => hex q (hy2 q e).symm
    clear ih hy1 hy2
    obtain ⟨s6, s7, s8, K⟩ := q
    dsimp only at h ⊢
    unfold F_X4_kept_l69 at h
    refine g_iload dX4_kept_69 rfl ?_
    refine g_iload dX4_kept_71 rfl ?_
    refine g_ic_gt (t := 161) dX4_kept_73 (by decide) (fun c11 => ?_) (fun c11 => ?_)
    · rw [if_pos c11] at h
      refine Go_le ?_ (hex (s6, s7, K) (Option.some.inj h).symm)
      exact And.intro rfl (And.intro rfl (And.intro rfl (trivial)))
    · rw [if_neg c11] at h
      refine g_aload_n dX4_kept_76 rfl ?_
      refine g_iload dX4_kept_77 rfl ?_
      obtain ⟨p12, ep12, h⟩ := bs h
      refine q_virt (Z := MX4_costOfAll) (c := (RX4, TX4, 2)) (toI_s ep12) dX4_kept_79 mX4_35.1 mX4_35.2 (Nat.le_of_ble_eq_true rfl) rfl rfl (Nat.le_of_ble_eq_true rfl) (Nat.le_of_ble_eq_true rfl) rfl rfl ?_
      show Go O (d + 1) MX4_kept 82 [some (.ref v0), some (.ref v1), some (.int v2), none, some (.int v4), some (.int v5), some (.int s6), some (.int s7), some (.int s8), none, none, none] [.int p12.1] p12.2 P
      refine g_istore (ls' := [some (.ref v0), some (.ref v1), some (.int v2), none, some (.int v4), some (.int v5), some (.int s6), some (.int s7), some (.int s8), some (.int p12.1), none, none]) dX4_kept_82 (by decide) rfl ?_
      refine g_iload dX4_kept_84 rfl ?_
      obtain ⟨p13, ep13, h⟩ := bs h
      refine q_stat (Z := MJ6_bitCount_0f7a4) (toI_s ep13) dX4_kept_86 mX4_38.1 mX4_38.2 (Nat.le_of_ble_eq_true rfl) rfl rfl (Nat.le_of_ble_eq_true rfl) (Nat.le_of_ble_eq_true rfl) ?_
      show Go O (d + 1) MX4_kept 89 [some (.ref v0), some (.ref v1), some (.int v2), none, some (.int v4), some (.int v5), some (.int s6), some (.int s7), some (.int s8), some (.int p12.1), none, none] [.int p13.1] p13.2 P
      refine g_iload dX4_kept_89 rfl ?_
      obtain ⟨p14, ep14, h⟩ := bs h
      refine q_stat (Z := MJ6_bitCount_0f7a4) (toI_s ep14) dX4_kept_91 mX4_38.1 mX4_38.2 (Nat.le_of_ble_eq_true rfl) rfl rfl (Nat.le_of_ble_eq_true rfl) (Nat.le_of_ble_eq_true rfl) ?_
      show Go O (d + 1) MX4_kept 94 [some (.ref v0), some (.ref v1), some (.int v2), none, some (.int v4), some (.int v5), some (.int s6), some (.int s7), some (.int s8), some (.int p12.1), none, none] [.int p14.1, .int p13.1] p14.2 P
      refine g_isub dX4_kept_94 ?_
      refine g_istore (ls' := [some (.ref v0), some (.ref v1), some (.int v2), none, some (.int v4), some (.int v5), some (.int s6), some (.int s7), some (.int s8), some (.int p12.1), some (.int (p13.1 - p14.1)), none]) dX4_kept_95 (by decide) rfl ?_
      refine g_iload dX4_kept_97 rfl ?_
      have hj : Go O (d + 1) MX4_kept 119 [some (.ref v0), some (.ref v1), some (.int v2), none, some (.int v4), some (.int v5), some (.int s6), some (.int s7), some (.int s8), some (.int p12.1), none, none] [.int (if 0 < (p13.1 - p14.1) then (nI 1) else (if (p13.1 - p14.1) = 0 then (if s7 ≤ p12.1 then (nI 0) else (nI 1)) else (nI 0)))] p14.2 P := by
        refine g_istore (ls' := [some (.ref v0), some (.ref v1), some (.int v2), none, some (.int v4), some (.int v5), some (.int s6), some (.int s7), some (.int s8), some (.int p12.1), none, some (.int (if 0 < (p13.1 - p14.1) then (nI 1) else (if (p13.1 - p14.1) = 0 then (if s7 ≤ p12.1 then (nI 0) else (nI 1)) else (nI 0))))]) dX4_kept_119 (by decide) rfl ?_
        refine g_iload dX4_kept_121 rfl ?_
        refine g_iload dX4_kept_123 rfl ?_
        refine g_iconst (v := (-1)) dX4_kept_125 (by decide) ?_
        refine g_ixor dX4_kept_126 ?_
        refine g_iand dX4_kept_127 ?_
        refine g_if_ne (t := 155) dX4_kept_128 (by decide) (fun c19 => ?_) (fun c19 => ?_)
        · rw [if_neg c19] at h
          refine q_iinc (w := nI 1) (ls' := [some (.ref v0), some (.ref v1), some (.int v2), none, some (.int v4), some (.int v5), some (.int s6), some (.int s7), some (.int (s8 + nI 1)), some (.int p12.1), none, some (.int (if 0 < (p13.1 - p14.1) then (nI 1) else (if (p13.1 - p14.1) = 0 then (if s7 ≤ p12.1 then (nI 0) else (nI 1)) else (nI 0))))]) dX4_kept_155 (by decide) rfl (by decide) rfl ?_
          refine g_goto (t := 69) dX4_kept_158 (by decide) ?_
          refine Go_le ?_ (hin (s6, s7, (s8 + nI 1), p14.2) (Option.some.inj h).symm)
          exact And.intro rfl (And.intro rfl (And.intro rfl (And.intro rfl (And.intro rfl (And.intro rfl (And.intro rfl (And.intro rfl (trivial))))))))
        · rw [if_pos c19] at h
          refine g_iload dX4_kept_131 rfl ?_
          refine g_aload_n dX4_kept_133 rfl ?_
          obtain ⟨x20, ex20, h⟩ := bs h
          refine q_getA dX4_kept_134 fX4_43 ex20 ?_
          refine g_iload_n dX4_kept_137 rfl ?_
          obtain ⟨x21, ex21, h⟩ := bs h
          refine q_iald dX4_kept_138 ex21 ?_
          have hj : Go O (d + 1) MX4_kept 155 [some (.ref v0), some (.ref v1), some (.int v2), none, some (.int v4), some (.int v5), some (.int (if x21 < p12.1 then s6 else (if (if 0 < (p13.1 - p14.1) then (nI 1) else (if (p13.1 - p14.1) = 0 then (if s7 ≤ p12.1 then (nI 0) else (nI 1)) else (nI 0))) = 0 then s6 else s8))), some (.int (if x21 < p12.1 then s7 else (if (if 0 < (p13.1 - p14.1) then (nI 1) else (if (p13.1 - p14.1) = 0 then (if s7 ≤ p12.1 then (nI 0) else (nI 1)) else (nI 0))) = 0 then s7 else p12.1))), some (.int s8), none, none, none] [] p14.2 P := by
            refine q_iinc (w := nI 1) (ls' := [some (.ref v0), some (.ref v1), some (.int v2), none, some (.int v4), some (.int v5), some (.int (if x21 < p12.1 then s6 else (if (if 0 < (p13.1 - p14.1) then (nI 1) else (if (p13.1 - p14.1) = 0 then (if s7 ≤ p12.1 then (nI 0) else (nI 1)) else (nI 0))) = 0 then s6 else s8))), some (.int (if x21 < p12.1 then s7 else (if (if 0 < (p13.1 - p14.1) then (nI 1) else (if (p13.1 - p14.1) = 0 then (if s7 ≤ p12.1 then (nI 0) else (nI 1)) else (nI 0))) = 0 then s7 else p12.1))), some (.int (s8 + nI 1)), none, none, none]) dX4_kept_155 (by decide) rfl (by decide) rfl ?_
            refine g_goto (t := 69) dX4_kept_158 (by decide) ?_
            refine Go_le ?_ (hin ((if x21 < p12.1 then s6 else (if (if 0 < (p13.1 - p14.1) then (nI 1) else (if (p13.1 - p14.1) = 0 then (if s7 ≤ p12.1 then (nI 0) else (nI 1)) else (nI 0))) = 0 then s6 else s8)), (if x21 < p12.1 then s7 else (if (if 0 < (p13.1 - p14.1) then (nI 1) else (if (p13.1 - p14.1) = 0 then (if s7 ≤ p12.1 then (nI 0) else (nI 1)) else (nI 0))) = 0 then s7 else p12.1)), (s8 + nI 1), p14.2) (Option.some.inj h).symm)
            exact And.intro rfl (And.intro rfl (And.intro rfl (And.intro rfl (And.intro rfl (And.intro rfl (And.intro rfl (And.intro rfl (trivial))))))))
          refine g_ic_gt (t := 155) dX4_kept_139 (by decide) (fun c22 => ?_) (fun c22 => ?_)
          · skip
            have hk : Go O (d + 1) MX4_kept 155 [some (.ref v0), some (.ref v1), some (.int v2), none, some (.int v4), some (.int v5), some (.int s6), some (.int s7), some (.int s8), none, none, none] [] p14.2 P := by simpa only [if_pos c22] using hj
            refine Go_le ?_ hk
            exact And.intro rfl (And.intro rfl (And.intro rfl (And.intro rfl (And.intro rfl (And.intro rfl (And.intro rfl (And.intro rfl (trivial))))))))
          · skip
            refine g_iload dX4_kept_142 rfl ?_
            refine g_if_eq (t := 155) dX4_kept_144 (by decide) (fun c23 => ?_) (fun c23 => ?_)
            · skip
              have hk : Go O (d + 1) MX4_kept 155 [some (.ref v0), some (.ref v1), some (.int v2), none, some (.int v4), some (.int v5), some (.int s6), some (.int s7), some (.int s8), none, none, none] [] p14.2 P := by simpa only [if_neg c22, if_pos c23] using hj
              refine Go_le ?_ hk
              exact And.intro rfl (And.intro rfl (And.intro rfl (And.intro rfl (And.intro rfl (And.intro rfl (And.intro rfl (And.intro rfl (trivial))))))))
            · skip
              refine g_iload dX4_kept_147 rfl ?_
              refine g_istore (ls' := [some (.ref v0), some (.ref v1), some (.int v2), none, some (.int v4), some (.int v5), some (.int s8), some (.int s7), some (.int s8), some (.int p12.1), none, some (.int (if 0 < (p13.1 - p14.1) then (nI 1) else (if (p13.1 - p14.1) = 0 then (if s7 ≤ p12.1 then (nI 0) else (nI 1)) else (nI 0))))]) dX4_kept_149 (by decide) rfl ?_
              refine g_iload dX4_kept_151 rfl ?_
              refine g_istore (ls' := [some (.ref v0), some (.ref v1), some (.int v2), none, some (.int v4), some (.int v5), some (.int s8), some (.int p12.1), some (.int s8), some (.int p12.1), none, some (.int (if 0 < (p13.1 - p14.1) then (nI 1) else (if (p13.1 - p14.1) = 0 then (if s7 ≤ p12.1 then (nI 0) else (nI 1)) else (nI 0))))]) dX4_kept_153 (by decide) rfl ?_
              have hk : Go O (d + 1) MX4_kept 155 [some (.ref v0), some (.ref v1), some (.int v2), none, some (.int v4), some (.int v5), some (.int s8), some (.int p12.1), some (.int s8), none, none, none] [] p14.2 P := by simpa only [if_neg c22, if_neg c23] using hj
              refine Go_le ?_ hk
              exact And.intro rfl (And.intro rfl (And.intro rfl (And.intro rfl (And.intro rfl (And.intro rfl (And.intro rfl (And.intro rfl (trivial))))))))
      refine g_if_gt (t := 114) dX4_kept_99 (by decide) (fun c15 => ?_) (fun c15 => ?_)
      · skip
        refine g_iconst (v := (nI 1)) dX4_kept_114 (by decide) ?_
        refine g_goto (t := 119) dX4_kept_115 (by decide) ?_
        have hk : Go O (d + 1) MX4_kept 119 [some (.ref v0), some (.ref v1), some (.int v2), none, some (.int v4), some (.int v5), some (.int s6), some (.int s7), some (.int s8), some (.int p12.1), none, none] [.int (nI 1)] p14.2 P := by simpa only [if_pos c15] using hj
        refine Go_le ?_ hk
        exact And.intro rfl (And.intro rfl (And.intro rfl (And.intro rfl (And.intro rfl (And.intro rfl (And.intro rfl (And.intro rfl (And.intro rfl (trivial)))))))))
      · skip
        refine g_iload dX4_kept_102 rfl ?_
        refine g_if_ne (t := 118) dX4_kept_104 (by decide) (fun c16 => ?_) (fun c16 => ?_)
        · skip
          refine g_iconst (v := (nI 0)) dX4_kept_118 (by decide) ?_
          have hk : Go O (d + 1) MX4_kept 119 [some (.ref v0), some (.ref v1), some (.int v2), none, some (.int v4), some (.int v5), some (.int s6), some (.int s7), some (.int s8), some (.int p12.1), none, none] [.int (nI 0)] p14.2 P := by simpa only [if_neg c15, if_neg c16] using hj
          refine Go_le ?_ hk
          exact And.intro rfl (And.intro rfl (And.intro rfl (And.intro rfl (And.intro rfl (And.intro rfl (And.intro rfl (And.intro rfl (And.intro rfl (trivial)))))))))
        · skip
          refine g_iload dX4_kept_107 rfl ?_
          refine g_iload dX4_kept_109 rfl ?_
          refine g_ic_ge (t := 118) dX4_kept_111 (by decide) (fun c17 => ?_) (fun c17 => ?_)
          · skip
            refine g_iconst (v := (nI 0)) dX4_kept_118 (by decide) ?_
            have hk : Go O (d + 1) MX4_kept 119 [some (.ref v0), some (.ref v1), some (.int v2), none, some (.int v4), some (.int v5), some (.int s6), some (.int s7), some (.int s8), some (.int p12.1), none, none] [.int (nI 0)] p14.2 P := by simpa only [if_neg c15, if_pos c16, if_pos c17] using hj
            refine Go_le ?_ hk
            exact And.intro rfl (And.intro rfl (And.intro rfl (And.intro rfl (And.intro rfl (And.intro rfl (And.intro rfl (And.intro rfl (And.intro rfl (trivial)))))))))
          · skip
            refine g_iconst (v := (nI 1)) dX4_kept_114 (by decide) ?_
            refine g_goto (t := 119) dX4_kept_115 (by decide) ?_
            have hk : Go O (d + 1) MX4_kept 119 [some (.ref v0), some (.ref v1), some (.int v2), none, some (.int v4), some (.int v5), some (.int s6), some (.int s7), some (.int s8), some (.int p12.1), none, none] [.int (nI 1)] p14.2 P := by simpa only [if_neg c15, if_pos c16, if_neg c17] using hj
            refine Go_le ?_ hk
            exact And.intro rfl (And.intro rfl (And.intro rfl (And.intro rfl (And.intro rfl (And.intro rfl (And.intro rfl (And.intro rfl (And.intro rfl (trivial)))))))))
noncomputable def F_X4_kept (O : mO) (d : Nat) (a0 : Nat) (a1 : Nat) (a2 : Int32) (a3 : Int32) (a4 : Int32) (K : mH) : Option (Int32 × mH) :=
  (toI (vc O d 2 MX2_deadOf a1 [.int a2] K)).bind fun p1 =>
  (toI (vc O d 2 MX2_inAfter a1 [.int (nI 0)] p1.2)).bind fun p2 =>
  (lupF (fun (q : Int32 × mH) => F_X4_kept_l16 O d a0 a1 a2 a3 a4 (p1.1 &&& p2.1) q.1 q.2) FU ((nI 0), p2.2)).bind fun r10 =>
  (lupF (fun (q : Int32 × Int32 × Int32 × mH) => F_X4_kept_l69 O d a0 a1 a2 a4 (p1.1 &&& p2.1) q.1 q.2.1 q.2.2.1 q.2.2.2) FU ((nI 0), (nI 0), (nI 1), r10)).bind fun r24 =>
  if a4 = 0 then
    (toI (ev O d MJ6_bitCount_0f7a4 [.int r24.1] r24.2.2)).bind fun p27 =>
    some (p27.1, p27.2)
  else
    some ((if a4 = (nI 1) then r24.2.1 else r24.1), r24.2.2)
theorem e_X4_kept {O : mO} {d : Nat} {a0 : Nat} {a1 : Nat} {a2 : Int32} {a3 : Int32} {a4 : Int32} {K : mH} {r0 : Int32} {K0 : mH} (h : F_X4_kept O d a0 a1 a2 a3 a4 K = some (r0, K0)) : ev O (d + 1) MX4_kept [.ref a0, .ref a1, .int a2, .int a3, .int a4] K = some (some (.int r0), K0) := by
  refine Rn_evx ?_
  show Go O (d + 1) MX4_kept 0 [some (.ref a0), some (.ref a1), some (.int a2), some (.int a3), some (.int a4), none, none, none, none, none, none, none] [] K _
  generalize hP : (fun (r : Option Value) (K' : mH) => (r, K') = (some (.int r0), K0)) = P
  have hret : ∀ (r : Int32) (K' : mH), (r, K') = (r0, K0) → P (some (.int r)) K' := by
    intro r K' e
    cases e
    subst hP
    rfl
  clear hP
  unfold F_X4_kept at h
  refine g_aload_n dX4_kept_0 rfl ?_
  refine g_iload_n dX4_kept_1 rfl ?_
  obtain ⟨p1, ep1, h⟩ := bs h
  refine q_virt (Z := MX2_deadOf) (c := (RX2, TX2, 18)) (toI_s ep1) dX4_kept_2 mX4_18.1 mX4_18.2 (Nat.le_of_ble_eq_true rfl) rfl rfl (Nat.le_of_ble_eq_true rfl) (Nat.le_of_ble_eq_true rfl) rfl rfl ?_
  show Go O (d + 1) MX4_kept 5 [some (.ref a0), some (.ref a1), some (.int a2), some (.int a3), some (.int a4), none, none, none, none, none, none, none] [.int p1.1] p1.2 P
  refine g_aload_n dX4_kept_5 rfl ?_
  refine g_iconst (v := (nI 0)) dX4_kept_6 (by decide) ?_
  obtain ⟨p2, ep2, h⟩ := bs h
  refine q_virt (Z := MX2_inAfter) (c := (RX2, TX2, 18)) (toI_s ep2) dX4_kept_7 mX4_24.1 mX4_24.2 (Nat.le_of_ble_eq_true rfl) rfl rfl (Nat.le_of_ble_eq_true rfl) (Nat.le_of_ble_eq_true rfl) rfl rfl ?_
  show Go O (d + 1) MX4_kept 10 [some (.ref a0), some (.ref a1), some (.int a2), some (.int a3), some (.int a4), none, none, none, none, none, none, none] [.int p2.1, .int p1.1] p2.2 P
  refine g_iand dX4_kept_10 ?_
  refine g_istore (ls' := [some (.ref a0), some (.ref a1), some (.int a2), some (.int a3), some (.int a4), some (.int (p1.1 &&& p2.1)), none, none, none, none, none, none]) dX4_kept_11 (by decide) rfl ?_
  refine g_iconst (v := (nI 0)) dX4_kept_13 (by decide) ?_
  refine g_istore (ls' := [some (.ref a0), some (.ref a1), some (.int a2), some (.int a3), some (.int a4), some (.int (p1.1 &&& p2.1)), some (.int (nI 0)), none, none, none, none, none]) dX4_kept_14 (by decide) rfl ?_
  obtain ⟨r10, er10, h⟩ := bs h
  have hx : Go O (d + 1) MX4_kept 60 [some (.ref a0), some (.ref a1), some (.int a2), none, some (.int a4), some (.int (p1.1 &&& p2.1)), none, none, none, none, none, none] [] r10 P := by
    refine g_iconst (v := (nI 0)) dX4_kept_60 (by decide) ?_
    refine g_istore (ls' := [some (.ref a0), some (.ref a1), some (.int a2), none, some (.int a4), some (.int (p1.1 &&& p2.1)), some (.int (nI 0)), none, none, none, none, none]) dX4_kept_61 (by decide) rfl ?_
    refine g_iconst (v := (nI 0)) dX4_kept_63 (by decide) ?_
    refine g_istore (ls' := [some (.ref a0), some (.ref a1), some (.int a2), none, some (.int a4), some (.int (p1.1 &&& p2.1)), some (.int (nI 0)), some (.int (nI 0)), none, none, none, none]) dX4_kept_64 (by decide) rfl ?_
    refine g_iconst (v := (nI 1)) dX4_kept_66 (by decide) ?_
    refine g_istore (ls' := [some (.ref a0), some (.ref a1), some (.int a2), none, some (.int a4), some (.int (p1.1 &&& p2.1)), some (.int (nI 0)), some (.int (nI 0)), some (.int (nI 1)), none, none, none]) dX4_kept_67 (by decide) rfl ?_
    obtain ⟨r24, er24, h⟩ := bs h
    have hx : Go O (d + 1) MX4_kept 161 [none, none, none, none, some (.int a4), none, some (.int r24.1), some (.int r24.2.1), none, none, none, none] [] r24.2.2 P := by
      refine g_iload dX4_kept_161 rfl ?_
      refine g_if_ne (t := 172) dX4_kept_163 (by decide) (fun c25 => ?_) (fun c25 => ?_)
      · rw [if_neg c25] at h
        refine g_iload dX4_kept_172 rfl ?_
        refine g_iconst (v := (nI 1)) dX4_kept_174 (by decide) ?_
        have hj : Go O (d + 1) MX4_kept 185 [none, none, none, none, none, none, none, none, none, none, none, none] [.int (if a4 = (nI 1) then r24.2.1 else r24.1)] r24.2.2 P := by
          exact g_ireturn dX4_kept_185 rfl (by first | rfl | decide) (hret _ _ (Option.some.inj h))
        refine g_ic_ne (t := 183) dX4_kept_175 (by decide) (fun c26 => ?_) (fun c26 => ?_)
        · skip
          refine g_iload dX4_kept_183 rfl ?_
          have hk : Go O (d + 1) MX4_kept 185 [none, none, none, none, none, none, none, none, none, none, none, none] [.int r24.1] r24.2.2 P := by simpa only [if_neg c26] using hj
          refine Go_le ?_ hk
          exact trivial
        · skip
          refine g_iload dX4_kept_178 rfl ?_
          refine g_goto (t := 185) dX4_kept_180 (by decide) ?_
          have hk : Go O (d + 1) MX4_kept 185 [none, none, none, none, none, none, none, none, none, none, none, none] [.int r24.2.1] r24.2.2 P := by simpa only [if_pos c26] using hj
          refine Go_le ?_ hk
          exact trivial
      · rw [if_pos c25] at h
        refine g_iload dX4_kept_166 rfl ?_
        obtain ⟨p27, ep27, h⟩ := bs h
        refine q_stat (Z := MJ6_bitCount_0f7a4) (toI_s ep27) dX4_kept_168 mX4_38.1 mX4_38.2 (Nat.le_of_ble_eq_true rfl) rfl rfl (Nat.le_of_ble_eq_true rfl) (Nat.le_of_ble_eq_true rfl) ?_
        show Go O (d + 1) MX4_kept 171 [none, none, none, none, some (.int a4), none, some (.int r24.1), some (.int r24.2.1), none, none, none, none] [.int p27.1] p27.2 P
        exact g_ireturn dX4_kept_171 rfl (by first | rfl | decide) (hret _ _ (Option.some.inj h))
    refine Go_le ?_ (e_X4_kept_l69 (fun q e => by cases e; exact hx) FU ((nI 0), (nI 0), (nI 1), r10) er24)
    exact And.intro rfl (And.intro rfl (And.intro rfl (And.intro rfl (And.intro rfl (And.intro rfl (And.intro rfl (And.intro rfl (trivial))))))))
  refine Go_le ?_ (e_X4_kept_l16 (fun q e => by cases e; exact hx) FU ((nI 0), p2.2) er10)
  exact And.intro rfl (And.intro rfl (And.intro rfl (And.intro rfl (And.intro rfl (And.intro rfl (And.intro rfl (trivial)))))))
noncomputable def F_X4_costOf (O : mO) (d : Nat) (a0 : Nat) (a1 : Int32) (a2 : Int32) (K : mH) : Option (Int32 × mH) :=
  (gtA K a0 2 5).bind fun x1 =>
  (rdI O K x1 a1).bind fun x2 =>
  (toR (vc O d 2 MX2_inForce a0 [] K)).bind fun p3 =>
  (toI (vc O d 2 MX2_told a0 [va_rf p3.1, .int (nI 1), .int a1] p3.2)).bind fun p4 =>
  if (if (nI 1) < p4.1 then p4.1 else (nI 1)) = 0 then none else
  (toR (vc O d 2 MX2_inForce a0 [] p4.2)).bind fun p5 =>
  (toI (vc O d 2 MX2_told a0 [va_rf p5.1, .int (nI 0), .int a1] p5.2)).bind fun p6 =>
  some ((((((if (nI 0) < (a2 - x2) then (a2 - x2) else (nI 0)) + (if (nI 1) < p4.1 then p4.1 else (nI 1))) - (nI 1)) / (if (nI 1) < p4.1 then p4.1 else (nI 1))) * p6.1), p6.2)
theorem e_X4_costOf {O : mO} {d : Nat} {a0 : Nat} {a1 : Int32} {a2 : Int32} {K : mH} {r0 : Int32} {K0 : mH} (h : F_X4_costOf O d a0 a1 a2 K = some (r0, K0)) : ev O (d + 1) MX4_costOf [.ref a0, .int a1, .int a2] K = some (some (.int r0), K0) := by
  refine Rn_evx ?_
  show Go O (d + 1) MX4_costOf 0 [some (.ref a0), some (.int a1), some (.int a2), none, none] [] K _
  generalize hP : (fun (r : Option Value) (K' : mH) => (r, K') = (some (.int r0), K0)) = P
  have hret : ∀ (r : Int32) (K' : mH), (r, K') = (r0, K0) → P (some (.int r)) K' := by
    intro r K' e
    cases e
    subst hP
    rfl
  clear hP
  unfold F_X4_costOf at h
  refine g_iconst (v := (nI 0)) dX4_costOf_0 (by decide) ?_
  refine g_iload_n dX4_costOf_1 rfl ?_
  refine g_aload_n dX4_costOf_2 rfl ?_
  obtain ⟨x1, ex1, h⟩ := bs h
  refine q_getA dX4_costOf_3 fX4_46 ex1 ?_
  refine g_iload_n dX4_costOf_6 rfl ?_
  obtain ⟨x2, ex2, h⟩ := bs h
  refine q_iald dX4_costOf_7 ex2 ?_
  refine g_isub dX4_costOf_8 ?_
  refine g_max dX4_costOf_9 mX4_49 (Nat.le_of_ble_eq_true rfl) (mNo2_h3 rfl) ?_
  refine g_istore_n (ls' := [some (.ref a0), some (.int a1), some (.int a2), some (.int (if (nI 0) < (a2 - x2) then (a2 - x2) else (nI 0))), none]) dX4_costOf_12 (by decide) rfl ?_
  refine g_iconst (v := (nI 1)) dX4_costOf_13 (by decide) ?_
  refine g_aload_n dX4_costOf_14 rfl ?_
  refine g_aload_n dX4_costOf_15 rfl ?_
  obtain ⟨p3, ep3, h⟩ := bs h
  refine q_virt (Z := MX2_inForce) (c := (RX2, TX2, 18)) (toR_s ep3) dX4_costOf_16 mX4_55.1 mX4_55.2 (Nat.le_of_ble_eq_true rfl) rfl rfl (Nat.le_of_ble_eq_true rfl) (Nat.le_of_ble_eq_true rfl) rfl rfl ?_
  show Go O (d + 1) MX4_costOf 19 [some (.ref a0), some (.int a1), some (.int a2), some (.int (if (nI 0) < (a2 - x2) then (a2 - x2) else (nI 0))), none] [va_rf p3.1, .ref a0, .int (nI 1)] p3.2 P
  refine g_iconst (v := (nI 1)) dX4_costOf_19 (by decide) ?_
  refine g_iload_n dX4_costOf_20 rfl ?_
  obtain ⟨p4, ep4, h⟩ := bs h
  refine q_virt (Z := MX2_told) (c := (RX2, TX2, 18)) (toI_s ep4) dX4_costOf_21 mX4_59.1 mX4_59.2 (Nat.le_of_ble_eq_true rfl) rfl rfl (Nat.le_of_ble_eq_true rfl) (by cases p3.1 <;> exact Nat.le_of_ble_eq_true rfl) rfl rfl ?_
  show Go O (d + 1) MX4_costOf 24 [some (.ref a0), some (.int a1), some (.int a2), some (.int (if (nI 0) < (a2 - x2) then (a2 - x2) else (nI 0))), none] [.int p4.1, .int (nI 1)] p4.2 P
  refine g_max dX4_costOf_24 mX4_49 (Nat.le_of_ble_eq_true rfl) (mNo2_h3 rfl) ?_
  refine g_istore (ls' := [some (.ref a0), some (.int a1), some (.int a2), some (.int (if (nI 0) < (a2 - x2) then (a2 - x2) else (nI 0))), some (.int (if (nI 1) < p4.1 then p4.1 else (nI 1)))]) dX4_costOf_27 (by decide) rfl ?_
  refine g_iload_n dX4_costOf_29 rfl ?_
  refine g_iload dX4_costOf_30 rfl ?_
  refine g_iadd dX4_costOf_32 ?_
  refine g_iconst (v := (nI 1)) dX4_costOf_33 (by decide) ?_
  refine g_isub dX4_costOf_34 ?_
  refine g_iload dX4_costOf_35 rfl ?_
  by_cases c7 : (if (nI 1) < p4.1 then p4.1 else (nI 1)) = 0
  · rw [if_pos c7] at h
    cases h
  rw [if_neg c7] at h
  refine g_idiv dX4_costOf_37 c7 ?_
  refine g_aload_n dX4_costOf_38 rfl ?_
  refine g_aload_n dX4_costOf_39 rfl ?_
  obtain ⟨p5, ep5, h⟩ := bs h
  refine q_virt (Z := MX2_inForce) (c := (RX2, TX2, 18)) (toR_s ep5) dX4_costOf_40 mX4_55.1 mX4_55.2 (Nat.le_of_ble_eq_true rfl) rfl rfl (Nat.le_of_ble_eq_true rfl) (Nat.le_of_ble_eq_true rfl) rfl rfl ?_
  show Go O (d + 1) MX4_costOf 43 [some (.ref a0), some (.int a1), some (.int a2), some (.int (if (nI 0) < (a2 - x2) then (a2 - x2) else (nI 0))), some (.int (if (nI 1) < p4.1 then p4.1 else (nI 1)))] [va_rf p5.1, .ref a0, .int ((((if (nI 0) < (a2 - x2) then (a2 - x2) else (nI 0)) + (if (nI 1) < p4.1 then p4.1 else (nI 1))) - (nI 1)) / (if (nI 1) < p4.1 then p4.1 else (nI 1)))] p5.2 P
  refine g_iconst (v := (nI 0)) dX4_costOf_43 (by decide) ?_
  refine g_iload_n dX4_costOf_44 rfl ?_
  obtain ⟨p6, ep6, h⟩ := bs h
  refine q_virt (Z := MX2_told) (c := (RX2, TX2, 18)) (toI_s ep6) dX4_costOf_45 mX4_59.1 mX4_59.2 (Nat.le_of_ble_eq_true rfl) rfl rfl (Nat.le_of_ble_eq_true rfl) (by cases p5.1 <;> exact Nat.le_of_ble_eq_true rfl) rfl rfl ?_
  show Go O (d + 1) MX4_costOf 48 [some (.ref a0), some (.int a1), some (.int a2), some (.int (if (nI 0) < (a2 - x2) then (a2 - x2) else (nI 0))), some (.int (if (nI 1) < p4.1 then p4.1 else (nI 1)))] [.int p6.1, .int ((((if (nI 0) < (a2 - x2) then (a2 - x2) else (nI 0)) + (if (nI 1) < p4.1 then p4.1 else (nI 1))) - (nI 1)) / (if (nI 1) < p4.1 then p4.1 else (nI 1)))] p6.2 P
  refine g_imul dX4_costOf_48 ?_
  exact g_ireturn dX4_costOf_49 rfl (by first | rfl | decide) (hret _ _ (Option.some.inj h))
noncomputable def F_X4_costOfAll_l4 (O : mO) (d : Nat) (v0 : Nat) (v1 : Int32) (K : mH) (s2 : Int32) (s3 : Int32) : Option ((Int32 × Int32) ⊕ (Int32)) :=
  if (nI 8) ≤ s3 then
    some (.inr s2)
  else
    (gtA K v0 4 0).bind fun x2 =>
    (rdI O K x2 s3).bind fun x3 =>
    some (.inl ((s2 + (((v1 >>> (s3 &&& 31)) &&& (nI 1)) * x3)), (s3 + nI 1)))
theorem e_X4_costOfAll_l4 {O : mO} {d : Nat} {v0 : Nat} {v1 : Int32} {K : mH} {P : Option Value → mH → Prop} {x : Int32} (hex : ∀ q : Int32, x = q → Go O (d + 1) MX4_costOfAll 31 [none, none, some (.int q), none] [] K P) : ∀ (f : Nat) (q : Int32 × Int32), lupF (fun (q : Int32 × Int32) => F_X4_costOfAll_l4 O d v0 v1 K q.1 q.2) f q = some x → Go O (d + 1) MX4_costOfAll 4 [some (.ref v0), some (.int v1), some (.int q.1), some (.int q.2)] [] K P := by
  intro f
  induction f with
  | zero =>
    intro q h
    cases h
  | succ f ih =>
    intro q h
    obtain ⟨y, h, hy1, hy2⟩ := lupF_s h
    have hin : ∀ q : Int32 × Int32, y = .inl q → Go O (d + 1) MX4_costOfAll 4 [some (.ref v0), some (.int v1), some (.int q.1), some (.int q.2)] [] K P := fun q e => ih q (hy1 q e)
    replace hex : ∀ q : Int32, y = .inr q → Go O (d + 1) MX4_costOfAll 31 [none, none, some (.int q), none] [] K P := fun q e => hex q (hy2 q e).symm
    clear ih hy1 hy2
    obtain ⟨s2, s3⟩ := q
    dsimp only at h ⊢
    unfold F_X4_costOfAll_l4 at h
    refine g_iload_n dX4_costOfAll_4 rfl ?_
    refine g_bipush (v := (nI 8)) dX4_costOfAll_5 (by decide) ?_
    refine g_ic_ge (t := 31) dX4_costOfAll_7 (by decide) (fun c1 => ?_) (fun c1 => ?_)
    · rw [if_pos c1] at h
      refine Go_le ?_ (hex s2 (Option.some.inj h).symm)
      exact And.intro rfl (trivial)
    · rw [if_neg c1] at h
      refine g_iload_n dX4_costOfAll_10 rfl ?_
      refine g_iload_n dX4_costOfAll_11 rfl ?_
      refine g_iload_n dX4_costOfAll_12 rfl ?_
      refine g_ishr dX4_costOfAll_13 ?_
      refine g_iconst (v := (nI 1)) dX4_costOfAll_14 (by decide) ?_
      refine g_iand dX4_costOfAll_15 ?_
      refine g_aload_n dX4_costOfAll_16 rfl ?_
      obtain ⟨x2, ex2, h⟩ := bs h
      refine q_getA dX4_costOfAll_17 fX4_9 ex2 ?_
      refine g_iload_n dX4_costOfAll_20 rfl ?_
      obtain ⟨x3, ex3, h⟩ := bs h
      refine q_iald dX4_costOfAll_21 ex3 ?_
      refine g_imul dX4_costOfAll_22 ?_
      refine g_iadd dX4_costOfAll_23 ?_
      refine g_istore_n (ls' := [some (.ref v0), some (.int v1), some (.int (s2 + (((v1 >>> (s3 &&& 31)) &&& (nI 1)) * x3))), some (.int s3)]) dX4_costOfAll_24 (by decide) rfl ?_
      refine q_iinc (w := nI 1) (ls' := [some (.ref v0), some (.int v1), some (.int (s2 + (((v1 >>> (s3 &&& 31)) &&& (nI 1)) * x3))), some (.int (s3 + nI 1))]) dX4_costOfAll_25 (by decide) rfl (by decide) rfl ?_
      refine g_goto (t := 4) dX4_costOfAll_28 (by decide) ?_
      refine Go_le ?_ (hin ((s2 + (((v1 >>> (s3 &&& 31)) &&& (nI 1)) * x3)), (s3 + nI 1)) (Option.some.inj h).symm)
      exact And.intro rfl (And.intro rfl (And.intro rfl (And.intro rfl (trivial))))
noncomputable def F_X4_costOfAll (O : mO) (d : Nat) (a0 : Nat) (a1 : Int32) (K : mH) : Option (Int32 × mH) :=
  (lupF (fun (q : Int32 × Int32) => F_X4_costOfAll_l4 O d a0 a1 K q.1 q.2) FU ((nI 0), (nI 0))).bind fun r4 =>
  some (r4, K)
theorem e_X4_costOfAll {O : mO} {d : Nat} {a0 : Nat} {a1 : Int32} {K : mH} {r0 : Int32} {K0 : mH} (h : F_X4_costOfAll O d a0 a1 K = some (r0, K0)) : ev O (d + 1) MX4_costOfAll [.ref a0, .int a1] K = some (some (.int r0), K0) := by
  refine Rn_evx ?_
  show Go O (d + 1) MX4_costOfAll 0 [some (.ref a0), some (.int a1), none, none] [] K _
  generalize hP : (fun (r : Option Value) (K' : mH) => (r, K') = (some (.int r0), K0)) = P
  have hret : ∀ (r : Int32) (K' : mH), (r, K') = (r0, K0) → P (some (.int r)) K' := by
    intro r K' e
    cases e
    subst hP
    rfl
  clear hP
  unfold F_X4_costOfAll at h
  refine g_iconst (v := (nI 0)) dX4_costOfAll_0 (by decide) ?_
  refine g_istore_n (ls' := [some (.ref a0), some (.int a1), some (.int (nI 0)), none]) dX4_costOfAll_1 (by decide) rfl ?_
  refine g_iconst (v := (nI 0)) dX4_costOfAll_2 (by decide) ?_
  refine g_istore_n (ls' := [some (.ref a0), some (.int a1), some (.int (nI 0)), some (.int (nI 0))]) dX4_costOfAll_3 (by decide) rfl ?_
  obtain ⟨r4, er4, h⟩ := bs h
  have hx : Go O (d + 1) MX4_costOfAll 31 [none, none, some (.int r4), none] [] K P := by
    refine g_iload_n dX4_costOfAll_31 rfl ?_
    exact g_ireturn dX4_costOfAll_32 rfl (by first | rfl | decide) (hret _ _ (Option.some.inj h))
  refine Go_le ?_ (e_X4_costOfAll_l4 (fun q e => by cases e; exact hx) FU ((nI 0), (nI 0)) er4)
  exact And.intro rfl (And.intro rfl (And.intro rfl (And.intro rfl (trivial))))
noncomputable def F_X4_cheapestYear_l14 (O : mO) (d : Nat) (v1 : Nat) (v2 : Int32) (v3 : Int32) (s4 : Int32) (s5 : Int32) (s6 : Int32) (K : mH) : Option ((Int32 × Int32 × Int32 × mH) ⊕ (Int32 × Int32 × mH)) :=
  (gtA K v1 2 5).bind fun x2 =>
  (rdI O K x2 v2).bind fun x3 =>
  if x3 ≤ s6 then
    some (.inr (s4, s5, K))
  else
    (toI (vc O d 2 MX2_pricedAfter v1 [.int v2, .int s6] K)).bind fun p5 =>
    some (.inl ((if s5 ≤ p5.1 then s4 else s6), (if s5 ≤ p5.1 then s5 else p5.1), (s6 + nI 1), p5.2))
theorem e_X4_cheapestYear_l14 {O : mO} {d : Nat} {v1 : Nat} {v2 : Int32} {v3 : Int32} {P : Option Value → mH → Prop} {x : Int32 × Int32 × mH} (hex : ∀ q : Int32 × Int32 × mH, x = q → Go O (d + 1) MX4_cheapestYear 55 [none, none, none, some (.int v3), some (.int q.1), some (.int q.2.1), none, none] [] q.2.2 P) : ∀ (f : Nat) (q : Int32 × Int32 × Int32 × mH), lupF (fun (q : Int32 × Int32 × Int32 × mH) => F_X4_cheapestYear_l14 O d v1 v2 v3 q.1 q.2.1 q.2.2.1 q.2.2.2) f q = some x → Go O (d + 1) MX4_cheapestYear 14 [none, some (.ref v1), some (.int v2), some (.int v3), some (.int q.1), some (.int q.2.1), some (.int q.2.2.1), none] [] q.2.2.2 P := by
  intro f
  induction f with
  | zero =>
    intro q h
    cases h
  | succ f ih =>
    intro q h
    obtain ⟨y, h, hy1, hy2⟩ := lupF_s h
    have hin : ∀ q : Int32 × Int32 × Int32 × mH, y = .inl q → Go O (d + 1) MX4_cheapestYear 14 [none, some (.ref v1), some (.int v2), some (.int v3), some (.int q.1), some (.int q.2.1), some (.int q.2.2.1), none] [] q.2.2.2 P := fun q e => ih q (hy1 q e)
    replace hex : ∀ q : Int32 × Int32 × mH, y = .inr q → Go O (d + 1) MX4_cheapestYear 55 [none, none, none, some (.int v3), some (.int q.1), some (.int q.2.1), none, none] [] q.2.2 P := fun q e => hex q (hy2 q e).symm
    clear ih hy1 hy2
    obtain ⟨s4, s5, s6, K⟩ := q
    dsimp only at h ⊢
    unfold F_X4_cheapestYear_l14 at h
    refine g_iload dX4_cheapestYear_14 rfl ?_
    refine g_aload_n dX4_cheapestYear_16 rfl ?_
    obtain ⟨x2, ex2, h⟩ := bs h
    refine q_getA dX4_cheapestYear_17 fX4_46 ex2 ?_
    refine g_iload_n dX4_cheapestYear_20 rfl ?_
    obtain ⟨x3, ex3, h⟩ := bs h
    refine q_iald dX4_cheapestYear_21 ex3 ?_
    refine g_ic_ge (t := 55) dX4_cheapestYear_22 (by decide) (fun c4 => ?_) (fun c4 => ?_)
    · rw [if_pos c4] at h
      refine Go_le ?_ (hex (s4, s5, K) (Option.some.inj h).symm)
      exact And.intro rfl (And.intro rfl (And.intro rfl (trivial)))
    · rw [if_neg c4] at h
      refine g_aload_n dX4_cheapestYear_25 rfl ?_
      refine g_iload_n dX4_cheapestYear_26 rfl ?_
      refine g_iload dX4_cheapestYear_27 rfl ?_
      obtain ⟨p5, ep5, h⟩ := bs h
      refine q_virt (Z := MX2_pricedAfter) (c := (RX2, TX2, 18)) (toI_s ep5) dX4_cheapestYear_29 mX4_63.1 mX4_63.2 (Nat.le_of_ble_eq_true rfl) rfl rfl (Nat.le_of_ble_eq_true rfl) (Nat.le_of_ble_eq_true rfl) rfl rfl ?_
      show Go O (d + 1) MX4_cheapestYear 32 [none, some (.ref v1), some (.int v2), some (.int v3), some (.int s4), some (.int s5), some (.int s6), none] [.int p5.1] p5.2 P
      refine g_istore (ls' := [none, some (.ref v1), some (.int v2), some (.int v3), some (.int s4), some (.int s5), some (.int s6), some (.int p5.1)]) dX4_cheapestYear_32 (by decide) rfl ?_
      refine g_iload dX4_cheapestYear_34 rfl ?_
      refine g_iload dX4_cheapestYear_36 rfl ?_
      have hj : Go O (d + 1) MX4_cheapestYear 49 [none, some (.ref v1), some (.int v2), some (.int v3), some (.int (if s5 ≤ p5.1 then s4 else s6)), some (.int (if s5 ≤ p5.1 then s5 else p5.1)), some (.int s6), none] [] p5.2 P := by
        refine q_iinc (w := nI 1) (ls' := [none, some (.ref v1), some (.int v2), some (.int v3), some (.int (if s5 ≤ p5.1 then s4 else s6)), some (.int (if s5 ≤ p5.1 then s5 else p5.1)), some (.int (s6 + nI 1)), none]) dX4_cheapestYear_49 (by decide) rfl (by decide) rfl ?_
        refine g_goto (t := 14) dX4_cheapestYear_52 (by decide) ?_
        refine Go_le ?_ (hin ((if s5 ≤ p5.1 then s4 else s6), (if s5 ≤ p5.1 then s5 else p5.1), (s6 + nI 1), p5.2) (Option.some.inj h).symm)
        exact And.intro rfl (And.intro rfl (And.intro rfl (And.intro rfl (And.intro rfl (And.intro rfl (trivial))))))
      refine g_ic_ge (t := 49) dX4_cheapestYear_38 (by decide) (fun c6 => ?_) (fun c6 => ?_)
      · skip
        have hk : Go O (d + 1) MX4_cheapestYear 49 [none, some (.ref v1), some (.int v2), some (.int v3), some (.int s4), some (.int s5), some (.int s6), none] [] p5.2 P := by simpa only [if_pos c6] using hj
        refine Go_le ?_ hk
        exact And.intro rfl (And.intro rfl (And.intro rfl (And.intro rfl (And.intro rfl (And.intro rfl (trivial))))))
      · skip
        refine g_iload dX4_cheapestYear_41 rfl ?_
        refine g_istore (ls' := [none, some (.ref v1), some (.int v2), some (.int v3), some (.int s6), some (.int s5), some (.int s6), some (.int p5.1)]) dX4_cheapestYear_43 (by decide) rfl ?_
        refine g_iload dX4_cheapestYear_45 rfl ?_
        refine g_istore (ls' := [none, some (.ref v1), some (.int v2), some (.int v3), some (.int s6), some (.int p5.1), some (.int s6), some (.int p5.1)]) dX4_cheapestYear_47 (by decide) rfl ?_
        have hk : Go O (d + 1) MX4_cheapestYear 49 [none, some (.ref v1), some (.int v2), some (.int v3), some (.int s6), some (.int p5.1), some (.int s6), none] [] p5.2 P := by simpa only [if_neg c6] using hj
        refine Go_le ?_ hk
        exact And.intro rfl (And.intro rfl (And.intro rfl (And.intro rfl (And.intro rfl (And.intro rfl (trivial))))))
noncomputable def F_X4_cheapestYear (O : mO) (d : Nat) (a0 : Nat) (a1 : Nat) (a2 : Int32) (a3 : Int32) (K : mH) : Option (Int32 × mH) :=
  (toI (vc O d 2 MX2_pricedAfter a1 [.int a2, .int (nI 0)] K)).bind fun p1 =>
  (lupF (fun (q : Int32 × Int32 × Int32 × mH) => F_X4_cheapestYear_l14 O d a1 a2 a3 q.1 q.2.1 q.2.2.1 q.2.2.2) FU ((nI 0), p1.1, (nI 1), p1.2)).bind fun r7 =>
  some ((if a3 = 0 then r7.1 else r7.2.1), r7.2.2)
theorem e_X4_cheapestYear {O : mO} {d : Nat} {a0 : Nat} {a1 : Nat} {a2 : Int32} {a3 : Int32} {K : mH} {r0 : Int32} {K0 : mH} (h : F_X4_cheapestYear O d a0 a1 a2 a3 K = some (r0, K0)) : ev O (d + 1) MX4_cheapestYear [.ref a0, .ref a1, .int a2, .int a3] K = some (some (.int r0), K0) := by
  refine Rn_evx ?_
  show Go O (d + 1) MX4_cheapestYear 0 [some (.ref a0), some (.ref a1), some (.int a2), some (.int a3), none, none, none, none] [] K _
  generalize hP : (fun (r : Option Value) (K' : mH) => (r, K') = (some (.int r0), K0)) = P
  have hret : ∀ (r : Int32) (K' : mH), (r, K') = (r0, K0) → P (some (.int r)) K' := by
    intro r K' e
    cases e
    subst hP
    rfl
  clear hP
  unfold F_X4_cheapestYear at h
  refine g_iconst (v := (nI 0)) dX4_cheapestYear_0 (by decide) ?_
  refine g_istore (ls' := [some (.ref a0), some (.ref a1), some (.int a2), some (.int a3), some (.int (nI 0)), none, none, none]) dX4_cheapestYear_1 (by decide) rfl ?_
  refine g_aload_n dX4_cheapestYear_3 rfl ?_
  refine g_iload_n dX4_cheapestYear_4 rfl ?_
  refine g_iconst (v := (nI 0)) dX4_cheapestYear_5 (by decide) ?_
  obtain ⟨p1, ep1, h⟩ := bs h
  refine q_virt (Z := MX2_pricedAfter) (c := (RX2, TX2, 18)) (toI_s ep1) dX4_cheapestYear_6 mX4_63.1 mX4_63.2 (Nat.le_of_ble_eq_true rfl) rfl rfl (Nat.le_of_ble_eq_true rfl) (Nat.le_of_ble_eq_true rfl) rfl rfl ?_
  show Go O (d + 1) MX4_cheapestYear 9 [some (.ref a0), some (.ref a1), some (.int a2), some (.int a3), some (.int (nI 0)), none, none, none] [.int p1.1] p1.2 P
  refine g_istore (ls' := [some (.ref a0), some (.ref a1), some (.int a2), some (.int a3), some (.int (nI 0)), some (.int p1.1), none, none]) dX4_cheapestYear_9 (by decide) rfl ?_
  refine g_iconst (v := (nI 1)) dX4_cheapestYear_11 (by decide) ?_
  refine g_istore (ls' := [some (.ref a0), some (.ref a1), some (.int a2), some (.int a3), some (.int (nI 0)), some (.int p1.1), some (.int (nI 1)), none]) dX4_cheapestYear_12 (by decide) rfl ?_
  obtain ⟨r7, er7, h⟩ := bs h
  have hx : Go O (d + 1) MX4_cheapestYear 55 [none, none, none, some (.int a3), some (.int r7.1), some (.int r7.2.1), none, none] [] r7.2.2 P := by
    refine g_iload_n dX4_cheapestYear_55 rfl ?_
    have hj : Go O (d + 1) MX4_cheapestYear 66 [none, none, none, none, none, none, none, none] [.int (if a3 = 0 then r7.1 else r7.2.1)] r7.2.2 P := by
      exact g_ireturn dX4_cheapestYear_66 rfl (by first | rfl | decide) (hret _ _ (Option.some.inj h))
    refine g_if_ne (t := 64) dX4_cheapestYear_56 (by decide) (fun c8 => ?_) (fun c8 => ?_)
    · skip
      refine g_iload dX4_cheapestYear_64 rfl ?_
      have hk : Go O (d + 1) MX4_cheapestYear 66 [none, none, none, none, none, none, none, none] [.int r7.2.1] r7.2.2 P := by simpa only [if_neg c8] using hj
      refine Go_le ?_ hk
      exact trivial
    · skip
      refine g_iload dX4_cheapestYear_59 rfl ?_
      refine g_goto (t := 66) dX4_cheapestYear_61 (by decide) ?_
      have hk : Go O (d + 1) MX4_cheapestYear 66 [none, none, none, none, none, none, none, none] [.int r7.1] r7.2.2 P := by simpa only [if_pos c8] using hj
      refine Go_le ?_ hk
      exact trivial
  refine Go_le ?_ (e_X4_cheapestYear_l14 (fun q e => by cases e; exact hx) FU ((nI 0), p1.1, (nI 1), p1.2) er7)
  exact And.intro rfl (And.intro rfl (And.intro rfl (And.intro rfl (And.intro rfl (And.intro rfl (trivial))))))
noncomputable def F_X4_bestLook_l29 (O : mO) (d : Nat) (v1 : Nat) (v2 : Int32) (v3 : Int32) (v4 : Int32) (s5 : Int32) (s6 : Int32) (s7 : Int32) (K : mH) : Option ((Int32 × Int32 × Int32 × mH) ⊕ (Int32 × Int32 × mH)) :=
  if (nI 99) < s7 then
    some (.inr (s5, s6, K))
  else
    (toI (vc O d 2 MX2_inAfter v1 [.int s7] K)).bind fun p5 =>
    (toI (ev O d MJ6_bitCount_0f7a4 [.int (v3 &&& p5.1)] p5.2)).bind fun p6 =>
    some (.inl ((if s6 ≤ (if p6.1 < (v4 - p6.1) then (v4 - p6.1) else p6.1) then s5 else s7), (if s6 ≤ (if p6.1 < (v4 - p6.1) then (v4 - p6.1) else p6.1) then s6 else (if p6.1 < (v4 - p6.1) then (v4 - p6.1) else p6.1)), (s7 + nI 1), p6.2))
theorem e_X4_bestLook_l29 {O : mO} {d : Nat} {v1 : Nat} {v2 : Int32} {v3 : Int32} {v4 : Int32} {P : Option Value → mH → Prop} {x : Int32 × Int32 × mH} (hex : ∀ q : Int32 × Int32 × mH, x = q → Go O (d + 1) MX4_bestLook 82 [none, none, some (.int v2), none, none, some (.int q.1), some (.int q.2.1), none, none, none] [] q.2.2 P) : ∀ (f : Nat) (q : Int32 × Int32 × Int32 × mH), lupF (fun (q : Int32 × Int32 × Int32 × mH) => F_X4_bestLook_l29 O d v1 v2 v3 v4 q.1 q.2.1 q.2.2.1 q.2.2.2) f q = some x → Go O (d + 1) MX4_bestLook 29 [none, some (.ref v1), some (.int v2), some (.int v3), some (.int v4), some (.int q.1), some (.int q.2.1), some (.int q.2.2.1), none, none] [] q.2.2.2 P := by
  intro f
  induction f with
  | zero =>
    intro q h
    cases h
  | succ f ih =>
    intro q h
    obtain ⟨y, h, hy1, hy2⟩ := lupF_s h
    have hin : ∀ q : Int32 × Int32 × Int32 × mH, y = .inl q → Go O (d + 1) MX4_bestLook 29 [none, some (.ref v1), some (.int v2), some (.int v3), some (.int v4), some (.int q.1), some (.int q.2.1), some (.int q.2.2.1), none, none] [] q.2.2.2 P := fun q e => ih q (hy1 q e)
    replace hex : ∀ q : Int32 × Int32 × mH, y = .inr q → Go O (d + 1) MX4_bestLook 82 [none, none, some (.int v2), none, none, some (.int q.1), some (.int q.2.1), none, none, none] [] q.2.2 P := fun q e => hex q (hy2 q e).symm
    clear ih hy1 hy2
    obtain ⟨s5, s6, s7, K⟩ := q
    dsimp only at h ⊢
    unfold F_X4_bestLook_l29 at h
    refine g_iload dX4_bestLook_29 rfl ?_
    refine g_bipush (v := (nI 99)) dX4_bestLook_31 (by decide) ?_
    refine g_ic_gt (t := 82) dX4_bestLook_33 (by decide) (fun c4 => ?_) (fun c4 => ?_)
    · rw [if_pos c4] at h
      refine Go_le ?_ (hex (s5, s6, K) (Option.some.inj h).symm)
      exact And.intro rfl (And.intro rfl (And.intro rfl (trivial)))
    · rw [if_neg c4] at h
      refine g_iload_n dX4_bestLook_36 rfl ?_
      refine g_aload_n dX4_bestLook_37 rfl ?_
      refine g_iload dX4_bestLook_38 rfl ?_
      obtain ⟨p5, ep5, h⟩ := bs h
      refine q_virt (Z := MX2_inAfter) (c := (RX2, TX2, 18)) (toI_s ep5) dX4_bestLook_40 mX4_24.1 mX4_24.2 (Nat.le_of_ble_eq_true rfl) rfl rfl (Nat.le_of_ble_eq_true rfl) (Nat.le_of_ble_eq_true rfl) rfl rfl ?_
      show Go O (d + 1) MX4_bestLook 43 [none, some (.ref v1), some (.int v2), some (.int v3), some (.int v4), some (.int s5), some (.int s6), some (.int s7), none, none] [.int p5.1, .int v3] p5.2 P
      refine g_iand dX4_bestLook_43 ?_
      obtain ⟨p6, ep6, h⟩ := bs h
      refine q_stat (Z := MJ6_bitCount_0f7a4) (toI_s ep6) dX4_bestLook_44 mX4_38.1 mX4_38.2 (Nat.le_of_ble_eq_true rfl) rfl rfl (Nat.le_of_ble_eq_true rfl) (Nat.le_of_ble_eq_true rfl) ?_
      show Go O (d + 1) MX4_bestLook 47 [none, some (.ref v1), some (.int v2), some (.int v3), some (.int v4), some (.int s5), some (.int s6), some (.int s7), none, none] [.int p6.1] p6.2 P
      refine g_istore (ls' := [none, some (.ref v1), some (.int v2), some (.int v3), some (.int v4), some (.int s5), some (.int s6), some (.int s7), some (.int p6.1), none]) dX4_bestLook_47 (by decide) rfl ?_
      refine g_iload dX4_bestLook_49 rfl ?_
      refine g_iload dX4_bestLook_51 rfl ?_
      refine g_iload dX4_bestLook_53 rfl ?_
      refine g_isub dX4_bestLook_55 ?_
      refine g_max dX4_bestLook_56 mX4_49 (Nat.le_of_ble_eq_true rfl) (mNo2_h3 rfl) ?_
      refine g_istore (ls' := [none, some (.ref v1), some (.int v2), some (.int v3), some (.int v4), some (.int s5), some (.int s6), some (.int s7), some (.int p6.1), some (.int (if p6.1 < (v4 - p6.1) then (v4 - p6.1) else p6.1))]) dX4_bestLook_59 (by decide) rfl ?_
      refine g_iload dX4_bestLook_61 rfl ?_
      refine g_iload dX4_bestLook_63 rfl ?_
      have hj : Go O (d + 1) MX4_bestLook 76 [none, some (.ref v1), some (.int v2), some (.int v3), some (.int v4), some (.int (if s6 ≤ (if p6.1 < (v4 - p6.1) then (v4 - p6.1) else p6.1) then s5 else s7)), some (.int (if s6 ≤ (if p6.1 < (v4 - p6.1) then (v4 - p6.1) else p6.1) then s6 else (if p6.1 < (v4 - p6.1) then (v4 - p6.1) else p6.1))), some (.int s7), none, none] [] p6.2 P := by
        refine q_iinc (w := nI 1) (ls' := [none, some (.ref v1), some (.int v2), some (.int v3), some (.int v4), some (.int (if s6 ≤ (if p6.1 < (v4 - p6.1) then (v4 - p6.1) else p6.1) then s5 else s7)), some (.int (if s6 ≤ (if p6.1 < (v4 - p6.1) then (v4 - p6.1) else p6.1) then s6 else (if p6.1 < (v4 - p6.1) then (v4 - p6.1) else p6.1))), some (.int (s7 + nI 1)), none, none]) dX4_bestLook_76 (by decide) rfl (by decide) rfl ?_
        refine g_goto (t := 29) dX4_bestLook_79 (by decide) ?_
        refine Go_le ?_ (hin ((if s6 ≤ (if p6.1 < (v4 - p6.1) then (v4 - p6.1) else p6.1) then s5 else s7), (if s6 ≤ (if p6.1 < (v4 - p6.1) then (v4 - p6.1) else p6.1) then s6 else (if p6.1 < (v4 - p6.1) then (v4 - p6.1) else p6.1)), (s7 + nI 1), p6.2) (Option.some.inj h).symm)
        exact And.intro rfl (And.intro rfl (And.intro rfl (And.intro rfl (And.intro rfl (And.intro rfl (And.intro rfl (trivial)))))))
      refine g_ic_ge (t := 76) dX4_bestLook_65 (by decide) (fun c7 => ?_) (fun c7 => ?_)
      · skip
        have hk : Go O (d + 1) MX4_bestLook 76 [none, some (.ref v1), some (.int v2), some (.int v3), some (.int v4), some (.int s5), some (.int s6), some (.int s7), none, none] [] p6.2 P := by simpa only [if_pos c7] using hj
        refine Go_le ?_ hk
        exact And.intro rfl (And.intro rfl (And.intro rfl (And.intro rfl (And.intro rfl (And.intro rfl (And.intro rfl (trivial)))))))
      · skip
        refine g_iload dX4_bestLook_68 rfl ?_
        refine g_istore (ls' := [none, some (.ref v1), some (.int v2), some (.int v3), some (.int v4), some (.int s7), some (.int s6), some (.int s7), some (.int p6.1), some (.int (if p6.1 < (v4 - p6.1) then (v4 - p6.1) else p6.1))]) dX4_bestLook_70 (by decide) rfl ?_
        refine g_iload dX4_bestLook_72 rfl ?_
        refine g_istore (ls' := [none, some (.ref v1), some (.int v2), some (.int v3), some (.int v4), some (.int s7), some (.int (if p6.1 < (v4 - p6.1) then (v4 - p6.1) else p6.1)), some (.int s7), some (.int p6.1), some (.int (if p6.1 < (v4 - p6.1) then (v4 - p6.1) else p6.1))]) dX4_bestLook_74 (by decide) rfl ?_
        have hk : Go O (d + 1) MX4_bestLook 76 [none, some (.ref v1), some (.int v2), some (.int v3), some (.int v4), some (.int s7), some (.int (if p6.1 < (v4 - p6.1) then (v4 - p6.1) else p6.1)), some (.int s7), none, none] [] p6.2 P := by simpa only [if_neg c7] using hj
        refine Go_le ?_ hk
        exact And.intro rfl (And.intro rfl (And.intro rfl (And.intro rfl (And.intro rfl (And.intro rfl (And.intro rfl (trivial)))))))
noncomputable def F_X4_bestLook (O : mO) (d : Nat) (a0 : Nat) (a1 : Nat) (a2 : Int32) (K : mH) : Option (Int32 × mH) :=
  (toI (vc O d 2 MX2_strangers a1 [] K)).bind fun p1 =>
  if p1.1 = 0 then
    some ((-1), p1.2)
  else
    (toI (ev O d MJ6_bitCount_0f7a4 [.int p1.1] p1.2)).bind fun p3 =>
    (lupF (fun (q : Int32 × Int32 × Int32 × mH) => F_X4_bestLook_l29 O d a1 a2 p1.1 p3.1 q.1 q.2.1 q.2.2.1 q.2.2.2) FU ((nI 0), (p3.1 + (nI 1)), (nI 0), p3.2)).bind fun r8 =>
    some ((if a2 = 0 then r8.1 else r8.2.1), r8.2.2)
theorem e_X4_bestLook {O : mO} {d : Nat} {a0 : Nat} {a1 : Nat} {a2 : Int32} {K : mH} {r0 : Int32} {K0 : mH} (h : F_X4_bestLook O d a0 a1 a2 K = some (r0, K0)) : ev O (d + 1) MX4_bestLook [.ref a0, .ref a1, .int a2] K = some (some (.int r0), K0) := by
  refine Rn_evx ?_
  show Go O (d + 1) MX4_bestLook 0 [some (.ref a0), some (.ref a1), some (.int a2), none, none, none, none, none, none, none] [] K _
  generalize hP : (fun (r : Option Value) (K' : mH) => (r, K') = (some (.int r0), K0)) = P
  have hret : ∀ (r : Int32) (K' : mH), (r, K') = (r0, K0) → P (some (.int r)) K' := by
    intro r K' e
    cases e
    subst hP
    rfl
  clear hP
  unfold F_X4_bestLook at h
  refine g_aload_n dX4_bestLook_0 rfl ?_
  obtain ⟨p1, ep1, h⟩ := bs h
  refine q_virt (Z := MX2_strangers) (c := (RX2, TX2, 18)) (toI_s ep1) dX4_bestLook_1 mX4_66.1 mX4_66.2 (Nat.le_of_ble_eq_true rfl) rfl rfl (Nat.le_of_ble_eq_true rfl) (Nat.le_of_ble_eq_true rfl) rfl rfl ?_
  show Go O (d + 1) MX4_bestLook 4 [some (.ref a0), some (.ref a1), some (.int a2), none, none, none, none, none, none, none] [.int p1.1] p1.2 P
  refine g_istore_n (ls' := [some (.ref a0), some (.ref a1), some (.int a2), some (.int p1.1), none, none, none, none, none, none]) dX4_bestLook_4 (by decide) rfl ?_
  refine g_iload_n dX4_bestLook_5 rfl ?_
  refine g_if_ne (t := 11) dX4_bestLook_6 (by decide) (fun c2 => ?_) (fun c2 => ?_)
  · rw [if_neg c2] at h
    refine g_iload_n dX4_bestLook_11 rfl ?_
    obtain ⟨p3, ep3, h⟩ := bs h
    refine q_stat (Z := MJ6_bitCount_0f7a4) (toI_s ep3) dX4_bestLook_12 mX4_38.1 mX4_38.2 (Nat.le_of_ble_eq_true rfl) rfl rfl (Nat.le_of_ble_eq_true rfl) (Nat.le_of_ble_eq_true rfl) ?_
    show Go O (d + 1) MX4_bestLook 15 [some (.ref a0), some (.ref a1), some (.int a2), some (.int p1.1), none, none, none, none, none, none] [.int p3.1] p3.2 P
    refine g_istore (ls' := [some (.ref a0), some (.ref a1), some (.int a2), some (.int p1.1), some (.int p3.1), none, none, none, none, none]) dX4_bestLook_15 (by decide) rfl ?_
    refine g_iconst (v := (nI 0)) dX4_bestLook_17 (by decide) ?_
    refine g_istore (ls' := [some (.ref a0), some (.ref a1), some (.int a2), some (.int p1.1), some (.int p3.1), some (.int (nI 0)), none, none, none, none]) dX4_bestLook_18 (by decide) rfl ?_
    refine g_iload dX4_bestLook_20 rfl ?_
    refine g_iconst (v := (nI 1)) dX4_bestLook_22 (by decide) ?_
    refine g_iadd dX4_bestLook_23 ?_
    refine g_istore (ls' := [some (.ref a0), some (.ref a1), some (.int a2), some (.int p1.1), some (.int p3.1), some (.int (nI 0)), some (.int (p3.1 + (nI 1))), none, none, none]) dX4_bestLook_24 (by decide) rfl ?_
    refine g_iconst (v := (nI 0)) dX4_bestLook_26 (by decide) ?_
    refine g_istore (ls' := [some (.ref a0), some (.ref a1), some (.int a2), some (.int p1.1), some (.int p3.1), some (.int (nI 0)), some (.int (p3.1 + (nI 1))), some (.int (nI 0)), none, none]) dX4_bestLook_27 (by decide) rfl ?_
    obtain ⟨r8, er8, h⟩ := bs h
    have hx : Go O (d + 1) MX4_bestLook 82 [none, none, some (.int a2), none, none, some (.int r8.1), some (.int r8.2.1), none, none, none] [] r8.2.2 P := by
      refine g_iload_n dX4_bestLook_82 rfl ?_
      have hj : Go O (d + 1) MX4_bestLook 93 [none, none, none, none, none, none, none, none, none, none] [.int (if a2 = 0 then r8.1 else r8.2.1)] r8.2.2 P := by
        exact g_ireturn dX4_bestLook_93 rfl (by first | rfl | decide) (hret _ _ (Option.some.inj h))
      refine g_if_ne (t := 91) dX4_bestLook_83 (by decide) (fun c9 => ?_) (fun c9 => ?_)
      · skip
        refine g_iload dX4_bestLook_91 rfl ?_
        have hk : Go O (d + 1) MX4_bestLook 93 [none, none, none, none, none, none, none, none, none, none] [.int r8.2.1] r8.2.2 P := by simpa only [if_neg c9] using hj
        refine Go_le ?_ hk
        exact trivial
      · skip
        refine g_iload dX4_bestLook_86 rfl ?_
        refine g_goto (t := 93) dX4_bestLook_88 (by decide) ?_
        have hk : Go O (d + 1) MX4_bestLook 93 [none, none, none, none, none, none, none, none, none, none] [.int r8.1] r8.2.2 P := by simpa only [if_pos c9] using hj
        refine Go_le ?_ hk
        exact trivial
    refine Go_le ?_ (e_X4_bestLook_l29 (fun q e => by cases e; exact hx) FU ((nI 0), (p3.1 + (nI 1)), (nI 0), p3.2) er8)
    exact And.intro rfl (And.intro rfl (And.intro rfl (And.intro rfl (And.intro rfl (And.intro rfl (And.intro rfl (trivial)))))))
  · rw [if_pos c2] at h
    refine g_iconst (v := (-1)) dX4_bestLook_9 (by decide) ?_
    exact g_ireturn dX4_bestLook_10 rfl (by first | rfl | decide) (hret _ _ (Option.some.inj h))
noncomputable def F_X4_packing_j32 (O : mO) (d : Nat) (v0 : Nat) (v1 : Nat) (v2 : Int32) (v3 : Int32) (w0 : Int32) (w1 : Int32) (w2 : Nat) (K : mH) : Option ((Int32 × mH) ⊕ (mH)) :=
  (wrI K w2 w1 w0).bind fun K7 =>
  some (.inl ((v3 + nI 1), K7))
theorem e_X4_packing_j32 {O : mO} {d : Nat} {v0 : Nat} {v1 : Nat} {v2 : Int32} {v3 : Int32} {w0 : Int32} {w1 : Int32} {w2 : Nat} {K : mH} {P : Option Value → mH → Prop} {y : (Int32 × mH) ⊕ (mH)} (hin : ∀ q : Int32 × mH, y = .inl q → Go O (d + 1) MX4_packing 2 [some (.ref v0), some (.ref v1), some (.int v2), some (.int q.1), none, none] [] q.2 P) (hex : ∀ q : mH, y = .inr q → Go O (d + 1) MX4_packing 39 [some (.ref v0), some (.ref v1), some (.int v2), none, none, none] [] q P) (h : F_X4_packing_j32 O d v0 v1 v2 v3 w0 w1 w2 K = some y) : Go O (d + 1) MX4_packing 32 [some (.ref v0), some (.ref v1), some (.int v2), some (.int v3), none, none] [.int w0, .int w1, .ref w2] K P := by
  unfold F_X4_packing_j32 at h
  obtain ⟨K7, eK7, h⟩ := bs h
  refine q_iast dX4_packing_32 eK7 ?_
  refine q_iinc (w := nI 1) (ls' := [some (.ref v0), some (.ref v1), some (.int v2), some (.int (v3 + nI 1)), none, none]) dX4_packing_33 (by decide) rfl (by decide) rfl ?_
  refine g_goto (t := 2) dX4_packing_36 (by decide) ?_
  refine Go_le ?_ (hin ((v3 + nI 1), K7) (Option.some.inj h).symm)
  exact And.intro rfl (And.intro rfl (And.intro rfl (And.intro rfl (trivial))))
noncomputable def F_X4_packing_l2 (O : mO) (d : Nat) (v0 : Nat) (v1 : Nat) (v2 : Int32) (s3 : Int32) (K : mH) : Option ((Int32 × mH) ⊕ (mH)) :=
  (gtI K v1 2 13).bind fun x1 =>
  if x1 ≤ s3 then
    some (.inr K)
  else
    (gtA K v0 4 1).bind fun x3 =>
    (toI (vc O d 2 MX2_isIn v1 [.int s3] K)).bind fun p4 =>
    if p4.1 = 0 then
      F_X4_packing_j32 O d v0 v1 v2 s3 (nI 0) s3 x3 p4.2
    else
      (toI (ev O d MX4_vaultsOpenTo [.ref v1, .int s3] p4.2)).bind fun p8 =>
      F_X4_packing_j32 O d v0 v1 v2 s3 p8.1 s3 x3 p8.2
theorem e_X4_packing_l2 {O : mO} {d : Nat} {v0 : Nat} {v1 : Nat} {v2 : Int32} {P : Option Value → mH → Prop} {x : mH} (hex : ∀ q : mH, x = q → Go O (d + 1) MX4_packing 39 [some (.ref v0), some (.ref v1), some (.int v2), none, none, none] [] q P) : ∀ (f : Nat) (q : Int32 × mH), lupF (fun (q : Int32 × mH) => F_X4_packing_l2 O d v0 v1 v2 q.1 q.2) f q = some x → Go O (d + 1) MX4_packing 2 [some (.ref v0), some (.ref v1), some (.int v2), some (.int q.1), none, none] [] q.2 P := by
  intro f
  induction f with
  | zero =>
    intro q h
    cases h
  | succ f ih =>
    intro q h
    obtain ⟨y, h, hy1, hy2⟩ := lupF_s h
    have hin : ∀ q : Int32 × mH, y = .inl q → Go O (d + 1) MX4_packing 2 [some (.ref v0), some (.ref v1), some (.int v2), some (.int q.1), none, none] [] q.2 P := fun q e => ih q (hy1 q e)
    replace hex : ∀ q : mH, y = .inr q → Go O (d + 1) MX4_packing 39 [some (.ref v0), some (.ref v1), some (.int v2), none, none, none] [] q P := fun q e => hex q (hy2 q e).symm
    clear ih hy1 hy2
    obtain ⟨s3, K⟩ := q
    dsimp only at h ⊢
    unfold F_X4_packing_l2 at h
    refine g_iload_n dX4_packing_2 rfl ?_
    refine g_aload_n dX4_packing_3 rfl ?_
    obtain ⟨x1, ex1, h⟩ := bs h
    refine q_getI dX4_packing_4 fX4_27 ex1 ?_
    refine g_ic_ge (t := 39) dX4_packing_7 (by decide) (fun c2 => ?_) (fun c2 => ?_)
    · rw [if_pos c2] at h
      refine Go_le ?_ (hex K (Option.some.inj h).symm)
      exact And.intro rfl (And.intro rfl (And.intro rfl (trivial)))
    · rw [if_neg c2] at h
      refine g_aload_n dX4_packing_10 rfl ?_
      obtain ⟨x3, ex3, h⟩ := bs h
      refine q_getA dX4_packing_11 fX4_15 ex3 ?_
      refine g_iload_n dX4_packing_14 rfl ?_
      refine g_aload_n dX4_packing_15 rfl ?_
      refine g_iload_n dX4_packing_16 rfl ?_
      obtain ⟨p4, ep4, h⟩ := bs h
      refine q_virt (Z := MX2_isIn) (c := (RX2, TX2, 18)) (toI_s ep4) dX4_packing_17 mX4_70.1 mX4_70.2 (Nat.le_of_ble_eq_true rfl) rfl rfl (Nat.le_of_ble_eq_true rfl) (Nat.le_of_ble_eq_true rfl) rfl rfl ?_
      show Go O (d + 1) MX4_packing 20 [some (.ref v0), some (.ref v1), some (.int v2), some (.int s3), none, none] [.int p4.1, .int s3, .ref x3] p4.2 P
      refine g_if_eq (t := 31) dX4_packing_20 (by decide) (fun c6 => ?_) (fun c6 => ?_)
      · rw [if_pos c6] at h
        refine g_iconst (v := (nI 0)) dX4_packing_31 (by decide) ?_
        refine Go_le ?_ (e_X4_packing_j32 hin hex h)
        exact And.intro rfl (And.intro rfl (And.intro rfl (And.intro rfl (trivial))))
      · rw [if_neg c6] at h
        refine g_aload_n dX4_packing_23 rfl ?_
        refine g_iload_n dX4_packing_24 rfl ?_
        obtain ⟨p8, ep8, h⟩ := bs h
        refine q_stat (Z := MX4_vaultsOpenTo) (toI_s ep8) dX4_packing_25 mX4_74.1 mX4_74.2 (Nat.le_of_ble_eq_true rfl) rfl rfl (Nat.le_of_ble_eq_true rfl) (Nat.le_of_ble_eq_true rfl) ?_
        show Go O (d + 1) MX4_packing 28 [some (.ref v0), some (.ref v1), some (.int v2), some (.int s3), none, none] [.int p8.1, .int s3, .ref x3] p8.2 P
        refine g_goto (t := 32) dX4_packing_28 (by decide) ?_
        refine Go_le ?_ (e_X4_packing_j32 hin hex h)
        exact And.intro rfl (And.intro rfl (And.intro rfl (And.intro rfl (trivial))))
noncomputable def F_X4_packing_j77 (O : mO) (d : Nat) (v0 : Nat) (v1 : Nat) (v2 : Int32) (v3 : Int32) (v4 : Int32) (w0 : Int32) (K : mH) : Option ((Int32 × Int32 × mH) ⊕ (Int32 × mH)) :=
  if w0 = 0 then
    some (.inl (v3, (v4 + nI 1), K))
  else
    (toI (vc O d 4 MX4_allCanLie v0 [.ref v1, .int v4] K)).bind fun p16 =>
    some (.inl ((if p16.1 = 0 then v3 else v4), (v4 + nI 1), p16.2))
theorem e_X4_packing_j77 {O : mO} {d : Nat} {v0 : Nat} {v1 : Nat} {v2 : Int32} {v3 : Int32} {v4 : Int32} {w0 : Int32} {K : mH} {P : Option Value → mH → Prop} {y : (Int32 × Int32 × mH) ⊕ (Int32 × mH)} (hin : ∀ q : Int32 × Int32 × mH, y = .inl q → Go O (d + 1) MX4_packing 44 [some (.ref v0), some (.ref v1), some (.int v2), some (.int q.1), some (.int q.2.1), none] [] q.2.2 P) (hex : ∀ q : Int32 × mH, y = .inr q → Go O (d + 1) MX4_packing 103 [none, none, some (.int v2), some (.int q.1), none, none] [] q.2 P) (h : F_X4_packing_j77 O d v0 v1 v2 v3 v4 w0 K = some y) : Go O (d + 1) MX4_packing 77 [some (.ref v0), some (.ref v1), some (.int v2), some (.int v3), some (.int v4), none] [.int w0] K P := by
  unfold F_X4_packing_j77 at h
  refine g_istore (ls' := [some (.ref v0), some (.ref v1), some (.int v2), some (.int v3), some (.int v4), some (.int w0)]) dX4_packing_77 (by decide) rfl ?_
  refine g_iload dX4_packing_79 rfl ?_
  refine g_if_eq (t := 97) dX4_packing_81 (by decide) (fun c15 => ?_) (fun c15 => ?_)
  · rw [if_pos c15] at h
    refine q_iinc (w := nI 1) (ls' := [some (.ref v0), some (.ref v1), some (.int v2), some (.int v3), some (.int (v4 + nI 1)), some (.int w0)]) dX4_packing_97 (by decide) rfl (by decide) rfl ?_
    refine g_goto (t := 44) dX4_packing_100 (by decide) ?_
    refine Go_le ?_ (hin (v3, (v4 + nI 1), K) (Option.some.inj h).symm)
    exact And.intro rfl (And.intro rfl (And.intro rfl (And.intro rfl (And.intro rfl (trivial)))))
  · rw [if_neg c15] at h
    refine g_aload_n dX4_packing_84 rfl ?_
    refine g_aload_n dX4_packing_85 rfl ?_
    refine g_iload dX4_packing_86 rfl ?_
    obtain ⟨p16, ep16, h⟩ := bs h
    refine q_virt (Z := MX4_allCanLie) (c := (RX4, TX4, 2)) (toI_s ep16) dX4_packing_88 mX4_81.1 mX4_81.2 (Nat.le_of_ble_eq_true rfl) rfl rfl (Nat.le_of_ble_eq_true rfl) (Nat.le_of_ble_eq_true rfl) rfl rfl ?_
    show Go O (d + 1) MX4_packing 91 [some (.ref v0), some (.ref v1), some (.int v2), some (.int v3), some (.int v4), some (.int w0)] [.int p16.1] p16.2 P
    have hj : Go O (d + 1) MX4_packing 97 [some (.ref v0), some (.ref v1), some (.int v2), some (.int (if p16.1 = 0 then v3 else v4)), some (.int v4), none] [] p16.2 P := by
      refine q_iinc (w := nI 1) (ls' := [some (.ref v0), some (.ref v1), some (.int v2), some (.int (if p16.1 = 0 then v3 else v4)), some (.int (v4 + nI 1)), none]) dX4_packing_97 (by decide) rfl (by decide) rfl ?_
      refine g_goto (t := 44) dX4_packing_100 (by decide) ?_
      refine Go_le ?_ (hin ((if p16.1 = 0 then v3 else v4), (v4 + nI 1), p16.2) (Option.some.inj h).symm)
      exact And.intro rfl (And.intro rfl (And.intro rfl (And.intro rfl (And.intro rfl (trivial)))))
    refine g_if_eq (t := 97) dX4_packing_91 (by decide) (fun c17 => ?_) (fun c17 => ?_)
    · skip
      have hk : Go O (d + 1) MX4_packing 97 [some (.ref v0), some (.ref v1), some (.int v2), some (.int v3), some (.int v4), none] [] p16.2 P := by simpa only [if_pos c17] using hj
      refine Go_le ?_ hk
      exact And.intro rfl (And.intro rfl (And.intro rfl (And.intro rfl (And.intro rfl (trivial)))))
    · skip
      refine g_iload dX4_packing_94 rfl ?_
      refine g_istore_n (ls' := [some (.ref v0), some (.ref v1), some (.int v2), some (.int v4), some (.int v4), some (.int w0)]) dX4_packing_96 (by decide) rfl ?_
      have hk : Go O (d + 1) MX4_packing 97 [some (.ref v0), some (.ref v1), some (.int v2), some (.int v4), some (.int v4), none] [] p16.2 P := by simpa only [if_neg c17] using hj
      refine Go_le ?_ hk
      exact And.intro rfl (And.intro rfl (And.intro rfl (And.intro rfl (And.intro rfl (trivial)))))
noncomputable def F_X4_packing_j72 (O : mO) (d : Nat) (v0 : Nat) (v1 : Nat) (v2 : Int32) (v3 : Int32) (v4 : Int32) (K : mH) : Option ((Int32 × Int32 × mH) ⊕ (Int32 × mH)) :=
  F_X4_packing_j77 O d v0 v1 v2 v3 v4 (nI 1) K
theorem e_X4_packing_j72 {O : mO} {d : Nat} {v0 : Nat} {v1 : Nat} {v2 : Int32} {v3 : Int32} {v4 : Int32} {K : mH} {P : Option Value → mH → Prop} {y : (Int32 × Int32 × mH) ⊕ (Int32 × mH)} (hin : ∀ q : Int32 × Int32 × mH, y = .inl q → Go O (d + 1) MX4_packing 44 [some (.ref v0), some (.ref v1), some (.int v2), some (.int q.1), some (.int q.2.1), none] [] q.2.2 P) (hex : ∀ q : Int32 × mH, y = .inr q → Go O (d + 1) MX4_packing 103 [none, none, some (.int v2), some (.int q.1), none, none] [] q.2 P) (h : F_X4_packing_j72 O d v0 v1 v2 v3 v4 K = some y) : Go O (d + 1) MX4_packing 72 [some (.ref v0), some (.ref v1), some (.int v2), some (.int v3), some (.int v4), none] [] K P := by
  unfold F_X4_packing_j72 at h
  refine g_iconst (v := (nI 1)) dX4_packing_72 (by decide) ?_
  refine g_goto (t := 77) dX4_packing_73 (by decide) ?_
  refine Go_le ?_ (e_X4_packing_j77 hin hex h)
  exact And.intro rfl (And.intro rfl (And.intro rfl (And.intro rfl (And.intro rfl (trivial)))))
noncomputable def F_X4_packing_l44 (O : mO) (d : Nat) (v0 : Nat) (v1 : Nat) (v2 : Int32) (s3 : Int32) (s4 : Int32) (K : mH) : Option ((Int32 × Int32 × mH) ⊕ (Int32 × mH)) :=
  (gtI K v1 2 11).bind fun x10 =>
  if ((nI 1) <<< (x10 &&& 31)) ≤ s4 then
    some (.inr (s3, K))
  else
    if s3 = (-1) then
      F_X4_packing_j72 O d v0 v1 v2 s3 s4 K
    else
      (toI (ev O d MJ6_bitCount_0f7a4 [.int s4] K)).bind fun p18 =>
      (toI (ev O d MJ6_bitCount_0f7a4 [.int s3] p18.2)).bind fun p19 =>
      if (if p19.1 ≤ p18.1 then (nI 0) else (nI 1)) = 0 then
        some (.inl (s3, (s4 + nI 1), p19.2))
      else
        (toI (vc O d 4 MX4_allCanLie v0 [.ref v1, .int s4] p19.2)).bind fun p23 =>
        some (.inl ((if p23.1 = 0 then s3 else s4), (s4 + nI 1), p23.2))
theorem e_X4_packing_l44 {O : mO} {d : Nat} {v0 : Nat} {v1 : Nat} {v2 : Int32} {P : Option Value → mH → Prop} {x : Int32 × mH} (hex : ∀ q : Int32 × mH, x = q → Go O (d + 1) MX4_packing 103 [none, none, some (.int v2), some (.int q.1), none, none] [] q.2 P) : ∀ (f : Nat) (q : Int32 × Int32 × mH), lupF (fun (q : Int32 × Int32 × mH) => F_X4_packing_l44 O d v0 v1 v2 q.1 q.2.1 q.2.2) f q = some x → Go O (d + 1) MX4_packing 44 [some (.ref v0), some (.ref v1), some (.int v2), some (.int q.1), some (.int q.2.1), none] [] q.2.2 P := by
  intro f
  induction f with
  | zero =>
    intro q h
    cases h
  | succ f ih =>
    intro q h
    obtain ⟨y, h, hy1, hy2⟩ := lupF_s h
    have hin : ∀ q : Int32 × Int32 × mH, y = .inl q → Go O (d + 1) MX4_packing 44 [some (.ref v0), some (.ref v1), some (.int v2), some (.int q.1), some (.int q.2.1), none] [] q.2.2 P := fun q e => ih q (hy1 q e)
    replace hex : ∀ q : Int32 × mH, y = .inr q → Go O (d + 1) MX4_packing 103 [none, none, some (.int v2), some (.int q.1), none, none] [] q.2 P := fun q e => hex q (hy2 q e).symm
    clear ih hy1 hy2
    obtain ⟨s3, s4, K⟩ := q
    dsimp only at h ⊢
    unfold F_X4_packing_l44 at h
    refine g_iload dX4_packing_44 rfl ?_
    refine g_iconst (v := (nI 1)) dX4_packing_46 (by decide) ?_
    refine g_aload_n dX4_packing_47 rfl ?_
    obtain ⟨x10, ex10, h⟩ := bs h
    refine q_getI dX4_packing_48 fX4_78 ex10 ?_
    refine g_ishl dX4_packing_51 ?_
    refine g_ic_ge (t := 103) dX4_packing_52 (by decide) (fun c11 => ?_) (fun c11 => ?_)
    · rw [if_pos c11] at h
      refine Go_le ?_ (hex (s3, K) (Option.some.inj h).symm)
      exact And.intro rfl (And.intro rfl (trivial))
    · rw [if_neg c11] at h
      refine g_iload_n dX4_packing_55 rfl ?_
      refine g_iconst (v := (-1)) dX4_packing_56 (by decide) ?_
      refine g_ic_eq (t := 72) dX4_packing_57 (by decide) (fun c13 => ?_) (fun c13 => ?_)
      · rw [if_pos c13] at h
        refine Go_le ?_ (e_X4_packing_j72 hin hex h)
        exact And.intro rfl (And.intro rfl (And.intro rfl (And.intro rfl (And.intro rfl (trivial)))))
      · rw [if_neg c13] at h
        refine g_iload dX4_packing_60 rfl ?_
        obtain ⟨p18, ep18, h⟩ := bs h
        refine q_stat (Z := MJ6_bitCount_0f7a4) (toI_s ep18) dX4_packing_62 mX4_38.1 mX4_38.2 (Nat.le_of_ble_eq_true rfl) rfl rfl (Nat.le_of_ble_eq_true rfl) (Nat.le_of_ble_eq_true rfl) ?_
        show Go O (d + 1) MX4_packing 65 [some (.ref v0), some (.ref v1), some (.int v2), some (.int s3), some (.int s4), none] [.int p18.1] p18.2 P
        refine g_iload_n dX4_packing_65 rfl ?_
        obtain ⟨p19, ep19, h⟩ := bs h
        refine q_stat (Z := MJ6_bitCount_0f7a4) (toI_s ep19) dX4_packing_66 mX4_38.1 mX4_38.2 (Nat.le_of_ble_eq_true rfl) rfl rfl (Nat.le_of_ble_eq_true rfl) (Nat.le_of_ble_eq_true rfl) ?_
        show Go O (d + 1) MX4_packing 69 [some (.ref v0), some (.ref v1), some (.int v2), some (.int s3), some (.int s4), none] [.int p19.1, .int p18.1] p19.2 P
        have hj : Go O (d + 1) MX4_packing 77 [some (.ref v0), some (.ref v1), some (.int v2), some (.int s3), some (.int s4), none] [.int (if p19.1 ≤ p18.1 then (nI 0) else (nI 1))] p19.2 P := by
          refine g_istore (ls' := [some (.ref v0), some (.ref v1), some (.int v2), some (.int s3), some (.int s4), some (.int (if p19.1 ≤ p18.1 then (nI 0) else (nI 1)))]) dX4_packing_77 (by decide) rfl ?_
          refine g_iload dX4_packing_79 rfl ?_
          refine g_if_eq (t := 97) dX4_packing_81 (by decide) (fun c22 => ?_) (fun c22 => ?_)
          · rw [if_pos c22] at h
            refine q_iinc (w := nI 1) (ls' := [some (.ref v0), some (.ref v1), some (.int v2), some (.int s3), some (.int (s4 + nI 1)), some (.int (if p19.1 ≤ p18.1 then (nI 0) else (nI 1)))]) dX4_packing_97 (by decide) rfl (by decide) rfl ?_
            refine g_goto (t := 44) dX4_packing_100 (by decide) ?_
            refine Go_le ?_ (hin (s3, (s4 + nI 1), p19.2) (Option.some.inj h).symm)
            exact And.intro rfl (And.intro rfl (And.intro rfl (And.intro rfl (And.intro rfl (trivial)))))
          · rw [if_neg c22] at h
            refine g_aload_n dX4_packing_84 rfl ?_
            refine g_aload_n dX4_packing_85 rfl ?_
            refine g_iload dX4_packing_86 rfl ?_
            obtain ⟨p23, ep23, h⟩ := bs h
            refine q_virt (Z := MX4_allCanLie) (c := (RX4, TX4, 2)) (toI_s ep23) dX4_packing_88 mX4_81.1 mX4_81.2 (Nat.le_of_ble_eq_true rfl) rfl rfl (Nat.le_of_ble_eq_true rfl) (Nat.le_of_ble_eq_true rfl) rfl rfl ?_
            show Go O (d + 1) MX4_packing 91 [some (.ref v0), some (.ref v1), some (.int v2), some (.int s3), some (.int s4), some (.int (if p19.1 ≤ p18.1 then (nI 0) else (nI 1)))] [.int p23.1] p23.2 P
            have hj : Go O (d + 1) MX4_packing 97 [some (.ref v0), some (.ref v1), some (.int v2), some (.int (if p23.1 = 0 then s3 else s4)), some (.int s4), none] [] p23.2 P := by
              refine q_iinc (w := nI 1) (ls' := [some (.ref v0), some (.ref v1), some (.int v2), some (.int (if p23.1 = 0 then s3 else s4)), some (.int (s4 + nI 1)), none]) dX4_packing_97 (by decide) rfl (by decide) rfl ?_
              refine g_goto (t := 44) dX4_packing_100 (by decide) ?_
              refine Go_le ?_ (hin ((if p23.1 = 0 then s3 else s4), (s4 + nI 1), p23.2) (Option.some.inj h).symm)
              exact And.intro rfl (And.intro rfl (And.intro rfl (And.intro rfl (And.intro rfl (trivial)))))
            refine g_if_eq (t := 97) dX4_packing_91 (by decide) (fun c24 => ?_) (fun c24 => ?_)
            · skip
              have hk : Go O (d + 1) MX4_packing 97 [some (.ref v0), some (.ref v1), some (.int v2), some (.int s3), some (.int s4), none] [] p23.2 P := by simpa only [if_pos c24] using hj
              refine Go_le ?_ hk
              exact And.intro rfl (And.intro rfl (And.intro rfl (And.intro rfl (And.intro rfl (trivial)))))
            · skip
              refine g_iload dX4_packing_94 rfl ?_
              refine g_istore_n (ls' := [some (.ref v0), some (.ref v1), some (.int v2), some (.int s4), some (.int s4), some (.int (if p19.1 ≤ p18.1 then (nI 0) else (nI 1)))]) dX4_packing_96 (by decide) rfl ?_
              have hk : Go O (d + 1) MX4_packing 97 [some (.ref v0), some (.ref v1), some (.int v2), some (.int s4), some (.int s4), none] [] p23.2 P := by simpa only [if_neg c24] using hj
              refine Go_le ?_ hk
              exact And.intro rfl (And.intro rfl (And.intro rfl (And.intro rfl (And.intro rfl (trivial)))))
        refine g_ic_ge (t := 76) dX4_packing_69 (by decide) (fun c20 => ?_) (fun c20 => ?_)
        · skip
          refine g_iconst (v := (nI 0)) dX4_packing_76 (by decide) ?_
          have hk : Go O (d + 1) MX4_packing 77 [some (.ref v0), some (.ref v1), some (.int v2), some (.int s3), some (.int s4), none] [.int (nI 0)] p19.2 P := by simpa only [if_pos c20] using hj
          refine Go_le ?_ hk
          exact And.intro rfl (And.intro rfl (And.intro rfl (And.intro rfl (And.intro rfl (trivial)))))
        · skip
          refine g_iconst (v := (nI 1)) dX4_packing_72 (by decide) ?_
          refine g_goto (t := 77) dX4_packing_73 (by decide) ?_
          have hk : Go O (d + 1) MX4_packing 77 [some (.ref v0), some (.ref v1), some (.int v2), some (.int s3), some (.int s4), none] [.int (nI 1)] p19.2 P := by simpa only [if_neg c20] using hj
          refine Go_le ?_ hk
          exact And.intro rfl (And.intro rfl (And.intro rfl (And.intro rfl (And.intro rfl (trivial)))))
noncomputable def F_X4_packing (O : mO) (d : Nat) (a0 : Nat) (a1 : Nat) (a2 : Int32) (K : mH) : Option (Int32 × mH) :=
  (lupF (fun (q : Int32 × mH) => F_X4_packing_l2 O d a0 a1 a2 q.1 q.2) FU ((nI 0), K)).bind fun r9 =>
  (lupF (fun (q : Int32 × Int32 × mH) => F_X4_packing_l44 O d a0 a1 a2 q.1 q.2.1 q.2.2) FU ((-1), (nI 0), r9)).bind fun r25 =>
  if r25.1 = (-1) then
    some ((-1), r25.2)
  else
    if a2 = 0 then
      (toI (ev O d MJ6_bitCount_0f7a4 [.int r25.1] r25.2)).bind fun p29 =>
      some (p29.1, p29.2)
    else
      some (r25.1, r25.2)
theorem e_X4_packing {O : mO} {d : Nat} {a0 : Nat} {a1 : Nat} {a2 : Int32} {K : mH} {r0 : Int32} {K0 : mH} (h : F_X4_packing O d a0 a1 a2 K = some (r0, K0)) : ev O (d + 1) MX4_packing [.ref a0, .ref a1, .int a2] K = some (some (.int r0), K0) := by
  refine Rn_evx ?_
  show Go O (d + 1) MX4_packing 0 [some (.ref a0), some (.ref a1), some (.int a2), none, none, none] [] K _
  generalize hP : (fun (r : Option Value) (K' : mH) => (r, K') = (some (.int r0), K0)) = P
  have hret : ∀ (r : Int32) (K' : mH), (r, K') = (r0, K0) → P (some (.int r)) K' := by
    intro r K' e
    cases e
    subst hP
    rfl
  clear hP
  unfold F_X4_packing at h
  refine g_iconst (v := (nI 0)) dX4_packing_0 (by decide) ?_
  refine g_istore_n (ls' := [some (.ref a0), some (.ref a1), some (.int a2), some (.int (nI 0)), none, none]) dX4_packing_1 (by decide) rfl ?_
  obtain ⟨r9, er9, h⟩ := bs h
  have hx : Go O (d + 1) MX4_packing 39 [some (.ref a0), some (.ref a1), some (.int a2), none, none, none] [] r9 P := by
    refine g_iconst (v := (-1)) dX4_packing_39 (by decide) ?_
    refine g_istore_n (ls' := [some (.ref a0), some (.ref a1), some (.int a2), some (.int (-1)), none, none]) dX4_packing_40 (by decide) rfl ?_
    refine g_iconst (v := (nI 0)) dX4_packing_41 (by decide) ?_
    refine g_istore (ls' := [some (.ref a0), some (.ref a1), some (.int a2), some (.int (-1)), some (.int (nI 0)), none]) dX4_packing_42 (by decide) rfl ?_
    obtain ⟨r25, er25, h⟩ := bs h
    have hx : Go O (d + 1) MX4_packing 103 [none, none, some (.int a2), some (.int r25.1), none, none] [] r25.2 P := by
      refine g_iload_n dX4_packing_103 rfl ?_
      refine g_iconst (v := (-1)) dX4_packing_104 (by decide) ?_
      refine g_ic_ne (t := 110) dX4_packing_105 (by decide) (fun c26 => ?_) (fun c26 => ?_)
      · rw [if_neg c26] at h
        refine g_iload_n dX4_packing_110 rfl ?_
        refine g_if_ne (t := 121) dX4_packing_111 (by decide) (fun c28 => ?_) (fun c28 => ?_)
        · rw [if_neg c28] at h
          refine g_iload_n dX4_packing_121 rfl ?_
          exact g_ireturn dX4_packing_122 rfl (by first | rfl | decide) (hret _ _ (Option.some.inj h))
        · rw [if_pos c28] at h
          refine g_iload_n dX4_packing_114 rfl ?_
          obtain ⟨p29, ep29, h⟩ := bs h
          refine q_stat (Z := MJ6_bitCount_0f7a4) (toI_s ep29) dX4_packing_115 mX4_38.1 mX4_38.2 (Nat.le_of_ble_eq_true rfl) rfl rfl (Nat.le_of_ble_eq_true rfl) (Nat.le_of_ble_eq_true rfl) ?_
          show Go O (d + 1) MX4_packing 118 [none, none, some (.int a2), some (.int r25.1), none, none] [.int p29.1] p29.2 P
          refine g_goto (t := 122) dX4_packing_118 (by decide) ?_
          exact g_ireturn dX4_packing_122 rfl (by first | rfl | decide) (hret _ _ (Option.some.inj h))
      · rw [if_pos c26] at h
        refine g_iconst (v := (-1)) dX4_packing_108 (by decide) ?_
        exact g_ireturn dX4_packing_109 rfl (by first | rfl | decide) (hret _ _ (Option.some.inj h))
    refine Go_le ?_ (e_X4_packing_l44 (fun q e => by cases e; exact hx) FU ((-1), (nI 0), r9) er25)
    exact And.intro rfl (And.intro rfl (And.intro rfl (And.intro rfl (And.intro rfl (trivial)))))
  refine Go_le ?_ (e_X4_packing_l2 (fun q e => by cases e; exact hx) FU ((nI 0), K) er9)
  exact And.intro rfl (And.intro rfl (And.intro rfl (And.intro rfl (trivial))))
noncomputable def F_X4_vaultsOpenTo_l4 (O : mO) (d : Nat) (v0 : Nat) (v1 : Int32) (s2 : Int32) (s3 : Int32) (K : mH) : Option ((Int32 × Int32 × mH) ⊕ (Int32 × mH)) :=
  (gtI K v0 2 11).bind fun x1 =>
  if x1 ≤ s3 then
    some (.inr (s2, K))
  else
    (toI (vc O d 2 MX2_isBarred v0 [.int v1, .int s3] K)).bind fun p3 =>
    some (.inl ((if p3.1 = 0 then (s2 ||| ((nI 1) <<< (s3 &&& 31))) else s2), (s3 + nI 1), p3.2))
theorem e_X4_vaultsOpenTo_l4 {O : mO} {d : Nat} {v0 : Nat} {v1 : Int32} {P : Option Value → mH → Prop} {x : Int32 × mH} (hex : ∀ q : Int32 × mH, x = q → Go O (d + 1) MX4_vaultsOpenTo 33 [none, none, some (.int q.1), none] [] q.2 P) : ∀ (f : Nat) (q : Int32 × Int32 × mH), lupF (fun (q : Int32 × Int32 × mH) => F_X4_vaultsOpenTo_l4 O d v0 v1 q.1 q.2.1 q.2.2) f q = some x → Go O (d + 1) MX4_vaultsOpenTo 4 [some (.ref v0), some (.int v1), some (.int q.1), some (.int q.2.1)] [] q.2.2 P := by
  intro f
  induction f with
  | zero =>
    intro q h
    cases h
  | succ f ih =>
    intro q h
    obtain ⟨y, h, hy1, hy2⟩ := lupF_s h
    have hin : ∀ q : Int32 × Int32 × mH, y = .inl q → Go O (d + 1) MX4_vaultsOpenTo 4 [some (.ref v0), some (.int v1), some (.int q.1), some (.int q.2.1)] [] q.2.2 P := fun q e => ih q (hy1 q e)
    replace hex : ∀ q : Int32 × mH, y = .inr q → Go O (d + 1) MX4_vaultsOpenTo 33 [none, none, some (.int q.1), none] [] q.2 P := fun q e => hex q (hy2 q e).symm
    clear ih hy1 hy2
    obtain ⟨s2, s3, K⟩ := q
    dsimp only at h ⊢
    unfold F_X4_vaultsOpenTo_l4 at h
    refine g_iload_n dX4_vaultsOpenTo_4 rfl ?_
    refine g_aload_n dX4_vaultsOpenTo_5 rfl ?_
    obtain ⟨x1, ex1, h⟩ := bs h
    refine q_getI dX4_vaultsOpenTo_6 fX4_78 ex1 ?_
    refine g_ic_ge (t := 33) dX4_vaultsOpenTo_9 (by decide) (fun c2 => ?_) (fun c2 => ?_)
    · rw [if_pos c2] at h
      refine Go_le ?_ (hex (s2, K) (Option.some.inj h).symm)
      exact And.intro rfl (trivial)
    · rw [if_neg c2] at h
      refine g_aload_n dX4_vaultsOpenTo_12 rfl ?_
      refine g_iload_n dX4_vaultsOpenTo_13 rfl ?_
      refine g_iload_n dX4_vaultsOpenTo_14 rfl ?_
      obtain ⟨p3, ep3, h⟩ := bs h
      refine q_virt (Z := MX2_isBarred) (c := (RX2, TX2, 18)) (toI_s ep3) dX4_vaultsOpenTo_15 mX4_85.1 mX4_85.2 (Nat.le_of_ble_eq_true rfl) rfl rfl (Nat.le_of_ble_eq_true rfl) (Nat.le_of_ble_eq_true rfl) rfl rfl ?_
      show Go O (d + 1) MX4_vaultsOpenTo 18 [some (.ref v0), some (.int v1), some (.int s2), some (.int s3)] [.int p3.1] p3.2 P
      have hj : Go O (d + 1) MX4_vaultsOpenTo 27 [some (.ref v0), some (.int v1), some (.int (if p3.1 = 0 then (s2 ||| ((nI 1) <<< (s3 &&& 31))) else s2)), some (.int s3)] [] p3.2 P := by
        refine q_iinc (w := nI 1) (ls' := [some (.ref v0), some (.int v1), some (.int (if p3.1 = 0 then (s2 ||| ((nI 1) <<< (s3 &&& 31))) else s2)), some (.int (s3 + nI 1))]) dX4_vaultsOpenTo_27 (by decide) rfl (by decide) rfl ?_
        refine g_goto (t := 4) dX4_vaultsOpenTo_30 (by decide) ?_
        refine Go_le ?_ (hin ((if p3.1 = 0 then (s2 ||| ((nI 1) <<< (s3 &&& 31))) else s2), (s3 + nI 1), p3.2) (Option.some.inj h).symm)
        exact And.intro rfl (And.intro rfl (And.intro rfl (And.intro rfl (trivial))))
      refine g_if_ne (t := 27) dX4_vaultsOpenTo_18 (by decide) (fun c4 => ?_) (fun c4 => ?_)
      · skip
        have hk : Go O (d + 1) MX4_vaultsOpenTo 27 [some (.ref v0), some (.int v1), some (.int s2), some (.int s3)] [] p3.2 P := by simpa only [if_neg c4] using hj
        refine Go_le ?_ hk
        exact And.intro rfl (And.intro rfl (And.intro rfl (And.intro rfl (trivial))))
      · skip
        refine g_iload_n dX4_vaultsOpenTo_21 rfl ?_
        refine g_iconst (v := (nI 1)) dX4_vaultsOpenTo_22 (by decide) ?_
        refine g_iload_n dX4_vaultsOpenTo_23 rfl ?_
        refine g_ishl dX4_vaultsOpenTo_24 ?_
        refine g_ior dX4_vaultsOpenTo_25 ?_
        refine g_istore_n (ls' := [some (.ref v0), some (.int v1), some (.int (s2 ||| ((nI 1) <<< (s3 &&& 31)))), some (.int s3)]) dX4_vaultsOpenTo_26 (by decide) rfl ?_
        have hk : Go O (d + 1) MX4_vaultsOpenTo 27 [some (.ref v0), some (.int v1), some (.int (s2 ||| ((nI 1) <<< (s3 &&& 31)))), some (.int s3)] [] p3.2 P := by simpa only [if_pos c4] using hj
        refine Go_le ?_ hk
        exact And.intro rfl (And.intro rfl (And.intro rfl (And.intro rfl (trivial))))
noncomputable def F_X4_vaultsOpenTo (O : mO) (d : Nat) (a0 : Nat) (a1 : Int32) (K : mH) : Option (Int32 × mH) :=
  (lupF (fun (q : Int32 × Int32 × mH) => F_X4_vaultsOpenTo_l4 O d a0 a1 q.1 q.2.1 q.2.2) FU ((nI 0), (nI 0), K)).bind fun r5 =>
  some (r5.1, r5.2)
theorem e_X4_vaultsOpenTo {O : mO} {d : Nat} {a0 : Nat} {a1 : Int32} {K : mH} {r0 : Int32} {K0 : mH} (h : F_X4_vaultsOpenTo O d a0 a1 K = some (r0, K0)) : ev O (d + 1) MX4_vaultsOpenTo [.ref a0, .int a1] K = some (some (.int r0), K0) := by
  refine Rn_evx ?_
  show Go O (d + 1) MX4_vaultsOpenTo 0 [some (.ref a0), some (.int a1), none, none] [] K _
  generalize hP : (fun (r : Option Value) (K' : mH) => (r, K') = (some (.int r0), K0)) = P
  have hret : ∀ (r : Int32) (K' : mH), (r, K') = (r0, K0) → P (some (.int r)) K' := by
    intro r K' e
    cases e
    subst hP
    rfl
  clear hP
  unfold F_X4_vaultsOpenTo at h
  refine g_iconst (v := (nI 0)) dX4_vaultsOpenTo_0 (by decide) ?_
  refine g_istore_n (ls' := [some (.ref a0), some (.int a1), some (.int (nI 0)), none]) dX4_vaultsOpenTo_1 (by decide) rfl ?_
  refine g_iconst (v := (nI 0)) dX4_vaultsOpenTo_2 (by decide) ?_
  refine g_istore_n (ls' := [some (.ref a0), some (.int a1), some (.int (nI 0)), some (.int (nI 0))]) dX4_vaultsOpenTo_3 (by decide) rfl ?_
  obtain ⟨r5, er5, h⟩ := bs h
  have hx : Go O (d + 1) MX4_vaultsOpenTo 33 [none, none, some (.int r5.1), none] [] r5.2 P := by
    refine g_iload_n dX4_vaultsOpenTo_33 rfl ?_
    exact g_ireturn dX4_vaultsOpenTo_34 rfl (by first | rfl | decide) (hret _ _ (Option.some.inj h))
  refine Go_le ?_ (e_X4_vaultsOpenTo_l4 (fun q e => by cases e; exact hx) FU ((nI 0), (nI 0), K) er5)
  exact And.intro rfl (And.intro rfl (And.intro rfl (And.intro rfl (trivial))))
noncomputable def F_X4_allCanLie_l2 (O : mO) (d : Nat) (v0 : Nat) (v1 : Nat) (v2 : Int32) (s3 : Int32) (K : mH) : Option ((Int32 × mH) ⊕ ((mH) ⊕ (Int32 × mH))) :=
  if v2 < s3 then
    some (.inr (.inl K))
  else
    if (s3 &&& (v2 ^^^ (-1))) = 0 then
      (toI (vc O d 4 MX4_boundTo v0 [.ref v1, .int v2, .int s3] K)).bind fun p3 =>
      (toI (ev O d MX4_bedsOf [.ref v1, .int s3] p3.2)).bind fun p4 =>
      if p3.1 ≤ p4.1 then
        some (.inl ((s3 + nI 1), p4.2))
      else
        some (.inr (.inr ((nI 0), p4.2)))
    else
      some (.inl ((s3 + nI 1), K))
theorem e_X4_allCanLie_l2 {O : mO} {d : Nat} {v0 : Nat} {v1 : Nat} {v2 : Int32} {P : Option Value → mH → Prop} {x : (mH) ⊕ (Int32 × mH)} (hex : ∀ q : mH, x = .inl q → Go O (d + 1) MX4_allCanLie 38 [none, none, none, none] [] q P) (hrt : ∀ (r : Int32) (K' : mH), x = .inr (r, K') → P (some (.int r)) K') : ∀ (f : Nat) (q : Int32 × mH), lupF (fun (q : Int32 × mH) => F_X4_allCanLie_l2 O d v0 v1 v2 q.1 q.2) f q = some x → Go O (d + 1) MX4_allCanLie 2 [some (.ref v0), some (.ref v1), some (.int v2), some (.int q.1)] [] q.2 P := by
  intro f
  induction f with
  | zero =>
    intro q h
    cases h
  | succ f ih =>
    intro q h
    obtain ⟨y, h, hy1, hy2⟩ := lupF_s h
    have hin : ∀ q : Int32 × mH, y = .inl q → Go O (d + 1) MX4_allCanLie 2 [some (.ref v0), some (.ref v1), some (.int v2), some (.int q.1)] [] q.2 P := fun q e => ih q (hy1 q e)
    replace hex : ∀ q : mH, y = .inr (.inl q) → Go O (d + 1) MX4_allCanLie 38 [none, none, none, none] [] q P := fun q e => hex q (hy2 _ e).symm
    replace hrt : ∀ (r : Int32) (K' : mH), y = .inr (.inr (r, K')) → P (some (.int r)) K' := fun r K' e => hrt r K' (hy2 _ e).symm
    clear ih hy1 hy2
    obtain ⟨s3, K⟩ := q
    dsimp only at h ⊢
    unfold F_X4_allCanLie_l2 at h
    refine g_iload_n dX4_allCanLie_2 rfl ?_
    refine g_iload_n dX4_allCanLie_3 rfl ?_
    refine g_ic_gt (t := 38) dX4_allCanLie_4 (by decide) (fun c1 => ?_) (fun c1 => ?_)
    · rw [if_pos c1] at h
      refine Go_le ?_ (hex K (Option.some.inj h).symm)
      exact trivial
    · rw [if_neg c1] at h
      refine g_iload_n dX4_allCanLie_7 rfl ?_
      refine g_iload_n dX4_allCanLie_8 rfl ?_
      refine g_iconst (v := (-1)) dX4_allCanLie_9 (by decide) ?_
      refine g_ixor dX4_allCanLie_10 ?_
      refine g_iand dX4_allCanLie_11 ?_
      refine g_if_ne (t := 32) dX4_allCanLie_12 (by decide) (fun c2 => ?_) (fun c2 => ?_)
      · rw [if_neg c2] at h
        refine q_iinc (w := nI 1) (ls' := [some (.ref v0), some (.ref v1), some (.int v2), some (.int (s3 + nI 1))]) dX4_allCanLie_32 (by decide) rfl (by decide) rfl ?_
        refine g_goto (t := 2) dX4_allCanLie_35 (by decide) ?_
        refine Go_le ?_ (hin ((s3 + nI 1), K) (Option.some.inj h).symm)
        exact And.intro rfl (And.intro rfl (And.intro rfl (And.intro rfl (trivial))))
      · rw [if_pos c2] at h
        refine g_aload_n dX4_allCanLie_15 rfl ?_
        refine g_aload_n dX4_allCanLie_16 rfl ?_
        refine g_iload_n dX4_allCanLie_17 rfl ?_
        refine g_iload_n dX4_allCanLie_18 rfl ?_
        obtain ⟨p3, ep3, h⟩ := bs h
        refine q_virt (Z := MX4_boundTo) (c := (RX4, TX4, 2)) (toI_s ep3) dX4_allCanLie_19 mX4_89.1 mX4_89.2 (Nat.le_of_ble_eq_true rfl) rfl rfl (Nat.le_of_ble_eq_true rfl) (Nat.le_of_ble_eq_true rfl) rfl rfl ?_
        show Go O (d + 1) MX4_allCanLie 22 [some (.ref v0), some (.ref v1), some (.int v2), some (.int s3)] [.int p3.1] p3.2 P
        refine g_aload_n dX4_allCanLie_22 rfl ?_
        refine g_iload_n dX4_allCanLie_23 rfl ?_
        obtain ⟨p4, ep4, h⟩ := bs h
        refine q_stat (Z := MX4_bedsOf) (toI_s ep4) dX4_allCanLie_24 mX4_92.1 mX4_92.2 (Nat.le_of_ble_eq_true rfl) rfl rfl (Nat.le_of_ble_eq_true rfl) (Nat.le_of_ble_eq_true rfl) ?_
        show Go O (d + 1) MX4_allCanLie 27 [some (.ref v0), some (.ref v1), some (.int v2), some (.int s3)] [.int p4.1, .int p3.1] p4.2 P
        refine g_ic_le (t := 32) dX4_allCanLie_27 (by decide) (fun c5 => ?_) (fun c5 => ?_)
        · rw [if_pos c5] at h
          refine q_iinc (w := nI 1) (ls' := [some (.ref v0), some (.ref v1), some (.int v2), some (.int (s3 + nI 1))]) dX4_allCanLie_32 (by decide) rfl (by decide) rfl ?_
          refine g_goto (t := 2) dX4_allCanLie_35 (by decide) ?_
          refine Go_le ?_ (hin ((s3 + nI 1), p4.2) (Option.some.inj h).symm)
          exact And.intro rfl (And.intro rfl (And.intro rfl (And.intro rfl (trivial))))
        · rw [if_neg c5] at h
          refine g_iconst (v := (nI 0)) dX4_allCanLie_30 (by decide) ?_
          exact g_ireturn dX4_allCanLie_31 rfl (by first | rfl | decide) (hrt _ _ (Option.some.inj h).symm)
noncomputable def F_X4_allCanLie (O : mO) (d : Nat) (a0 : Nat) (a1 : Nat) (a2 : Int32) (K : mH) : Option (Int32 × mH) :=
  (lupF (fun (q : Int32 × mH) => F_X4_allCanLie_l2 O d a0 a1 a2 q.1 q.2) FU ((nI 0), K)).bind fun r6 => match r6 with
    | .inl r7 =>
    
      some ((nI 1), r7)
    | .inr r7 => some r7
theorem e_X4_allCanLie {O : mO} {d : Nat} {a0 : Nat} {a1 : Nat} {a2 : Int32} {K : mH} {r0 : Int32} {K0 : mH} (h : F_X4_allCanLie O d a0 a1 a2 K = some (r0, K0)) : ev O (d + 1) MX4_allCanLie [.ref a0, .ref a1, .int a2] K = some (some (.int r0), K0) := by
  refine Rn_evx ?_
  show Go O (d + 1) MX4_allCanLie 0 [some (.ref a0), some (.ref a1), some (.int a2), none] [] K _
  generalize hP : (fun (r : Option Value) (K' : mH) => (r, K') = (some (.int r0), K0)) = P
  have hret : ∀ (r : Int32) (K' : mH), (r, K') = (r0, K0) → P (some (.int r)) K' := by
    intro r K' e
    cases e
    subst hP
    rfl
  clear hP
  unfold F_X4_allCanLie at h
  refine g_iconst (v := (nI 0)) dX4_allCanLie_0 (by decide) ?_
  refine g_istore_n (ls' := [some (.ref a0), some (.ref a1), some (.int a2), some (.int (nI 0))]) dX4_allCanLie_1 (by decide) rfl ?_
  obtain ⟨r6, er6, h⟩ := bs h
  rcases r6 with r7 | r7
  · dsimp only at h
    have hx : Go O (d + 1) MX4_allCanLie 38 [none, none, none, none] [] r7 P := by
      refine g_iconst (v := (nI 1)) dX4_allCanLie_38 (by decide) ?_
      exact g_ireturn dX4_allCanLie_39 rfl (by first | rfl | decide) (hret _ _ (Option.some.inj h))
    refine Go_le ?_ (e_X4_allCanLie_l2 (fun q e => by cases e; exact hx) (fun r K' e => by cases e) FU ((nI 0), K) er6)
    exact And.intro rfl (And.intro rfl (And.intro rfl (And.intro rfl (trivial))))
  · dsimp only at h
    refine Go_le ?_ (e_X4_allCanLie_l2 (fun q e => by cases e) (fun r K' e => by cases e; exact hret _ _ (Option.some.inj h)) FU ((nI 0), K) er6)
    exact And.intro rfl (And.intro rfl (And.intro rfl (And.intro rfl (trivial))))
noncomputable def F_X4_boundTo_l6 (O : mO) (d : Nat) (v0 : Nat) (v1 : Nat) (v2 : Int32) (v3 : Int32) (s4 : Int32) (s5 : Int32) (K : mH) : Option ((Int32 × Int32 × mH) ⊕ (Int32 × mH)) :=
  (gtI K v1 2 13).bind fun x1 =>
  if x1 ≤ s5 then
    some (.inr (s4, K))
  else
    (toI (vc O d 2 MX2_isIn v1 [.int s5] K)).bind fun p3 =>
    if p3.1 = 0 then
      some (.inl (s4, (s5 + nI 1), p3.2))
    else
      (gtA p3.2 v0 4 1).bind fun x6 =>
      (rdI O p3.2 x6 s5).bind fun x7 =>
      some (.inl ((if ((x7 &&& v2) &&& (v3 ^^^ (-1))) = 0 then (s4 + nI 1) else s4), (s5 + nI 1), p3.2))
theorem e_X4_boundTo_l6 {O : mO} {d : Nat} {v0 : Nat} {v1 : Nat} {v2 : Int32} {v3 : Int32} {P : Option Value → mH → Prop} {x : Int32 × mH} (hex : ∀ q : Int32 × mH, x = q → Go O (d + 1) MX4_boundTo 49 [none, none, none, none, some (.int q.1), none] [] q.2 P) : ∀ (f : Nat) (q : Int32 × Int32 × mH), lupF (fun (q : Int32 × Int32 × mH) => F_X4_boundTo_l6 O d v0 v1 v2 v3 q.1 q.2.1 q.2.2) f q = some x → Go O (d + 1) MX4_boundTo 6 [some (.ref v0), some (.ref v1), some (.int v2), some (.int v3), some (.int q.1), some (.int q.2.1)] [] q.2.2 P := by
  intro f
  induction f with
  | zero =>
    intro q h
    cases h
  | succ f ih =>
    intro q h
    obtain ⟨y, h, hy1, hy2⟩ := lupF_s h
    have hin : ∀ q : Int32 × Int32 × mH, y = .inl q → Go O (d + 1) MX4_boundTo 6 [some (.ref v0), some (.ref v1), some (.int v2), some (.int v3), some (.int q.1), some (.int q.2.1)] [] q.2.2 P := fun q e => ih q (hy1 q e)
    replace hex : ∀ q : Int32 × mH, y = .inr q → Go O (d + 1) MX4_boundTo 49 [none, none, none, none, some (.int q.1), none] [] q.2 P := fun q e => hex q (hy2 q e).symm
    clear ih hy1 hy2
    obtain ⟨s4, s5, K⟩ := q
    dsimp only at h ⊢
    unfold F_X4_boundTo_l6 at h
    refine g_iload dX4_boundTo_6 rfl ?_
    refine g_aload_n dX4_boundTo_8 rfl ?_
    obtain ⟨x1, ex1, h⟩ := bs h
    refine q_getI dX4_boundTo_9 fX4_27 ex1 ?_
    refine g_ic_ge (t := 49) dX4_boundTo_12 (by decide) (fun c2 => ?_) (fun c2 => ?_)
    · rw [if_pos c2] at h
      refine Go_le ?_ (hex (s4, K) (Option.some.inj h).symm)
      exact And.intro rfl (trivial)
    · rw [if_neg c2] at h
      refine g_aload_n dX4_boundTo_15 rfl ?_
      refine g_iload dX4_boundTo_16 rfl ?_
      obtain ⟨p3, ep3, h⟩ := bs h
      refine q_virt (Z := MX2_isIn) (c := (RX2, TX2, 18)) (toI_s ep3) dX4_boundTo_18 mX4_70.1 mX4_70.2 (Nat.le_of_ble_eq_true rfl) rfl rfl (Nat.le_of_ble_eq_true rfl) (Nat.le_of_ble_eq_true rfl) rfl rfl ?_
      show Go O (d + 1) MX4_boundTo 21 [some (.ref v0), some (.ref v1), some (.int v2), some (.int v3), some (.int s4), some (.int s5)] [.int p3.1] p3.2 P
      refine g_if_eq (t := 43) dX4_boundTo_21 (by decide) (fun c5 => ?_) (fun c5 => ?_)
      · rw [if_pos c5] at h
        refine q_iinc (w := nI 1) (ls' := [some (.ref v0), some (.ref v1), some (.int v2), some (.int v3), some (.int s4), some (.int (s5 + nI 1))]) dX4_boundTo_43 (by decide) rfl (by decide) rfl ?_
        refine g_goto (t := 6) dX4_boundTo_46 (by decide) ?_
        refine Go_le ?_ (hin (s4, (s5 + nI 1), p3.2) (Option.some.inj h).symm)
        exact And.intro rfl (And.intro rfl (And.intro rfl (And.intro rfl (And.intro rfl (And.intro rfl (trivial))))))
      · rw [if_neg c5] at h
        refine g_aload_n dX4_boundTo_24 rfl ?_
        obtain ⟨x6, ex6, h⟩ := bs h
        refine q_getA dX4_boundTo_25 fX4_15 ex6 ?_
        refine g_iload dX4_boundTo_28 rfl ?_
        obtain ⟨x7, ex7, h⟩ := bs h
        refine q_iald dX4_boundTo_30 ex7 ?_
        refine g_iload_n dX4_boundTo_31 rfl ?_
        refine g_iand dX4_boundTo_32 ?_
        refine g_iload_n dX4_boundTo_33 rfl ?_
        refine g_iconst (v := (-1)) dX4_boundTo_34 (by decide) ?_
        refine g_ixor dX4_boundTo_35 ?_
        refine g_iand dX4_boundTo_36 ?_
        have hj : Go O (d + 1) MX4_boundTo 43 [some (.ref v0), some (.ref v1), some (.int v2), some (.int v3), some (.int (if ((x7 &&& v2) &&& (v3 ^^^ (-1))) = 0 then (s4 + nI 1) else s4)), some (.int s5)] [] p3.2 P := by
          refine q_iinc (w := nI 1) (ls' := [some (.ref v0), some (.ref v1), some (.int v2), some (.int v3), some (.int (if ((x7 &&& v2) &&& (v3 ^^^ (-1))) = 0 then (s4 + nI 1) else s4)), some (.int (s5 + nI 1))]) dX4_boundTo_43 (by decide) rfl (by decide) rfl ?_
          refine g_goto (t := 6) dX4_boundTo_46 (by decide) ?_
          have hh := hin ((if ((x7 &&& v2) &&& (v3 ^^^ (-1))) = 0 then (s4 + nI 1) else s4), (s5 + nI 1), p3.2) (Option.some.inj h).symm; (try dsimp only at hh); refine Go_le ?_ hh
          exact And.intro rfl (And.intro rfl (And.intro rfl (And.intro rfl (And.intro rfl (And.intro rfl (trivial))))))
        refine g_if_ne (t := 43) dX4_boundTo_37 (by decide) (fun c8 => ?_) (fun c8 => ?_)
        · skip
          have hk : Go O (d + 1) MX4_boundTo 43 [some (.ref v0), some (.ref v1), some (.int v2), some (.int v3), some (.int s4), some (.int s5)] [] p3.2 P := by simpa only [if_neg c8] using hj
          refine Go_le ?_ hk
          exact And.intro rfl (And.intro rfl (And.intro rfl (And.intro rfl (And.intro rfl (And.intro rfl (trivial))))))
        · skip
          refine q_iinc (w := nI 1) (ls' := [some (.ref v0), some (.ref v1), some (.int v2), some (.int v3), some (.int (s4 + nI 1)), some (.int s5)]) dX4_boundTo_40 (by decide) rfl (by decide) rfl ?_
          have hk : Go O (d + 1) MX4_boundTo 43 [some (.ref v0), some (.ref v1), some (.int v2), some (.int v3), some (.int (s4 + nI 1)), some (.int s5)] [] p3.2 P := by simpa only [if_pos c8] using hj
          refine Go_le ?_ hk
          exact And.intro rfl (And.intro rfl (And.intro rfl (And.intro rfl (And.intro rfl (And.intro rfl (trivial))))))
noncomputable def F_X4_boundTo (O : mO) (d : Nat) (a0 : Nat) (a1 : Nat) (a2 : Int32) (a3 : Int32) (K : mH) : Option (Int32 × mH) :=
  (lupF (fun (q : Int32 × Int32 × mH) => F_X4_boundTo_l6 O d a0 a1 a2 a3 q.1 q.2.1 q.2.2) FU ((nI 0), (nI 0), K)).bind fun r9 =>
  some (r9.1, r9.2)
theorem e_X4_boundTo {O : mO} {d : Nat} {a0 : Nat} {a1 : Nat} {a2 : Int32} {a3 : Int32} {K : mH} {r0 : Int32} {K0 : mH} (h : F_X4_boundTo O d a0 a1 a2 a3 K = some (r0, K0)) : ev O (d + 1) MX4_boundTo [.ref a0, .ref a1, .int a2, .int a3] K = some (some (.int r0), K0) := by
  refine Rn_evx ?_
  show Go O (d + 1) MX4_boundTo 0 [some (.ref a0), some (.ref a1), some (.int a2), some (.int a3), none, none] [] K _
  generalize hP : (fun (r : Option Value) (K' : mH) => (r, K') = (some (.int r0), K0)) = P
  have hret : ∀ (r : Int32) (K' : mH), (r, K') = (r0, K0) → P (some (.int r)) K' := by
    intro r K' e
    cases e
    subst hP
    rfl
  clear hP
  unfold F_X4_boundTo at h
  refine g_iconst (v := (nI 0)) dX4_boundTo_0 (by decide) ?_
  refine g_istore (ls' := [some (.ref a0), some (.ref a1), some (.int a2), some (.int a3), some (.int (nI 0)), none]) dX4_boundTo_1 (by decide) rfl ?_
  refine g_iconst (v := (nI 0)) dX4_boundTo_3 (by decide) ?_
  refine g_istore (ls' := [some (.ref a0), some (.ref a1), some (.int a2), some (.int a3), some (.int (nI 0)), some (.int (nI 0))]) dX4_boundTo_4 (by decide) rfl ?_
  obtain ⟨r9, er9, h⟩ := bs h
  have hx : Go O (d + 1) MX4_boundTo 49 [none, none, none, none, some (.int r9.1), none] [] r9.2 P := by
    refine g_iload dX4_boundTo_49 rfl ?_
    exact g_ireturn dX4_boundTo_51 rfl (by first | rfl | decide) (hret _ _ (Option.some.inj h))
  refine Go_le ?_ (e_X4_boundTo_l6 (fun q e => by cases e; exact hx) FU ((nI 0), (nI 0), K) er9)
  exact And.intro rfl (And.intro rfl (And.intro rfl (And.intro rfl (And.intro rfl (And.intro rfl (trivial))))))
noncomputable def F_X4_bedsOf_l4 (O : mO) (d : Nat) (v0 : Nat) (v1 : Int32) (K : mH) (s2 : Int32) (s3 : Int32) : Option ((Int32 × Int32) ⊕ (Int32)) :=
  (gtI K v0 2 11).bind fun x1 =>
  if x1 ≤ s3 then
    some (.inr s2)
  else
    (gtA K v0 2 1).bind fun x3 =>
    (rdI O K x3 s3).bind fun x4 =>
    some (.inl ((s2 + (((v1 >>> (s3 &&& 31)) &&& (nI 1)) * x4)), (s3 + nI 1)))
theorem e_X4_bedsOf_l4 {O : mO} {d : Nat} {v0 : Nat} {v1 : Int32} {K : mH} {P : Option Value → mH → Prop} {x : Int32} (hex : ∀ q : Int32, x = q → Go O (d + 1) MX4_bedsOf 33 [none, none, some (.int q), none] [] K P) : ∀ (f : Nat) (q : Int32 × Int32), lupF (fun (q : Int32 × Int32) => F_X4_bedsOf_l4 O d v0 v1 K q.1 q.2) f q = some x → Go O (d + 1) MX4_bedsOf 4 [some (.ref v0), some (.int v1), some (.int q.1), some (.int q.2)] [] K P := by
  intro f
  induction f with
  | zero =>
    intro q h
    cases h
  | succ f ih =>
    intro q h
    obtain ⟨y, h, hy1, hy2⟩ := lupF_s h
    have hin : ∀ q : Int32 × Int32, y = .inl q → Go O (d + 1) MX4_bedsOf 4 [some (.ref v0), some (.int v1), some (.int q.1), some (.int q.2)] [] K P := fun q e => ih q (hy1 q e)
    replace hex : ∀ q : Int32, y = .inr q → Go O (d + 1) MX4_bedsOf 33 [none, none, some (.int q), none] [] K P := fun q e => hex q (hy2 q e).symm
    clear ih hy1 hy2
    obtain ⟨s2, s3⟩ := q
    dsimp only at h ⊢
    unfold F_X4_bedsOf_l4 at h
    refine g_iload_n dX4_bedsOf_4 rfl ?_
    refine g_aload_n dX4_bedsOf_5 rfl ?_
    obtain ⟨x1, ex1, h⟩ := bs h
    refine q_getI dX4_bedsOf_6 fX4_78 ex1 ?_
    refine g_ic_ge (t := 33) dX4_bedsOf_9 (by decide) (fun c2 => ?_) (fun c2 => ?_)
    · rw [if_pos c2] at h
      refine Go_le ?_ (hex s2 (Option.some.inj h).symm)
      exact And.intro rfl (trivial)
    · rw [if_neg c2] at h
      refine g_iload_n dX4_bedsOf_12 rfl ?_
      refine g_iload_n dX4_bedsOf_13 rfl ?_
      refine g_iload_n dX4_bedsOf_14 rfl ?_
      refine g_ishr dX4_bedsOf_15 ?_
      refine g_iconst (v := (nI 1)) dX4_bedsOf_16 (by decide) ?_
      refine g_iand dX4_bedsOf_17 ?_
      refine g_aload_n dX4_bedsOf_18 rfl ?_
      obtain ⟨x3, ex3, h⟩ := bs h
      refine q_getA dX4_bedsOf_19 fX4_95 ex3 ?_
      refine g_iload_n dX4_bedsOf_22 rfl ?_
      obtain ⟨x4, ex4, h⟩ := bs h
      refine q_iald dX4_bedsOf_23 ex4 ?_
      refine g_imul dX4_bedsOf_24 ?_
      refine g_iadd dX4_bedsOf_25 ?_
      refine g_istore_n (ls' := [some (.ref v0), some (.int v1), some (.int (s2 + (((v1 >>> (s3 &&& 31)) &&& (nI 1)) * x4))), some (.int s3)]) dX4_bedsOf_26 (by decide) rfl ?_
      refine q_iinc (w := nI 1) (ls' := [some (.ref v0), some (.int v1), some (.int (s2 + (((v1 >>> (s3 &&& 31)) &&& (nI 1)) * x4))), some (.int (s3 + nI 1))]) dX4_bedsOf_27 (by decide) rfl (by decide) rfl ?_
      refine g_goto (t := 4) dX4_bedsOf_30 (by decide) ?_
      refine Go_le ?_ (hin ((s2 + (((v1 >>> (s3 &&& 31)) &&& (nI 1)) * x4)), (s3 + nI 1)) (Option.some.inj h).symm)
      exact And.intro rfl (And.intro rfl (And.intro rfl (And.intro rfl (trivial))))
noncomputable def F_X4_bedsOf (O : mO) (d : Nat) (a0 : Nat) (a1 : Int32) (K : mH) : Option (Int32 × mH) :=
  (lupF (fun (q : Int32 × Int32) => F_X4_bedsOf_l4 O d a0 a1 K q.1 q.2) FU ((nI 0), (nI 0))).bind fun r5 =>
  some (r5, K)
theorem e_X4_bedsOf {O : mO} {d : Nat} {a0 : Nat} {a1 : Int32} {K : mH} {r0 : Int32} {K0 : mH} (h : F_X4_bedsOf O d a0 a1 K = some (r0, K0)) : ev O (d + 1) MX4_bedsOf [.ref a0, .int a1] K = some (some (.int r0), K0) := by
  refine Rn_evx ?_
  show Go O (d + 1) MX4_bedsOf 0 [some (.ref a0), some (.int a1), none, none] [] K _
  generalize hP : (fun (r : Option Value) (K' : mH) => (r, K') = (some (.int r0), K0)) = P
  have hret : ∀ (r : Int32) (K' : mH), (r, K') = (r0, K0) → P (some (.int r)) K' := by
    intro r K' e
    cases e
    subst hP
    rfl
  clear hP
  unfold F_X4_bedsOf at h
  refine g_iconst (v := (nI 0)) dX4_bedsOf_0 (by decide) ?_
  refine g_istore_n (ls' := [some (.ref a0), some (.int a1), some (.int (nI 0)), none]) dX4_bedsOf_1 (by decide) rfl ?_
  refine g_iconst (v := (nI 0)) dX4_bedsOf_2 (by decide) ?_
  refine g_istore_n (ls' := [some (.ref a0), some (.int a1), some (.int (nI 0)), some (.int (nI 0))]) dX4_bedsOf_3 (by decide) rfl ?_
  obtain ⟨r5, er5, h⟩ := bs h
  have hx : Go O (d + 1) MX4_bedsOf 33 [none, none, some (.int r5), none] [] K P := by
    refine g_iload_n dX4_bedsOf_33 rfl ?_
    exact g_ireturn dX4_bedsOf_34 rfl (by first | rfl | decide) (hret _ _ (Option.some.inj h))
  refine Go_le ?_ (e_X4_bedsOf_l4 (fun q e => by cases e; exact hx) FU ((nI 0), (nI 0)) er5)
  exact And.intro rfl (And.intro rfl (And.intro rfl (And.intro rfl (trivial))))
noncomputable def F_X4_exchange_l20 (O : mO) (d : Nat) (v1 : Nat) (v2 : Int32) (v4 : Int32) (s3 : Int32) (s5 : Int32) (K : mH) : Option ((Int32 × Int32 × mH) ⊕ ((Int32 × mH) ⊕ (Int32 × mH))) :=
  (gtI K v1 2 13).bind fun x3 =>
  if x3 ≤ s5 then
    some (.inr (.inl (s3, K)))
  else
    (toI (ev O d MX4_wantsBedOf [.ref v1, .int v4, .int s5] K)).bind fun p5 =>
    if p5.1 = 0 then
      some (.inl (s3, (s5 + nI 1), p5.2))
    else
      (toI (ev O d MX4_wantsBedOf [.ref v1, .int s5, .int v4] p5.2)).bind fun p7 =>
      if p7.1 = 0 then
        some (.inl (s3, (s5 + nI 1), p7.2))
      else
        if s3 = v2 then
          some (.inr (.inr ((((nI 10) * v4) + s5), p7.2)))
        else
          some (.inl ((s3 + nI 1), (s5 + nI 1), p7.2))
theorem e_X4_exchange_l20 {O : mO} {d : Nat} {v1 : Nat} {v2 : Int32} {v4 : Int32} {P : Option Value → mH → Prop} {x : (Int32 × mH) ⊕ (Int32 × mH)} (hex : ∀ q : Int32 × mH, x = .inl q → Go O (d + 1) MX4_exchange 74 [none, some (.ref v1), some (.int v2), some (.int q.1), some (.int v4), none] [] q.2 P) (hrt : ∀ (r : Int32) (K' : mH), x = .inr (r, K') → P (some (.int r)) K') : ∀ (f : Nat) (q : Int32 × Int32 × mH), lupF (fun (q : Int32 × Int32 × mH) => F_X4_exchange_l20 O d v1 v2 v4 q.1 q.2.1 q.2.2) f q = some x → Go O (d + 1) MX4_exchange 20 [none, some (.ref v1), some (.int v2), some (.int q.1), some (.int v4), some (.int q.2.1)] [] q.2.2 P := by
  intro f
  induction f with
  | zero =>
    intro q h
    cases h
  | succ f ih =>
    intro q h
    obtain ⟨y, h, hy1, hy2⟩ := lupF_s h
    have hin : ∀ q : Int32 × Int32 × mH, y = .inl q → Go O (d + 1) MX4_exchange 20 [none, some (.ref v1), some (.int v2), some (.int q.1), some (.int v4), some (.int q.2.1)] [] q.2.2 P := fun q e => ih q (hy1 q e)
    replace hex : ∀ q : Int32 × mH, y = .inr (.inl q) → Go O (d + 1) MX4_exchange 74 [none, some (.ref v1), some (.int v2), some (.int q.1), some (.int v4), none] [] q.2 P := fun q e => hex q (hy2 _ e).symm
    replace hrt : ∀ (r : Int32) (K' : mH), y = .inr (.inr (r, K')) → P (some (.int r)) K' := fun r K' e => hrt r K' (hy2 _ e).symm
    clear ih hy1 hy2
    obtain ⟨s3, s5, K⟩ := q
    dsimp only at h ⊢
    unfold F_X4_exchange_l20 at h
    refine g_iload dX4_exchange_20 rfl ?_
    refine g_aload_n dX4_exchange_22 rfl ?_
    obtain ⟨x3, ex3, h⟩ := bs h
    refine q_getI dX4_exchange_23 fX4_27 ex3 ?_
    refine g_ic_ge (t := 74) dX4_exchange_26 (by decide) (fun c4 => ?_) (fun c4 => ?_)
    · rw [if_pos c4] at h
      refine Go_le ?_ (hex (s3, K) (Option.some.inj h).symm)
      exact And.intro rfl (And.intro rfl (And.intro rfl (And.intro rfl (trivial))))
    · rw [if_neg c4] at h
      refine g_aload_n dX4_exchange_29 rfl ?_
      refine g_iload dX4_exchange_30 rfl ?_
      refine g_iload dX4_exchange_32 rfl ?_
      obtain ⟨p5, ep5, h⟩ := bs h
      refine q_stat (Z := MX4_wantsBedOf) (toI_s ep5) dX4_exchange_34 mX4_98.1 mX4_98.2 (Nat.le_of_ble_eq_true rfl) rfl rfl (Nat.le_of_ble_eq_true rfl) (Nat.le_of_ble_eq_true rfl) ?_
      show Go O (d + 1) MX4_exchange 37 [none, some (.ref v1), some (.int v2), some (.int s3), some (.int v4), some (.int s5)] [.int p5.1] p5.2 P
      refine g_if_eq (t := 68) dX4_exchange_37 (by decide) (fun c6 => ?_) (fun c6 => ?_)
      · rw [if_pos c6] at h
        refine q_iinc (w := nI 1) (ls' := [none, some (.ref v1), some (.int v2), some (.int s3), some (.int v4), some (.int (s5 + nI 1))]) dX4_exchange_68 (by decide) rfl (by decide) rfl ?_
        refine g_goto (t := 20) dX4_exchange_71 (by decide) ?_
        refine Go_le ?_ (hin (s3, (s5 + nI 1), p5.2) (Option.some.inj h).symm)
        exact And.intro rfl (And.intro rfl (And.intro rfl (And.intro rfl (And.intro rfl (trivial)))))
      · rw [if_neg c6] at h
        refine g_aload_n dX4_exchange_40 rfl ?_
        refine g_iload dX4_exchange_41 rfl ?_
        refine g_iload dX4_exchange_43 rfl ?_
        obtain ⟨p7, ep7, h⟩ := bs h
        refine q_stat (Z := MX4_wantsBedOf) (toI_s ep7) dX4_exchange_45 mX4_98.1 mX4_98.2 (Nat.le_of_ble_eq_true rfl) rfl rfl (Nat.le_of_ble_eq_true rfl) (Nat.le_of_ble_eq_true rfl) ?_
        show Go O (d + 1) MX4_exchange 48 [none, some (.ref v1), some (.int v2), some (.int s3), some (.int v4), some (.int s5)] [.int p7.1] p7.2 P
        refine g_if_eq (t := 68) dX4_exchange_48 (by decide) (fun c8 => ?_) (fun c8 => ?_)
        · rw [if_pos c8] at h
          refine q_iinc (w := nI 1) (ls' := [none, some (.ref v1), some (.int v2), some (.int s3), some (.int v4), some (.int (s5 + nI 1))]) dX4_exchange_68 (by decide) rfl (by decide) rfl ?_
          refine g_goto (t := 20) dX4_exchange_71 (by decide) ?_
          refine Go_le ?_ (hin (s3, (s5 + nI 1), p7.2) (Option.some.inj h).symm)
          exact And.intro rfl (And.intro rfl (And.intro rfl (And.intro rfl (And.intro rfl (trivial)))))
        · rw [if_neg c8] at h
          refine g_iload_n dX4_exchange_51 rfl ?_
          refine g_iload_n dX4_exchange_52 rfl ?_
          refine g_ic_ne (t := 65) dX4_exchange_53 (by decide) (fun c9 => ?_) (fun c9 => ?_)
          · rw [if_neg c9] at h
            refine q_iinc (w := nI 1) (ls' := [none, some (.ref v1), some (.int v2), some (.int (s3 + nI 1)), some (.int v4), some (.int s5)]) dX4_exchange_65 (by decide) rfl (by decide) rfl ?_
            refine q_iinc (w := nI 1) (ls' := [none, some (.ref v1), some (.int v2), some (.int (s3 + nI 1)), some (.int v4), some (.int (s5 + nI 1))]) dX4_exchange_68 (by decide) rfl (by decide) rfl ?_
            refine g_goto (t := 20) dX4_exchange_71 (by decide) ?_
            refine Go_le ?_ (hin ((s3 + nI 1), (s5 + nI 1), p7.2) (Option.some.inj h).symm)
            exact And.intro rfl (And.intro rfl (And.intro rfl (And.intro rfl (And.intro rfl (trivial)))))
          · rw [if_pos c9] at h
            refine g_bipush (v := (nI 10)) dX4_exchange_56 (by decide) ?_
            refine g_iload dX4_exchange_58 rfl ?_
            refine g_imul dX4_exchange_60 ?_
            refine g_iload dX4_exchange_61 rfl ?_
            refine g_iadd dX4_exchange_63 ?_
            exact g_ireturn dX4_exchange_64 rfl (by first | rfl | decide) (hrt _ _ (Option.some.inj h).symm)
noncomputable def F_X4_exchange_l5 (O : mO) (d : Nat) (v1 : Nat) (v2 : Int32) (s3 : Int32) (s4 : Int32) (K : mH) : Option ((Int32 × Int32 × mH) ⊕ ((Int32 × mH) ⊕ (Int32 × mH))) :=
  (gtI K v1 2 13).bind fun x1 =>
  if x1 ≤ s4 then
    some (.inr (.inl (s3, K)))
  else
    (lupF (fun (q : Int32 × Int32 × mH) => F_X4_exchange_l20 O d v1 v2 s4 q.1 q.2.1 q.2.2) FU (s3, (s4 + (nI 1)), K)).bind fun r10 => match r10 with
      | .inl r11 =>
      
        some (.inl (r11.1, (s4 + nI 1), r11.2))
      | .inr r11 => some (.inr (.inr r11))
theorem e_X4_exchange_l5 {O : mO} {d : Nat} {v1 : Nat} {v2 : Int32} {P : Option Value → mH → Prop} {x : (Int32 × mH) ⊕ (Int32 × mH)} (hex : ∀ q : Int32 × mH, x = .inl q → Go O (d + 1) MX4_exchange 80 [none, none, some (.int v2), some (.int q.1), none, none] [] q.2 P) (hrt : ∀ (r : Int32) (K' : mH), x = .inr (r, K') → P (some (.int r)) K') : ∀ (f : Nat) (q : Int32 × Int32 × mH), lupF (fun (q : Int32 × Int32 × mH) => F_X4_exchange_l5 O d v1 v2 q.1 q.2.1 q.2.2) f q = some x → Go O (d + 1) MX4_exchange 5 [none, some (.ref v1), some (.int v2), some (.int q.1), some (.int q.2.1), none] [] q.2.2 P := by
  intro f
  induction f with
  | zero =>
    intro q h
    cases h
  | succ f ih =>
    intro q h
    obtain ⟨y, h, hy1, hy2⟩ := lupF_s h
    have hin : ∀ q : Int32 × Int32 × mH, y = .inl q → Go O (d + 1) MX4_exchange 5 [none, some (.ref v1), some (.int v2), some (.int q.1), some (.int q.2.1), none] [] q.2.2 P := fun q e => ih q (hy1 q e)
    replace hex : ∀ q : Int32 × mH, y = .inr (.inl q) → Go O (d + 1) MX4_exchange 80 [none, none, some (.int v2), some (.int q.1), none, none] [] q.2 P := fun q e => hex q (hy2 _ e).symm
    replace hrt : ∀ (r : Int32) (K' : mH), y = .inr (.inr (r, K')) → P (some (.int r)) K' := fun r K' e => hrt r K' (hy2 _ e).symm
    clear ih hy1 hy2
    obtain ⟨s3, s4, K⟩ := q
    dsimp only at h ⊢
    unfold F_X4_exchange_l5 at h
    refine g_iload dX4_exchange_5 rfl ?_
    refine g_aload_n dX4_exchange_7 rfl ?_
    obtain ⟨x1, ex1, h⟩ := bs h
    refine q_getI dX4_exchange_8 fX4_27 ex1 ?_
    refine g_ic_ge (t := 80) dX4_exchange_11 (by decide) (fun c2 => ?_) (fun c2 => ?_)
    · rw [if_pos c2] at h
      refine Go_le ?_ (hex (s3, K) (Option.some.inj h).symm)
      exact And.intro rfl (And.intro rfl (trivial))
    · rw [if_neg c2] at h
      refine g_iload dX4_exchange_14 rfl ?_
      refine g_iconst (v := (nI 1)) dX4_exchange_16 (by decide) ?_
      refine g_iadd dX4_exchange_17 ?_
      refine g_istore (ls' := [none, some (.ref v1), some (.int v2), some (.int s3), some (.int s4), some (.int (s4 + (nI 1)))]) dX4_exchange_18 (by decide) rfl ?_
      obtain ⟨r10, er10, h⟩ := bs h
      rcases r10 with r11 | r11
      · dsimp only at h
        have hx : Go O (d + 1) MX4_exchange 74 [none, some (.ref v1), some (.int v2), some (.int r11.1), some (.int s4), none] [] r11.2 P := by
          refine q_iinc (w := nI 1) (ls' := [none, some (.ref v1), some (.int v2), some (.int r11.1), some (.int (s4 + nI 1)), none]) dX4_exchange_74 (by decide) rfl (by decide) rfl ?_
          refine g_goto (t := 5) dX4_exchange_77 (by decide) ?_
          refine Go_le ?_ (hin (r11.1, (s4 + nI 1), r11.2) (Option.some.inj h).symm)
          exact And.intro rfl (And.intro rfl (And.intro rfl (And.intro rfl (trivial))))
        refine Go_le ?_ (e_X4_exchange_l20 (fun q e => by cases e; exact hx) (fun r K' e => by cases e) FU (s3, (s4 + (nI 1)), K) er10)
        exact And.intro rfl (And.intro rfl (And.intro rfl (And.intro rfl (And.intro rfl (trivial)))))
      · dsimp only at h
        refine Go_le ?_ (e_X4_exchange_l20 (fun q e => by cases e) (fun r K' e => by cases e; exact hrt _ _ (Option.some.inj h).symm) FU (s3, (s4 + (nI 1)), K) er10)
        exact And.intro rfl (And.intro rfl (And.intro rfl (And.intro rfl (And.intro rfl (trivial)))))
noncomputable def F_X4_exchange (O : mO) (d : Nat) (a0 : Nat) (a1 : Nat) (a2 : Int32) (K : mH) : Option (Int32 × mH) :=
  (lupF (fun (q : Int32 × Int32 × mH) => F_X4_exchange_l5 O d a1 a2 q.1 q.2.1 q.2.2) FU ((nI 0), (nI 0), K)).bind fun r12 => match r12 with
    | .inl r13 =>
    
      some ((if a2 = (-1) then r13.1 else (-1)), r13.2)
    | .inr r13 => some r13
theorem e_X4_exchange {O : mO} {d : Nat} {a0 : Nat} {a1 : Nat} {a2 : Int32} {K : mH} {r0 : Int32} {K0 : mH} (h : F_X4_exchange O d a0 a1 a2 K = some (r0, K0)) : ev O (d + 1) MX4_exchange [.ref a0, .ref a1, .int a2] K = some (some (.int r0), K0) := by
  refine Rn_evx ?_
  show Go O (d + 1) MX4_exchange 0 [some (.ref a0), some (.ref a1), some (.int a2), none, none, none] [] K _
  generalize hP : (fun (r : Option Value) (K' : mH) => (r, K') = (some (.int r0), K0)) = P
  have hret : ∀ (r : Int32) (K' : mH), (r, K') = (r0, K0) → P (some (.int r)) K' := by
    intro r K' e
    cases e
    subst hP
    rfl
  clear hP
  unfold F_X4_exchange at h
  refine g_iconst (v := (nI 0)) dX4_exchange_0 (by decide) ?_
  refine g_istore_n (ls' := [some (.ref a0), some (.ref a1), some (.int a2), some (.int (nI 0)), none, none]) dX4_exchange_1 (by decide) rfl ?_
  refine g_iconst (v := (nI 0)) dX4_exchange_2 (by decide) ?_
  refine g_istore (ls' := [some (.ref a0), some (.ref a1), some (.int a2), some (.int (nI 0)), some (.int (nI 0)), none]) dX4_exchange_3 (by decide) rfl ?_
  obtain ⟨r12, er12, h⟩ := bs h
  rcases r12 with r13 | r13
  · dsimp only at h
    have hx : Go O (d + 1) MX4_exchange 80 [none, none, some (.int a2), some (.int r13.1), none, none] [] r13.2 P := by
      refine g_iload_n dX4_exchange_80 rfl ?_
      refine g_iconst (v := (-1)) dX4_exchange_81 (by decide) ?_
      have hj : Go O (d + 1) MX4_exchange 90 [none, none, none, none, none, none] [.int (if a2 = (-1) then r13.1 else (-1))] r13.2 P := by
        exact g_ireturn dX4_exchange_90 rfl (by first | rfl | decide) (hret _ _ (Option.some.inj h))
      refine g_ic_ne (t := 89) dX4_exchange_82 (by decide) (fun c14 => ?_) (fun c14 => ?_)
      · skip
        refine g_iconst (v := (-1)) dX4_exchange_89 (by decide) ?_
        have hk : Go O (d + 1) MX4_exchange 90 [none, none, none, none, none, none] [.int (-1)] r13.2 P := by simpa only [if_neg c14] using hj
        refine Go_le ?_ hk
        exact trivial
      · skip
        refine g_iload_n dX4_exchange_85 rfl ?_
        refine g_goto (t := 90) dX4_exchange_86 (by decide) ?_
        have hk : Go O (d + 1) MX4_exchange 90 [none, none, none, none, none, none] [.int r13.1] r13.2 P := by simpa only [if_pos c14] using hj
        refine Go_le ?_ hk
        exact trivial
    refine Go_le ?_ (e_X4_exchange_l5 (fun q e => by cases e; exact hx) (fun r K' e => by cases e) FU ((nI 0), (nI 0), K) er12)
    exact And.intro rfl (And.intro rfl (And.intro rfl (And.intro rfl (trivial))))
  · dsimp only at h
    refine Go_le ?_ (e_X4_exchange_l5 (fun q e => by cases e) (fun r K' e => by cases e; exact hret _ _ (Option.some.inj h)) FU ((nI 0), (nI 0), K) er12)
    exact And.intro rfl (And.intro rfl (And.intro rfl (And.intro rfl (trivial))))
noncomputable def F_X4_wantsBedOf (O : mO) (d : Nat) (a0 : Nat) (a1 : Int32) (a2 : Int32) (K : mH) : Option (Int32 × mH) :=
  (toI (vc O d 2 MX2_isIn a0 [.int a1] K)).bind fun p1 =>
  if p1.1 = 0 then
    some ((nI 0), p1.2)
  else
    (toI (vc O d 2 MX2_isIn a0 [.int a2] p1.2)).bind fun p3 =>
    if p3.1 = 0 then
      some ((nI 0), p3.2)
    else
      (gtA p3.2 a0 2 4).bind fun x5 =>
      (rdI O p3.2 x5 a1).bind fun x6 =>
      (gtA p3.2 a0 2 4).bind fun x7 =>
      (rdI O p3.2 x7 a2).bind fun x8 =>
      if x6 = x8 then
        some ((nI 0), p3.2)
      else
        (gtA p3.2 a0 2 4).bind fun x10 =>
        (rdI O p3.2 x10 a2).bind fun x11 =>
        (toI (vc O d 2 MX2_wishOf a0 [.int a1, .int x11] p3.2)).bind fun p12 =>
        (gtA p12.2 a0 2 4).bind fun x13 =>
        (rdI O p12.2 x13 a1).bind fun x14 =>
        (toI (vc O d 2 MX2_wishOf a0 [.int a1, .int x14] p12.2)).bind fun p15 =>
        if p12.1 ≤ p15.1 then
          some ((nI 0), p15.2)
        else
          (toI (vc O d 2 MX2_isBarred a0 [.int a1, .int x11] p15.2)).bind fun p18 =>
          (zz (if p18.1 = 0 then (nI 1) else (nI 0))).bind fun z20 =>
          some (z20, p18.2)
theorem e_X4_wantsBedOf {O : mO} {d : Nat} {a0 : Nat} {a1 : Int32} {a2 : Int32} {K : mH} {r0 : Int32} {K0 : mH} (h : F_X4_wantsBedOf O d a0 a1 a2 K = some (r0, K0)) : ev O (d + 1) MX4_wantsBedOf [.ref a0, .int a1, .int a2] K = some (some (.int r0), K0) := by
  refine Rn_evx ?_
  show Go O (d + 1) MX4_wantsBedOf 0 [some (.ref a0), some (.int a1), some (.int a2), none] [] K _
  generalize hP : (fun (r : Option Value) (K' : mH) => (r, K') = (some (.int r0), K0)) = P
  have hret : ∀ (r : Int32) (K' : mH), (r, K') = (r0, K0) → P (some (.int r)) K' := by
    intro r K' e
    cases e
    subst hP
    rfl
  clear hP
  unfold F_X4_wantsBedOf at h
  refine g_aload_n dX4_wantsBedOf_0 rfl ?_
  refine g_iload_n dX4_wantsBedOf_1 rfl ?_
  obtain ⟨p1, ep1, h⟩ := bs h
  refine q_virt (Z := MX2_isIn) (c := (RX2, TX2, 18)) (toI_s ep1) dX4_wantsBedOf_2 mX4_70.1 mX4_70.2 (Nat.le_of_ble_eq_true rfl) rfl rfl (Nat.le_of_ble_eq_true rfl) (Nat.le_of_ble_eq_true rfl) rfl rfl ?_
  show Go O (d + 1) MX4_wantsBedOf 5 [some (.ref a0), some (.int a1), some (.int a2), none] [.int p1.1] p1.2 P
  refine g_if_eq (t := 31) dX4_wantsBedOf_5 (by decide) (fun c2 => ?_) (fun c2 => ?_)
  · rw [if_pos c2] at h
    refine g_iconst (v := (nI 0)) dX4_wantsBedOf_31 (by decide) ?_
    exact g_ireturn dX4_wantsBedOf_32 rfl (by first | rfl | decide) (hret _ _ (Option.some.inj h))
  · rw [if_neg c2] at h
    refine g_aload_n dX4_wantsBedOf_8 rfl ?_
    refine g_iload_n dX4_wantsBedOf_9 rfl ?_
    obtain ⟨p3, ep3, h⟩ := bs h
    refine q_virt (Z := MX2_isIn) (c := (RX2, TX2, 18)) (toI_s ep3) dX4_wantsBedOf_10 mX4_70.1 mX4_70.2 (Nat.le_of_ble_eq_true rfl) rfl rfl (Nat.le_of_ble_eq_true rfl) (Nat.le_of_ble_eq_true rfl) rfl rfl ?_
    show Go O (d + 1) MX4_wantsBedOf 13 [some (.ref a0), some (.int a1), some (.int a2), none] [.int p3.1] p3.2 P
    refine g_if_eq (t := 31) dX4_wantsBedOf_13 (by decide) (fun c4 => ?_) (fun c4 => ?_)
    · rw [if_pos c4] at h
      refine g_iconst (v := (nI 0)) dX4_wantsBedOf_31 (by decide) ?_
      exact g_ireturn dX4_wantsBedOf_32 rfl (by first | rfl | decide) (hret _ _ (Option.some.inj h))
    · rw [if_neg c4] at h
      refine g_aload_n dX4_wantsBedOf_16 rfl ?_
      obtain ⟨x5, ex5, h⟩ := bs h
      refine q_getA dX4_wantsBedOf_17 fX4_102 ex5 ?_
      refine g_iload_n dX4_wantsBedOf_20 rfl ?_
      obtain ⟨x6, ex6, h⟩ := bs h
      refine q_iald dX4_wantsBedOf_21 ex6 ?_
      refine g_aload_n dX4_wantsBedOf_22 rfl ?_
      obtain ⟨x7, ex7, h⟩ := bs h
      refine q_getA dX4_wantsBedOf_23 fX4_102 ex7 ?_
      refine g_iload_n dX4_wantsBedOf_26 rfl ?_
      obtain ⟨x8, ex8, h⟩ := bs h
      refine q_iald dX4_wantsBedOf_27 ex8 ?_
      refine g_ic_ne (t := 33) dX4_wantsBedOf_28 (by decide) (fun c9 => ?_) (fun c9 => ?_)
      · rw [if_neg c9] at h
        refine g_aload_n dX4_wantsBedOf_33 rfl ?_
        obtain ⟨x10, ex10, h⟩ := bs h
        refine q_getA dX4_wantsBedOf_34 fX4_102 ex10 ?_
        refine g_iload_n dX4_wantsBedOf_37 rfl ?_
        obtain ⟨x11, ex11, h⟩ := bs h
        refine q_iald dX4_wantsBedOf_38 ex11 ?_
        refine g_istore_n (ls' := [some (.ref a0), some (.int a1), some (.int a2), some (.int x11)]) dX4_wantsBedOf_39 (by decide) rfl ?_
        refine g_aload_n dX4_wantsBedOf_40 rfl ?_
        refine g_iload_n dX4_wantsBedOf_41 rfl ?_
        refine g_iload_n dX4_wantsBedOf_42 rfl ?_
        obtain ⟨p12, ep12, h⟩ := bs h
        refine q_virt (Z := MX2_wishOf) (c := (RX2, TX2, 18)) (toI_s ep12) dX4_wantsBedOf_43 mX4_105.1 mX4_105.2 (Nat.le_of_ble_eq_true rfl) rfl rfl (Nat.le_of_ble_eq_true rfl) (Nat.le_of_ble_eq_true rfl) rfl rfl ?_
        show Go O (d + 1) MX4_wantsBedOf 46 [some (.ref a0), some (.int a1), some (.int a2), some (.int x11)] [.int p12.1] p12.2 P
        refine g_aload_n dX4_wantsBedOf_46 rfl ?_
        refine g_iload_n dX4_wantsBedOf_47 rfl ?_
        refine g_aload_n dX4_wantsBedOf_48 rfl ?_
        obtain ⟨x13, ex13, h⟩ := bs h
        refine q_getA dX4_wantsBedOf_49 fX4_102 ex13 ?_
        refine g_iload_n dX4_wantsBedOf_52 rfl ?_
        obtain ⟨x14, ex14, h⟩ := bs h
        refine q_iald dX4_wantsBedOf_53 ex14 ?_
        obtain ⟨p15, ep15, h⟩ := bs h
        refine q_virt (Z := MX2_wishOf) (c := (RX2, TX2, 18)) (toI_s ep15) dX4_wantsBedOf_54 mX4_105.1 mX4_105.2 (Nat.le_of_ble_eq_true rfl) rfl rfl (Nat.le_of_ble_eq_true rfl) (Nat.le_of_ble_eq_true rfl) rfl rfl ?_
        show Go O (d + 1) MX4_wantsBedOf 57 [some (.ref a0), some (.int a1), some (.int a2), some (.int x11)] [.int p15.1, .int p12.1] p15.2 P
        refine g_ic_le (t := 73) dX4_wantsBedOf_57 (by decide) (fun c17 => ?_) (fun c17 => ?_)
        · rw [if_pos c17] at h
          refine g_iconst (v := (nI 0)) dX4_wantsBedOf_73 (by decide) ?_
          exact g_ireturn dX4_wantsBedOf_74 rfl (by first | rfl | decide) (hret _ _ (Option.some.inj h))
        · rw [if_neg c17] at h
          refine g_aload_n dX4_wantsBedOf_60 rfl ?_
          refine g_iload_n dX4_wantsBedOf_61 rfl ?_
          refine g_iload_n dX4_wantsBedOf_62 rfl ?_
          obtain ⟨p18, ep18, h⟩ := bs h
          refine q_virt (Z := MX2_isBarred) (c := (RX2, TX2, 18)) (toI_s ep18) dX4_wantsBedOf_63 mX4_85.1 mX4_85.2 (Nat.le_of_ble_eq_true rfl) rfl rfl (Nat.le_of_ble_eq_true rfl) (Nat.le_of_ble_eq_true rfl) rfl rfl ?_
          show Go O (d + 1) MX4_wantsBedOf 66 [some (.ref a0), some (.int a1), some (.int a2), some (.int x11)] [.int p18.1] p18.2 P
          have hj : Go O (d + 1) MX4_wantsBedOf 74 [none, none, none, none] [.int (if p18.1 = 0 then (nI 1) else (nI 0))] p18.2 P := by
            obtain ⟨z20, ez20, h⟩ := bs h
            exact q_zret dX4_wantsBedOf_74 rfl ez20 (hret _ _ (Option.some.inj h))
          refine g_if_ne (t := 73) dX4_wantsBedOf_66 (by decide) (fun c19 => ?_) (fun c19 => ?_)
          · skip
            refine g_iconst (v := (nI 0)) dX4_wantsBedOf_73 (by decide) ?_
            have hk : Go O (d + 1) MX4_wantsBedOf 74 [none, none, none, none] [.int (nI 0)] p18.2 P := by simpa only [if_neg c19] using hj
            refine Go_le ?_ hk
            exact trivial
          · skip
            refine g_iconst (v := (nI 1)) dX4_wantsBedOf_69 (by decide) ?_
            refine g_goto (t := 74) dX4_wantsBedOf_70 (by decide) ?_
            have hk : Go O (d + 1) MX4_wantsBedOf 74 [none, none, none, none] [.int (nI 1)] p18.2 P := by simpa only [if_pos c19] using hj
            refine Go_le ?_ hk
            exact trivial
      · rw [if_pos c9] at h
        refine g_iconst (v := (nI 0)) dX4_wantsBedOf_31 (by decide) ?_
        exact g_ireturn dX4_wantsBedOf_32 rfl (by first | rfl | decide) (hret _ _ (Option.some.inj h))
noncomputable def F_X7_plan_l12 (O : mO) (d : Nat) (v0 : Nat) (v1 : Nat) (s2 : Int32) (K : mH) : Option ((Int32 × mH) ⊕ (mH)) :=
  (gtI K v0 7 10).bind fun x3 =>
  if x3 < s2 then
    some (.inr K)
  else
    (toV (vc O d 7 MX7_pair v0 [.int s2] K)).bind fun K5 =>
    some (.inl ((s2 + nI 1), K5))
theorem e_X7_plan_l12 {O : mO} {d : Nat} {v0 : Nat} {v1 : Nat} {P : Option Value → mH → Prop} {x : mH} (hex : ∀ q : mH, x = q → Go O (d + 1) MX7_plan 31 [some (.ref v0), some (.ref v1), none, none, none] [] q P) : ∀ (f : Nat) (q : Int32 × mH), lupF (fun (q : Int32 × mH) => F_X7_plan_l12 O d v0 v1 q.1 q.2) f q = some x → Go O (d + 1) MX7_plan 12 [some (.ref v0), some (.ref v1), some (.int q.1), none, none] [] q.2 P := by
  intro f
  induction f with
  | zero =>
    intro q h
    cases h
  | succ f ih =>
    intro q h
    obtain ⟨y, h, hy1, hy2⟩ := lupF_s h
    have hin : ∀ q : Int32 × mH, y = .inl q → Go O (d + 1) MX7_plan 12 [some (.ref v0), some (.ref v1), some (.int q.1), none, none] [] q.2 P := fun q e => ih q (hy1 q e)
    replace hex : ∀ q : mH, y = .inr q → Go O (d + 1) MX7_plan 31 [some (.ref v0), some (.ref v1), none, none, none] [] q P := fun q e => hex q (hy2 q e).symm
    clear ih hy1 hy2
    obtain ⟨s2, K⟩ := q
    dsimp only at h ⊢
    unfold F_X7_plan_l12 at h
    refine g_iload_n dX7_plan_12 rfl ?_
    refine g_aload_n dX7_plan_13 rfl ?_
    obtain ⟨x3, ex3, h⟩ := bs h
    refine q_getI dX7_plan_14 fX7_44 ex3 ?_
    refine g_ic_gt (t := 31) dX7_plan_17 (by decide) (fun c4 => ?_) (fun c4 => ?_)
    · rw [if_pos c4] at h
      refine Go_le ?_ (hex K (Option.some.inj h).symm)
      exact And.intro rfl (And.intro rfl (trivial))
    · rw [if_neg c4] at h
      refine g_aload_n dX7_plan_20 rfl ?_
      refine g_iload_n dX7_plan_21 rfl ?_
      obtain ⟨K5, eK5, h⟩ := bs h
      refine q_virt (Z := MX7_pair) (c := (RX7, TX7, 14)) (toV_s eK5) dX7_plan_22 mX7_64.1 mX7_64.2 (Nat.le_of_ble_eq_true rfl) rfl rfl (Nat.le_of_ble_eq_true rfl) (Nat.le_of_ble_eq_true rfl) rfl rfl ?_
      show Go O (d + 1) MX7_plan 25 [some (.ref v0), some (.ref v1), some (.int s2), none, none] [] K5 P
      refine q_iinc (w := nI 1) (ls' := [some (.ref v0), some (.ref v1), some (.int (s2 + nI 1)), none, none]) dX7_plan_25 (by decide) rfl (by decide) rfl ?_
      refine g_goto (t := 12) dX7_plan_28 (by decide) ?_
      refine Go_le ?_ (hin ((s2 + nI 1), K5) (Option.some.inj h).symm)
      exact And.intro rfl (And.intro rfl (And.intro rfl (trivial)))
noncomputable def F_X7_plan_l43 (O : mO) (d : Nat) (v0 : Nat) (v1 : Nat) (s2 : Int32) (K : mH) : Option ((Int32 × mH) ⊕ (mH)) :=
  (gtI K v0 7 11).bind fun x9 =>
  if x9 < s2 then
    some (.inr K)
  else
    (gtA K v0 7 5).bind fun x11 =>
    (rdI O K x11 s2).bind fun x12 =>
    (gtA K v0 7 4).bind fun x13 =>
    (rdI O K x13 s2).bind fun x14 =>
    if x12 ≤ 0 then
      some (.inl ((s2 + nI 1), K))
    else
      if x14 = (nI 5) then
        some (.inl ((s2 + nI 1), K))
      else
        (gtA K v0 7 0).bind fun x20 =>
        (gtA K v0 7 1).bind fun x21 =>
        (rdI O K x21 x12).bind fun x22 =>
        (wrI K x20 x22 x14).bind fun K23 =>
        (gtI K23 v0 7 12).bind fun x24 =>
        (ptI K23 v0 7 12 (x24 + (nI 1))).bind fun K25 =>
        (gtI K25 v0 7 13).bind fun x26 =>
        (gtA K25 v0 7 1).bind fun x27 =>
        (rdI O K25 x27 x12).bind fun x28 =>
        (toI (vc O d 2 MX2_wishOf v1 [.int x28, .int x14] K25)).bind fun p29 =>
        (ptI p29.2 v0 7 13 (x26 + p29.1)).bind fun K30 =>
        some (.inl ((s2 + nI 1), K30))
theorem e_X7_plan_l43 {O : mO} {d : Nat} {v0 : Nat} {v1 : Nat} {P : Option Value → mH → Prop} {x : mH} (hex : ∀ q : mH, x = q → Go O (d + 1) MX7_plan 126 [none, none, none, none, none] [] q P) : ∀ (f : Nat) (q : Int32 × mH), lupF (fun (q : Int32 × mH) => F_X7_plan_l43 O d v0 v1 q.1 q.2) f q = some x → Go O (d + 1) MX7_plan 43 [some (.ref v0), some (.ref v1), some (.int q.1), none, none] [] q.2 P := by
  intro f
  induction f with
  | zero =>
    intro q h
    cases h
  | succ f ih =>
    intro q h
    obtain ⟨y, h, hy1, hy2⟩ := lupF_s h
    have hin : ∀ q : Int32 × mH, y = .inl q → Go O (d + 1) MX7_plan 43 [some (.ref v0), some (.ref v1), some (.int q.1), none, none] [] q.2 P := fun q e => ih q (hy1 q e)
    replace hex : ∀ q : mH, y = .inr q → Go O (d + 1) MX7_plan 126 [none, none, none, none, none] [] q P := fun q e => hex q (hy2 q e).symm
    clear ih hy1 hy2
    obtain ⟨s2, K⟩ := q
    dsimp only at h ⊢
    unfold F_X7_plan_l43 at h
    refine g_iload_n dX7_plan_43 rfl ?_
    refine g_aload_n dX7_plan_44 rfl ?_
    obtain ⟨x9, ex9, h⟩ := bs h
    refine q_getI dX7_plan_45 fX7_48 ex9 ?_
    refine g_ic_gt (t := 126) dX7_plan_48 (by decide) (fun c10 => ?_) (fun c10 => ?_)
    · rw [if_pos c10] at h
      refine Go_le ?_ (hex K (Option.some.inj h).symm)
      exact trivial
    · rw [if_neg c10] at h
      refine g_aload_n dX7_plan_51 rfl ?_
      obtain ⟨x11, ex11, h⟩ := bs h
      refine q_getA dX7_plan_52 fX7_28 ex11 ?_
      refine g_iload_n dX7_plan_55 rfl ?_
      obtain ⟨x12, ex12, h⟩ := bs h
      refine q_iald dX7_plan_56 ex12 ?_
      refine g_istore_n (ls' := [some (.ref v0), some (.ref v1), some (.int s2), some (.int x12), none]) dX7_plan_57 (by decide) rfl ?_
      refine g_aload_n dX7_plan_58 rfl ?_
      obtain ⟨x13, ex13, h⟩ := bs h
      refine q_getA dX7_plan_59 fX7_25 ex13 ?_
      refine g_iload_n dX7_plan_62 rfl ?_
      obtain ⟨x14, ex14, h⟩ := bs h
      refine q_iald dX7_plan_63 ex14 ?_
      refine g_istore (ls' := [some (.ref v0), some (.ref v1), some (.int s2), some (.int x12), some (.int x14)]) dX7_plan_64 (by decide) rfl ?_
      refine g_iload_n dX7_plan_66 rfl ?_
      refine g_if_le (t := 120) dX7_plan_67 (by decide) (fun c17 => ?_) (fun c17 => ?_)
      · rw [if_pos c17] at h
        refine q_iinc (w := nI 1) (ls' := [some (.ref v0), some (.ref v1), some (.int (s2 + nI 1)), some (.int x12), some (.int x14)]) dX7_plan_120 (by decide) rfl (by decide) rfl ?_
        refine g_goto (t := 43) dX7_plan_123 (by decide) ?_
        refine Go_le ?_ (hin ((s2 + nI 1), K) (Option.some.inj h).symm)
        exact And.intro rfl (And.intro rfl (And.intro rfl (trivial)))
      · rw [if_neg c17] at h
        refine g_iload dX7_plan_70 rfl ?_
        refine g_iconst (v := (nI 5)) dX7_plan_72 (by decide) ?_
        refine g_ic_eq (t := 120) dX7_plan_73 (by decide) (fun c19 => ?_) (fun c19 => ?_)
        · rw [if_pos c19] at h
          refine q_iinc (w := nI 1) (ls' := [some (.ref v0), some (.ref v1), some (.int (s2 + nI 1)), some (.int x12), some (.int x14)]) dX7_plan_120 (by decide) rfl (by decide) rfl ?_
          refine g_goto (t := 43) dX7_plan_123 (by decide) ?_
          refine Go_le ?_ (hin ((s2 + nI 1), K) (Option.some.inj h).symm)
          exact And.intro rfl (And.intro rfl (And.intro rfl (trivial)))
        · rw [if_neg c19] at h
          refine g_aload_n dX7_plan_76 rfl ?_
          obtain ⟨x20, ex20, h⟩ := bs h
          refine q_getA dX7_plan_77 fX7_9 ex20 ?_
          refine g_aload_n dX7_plan_80 rfl ?_
          obtain ⟨x21, ex21, h⟩ := bs h
          refine q_getA dX7_plan_81 fX7_15 ex21 ?_
          refine g_iload_n dX7_plan_84 rfl ?_
          obtain ⟨x22, ex22, h⟩ := bs h
          refine q_iald dX7_plan_85 ex22 ?_
          refine g_iload dX7_plan_86 rfl ?_
          obtain ⟨K23, eK23, h⟩ := bs h
          refine q_iast dX7_plan_88 eK23 ?_
          refine g_aload_n dX7_plan_89 rfl ?_
          refine g_dup dX7_plan_90 (by first | rfl | exact vrf_cat _) ?_
          obtain ⟨x24, ex24, h⟩ := bs h
          refine q_getI dX7_plan_91 fX7_51 ex24 ?_
          refine g_iconst (v := (nI 1)) dX7_plan_94 (by decide) ?_
          refine g_iadd dX7_plan_95 ?_
          obtain ⟨K25, eK25, h⟩ := bs h
          refine q_put (c := (RX7, TX7, 14)) dX7_plan_96 fX7_51 rfl rfl rfl (fun h => absurd h (by decide)) eK25 ?_
          refine g_aload_n dX7_plan_99 rfl ?_
          refine g_dup dX7_plan_100 (by first | rfl | exact vrf_cat _) ?_
          obtain ⟨x26, ex26, h⟩ := bs h
          refine q_getI dX7_plan_101 fX7_54 ex26 ?_
          refine g_aload_n dX7_plan_104 rfl ?_
          refine g_aload_n dX7_plan_105 rfl ?_
          obtain ⟨x27, ex27, h⟩ := bs h
          refine q_getA dX7_plan_106 fX7_15 ex27 ?_
          refine g_iload_n dX7_plan_109 rfl ?_
          obtain ⟨x28, ex28, h⟩ := bs h
          refine q_iald dX7_plan_110 ex28 ?_
          refine g_iload dX7_plan_111 rfl ?_
          obtain ⟨p29, ep29, h⟩ := bs h
          refine q_virt (Z := MX2_wishOf) (c := (RX2, TX2, 18)) (toI_s ep29) dX7_plan_113 mX7_68.1 mX7_68.2 (Nat.le_of_ble_eq_true rfl) rfl rfl (Nat.le_of_ble_eq_true rfl) (Nat.le_of_ble_eq_true rfl) rfl rfl ?_
          show Go O (d + 1) MX7_plan 116 [some (.ref v0), some (.ref v1), some (.int s2), some (.int x12), some (.int x14)] [.int p29.1, .int x26, .ref v0] p29.2 P
          refine g_iadd dX7_plan_116 ?_
          obtain ⟨K30, eK30, h⟩ := bs h
          refine q_put (c := (RX7, TX7, 14)) dX7_plan_117 fX7_54 rfl rfl rfl (fun h => absurd h (by decide)) eK30 ?_
          refine q_iinc (w := nI 1) (ls' := [some (.ref v0), some (.ref v1), some (.int (s2 + nI 1)), some (.int x12), some (.int x14)]) dX7_plan_120 (by decide) rfl (by decide) rfl ?_
          refine g_goto (t := 43) dX7_plan_123 (by decide) ?_
          refine Go_le ?_ (hin ((s2 + nI 1), K30) (Option.some.inj h).symm)
          exact And.intro rfl (And.intro rfl (And.intro rfl (trivial)))
noncomputable def F_X7_plan (O : mO) (d : Nat) (a0 : Nat) (a1 : Nat) (K : mH) : Option (mH) :=
  (toV (vc O d 7 MX7_setRows a0 [.ref a1] K)).bind fun K1 =>
  (toV (vc O d 7 MX7_setColumns a0 [.ref a1] K1)).bind fun K2 =>
  (lupF (fun (q : Int32 × mH) => F_X7_plan_l12 O d a0 a1 q.1 q.2) FU ((nI 1), K2)).bind fun r6 =>
  (ptI r6 a0 7 12 (nI 0)).bind fun K7 =>
  (ptI K7 a0 7 13 (nI 0)).bind fun K8 =>
  (lupF (fun (q : Int32 × mH) => F_X7_plan_l43 O d a0 a1 q.1 q.2) FU ((nI 1), K8)).bind fun r31 =>
  some r31
theorem e_X7_plan {O : mO} {d : Nat} {a0 : Nat} {a1 : Nat} {K : mH} {x : mH} (h : F_X7_plan O d a0 a1 K = some x) : ev O (d + 1) MX7_plan [.ref a0, .ref a1] K = some (none, x) := by
  refine Rn_evx ?_
  show Go O (d + 1) MX7_plan 0 [some (.ref a0), some (.ref a1), none, none, none] [] K _
  generalize hP : (fun (r : Option Value) (K' : mH) => (r, K') = (none, x)) = P
  have hret : ∀ K' : mH, K' = x → P none K' := by
    intro K' e
    subst hP e
    rfl
  clear hP
  unfold F_X7_plan at h
  refine g_aload_n dX7_plan_0 rfl ?_
  refine g_aload_n dX7_plan_1 rfl ?_
  obtain ⟨K1, eK1, h⟩ := bs h
  refine q_virt (Z := MX7_setRows) (c := (RX7, TX7, 14)) (toV_s eK1) dX7_plan_2 mX7_57.1 mX7_57.2 (Nat.le_of_ble_eq_true rfl) rfl rfl (Nat.le_of_ble_eq_true rfl) (Nat.le_of_ble_eq_true rfl) rfl rfl ?_
  show Go O (d + 1) MX7_plan 5 [some (.ref a0), some (.ref a1), none, none, none] [] K1 P
  refine g_aload_n dX7_plan_5 rfl ?_
  refine g_aload_n dX7_plan_6 rfl ?_
  obtain ⟨K2, eK2, h⟩ := bs h
  refine q_virt (Z := MX7_setColumns) (c := (RX7, TX7, 14)) (toV_s eK2) dX7_plan_7 mX7_61.1 mX7_61.2 (Nat.le_of_ble_eq_true rfl) rfl rfl (Nat.le_of_ble_eq_true rfl) (Nat.le_of_ble_eq_true rfl) rfl rfl ?_
  show Go O (d + 1) MX7_plan 10 [some (.ref a0), some (.ref a1), none, none, none] [] K2 P
  refine g_iconst (v := (nI 1)) dX7_plan_10 (by decide) ?_
  refine g_istore_n (ls' := [some (.ref a0), some (.ref a1), some (.int (nI 1)), none, none]) dX7_plan_11 (by decide) rfl ?_
  obtain ⟨r6, er6, h⟩ := bs h
  have hx : Go O (d + 1) MX7_plan 31 [some (.ref a0), some (.ref a1), none, none, none] [] r6 P := by
    refine g_aload_n dX7_plan_31 rfl ?_
    refine g_iconst (v := (nI 0)) dX7_plan_32 (by decide) ?_
    obtain ⟨K7, eK7, h⟩ := bs h
    refine q_put (c := (RX7, TX7, 14)) dX7_plan_33 fX7_51 rfl rfl rfl (fun h => absurd h (by decide)) eK7 ?_
    refine g_aload_n dX7_plan_36 rfl ?_
    refine g_iconst (v := (nI 0)) dX7_plan_37 (by decide) ?_
    obtain ⟨K8, eK8, h⟩ := bs h
    refine q_put (c := (RX7, TX7, 14)) dX7_plan_38 fX7_54 rfl rfl rfl (fun h => absurd h (by decide)) eK8 ?_
    refine g_iconst (v := (nI 1)) dX7_plan_41 (by decide) ?_
    refine g_istore_n (ls' := [some (.ref a0), some (.ref a1), some (.int (nI 1)), none, none]) dX7_plan_42 (by decide) rfl ?_
    obtain ⟨r31, er31, h⟩ := bs h
    have hx : Go O (d + 1) MX7_plan 126 [none, none, none, none, none] [] r31 P := by
      exact g_return dX7_plan_126 rfl (hret _ (Option.some.inj h))
    refine Go_le ?_ (e_X7_plan_l43 (fun q e => by cases e; exact hx) FU ((nI 1), K8) er31)
    exact And.intro rfl (And.intro rfl (And.intro rfl (trivial)))
  refine Go_le ?_ (e_X7_plan_l12 (fun q e => by cases e; exact hx) FU ((nI 1), K2) er6)
  exact And.intro rfl (And.intro rfl (And.intro rfl (trivial)))
noncomputable def F_X7_setRows_l7 (O : mO) (d : Nat) (v0 : Nat) (v1 : Nat) (s2 : Int32) (K : mH) : Option ((Int32 × mH) ⊕ (mH)) :=
  (gtI K v1 2 13).bind fun x2 =>
  if x2 ≤ s2 then
    some (.inr K)
  else
    (gtA K v0 7 0).bind fun x4 =>
    (wrI K x4 s2 (-1)).bind fun K5 =>
    (toI (vc O d 2 MX2_isOut v1 [.int s2] K5)).bind fun p6 =>
    if p6.1 = 0 then
      some (.inl ((s2 + nI 1), p6.2))
    else
      (gtA p6.2 v0 7 0).bind fun x9 =>
      (wrI p6.2 x9 s2 (nI 100)).bind fun K10 =>
      (gtI K10 v0 7 10).bind fun x11 =>
      (ptI K10 v0 7 10 (x11 + (nI 1))).bind fun K12 =>
      (gtA K12 v0 7 1).bind fun x13 =>
      (gtI K12 v0 7 10).bind fun x14 =>
      (wrI K12 x13 x14 s2).bind fun K15 =>
      (gtA K15 v0 7 3).bind fun x16 =>
      (gtI K15 v0 7 10).bind fun x17 =>
      (wrJ K15 x16 x17 0).bind fun K18 =>
      some (.inl ((s2 + nI 1), K18))
theorem e_X7_setRows_l7 {O : mO} {d : Nat} {v0 : Nat} {v1 : Nat} {P : Option Value → mH → Prop} {x : mH} (hex : ∀ q : mH, x = q → Go O (d + 1) MX7_setRows 74 [some (.ref v0), some (.ref v1), none, none, none] [] q P) : ∀ (f : Nat) (q : Int32 × mH), lupF (fun (q : Int32 × mH) => F_X7_setRows_l7 O d v0 v1 q.1 q.2) f q = some x → Go O (d + 1) MX7_setRows 7 [some (.ref v0), some (.ref v1), some (.int q.1), none, none] [] q.2 P := by
  intro f
  induction f with
  | zero =>
    intro q h
    cases h
  | succ f ih =>
    intro q h
    obtain ⟨y, h, hy1, hy2⟩ := lupF_s h
    have hin : ∀ q : Int32 × mH, y = .inl q → Go O (d + 1) MX7_setRows 7 [some (.ref v0), some (.ref v1), some (.int q.1), none, none] [] q.2 P := fun q e => ih q (hy1 q e)
    replace hex : ∀ q : mH, y = .inr q → Go O (d + 1) MX7_setRows 74 [some (.ref v0), some (.ref v1), none, none, none] [] q P := fun q e => hex q (hy2 q e).symm
    clear ih hy1 hy2
    obtain ⟨s2, K⟩ := q
    dsimp only at h ⊢
    unfold F_X7_setRows_l7 at h
    refine g_iload_n dX7_setRows_7 rfl ?_
    refine g_aload_n dX7_setRows_8 rfl ?_
    obtain ⟨x2, ex2, h⟩ := bs h
    refine q_getI dX7_setRows_9 fX7_74 ex2 ?_
    refine g_ic_ge (t := 74) dX7_setRows_12 (by decide) (fun c3 => ?_) (fun c3 => ?_)
    · rw [if_pos c3] at h
      refine Go_le ?_ (hex K (Option.some.inj h).symm)
      exact And.intro rfl (And.intro rfl (trivial))
    · rw [if_neg c3] at h
      refine g_aload_n dX7_setRows_15 rfl ?_
      obtain ⟨x4, ex4, h⟩ := bs h
      refine q_getA dX7_setRows_16 fX7_9 ex4 ?_
      refine g_iload_n dX7_setRows_19 rfl ?_
      refine g_iconst (v := (-1)) dX7_setRows_20 (by decide) ?_
      obtain ⟨K5, eK5, h⟩ := bs h
      refine q_iast dX7_setRows_21 eK5 ?_
      refine g_aload_n dX7_setRows_22 rfl ?_
      refine g_iload_n dX7_setRows_23 rfl ?_
      obtain ⟨p6, ep6, h⟩ := bs h
      refine q_virt (Z := MX2_isOut) (c := (RX2, TX2, 18)) (toI_s ep6) dX7_setRows_24 mX7_77.1 mX7_77.2 (Nat.le_of_ble_eq_true rfl) rfl rfl (Nat.le_of_ble_eq_true rfl) (Nat.le_of_ble_eq_true rfl) rfl rfl ?_
      show Go O (d + 1) MX7_setRows 27 [some (.ref v0), some (.ref v1), some (.int s2), none, none] [.int p6.1] p6.2 P
      refine g_if_eq (t := 68) dX7_setRows_27 (by decide) (fun c8 => ?_) (fun c8 => ?_)
      · rw [if_pos c8] at h
        refine q_iinc (w := nI 1) (ls' := [some (.ref v0), some (.ref v1), some (.int (s2 + nI 1)), none, none]) dX7_setRows_68 (by decide) rfl (by decide) rfl ?_
        refine g_goto (t := 7) dX7_setRows_71 (by decide) ?_
        refine Go_le ?_ (hin ((s2 + nI 1), p6.2) (Option.some.inj h).symm)
        exact And.intro rfl (And.intro rfl (And.intro rfl (trivial)))
      · rw [if_neg c8] at h
        refine g_aload_n dX7_setRows_30 rfl ?_
        obtain ⟨x9, ex9, h⟩ := bs h
        refine q_getA dX7_setRows_31 fX7_9 ex9 ?_
        refine g_iload_n dX7_setRows_34 rfl ?_
        refine g_bipush (v := (nI 100)) dX7_setRows_35 (by decide) ?_
        obtain ⟨K10, eK10, h⟩ := bs h
        refine q_iast dX7_setRows_37 eK10 ?_
        refine g_aload_n dX7_setRows_38 rfl ?_
        refine g_dup dX7_setRows_39 (by first | rfl | exact vrf_cat _) ?_
        obtain ⟨x11, ex11, h⟩ := bs h
        refine q_getI dX7_setRows_40 fX7_44 ex11 ?_
        refine g_iconst (v := (nI 1)) dX7_setRows_43 (by decide) ?_
        refine g_iadd dX7_setRows_44 ?_
        obtain ⟨K12, eK12, h⟩ := bs h
        refine q_put (c := (RX7, TX7, 14)) dX7_setRows_45 fX7_44 rfl rfl rfl (fun h => absurd h (by decide)) eK12 ?_
        refine g_aload_n dX7_setRows_48 rfl ?_
        obtain ⟨x13, ex13, h⟩ := bs h
        refine q_getA dX7_setRows_49 fX7_15 ex13 ?_
        refine g_aload_n dX7_setRows_52 rfl ?_
        obtain ⟨x14, ex14, h⟩ := bs h
        refine q_getI dX7_setRows_53 fX7_44 ex14 ?_
        refine g_iload_n dX7_setRows_56 rfl ?_
        obtain ⟨K15, eK15, h⟩ := bs h
        refine q_iast dX7_setRows_57 eK15 ?_
        refine g_aload_n dX7_setRows_58 rfl ?_
        obtain ⟨x16, ex16, h⟩ := bs h
        refine q_getA dX7_setRows_59 fX7_22 ex16 ?_
        refine g_aload_n dX7_setRows_62 rfl ?_
        obtain ⟨x17, ex17, h⟩ := bs h
        refine q_getI dX7_setRows_63 fX7_44 ex17 ?_
        refine g_lconst (v := 0) dX7_setRows_66 (by decide) ?_
        obtain ⟨K18, eK18, h⟩ := bs h
        refine q_last dX7_setRows_67 eK18 ?_
        refine q_iinc (w := nI 1) (ls' := [some (.ref v0), some (.ref v1), some (.int (s2 + nI 1)), none, none]) dX7_setRows_68 (by decide) rfl (by decide) rfl ?_
        refine g_goto (t := 7) dX7_setRows_71 (by decide) ?_
        refine Go_le ?_ (hin ((s2 + nI 1), K18) (Option.some.inj h).symm)
        exact And.intro rfl (And.intro rfl (And.intro rfl (trivial)))
noncomputable def F_X7_setRows_l82 (O : mO) (d : Nat) (v0 : Nat) (v1 : Nat) (s2 : Int64) (s4 : Int32) (K : mH) : Option ((Int64 × Int32 × mH) ⊕ (mH)) :=
  if s4 < (nI 1) then
    some (.inr K)
  else
    (toV (vc O d 7 MX7_setCosts v0 [.ref v1, .int s4, .long s2] K)).bind fun K22 =>
    some (.inl ((s2 * (6)), (s4 + (-1)), K22))
theorem e_X7_setRows_l82 {O : mO} {d : Nat} {v0 : Nat} {v1 : Nat} {P : Option Value → mH → Prop} {x : mH} (hex : ∀ q : mH, x = q → Go O (d + 1) MX7_setRows 108 [none, none, none, none, none] [] q P) : ∀ (f : Nat) (q : Int64 × Int32 × mH), lupF (fun (q : Int64 × Int32 × mH) => F_X7_setRows_l82 O d v0 v1 q.1 q.2.1 q.2.2) f q = some x → Go O (d + 1) MX7_setRows 82 [some (.ref v0), some (.ref v1), some (.long q.1), none, some (.int q.2.1)] [] q.2.2 P := by
  intro f
  induction f with
  | zero =>
    intro q h
    cases h
  | succ f ih =>
    intro q h
    obtain ⟨y, h, hy1, hy2⟩ := lupF_s h
    have hin : ∀ q : Int64 × Int32 × mH, y = .inl q → Go O (d + 1) MX7_setRows 82 [some (.ref v0), some (.ref v1), some (.long q.1), none, some (.int q.2.1)] [] q.2.2 P := fun q e => ih q (hy1 q e)
    replace hex : ∀ q : mH, y = .inr q → Go O (d + 1) MX7_setRows 108 [none, none, none, none, none] [] q P := fun q e => hex q (hy2 q e).symm
    clear ih hy1 hy2
    obtain ⟨s2, s4, K⟩ := q
    dsimp only at h ⊢
    unfold F_X7_setRows_l82 at h
    refine g_iload dX7_setRows_82 rfl ?_
    refine g_iconst (v := (nI 1)) dX7_setRows_84 (by decide) ?_
    refine g_ic_lt (t := 108) dX7_setRows_85 (by decide) (fun c21 => ?_) (fun c21 => ?_)
    · rw [if_pos c21] at h
      refine Go_le ?_ (hex K (Option.some.inj h).symm)
      exact trivial
    · rw [if_neg c21] at h
      refine g_aload_n dX7_setRows_88 rfl ?_
      refine g_aload_n dX7_setRows_89 rfl ?_
      refine g_iload dX7_setRows_90 rfl ?_
      refine g_lload_n dX7_setRows_92 rfl ?_
      obtain ⟨K22, eK22, h⟩ := bs h
      refine q_virt (Z := MX7_setCosts) (c := (RX7, TX7, 14)) (toV_s eK22) dX7_setRows_93 mX7_81.1 mX7_81.2 (Nat.le_of_ble_eq_true rfl) rfl rfl (Nat.le_of_ble_eq_true rfl) (Nat.le_of_ble_eq_true rfl) rfl rfl ?_
      show Go O (d + 1) MX7_setRows 96 [some (.ref v0), some (.ref v1), some (.long s2), none, some (.int s4)] [] K22 P
      refine g_lload_n dX7_setRows_96 rfl ?_
      refine g_ldc2 (v := 6) dX7_setRows_97 lX7_85 ?_
      refine g_lmul dX7_setRows_100 ?_
      refine g_lstore_n (ls' := [some (.ref v0), some (.ref v1), some (.long (s2 * (6))), none, some (.int s4)]) dX7_setRows_101 (by decide) rfl ?_
      refine q_iinc (w := (-1)) (ls' := [some (.ref v0), some (.ref v1), some (.long (s2 * (6))), none, some (.int (s4 + (-1)))]) dX7_setRows_102 (by decide) rfl (by decide) rfl ?_
      refine g_goto (t := 82) dX7_setRows_105 (by decide) ?_
      have hh := hin ((s2 * (6)), (s4 + (-1)), K22) (Option.some.inj h).symm; (try dsimp only at hh); refine Go_le ?_ hh
      exact And.intro rfl (And.intro rfl (And.intro rfl (And.intro rfl (trivial))))
noncomputable def F_X7_setRows (O : mO) (d : Nat) (a0 : Nat) (a1 : Nat) (K : mH) : Option (mH) :=
  (ptI K a0 7 10 (nI 0)).bind fun K1 =>
  (lupF (fun (q : Int32 × mH) => F_X7_setRows_l7 O d a0 a1 q.1 q.2) FU ((nI 0), K1)).bind fun r19 =>
  (gtI r19 a0 7 10).bind fun x20 =>
  (lupF (fun (q : Int64 × Int32 × mH) => F_X7_setRows_l82 O d a0 a1 q.1 q.2.1 q.2.2) FU (1, x20, r19)).bind fun r23 =>
  some r23
theorem e_X7_setRows {O : mO} {d : Nat} {a0 : Nat} {a1 : Nat} {K : mH} {x : mH} (h : F_X7_setRows O d a0 a1 K = some x) : ev O (d + 1) MX7_setRows [.ref a0, .ref a1] K = some (none, x) := by
  refine Rn_evx ?_
  show Go O (d + 1) MX7_setRows 0 [some (.ref a0), some (.ref a1), none, none, none] [] K _
  generalize hP : (fun (r : Option Value) (K' : mH) => (r, K') = (none, x)) = P
  have hret : ∀ K' : mH, K' = x → P none K' := by
    intro K' e
    subst hP e
    rfl
  clear hP
  unfold F_X7_setRows at h
  refine g_aload_n dX7_setRows_0 rfl ?_
  refine g_iconst (v := (nI 0)) dX7_setRows_1 (by decide) ?_
  obtain ⟨K1, eK1, h⟩ := bs h
  refine q_put (c := (RX7, TX7, 14)) dX7_setRows_2 fX7_44 rfl rfl rfl (fun h => absurd h (by decide)) eK1 ?_
  refine g_iconst (v := (nI 0)) dX7_setRows_5 (by decide) ?_
  refine g_istore_n (ls' := [some (.ref a0), some (.ref a1), some (.int (nI 0)), none, none]) dX7_setRows_6 (by decide) rfl ?_
  obtain ⟨r19, er19, h⟩ := bs h
  have hx : Go O (d + 1) MX7_setRows 74 [some (.ref a0), some (.ref a1), none, none, none] [] r19 P := by
    refine g_lconst (v := 1) dX7_setRows_74 (by decide) ?_
    refine g_lstore_n (ls' := [some (.ref a0), some (.ref a1), some (.long 1), none, none]) dX7_setRows_75 (by decide) rfl ?_
    refine g_aload_n dX7_setRows_76 rfl ?_
    obtain ⟨x20, ex20, h⟩ := bs h
    refine q_getI dX7_setRows_77 fX7_44 ex20 ?_
    refine g_istore (ls' := [some (.ref a0), some (.ref a1), some (.long 1), none, some (.int x20)]) dX7_setRows_80 (by decide) rfl ?_
    obtain ⟨r23, er23, h⟩ := bs h
    have hx : Go O (d + 1) MX7_setRows 108 [none, none, none, none, none] [] r23 P := by
      exact g_return dX7_setRows_108 rfl (hret _ (Option.some.inj h))
    refine Go_le ?_ (e_X7_setRows_l82 (fun q e => by cases e; exact hx) FU (1, x20, r19) er23)
    exact And.intro rfl (And.intro rfl (And.intro rfl (And.intro rfl (trivial))))
  refine Go_le ?_ (e_X7_setRows_l7 (fun q e => by cases e; exact hx) FU ((nI 0), K1) er19)
  exact And.intro rfl (And.intro rfl (And.intro rfl (trivial)))
noncomputable def F_X7_setCosts_l11 (O : mO) (d : Nat) (v0 : Nat) (v1 : Nat) (v2 : Int32) (v3 : Int64) (v5 : Int32) (s6 : Int32) (K : mH) : Option ((Int32 × mH) ⊕ (mH)) :=
  (gtI K v1 2 11).bind fun x3 =>
  if x3 ≤ s6 then
    some (.inr K)
  else
    (toI (vc O d 2 MX2_wishOf v1 [.int v5, .int s6] K)).bind fun p5 =>
    (gtA p5.2 v0 7 2).bind fun x6 =>
    (toI (vc O d 2 MX2_isBarred v1 [.int v5, .int s6] p5.2)).bind fun p7 =>
    (wrJ p7.2 x6 ((v2 * (nI 6)) + s6) (if p7.1 = 0 then ((v3 * s6.toInt64) - ((268435456) + ((2097152) * p5.1.toInt64))) else (1099511627776))).bind fun K9 =>
    some (.inl ((s6 + nI 1), K9))
theorem e_X7_setCosts_l11 {O : mO} {d : Nat} {v0 : Nat} {v1 : Nat} {v2 : Int32} {v3 : Int64} {v5 : Int32} {P : Option Value → mH → Prop} {x : mH} (hex : ∀ q : mH, x = q → Go O (d + 1) MX7_setCosts 82 [some (.ref v0), none, some (.int v2), some (.long v3), none, none, none, none, none] [] q P) : ∀ (f : Nat) (q : Int32 × mH), lupF (fun (q : Int32 × mH) => F_X7_setCosts_l11 O d v0 v1 v2 v3 v5 q.1 q.2) f q = some x → Go O (d + 1) MX7_setCosts 11 [some (.ref v0), some (.ref v1), some (.int v2), some (.long v3), none, some (.int v5), some (.int q.1), none, none] [] q.2 P := by
  intro f
  induction f with
  | zero =>
    intro q h
    cases h
  | succ f ih =>
    intro q h
    obtain ⟨y, h, hy1, hy2⟩ := lupF_s h
    have hin : ∀ q : Int32 × mH, y = .inl q → Go O (d + 1) MX7_setCosts 11 [some (.ref v0), some (.ref v1), some (.int v2), some (.long v3), none, some (.int v5), some (.int q.1), none, none] [] q.2 P := fun q e => ih q (hy1 q e)
    replace hex : ∀ q : mH, y = .inr q → Go O (d + 1) MX7_setCosts 82 [some (.ref v0), none, some (.int v2), some (.long v3), none, none, none, none, none] [] q P := fun q e => hex q (hy2 q e).symm
    clear ih hy1 hy2
    obtain ⟨s6, K⟩ := q
    dsimp only at h ⊢
    unfold F_X7_setCosts_l11 at h
    refine g_iload dX7_setCosts_11 rfl ?_
    refine g_aload_n dX7_setCosts_13 rfl ?_
    obtain ⟨x3, ex3, h⟩ := bs h
    refine q_getI dX7_setCosts_14 fX7_87 ex3 ?_
    refine g_ic_ge (t := 82) dX7_setCosts_17 (by decide) (fun c4 => ?_) (fun c4 => ?_)
    · rw [if_pos c4] at h
      refine Go_le ?_ (hex K (Option.some.inj h).symm)
      exact And.intro rfl (And.intro rfl (And.intro rfl (trivial)))
    · rw [if_neg c4] at h
      refine g_ldc2 (v := 268435456) dX7_setCosts_20 lX7_90 ?_
      refine g_ldc2 (v := 2097152) dX7_setCosts_23 lX7_92 ?_
      refine g_aload_n dX7_setCosts_26 rfl ?_
      refine g_iload dX7_setCosts_27 rfl ?_
      refine g_iload dX7_setCosts_29 rfl ?_
      obtain ⟨p5, ep5, h⟩ := bs h
      refine q_virt (Z := MX2_wishOf) (c := (RX2, TX2, 18)) (toI_s ep5) dX7_setCosts_31 mX7_68.1 mX7_68.2 (Nat.le_of_ble_eq_true rfl) rfl rfl (Nat.le_of_ble_eq_true rfl) (Nat.le_of_ble_eq_true rfl) rfl rfl ?_
      show Go O (d + 1) MX7_setCosts 34 [some (.ref v0), some (.ref v1), some (.int v2), some (.long v3), none, some (.int v5), some (.int s6), none, none] [.int p5.1, .long (2097152), .long (268435456)] p5.2 P
      refine g_i2l dX7_setCosts_34 ?_
      refine g_lmul dX7_setCosts_35 ?_
      refine g_ladd dX7_setCosts_36 ?_
      refine g_lstore (ls' := [some (.ref v0), some (.ref v1), some (.int v2), some (.long v3), none, some (.int v5), some (.int s6), some (.long ((268435456) + ((2097152) * p5.1.toInt64))), none]) dX7_setCosts_37 (by decide) rfl ?_
      refine g_aload_n dX7_setCosts_39 rfl ?_
      obtain ⟨x6, ex6, h⟩ := bs h
      refine q_getA dX7_setCosts_40 fX7_18 ex6 ?_
      refine g_iload_n dX7_setCosts_43 rfl ?_
      refine g_bipush (v := (nI 6)) dX7_setCosts_44 (by decide) ?_
      refine g_imul dX7_setCosts_46 ?_
      refine g_iload dX7_setCosts_47 rfl ?_
      refine g_iadd dX7_setCosts_49 ?_
      refine g_aload_n dX7_setCosts_50 rfl ?_
      refine g_iload dX7_setCosts_51 rfl ?_
      refine g_iload dX7_setCosts_53 rfl ?_
      obtain ⟨p7, ep7, h⟩ := bs h
      refine q_virt (Z := MX2_isBarred) (c := (RX2, TX2, 18)) (toI_s ep7) dX7_setCosts_55 mX7_94.1 mX7_94.2 (Nat.le_of_ble_eq_true rfl) rfl rfl (Nat.le_of_ble_eq_true rfl) (Nat.le_of_ble_eq_true rfl) rfl rfl ?_
      show Go O (d + 1) MX7_setCosts 58 [some (.ref v0), some (.ref v1), some (.int v2), some (.long v3), none, some (.int v5), some (.int s6), some (.long ((268435456) + ((2097152) * p5.1.toInt64))), none] [.int p7.1, .int ((v2 * (nI 6)) + s6), .ref x6] p7.2 P
      have hj : Go O (d + 1) MX7_setCosts 75 [some (.ref v0), some (.ref v1), some (.int v2), some (.long v3), none, some (.int v5), some (.int s6), none, none] [.long (if p7.1 = 0 then ((v3 * s6.toInt64) - ((268435456) + ((2097152) * p5.1.toInt64))) else (1099511627776)), .int ((v2 * (nI 6)) + s6), .ref x6] p7.2 P := by
        obtain ⟨K9, eK9, h⟩ := bs h
        refine q_last dX7_setCosts_75 eK9 ?_
        refine q_iinc (w := nI 1) (ls' := [some (.ref v0), some (.ref v1), some (.int v2), some (.long v3), none, some (.int v5), some (.int (s6 + nI 1)), none, none]) dX7_setCosts_76 (by decide) rfl (by decide) rfl ?_
        refine g_goto (t := 11) dX7_setCosts_79 (by decide) ?_
        refine Go_le ?_ (hin ((s6 + nI 1), K9) (Option.some.inj h).symm)
        exact And.intro rfl (And.intro rfl (And.intro rfl (And.intro rfl (And.intro rfl (And.intro rfl (trivial))))))
      refine g_if_eq (t := 67) dX7_setCosts_58 (by decide) (fun c8 => ?_) (fun c8 => ?_)
      · skip
        refine g_lload_n dX7_setCosts_67 rfl ?_
        refine g_iload dX7_setCosts_68 rfl ?_
        refine g_i2l dX7_setCosts_70 ?_
        refine g_lmul dX7_setCosts_71 ?_
        refine g_lload dX7_setCosts_72 rfl ?_
        refine g_lsub dX7_setCosts_74 ?_
        have hk : Go O (d + 1) MX7_setCosts 75 [some (.ref v0), some (.ref v1), some (.int v2), some (.long v3), none, some (.int v5), some (.int s6), none, none] [.long ((v3 * s6.toInt64) - ((268435456) + ((2097152) * p5.1.toInt64))), .int ((v2 * (nI 6)) + s6), .ref x6] p7.2 P := by simpa only [if_pos c8] using hj
        refine Go_le ?_ hk
        exact And.intro rfl (And.intro rfl (And.intro rfl (And.intro rfl (And.intro rfl (And.intro rfl (trivial))))))
      · skip
        refine g_ldc2 (v := 1099511627776) dX7_setCosts_61 lX7_98 ?_
        refine g_goto (t := 75) dX7_setCosts_64 (by decide) ?_
        have hk : Go O (d + 1) MX7_setCosts 75 [some (.ref v0), some (.ref v1), some (.int v2), some (.long v3), none, some (.int v5), some (.int s6), none, none] [.long (1099511627776), .int ((v2 * (nI 6)) + s6), .ref x6] p7.2 P := by simpa only [if_neg c8] using hj
        refine Go_le ?_ hk
        exact And.intro rfl (And.intro rfl (And.intro rfl (And.intro rfl (And.intro rfl (And.intro rfl (trivial))))))
noncomputable def F_X7_setCosts (O : mO) (d : Nat) (a0 : Nat) (a1 : Nat) (a2 : Int32) (a3 : Int64) (K : mH) : Option (mH) :=
  (gtA K a0 7 1).bind fun x1 =>
  (rdI O K x1 a2).bind fun x2 =>
  (lupF (fun (q : Int32 × mH) => F_X7_setCosts_l11 O d a0 a1 a2 a3 x2 q.1 q.2) FU ((nI 0), K)).bind fun r10 =>
  (gtA r10 a0 7 2).bind fun x11 =>
  (wrJ r10 x11 ((a2 * (nI 6)) + (nI 5)) (a3 * (5))).bind fun K12 =>
  some K12
theorem e_X7_setCosts {O : mO} {d : Nat} {a0 : Nat} {a1 : Nat} {a2 : Int32} {a3 : Int64} {K : mH} {x : mH} (h : F_X7_setCosts O d a0 a1 a2 a3 K = some x) : ev O (d + 1) MX7_setCosts [.ref a0, .ref a1, .int a2, .long a3] K = some (none, x) := by
  refine Rn_evx ?_
  show Go O (d + 1) MX7_setCosts 0 [some (.ref a0), some (.ref a1), some (.int a2), some (.long a3), none, none, none, none, none] [] K _
  generalize hP : (fun (r : Option Value) (K' : mH) => (r, K') = (none, x)) = P
  have hret : ∀ K' : mH, K' = x → P none K' := by
    intro K' e
    subst hP e
    rfl
  clear hP
  unfold F_X7_setCosts at h
  refine g_aload_n dX7_setCosts_0 rfl ?_
  obtain ⟨x1, ex1, h⟩ := bs h
  refine q_getA dX7_setCosts_1 fX7_15 ex1 ?_
  refine g_iload_n dX7_setCosts_4 rfl ?_
  obtain ⟨x2, ex2, h⟩ := bs h
  refine q_iald dX7_setCosts_5 ex2 ?_
  refine g_istore (ls' := [some (.ref a0), some (.ref a1), some (.int a2), some (.long a3), none, some (.int x2), none, none, none]) dX7_setCosts_6 (by decide) rfl ?_
  refine g_iconst (v := (nI 0)) dX7_setCosts_8 (by decide) ?_
  refine g_istore (ls' := [some (.ref a0), some (.ref a1), some (.int a2), some (.long a3), none, some (.int x2), some (.int (nI 0)), none, none]) dX7_setCosts_9 (by decide) rfl ?_
  obtain ⟨r10, er10, h⟩ := bs h
  have hx : Go O (d + 1) MX7_setCosts 82 [some (.ref a0), none, some (.int a2), some (.long a3), none, none, none, none, none] [] r10 P := by
    refine g_aload_n dX7_setCosts_82 rfl ?_
    obtain ⟨x11, ex11, h⟩ := bs h
    refine q_getA dX7_setCosts_83 fX7_18 ex11 ?_
    refine g_iload_n dX7_setCosts_86 rfl ?_
    refine g_bipush (v := (nI 6)) dX7_setCosts_87 (by decide) ?_
    refine g_imul dX7_setCosts_89 ?_
    refine g_iconst (v := (nI 5)) dX7_setCosts_90 (by decide) ?_
    refine g_iadd dX7_setCosts_91 ?_
    refine g_lload_n dX7_setCosts_92 rfl ?_
    refine g_ldc2 (v := 5) dX7_setCosts_93 lX7_100 ?_
    refine g_lmul dX7_setCosts_96 ?_
    obtain ⟨K12, eK12, h⟩ := bs h
    refine q_last dX7_setCosts_97 eK12 ?_
    exact g_return dX7_setCosts_98 rfl (hret _ (Option.some.inj h))
  refine Go_le ?_ (e_X7_setCosts_l11 (fun q e => by cases e; exact hx) FU ((nI 0), K) er10)
  exact And.intro rfl (And.intro rfl (And.intro rfl (And.intro rfl (And.intro rfl (And.intro rfl (trivial))))))
noncomputable def F_X7_setColumns_l7 (O : mO) (d : Nat) (v0 : Nat) (v1 : Nat) (s2 : Int32) (K : mH) : Option ((Int32 × mH) ⊕ (mH)) :=
  (gtI K v1 2 11).bind fun x2 =>
  if x2 ≤ s2 then
    some (.inr K)
  else
    (toI (vc O d 2 MX2_freeBeds v1 [.int s2] K)).bind fun p4 =>
    (toV (vc O d 7 MX7_addColumns v0 [.int s2, .int p4.1] p4.2)).bind fun K5 =>
    some (.inl ((s2 + nI 1), K5))
theorem e_X7_setColumns_l7 {O : mO} {d : Nat} {v0 : Nat} {v1 : Nat} {P : Option Value → mH → Prop} {x : mH} (hex : ∀ q : mH, x = q → Go O (d + 1) MX7_setColumns 31 [some (.ref v0), none, none] [] q P) : ∀ (f : Nat) (q : Int32 × mH), lupF (fun (q : Int32 × mH) => F_X7_setColumns_l7 O d v0 v1 q.1 q.2) f q = some x → Go O (d + 1) MX7_setColumns 7 [some (.ref v0), some (.ref v1), some (.int q.1)] [] q.2 P := by
  intro f
  induction f with
  | zero =>
    intro q h
    cases h
  | succ f ih =>
    intro q h
    obtain ⟨y, h, hy1, hy2⟩ := lupF_s h
    have hin : ∀ q : Int32 × mH, y = .inl q → Go O (d + 1) MX7_setColumns 7 [some (.ref v0), some (.ref v1), some (.int q.1)] [] q.2 P := fun q e => ih q (hy1 q e)
    replace hex : ∀ q : mH, y = .inr q → Go O (d + 1) MX7_setColumns 31 [some (.ref v0), none, none] [] q P := fun q e => hex q (hy2 q e).symm
    clear ih hy1 hy2
    obtain ⟨s2, K⟩ := q
    dsimp only at h ⊢
    unfold F_X7_setColumns_l7 at h
    refine g_iload_n dX7_setColumns_7 rfl ?_
    refine g_aload_n dX7_setColumns_8 rfl ?_
    obtain ⟨x2, ex2, h⟩ := bs h
    refine q_getI dX7_setColumns_9 fX7_87 ex2 ?_
    refine g_ic_ge (t := 31) dX7_setColumns_12 (by decide) (fun c3 => ?_) (fun c3 => ?_)
    · rw [if_pos c3] at h
      refine Go_le ?_ (hex K (Option.some.inj h).symm)
      exact And.intro rfl (trivial)
    · rw [if_neg c3] at h
      refine g_aload_n dX7_setColumns_15 rfl ?_
      refine g_iload_n dX7_setColumns_16 rfl ?_
      refine g_aload_n dX7_setColumns_17 rfl ?_
      refine g_iload_n dX7_setColumns_18 rfl ?_
      obtain ⟨p4, ep4, h⟩ := bs h
      refine q_virt (Z := MX2_freeBeds) (c := (RX2, TX2, 18)) (toI_s ep4) dX7_setColumns_19 mX7_102.1 mX7_102.2 (Nat.le_of_ble_eq_true rfl) rfl rfl (Nat.le_of_ble_eq_true rfl) (Nat.le_of_ble_eq_true rfl) rfl rfl ?_
      show Go O (d + 1) MX7_setColumns 22 [some (.ref v0), some (.ref v1), some (.int s2)] [.int p4.1, .int s2, .ref v0] p4.2 P
      obtain ⟨K5, eK5, h⟩ := bs h
      refine q_virt (Z := MX7_addColumns) (c := (RX7, TX7, 14)) (toV_s eK5) dX7_setColumns_22 mX7_106.1 mX7_106.2 (Nat.le_of_ble_eq_true rfl) rfl rfl (Nat.le_of_ble_eq_true rfl) (Nat.le_of_ble_eq_true rfl) rfl rfl ?_
      show Go O (d + 1) MX7_setColumns 25 [some (.ref v0), some (.ref v1), some (.int s2)] [] K5 P
      refine q_iinc (w := nI 1) (ls' := [some (.ref v0), some (.ref v1), some (.int (s2 + nI 1))]) dX7_setColumns_25 (by decide) rfl (by decide) rfl ?_
      refine g_goto (t := 7) dX7_setColumns_28 (by decide) ?_
      refine Go_le ?_ (hin ((s2 + nI 1), K5) (Option.some.inj h).symm)
      exact And.intro rfl (And.intro rfl (And.intro rfl (trivial)))
noncomputable def F_X7_setColumns (O : mO) (d : Nat) (a0 : Nat) (a1 : Nat) (K : mH) : Option (mH) :=
  (ptI K a0 7 11 (nI 0)).bind fun K1 =>
  (lupF (fun (q : Int32 × mH) => F_X7_setColumns_l7 O d a0 a1 q.1 q.2) FU ((nI 0), K1)).bind fun r6 =>
  (gtI r6 a0 7 10).bind fun x7 =>
  (toV (vc O d 7 MX7_addColumns a0 [.int (nI 5), .int x7] r6)).bind fun K8 =>
  some K8
theorem e_X7_setColumns {O : mO} {d : Nat} {a0 : Nat} {a1 : Nat} {K : mH} {x : mH} (h : F_X7_setColumns O d a0 a1 K = some x) : ev O (d + 1) MX7_setColumns [.ref a0, .ref a1] K = some (none, x) := by
  refine Rn_evx ?_
  show Go O (d + 1) MX7_setColumns 0 [some (.ref a0), some (.ref a1), none] [] K _
  generalize hP : (fun (r : Option Value) (K' : mH) => (r, K') = (none, x)) = P
  have hret : ∀ K' : mH, K' = x → P none K' := by
    intro K' e
    subst hP e
    rfl
  clear hP
  unfold F_X7_setColumns at h
  refine g_aload_n dX7_setColumns_0 rfl ?_
  refine g_iconst (v := (nI 0)) dX7_setColumns_1 (by decide) ?_
  obtain ⟨K1, eK1, h⟩ := bs h
  refine q_put (c := (RX7, TX7, 14)) dX7_setColumns_2 fX7_48 rfl rfl rfl (fun h => absurd h (by decide)) eK1 ?_
  refine g_iconst (v := (nI 0)) dX7_setColumns_5 (by decide) ?_
  refine g_istore_n (ls' := [some (.ref a0), some (.ref a1), some (.int (nI 0))]) dX7_setColumns_6 (by decide) rfl ?_
  obtain ⟨r6, er6, h⟩ := bs h
  have hx : Go O (d + 1) MX7_setColumns 31 [some (.ref a0), none, none] [] r6 P := by
    refine g_aload_n dX7_setColumns_31 rfl ?_
    refine g_iconst (v := (nI 5)) dX7_setColumns_32 (by decide) ?_
    refine g_aload_n dX7_setColumns_33 rfl ?_
    obtain ⟨x7, ex7, h⟩ := bs h
    refine q_getI dX7_setColumns_34 fX7_44 ex7 ?_
    obtain ⟨K8, eK8, h⟩ := bs h
    refine q_virt (Z := MX7_addColumns) (c := (RX7, TX7, 14)) (toV_s eK8) dX7_setColumns_37 mX7_106.1 mX7_106.2 (Nat.le_of_ble_eq_true rfl) rfl rfl (Nat.le_of_ble_eq_true rfl) (Nat.le_of_ble_eq_true rfl) rfl rfl ?_
    show Go O (d + 1) MX7_setColumns 40 [some (.ref a0), none, none] [] K8 P
    exact g_return dX7_setColumns_40 rfl (hret _ (Option.some.inj h))
  refine Go_le ?_ (e_X7_setColumns_l7 (fun q e => by cases e; exact hx) FU ((nI 0), K1) er6)
  exact And.intro rfl (And.intro rfl (And.intro rfl (trivial)))
noncomputable def F_X7_addColumns_l2 (O : mO) (d : Nat) (v0 : Nat) (v1 : Int32) (v2 : Int32) (s3 : Int32) (K : mH) : Option ((Int32 × mH) ⊕ (mH)) :=
  if v2 ≤ s3 then
    some (.inr K)
  else
    (gtI K v0 7 11).bind fun x2 =>
    if (nI 23) ≤ x2 then
      some (.inr K)
    else
      (gtI K v0 7 11).bind fun x4 =>
      (ptI K v0 7 11 (x4 + (nI 1))).bind fun K5 =>
      (gtA K5 v0 7 4).bind fun x6 =>
      (gtI K5 v0 7 11).bind fun x7 =>
      (wrI K5 x6 x7 v1).bind fun K8 =>
      (gtA K8 v0 7 5).bind fun x9 =>
      (gtI K8 v0 7 11).bind fun x10 =>
      (wrI K8 x9 x10 (nI 0)).bind fun K11 =>
      (gtA K11 v0 7 7).bind fun x12 =>
      (gtI K11 v0 7 11).bind fun x13 =>
      (wrJ K11 x12 x13 0).bind fun K14 =>
      some (.inl ((s3 + nI 1), K14))
theorem e_X7_addColumns_l2 {O : mO} {d : Nat} {v0 : Nat} {v1 : Int32} {v2 : Int32} {P : Option Value → mH → Prop} {x : mH} (hex : ∀ q : mH, x = q → Go O (d + 1) MX7_addColumns 62 [none, none, none, none] [] q P) : ∀ (f : Nat) (q : Int32 × mH), lupF (fun (q : Int32 × mH) => F_X7_addColumns_l2 O d v0 v1 v2 q.1 q.2) f q = some x → Go O (d + 1) MX7_addColumns 2 [some (.ref v0), some (.int v1), some (.int v2), some (.int q.1)] [] q.2 P := by
  intro f
  induction f with
  | zero =>
    intro q h
    cases h
  | succ f ih =>
    intro q h
    obtain ⟨y, h, hy1, hy2⟩ := lupF_s h
    have hin : ∀ q : Int32 × mH, y = .inl q → Go O (d + 1) MX7_addColumns 2 [some (.ref v0), some (.int v1), some (.int v2), some (.int q.1)] [] q.2 P := fun q e => ih q (hy1 q e)
    replace hex : ∀ q : mH, y = .inr q → Go O (d + 1) MX7_addColumns 62 [none, none, none, none] [] q P := fun q e => hex q (hy2 q e).symm
    clear ih hy1 hy2
    obtain ⟨s3, K⟩ := q
    dsimp only at h ⊢
    unfold F_X7_addColumns_l2 at h
    refine g_iload_n dX7_addColumns_2 rfl ?_
    refine g_iload_n dX7_addColumns_3 rfl ?_
    refine g_ic_ge (t := 62) dX7_addColumns_4 (by decide) (fun c1 => ?_) (fun c1 => ?_)
    · rw [if_pos c1] at h
      refine Go_le ?_ (hex K (Option.some.inj h).symm)
      exact trivial
    · rw [if_neg c1] at h
      refine g_aload_n dX7_addColumns_7 rfl ?_
      obtain ⟨x2, ex2, h⟩ := bs h
      refine q_getI dX7_addColumns_8 fX7_48 ex2 ?_
      refine g_bipush (v := (nI 23)) dX7_addColumns_11 (by decide) ?_
      refine g_ic_ge (t := 62) dX7_addColumns_13 (by decide) (fun c3 => ?_) (fun c3 => ?_)
      · rw [if_pos c3] at h
        refine Go_le ?_ (hex K (Option.some.inj h).symm)
        exact trivial
      · rw [if_neg c3] at h
        refine g_aload_n dX7_addColumns_16 rfl ?_
        refine g_dup dX7_addColumns_17 (by first | rfl | exact vrf_cat _) ?_
        obtain ⟨x4, ex4, h⟩ := bs h
        refine q_getI dX7_addColumns_18 fX7_48 ex4 ?_
        refine g_iconst (v := (nI 1)) dX7_addColumns_21 (by decide) ?_
        refine g_iadd dX7_addColumns_22 ?_
        obtain ⟨K5, eK5, h⟩ := bs h
        refine q_put (c := (RX7, TX7, 14)) dX7_addColumns_23 fX7_48 rfl rfl rfl (fun h => absurd h (by decide)) eK5 ?_
        refine g_aload_n dX7_addColumns_26 rfl ?_
        obtain ⟨x6, ex6, h⟩ := bs h
        refine q_getA dX7_addColumns_27 fX7_25 ex6 ?_
        refine g_aload_n dX7_addColumns_30 rfl ?_
        obtain ⟨x7, ex7, h⟩ := bs h
        refine q_getI dX7_addColumns_31 fX7_48 ex7 ?_
        refine g_iload_n dX7_addColumns_34 rfl ?_
        obtain ⟨K8, eK8, h⟩ := bs h
        refine q_iast dX7_addColumns_35 eK8 ?_
        refine g_aload_n dX7_addColumns_36 rfl ?_
        obtain ⟨x9, ex9, h⟩ := bs h
        refine q_getA dX7_addColumns_37 fX7_28 ex9 ?_
        refine g_aload_n dX7_addColumns_40 rfl ?_
        obtain ⟨x10, ex10, h⟩ := bs h
        refine q_getI dX7_addColumns_41 fX7_48 ex10 ?_
        refine g_iconst (v := (nI 0)) dX7_addColumns_44 (by decide) ?_
        obtain ⟨K11, eK11, h⟩ := bs h
        refine q_iast dX7_addColumns_45 eK11 ?_
        refine g_aload_n dX7_addColumns_46 rfl ?_
        obtain ⟨x12, ex12, h⟩ := bs h
        refine q_getA dX7_addColumns_47 fX7_34 ex12 ?_
        refine g_aload_n dX7_addColumns_50 rfl ?_
        obtain ⟨x13, ex13, h⟩ := bs h
        refine q_getI dX7_addColumns_51 fX7_48 ex13 ?_
        refine g_lconst (v := 0) dX7_addColumns_54 (by decide) ?_
        obtain ⟨K14, eK14, h⟩ := bs h
        refine q_last dX7_addColumns_55 eK14 ?_
        refine q_iinc (w := nI 1) (ls' := [some (.ref v0), some (.int v1), some (.int v2), some (.int (s3 + nI 1))]) dX7_addColumns_56 (by decide) rfl (by decide) rfl ?_
        refine g_goto (t := 2) dX7_addColumns_59 (by decide) ?_
        refine Go_le ?_ (hin ((s3 + nI 1), K14) (Option.some.inj h).symm)
        exact And.intro rfl (And.intro rfl (And.intro rfl (And.intro rfl (trivial))))
noncomputable def F_X7_addColumns (O : mO) (d : Nat) (a0 : Nat) (a1 : Int32) (a2 : Int32) (K : mH) : Option (mH) :=
  (lupF (fun (q : Int32 × mH) => F_X7_addColumns_l2 O d a0 a1 a2 q.1 q.2) FU ((nI 0), K)).bind fun r15 =>
  some r15
theorem e_X7_addColumns {O : mO} {d : Nat} {a0 : Nat} {a1 : Int32} {a2 : Int32} {K : mH} {x : mH} (h : F_X7_addColumns O d a0 a1 a2 K = some x) : ev O (d + 1) MX7_addColumns [.ref a0, .int a1, .int a2] K = some (none, x) := by
  refine Rn_evx ?_
  show Go O (d + 1) MX7_addColumns 0 [some (.ref a0), some (.int a1), some (.int a2), none] [] K _
  generalize hP : (fun (r : Option Value) (K' : mH) => (r, K') = (none, x)) = P
  have hret : ∀ K' : mH, K' = x → P none K' := by
    intro K' e
    subst hP e
    rfl
  clear hP
  unfold F_X7_addColumns at h
  refine g_iconst (v := (nI 0)) dX7_addColumns_0 (by decide) ?_
  refine g_istore_n (ls' := [some (.ref a0), some (.int a1), some (.int a2), some (.int (nI 0))]) dX7_addColumns_1 (by decide) rfl ?_
  obtain ⟨r15, er15, h⟩ := bs h
  have hx : Go O (d + 1) MX7_addColumns 62 [none, none, none, none] [] r15 P := by
    exact g_return dX7_addColumns_62 rfl (hret _ (Option.some.inj h))
  refine Go_le ?_ (e_X7_addColumns_l2 (fun q e => by cases e; exact hx) FU ((nI 0), K) er15)
  exact And.intro rfl (And.intro rfl (And.intro rfl (And.intro rfl (trivial))))
noncomputable def F_X7_pair_l16 (O : mO) (d : Nat) (v0 : Nat) (s2 : Int32) (K : mH) : Option ((Int32 × mH) ⊕ (mH)) :=
  (gtI K v0 7 11).bind fun x5 =>
  if x5 < s2 then
    some (.inr K)
  else
    (gtA K v0 7 8).bind fun x7 =>
    (wrJ K x7 s2 (1125899906842624)).bind fun K8 =>
    (gtA K8 v0 7 9).bind fun x9 =>
    (wrB K8 x9 s2 (nI 0)).bind fun K10 =>
    some (.inl ((s2 + nI 1), K10))
theorem e_X7_pair_l16 {O : mO} {d : Nat} {v0 : Nat} {P : Option Value → mH → Prop} {x : mH} (hex : ∀ q : mH, x = q → Go O (d + 1) MX7_pair 46 [some (.ref v0), none, none, none, none] [] q P) : ∀ (f : Nat) (q : Int32 × mH), lupF (fun (q : Int32 × mH) => F_X7_pair_l16 O d v0 q.1 q.2) f q = some x → Go O (d + 1) MX7_pair 16 [some (.ref v0), none, some (.int q.1), none, none] [] q.2 P := by
  intro f
  induction f with
  | zero =>
    intro q h
    cases h
  | succ f ih =>
    intro q h
    obtain ⟨y, h, hy1, hy2⟩ := lupF_s h
    have hin : ∀ q : Int32 × mH, y = .inl q → Go O (d + 1) MX7_pair 16 [some (.ref v0), none, some (.int q.1), none, none] [] q.2 P := fun q e => ih q (hy1 q e)
    replace hex : ∀ q : mH, y = .inr q → Go O (d + 1) MX7_pair 46 [some (.ref v0), none, none, none, none] [] q P := fun q e => hex q (hy2 q e).symm
    clear ih hy1 hy2
    obtain ⟨s2, K⟩ := q
    dsimp only at h ⊢
    unfold F_X7_pair_l16 at h
    refine g_iload_n dX7_pair_16 rfl ?_
    refine g_aload_n dX7_pair_17 rfl ?_
    obtain ⟨x5, ex5, h⟩ := bs h
    refine q_getI dX7_pair_18 fX7_48 ex5 ?_
    refine g_ic_gt (t := 46) dX7_pair_21 (by decide) (fun c6 => ?_) (fun c6 => ?_)
    · rw [if_pos c6] at h
      refine Go_le ?_ (hex K (Option.some.inj h).symm)
      exact And.intro rfl (trivial)
    · rw [if_neg c6] at h
      refine g_aload_n dX7_pair_24 rfl ?_
      obtain ⟨x7, ex7, h⟩ := bs h
      refine q_getA dX7_pair_25 fX7_37 ex7 ?_
      refine g_iload_n dX7_pair_28 rfl ?_
      refine g_ldc2 (v := 1125899906842624) dX7_pair_29 lX7_110 ?_
      obtain ⟨K8, eK8, h⟩ := bs h
      refine q_last dX7_pair_32 eK8 ?_
      refine g_aload_n dX7_pair_33 rfl ?_
      obtain ⟨x9, ex9, h⟩ := bs h
      refine q_getA dX7_pair_34 fX7_40 ex9 ?_
      refine g_iload_n dX7_pair_37 rfl ?_
      refine g_iconst (v := (nI 0)) dX7_pair_38 (by decide) ?_
      obtain ⟨K10, eK10, h⟩ := bs h
      refine q_bast dX7_pair_39 eK10 ?_
      refine q_iinc (w := nI 1) (ls' := [some (.ref v0), none, some (.int (s2 + nI 1)), none, none]) dX7_pair_40 (by decide) rfl (by decide) rfl ?_
      refine g_goto (t := 16) dX7_pair_43 (by decide) ?_
      refine Go_le ?_ (hin ((s2 + nI 1), K10) (Option.some.inj h).symm)
      exact And.intro rfl (And.intro rfl (trivial))
noncomputable def F_X7_pair_l50 (O : mO) (d : Nat) (v0 : Nat) (s2 : Int32) (s3 : Int32) (K : mH) : Option ((Int32 × Int32 × mH) ⊕ (Int32 × mH)) :=
  (gtI K v0 7 10).bind fun x12 =>
  if x12 < s3 then
    some (.inr (s2, K))
  else
    (gtA K v0 7 5).bind fun x14 =>
    (rdI O K x14 s2).bind fun x15 =>
    if x15 = 0 then
      some (.inr (s2, K))
    else
      (toI (vc O d 7 MX7_reachFrom v0 [.int s2] K)).bind fun p17 =>
      some (.inl (p17.1, (s3 + nI 1), p17.2))
theorem e_X7_pair_l50 {O : mO} {d : Nat} {v0 : Nat} {P : Option Value → mH → Prop} {x : Int32 × mH} (hex : ∀ q : Int32 × mH, x = q → Go O (d + 1) MX7_pair 79 [some (.ref v0), none, some (.int q.1), none, none] [] q.2 P) : ∀ (f : Nat) (q : Int32 × Int32 × mH), lupF (fun (q : Int32 × Int32 × mH) => F_X7_pair_l50 O d v0 q.1 q.2.1 q.2.2) f q = some x → Go O (d + 1) MX7_pair 50 [some (.ref v0), none, some (.int q.1), some (.int q.2.1), none] [] q.2.2 P := by
  intro f
  induction f with
  | zero =>
    intro q h
    cases h
  | succ f ih =>
    intro q h
    obtain ⟨y, h, hy1, hy2⟩ := lupF_s h
    have hin : ∀ q : Int32 × Int32 × mH, y = .inl q → Go O (d + 1) MX7_pair 50 [some (.ref v0), none, some (.int q.1), some (.int q.2.1), none] [] q.2.2 P := fun q e => ih q (hy1 q e)
    replace hex : ∀ q : Int32 × mH, y = .inr q → Go O (d + 1) MX7_pair 79 [some (.ref v0), none, some (.int q.1), none, none] [] q.2 P := fun q e => hex q (hy2 q e).symm
    clear ih hy1 hy2
    obtain ⟨s2, s3, K⟩ := q
    dsimp only at h ⊢
    unfold F_X7_pair_l50 at h
    refine g_iload_n dX7_pair_50 rfl ?_
    refine g_aload_n dX7_pair_51 rfl ?_
    obtain ⟨x12, ex12, h⟩ := bs h
    refine q_getI dX7_pair_52 fX7_44 ex12 ?_
    refine g_ic_gt (t := 79) dX7_pair_55 (by decide) (fun c13 => ?_) (fun c13 => ?_)
    · rw [if_pos c13] at h
      refine Go_le ?_ (hex (s2, K) (Option.some.inj h).symm)
      exact And.intro rfl (And.intro rfl (trivial))
    · rw [if_neg c13] at h
      refine g_aload_n dX7_pair_58 rfl ?_
      obtain ⟨x14, ex14, h⟩ := bs h
      refine q_getA dX7_pair_59 fX7_28 ex14 ?_
      refine g_iload_n dX7_pair_62 rfl ?_
      obtain ⟨x15, ex15, h⟩ := bs h
      refine q_iald dX7_pair_63 ex15 ?_
      refine g_if_eq (t := 79) dX7_pair_64 (by decide) (fun c16 => ?_) (fun c16 => ?_)
      · rw [if_pos c16] at h
        refine Go_le ?_ (hex (s2, K) (Option.some.inj h).symm)
        exact And.intro rfl (And.intro rfl (trivial))
      · rw [if_neg c16] at h
        refine g_aload_n dX7_pair_67 rfl ?_
        refine g_iload_n dX7_pair_68 rfl ?_
        obtain ⟨p17, ep17, h⟩ := bs h
        refine q_virt (Z := MX7_reachFrom) (c := (RX7, TX7, 14)) (toI_s ep17) dX7_pair_69 mX7_112.1 mX7_112.2 (Nat.le_of_ble_eq_true rfl) rfl rfl (Nat.le_of_ble_eq_true rfl) (Nat.le_of_ble_eq_true rfl) rfl rfl ?_
        show Go O (d + 1) MX7_pair 72 [some (.ref v0), none, some (.int s2), some (.int s3), none] [.int p17.1] p17.2 P
        refine g_istore_n (ls' := [some (.ref v0), none, some (.int p17.1), some (.int s3), none]) dX7_pair_72 (by decide) rfl ?_
        refine q_iinc (w := nI 1) (ls' := [some (.ref v0), none, some (.int p17.1), some (.int (s3 + nI 1)), none]) dX7_pair_73 (by decide) rfl (by decide) rfl ?_
        refine g_goto (t := 50) dX7_pair_76 (by decide) ?_
        refine Go_le ?_ (hin (p17.1, (s3 + nI 1), p17.2) (Option.some.inj h).symm)
        exact And.intro rfl (And.intro rfl (And.intro rfl (trivial)))
noncomputable def F_X7_pair_l81 (O : mO) (d : Nat) (v0 : Nat) (s2 : Int32) (s3 : Int32) (K : mH) : Option ((Int32 × Int32 × mH) ⊕ (mH)) :=
  (gtI K v0 7 10).bind fun x19 =>
  if x19 < s3 then
    some (.inr K)
  else
    if s2 = 0 then
      some (.inr K)
    else
      (gtA K v0 7 6).bind fun x22 =>
      (rdI O K x22 s2).bind fun x23 =>
      (gtA K v0 7 5).bind fun x24 =>
      (gtA K v0 7 5).bind fun x25 =>
      (rdI O K x25 x23).bind fun x26 =>
      (wrI K x24 s2 x26).bind fun K27 =>
      some (.inl (x23, (s3 + nI 1), K27))
theorem e_X7_pair_l81 {O : mO} {d : Nat} {v0 : Nat} {P : Option Value → mH → Prop} {x : mH} (hex : ∀ q : mH, x = q → Go O (d + 1) MX7_pair 123 [none, none, none, none, none] [] q P) : ∀ (f : Nat) (q : Int32 × Int32 × mH), lupF (fun (q : Int32 × Int32 × mH) => F_X7_pair_l81 O d v0 q.1 q.2.1 q.2.2) f q = some x → Go O (d + 1) MX7_pair 81 [some (.ref v0), none, some (.int q.1), some (.int q.2.1), none] [] q.2.2 P := by
  intro f
  induction f with
  | zero =>
    intro q h
    cases h
  | succ f ih =>
    intro q h
    obtain ⟨y, h, hy1, hy2⟩ := lupF_s h
    have hin : ∀ q : Int32 × Int32 × mH, y = .inl q → Go O (d + 1) MX7_pair 81 [some (.ref v0), none, some (.int q.1), some (.int q.2.1), none] [] q.2.2 P := fun q e => ih q (hy1 q e)
    replace hex : ∀ q : mH, y = .inr q → Go O (d + 1) MX7_pair 123 [none, none, none, none, none] [] q P := fun q e => hex q (hy2 q e).symm
    clear ih hy1 hy2
    obtain ⟨s2, s3, K⟩ := q
    dsimp only at h ⊢
    unfold F_X7_pair_l81 at h
    refine g_iload_n dX7_pair_81 rfl ?_
    refine g_aload_n dX7_pair_82 rfl ?_
    obtain ⟨x19, ex19, h⟩ := bs h
    refine q_getI dX7_pair_83 fX7_44 ex19 ?_
    refine g_ic_gt (t := 123) dX7_pair_86 (by decide) (fun c20 => ?_) (fun c20 => ?_)
    · rw [if_pos c20] at h
      refine Go_le ?_ (hex K (Option.some.inj h).symm)
      exact trivial
    · rw [if_neg c20] at h
      refine g_iload_n dX7_pair_89 rfl ?_
      refine g_if_eq (t := 123) dX7_pair_90 (by decide) (fun c21 => ?_) (fun c21 => ?_)
      · rw [if_pos c21] at h
        refine Go_le ?_ (hex K (Option.some.inj h).symm)
        exact trivial
      · rw [if_neg c21] at h
        refine g_aload_n dX7_pair_93 rfl ?_
        obtain ⟨x22, ex22, h⟩ := bs h
        refine q_getA dX7_pair_94 fX7_31 ex22 ?_
        refine g_iload_n dX7_pair_97 rfl ?_
        obtain ⟨x23, ex23, h⟩ := bs h
        refine q_iald dX7_pair_98 ex23 ?_
        refine g_istore (ls' := [some (.ref v0), none, some (.int s2), some (.int s3), some (.int x23)]) dX7_pair_99 (by decide) rfl ?_
        refine g_aload_n dX7_pair_101 rfl ?_
        obtain ⟨x24, ex24, h⟩ := bs h
        refine q_getA dX7_pair_102 fX7_28 ex24 ?_
        refine g_iload_n dX7_pair_105 rfl ?_
        refine g_aload_n dX7_pair_106 rfl ?_
        obtain ⟨x25, ex25, h⟩ := bs h
        refine q_getA dX7_pair_107 fX7_28 ex25 ?_
        refine g_iload dX7_pair_110 rfl ?_
        obtain ⟨x26, ex26, h⟩ := bs h
        refine q_iald dX7_pair_112 ex26 ?_
        obtain ⟨K27, eK27, h⟩ := bs h
        refine q_iast dX7_pair_113 eK27 ?_
        refine g_iload dX7_pair_114 rfl ?_
        refine g_istore_n (ls' := [some (.ref v0), none, some (.int x23), some (.int s3), some (.int x23)]) dX7_pair_116 (by decide) rfl ?_
        refine q_iinc (w := nI 1) (ls' := [some (.ref v0), none, some (.int x23), some (.int (s3 + nI 1)), some (.int x23)]) dX7_pair_117 (by decide) rfl (by decide) rfl ?_
        refine g_goto (t := 81) dX7_pair_120 (by decide) ?_
        refine Go_le ?_ (hin (x23, (s3 + nI 1), K27) (Option.some.inj h).symm)
        exact And.intro rfl (And.intro rfl (And.intro rfl (trivial)))
noncomputable def F_X7_pair_j79 (O : mO) (d : Nat) (v0 : Nat) (v2 : Int32) (K : mH) : Option (mH) :=
  (lupF (fun (q : Int32 × Int32 × mH) => F_X7_pair_l81 O d v0 q.1 q.2.1 q.2.2) FU (v2, (nI 0), K)).bind fun r28 =>
  some r28
theorem e_X7_pair_j79 {O : mO} {d : Nat} {v0 : Nat} {v2 : Int32} {K : mH} {P : Option Value → mH → Prop} {x : mH} (hret : ∀ K' : mH, K' = x → P none K') (h : F_X7_pair_j79 O d v0 v2 K = some x) : Go O (d + 1) MX7_pair 79 [some (.ref v0), none, some (.int v2), none, none] [] K P := by
  unfold F_X7_pair_j79 at h
  refine g_iconst (v := (nI 0)) dX7_pair_79 (by decide) ?_
  refine g_istore_n (ls' := [some (.ref v0), none, some (.int v2), some (.int (nI 0)), none]) dX7_pair_80 (by decide) rfl ?_
  obtain ⟨r28, er28, h⟩ := bs h
  have hx : Go O (d + 1) MX7_pair 123 [none, none, none, none, none] [] r28 P := by
    exact g_return dX7_pair_123 rfl (hret _ (Option.some.inj h))
  refine Go_le ?_ (e_X7_pair_l81 (fun q e => by cases e; exact hx) FU (v2, (nI 0), K) er28)
  exact And.intro rfl (And.intro rfl (And.intro rfl (trivial)))
noncomputable def F_X7_pair (O : mO) (d : Nat) (a0 : Nat) (a1 : Int32) (K : mH) : Option (mH) :=
  (gtA K a0 7 5).bind fun x1 =>
  (wrI K x1 (nI 0) a1).bind fun K2 =>
  (gtA K2 a0 7 7).bind fun x3 =>
  (wrJ K2 x3 (nI 0) 0).bind fun K4 =>
  (lupF (fun (q : Int32 × mH) => F_X7_pair_l16 O d a0 q.1 q.2) FU ((nI 0), K4)).bind fun r11 =>
  (lupF (fun (q : Int32 × Int32 × mH) => F_X7_pair_l50 O d a0 q.1 q.2.1 q.2.2) FU ((nI 0), (nI 0), r11)).bind fun r18 =>
  F_X7_pair_j79 O d a0 r18.1 r18.2
theorem e_X7_pair {O : mO} {d : Nat} {a0 : Nat} {a1 : Int32} {K : mH} {x : mH} (h : F_X7_pair O d a0 a1 K = some x) : ev O (d + 1) MX7_pair [.ref a0, .int a1] K = some (none, x) := by
  refine Rn_evx ?_
  show Go O (d + 1) MX7_pair 0 [some (.ref a0), some (.int a1), none, none, none] [] K _
  generalize hP : (fun (r : Option Value) (K' : mH) => (r, K') = (none, x)) = P
  have hret : ∀ K' : mH, K' = x → P none K' := by
    intro K' e
    subst hP e
    rfl
  clear hP
  unfold F_X7_pair at h
  refine g_aload_n dX7_pair_0 rfl ?_
  obtain ⟨x1, ex1, h⟩ := bs h
  refine q_getA dX7_pair_1 fX7_28 ex1 ?_
  refine g_iconst (v := (nI 0)) dX7_pair_4 (by decide) ?_
  refine g_iload_n dX7_pair_5 rfl ?_
  obtain ⟨K2, eK2, h⟩ := bs h
  refine q_iast dX7_pair_6 eK2 ?_
  refine g_aload_n dX7_pair_7 rfl ?_
  obtain ⟨x3, ex3, h⟩ := bs h
  refine q_getA dX7_pair_8 fX7_34 ex3 ?_
  refine g_iconst (v := (nI 0)) dX7_pair_11 (by decide) ?_
  refine g_lconst (v := 0) dX7_pair_12 (by decide) ?_
  obtain ⟨K4, eK4, h⟩ := bs h
  refine q_last dX7_pair_13 eK4 ?_
  refine g_iconst (v := (nI 0)) dX7_pair_14 (by decide) ?_
  refine g_istore_n (ls' := [some (.ref a0), some (.int a1), some (.int (nI 0)), none, none]) dX7_pair_15 (by decide) rfl ?_
  obtain ⟨r11, er11, h⟩ := bs h
  have hx : Go O (d + 1) MX7_pair 46 [some (.ref a0), none, none, none, none] [] r11 P := by
    refine g_iconst (v := (nI 0)) dX7_pair_46 (by decide) ?_
    refine g_istore_n (ls' := [some (.ref a0), none, some (.int (nI 0)), none, none]) dX7_pair_47 (by decide) rfl ?_
    refine g_iconst (v := (nI 0)) dX7_pair_48 (by decide) ?_
    refine g_istore_n (ls' := [some (.ref a0), none, some (.int (nI 0)), some (.int (nI 0)), none]) dX7_pair_49 (by decide) rfl ?_
    obtain ⟨r18, er18, h⟩ := bs h
    have hx : Go O (d + 1) MX7_pair 79 [some (.ref a0), none, some (.int r18.1), none, none] [] r18.2 P := by
      refine Go_le ?_ (e_X7_pair_j79 hret h)
      exact And.intro rfl (And.intro rfl (trivial))
    refine Go_le ?_ (e_X7_pair_l50 (fun q e => by cases e; exact hx) FU ((nI 0), (nI 0), r11) er18)
    exact And.intro rfl (And.intro rfl (And.intro rfl (trivial)))
  refine Go_le ?_ (e_X7_pair_l16 (fun q e => by cases e; exact hx) FU ((nI 0), K4) er11)
  exact And.intro rfl (And.intro rfl (trivial))
noncomputable def F_X7_reachFrom_j111 (O : mO) (d : Nat) (v0 : Nat) (v1 : Int32) (v2 : Int32) (v3 : Int32) (v4 : Int64) (v6 : Int32) (K : mH) : Option ((Int32 × Int64 × Int32 × mH) ⊕ (Int32 × Int64 × mH)) :=
  (gtA K v0 7 8).bind fun x23 =>
  (rdJ O K x23 v6).bind fun x24 =>
  if 0 ≤ (lg_cmp x24 v4) then
    some (.inl (v3, v4, (v6 + nI 1), K))
  else
    (gtA K v0 7 8).bind fun x27 =>
    (rdJ O K x27 v6).bind fun x28 =>
    some (.inl (v6, x28, (v6 + nI 1), K))
theorem e_X7_reachFrom_j111 {O : mO} {d : Nat} {v0 : Nat} {v1 : Int32} {v2 : Int32} {v3 : Int32} {v4 : Int64} {v6 : Int32} {K : mH} {P : Option Value → mH → Prop} {y : (Int32 × Int64 × Int32 × mH) ⊕ (Int32 × Int64 × mH)} (hin : ∀ q : Int32 × Int64 × Int32 × mH, y = .inl q → Go O (d + 1) MX7_reachFrom 24 [some (.ref v0), some (.int v1), some (.int v2), some (.int q.1), some (.long q.2.1), none, some (.int q.2.2.1), none, none, none, none] [] q.2.2.2 P) (hex : ∀ q : Int32 × Int64 × mH, y = .inr q → Go O (d + 1) MX7_reachFrom 142 [some (.ref v0), none, none, some (.int q.1), some (.long q.2.1), none, none, none, none, none, none] [] q.2.2 P) (h : F_X7_reachFrom_j111 O d v0 v1 v2 v3 v4 v6 K = some y) : Go O (d + 1) MX7_reachFrom 111 [some (.ref v0), some (.int v1), some (.int v2), some (.int v3), some (.long v4), none, some (.int v6), none, none, none, none] [] K P := by
  unfold F_X7_reachFrom_j111 at h
  refine g_aload_n dX7_reachFrom_111 rfl ?_
  obtain ⟨x23, ex23, h⟩ := bs h
  refine q_getA dX7_reachFrom_112 fX7_37 ex23 ?_
  refine g_iload dX7_reachFrom_115 rfl ?_
  obtain ⟨x24, ex24, h⟩ := bs h
  refine q_lald dX7_reachFrom_117 ex24 ?_
  refine g_lload dX7_reachFrom_118 rfl ?_
  refine g_lcmp dX7_reachFrom_120 ?_
  refine g_if_ge (t := 136) dX7_reachFrom_121 (by decide) (fun c26 => ?_) (fun c26 => ?_)
  · rw [if_pos c26] at h
    refine q_iinc (w := nI 1) (ls' := [some (.ref v0), some (.int v1), some (.int v2), some (.int v3), some (.long v4), none, some (.int (v6 + nI 1)), none, none, none, none]) dX7_reachFrom_136 (by decide) rfl (by decide) rfl ?_
    refine g_goto (t := 24) dX7_reachFrom_139 (by decide) ?_
    refine Go_le ?_ (hin (v3, v4, (v6 + nI 1), K) (Option.some.inj h).symm)
    exact And.intro rfl (And.intro rfl (And.intro rfl (And.intro rfl (And.intro rfl (And.intro rfl (trivial))))))
  · rw [if_neg c26] at h
    refine g_aload_n dX7_reachFrom_124 rfl ?_
    obtain ⟨x27, ex27, h⟩ := bs h
    refine q_getA dX7_reachFrom_125 fX7_37 ex27 ?_
    refine g_iload dX7_reachFrom_128 rfl ?_
    obtain ⟨x28, ex28, h⟩ := bs h
    refine q_lald dX7_reachFrom_130 ex28 ?_
    refine g_lstore (ls' := [some (.ref v0), some (.int v1), some (.int v2), some (.int v3), some (.long x28), none, some (.int v6), none, none, none, none]) dX7_reachFrom_131 (by decide) rfl ?_
    refine g_iload dX7_reachFrom_133 rfl ?_
    refine g_istore_n (ls' := [some (.ref v0), some (.int v1), some (.int v2), some (.int v6), some (.long x28), none, some (.int v6), none, none, none, none]) dX7_reachFrom_135 (by decide) rfl ?_
    refine q_iinc (w := nI 1) (ls' := [some (.ref v0), some (.int v1), some (.int v2), some (.int v6), some (.long x28), none, some (.int (v6 + nI 1)), none, none, none, none]) dX7_reachFrom_136 (by decide) rfl (by decide) rfl ?_
    refine g_goto (t := 24) dX7_reachFrom_139 (by decide) ?_
    refine Go_le ?_ (hin (v6, x28, (v6 + nI 1), K) (Option.some.inj h).symm)
    exact And.intro rfl (And.intro rfl (And.intro rfl (And.intro rfl (And.intro rfl (And.intro rfl (trivial))))))
noncomputable def F_X7_reachFrom_l24 (O : mO) (d : Nat) (v0 : Nat) (v1 : Int32) (v2 : Int32) (s3 : Int32) (s4 : Int64) (s6 : Int32) (K : mH) : Option ((Int32 × Int64 × Int32 × mH) ⊕ (Int32 × Int64 × mH)) :=
  (gtI K v0 7 11).bind fun x5 =>
  if x5 < s6 then
    some (.inr (s3, s4, K))
  else
    (gtA K v0 7 9).bind fun x7 =>
    (rdB O K x7 s6).bind fun x8 =>
    if x8 = 0 then
      (gtA K v0 7 2).bind fun x11 =>
      (gtA K v0 7 4).bind fun x12 =>
      (rdI O K x12 s6).bind fun x13 =>
      (rdJ O K x11 ((v2 * (nI 6)) + x13)).bind fun x14 =>
      (gtA K v0 7 3).bind fun x15 =>
      (rdJ O K x15 v2).bind fun x16 =>
      (gtA K v0 7 7).bind fun x17 =>
      (rdJ O K x17 s6).bind fun x18 =>
      (gtA K v0 7 8).bind fun x19 =>
      (rdJ O K x19 s6).bind fun x20 =>
      if 0 ≤ (lg_cmp ((x14 - x16) - x18) x20) then
        F_X7_reachFrom_j111 O d v0 v1 v2 s3 s4 s6 K
      else
        (gtA K v0 7 8).bind fun x29 =>
        (wrJ K x29 s6 ((x14 - x16) - x18)).bind fun K30 =>
        (gtA K30 v0 7 6).bind fun x31 =>
        (wrI K30 x31 s6 v1).bind fun K32 =>
        F_X7_reachFrom_j111 O d v0 v1 v2 s3 s4 s6 K32
    else
      some (.inl (s3, s4, (s6 + nI 1), K))
theorem e_X7_reachFrom_l24 {O : mO} {d : Nat} {v0 : Nat} {v1 : Int32} {v2 : Int32} {P : Option Value → mH → Prop} {x : Int32 × Int64 × mH} (hex : ∀ q : Int32 × Int64 × mH, x = q → Go O (d + 1) MX7_reachFrom 142 [some (.ref v0), none, none, some (.int q.1), some (.long q.2.1), none, none, none, none, none, none] [] q.2.2 P) : ∀ (f : Nat) (q : Int32 × Int64 × Int32 × mH), lupF (fun (q : Int32 × Int64 × Int32 × mH) => F_X7_reachFrom_l24 O d v0 v1 v2 q.1 q.2.1 q.2.2.1 q.2.2.2) f q = some x → Go O (d + 1) MX7_reachFrom 24 [some (.ref v0), some (.int v1), some (.int v2), some (.int q.1), some (.long q.2.1), none, some (.int q.2.2.1), none, none, none, none] [] q.2.2.2 P := by
  intro f
  induction f with
  | zero =>
    intro q h
    cases h
  | succ f ih =>
    intro q h
    obtain ⟨y, h, hy1, hy2⟩ := lupF_s h
    have hin : ∀ q : Int32 × Int64 × Int32 × mH, y = .inl q → Go O (d + 1) MX7_reachFrom 24 [some (.ref v0), some (.int v1), some (.int v2), some (.int q.1), some (.long q.2.1), none, some (.int q.2.2.1), none, none, none, none] [] q.2.2.2 P := fun q e => ih q (hy1 q e)
    replace hex : ∀ q : Int32 × Int64 × mH, y = .inr q → Go O (d + 1) MX7_reachFrom 142 [some (.ref v0), none, none, some (.int q.1), some (.long q.2.1), none, none, none, none, none, none] [] q.2.2 P := fun q e => hex q (hy2 q e).symm
    clear ih hy1 hy2
    obtain ⟨s3, s4, s6, K⟩ := q
    dsimp only at h ⊢
    unfold F_X7_reachFrom_l24 at h
    refine g_iload dX7_reachFrom_24 rfl ?_
    refine g_aload_n dX7_reachFrom_26 rfl ?_
    obtain ⟨x5, ex5, h⟩ := bs h
    refine q_getI dX7_reachFrom_27 fX7_48 ex5 ?_
    refine g_ic_gt (t := 142) dX7_reachFrom_30 (by decide) (fun c6 => ?_) (fun c6 => ?_)
    · rw [if_pos c6] at h
      refine Go_le ?_ (hex (s3, s4, K) (Option.some.inj h).symm)
      exact And.intro rfl (And.intro rfl (And.intro rfl (trivial)))
    · rw [if_neg c6] at h
      refine g_aload_n dX7_reachFrom_33 rfl ?_
      obtain ⟨x7, ex7, h⟩ := bs h
      refine q_getA dX7_reachFrom_34 fX7_40 ex7 ?_
      refine g_iload dX7_reachFrom_37 rfl ?_
      obtain ⟨x8, ex8, h⟩ := bs h
      refine q_bald dX7_reachFrom_39 ex8 ?_
      refine g_if_ne (t := 136) dX7_reachFrom_40 (by decide) (fun c10 => ?_) (fun c10 => ?_)
      · rw [if_neg c10] at h
        refine q_iinc (w := nI 1) (ls' := [some (.ref v0), some (.int v1), some (.int v2), some (.int s3), some (.long s4), none, some (.int (s6 + nI 1)), none, none, none, none]) dX7_reachFrom_136 (by decide) rfl (by decide) rfl ?_
        refine g_goto (t := 24) dX7_reachFrom_139 (by decide) ?_
        refine Go_le ?_ (hin (s3, s4, (s6 + nI 1), K) (Option.some.inj h).symm)
        exact And.intro rfl (And.intro rfl (And.intro rfl (And.intro rfl (And.intro rfl (And.intro rfl (trivial))))))
      · rw [if_pos c10] at h
        refine g_aload_n dX7_reachFrom_43 rfl ?_
        obtain ⟨x11, ex11, h⟩ := bs h
        refine q_getA dX7_reachFrom_44 fX7_18 ex11 ?_
        refine g_iload_n dX7_reachFrom_47 rfl ?_
        refine g_bipush (v := (nI 6)) dX7_reachFrom_48 (by decide) ?_
        refine g_imul dX7_reachFrom_50 ?_
        refine g_aload_n dX7_reachFrom_51 rfl ?_
        obtain ⟨x12, ex12, h⟩ := bs h
        refine q_getA dX7_reachFrom_52 fX7_25 ex12 ?_
        refine g_iload dX7_reachFrom_55 rfl ?_
        obtain ⟨x13, ex13, h⟩ := bs h
        refine q_iald dX7_reachFrom_57 ex13 ?_
        refine g_iadd dX7_reachFrom_58 ?_
        obtain ⟨x14, ex14, h⟩ := bs h
        refine q_lald dX7_reachFrom_59 ex14 ?_
        refine g_lstore (ls' := [some (.ref v0), some (.int v1), some (.int v2), some (.int s3), some (.long s4), none, some (.int s6), some (.long x14), none, none, none]) dX7_reachFrom_60 (by decide) rfl ?_
        refine g_lload dX7_reachFrom_62 rfl ?_
        refine g_aload_n dX7_reachFrom_64 rfl ?_
        obtain ⟨x15, ex15, h⟩ := bs h
        refine q_getA dX7_reachFrom_65 fX7_22 ex15 ?_
        refine g_iload_n dX7_reachFrom_68 rfl ?_
        obtain ⟨x16, ex16, h⟩ := bs h
        refine q_lald dX7_reachFrom_69 ex16 ?_
        refine g_lsub dX7_reachFrom_70 ?_
        refine g_aload_n dX7_reachFrom_71 rfl ?_
        obtain ⟨x17, ex17, h⟩ := bs h
        refine q_getA dX7_reachFrom_72 fX7_34 ex17 ?_
        refine g_iload dX7_reachFrom_75 rfl ?_
        obtain ⟨x18, ex18, h⟩ := bs h
        refine q_lald dX7_reachFrom_77 ex18 ?_
        refine g_lsub dX7_reachFrom_78 ?_
        refine g_lstore (ls' := [some (.ref v0), some (.int v1), some (.int v2), some (.int s3), some (.long s4), none, some (.int s6), some (.long x14), none, some (.long ((x14 - x16) - x18)), none]) dX7_reachFrom_79 (by decide) rfl ?_
        refine g_lload dX7_reachFrom_81 rfl ?_
        refine g_aload_n dX7_reachFrom_83 rfl ?_
        obtain ⟨x19, ex19, h⟩ := bs h
        refine q_getA dX7_reachFrom_84 fX7_37 ex19 ?_
        refine g_iload dX7_reachFrom_87 rfl ?_
        obtain ⟨x20, ex20, h⟩ := bs h
        refine q_lald dX7_reachFrom_89 ex20 ?_
        refine g_lcmp dX7_reachFrom_90 ?_
        refine g_if_ge (t := 111) dX7_reachFrom_91 (by decide) (fun c22 => ?_) (fun c22 => ?_)
        · rw [if_pos c22] at h
          refine Go_le ?_ (e_X7_reachFrom_j111 hin hex h)
          exact And.intro rfl (And.intro rfl (And.intro rfl (And.intro rfl (And.intro rfl (And.intro rfl (trivial))))))
        · rw [if_neg c22] at h
          refine g_aload_n dX7_reachFrom_94 rfl ?_
          obtain ⟨x29, ex29, h⟩ := bs h
          refine q_getA dX7_reachFrom_95 fX7_37 ex29 ?_
          refine g_iload dX7_reachFrom_98 rfl ?_
          refine g_lload dX7_reachFrom_100 rfl ?_
          obtain ⟨K30, eK30, h⟩ := bs h
          refine q_last dX7_reachFrom_102 eK30 ?_
          refine g_aload_n dX7_reachFrom_103 rfl ?_
          obtain ⟨x31, ex31, h⟩ := bs h
          refine q_getA dX7_reachFrom_104 fX7_31 ex31 ?_
          refine g_iload dX7_reachFrom_107 rfl ?_
          refine g_iload_n dX7_reachFrom_109 rfl ?_
          obtain ⟨K32, eK32, h⟩ := bs h
          refine q_iast dX7_reachFrom_110 eK32 ?_
          refine Go_le ?_ (e_X7_reachFrom_j111 hin hex h)
          exact And.intro rfl (And.intro rfl (And.intro rfl (And.intro rfl (And.intro rfl (And.intro rfl (trivial))))))
noncomputable def F_X7_reachFrom_l145 (O : mO) (d : Nat) (v0 : Nat) (v3 : Int32) (v4 : Int64) (s6 : Int32) (K : mH) : Option ((Int32 × mH) ⊕ (mH)) :=
  (gtI K v0 7 11).bind fun x34 =>
  if x34 < s6 then
    some (.inr K)
  else
    (gtA K v0 7 9).bind fun x36 =>
    (rdB O K x36 s6).bind fun x37 =>
    if x37 = 0 then
      (gtA K v0 7 8).bind fun x40 =>
      (rdJ O K x40 s6).bind fun x41 =>
      (wrJ K x40 s6 (x41 - v4)).bind fun K42 =>
      some (.inl ((s6 + nI 1), K42))
    else
      (gtA K v0 7 3).bind fun x43 =>
      (gtA K v0 7 5).bind fun x44 =>
      (rdI O K x44 s6).bind fun x45 =>
      (rdJ O K x43 x45).bind fun x46 =>
      (wrJ K x43 x45 (x46 + v4)).bind fun K47 =>
      (gtA K47 v0 7 7).bind fun x48 =>
      (rdJ O K47 x48 s6).bind fun x49 =>
      (wrJ K47 x48 s6 (x49 - v4)).bind fun K50 =>
      some (.inl ((s6 + nI 1), K50))
theorem e_X7_reachFrom_l145 {O : mO} {d : Nat} {v0 : Nat} {v3 : Int32} {v4 : Int64} {P : Option Value → mH → Prop} {x : mH} (hex : ∀ q : mH, x = q → Go O (d + 1) MX7_reachFrom 214 [none, none, none, some (.int v3), none, none, none, none, none, none, none] [] q P) : ∀ (f : Nat) (q : Int32 × mH), lupF (fun (q : Int32 × mH) => F_X7_reachFrom_l145 O d v0 v3 v4 q.1 q.2) f q = some x → Go O (d + 1) MX7_reachFrom 145 [some (.ref v0), none, none, some (.int v3), some (.long v4), none, some (.int q.1), none, none, none, none] [] q.2 P := by
  intro f
  induction f with
  | zero =>
    intro q h
    cases h
  | succ f ih =>
    intro q h
    obtain ⟨y, h, hy1, hy2⟩ := lupF_s h
    have hin : ∀ q : Int32 × mH, y = .inl q → Go O (d + 1) MX7_reachFrom 145 [some (.ref v0), none, none, some (.int v3), some (.long v4), none, some (.int q.1), none, none, none, none] [] q.2 P := fun q e => ih q (hy1 q e)
    replace hex : ∀ q : mH, y = .inr q → Go O (d + 1) MX7_reachFrom 214 [none, none, none, some (.int v3), none, none, none, none, none, none, none] [] q P := fun q e => hex q (hy2 q e).symm
    clear ih hy1 hy2
    obtain ⟨s6, K⟩ := q
    dsimp only at h ⊢
    unfold F_X7_reachFrom_l145 at h
    refine g_iload dX7_reachFrom_145 rfl ?_
    refine g_aload_n dX7_reachFrom_147 rfl ?_
    obtain ⟨x34, ex34, h⟩ := bs h
    refine q_getI dX7_reachFrom_148 fX7_48 ex34 ?_
    refine g_ic_gt (t := 214) dX7_reachFrom_151 (by decide) (fun c35 => ?_) (fun c35 => ?_)
    · rw [if_pos c35] at h
      refine Go_le ?_ (hex K (Option.some.inj h).symm)
      exact And.intro rfl (trivial)
    · rw [if_neg c35] at h
      refine g_aload_n dX7_reachFrom_154 rfl ?_
      obtain ⟨x36, ex36, h⟩ := bs h
      refine q_getA dX7_reachFrom_155 fX7_40 ex36 ?_
      refine g_iload dX7_reachFrom_158 rfl ?_
      obtain ⟨x37, ex37, h⟩ := bs h
      refine q_bald dX7_reachFrom_160 ex37 ?_
      refine g_if_eq (t := 196) dX7_reachFrom_161 (by decide) (fun c39 => ?_) (fun c39 => ?_)
      · rw [if_pos c39] at h
        refine g_aload_n dX7_reachFrom_196 rfl ?_
        obtain ⟨x40, ex40, h⟩ := bs h
        refine q_getA dX7_reachFrom_197 fX7_37 ex40 ?_
        refine g_iload dX7_reachFrom_200 rfl ?_
        refine g_dup2 dX7_reachFrom_202 rfl rfl ?_
        obtain ⟨x41, ex41, h⟩ := bs h
        refine q_lald dX7_reachFrom_203 ex41 ?_
        refine g_lload dX7_reachFrom_204 rfl ?_
        refine g_lsub dX7_reachFrom_206 ?_
        obtain ⟨K42, eK42, h⟩ := bs h
        refine q_last dX7_reachFrom_207 eK42 ?_
        refine q_iinc (w := nI 1) (ls' := [some (.ref v0), none, none, some (.int v3), some (.long v4), none, some (.int (s6 + nI 1)), none, none, none, none]) dX7_reachFrom_208 (by decide) rfl (by decide) rfl ?_
        refine g_goto (t := 145) dX7_reachFrom_211 (by decide) ?_
        refine Go_le ?_ (hin ((s6 + nI 1), K42) (Option.some.inj h).symm)
        exact And.intro rfl (And.intro rfl (And.intro rfl (And.intro rfl (trivial))))
      · rw [if_neg c39] at h
        refine g_aload_n dX7_reachFrom_164 rfl ?_
        obtain ⟨x43, ex43, h⟩ := bs h
        refine q_getA dX7_reachFrom_165 fX7_22 ex43 ?_
        refine g_aload_n dX7_reachFrom_168 rfl ?_
        obtain ⟨x44, ex44, h⟩ := bs h
        refine q_getA dX7_reachFrom_169 fX7_28 ex44 ?_
        refine g_iload dX7_reachFrom_172 rfl ?_
        obtain ⟨x45, ex45, h⟩ := bs h
        refine q_iald dX7_reachFrom_174 ex45 ?_
        refine g_dup2 dX7_reachFrom_175 rfl rfl ?_
        obtain ⟨x46, ex46, h⟩ := bs h
        refine q_lald dX7_reachFrom_176 ex46 ?_
        refine g_lload dX7_reachFrom_177 rfl ?_
        refine g_ladd dX7_reachFrom_179 ?_
        obtain ⟨K47, eK47, h⟩ := bs h
        refine q_last dX7_reachFrom_180 eK47 ?_
        refine g_aload_n dX7_reachFrom_181 rfl ?_
        obtain ⟨x48, ex48, h⟩ := bs h
        refine q_getA dX7_reachFrom_182 fX7_34 ex48 ?_
        refine g_iload dX7_reachFrom_185 rfl ?_
        refine g_dup2 dX7_reachFrom_187 rfl rfl ?_
        obtain ⟨x49, ex49, h⟩ := bs h
        refine q_lald dX7_reachFrom_188 ex49 ?_
        refine g_lload dX7_reachFrom_189 rfl ?_
        refine g_lsub dX7_reachFrom_191 ?_
        obtain ⟨K50, eK50, h⟩ := bs h
        refine q_last dX7_reachFrom_192 eK50 ?_
        refine g_goto (t := 208) dX7_reachFrom_193 (by decide) ?_
        refine q_iinc (w := nI 1) (ls' := [some (.ref v0), none, none, some (.int v3), some (.long v4), none, some (.int (s6 + nI 1)), none, none, none, none]) dX7_reachFrom_208 (by decide) rfl (by decide) rfl ?_
        refine g_goto (t := 145) dX7_reachFrom_211 (by decide) ?_
        refine Go_le ?_ (hin ((s6 + nI 1), K50) (Option.some.inj h).symm)
        exact And.intro rfl (And.intro rfl (And.intro rfl (And.intro rfl (trivial))))
noncomputable def F_X7_reachFrom (O : mO) (d : Nat) (a0 : Nat) (a1 : Int32) (K : mH) : Option (Int32 × mH) :=
  (gtA K a0 7 9).bind fun x1 =>
  (wrB K x1 a1 (nI 1)).bind fun K2 =>
  (gtA K2 a0 7 5).bind fun x3 =>
  (rdI O K2 x3 a1).bind fun x4 =>
  (lupF (fun (q : Int32 × Int64 × Int32 × mH) => F_X7_reachFrom_l24 O d a0 a1 x4 q.1 q.2.1 q.2.2.1 q.2.2.2) FU ((nI 0), (1125899906842624), (nI 1), K2)).bind fun r33 =>
  (lupF (fun (q : Int32 × mH) => F_X7_reachFrom_l145 O d a0 r33.1 r33.2.1 q.1 q.2) FU ((nI 0), r33.2.2)).bind fun r51 =>
  some (r33.1, r51)
theorem e_X7_reachFrom {O : mO} {d : Nat} {a0 : Nat} {a1 : Int32} {K : mH} {r0 : Int32} {K0 : mH} (h : F_X7_reachFrom O d a0 a1 K = some (r0, K0)) : ev O (d + 1) MX7_reachFrom [.ref a0, .int a1] K = some (some (.int r0), K0) := by
  refine Rn_evx ?_
  show Go O (d + 1) MX7_reachFrom 0 [some (.ref a0), some (.int a1), none, none, none, none, none, none, none, none, none] [] K _
  generalize hP : (fun (r : Option Value) (K' : mH) => (r, K') = (some (.int r0), K0)) = P
  have hret : ∀ (r : Int32) (K' : mH), (r, K') = (r0, K0) → P (some (.int r)) K' := by
    intro r K' e
    cases e
    subst hP
    rfl
  clear hP
  unfold F_X7_reachFrom at h
  refine g_aload_n dX7_reachFrom_0 rfl ?_
  obtain ⟨x1, ex1, h⟩ := bs h
  refine q_getA dX7_reachFrom_1 fX7_40 ex1 ?_
  refine g_iload_n dX7_reachFrom_4 rfl ?_
  refine g_iconst (v := (nI 1)) dX7_reachFrom_5 (by decide) ?_
  obtain ⟨K2, eK2, h⟩ := bs h
  refine q_bast dX7_reachFrom_6 eK2 ?_
  refine g_aload_n dX7_reachFrom_7 rfl ?_
  obtain ⟨x3, ex3, h⟩ := bs h
  refine q_getA dX7_reachFrom_8 fX7_28 ex3 ?_
  refine g_iload_n dX7_reachFrom_11 rfl ?_
  obtain ⟨x4, ex4, h⟩ := bs h
  refine q_iald dX7_reachFrom_12 ex4 ?_
  refine g_istore_n (ls' := [some (.ref a0), some (.int a1), some (.int x4), none, none, none, none, none, none, none, none]) dX7_reachFrom_13 (by decide) rfl ?_
  refine g_iconst (v := (nI 0)) dX7_reachFrom_14 (by decide) ?_
  refine g_istore_n (ls' := [some (.ref a0), some (.int a1), some (.int x4), some (.int (nI 0)), none, none, none, none, none, none, none]) dX7_reachFrom_15 (by decide) rfl ?_
  refine g_ldc2 (v := 1125899906842624) dX7_reachFrom_16 lX7_110 ?_
  refine g_lstore (ls' := [some (.ref a0), some (.int a1), some (.int x4), some (.int (nI 0)), some (.long (1125899906842624)), none, none, none, none, none, none]) dX7_reachFrom_19 (by decide) rfl ?_
  refine g_iconst (v := (nI 1)) dX7_reachFrom_21 (by decide) ?_
  refine g_istore (ls' := [some (.ref a0), some (.int a1), some (.int x4), some (.int (nI 0)), some (.long (1125899906842624)), none, some (.int (nI 1)), none, none, none, none]) dX7_reachFrom_22 (by decide) rfl ?_
  obtain ⟨r33, er33, h⟩ := bs h
  have hx : Go O (d + 1) MX7_reachFrom 142 [some (.ref a0), none, none, some (.int r33.1), some (.long r33.2.1), none, none, none, none, none, none] [] r33.2.2 P := by
    refine g_iconst (v := (nI 0)) dX7_reachFrom_142 (by decide) ?_
    refine g_istore (ls' := [some (.ref a0), none, none, some (.int r33.1), some (.long r33.2.1), none, some (.int (nI 0)), none, none, none, none]) dX7_reachFrom_143 (by decide) rfl ?_
    obtain ⟨r51, er51, h⟩ := bs h
    have hx : Go O (d + 1) MX7_reachFrom 214 [none, none, none, some (.int r33.1), none, none, none, none, none, none, none] [] r51 P := by
      refine g_iload_n dX7_reachFrom_214 rfl ?_
      exact g_ireturn dX7_reachFrom_215 rfl (by first | rfl | decide) (hret _ _ (Option.some.inj h))
    refine Go_le ?_ (e_X7_reachFrom_l145 (fun q e => by cases e; exact hx) FU ((nI 0), r33.2.2) er51)
    exact And.intro rfl (And.intro rfl (And.intro rfl (And.intro rfl (trivial))))
  refine Go_le ?_ (e_X7_reachFrom_l24 (fun q e => by cases e; exact hx) FU ((nI 0), (1125899906842624), (nI 1), K2) er33)
  exact And.intro rfl (And.intro rfl (And.intro rfl (And.intro rfl (And.intro rfl (And.intro rfl (trivial))))))
