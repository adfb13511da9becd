/-! one step of a sum -/
def chk (t : Int64) : Option Int32 := if 1000000000 < t ∨ t < -1000000000 then none else some t.toInt32
/-- what a step (5 .. 12) makes of two numbers; none: BROKEN -/
def jo (k : Nat) (a b : Int32) : Option Int32 := match k with
  | 5 => chk (a.toInt64 + b.toInt64)
  | 6 => chk (a.toInt64 - b.toInt64)
  | 7 => chk (a.toInt64 * b.toInt64)
  | 8 => if b = 0 then none else chk (a / b).toInt64
  | 9 => if b = 0 then none else chk (a - a / b * b).toInt64
  | 10 => some (bI (decide (a < b)))
  | 11 => some (bI (decide (b < a)))
  | _ => some (bI (decide (a = b)))
def joI (I : Nat → Nat → Int32) (s k : Nat) (a b : Int32) : Nat → Nat → Int32 := if (jo k a b).isNone = true then up2 I s 1 (nI 1) else I
section JOI
variable {O : mO} {d u n : Nat} {T : Nat → mT} {I : Nat → Nat → Int32} {J : Nat → Nat → Int64} {R : Nat → Nat → Option Nat} {s : Nat}
theorem c_joinedEnd {x a b : Int32} {t : Int64} {P : Option Value → mH → Prop} (hT : T s = (100 + 8, kd8)) (hs : s < n) (hn : n ≤ oB) (h0 : I s 1 = nI 0)
    (k1 : chk t = none → P (some (.int (nI 0))) (hp u n T (up2 I s 1 (nI 1)) J R)) (k2 : ∀ v, chk t = some v → P (some (.int v)) (hp u n T I J R)) : Go O d MX8_joined 146 [some (.ref s), some (.int x), some (.int a), some (.int b), some (.long t), none] [] (hp u n T I J R) P := by
  have brk : chk t = none → Go O d MX8_joined 164 [some (.ref s), some (.int x), some (.int a), some (.int b), some (.long t), none] [] (hp u n T I J R) P := by
    intro hc
    refine g_aload_n dX8_joined_164 rfl ?_
    refine g_iconst (v := nI 1) dX8_joined_165 (by decide) ?_
    refine g_putI (c := (RX8, TX8, 2)) dX8_joined_166 fX8_15 (by assumption) rfl rfl rfl rfl (fun h => absurd h (by decide)) (by omega) hn ?_
    refine g_aload_n dX8_joined_169 rfl ?_
    refine g_getI dX8_joined_170 fX8_15 (by assumption) rfl (by omega) hn ?_
    rw [up2_at]
    refine g_if_eq (t := 180) dX8_joined_173 (by decide) (fun c => ?_) (fun c => ?_)
    · exact absurd c (by decide)
    · refine g_iconst (v := nI 0) dX8_joined_176 (by decide) ?_
      refine g_goto (t := 183) dX8_joined_177 (by decide) ?_
      exact g_ireturn dX8_joined_183 rfl (by first | rfl | decide) (k1 hc)
  refine g_lload dX8_joined_146 rfl ?_
  refine g_ldc2 dX8_joined_148 lX8_48 ?_
  refine g_lcmp dX8_joined_151 ?_
  refine g_if_gt (t := 164) dX8_joined_152 (by decide) (fun c => ?_) (fun c => ?_)
  · exact brk (by unfold chk; rw [if_pos (Or.inl ((lg_cmp_gt _ _).mp c))])
  · refine g_lload dX8_joined_155 rfl ?_
    refine g_ldc2 dX8_joined_157 lX8_50 ?_
    refine g_lcmp dX8_joined_160 ?_
    refine g_if_ge (t := 169) dX8_joined_161 (by decide) (fun e => ?_) (fun e => ?_)
    · refine g_aload_n dX8_joined_169 rfl ?_
      refine g_getI dX8_joined_170 fX8_15 (by assumption) rfl (by omega) hn ?_
      rw [h0]
      refine g_if_eq (t := 180) dX8_joined_173 (by decide) (fun z => ?_) (fun z => ?_)
      · refine g_lload dX8_joined_180 rfl ?_
        refine g_l2i dX8_joined_182 ?_
        exact g_ireturn dX8_joined_183 rfl (by first | rfl | decide) (k2 _ (by unfold chk; rw [if_neg (fun q => q.elim (fun q1 => c ((lg_cmp_gt _ _).mpr q1)) (fun q2 => Int64.not_lt.mpr ((lg_cmp_ge _ _).mp e) q2))]))
      · exact absurd rfl z
    · exact brk (by unfold chk; rw [if_pos (Or.inr (Int64.not_le.mp (fun q => e ((lg_cmp_ge _ _).mpr q))))])
theorem c_joined {k : Nat} {a b : Int32} (hT : T s = (100 + 8, kd8)) (hs : s < n) (hn : n ≤ oB) (h0 : I s 1 = nI 0) (hk : 5 ≤ k) (hk2 : k ≤ 12) : Rn O d MX8_joined [.ref s, .int (nI k), .int a, .int b] (hp u n T I J R) (Sc u n T (joI I s k a b) J R (some (.int ((jo k a b).getD (nI 0))))) := by
  show Go O d MX8_joined 0 [some (.ref s), some (.int (nI k)), some (.int a), some (.int b), none, none] [] _ _
  have fin : ∀ t : Int64, jo k a b = chk t → Go O d MX8_joined 146 [some (.ref s), some (.int (nI k)), some (.int a), some (.int b), some (.long t), none] [] (hp u n T I J R) (Sc u n T (joI I s k a b) J R (some (.int ((jo k a b).getD (nI 0))))) := by
    intro t ht
    refine c_joinedEnd hT hs hn h0 (fun h => ?_) (fun v h => ?_)
    · refine ⟨by rw [ht, h]; rfl, ?_⟩
      unfold joI
      rw [ht, h]
      rfl
    · refine ⟨by rw [ht, h]; rfl, ?_⟩
      unfold joI
      rw [ht, h]
      rfl
  have div : (k = 8 ∨ k = 9) → Go O d MX8_joined 115 [some (.ref s), some (.int (nI k)), some (.int a), some (.int b), some (.long 0), none] [] (hp u n T I J R) (Sc u n T (joI I s k a b) J R (some (.int ((jo k a b).getD (nI 0))))) := by
    intro h89
    refine g_iload_n dX8_joined_115 rfl ?_
    refine g_if_ne (t := 127) dX8_joined_116 (by decide) (fun c => ?_) (fun c => ?_)
    · refine g_iload_n dX8_joined_127 rfl ?_
      refine g_bipush (v := nI 8) dX8_joined_128 (by decide) ?_
      rcases h89 with rfl | rfl
      · refine g_ic_ne (t := 140) dX8_joined_130 (by decide) (fun z => ?_) (fun z => ?_)
        · exact absurd rfl z
        · refine g_iload_n dX8_joined_133 rfl ?_
          refine g_iload_n dX8_joined_134 rfl ?_
          refine g_idiv dX8_joined_135 (by assumption) ?_
          refine g_i2l dX8_joined_136 ?_
          refine g_goto (t := 144) dX8_joined_137 (by decide) ?_
          refine g_lstore (ls' := [_, _, _, _, some (.long _), none]) dX8_joined_144 (by decide) rfl ?_
          exact fin _ (if_neg c)
      · refine g_ic_ne (t := 140) dX8_joined_130 (by decide) (fun z => ?_) (fun z => ?_)
        · refine g_iload_n dX8_joined_140 rfl ?_
          refine g_iload_n dX8_joined_141 rfl ?_
          refine g_irem dX8_joined_142 (by assumption) ?_
          refine g_i2l dX8_joined_143 ?_
          refine g_lstore (ls' := [_, _, _, _, some (.long _), none]) dX8_joined_144 (by decide) rfl ?_
          exact fin _ (if_neg c)
        · exact absurd z (by decide)
    · have hno : jo k a b = none := by rcases h89 with rfl | rfl <;> exact if_pos c
      refine g_aload_n dX8_joined_119 rfl ?_
      refine g_iconst (v := nI 1) dX8_joined_120 (by decide) ?_
      refine g_putI (c := (RX8, TX8, 2)) dX8_joined_121 fX8_15 (by assumption) rfl rfl rfl rfl (fun h => absurd h (by decide)) (by omega) hn ?_
      refine g_goto (t := 146) dX8_joined_124 (by decide) ?_
      refine g_lload dX8_joined_146 rfl ?_
      refine g_ldc2 dX8_joined_148 lX8_48 ?_
      refine g_lcmp dX8_joined_151 ?_
      refine g_if_gt (t := 164) dX8_joined_152 (by decide) (fun z => ?_) (fun z => ?_)
      · exact absurd z (by decide)
      · refine g_lload dX8_joined_155 rfl ?_
        refine g_ldc2 dX8_joined_157 lX8_50 ?_
        refine g_lcmp dX8_joined_160 ?_
        refine g_if_ge (t := 169) dX8_joined_161 (by decide) (fun e => ?_) (fun e => ?_)
        · refine g_aload_n dX8_joined_169 rfl ?_
          refine g_getI dX8_joined_170 fX8_15 (by assumption) rfl (by omega) hn ?_
          rw [up2_at]
          refine g_if_eq (t := 180) dX8_joined_173 (by decide) (fun y => ?_) (fun y => ?_)
          · exact absurd y (by decide)
          · refine g_iconst (v := nI 0) dX8_joined_176 (by decide) ?_
            refine g_goto (t := 183) dX8_joined_177 (by decide) ?_
            exact g_ireturn dX8_joined_183 rfl (by first | rfl | decide) ⟨by rw [hno]; rfl, by unfold joI; rw [hno]; rfl⟩
        · exact absurd (by decide) e
  refine g_lconst (v := 0) dX8_joined_0 (by decide) ?_
  refine g_lstore (ls' := [_, _, _, _, some (.long _), none]) dX8_joined_1 (by decide) rfl ?_
  refine g_iload_n dX8_joined_3 rfl ?_
  match k, hk, hk2 with
  | 5, _, _ =>
    refine g_tsI (t := 52) dX8_joined_4 (by decide) rfl (by decide) ?_
    refine g_iload_n dX8_joined_52 rfl ?_
    refine g_i2l dX8_joined_53 ?_
    refine g_iload_n dX8_joined_54 rfl ?_
    refine g_i2l dX8_joined_55 ?_
    refine g_ladd dX8_joined_56 ?_
    refine g_lstore (ls' := [_, _, _, _, some (.long _), none]) dX8_joined_57 (by decide) rfl ?_
    refine g_goto (t := 146) dX8_joined_59 (by decide) ?_
    exact fin _ rfl
  | 6, _, _ =>
    refine g_tsI (t := 62) dX8_joined_4 (by decide) rfl (by decide) ?_
    refine g_iload_n dX8_joined_62 rfl ?_
    refine g_i2l dX8_joined_63 ?_
    refine g_iload_n dX8_joined_64 rfl ?_
    refine g_i2l dX8_joined_65 ?_
    refine g_lsub dX8_joined_66 ?_
    refine g_lstore (ls' := [_, _, _, _, some (.long _), none]) dX8_joined_67 (by decide) rfl ?_
    refine g_goto (t := 146) dX8_joined_69 (by decide) ?_
    exact fin _ rfl
  | 7, _, _ =>
    refine g_tsI (t := 72) dX8_joined_4 (by decide) rfl (by decide) ?_
    refine g_iload_n dX8_joined_72 rfl ?_
    refine g_i2l dX8_joined_73 ?_
    refine g_iload_n dX8_joined_74 rfl ?_
    refine g_i2l dX8_joined_75 ?_
    refine g_lmul dX8_joined_76 ?_
    refine g_lstore (ls' := [_, _, _, _, some (.long _), none]) dX8_joined_77 (by decide) rfl ?_
    refine g_goto (t := 146) dX8_joined_79 (by decide) ?_
    exact fin _ rfl
  | 8, _, _ =>
    refine g_tsI (t := 115) dX8_joined_4 (by decide) rfl (by decide) ?_
    exact div (Or.inl rfl)
  | 9, _, _ =>
    refine g_tsI (t := 115) dX8_joined_4 (by decide) rfl (by decide) ?_
    exact div (Or.inr rfl)
  | 10, _, _ =>
    refine g_tsI (t := 82) dX8_joined_4 (by decide) rfl (by decide) ?_
    refine g_iload_n dX8_joined_82 rfl ?_
    refine g_iload_n dX8_joined_83 rfl ?_
    refine g_ic_ge (t := 91) dX8_joined_84 (by decide) (fun c => ?_) (fun c => ?_)
    · refine g_iconst (v := nI 0) dX8_joined_91 (by decide) ?_
      exact g_ireturn dX8_joined_92 rfl (by first | rfl | decide) ⟨by show _ = some (Value.int (bI (decide (a < b)))); rw [decide_eq_false (Int32.not_lt.mpr c)]; rfl, rfl⟩
    · refine g_iconst (v := nI 1) dX8_joined_87 (by decide) ?_
      refine g_goto (t := 92) dX8_joined_88 (by decide) ?_
      exact g_ireturn dX8_joined_92 rfl (by first | rfl | decide) ⟨by show _ = some (Value.int (bI (decide (a < b)))); rw [decide_eq_true (Int32.not_le.mp c)]; rfl, rfl⟩
  | 11, _, _ =>
    refine g_tsI (t := 93) dX8_joined_4 (by decide) rfl (by decide) ?_
    refine g_iload_n dX8_joined_93 rfl ?_
    refine g_iload_n dX8_joined_94 rfl ?_
    refine g_ic_le (t := 102) dX8_joined_95 (by decide) (fun c => ?_) (fun c => ?_)
    · refine g_iconst (v := nI 0) dX8_joined_102 (by decide) ?_
      exact g_ireturn dX8_joined_103 rfl (by first | rfl | decide) ⟨by show _ = some (Value.int (bI (decide (b < a)))); rw [decide_eq_false (Int32.not_lt.mpr c)]; rfl, rfl⟩
    · refine g_iconst (v := nI 1) dX8_joined_98 (by decide) ?_
      refine g_goto (t := 103) dX8_joined_99 (by decide) ?_
      exact g_ireturn dX8_joined_103 rfl (by first | rfl | decide) ⟨by show _ = some (Value.int (bI (decide (b < a)))); rw [decide_eq_true (Int32.not_le.mp c)]; rfl, rfl⟩
  | 12, _, _ =>
    refine g_tsI (t := 104) dX8_joined_4 (by decide) rfl (by decide) ?_
    refine g_iload_n dX8_joined_104 rfl ?_
    refine g_iload_n dX8_joined_105 rfl ?_
    refine g_ic_ne (t := 113) dX8_joined_106 (by decide) (fun c => ?_) (fun c => ?_)
    · refine g_iconst (v := nI 0) dX8_joined_113 (by decide) ?_
      exact g_ireturn dX8_joined_114 rfl (by first | rfl | decide) ⟨by show _ = some (Value.int (bI (decide (a = b)))); rw [decide_eq_false c]; rfl, rfl⟩
    · refine g_iconst (v := nI 1) dX8_joined_109 (by decide) ?_
      refine g_goto (t := 114) dX8_joined_110 (by decide) ?_
      exact g_ireturn dX8_joined_114 rfl (by first | rfl | decide) ⟨by show _ = some (Value.int (bI (decide (a = b)))); rw [decide_eq_true c]; rfl, rfl⟩
end JOI
