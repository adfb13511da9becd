/-! a ground copied from another -/
section CP
variable {O : mO} {c d u n : Nat} {T : Nat → mT} {I I' : Nat → Nat → Int32} {J : Nat → Nat → Int64} {R R' : Nat → Nat → Option Nat} {a g h p V F D S N x s k j L : Nat} {w w' : Nat → Int32} {K : mH}
theorem wrR_hp {v : Option Nat} (hT : T a = (5, [L])) (ha : a < n) (hn : n ≤ oB) (hL : L < 2 ^ 31) (hj : j < L) (hv : v = none ∨ ∃ q, v = some q ∧ q < n ∧ 97 < q ∧ T q = (100 + 5, kd5)) : wrR (hp u n T I J R) a (nI j) v = some (hp u n T I J (up2 R a j v)) := by
  unfold wrR
  rcases hv with rfl | ⟨q, rfl, hq, -, hTq⟩
  · rw [hp_get ha, hT, show cel (5, [L]) (I a) (J a) (R a) = .inl (5, L, .inr (.inr (.inr (.inr (R a))))) from rfl]
    show (if a < oB ∧ _ ∧ mIdx (nI j) L = true then some (mpt _ a (.inl (5, L, .inr (.inr (.inr (.inr (va_up (R a) (nI j).toNatClampNeg none))))))) else none) = _
    rw [if_pos ⟨Nat.lt_of_lt_of_le ha hn, Or.inr rfl, (mIdx_nI rfl hj hL).1⟩, (mIdx_nI rfl hj hL).2, hp_up (I' := I) (J' := J) (R' := up2 R a j none) (by rw [hT, up2_row]; rfl) (fun b hb => ⟨rfl, rfl, up2_off R j _ hb⟩)]
  · rw [hp_get ha, hT, show cel (5, [L]) (I a) (J a) (R a) = .inl (5, L, .inr (.inr (.inr (.inr (R a))))) from rfl]
    dsimp only
    rw [hp_get hq, hTq, cel_o]
    show (if a < oB ∧ q < oB ∧ _ ∧ mIdx (nI j) L = true then some (mpt _ a (.inl (5, L, .inr (.inr (.inr (.inr (va_up (R a) (nI j).toNatClampNeg (some q)))))))) else none) = _
    rw [if_pos ⟨Nat.lt_of_lt_of_le ha hn, Nat.lt_of_lt_of_le hq hn, Or.inr ⟨rfl, rfl⟩, (mIdx_nI rfl hj hL).1⟩, (mIdx_nI rfl hj hL).2, hp_up (I' := I) (J' := J) (R' := up2 R a j (some q)) (by rw [hT, up2_row]; rfl) (fun b hb => ⟨rfl, rfl, up2_off R j _ hb⟩)]
/-- only the laws of the ground g may lead elsewhere -/
def RdG (g : Nat) (R R' : Nat → Nat → Option Nat) : Prop := ∀ a, a ≠ g + 10 → R' a = R a
theorem IsG_R (hr : RdG g R R') (hG : IsG n T R p) (hp : p ≠ g + 10) : IsG n T R' p := by
  unfold IsG at hG ⊢
  rw [hr p hp]
  exact hG
/-- what the copy is -/
def CpG (n : Nat) (T : Nat → mT) (g p : Nat) (I I' : Nat → Nat → Int32) (R R' : Nat → Nat → Option Nat) : Prop :=
  (∀ a, a < g ∨ g + 10 < a → I' a = I a) ∧ (∀ k, 11 ≤ k → k ≤ 17 → I' g k = I p k) ∧ (∀ k, k < 5 → I' (g + 1) k = I (p + 1) k) ∧ (∀ k, k < 4 → I' (g + 2) k = I (p + 2) k) ∧ (∀ k, k < 8 → I' (g + 3) k = I (p + 3) k) ∧ (∀ k, k < 8 → I' (g + 4) k = I (p + 4) k) ∧ (∀ k, k < 8 → I' (g + 5) k = I (p + 5) k) ∧ (∀ k, k < 40 → I' (g + 6) k = I (p + 6) k) ∧ (∀ k, k < 8 → I' (g + 7) k = I (p + 7) k) ∧ (∀ k, k < 8 → I' (g + 8) k = I (p + 8) k) ∧ (∀ k, k < 3 → I' (g + 9) k = I (p + 9) k) ∧ RdG g R R' ∧ ∀ l, l < 6 → R' (g + 10) l = R (p + 10) l
def cpH (I : Nat → Nat → Int32) (g p : Nat) : Nat → Nat → Int32 := cpI (cpI (cpI (cpI (cpI (cpI (cpI (cpI (cpI I (g + 1) (p + 1) 0 0 5) (g + 2) (p + 2) 0 0 4) (g + 3) (p + 3) 0 0 8) (g + 4) (p + 4) 0 0 8) (g + 5) (p + 5) 0 0 8) (g + 6) (p + 6) 0 0 40) (g + 7) (p + 7) 0 0 8) (g + 8) (p + 8) 0 0 8) (g + 9) (p + 9) 0 0 3
theorem cpH_off (h : a < g + 1 ∨ g + 9 < a) : cpH I g p a = I a := by
  unfold cpH
  rw [cpI_off (by omega), cpI_off (by omega), cpI_off (by omega), cpI_off (by omega), cpI_off (by omega), cpI_off (by omega), cpI_off (by omega), cpI_off (by omega), cpI_off (by omega)]
theorem cpI_z {b m : Nat} (hj : j < m) : cpI I a b 0 0 m a j = I b j := by
  rw [cpI_in (Nat.zero_le j) (by omega)]
  congr 1
  omega
theorem v_copy (hG : IsG n T R g) (hP : IsG n T R p) (hn : n ≤ oB) (hd : p + 10 < g ∨ g + 10 < p) (hr : RfG n T R p) : ∃ I' R', ev O (d + 1) MX2_copyFrom [.ref g, .ref p] (hp u n T I J R) = some (none, hp u n T I' J R') ∧ CpG n T g p I I' R R' := by
  have tg := hG.2.1
  have tp := hP.2.1
  have gn := hG.1.2
  have pn := hP.1.2
  have L1 : ∃ r, lupF (fun (q : Int32 × mH) => F_X2_copyFrom_l164 O d g p q.1 q.2) FU (nI 0, hp u n T (cpH I g p) J R) = some r ∧ (fun r => ∃ R', r = hp u n T (cpH I g p) J R' ∧ RdG g R R' ∧ ∀ l, l < 6 → R' (g + 10) l = R (p + 10) l) r := by
    refine lup_P0 (fun m s => ∃ R', s = (nI m, hp u n T (cpH I g p) J R') ∧ RdG g R R' ∧ ∀ l, l < m → R' (g + 10) l = R (p + 10) l) _ (N := 6) (by omega) ⟨R, rfl, fun _ _ => rfl, fun l hl => absurd hl (Nat.not_lt_zero l)⟩ ?_ ?_
    · intro m s hm ⟨R1, hs, r1, r2⟩
      subst hs
      left
      have hG1 := IsG_R r1 hG (by omega)
      have hP1 := IsG_R r1 hP (by omega)
      have e10 : R1 (p + 10) m = R (p + 10) m := by rw [r1 (p + 10) (by omega)]
      have wr : wrR (hp u n T (cpH I g p) J R1) (g + 10) (nI m) (R (p + 10) m) = some (hp u n T (cpH I g p) J (up2 R1 (g + 10) m (R (p + 10) m))) := wrR_hp tg.2.2.2.2.2.2.2.2.2 (by omega) hn (by decide) hm (hr m hm)
      refine ⟨(nI (m + 1), hp u n T (cpH I g p) J (up2 R1 (g + 10) m (R (p + 10) m))), ?_, _, rfl, fun a ha => by rw [up2_off _ _ _ ha]; exact r1 a ha, fun l hl => ?_⟩
      · dsimp only
        unfold F_X2_copyFrom_l164
        rw [if_neg (nI_ge hm (by omega)), ga_g_10 hG1 hn, Option.bind_some, ga_g_10 hP1 hn, Option.bind_some, rd_g_10 hP1 hn hm, Option.bind_some, e10, wr, Option.bind_some, nI_add]
      · by_cases e : l = m
        · rw [e, up2_at]
        · rw [up2_nk e]
          exact r2 l (by omega)
    · intro s ⟨R1, hs, r1, r2⟩
      subst hs
      refine ⟨_, ?_, R1, rfl, r1, r2⟩
      dsimp only
      unfold F_X2_copyFrom_l164
      rw [if_pos (nI_le (Nat.le_refl 6) (by omega))]
  obtain ⟨r, e, R1, hr1, r1, r2⟩ := L1
  have hG1 := IsG_R r1 hG (by omega)
  have hP1 := IsG_R r1 hP (by omega)
  refine ⟨up2 (up2 (up2 (up2 (up2 (up2 (up2 (cpH I g p) g 11 (I p 11)) g 12 (I p 12)) g 13 (I p 13)) g 14 (I p 14)) g 15 (I p 15)) g 16 (I p 16)) g 17 (I p 17), R1, e_X2_copyFrom ?_, ?_⟩
  · unfold F_X2_copyFrom
    rw [ga_g_1 hP hn, Option.bind_some, ga_g_1 hG hn, Option.bind_some, Option.bind_some, ln_g_1 hG hn, Option.bind_some, cpA_hp tg.1 tp.1 (by omega) (by omega) hn (by decide) (by decide) (by decide) (by decide), Option.bind_some]
    rw [ga_g_2 hP hn, Option.bind_some, ga_g_2 hG hn, Option.bind_some, Option.bind_some, ln_g_2 hG hn, Option.bind_some, cpA_hp tg.2.1 tp.2.1 (by omega) (by omega) hn (by decide) (by decide) (by decide) (by decide), Option.bind_some]
    rw [ga_g_3 hP hn, Option.bind_some, ga_g_3 hG hn, Option.bind_some, Option.bind_some, ln_g_3 hG hn, Option.bind_some, cpA_hp tg.2.2.1 tp.2.2.1 (by omega) (by omega) hn (by decide) (by decide) (by decide) (by decide), Option.bind_some]
    rw [ga_g_4 hP hn, Option.bind_some, ga_g_4 hG hn, Option.bind_some, Option.bind_some, ln_g_4 hG hn, Option.bind_some, cpA_hp tg.2.2.2.1 tp.2.2.2.1 (by omega) (by omega) hn (by decide) (by decide) (by decide) (by decide), Option.bind_some]
    rw [ga_g_5 hP hn, Option.bind_some, ga_g_5 hG hn, Option.bind_some, Option.bind_some, ln_g_5 hG hn, Option.bind_some, cpA_hp tg.2.2.2.2.1 tp.2.2.2.2.1 (by omega) (by omega) hn (by decide) (by decide) (by decide) (by decide), Option.bind_some]
    rw [ga_g_6 hP hn, Option.bind_some, ga_g_6 hG hn, Option.bind_some, Option.bind_some, ln_g_6 hG hn, Option.bind_some, cpA_hp tg.2.2.2.2.2.1 tp.2.2.2.2.2.1 (by omega) (by omega) hn (by decide) (by decide) (by decide) (by decide), Option.bind_some]
    rw [ga_g_7 hP hn, Option.bind_some, ga_g_7 hG hn, Option.bind_some, Option.bind_some, ln_g_7 hG hn, Option.bind_some, cpA_hp tg.2.2.2.2.2.2.1 tp.2.2.2.2.2.2.1 (by omega) (by omega) hn (by decide) (by decide) (by decide) (by decide), Option.bind_some]
    rw [ga_g_8 hP hn, Option.bind_some, ga_g_8 hG hn, Option.bind_some, Option.bind_some, ln_g_8 hG hn, Option.bind_some, cpA_hp tg.2.2.2.2.2.2.2.1 tp.2.2.2.2.2.2.2.1 (by omega) (by omega) hn (by decide) (by decide) (by decide) (by decide), Option.bind_some]
    rw [ga_g_9 hP hn, Option.bind_some, ga_g_9 hG hn, Option.bind_some, Option.bind_some, ln_g_9 hG hn, Option.bind_some, cpA_hp tg.2.2.2.2.2.2.2.2.1 tp.2.2.2.2.2.2.2.2.1 (by omega) (by omega) hn (by decide) (by decide) (by decide) (by decide), Option.bind_some]
    rw [show cpI (cpI (cpI (cpI (cpI (cpI (cpI (cpI (cpI I (g + 1) (p + 1) 0 0 5) (g + 2) (p + 2) 0 0 4) (g + 3) (p + 3) 0 0 8) (g + 4) (p + 4) 0 0 8) (g + 5) (p + 5) 0 0 8) (g + 6) (p + 6) 0 0 40) (g + 7) (p + 7) 0 0 8) (g + 8) (p + 8) 0 0 8) (g + 9) (p + 9) 0 0 3 = cpH I g p from rfl, e, hr1, Option.bind_some]
    have hp0 : ∀ k, cpH I g p p k = I p k := fun k => by rw [cpH_off (by omega)]
    rw [gi_g_11 hP1 hn, Option.bind_some, hp0, pi_g_11 hG1 hn, Option.bind_some]
    rw [gi_g_12 hP1 hn, Option.bind_some, up2_na (by omega), hp0, pi_g_12 hG1 hn, Option.bind_some]
    rw [gi_g_13 hP1 hn, Option.bind_some, up2_na (by omega), up2_na (by omega), hp0, pi_g_13 hG1 hn, Option.bind_some]
    rw [gi_g_14 hP1 hn, Option.bind_some, up2_na (by omega), up2_na (by omega), up2_na (by omega), hp0, pi_g_14 hG1 hn, Option.bind_some]
    rw [gi_g_15 hP1 hn, Option.bind_some, up2_na (by omega), up2_na (by omega), up2_na (by omega), up2_na (by omega), hp0, pi_g_15 hG1 hn, Option.bind_some]
    rw [gi_g_16 hP1 hn, Option.bind_some, up2_na (by omega), up2_na (by omega), up2_na (by omega), up2_na (by omega), up2_na (by omega), hp0, pi_g_16 hG1 hn, Option.bind_some]
    rw [gi_g_17 hP1 hn, Option.bind_some, up2_na (by omega), up2_na (by omega), up2_na (by omega), up2_na (by omega), up2_na (by omega), up2_na (by omega), hp0, pi_g_17 hG1 hn, Option.bind_some]
  · have row : ∀ a, a ≠ g → up2 (up2 (up2 (up2 (up2 (up2 (up2 (cpH I g p) g 11 (I p 11)) g 12 (I p 12)) g 13 (I p 13)) g 14 (I p 14)) g 15 (I p 15)) g 16 (I p 16)) g 17 (I p 17) a = cpH I g p a := fun a ha => by rw [up2_off _ _ _ ha, up2_off _ _ _ ha, up2_off _ _ _ ha, up2_off _ _ _ ha, up2_off _ _ _ ha, up2_off _ _ _ ha, up2_off _ _ _ ha]
    refine ⟨fun a ha => by rw [row a (by omega), cpH_off (by omega)], fun k h1 h2 => ?_, fun k hk => ?_, fun k hk => ?_, fun k hk => ?_, fun k hk => ?_, fun k hk => ?_, fun k hk => ?_, fun k hk => ?_, fun k hk => ?_, fun k hk => ?_, r1, r2⟩
    · have : k = 11 ∨ k = 12 ∨ k = 13 ∨ k = 14 ∨ k = 15 ∨ k = 16 ∨ k = 17 := by omega
      rcases this with rfl | rfl | rfl | rfl | rfl | rfl | rfl <;> ((try simp (disch := omega) only [up2_at, up2_na, up2_nk, up2_off]))
    all_goals
      rw [row _ (by omega)]
      unfold cpH
      repeat first | rw [cpI_z hk] | rw [cpI_off (by omega)]
end CP
