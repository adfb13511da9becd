/-! the class reaches a column more: worths, and the whole step -/
section RC2
variable {O : mO} {d u n : Nat} {T : Nat → mT} {I I' : Nat → Nat → Int32} {J J' : Nat → Nat → Int64} {R : Nat → Nat → Option Nat} {r c row t col near : Nat} {vc ρ : Nat → Nat}
theorem c_shift {v3 : Int32} {δ : Int64} (hS : St n T R) (hh : HH r c vc I) (hm : ∀ j, j ≤ c → rmQ I j = true → 1 ≤ rmM I j ∧ rmM I j ≤ r) (hinj : ∀ j k, j ≤ c → k ≤ c → rmQ I j = true → rmQ I k = true → rmM I j = rmM I k → j = k) (hd : -1125899906842624 ≤ δ.toInt ∧ δ.toInt ≤ 1125899906842624) (hU : ∀ i, 1 ≤ i → i ≤ r → -1125899906842624 ≤ rmU J i ∧ rmU J i ≤ 1125899906842624) (hW : ∀ j, j ≤ c → -1125899906842624 ≤ rmW J j ∧ rmW J j ≤ 1125899906842624) (hs : ∀ j, j ≤ c → rmQ I j = false → -1125899906842624 ≤ rmS J j ∧ rmS J j ≤ 1125899906842624) : ∃ z, lupF (fun (q : Int32 × mH) => F_X7_reachFrom_l145 O d 10 v3 δ q.1 q.2) FU (nI 0, hp u n T I J R) = some z ∧ (fun z => ∃ Jb, z = hp u n T I Jb R ∧ (∀ a, a ≠ 14 → a ≠ 18 → a ≠ 19 → Jb a = J a) ∧ (∀ j, j ≤ c → rmQ I j = true → rmU Jb (rmM I j) = rmU J (rmM I j) + δ.toInt) ∧ (∀ i, (∀ j, j ≤ c → rmQ I j = true → rmM I j ≠ i) → rmU Jb i = rmU J i) ∧ (∀ j, j ≤ c → rmQ I j = true → rmW Jb j = rmW J j - δ.toInt) ∧ (∀ j, rmQ I j = false → rmW Jb j = rmW J j) ∧ (∀ j, j ≤ c → rmQ I j = false → rmS Jb j = rmS J j - δ.toInt)) z := by
  have r8 := hh.r8
  have c23 := hh.c23
  refine lup_P0 (fun k z => ∃ Jb, z = (nI k, hp u n T I Jb R) ∧ (∀ a, a ≠ 14 → a ≠ 18 → a ≠ 19 → Jb a = J a) ∧ (∀ j, j < k → rmQ I j = true → rmU Jb (rmM I j) = rmU J (rmM I j) + δ.toInt) ∧ (∀ i, (∀ j, j < k → rmQ I j = true → rmM I j ≠ i) → Jb 14 i = J 14 i) ∧ (∀ j, j < k → rmQ I j = true → rmW Jb j = rmW J j - δ.toInt) ∧ (∀ j, (k ≤ j ∨ rmQ I j = false) → Jb 18 j = J 18 j) ∧ (∀ j, j < k → rmQ I j = false → rmS Jb j = rmS J j - δ.toInt) ∧ (∀ j, k ≤ j → Jb 19 j = J 19 j)) _ (N := c + 1) (by omega) ⟨J, rfl, fun _ _ _ _ => rfl, fun j h => by omega, fun _ _ => rfl, fun j h => by omega, fun _ _ => rfl, fun j h => by omega, fun _ _ => rfl⟩ ?_ ?_
  · intro k z hk ⟨Jb, hz, b1, b2, b3, b4, b5, b6, b7⟩
    subst hz
    left
    have kc : k ≤ c := by omega
    obtain ⟨m1, m2⟩ := hh.m k kc
    dsimp only
    unfold F_X7_reachFrom_l145
    rw [gi_10_11 hS, Option.bind_some, hh.c, if_neg (fun z => absurd ((nI_ltI (by omega) (by omega)).mp z) (by omega)), ga_10_9 hS, Option.bind_some, rd_20 hS (by omega), Option.bind_some, hh.q k kc]
    cases hq : rmQ I k with
    | false =>
      have s1 := hs k kc hq
      have e19 : Jb 19 k = J 19 k := b7 k (Nat.le_refl k)
      refine ⟨(nI (k + 1), hp u n T I (up2 Jb 19 k (Jb 19 k - δ)) R), ?_, _, rfl, fun a h1 h2 h3 => by rw [up2_off _ _ _ h3]; exact b1 a h1 h2 h3, fun j hj hjq => ?_, fun i hi => ?_, fun j hj hjq => ?_, fun j hj => ?_, fun j hj hjq => ?_, fun j hj => ?_⟩
      · rw [if_pos (show bI false = 0 from rfl), ga_10_8 hS, Option.bind_some, rd_19 hS (by omega), Option.bind_some, wr_19 hS (by omega), Option.bind_some, nI_add]
      · have jk : j ≠ k := fun e => by rw [e, hq] at hjq; cases hjq
        unfold rmU
        rw [up2_na (by decide)]
        exact b2 j (by omega) hjq
      · rw [up2_na (by decide)]
        exact b3 i (fun j hj => hi j (by omega))
      · have jk : j ≠ k := fun e => by rw [e, hq] at hjq; cases hjq
        unfold rmW
        rw [up2_na (by decide)]
        exact b4 j (by omega) hjq
      · rw [up2_na (by decide)]
        exact b5 j (hj.imp (fun z => by omega) id)
      · by_cases e : j = k
        · unfold rmS at s1 ⊢
          rw [e, up2_at, e19, j_sub (by omega) (by omega)]
        · unfold rmS
          rw [up2_nk e]
          exact b6 j (by omega) hjq
      · rw [up2_nk (by omega)]
        exact b7 j (by omega)
    | true =>
      obtain ⟨p1, p2⟩ := hm k kc hq
      have u1 := hU (rmM I k) p1 p2
      have w1 := hW k kc
      have e14 : Jb 14 (rmM I k) = J 14 (rmM I k) := b3 _ (fun j hj hjq e => by have := hinj j k (by omega) kc hjq hq e; omega)
      have e18 : Jb 18 k = J 18 k := b5 k (Or.inl (Nat.le_refl k))
      refine ⟨(nI (k + 1), hp u n T I (up2 (up2 Jb 14 (rmM I k) (Jb 14 (rmM I k) + δ)) 18 k (Jb 18 k - δ)) R), ?_, _, rfl, fun a h1 h2 h3 => by rw [up2_off _ _ _ h2, up2_off _ _ _ h1]; exact b1 a h1 h2 h3, fun j hj hjq => ?_, fun i hi => ?_, fun j hj hjq => ?_, fun j hj => ?_, fun j hj hjq => ?_, fun j hj => ?_⟩
      · rw [if_neg nbt, ga_10_3 hS, Option.bind_some, ga_10_5 hS, Option.bind_some, rd_16 hS (by omega), Option.bind_some, m1, rd_14 hS (by omega), Option.bind_some, wr_14 hS (by omega), Option.bind_some, ga_10_7 hS, Option.bind_some, rd_18 hS (by omega), Option.bind_some, wr_18 hS (by omega), Option.bind_some, up2_na (by decide), nI_add]
      · unfold rmU at u1 ⊢
        rw [up2_na (by decide)]
        by_cases e : j = k
        · rw [e, up2_at, e14, j_add (by omega) (by omega)]
        · rw [up2_nk (fun z => e (hinj j k (by omega) kc hjq hq z))]
          exact b2 j (by omega) hjq
      · rw [up2_na (by decide), up2_nk (fun z => hi k (by omega) hq z.symm)]
        exact b3 i (fun j hj => hi j (by omega))
      · unfold rmW at w1 ⊢
        by_cases e : j = k
        · rw [e, up2_at, e18, j_sub (by omega) (by omega)]
        · rw [up2_nk e, up2_na (by decide)]
          exact b4 j (by omega) hjq
      · have jk : j ≠ k := by
          intro e
          rcases hj with z | z
          · omega
          · rw [e, hq] at z
            cases z
        rw [up2_nk jk, up2_na (by decide)]
        exact b5 j (hj.imp (fun z => by omega) id)
      · have jk : j ≠ k := fun e => by rw [e, hq] at hjq; cases hjq
        unfold rmS
        rw [up2_na (by decide), up2_na (by decide)]
        exact b6 j (by omega) hjq
      · rw [up2_na (by decide), up2_na (by decide)]
        exact b7 j (by omega)
  · intro z ⟨Jb, hz, b1, b2, b3, b4, b5, b6, b7⟩
    subst hz
    refine ⟨_, ?_, Jb, rfl, b1, fun j hj => b2 j (by omega), fun i hi => ?_, fun j hj => b4 j (by omega), fun j hj => ?_, fun j hj => b6 j (by omega)⟩
    · dsimp only
      unfold F_X7_reachFrom_l145
      rw [gi_10_11 hS, Option.bind_some, hh.c, if_pos ((nI_ltI (by omega) (by omega)).mpr (by omega))]
    · unfold rmU
      rw [b3 i (fun j hj => hi j (by omega))]
    · unfold rmW
      rw [b5 j (Or.inr hj)]
/-- the whole step -/
theorem c_reach (hS : St n T R) (hh : HH r c vc I) (hq : HQ r c row t (fun i j => rmC J i (vc j)) (rmM I) (rmU J) (rmW J) (rmS J) (rmF I) (rmQ I) ρ col) (hC : ∀ i j, 1 ≤ i → i ≤ r → 1 ≤ j → j ≤ c → -536870912 ≤ rmC J i (vc j) ∧ rmC J i (vc j) ≤ 1099511627776) (hf : 1 ≤ t → ∀ j, 1 ≤ j → j ≤ c → I 17 j = nI (rmF I j)) (hcol : rmM I col ≠ 0) : ∃ near I' J' ρ', ev O (d + 1) MX7_reachFrom [.ref 10, .int (nI col)] (hp u n T I J R) = some (some (.int (nI near)), hp u n T I' J' R) ∧ HH r c vc I' ∧ HQ r c row (t + 1) (fun i j => rmC J' i (vc j)) (rmM I') (rmU J') (rmW J') (rmS J') (rmF I') (rmQ I') ρ' near ∧ (∀ a, a ≠ 17 → a ≠ 20 → I' a = I a) ∧ (∀ a, a ≠ 14 → a ≠ 18 → a ≠ 19 → J' a = J a) ∧ (∀ j, 1 ≤ j → j ≤ c → I' 17 j = nI (rmF I' j)) := by
  have r8 := hh.r8
  have c23 := hh.c23
  have r1 := hq.r1
  have r2 := hq.r2
  have rc : row ≤ c := by have := hh.rc; omega
  have up := hq.up rc (fun i j a b c d => (hC i j a b c d).2)
  have wb := hq.wb rc hC
  have colc : col ≤ c := by
    rcases hq.h with ⟨-, e, -⟩ | ⟨-, q⟩
    · omega
    · exact q.cc
  have mc : 1 ≤ rmM I col ∧ rmM I col ≤ row := by
    by_cases e : col = 0
    · rw [e, hq.m0]
      omega
    · have := hq.p.lt col (by omega) colc
      omega
  obtain ⟨z1, e1, Ia, Ja, nr, ls, hz1, a1, a2, a3, a4, a5, a6⟩ := c_scan (O := O) (d := d) (u := u) hS hh colc mc.1 (by omega) ⟨hq.b _ mc.1 (by omega), up _ mc.1 (by omega)⟩ wb (fun i v i1 i2 v1 ⟨j, j1, j2, j3⟩ => by rw [← j3]; exact hC i j i1 i2 j1 j2)
  -- what the heap says of slacks behind the scan
  have ovb : ∀ j, 1 ≤ j → j ≤ c → -9895604649984 ≤ rmC J (rmM I col) (vc j) - rmU J (rmM I col) - rmW J j ∧ rmC J (rmM I col) (vc j) - rmU J (rmM I col) - rmW J j ≤ 9895604649984 := by
    intro j j1 j2
    have c1 := hC (rmM I col) j mc.1 (by omega) j1 j2
    have u1 := hq.b (rmM I col) mc.1 (by omega)
    have u2 := up (rmM I col) mc.1 (by omega)
    have w1 := wb j j2
    omega
  have sb : ∀ j, 1 ≤ j → j ≤ c → rmQ I j = false → -9895604649984 ≤ rmS J j := by
    intro j j1 j2 j3
    rcases hq.h with ⟨-, -, -, y, -⟩ | ⟨-, y⟩
    · rw [y j j2]
      omega
    · obtain ⟨f1, f2, f3, -⟩ := y.out j j1 j2 j3
      have fm : 1 ≤ rmM I (rmF I j) ∧ rmM I (rmF I j) ≤ row := by
        have := (hq.q _ f1 f2).1
        by_cases e : rmF I j = 0
        · rw [e, hq.m0]
          omega
        · have := hq.p.lt (rmF I j) (by omega) f1
          omega
      have c1 := hC (rmM I (rmF I j)) j fm.1 (by omega) j1 j2
      have u2 := up (rmM I (rmF I j)) fm.1 (by omega)
      have w1 := wb j j2
      omega
  have s1b : ∀ j, 1 ≤ j → j ≤ c → rmQ I j = false → j ≠ col → -9895604649984 ≤ rmS Ja j ∧ rmS Ja j ≤ 9895604649984 := by
    intro j j1 j2 j3 j4
    obtain ⟨y1, y2⟩ := a3 j j1 j2 j3 j4
    have o := ovb j j1 j2
    have b := sb j j1 j2 j3
    by_cases lt : rmC J (rmM I col) (vc j) - rmU J (rmM I col) - rmW J j < rmS J j
    · have := (y1 lt).1
      omega
    · have := (y2 lt).1
      omega
  -- there is a nearest
  obtain ⟨fj, fj1, fj2, fj3⟩ := free_ex hq.p hq.r1 rc
  have fq : rmQ I fj = false := by
    cases h : rmQ I fj with
    | false => rfl
    | true =>
      have := (hq.q fj fj2 h).1
      omega
  have fn : fj ≠ col := fun e => hcol (by rw [← e]; exact fj3)
  obtain ⟨n1, n2, n3, n4, n5, n6, n7⟩ : 1 ≤ nr ∧ nr ≤ c ∧ rmQ I nr = false ∧ nr ≠ col ∧ ls.toInt = rmS Ja nr ∧ ls.toInt < 1125899906842624 ∧ ∀ j, 1 ≤ j → j ≤ c → rmQ I j = false → j ≠ col → ls.toInt ≤ rmS Ja j := by
    rcases a5 with ⟨-, -, y⟩ | y
    · have := y fj fj1 fj2 fq fn
      have := s1b fj fj1 fj2 fq fn
      omega
    · exact y
  have lsb := s1b nr n1 n2 n3 n4
  -- the heap behind the scan
  have qa : rmQ Ia = fun j => rmQ I j || decide (j = col) := by
    funext j
    unfold rmQ
    rw [a1 20 (by decide)]
    by_cases e : j = col
    · rw [e, up2_at, decide_eq_true rfl, decide_eq_true rfl, Bool.or_true]
    · rw [up2_nk e, decide_eq_false e, Bool.or_false]
  have ma : rmM Ia = rmM I := by
    funext j
    unfold rmM
    rw [a1 16 (by decide), up2_off _ _ _ (by decide)]
  have ia : ∀ a, a ≠ 17 → a ≠ 20 → Ia a = I a := fun a h1 h2 => by rw [a1 a h1, up2_off _ _ _ h2]
  have hha : HH r c vc Ia := by
    refine ⟨hh.r8, hh.c23, hh.rc, by rw [ia 10 (by decide) (by decide)]; exact hh.r, by rw [ia 10 (by decide) (by decide)]; exact hh.c, fun j hj => by rw [ma, ia 16 (by decide) (by decide)]; exact hh.m j hj, fun j hj => ?_, fun j j1 j2 => by rw [ia 15 (by decide) (by decide)]; exact hh.v j j1 j2⟩
    rw [qa, a1 20 (by decide)]
    dsimp only
    by_cases e : j = col
    · rw [e, up2_at, decide_eq_true rfl, Bool.or_true]
      rfl
    · rw [up2_nk e, decide_eq_false e, Bool.or_false]
      exact hh.q j hj
  have q1t : ∀ j, rmQ Ia j = true ↔ (rmQ I j = true ∨ j = col) := by
    intro j
    rw [qa]
    dsimp only
    rw [Bool.or_eq_true, decide_eq_true_iff]
  have q1f : ∀ j, rmQ Ia j = false ↔ (rmQ I j = false ∧ j ≠ col) := by
    intro j
    rw [qa]
    dsimp only
    rw [Bool.or_eq_false_iff, decide_eq_false_iff_not]
  have row1 : ∀ j, j ≤ c → (rmQ I j = true ∨ j = col) → 1 ≤ rmM I j ∧ rmM I j ≤ row := by
    intro j hj hqq
    by_cases e : j = 0
    · rw [e, hq.m0]
      omega
    · have lt := hq.p.lt j (by omega) hj
      have : rmM I j ≠ 0 := by
        rcases hqq with z | z
        · exact ((hq.q j hj z).1).resolve_left e
        · rw [z]
          exact hcol
      omega
  have ua : rmU Ja = rmU J := by
    funext i
    unfold rmU
    rw [a2 14 (by decide)]
  have wa : rmW Ja = rmW J := by
    funext i
    unfold rmW
    rw [a2 18 (by decide)]
  have q0 : rmQ I 0 = true ∨ 0 = col := by
    rcases hq.h with ⟨-, e, -⟩ | ⟨-, y⟩
    · exact Or.inr e.symm
    · exact Or.inl y.q0
  obtain ⟨z2, e2, Jb, hz2, b1, b2, b3, b4, b5, b6⟩ := c_shift (O := O) (d := d) (u := u) (J := Ja) (v3 := nI nr) (δ := ls) hS hha (fun j hj hjq => by
      rw [ma]
      have := row1 j hj ((q1t j).mp hjq)
      omega) (fun j k hj hk hjq hkq e => by
      rw [ma] at e
      have := row1 j hj ((q1t j).mp hjq)
      exact hq.p.mz hq.m0 hj hk e (by omega)) (by omega) (fun i i1 i2 => by
      rw [ua]
      have := hq.b i i1 i2
      have := up i i1 i2
      omega) (fun j hj => by
      rw [wa]
      have := wb j hj
      omega) (fun j hj hjq => by
      obtain ⟨y1, y2⟩ := (q1f j).mp hjq
      have j0 : j ≠ 0 := by
        intro e
        rw [e] at y1 y2
        rcases q0 with z | z
        · rw [y1] at z
          cases z
        · exact y2 z
      have := s1b j (by omega) hj y1 y2
      omega)
  rw [ma] at b2 b3
  have st := hq.step (S1 := rmS Ja) (F1 := rmF Ia) (U' := rmU Jb) (W' := rmW Jb) (S' := rmS Jb) (near := nr) (δ := ls.toInt) rc hC hcol (fun j j1 j2 j3 j4 => by
      obtain ⟨y1, y2⟩ := a3 j j1 j2 j3 j4
      refine ⟨fun lt => ⟨(y1 lt).1, ?_⟩, fun lt => ⟨(y2 lt).1, ?_⟩⟩
      · unfold rmF
        rw [(y1 lt).2, nI_clamp (by omega)]
      · unfold rmF
        rw [(y2 lt).2]) (fun j j1 j2 hj => by
      unfold rmF
      rw [(a4 j hj).2]) n1 n2 n3 n4 n5.symm n7 n6 (fun j hj hjq => by
      have := b2 j hj ((q1t j).mpr hjq)
      rw [ua] at this
      exact this) (fun i hi => by
      have := b3 i (fun j hj hjq => hi j hj ((q1t j).mp hjq))
      rw [ua] at this
      exact this) (fun j hj hjq => by
      have := b4 j hj ((q1t j).mpr hjq)
      rw [wa] at this
      exact this) (fun j hj j3 j4 => by
      have := b5 j ((q1f j).mpr ⟨j3, j4⟩)
      rw [wa] at this
      exact this) (fun j j1 j2 j3 j4 => b6 j j2 ((q1f j).mpr ⟨j3, j4⟩))
  have jc : (fun i j => rmC Jb i (vc j)) = (fun i j => rmC J i (vc j)) := by
    funext i j
    unfold rmC
    rw [b1 13 (by decide) (by decide) (by decide), a2 13 (by decide)]
  refine ⟨nr, Ia, Jb, (fun j => if j = col then t else ρ j), e_X7_reachFrom ?_, hha, ?_, ia, fun a h1 h2 h3 => (b1 a h1 h2 h3).trans (a2 a h3), fun j j1 j2 => ?_⟩
  · unfold F_X7_reachFrom
    rw [ga_10_9 hS, Option.bind_some, wr_20 hS (by omega), Option.bind_some, show vp_nar .boolean (nI 1) = nI 1 by decide, ga_10_5 hS, Option.bind_some, rd_16 hS (by omega), Option.bind_some, up2_off I _ _ (show 16 ≠ 20 by decide), (hh.m col colc).1, e1, hz1, Option.bind_some]
    dsimp only
    rw [e2, hz2, Option.bind_some]
  · rw [jc, ma, qa]
    exact st
  · -- where each column was come from
    unfold rmF
    rcases (by cases hb : rmQ Ia j with | true => exact Or.inl rfl | false => exact Or.inr rfl : rmQ Ia j = true ∨ rmQ Ia j = false) with hb | hb
    · have hb := (q1t j).mp hb
      rw [(a4 j hb).2]
      by_cases ht : 1 ≤ t
      · exact hf ht j j1 j2
      · exfalso
        rcases hq.h with ⟨-, y1, y2, -⟩ | ⟨y, -⟩
        · rcases hb with z | z
          · rw [y2 j j2] at z
            cases z
          · omega
        · omega
    · obtain ⟨j3, j4⟩ := (q1f j).mp hb
      obtain ⟨y1, y2⟩ := a3 j j1 j2 j3 j4
      by_cases lt : rmC J (rmM I col) (vc j) - rmU J (rmM I col) - rmW J j < rmS J j
      · rw [(y1 lt).2, nI_clamp (by omega)]
      · rw [(y2 lt).2]
        by_cases ht : 1 ≤ t
        · exact hf ht j j1 j2
        · exfalso
          rcases hq.h with ⟨-, -, -, y3, -⟩ | ⟨y, -⟩
          · have := y3 j j2
            have := ovb j j1 j2
            omega
          · omega
end RC2
