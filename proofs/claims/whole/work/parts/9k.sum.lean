/-! the class's sums follow the grammar -/
theorem lup_c {σ ρ : Type} {f : σ → Option (σ ⊕ ρ)} {fu : Nat} {s s' : σ} (h : f s = some (.inl s')) : lupF f (fu + 1) s = lupF f fu s' := by
  show (match f s with
    | some (.inl s') => lupF f fu s'
    | some (.inr r) => some r
    | none => none) = _
  rw [h]
theorem lup_e {σ ρ : Type} {f : σ → Option (σ ⊕ ρ)} {fu : Nat} {s : σ} {r : ρ} (h : f s = some (.inr r)) : lupF f (fu + 1) s = some r := by
  show (match f s with
    | some (.inl s') => lupF f fu s'
    | some (.inr r) => some r
    | none => none) = _
  rw [h]
/-- what reading leaves: a fault, or its code behind the s steps -/
def COu (b : Nat → Nat) (t br s : Nat) (r : GT) (I I' : Nat → Nat → Int32) : Prop := (∀ j, r = .inl j → CBd b t (plN b t j) I') ∧ (∀ c m k' q', r = .inr (c, m, k', q') → CGd b t k' q' br (s + c.length) I' ∧ (∀ i, i < s → I' 3 i = I 3 i) ∧ AtC (I' 3) s c) ∧ CEx I I'
/-- the k-th token's meaning -/
def fT (b : Nat → Nat) (t k : Nat) : Nat := mnT b t (plN b t k)
section CSM
variable {O : mO} {u n : Nat} {T : Nat → mT} {J : Nat → Nat → Int64} {R : Nat → Nat → Option Nat} {b : Nat → Nat} {t : Nat} {md : Bool}
/-- a call of the class reads as sub does, with br brackets open -/
def CSub (O : mO) (u n : Nat) (T : Nat → mT) (J : Nat → Nat → Int64) (R : Nat → Nat → Option Nat) (b : Nat → Nat) (t : Nat) (md : Bool) (D : Nat) (M : mM) (as : List Value) (br : Nat) (sub : Nat → Nat → Option GT) : Prop :=
  ∀ k q s I r, CGd b t k q br s I → I 1 9 = bI md → s ≤ k → q ≤ 50 → sub k q = some r → ∃ I', ev O D M (.ref 1 :: as) (hp u n T I J R) = some (none, hp u n T I' J R) ∧ COu b t br s r I I'
theorem fT_lt {k : Nat} (h : fT b t k ≠ 4000) : k < tkN b t := by
  apply Nat.lt_of_not_le
  intro z
  apply h
  unfold fT mnT
  rw [plN_ge z, if_neg (Nat.lt_irrefl t)]
theorem c_sumLp (hS : St n T R) (hb : ∀ k, b k ≤ 255) (ht : t ≤ 400) {D lv br s : Nat} {I : Nat → Nat → Int32} (hl : lv = 1 ∨ lv = 2) {sub : Nat → Nat → Option GT} (hs : CSub O u n T J R b t md (D + 1) MX6_sum [.int (nI (2 - lv) + nI 1)] br sub) (hk : ∀ k q, k ≤ tkN b t → q ≤ 50 → gK md false (tkN b t) k q (sub k q)) : ∀ (m0 fu i : Nat) (c m : GC) (k q : Nat) (I1 : Nat → Nat → Int32) (r : GT), CGd b t k q br (s + c.length) I1 → AtC (I1 3) s c → (∀ i, i < s → I1 3 i = I 3 i) → CEx I I1 → I1 1 9 = bI md → s + c.length ≤ k → q ≤ 50 → i < k → m0 < fu → gLp (fT b t) lv sub m0 c m k q = some r → ∃ I', lupF (fun (q : Int32 × mH) => F_X6_sum_l43 O (D + 1) 1 (nI (2 - lv)) (nI (if lv = 2 then 5 else 7)) (nI (if lv = 2 then 6 else 9)) q.1 q.2) fu (nI i, hp u n T I1 J R) = some (hp u n T I' J R) ∧ COu b t br s r I I' := by
  have tl := tkN_le (b := b) (t := t)
  intro m0
  induction m0 with
  | zero =>
    intro fu i c m k q I1 r _ _ _ _ _ _ _ _ _ h
    cases h
  | succ m0 ih =>
    intro fu i c m k q I1 r hG hA hB hE h9 hsk hq hik hfu hr
    obtain ⟨fu, rfl⟩ : ∃ x, fu = x + 1 := ⟨fu - 1, by omega⟩
    have hG0 := hG
    obtain ⟨hC, hkT, h4, h5, h6, h7, h8, h2⟩ := hG
    have mle : fT b t k ≤ 4000 := mnT_le hb _
    have sl := sgO_le (fT b t k)
    have h5 : I1 1 5 = nI (fT b t k) := h5
    have cs := c_step (O := O) (d := D) (K := hp u n T I1 J R) mle
    unfold gLp at hr
    have e400 : ¬ nI 400 ≤ nI i := nI_ge (show i < 400 by omega) (by decide)
    have n1 : ∀ v, v ≤ 12 → (-1 : Int32) < nI v := by decide
    have hv2 : (if lv = 2 then 5 else 7) ≤ 12 := by split <;> decide
    by_cases h0 : lvO lv (fT b t k) = 0
    · rw [if_pos h0] at hr
      have hr := Option.some.inj hr
      refine ⟨I1, lup_e ?_, ?_⟩
      · show F_X6_sum_l43 O (D + 1) 1 (nI (2 - lv)) (nI (if lv = 2 then 5 else 7)) (nI (if lv = 2 then 6 else 9)) (nI i) (hp u n T I1 J R) = _
        unfold F_X6_sum_l43
        rw [if_neg e400, gi_1_5 hS, Option.bind_some, h5, cs, toI_i, Option.bind_some]
        dsimp only
        by_cases s0 : sgO (fT b t k) = 0
        · rw [if_pos s0, if_pos (n1 _ hv2)]
        · rw [if_neg s0]
          by_cases lo : sgO (fT b t k) < (if lv = 2 then 5 else 7)
          · rw [if_pos ((nI_ltI (by omega) (by omega)).mpr lo)]
          · have hi : (if lv = 2 then 6 else 9) < sgO (fT b t k) := by
              unfold lvO at h0
              rcases hl with rfl | rfl
              · rw [if_pos rfl] at h0
                rw [if_neg (by decide)] at lo ⊢
                by_cases z : 7 ≤ sgO (fT b t k) ∧ sgO (fT b t k) ≤ 9
                · rw [if_pos z] at h0
                  omega
                · omega
              · rw [if_neg (by decide), if_pos rfl] at h0
                rw [if_pos rfl] at lo ⊢
                by_cases z : 5 ≤ sgO (fT b t k) ∧ sgO (fT b t k) ≤ 6
                · rw [if_pos z] at h0
                  omega
                · omega
            rw [if_neg (fun z => lo ((nI_ltI (by omega) (by omega)).mp z)), gi_1_5 hS, Option.bind_some, h5, cs, toI_i, Option.bind_some, if_neg s0]
            dsimp only
            rw [if_pos ((nI_ltI (by split <;> decide) (by omega)).mpr hi)]
      · refine ⟨(fun j e => by rw [← hr] at e; cases e), fun c' m' k' q' e => ?_, hE⟩
        rw [← hr] at e
        cases e
        exact ⟨hG0, hB, hA⟩
    · rw [if_neg h0] at hr
      obtain ⟨l1, -, l3⟩ := lvO_all lv (fT b t k) h0
      obtain ⟨l1, l2, l4⟩ := l1 hl
      have hkl := fT_lt l3
      rw [l4] at hr
      have lo : ¬ sgO (fT b t k) < (if lv = 2 then 5 else 7) ∧ ¬ (if lv = 2 then 6 else 9) < sgO (fT b t k) := by
        unfold lvO at h0
        rcases hl with rfl | rfl
        · rw [if_pos rfl] at h0
          rw [if_neg (by decide), if_neg (by decide)]
          by_cases z : 7 ≤ sgO (fT b t k) ∧ sgO (fT b t k) ≤ 9
          · omega
          · rw [if_neg z] at h0
            exact absurd rfl h0
        · rw [if_neg (by decide), if_pos rfl] at h0
          rw [if_pos rfl, if_pos rfl]
          by_cases z : 5 ≤ sgO (fT b t k) ∧ sgO (fT b t k) ≤ 6
          · omega
          · rw [if_neg z] at h0
            exact absurd rfl h0
      have s0 : sgO (fT b t k) ≠ 0 := by omega
      obtain ⟨I2, t1, t2, t3, t4, t5⟩ := c_takeOk (O := O) (d := D) (u := u) (J := J) (x := nI (fT b t k)) hS ht hG0 hkl rfl
      have step : ∀ K16 p18, ev O (D + 1) MX6_sum [.ref 1, .int (nI (2 - lv) + nI 1)] (hp u n T I2 J R) = some (none, K16) → gtA K16 1 6 0 = some 2 → toI (vc O (D + 1) 5 MX5_add 2 [.int (nI (sgO (fT b t k))), .int (nI 0)] K16) = some p18 → F_X6_sum_l43 O (D + 1) 1 (nI (2 - lv)) (nI (if lv = 2 then 5 else 7)) (nI (if lv = 2 then 6 else 9)) (nI i) (hp u n T I1 J R) = some (.inl (nI (i + 1), p18.2)) := by
        intro K16 p18 g1 g2 g3
        unfold F_X6_sum_l43
        rw [if_neg e400, gi_1_5 hS, Option.bind_some, h5, cs, toI_i, Option.bind_some]
        dsimp only
        rw [if_neg s0, if_neg (fun z => lo.1 ((nI_ltI (by omega) (by omega)).mp z)), gi_1_5 hS, Option.bind_some, h5, cs, toI_i, Option.bind_some, if_neg s0]
        dsimp only
        rw [if_neg (fun z => lo.2 ((nI_ltI (by split <;> decide) (by omega)).mp z)), gi_1_5 hS, Option.bind_some, h5, cs, toI_i, Option.bind_some, if_neg s0]
        dsimp only
        rw [gi_1_5 hS, Option.bind_some, h5, vc_1 hS, t1, toV_v, Option.bind_some, vc_1 hS, g1, toV_v, Option.bind_some, g2, Option.bind_some, g3, Option.bind_some, nI_add]
      rcases hk (k + 1) q hkl hq with ⟨j, ej, j1, j2⟩ | ⟨e, l, k', q', er, r1, r2, r3, r4, r5, r6, r7, r8, r9⟩
      · rw [ej] at hr
        have hr : some (Sum.inl j) = some r := hr
        have hr := Option.some.inj hr
        obtain ⟨I3, s1, s2, s3, s4⟩ := hs (k + 1) q (s + c.length) I2 (.inl j) t2 (t3.2.1.trans h9) (by omega) hq ej
        obtain ⟨rr, I4, a1, a2, a3⟩ := c_addBd (O := O) (d := D) (u := u) (J := J) hS (s2 j rfl) (nI (sgO (fT b t k))) (nI 0)
        refine ⟨I4, (lup_c (step _ (rr, hp u n T I4 J R) s1 (ga_1_0 hS) (by rw [vc_2 hS, a1, toI_i]))).trans ?_, ⟨fun j' e => by rw [← hr] at e; cases e; exact a2, (fun _ _ _ _ e => by rw [← hr] at e; cases e), hE.trans (t3.trans (s4.trans a3))⟩⟩
        obtain ⟨fu, rfl⟩ : ∃ x, fu = x + 1 := ⟨fu - 1, by omega⟩
        apply lup_e
        show F_X6_sum_l43 O (D + 1) 1 (nI (2 - lv)) (nI (if lv = 2 then 5 else 7)) (nI (if lv = 2 then 6 else 9)) (nI (i + 1)) (hp u n T I4 J R) = _
        unfold F_X6_sum_l43
        by_cases z : 400 ≤ i + 1
        · rw [if_pos (nI_le z (by omega))]
        · rw [if_neg (nI_ge (show i + 1 < 400 by omega) (by decide)), gi_1_5 hS, Option.bind_some, a2.2.1, c_step (by decide), toI_i, Option.bind_some, if_pos (show sgO 4000 = 0 by decide)]
          dsimp only
          rw [if_pos (n1 _ hv2)]
      · rw [er] at hr
        have hr : gLp (fT b t) lv sub m0 (gJ (sgO (fT b t k)) c e) (gJm (sgO (fT b t k)) m l) k' q' = some r := hr
        obtain ⟨I3, s1, -, s3, s4⟩ := hs (k + 1) q (s + c.length) I2 _ t2 (t3.2.1.trans h9) (by omega) hq er
        obtain ⟨g1, g2, g3⟩ := s3 e l k' q' rfl
        have hl4 : s + c.length + e.length < 400 := by omega
        have av := c_addV (O := O) (d := D) (u := u) (J := J) hS g1.2.2.2.2.2.2.2 hl4 (nI (sgO (fT b t k))) (nI 0)
        have hJ : gJ (sgO (fT b t k)) c e = c ++ e ++ [(sgO (fT b t k), 0)] := if_neg (by omega)
        have hln : (gJ (sgO (fT b t k)) c e).length = c.length + e.length + 1 := by rw [hJ, List.length_append, List.length_append]; rfl
        obtain ⟨c1, c2, c3, c4, c5, c6, c7, c8⟩ := g1
        have o3 : ∀ j, j ≠ s + c.length + e.length → up2 (up2 I3 3 (s + c.length + e.length) (nI (sgO (fT b t k)) + nI 16 * nI 0)) 2 2 (nI (s + c.length + e.length + 1)) 3 j = I3 3 j := fun j hj => by rw [up2_na (by decide), up2_nk hj]
        have q3 : up2 (up2 I3 3 (s + c.length + e.length) (nI (sgO (fT b t k)) + nI 16 * nI 0)) 2 2 (nI (s + c.length + e.length + 1)) 3 (s + c.length + e.length) = cEn (s + c.length + e.length) (sgO (fT b t k), 0) := by
          rw [up2_na (by decide), up2_at, nI_mul, nI_add]
          unfold cEn
          rw [if_neg (show ¬ (sgO (fT b t k) = 3 ∨ sgO (fT b t k) = 4) by omega)]
        have o1 : up2 (up2 I3 3 (s + c.length + e.length) (nI (sgO (fT b t k)) + nI 16 * nI 0)) 2 2 (nI (s + c.length + e.length + 1)) 1 = I3 1 := by rw [up2_off _ _ _ (by decide), up2_off _ _ _ (by decide)]
        have cx : CEx I3 (up2 (up2 I3 3 (s + c.length + e.length) (nI (sgO (fT b t k)) + nI 16 * nI 0)) 2 2 (nI (s + c.length + e.length + 1))) := ⟨fun a _ h2 h3 => by rw [up2_off _ _ _ h2, up2_off _ _ _ h3], by rw [o1], by rw [up2_nk (by decide), up2_na (by decide)]⟩
        obtain ⟨I', f1, f2⟩ := ih fu (i + 1) (gJ (sgO (fT b t k)) c e) (gJm (sgO (fT b t k)) m l) k' q' (up2 (up2 I3 3 (s + c.length + e.length) (nI (sgO (fT b t k)) + nI 16 * nI 0)) 2 2 (nI (s + c.length + e.length + 1))) r
          ⟨CTk_cg c1 (by rw [up2_off _ _ _ (by decide), up2_off _ _ _ (by decide)]) (by rw [up2_off _ _ _ (by decide), up2_off _ _ _ (by decide)]) (by rw [o1]), c2, by rw [o1]; exact c3, by rw [o1]; exact c4, by rw [o1]; exact c5, by rw [o1]; exact c6, by rw [o1]; exact c7, by rw [up2_at, hln]; congr 1; omega⟩
          (by
            rw [hJ]
            refine (AtC_ap (c ++ e) s).mpr ⟨(AtC_ap c s).mpr ⟨AtC_cg c s (fun j j1 j2 => ?_) hA, AtC_cg e _ (fun j j1 j2 => o3 j (by omega)) g3⟩, ?_, trivial⟩
            · rw [o3 j (by omega), g2 j (by omega), t4]
            · rw [List.length_append, ← Nat.add_assoc]
              exact q3)
          (fun j hj => by rw [o3 j (by omega), g2 j (by omega), t4]; exact hB j hj)
          (hE.trans (t3.trans (s4.trans cx)))
          (cx.2.1.trans (s4.2.1.trans (t3.2.1.trans h9)))
          (by rw [hln]; omega) r4 (by omega) (by omega) hr
        exact ⟨I', (lup_c (step _ (nI (s + c.length + e.length), hp u n T (up2 (up2 I3 3 (s + c.length + e.length) (nI (sgO (fT b t k)) + nI 16 * nI 0)) 2 2 (nI (s + c.length + e.length + 1))) J R) s1 (ga_1_0 hS) (by rw [vc_2 hS, av, toI_i]))).trans f1, f2⟩
end CSM
