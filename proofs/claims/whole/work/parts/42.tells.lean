/-! the reference asks a law -/
theorem rk_cg {oc ac : Nat → Nat} {lf lf' : Nat → Nat → Int64} {last : Nat} (hl : ∀ k, k < last → oc k < 20 → lf (oc k) (ac k) = lf' (oc k) (ac k)) : ∀ (G k m : Nat) (X X' : Nat → Int64), (∀ j, j < m → X j = X' j) → rk oc ac lf last G k m X = rk oc ac lf' last G k m X' := by
  intro G
  induction G with
  | zero =>
    intro k m X X' h
    rfl
  | succ G ih =>
    intro k m X X' h
    have hu : ∀ (j : Nat) (v : Int64) (q : Nat), q < j + 1 → (∀ q, q < j → X q = X' q) → upK X j v q = upK X' j v q := by
      intro j v q hq hh
      by_cases e : q = j
      · rw [e, upK_at, upK_at]
      · rw [upK_ne e, upK_ne e]
        exact hh q (by omega)
    unfold rk
    by_cases h1 : last ≤ k
    · rw [if_pos h1, if_pos h1]
      by_cases h2 : m = 0
      · rw [if_pos h2, if_pos h2]
      · rw [if_neg h2, if_neg h2, h 0 (by omega)]
    · rw [if_neg h1, if_neg h1]
      by_cases h2 : oc k < 20
      · rw [if_pos h2, if_pos h2]
        by_cases h3 : m < 400
        · rw [if_pos h3, if_pos h3, hl k (by omega) h2]
          exact ih _ _ _ _ (fun j hj => hu m _ j hj h)
        · rw [if_neg h3, if_neg h3]
      · rw [if_neg h2, if_neg h2]
        by_cases h3 : oc k < 28
        · rw [if_pos h3, if_pos h3]
          by_cases h4 : m < 2
          · rw [if_pos h4, if_pos h4]
          · rw [if_neg h4, if_neg h4, h (m - 1) (by omega), h (m - 2) (by omega)]
            cases rj (oc k) (X' (m - 2)) (X' (m - 1)) with
            | none => rfl
            | some v => exact ih _ _ _ _ (fun j hj => hu (m - 2) _ j (by omega) (fun q hq => h q (by omega)))
        · rw [if_neg h3, if_neg h3]
          by_cases h4 : oc k = 28
          · rw [if_pos h4, if_pos h4]
            by_cases h5 : m = 0
            · rw [if_pos h5, if_pos h5]
            · rw [if_neg h5, if_neg h5, h (m - 1) (by omega)]
              exact ih _ _ _ _ (fun j hj => hu (m - 1) _ j (by omega) (fun q hq => h q (by omega)))
          · rw [if_neg h4, if_neg h4]
            by_cases h5 : m = 0
            · rw [if_pos h5, if_pos h5]
            · rw [if_neg h5, if_neg h5, h (m - 1) (by omega)]
              generalize (if oc k = 29 then (0 : Int64) else 1) = zz
              split
              · exact ih _ _ _ _ h
              · exact ih _ _ _ _ (fun j hj => h j (by omega))
/-- a place of the row, as a number -/
def nv (w : Nat → Int32) (k : Nat) : Nat := (w k).toNatClampNeg
def ocR (w : Nat → Int32) (lb k : Nat) : Nat := nv w (lb + 98 + 2 * k)
def acR (w : Nat → Int32) (lb k : Nat) : Nat := nv w (lb + 98 + 2 * k + 1)
def lfL (S : Nat → Int64) (o a : Nat) : Int64 := if o = 0 then (nI a).toInt64 else S o
theorem lfF_false {S Y : Nat → Int64} {w : Nat → Int32} {D F : Nat} : lfF false S Y w D F = lfL S := by
  funext o a
  unfold lfF lfL
  split
  · rfl
  · rfl
/-- what the law's code from a to b tells, for the words S -/
def rkS (w : Nat → Int32) (lb : Nat) (S : Nat → Int64) (a b : Nat) : Option (Option Int64) := rk (ocR w lb) (acR w lb) (lfL S) b 401 a 0 (fun _ => 0)
/-- the law at lb is sound -/
def LwM (w : Nat → Int32) (lb : Nat) : Prop := ∃ cc nc, cc ≤ 12 ∧ nc ≤ 400 ∧ w (lb + 1) = nI cc ∧ (∀ k, k < nc → ∃ o a, w (lb + 98 + 2 * k) = nI o ∧ w (lb + 98 + 2 * k + 1) = nI a ∧ o ≤ 30 ∧ a ≤ 1000 ∧ (o < 20 → o ≤ 9)) ∧ (∀ c, c < cc → ∃ k, k ≤ 3 ∧ w (lb + 2 + 8 * c) = nI k) ∧ (∀ c j, c < cc → 3 ≤ j → j ≤ 6 → ∃ a, a ≤ nc ∧ w (lb + 2 + 8 * c + j) = nI a) ∧
  (∀ (S : Nat → Int64) (c : Nat), c < cc → (∃ x, rkS w lb S (nv w (lb + 2 + 8 * c + 3)) (nv w (lb + 2 + 8 * c + 4)) = some x) ∧ (∃ x, rkS w lb S (nv w (lb + 2 + 8 * c + 5)) (nv w (lb + 2 + 8 * c + 6)) = some x))
/-- does the clause's test hold -/
def teR (w : Nat → Int32) (lb : Nat) (S : Nat → Int64) (c : Nat) : Bool := if nv w (lb + 2 + 8 * c + 5) < nv w (lb + 2 + 8 * c + 6) then (match rkS w lb S (nv w (lb + 2 + 8 * c + 5)) (nv w (lb + 2 + 8 * c + 6)) with
  | some (some v) => decide (v ≠ 0)
  | _ => false) else true
/-- what the clause tells, if it holds -/
def soR (w : Nat → Int32) (lb : Nat) (S : Nat → Int64) (c : Nat) : Option Int64 := if teR w lb S c = true then (if w (lb + 2 + 8 * c) = nI 3 then some 1 else (rkS w lb S (nv w (lb + 2 + 8 * c + 3)) (nv w (lb + 2 + 8 * c + 4))).getD none) else none
def teF (w : Nat → Int32) (lb : Nat) (S : Nat → Int64) (head : Int32) (x : Int64) : Nat → Int64
  | 0 => x
  | c + 1 => if w (lb + 2 + 8 * c) = head ∧ (soR w lb S c).isSome = true then (soR w lb S c).getD 0 else teF w lb S head x c
/-- what the law in force tells -/
def telR (w : Nat → Int32) (S : Nat → Int64) (head : Int32) (x : Int64) : Int64 := if w 5 = -1 then x else teF w (110 + 900 * nv w 5) S head x (nv w (110 + 900 * nv w 5 + 1))
section TLS
variable {O : mO} {d u n : Nat} {T : Nat → mT} {I : Nat → Nat → Int32} {J : Nat → Nat → Int64} {R : Nat → Nat → Option Nat} {q l D F : Nat} {S : Nat → Int64}
/-- the reference, with a law to be asked -/
def MdL (n : Nat) (T : Nat → mT) (I : Nat → Nat → Int32) (R : Nat → Nat → Option Nat) (q D F : Nat) : Prop := IsM n T R q ∧ I q 20 = nI 0 ∧ I (q + 2) 2 = nI D ∧ D ≤ 8 ∧ I (q + 2) 1 = nI F ∧ F ≤ 4
theorem SxM_up38 {b : Int32} {X : Nat → Int64} {v : Int64} : SxM q I (up2 I q 38 b) J (up2 (up1 J (q + 20) X) q 39 v) := ⟨fun a h => up2_off _ _ _ h, fun k _ h => up2_nk h, fun a h1 _ h3 => by rw [up2_off _ _ _ h1, up1_na h3], fun k hk _ => by rw [up2_nk hk, up1_na (by omega)]⟩
theorem SxM_L {I' : Nat → Nat → Int32} {J' : Nat → Nat → Int64} (h : SxM q I I' J J') (hL : MdL n T I R q D F) : MdL n T I' R q D F := by
  obtain ⟨h1, h2, h3, h4, h5, h6⟩ := hL
  exact ⟨h1, by rw [h.2.1 20 (by decide) (by decide)]; exact h2, by rw [h.1 (q + 2) (by omega)]; exact h3, h4, by rw [h.1 (q + 2) (by omega)]; exact h5, h6⟩
theorem k_rkS {a b lb : Nat} {x : Option Int64} (hL : MdL n T I R q D F) (hn : n ≤ oB) (hlb : I q 34 = nI lb) (hlb2 : lb + 900 ≤ 5510) {nc : Nat} (hnc : nc ≤ 400) (hcode : ∀ k, k < nc → ∃ o a, I (q + 2) (lb + 98 + 2 * k) = nI o ∧ I (q + 2) (lb + 98 + 2 * k + 1) = nI a ∧ o ≤ 30 ∧ a ≤ 1000 ∧ (o < 20 → o ≤ 9)) (ha : a ≤ nc) (hb : b ≤ nc) (hS : ∀ o, 1 ≤ o → o ≤ 9 → J (q + 18) o = S o) (hx : rkS (I (q + 2)) lb S a b = some x) :
    Rn O (d + 2) MX11_reckonAll [.ref q, .int (nI a), .int (nI b)] (hp u n T I J R) (fun r K' => r = none ∧ ∃ X' v, (∀ w, x = some w → v = w) ∧ K' = hp u n T (up2 I q 38 (bI x.isNone)) (up2 (up1 J (q + 20) X') q 39 v) R) := by
  obtain ⟨h1, h2, h3, h4, h5, h6⟩ := hL
  refine k_reckonAll (md := false) (lb := lb) (D := D) (F := F) (oc := ocR (I (q + 2)) lb) (ac := acR (I (q + 2)) lb) (G := 401) h1 hn ⟨h2, fun _ => hlb, hlb2, by omega, h3, h4, h5, h6, ?_⟩ (by omega) ?_
  · intro k hk
    obtain ⟨o, c, g1, g2, g3, g4, g5⟩ := hcode k (by omega)
    have e1 : ocR (I (q + 2)) lb k = o := by unfold ocR nv; rw [g1, nI_clamp (by omega)]
    have e2 : acR (I (q + 2)) lb k = c := by unfold acR nv; rw [g2, nI_clamp (by omega)]
    rw [e1, e2]
    exact ⟨g3, g4, fun h => by rw [if_neg (by decide)]; have := g5 h; omega, fun _ => ⟨g1, g2⟩, fun h => by cases h⟩
  · rw [← hx, lfF_false]
    unfold rkS
    refine rk_cg (fun k hk ho => ?_) _ _ _ _ _ (fun j hj => absurd hj (Nat.not_lt_zero j))
    obtain ⟨o, c, g1, g2, g3, g4, g5⟩ := hcode k (by omega)
    have e1 : ocR (I (q + 2)) lb k = o := by unfold ocR nv; rw [g1, nI_clamp (by omega)]
    rw [e1] at ho ⊢
    unfold lfL
    split
    · rfl
    · exact hS o (by omega) (by have := g5 ho; omega)
theorem k_isSo {c l : Nat} (hL : MdL n T I R q D F) (hn : n ≤ oB) (hl : l < 6) (hlb : I q 34 = nI (110 + 900 * l)) (hw : LwM (I (q + 2)) (110 + 900 * l)) (hc : c < nv (I (q + 2)) (110 + 900 * l + 1)) (hS : ∀ o, 1 ≤ o → o ≤ 9 → J (q + 18) o = S o) :
    Rn O (d + 3) MX11_isSo [.ref q, .int (nI (110 + 900 * l + 2 + 8 * c))] (hp u n T I J R) (fun r K' => r = some (.int (bI (soR (I (q + 2)) (110 + 900 * l) S c).isSome)) ∧ ∃ I' J', K' = hp u n T I' J' R ∧ SxM q I I' J J' ∧ I' q 34 = I q 34 ∧ J' (q + 18) = J (q + 18) ∧ (∀ v, soR (I (q + 2)) (110 + 900 * l) S c = some v → I (q + 2) (110 + 900 * l + 2 + 8 * c) ≠ nI 3 → J' q 40 = v)) := by
  obtain ⟨cc, nc, hcc, hnc, hw1, hcode, hkind, hpt, hrk⟩ := hw
  have ecc : nv (I (q + 2)) (110 + 900 * l + 1) = cc := by unfold nv; rw [hw1, nI_clamp (by omega)]
  rw [ecc] at hc
  obtain ⟨a3, ha3, e3⟩ := hpt c 3 hc (by decide) (by decide)
  obtain ⟨a4, ha4, e4⟩ := hpt c 4 hc (by decide) (by decide)
  obtain ⟨a5, ha5, e5⟩ := hpt c 5 hc (by decide) (by decide)
  obtain ⟨a6, ha6, e6⟩ := hpt c 6 hc (by decide) (by decide)
  obtain ⟨kk, hkk, ek⟩ := hkind c hc
  obtain ⟨⟨xs, hxs⟩, ⟨xt, hxt⟩⟩ := hrk S c hc
  have n3 : nv (I (q + 2)) (110 + 900 * l + 2 + 8 * c + 3) = a3 := by unfold nv; rw [e3, nI_clamp (by omega)]
  have n4 : nv (I (q + 2)) (110 + 900 * l + 2 + 8 * c + 4) = a4 := by unfold nv; rw [e4, nI_clamp (by omega)]
  have n5 : nv (I (q + 2)) (110 + 900 * l + 2 + 8 * c + 5) = a5 := by unfold nv; rw [e5, nI_clamp (by omega)]
  have n6 : nv (I (q + 2)) (110 + 900 * l + 2 + 8 * c + 6) = a6 := by unfold nv; rw [e6, nI_clamp (by omega)]
  unfold soR teR
  rw [n3, n4, n5, n6]
  rw [n3, n4] at hxs
  rw [n5, n6] at hxt
  have hL0 := hL
  obtain ⟨hM, h2, h3, h4, h5, h6⟩ := hL
  obtain ⟨⟨t0, hg⟩, ⟨t1, t2, -⟩, ⟨r2, r3, -⟩⟩ := hM
  have eq2 : q + 2 ≠ q := by omega
  have eq18 : q + 18 ≠ q := by omega
  have eq1820 : q + 18 ≠ q + 20 := by omega
  show Go O (d + 2 + 1) MX11_isSo 0 [some (.ref q), some (.int (nI (110 + 900 * l + 2 + 8 * c)))] [] _ _
  -- behind the test
  have sum : ∀ (I1 : Nat → Nat → Int32) (J1 : Nat → Nat → Int64), SxM q I I1 J J1 → I1 q 34 = I q 34 → J1 (q + 18) = J (q + 18) → Go O (d + 2 + 1) MX11_isSo 59 [some (.ref q), some (.int (nI (110 + 900 * l + 2 + 8 * c)))] [] (hp u n T I1 J1 R) (fun r K' => r = some (.int (bI (if I (q + 2) (110 + 900 * l + 2 + 8 * c) = nI 3 then some 1 else (rkS (I (q + 2)) (110 + 900 * l) S a3 a4).getD none).isSome)) ∧ ∃ I' J', K' = hp u n T I' J' R ∧ SxM q I I' J J' ∧ I' q 34 = I q 34 ∧ J' (q + 18) = J (q + 18) ∧ (∀ v, (if I (q + 2) (110 + 900 * l + 2 + 8 * c) = nI 3 then some 1 else (rkS (I (q + 2)) (110 + 900 * l) S a3 a4).getD none) = some v → I (q + 2) (110 + 900 * l + 2 + 8 * c) ≠ nI 3 → J' q 40 = v)) := by
    intro I1 J1 hs hs34 hs18
    have hI : I1 (q + 2) = I (q + 2) := hs.1 _ eq2
    have ck := k_rkS (O := O) (d := d) (u := u) (I := I1) (J := J1) (S := S) (x := xs) (SxM_L hs hL0) hn (hs34.trans hlb) (by omega) hnc (by rw [hI]; exact hcode) ha3 ha4 (by rw [hs18]; exact hS) (by rw [hI]; exact hxs)
    first | refine g_aload_n dX11_isSo_59 rfl ?_ | refine g_aload_nN dX11_isSo_59 rfl ?_
    refine g_getR dX11_isSo_60 fX11_13 (by assumption) rfl (by assumption) (by omega) hn ?_
    refine g_iload_n dX11_isSo_63 rfl ?_
    refine g_iald dX11_isSo_64 (by assumption) rfl (by omega) (by omega) (by omega) hn ?_
    rw [hI]
    refine g_iconst (v := nI 3) dX11_isSo_65 (by decide) ?_
    refine g_ic_eq (t := 110) dX11_isSo_66 (by decide) (fun e => ?_) (fun e => ?_)
    · rw [if_pos e]
      refine g_iconst (v := nI 1) dX11_isSo_110 (by decide) ?_
      exact g_ireturn dX11_isSo_111 rfl (by decide) ⟨rfl, I1, J1, rfl, hs, hs34, hs18, fun v _ h => absurd e h⟩
    · rw [if_neg e, hxs]
      first | refine g_aload_n dX11_isSo_69 rfl ?_ | refine g_aload_nN dX11_isSo_69 rfl ?_
      first | refine g_aload_n dX11_isSo_70 rfl ?_ | refine g_aload_nN dX11_isSo_70 rfl ?_
      refine g_getR dX11_isSo_71 fX11_13 (by assumption) rfl (by assumption) (by omega) hn ?_
      refine g_iload_n dX11_isSo_74 rfl ?_
      refine g_iconst (v := nI 3) dX11_isSo_75 (by decide) ?_
      first | refine g_iaddN dX11_isSo_76 ?_ | refine g_iadd dX11_isSo_76 ?_
      refine g_iald dX11_isSo_77 (by assumption) rfl (by omega) (by omega) (by omega) hn ?_
      rw [hI, e3]
      first | refine g_aload_n dX11_isSo_78 rfl ?_ | refine g_aload_nN dX11_isSo_78 rfl ?_
      refine g_getR dX11_isSo_79 fX11_13 (by assumption) rfl (by assumption) (by omega) hn ?_
      refine g_iload_n dX11_isSo_82 rfl ?_
      refine g_iconst (v := nI 4) dX11_isSo_83 (by decide) ?_
      first | refine g_iaddN dX11_isSo_84 ?_ | refine g_iadd dX11_isSo_84 ?_
      refine g_iald dX11_isSo_85 (by assumption) rfl (by omega) (by omega) (by omega) hn ?_
      rw [hI, e4]
      refine g_virt (Z := MX11_reckonAll) dX11_isSo_86 mX11_412.1 mX11_412.2 (Nat.le_of_ble_eq_true rfl) rfl rfl (Nat.le_of_ble_eq_true rfl) (Nat.le_of_ble_eq_true rfl) (by assumption) rfl rfl (by omega) hn (ck) ?_
      rintro _ _ ⟨rfl, X', v, hv, rfl⟩
      try dsimp only [Option.toList, List.cons_append, List.nil_append]
      first | refine g_aload_n dX11_isSo_89 rfl ?_ | refine g_aload_nN dX11_isSo_89 rfl ?_
      first | refine g_aload_n dX11_isSo_90 rfl ?_ | refine g_aload_nN dX11_isSo_90 rfl ?_
      refine g_getJ dX11_isSo_91 fX11_409 (by assumption) rfl (by omega) hn ?_
      rw [up2_at]
      refine g_putJ (c := (RX11, TX11, 56)) dX11_isSo_94 fX11_415 (by assumption) rfl rfl rfl rfl (fun h => absurd h (by decide)) (by omega) hn ?_
      first | refine g_aload_n dX11_isSo_97 rfl ?_ | refine g_aload_nN dX11_isSo_97 rfl ?_
      refine g_getI dX11_isSo_98 fX11_395 (by assumption) rfl (by omega) hn ?_
      rw [up2_at]
      have hs2 : SxM q I1 (up2 I1 q 38 (bI xs.isNone)) J1 (up2 (up2 (up1 J1 (q + 20) X') q 39 v) q 40 v) := ⟨fun a h => up2_off _ _ _ h, fun k _ h => up2_nk h, fun a h1 _ h3 => by rw [up2_off _ _ _ h1, up2_off _ _ _ h1, up1_na h3], fun k h1 h2 => by rw [up2_nk h2, up2_nk h1, up1_na (by omega)]⟩
      have hfin : ∀ w, (some xs).getD none = some w → I (q + 2) (110 + 900 * l + 2 + 8 * c) ≠ nI 3 → up2 (up2 (up1 J1 (q + 20) X') q 39 v) q 40 v q 40 = w := fun w hw _ => by rw [up2_at]; exact hv w hw
      have h18 : up2 (up2 (up1 J1 (q + 20) X') q 39 v) q 40 v (q + 18) = J (q + 18) := by rw [up2_off _ _ _ eq18, up2_off _ _ _ eq18, up1_na eq1820, hs18]
      cases hx : xs with
      | none =>
        rw [hx] at hs2 hfin
        refine g_if_ne (t := 108) dX11_isSo_101 (by decide) (fun z => ?_) (fun z => by exfalso; first | omega | exact absurd rfl z | exact absurd z (by decide) | exact z (by decide) | exact absurd z (by assumption) | exact absurd (by assumption) z)
        refine g_iconst (v := nI 0) dX11_isSo_108 (by decide) ?_
        exact g_ireturn dX11_isSo_109 rfl (by decide) ⟨rfl, _, _, rfl, hs.trans hs2, by rw [up2_nk (by decide)]; exact hs34, h18, hfin⟩
      | some w =>
        rw [hx] at hs2 hfin
        refine g_if_ne (t := 108) dX11_isSo_101 (by decide) (fun z => by exfalso; first | omega | exact absurd rfl z | exact absurd z (by decide) | exact z (by decide) | exact absurd z (by assumption) | exact absurd (by assumption) z) (fun z => ?_)
        refine g_iconst (v := nI 1) dX11_isSo_104 (by decide) ?_
        refine g_goto (t := 109) dX11_isSo_105 (by decide) ?_
        exact g_ireturn dX11_isSo_109 rfl (by decide) ⟨rfl, _, _, rfl, hs.trans hs2, by rw [up2_nk (by decide)]; exact hs34, h18, hfin⟩
  first | refine g_aload_n dX11_isSo_0 rfl ?_ | refine g_aload_nN dX11_isSo_0 rfl ?_
  refine g_getR dX11_isSo_1 fX11_13 (by assumption) rfl (by assumption) (by omega) hn ?_
  refine g_iload_n dX11_isSo_4 rfl ?_
  refine g_iconst (v := nI 5) dX11_isSo_5 (by decide) ?_
  first | refine g_iaddN dX11_isSo_6 ?_ | refine g_iadd dX11_isSo_6 ?_
  refine g_iald dX11_isSo_7 (by assumption) rfl (by omega) (by omega) (by omega) hn ?_
  rw [e5]
  first | refine g_aload_n dX11_isSo_8 rfl ?_ | refine g_aload_nN dX11_isSo_8 rfl ?_
  refine g_getR dX11_isSo_9 fX11_13 (by assumption) rfl (by assumption) (by omega) hn ?_
  refine g_iload_n dX11_isSo_12 rfl ?_
  refine g_bipush (v := nI 6) dX11_isSo_13 (by decide) ?_
  first | refine g_iaddN dX11_isSo_15 ?_ | refine g_iadd dX11_isSo_15 ?_
  refine g_iald dX11_isSo_16 (by assumption) rfl (by omega) (by omega) (by omega) hn ?_
  rw [e6]
  by_cases h56 : a5 < a6
  · rw [if_pos h56]
    refine g_icN_ge (t := 59) dX11_isSo_17 (by decide) (by omega) (by omega) (fun z => by exfalso; first | omega | exact absurd rfl z | exact absurd z (by decide) | exact z (by decide) | exact absurd z (by assumption) | exact absurd (by assumption) z) (fun z => ?_)
    first | refine g_aload_n dX11_isSo_20 rfl ?_ | refine g_aload_nN dX11_isSo_20 rfl ?_
    first | refine g_aload_n dX11_isSo_21 rfl ?_ | refine g_aload_nN dX11_isSo_21 rfl ?_
    refine g_getR dX11_isSo_22 fX11_13 (by assumption) rfl (by assumption) (by omega) hn ?_
    refine g_iload_n dX11_isSo_25 rfl ?_
    refine g_iconst (v := nI 5) dX11_isSo_26 (by decide) ?_
    first | refine g_iaddN dX11_isSo_27 ?_ | refine g_iadd dX11_isSo_27 ?_
    refine g_iald dX11_isSo_28 (by assumption) rfl (by omega) (by omega) (by omega) hn ?_
    rw [e5]
    first | refine g_aload_n dX11_isSo_29 rfl ?_ | refine g_aload_nN dX11_isSo_29 rfl ?_
    refine g_getR dX11_isSo_30 fX11_13 (by assumption) rfl (by assumption) (by omega) hn ?_
    refine g_iload_n dX11_isSo_33 rfl ?_
    refine g_bipush (v := nI 6) dX11_isSo_34 (by decide) ?_
    first | refine g_iaddN dX11_isSo_36 ?_ | refine g_iadd dX11_isSo_36 ?_
    refine g_iald dX11_isSo_37 (by assumption) rfl (by omega) (by omega) (by omega) hn ?_
    rw [e6]
    refine g_virt (Z := MX11_reckonAll) dX11_isSo_38 mX11_412.1 mX11_412.2 (Nat.le_of_ble_eq_true rfl) rfl rfl (Nat.le_of_ble_eq_true rfl) (Nat.le_of_ble_eq_true rfl) (by assumption) rfl rfl (by omega) hn (k_rkS (d := d) (S := S) (x := xt) hL0 hn hlb (by omega) hnc hcode ha5 ha6 hS hxt) ?_
    rintro _ _ ⟨rfl, X', v, hv, rfl⟩
    try dsimp only [Option.toList, List.cons_append, List.nil_append]
    first | refine g_aload_n dX11_isSo_41 rfl ?_ | refine g_aload_nN dX11_isSo_41 rfl ?_
    refine g_getI dX11_isSo_42 fX11_395 (by assumption) rfl (by omega) hn ?_
    rw [up2_at, hxt]
    have h18 : up2 (up1 J (q + 20) X') q 39 v (q + 18) = J (q + 18) := by rw [up2_off _ _ _ eq18, up1_na eq1820]
    have ret0 : ∀ b, Go O (d + 2 + 1) MX11_isSo 57 [some (.ref q), some (.int (nI (110 + 900 * l + 2 + 8 * c)))] [] (hp u n T (up2 I q 38 b) (up2 (up1 J (q + 20) X') q 39 v) R) (fun r K' => r = some (.int (bI (none : Option Int64).isSome)) ∧ ∃ I' J', K' = hp u n T I' J' R ∧ SxM q I I' J J' ∧ I' q 34 = I q 34 ∧ J' (q + 18) = J (q + 18) ∧ (∀ v, (none : Option Int64) = some v → I (q + 2) (110 + 900 * l + 2 + 8 * c) ≠ nI 3 → J' q 40 = v)) := by
      intro b
      refine g_iconst (v := nI 0) dX11_isSo_57 (by decide) ?_
      exact g_ireturn dX11_isSo_58 rfl (by decide) ⟨rfl, _, _, rfl, SxM_up38, up2_nk (by decide), h18, fun _ h => by cases h⟩
    cases hx : xt with
    | none =>
      refine g_if_ne (t := 57) dX11_isSo_45 (by decide) (fun z => ?_) (fun z => by exfalso; first | omega | exact absurd rfl z | exact absurd z (by decide) | exact z (by decide) | exact absurd z (by assumption) | exact absurd (by assumption) z)
      exact ret0 _
    | some w =>
      have hvw := hv w hx
      subst hvw
      refine g_if_ne (t := 57) dX11_isSo_45 (by decide) (fun z => by exfalso; first | omega | exact absurd rfl z | exact absurd z (by decide) | exact z (by decide) | exact absurd z (by assumption) | exact absurd (by assumption) z) (fun z => ?_)
      first | refine g_aload_n dX11_isSo_48 rfl ?_ | refine g_aload_nN dX11_isSo_48 rfl ?_
      refine g_getJ dX11_isSo_49 fX11_409 (by assumption) rfl (by omega) hn ?_
      refine g_lconst (v := 0) dX11_isSo_52 (by decide) ?_
      refine g_lcmp dX11_isSo_53 ?_
      rw [up2_at]
      refine g_if_ne (t := 59) dX11_isSo_54 (by decide) (fun y => ?_) (fun y => ?_)
      · have hne : v ≠ 0 := fun h => y ((lg_cmp_eq _ _).mpr h)
        dsimp only
        rw [if_pos (decide_eq_true hne)]
        exact sum _ _ SxM_up38 (up2_nk (by decide)) h18
      · have h0 : v = 0 := (lg_cmp_eq _ _).mp y
        dsimp only
        rw [if_neg (by rw [h0]; decide)]
        exact ret0 _
  · rw [if_neg h56, if_pos rfl]
    refine g_icN_ge (t := 59) dX11_isSo_17 (by decide) (by omega) (by omega) (fun z => ?_) (fun z => by exfalso; first | omega | exact absurd rfl z | exact absurd z (by decide) | exact z (by decide) | exact absurd z (by assumption) | exact absurd (by assumption) z)
    exact sum I J (SxM.refl I J) rfl rfl
theorem k_tells {h : Nat} {x : Int64} (hL : MdL n T I R q D F) (hn : n ≤ oB) (hf : I (q + 2) 5 = -1 ∨ ∃ l, l < 6 ∧ I (q + 2) 5 = nI l ∧ LwM (I (q + 2)) (110 + 900 * l)) (hS : ∀ o, 1 ≤ o → o ≤ 7 → J (q + 18) o = S o) (h8 : S 8 = (I (q + 2) 6).toInt64) (h9 : S 9 = (I (q + 2) 8).toInt64) (hh : h ≤ 3) (hx3 : h = 3 → x = 0 ∨ x = 1) :
    Rn O (d + 4) MX11_tells [.ref q, .int (nI h), .long x] (hp u n T I J R) (fun r K' => r = some (.long (telR (I (q + 2)) S (nI h) x)) ∧ ∃ I' J', K' = hp u n T I' J' R ∧ SxM q I I' J J') := by
  have hL0 := hL
  obtain ⟨hM, h2, h3, h4, h5, h6⟩ := hL
  obtain ⟨⟨t0, hg⟩, ⟨t1, t2, t3, t4, t5, t6, t7, t8, t9, t10, t11, t12, t13, t14, t15, t16, t17, t18, t19, t20, -⟩, ⟨r2, r3, r4, r5, r6, r7, r9, r10, r12, r22, r24, r25, r27, r28, r31, r32, r33, r35, r36, r37, -⟩⟩ := hM
  have eq2 : q + 2 ≠ q := by omega
  unfold telR
  show Go O (d + 3 + 1) MX11_tells 0 [some (.ref q), some (.int (nI h)), some (.long x), none, none, none, none, none] [] _ _
  first | refine g_aload_n dX11_tells_0 rfl ?_ | refine g_aload_nN dX11_tells_0 rfl ?_
  refine g_getR dX11_tells_1 fX11_13 (by assumption) rfl (by assumption) (by omega) hn ?_
  refine g_iconst (v := nI 5) dX11_tells_4 (by decide) ?_
  refine g_iald dX11_tells_5 (by assumption) rfl (by omega) (by omega) (by omega) hn ?_
  refine g_iconst (v := -1) dX11_tells_6 (by decide) ?_
  rcases hf with hf | ⟨l, hl, hf, hw⟩
  · rw [hf, if_pos rfl]
    refine g_ic_ne (t := 12) dX11_tells_7 (by decide) (fun z => absurd rfl z) (fun z => ?_)
    refine g_lload_n dX11_tells_10 rfl ?_
    exact g_lreturn dX11_tells_11 rfl ⟨rfl, I, J, rfl, SxM.refl I J⟩
  · have hne : ¬ I (q + 2) 5 = -1 := by
      rw [hf]
      exact fun z => absurd (show nI l < 0 by rw [z]; decide) (nI_pos (by omega))
    have ev : nv (I (q + 2)) 5 = l := by unfold nv; rw [hf, nI_clamp (by omega)]
    have hw0 := hw
    obtain ⟨cc, nc, hcc, hnc, hw1, hcode, hkind, hpt, hrk⟩ := hw
    have ecc : nv (I (q + 2)) (110 + 900 * l + 1) = cc := by unfold nv; rw [hw1, nI_clamp (by omega)]
    rw [if_neg hne, ev, ecc]
    refine g_ic_ne (t := 12) dX11_tells_7 (by decide) (fun z => ?_) (fun z => absurd z hne)
    first | refine g_aload_n dX11_tells_12 rfl ?_ | refine g_aload_nN dX11_tells_12 rfl ?_
    refine g_bipush (v := nI 110) dX11_tells_13 (by decide) ?_
    refine g_sipush (v := nI 900) dX11_tells_15 (by decide) ?_
    first | refine g_aload_n dX11_tells_18 rfl ?_ | refine g_aload_nN dX11_tells_18 rfl ?_
    refine g_getR dX11_tells_19 fX11_13 (by assumption) rfl (by assumption) (by omega) hn ?_
    refine g_iconst (v := nI 5) dX11_tells_22 (by decide) ?_
    refine g_iald dX11_tells_23 (by assumption) rfl (by omega) (by omega) (by omega) hn ?_
    rw [hf]
    first | refine g_imulN dX11_tells_24 ?_ | refine g_imul dX11_tells_24 ?_
    first | refine g_iaddN dX11_tells_25 ?_ | refine g_iadd dX11_tells_25 ?_
    refine g_putI (c := (RX11, TX11, 56)) dX11_tells_26 fX11_398 (by assumption) rfl rfl rfl rfl (fun h => absurd h (by decide)) (by omega) hn ?_
    first | refine g_aload_n dX11_tells_29 rfl ?_ | refine g_aload_nN dX11_tells_29 rfl ?_
    refine g_getR dX11_tells_30 fX11_99 (by assumption) rfl (by assumption) (by omega) hn ?_
    refine g_bipush (v := nI 8) dX11_tells_33 (by decide) ?_
    first | refine g_aload_n dX11_tells_35 rfl ?_ | refine g_aload_nN dX11_tells_35 rfl ?_
    refine g_getR dX11_tells_36 fX11_13 (by assumption) rfl (by assumption) (by omega) hn ?_
    refine g_bipush (v := nI 6) dX11_tells_39 (by decide) ?_
    refine g_iald dX11_tells_41 (by assumption) rfl (by omega) (by omega) (by omega) hn ?_
    rw [up2_na eq2]
    refine g_i2l dX11_tells_42 ?_
    refine g_last dX11_tells_43 (by assumption) rfl (by omega) (by omega) (by omega) hn ?_
    first | refine g_aload_n dX11_tells_44 rfl ?_ | refine g_aload_nN dX11_tells_44 rfl ?_
    refine g_getR dX11_tells_45 fX11_99 (by assumption) rfl (by assumption) (by omega) hn ?_
    refine g_bipush (v := nI 9) dX11_tells_48 (by decide) ?_
    first | refine g_aload_n dX11_tells_50 rfl ?_ | refine g_aload_nN dX11_tells_50 rfl ?_
    refine g_getR dX11_tells_51 fX11_13 (by assumption) rfl (by assumption) (by omega) hn ?_
    refine g_bipush (v := nI 8) dX11_tells_54 (by decide) ?_
    refine g_iald dX11_tells_56 (by assumption) rfl (by omega) (by omega) (by omega) hn ?_
    rw [up2_na eq2]
    refine g_i2l dX11_tells_57 ?_
    refine g_last dX11_tells_58 (by assumption) rfl (by omega) (by omega) (by omega) hn ?_
    refine g_lload_n dX11_tells_59 rfl ?_
    refine g_lstore (ls' := [_, _, _, _, some (.long _), none, _, _]) dX11_tells_60 (by decide) rfl ?_
    refine g_iconst (v := nI 0) dX11_tells_62 (by decide) ?_
    refine g_istore (ls' := [_, _, _, _, _, _, some (.int _), _]) dX11_tells_63 (by decide) rfl ?_
    have key : ∀ m c, c + m = cc → ∀ (I1 : Nat → Nat → Int32) (J1 : Nat → Nat → Int64) (l7 : Option Value) (y : Int64), y = teF (I (q + 2)) (110 + 900 * l) S (nI h) x c → SxM q I I1 J J1 → I1 q 34 = nI (110 + 900 * l) → (∀ o, 1 ≤ o → o ≤ 9 → J1 (q + 18) o = S o) → Go O (d + 3 + 1) MX11_tells 65 [some (.ref q), some (.int (nI h)), some (.long x), none, some (.long y), none, some (.int (nI c)), l7] [] (hp u n T I1 J1 R) (fun r K' => r = some (.long (teF (I (q + 2)) (110 + 900 * l) S (nI h) x cc)) ∧ ∃ I' J', K' = hp u n T I' J' R ∧ SxM q I I' J J') := by
      intro m
      induction m with
      | zero =>
        intro c hc I1 J1 l7 y hy hs h34 h18
        have hI : I1 (q + 2) = I (q + 2) := hs.1 _ eq2
        refine g_iload dX11_tells_65 rfl ?_
        first | refine g_aload_n dX11_tells_67 rfl ?_ | refine g_aload_nN dX11_tells_67 rfl ?_
        refine g_getR dX11_tells_68 fX11_13 (by assumption) rfl (by assumption) (by omega) hn ?_
        first | refine g_aload_n dX11_tells_71 rfl ?_ | refine g_aload_nN dX11_tells_71 rfl ?_
        refine g_getI dX11_tells_72 fX11_398 (by assumption) rfl (by omega) hn ?_
        rw [h34]
        refine g_iconst (v := nI 1) dX11_tells_75 (by decide) ?_
        first | refine g_iaddN dX11_tells_76 ?_ | refine g_iadd dX11_tells_76 ?_
        refine g_iald dX11_tells_77 (by assumption) rfl (by omega) (by omega) (by omega) hn ?_
        rw [hI, hw1]
        refine g_icN_ge (t := 136) dX11_tells_78 (by decide) (by omega) (by omega) (fun z => ?_) (fun z => by exfalso; first | omega | exact absurd rfl z | exact absurd z (by decide) | exact z (by decide) | exact absurd z (by assumption) | exact absurd (by assumption) z)
        refine g_lload dX11_tells_136 rfl ?_
        have : c = cc := by omega
        subst this
        exact g_lreturn dX11_tells_138 rfl ⟨by rw [hy], I1, J1, rfl, hs⟩
      | succ m ih =>
        intro c hc I1 J1 l7 y hy hs h34 h18
        have hI : I1 (q + 2) = I (q + 2) := hs.1 _ eq2
        have so := k_isSo (O := O) (d := d) (u := u) (I := I1) (J := J1) (c := c) (l := l) (S := S) (SxM_L hs hL0) hn hl h34 (by rw [hI]; exact hw0) (by rw [hI, ecc]; omega) h18
        refine g_iload dX11_tells_65 rfl ?_
        first | refine g_aload_n dX11_tells_67 rfl ?_ | refine g_aload_nN dX11_tells_67 rfl ?_
        refine g_getR dX11_tells_68 fX11_13 (by assumption) rfl (by assumption) (by omega) hn ?_
        first | refine g_aload_n dX11_tells_71 rfl ?_ | refine g_aload_nN dX11_tells_71 rfl ?_
        refine g_getI dX11_tells_72 fX11_398 (by assumption) rfl (by omega) hn ?_
        rw [h34]
        refine g_iconst (v := nI 1) dX11_tells_75 (by decide) ?_
        first | refine g_iaddN dX11_tells_76 ?_ | refine g_iadd dX11_tells_76 ?_
        refine g_iald dX11_tells_77 (by assumption) rfl (by omega) (by omega) (by omega) hn ?_
        rw [hI, hw1]
        refine g_icN_ge (t := 136) dX11_tells_78 (by decide) (by omega) (by omega) (fun z => by exfalso; first | omega | exact absurd rfl z | exact absurd z (by decide) | exact z (by decide) | exact absurd z (by assumption) | exact absurd (by assumption) z) (fun z => ?_)
        first | refine g_aload_n dX11_tells_81 rfl ?_ | refine g_aload_nN dX11_tells_81 rfl ?_
        refine g_getI dX11_tells_82 fX11_398 (by assumption) rfl (by omega) hn ?_
        rw [h34]
        refine g_iconst (v := nI 2) dX11_tells_85 (by decide) ?_
        first | refine g_iaddN dX11_tells_86 ?_ | refine g_iadd dX11_tells_86 ?_
        refine g_bipush (v := nI 8) dX11_tells_87 (by decide) ?_
        refine g_iload dX11_tells_89 rfl ?_
        first | refine g_imulN dX11_tells_91 ?_ | refine g_imul dX11_tells_91 ?_
        first | refine g_iaddN dX11_tells_92 ?_ | refine g_iadd dX11_tells_92 ?_
        refine g_istore (ls' := [_, _, _, _, _, _, _, some (.int _)]) dX11_tells_93 (by decide) rfl ?_
        first | refine g_aload_n dX11_tells_95 rfl ?_ | refine g_aload_nN dX11_tells_95 rfl ?_
        refine g_getR dX11_tells_96 fX11_13 (by assumption) rfl (by assumption) (by omega) hn ?_
        refine g_iload dX11_tells_99 rfl ?_
        refine g_iald dX11_tells_101 (by assumption) rfl (by omega) (by omega) (by omega) hn ?_
        rw [hI]
        refine g_iload_n dX11_tells_102 rfl ?_
        refine g_ic_ne (t := 130) dX11_tells_103 (by decide) (fun e => ?_) (fun e => ?_)
        · refine g_iincN (c := 1) (ls' := [_, _, _, _, _, _, some (.int _), _]) dX11_tells_130 rfl (by decide) rfl rfl ?_
          refine g_goto (t := 65) dX11_tells_133 (by decide) ?_
          exact ih (c + 1) (by omega) I1 J1 _ y (by rw [hy]; exact (if_neg (fun z => e z.1)).symm) hs h34 h18
        · skip
          first | refine g_aload_n dX11_tells_106 rfl ?_ | refine g_aload_nN dX11_tells_106 rfl ?_
          refine g_iload dX11_tells_107 rfl ?_
          refine g_virt (Z := MX11_isSo) dX11_tells_109 mX11_418.1 mX11_418.2 (Nat.le_of_ble_eq_true rfl) rfl rfl (Nat.le_of_ble_eq_true rfl) (Nat.le_of_ble_eq_true rfl) (by assumption) rfl rfl (by omega) hn (so) ?_
          rintro _ _ ⟨rfl, I2, J2, rfl, hs2, h234, h218, hsum⟩
          try dsimp only [Option.toList, List.cons_append, List.nil_append]
          rw [hI] at hsum ⊢
          cases hso : soR (I (q + 2)) (110 + 900 * l) S c with
          | none =>
            refine g_if_eq (t := 130) dX11_tells_112 (by decide) (fun z => ?_) (fun z => by exfalso; first | omega | exact absurd rfl z | exact absurd z (by decide) | exact z (by decide) | exact absurd z (by assumption) | exact absurd (by assumption) z)
            refine g_iincN (c := 1) (ls' := [_, _, _, _, _, _, some (.int _), _]) dX11_tells_130 rfl (by decide) rfl rfl ?_
            refine g_goto (t := 65) dX11_tells_133 (by decide) ?_
            exact ih (c + 1) (by omega) I2 J2 _ y (by rw [hy]; exact (if_neg (fun z => by rw [hso] at z; cases z.2)).symm) (hs.trans hs2) (h234.trans h34) (by rw [h218]; exact h18)
          | some v =>
            have hte : teF (I (q + 2)) (110 + 900 * l) S (nI h) x (c + 1) = v := by
              show (if _ then _ else _) = _
              rw [if_pos ⟨e, by rw [hso]; rfl⟩, hso]
              rfl
            refine g_if_eq (t := 130) dX11_tells_112 (by decide) (fun z => absurd z (show ¬ bI true = 0 by decide)) (fun z => ?_)
            refine g_iload_n dX11_tells_115 rfl ?_
            refine g_iconst (v := nI 3) dX11_tells_116 (by decide) ?_
            by_cases hh3 : h = 3
            · subst hh3
              refine g_ic_ne (t := 124) dX11_tells_117 (by decide) (fun z => by exfalso; first | omega | exact absurd rfl z | exact absurd z (by decide) | exact z (by decide) | exact absurd z (by assumption) | exact absurd (by assumption) z) (fun z => ?_)
              refine g_lconst (v := 1) dX11_tells_120 (by decide) ?_
              refine g_goto (t := 128) dX11_tells_121 (by decide) ?_
              refine g_lstore (ls' := [_, _, _, _, some (.long _), none, _, _]) dX11_tells_128 (by decide) rfl ?_
              refine g_iincN (c := 1) (ls' := [_, _, _, _, _, _, some (.int _), _]) dX11_tells_130 rfl (by decide) rfl rfl ?_
              refine g_goto (t := 65) dX11_tells_133 (by decide) ?_
              refine ih (c + 1) (by omega) I2 J2 _ 1 ?_ (hs.trans hs2) (h234.trans h34) (by rw [h218]; exact h18)
              rw [hte]
              unfold soR at hso
              split at hso
              · exact Option.some.inj hso
              · cases hso
            · refine g_icN_ne (t := 124) dX11_tells_117 (by decide) (by omega) (by omega) (fun z => ?_) (fun z => by exfalso; first | omega | exact absurd rfl z | exact absurd z (by decide) | exact z (by decide) | exact absurd z (by assumption) | exact absurd (by assumption) z)
              first | refine g_aload_n dX11_tells_124 rfl ?_ | refine g_aload_nN dX11_tells_124 rfl ?_
              refine g_getJ dX11_tells_125 fX11_415 (by assumption) rfl (by omega) hn ?_
              rw [hsum v hso (by rw [e]; exact fun z => hh3 ((nI_eq (by omega) (by decide)).mp z))]
              refine g_lstore (ls' := [_, _, _, _, some (.long _), none, _, _]) dX11_tells_128 (by decide) rfl ?_
              refine g_iincN (c := 1) (ls' := [_, _, _, _, _, _, some (.int _), _]) dX11_tells_130 rfl (by decide) rfl rfl ?_
              refine g_goto (t := 65) dX11_tells_133 (by decide) ?_
              exact ih (c + 1) (by omega) I2 J2 _ v hte.symm (hs.trans hs2) (h234.trans h34) (by rw [h218]; exact h18)
    refine key cc 0 (by omega) _ _ none x rfl ?_ (up2_at _ _ _ _) ?_
    · exact ⟨fun a ha => up2_off _ _ _ ha, fun k hk _ => up2_nk hk, fun a _ h2 _ => by rw [up2_off _ _ _ h2, up2_off _ _ _ h2], fun k _ _ => by rw [up2_na (by omega), up2_na (by omega)]⟩
    · intro o h1 h9'
      by_cases o9 : o = 9
      · subst o9
        rw [up2_at, h9]
      · rw [up2_nk o9]
        by_cases o8 : o = 8
        · subst o8
          rw [up2_at, h8]
        · rw [up2_nk o8]
          exact hS o h1 (by omega)
end TLS
