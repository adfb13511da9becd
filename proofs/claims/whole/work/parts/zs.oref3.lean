/-! orders: the reference runs all of them -/
/-- all was given back: clause c could not be -/
def OFl (w0 : Nat → Int32) (I4 : Nat → Nat → Int32) (hv : Int32) (c : Nat) (I : Nat → Nat → Int32) (J : Nat → Nat → Int64) : Prop := (∀ a, a ≠ 69 → a ≠ 70 → a ≠ 71 → a ≠ 74 → a ≠ 75 → a ≠ 90 → I a = I4 a) ∧ (∀ k, k ≠ 1 → k ≠ 8 → k ≠ 20 → k ≠ 34 → k ≠ 38 → k ≠ 48 → k ≠ 49 → k ≠ 50 → k ≠ 51 → I 69 k = I4 69 k) ∧ I 69 20 = nI 0 ∧ I 69 1 = -3 ∧ I 69 50 = nI c ∧ I 69 8 = hv ∧ (∀ i, i < 31 → I 71 (6 + i) = I4 74 (527 + i)) ∧ (∀ j, j < 6 ∨ 37 ≤ j → I 71 j = w0 j) ∧ (∀ j, j < 496 → I 74 j = I4 76 j) ∧ (∀ j, j < 16 → I 75 j = I4 77 j) ∧ (∀ k, I 70 k = if k = 3 then I4 70 3 + nI 1 else I4 70 k) ∧ Cns J
section ORH
variable {O : mO} {Lx : Nat} {xs : Nat → Int32} {d u n : Nat} {T : Nat → mT} {I4 : Nat → Nat → Int32} {R : Nat → Nat → Option Nat} {V F D S N nc : Nat} {w0 : Nat → Int32} {hv : Int32}
theorem m_otimes (hO : O = mOl Lx xs) (hS : St n T R) {c s : Nat} {x : CL} (hc : c < 12) (hR : ClR I4 c s x) (hx : ClO true x) (hs : s + lnM x ≤ nc) (hlc : lnC x ≤ 400) (hCo : OCo I4 nc) : ∀ (m i : Nat) (I : Nat → Nat → Int32) (J : Nat → Nat → Int64) (z : OS) (fu : Nat), i + m = x.2.1 → m < fu → OMl V F D S N w0 I4 I J z → ∃ I' J', (oTm (oStp O d V F D S N x) m z = none → lupF (fun (q : Int32 × mH) => F_X11_orders_l150 O (d + 11) 69 hv (nI c) q.1 q.2) fu (nI i, hp u n T I J R) = some (.inr (-3, hp u n T I' J' R)) ∧ OFl w0 I4 hv c I' J') ∧ ∀ z', oTm (oStp O d V F D S N x) m z = some z' → lupF (fun (q : Int32 × mH) => F_X11_orders_l150 O (d + 11) 69 hv (nI c) q.1 q.2) fu (nI i, hp u n T I J R) = some (.inl (hp u n T I' J' R)) ∧ OMl V F D S N w0 I4 I' J' z' := by
  have t20 := hx.2.2.1
  intro m
  induction m with
  | zero =>
    intro i I J z fu hi hf hz
    obtain ⟨fu, rfl⟩ : ∃ y, fu = y + 1 := ⟨fu - 1, by omega⟩
    refine ⟨I, J, (fun q => by cases q), fun z' q => ?_⟩
    cases q
    refine ⟨lup_e ?_, hz⟩
    have i96 : I 96 = I4 96 := hz.1.1 96 (by decide) (by decide) (by decide) (by decide) (by decide)
    unfold F_X11_orders_l150
    dsimp only
    rw [ga_69_47 hS, Option.bind_some, nI_mul, nI_add, rd_96 hS (by omega), Option.bind_some, i96, hR.2.2.2.1, if_pos (nI_le (by omega) (by omega))]
  | succ m ih =>
    intro i I J z fu hi hf hz
    obtain ⟨fu, rfl⟩ : ∃ y, fu = y + 1 := ⟨fu - 1, by omega⟩
    have i96 : I 96 = I4 96 := hz.1.1 96 (by decide) (by decide) (by decide) (by decide) (by decide)
    obtain ⟨I1, J1, v, r1, r2, r3⟩ := m_run (O := O) (d := d) (u := u) hO hS hc hR hx hs hlc hCo hz
    have hd : ∀ {y}, (if 0 ≤ v then some (.inl ((nI i + nI 1), hp u n T I1 J1 R)) else (toV (ev O (d + 11) MX11_giveBack [.ref 69, .int hv] (hp u n T I1 J1 R))).bind fun K38 => (ptI K38 69 11 50 (nI c)).bind fun K39 => (toI (vc O (d + 11) 11 MX11_tell 69 [.int (-3)] K39)).bind fun p40 => some (.inr (.inr (p40.1, p40.2)))) = y → F_X11_orders_l150 O (d + 11) 69 hv (nI c) (nI i) (hp u n T I J R) = y := by
      intro y e
      unfold F_X11_orders_l150
      rw [ga_69_47 hS, Option.bind_some, nI_mul, nI_add, rd_96 hS (by omega), Option.bind_some, i96, hR.2.2.2.1, if_neg (nI_ge (by omega) (by omega)), vc_69 hS, r1, toI_i, Option.bind_some]
      dsimp only
      rw [vc_69 hS]
      exact e
    cases e : oStp O d V F D S N x z with
    | none =>
      have tE : oTm (oStp O d V F D S N x) (m + 1) z = none := by
        unfold oTm
        rw [e]
      rw [tE]
      obtain ⟨vE, ⟨b1, b2, b3, b4, b5⟩, kp⟩ := r2 e
      obtain ⟨I2, g1, g2, g3, g4, g5, g6, g7, g8⟩ := m_giveBack (O := O) (d := d + 9) (u := u) (J := J1) (I := I1) (hv := hv) hS
      let I3 : Nat → Nat → Int32 := up2 (up2 (up2 I2 69 50 (nI c)) 69 1 (-3)) 70 3 (up2 I2 69 50 (nI c) 70 3 + nI 1)
      have o3 : ∀ a, a ≠ 69 → a ≠ 70 → I3 a = I2 a := fun a h1 h2 => by
        show up2 (up2 (up2 I2 69 50 (nI c)) 69 1 (-3)) 70 3 (up2 I2 69 50 (nI c) 70 3 + nI 1) a = _
        rw [up2_off _ _ _ h2, up2_off _ _ _ h1, up2_off _ _ _ h1]
      have o69 : ∀ k, k ≠ 50 → k ≠ 1 → I3 69 k = I2 69 k := fun k h1 h2 => by
        show up2 (up2 (up2 I2 69 50 (nI c)) 69 1 (-3)) 70 3 (up2 I2 69 50 (nI c) 70 3 + nI 1) 69 k = _
        rw [up2_na (by decide), up2_nk h2, up2_nk h1]
      have i70 : I2 70 = I4 70 := by rw [g2 70 (by decide) (by decide) (by decide) (by decide), b1 70 (by decide) (by decide) (by decide) (by decide) (by decide)]
      refine ⟨I3, J1, fun _ => ⟨lup_e (hd ?_), ?_⟩, (fun z' q => by cases q)⟩
      · rw [vE, if_neg (by decide), g1, toV_v, Option.bind_some, pi_69_50 hS, Option.bind_some, vc_69 hS, v_tell_3 hS, toI_i, Option.bind_some]
      · refine ⟨fun a h1 h2 h3 h4 h5 h6 => by rw [o3 a h1 h2, g2 a h1 h3 h4 h5, b1 a h1 h3 h4 h5 h6], fun k k1 k2 k3 k4 k5 k6 k7 k8 k9 => by rw [o69 k k8 k1, g8 k k2, b2 k k2 k3 k4 k5 k6 k7 k9], by rw [o69 20 (by decide) (by decide), g8 20 (by decide)]; exact b3, ?_, ?_, by rw [o69 8 (by decide) (by decide)]; exact g7, fun i hi => by rw [o3 71 (by decide) (by decide), g3 i hi, b4 _ (by omega)], fun j hj => by rw [o3 71 (by decide) (by decide), g4 j hj]; exact kp j (by omega), fun j hj => by rw [o3 74 (by decide) (by decide), g5 j hj, b1 76 (by decide) (by decide) (by decide) (by decide) (by decide)], fun j hj => by rw [o3 75 (by decide) (by decide), g6 j hj, b1 77 (by decide) (by decide) (by decide) (by decide) (by decide)], fun k => ?_, b5⟩
        · show up2 (up2 (up2 I2 69 50 (nI c)) 69 1 (-3)) 70 3 (up2 I2 69 50 (nI c) 70 3 + nI 1) 69 1 = _
          rw [up2_na (by decide), up2_at]
        · show up2 (up2 (up2 I2 69 50 (nI c)) 69 1 (-3)) 70 3 (up2 I2 69 50 (nI c) 70 3 + nI 1) 69 50 = _
          rw [up2_na (by decide), up2_nk (by decide), up2_at]
        · show up2 (up2 (up2 I2 69 50 (nI c)) 69 1 (-3)) 70 3 (up2 I2 69 50 (nI c) 70 3 + nI 1) 70 k = _
          by_cases k3 : k = 3
          · rw [k3, up2_at, if_pos rfl, up2_na (by decide), i70]
          · rw [up2_nk k3, if_neg k3, up2_off _ _ _ (by decide), up2_off _ _ _ (by decide), i70]
    | some z1 =>
      have tE : oTm (oStp O d V F D S N x) (m + 1) z = oTm (oStp O d V F D S N x) m z1 := by
        show (match oStp O d V F D S N x z with | none => none | some z' => oTm (oStp O d V F D S N x) m z') = _
        rw [e]
      rw [tE]
      obtain ⟨vE, hz1⟩ := r3 z1 e
      have st : F_X11_orders_l150 O (d + 11) 69 hv (nI c) (nI i) (hp u n T I J R) = some (.inl (nI (i + 1), hp u n T I1 J1 R)) := hd (by rw [vE, if_pos (show (0 : Int32) ≤ nI 0 by decide), nI_add])
      obtain ⟨I2, J2, h1, h2⟩ := ih (i + 1) I1 J1 z1 fu (by omega) (by omega) hz1
      refine ⟨I2, J2, fun q => ?_, fun z' q => ?_⟩
      · rw [lup_c st]
        exact h1 q
      · rw [lup_c st]
        exact h2 z' q
theorem m_oall (hO : O = mOl Lx xs) (hS : St n T R) {cc : Nat} (h21 : I4 69 21 = nI cc) (hcc : cc ≤ 12) (hCo : OCo I4 nc) : ∀ (L : List CL) (c s : Nat) (I : Nat → Nat → Int32) (J : Nat → Nat → Int64) (z : OS) (fu : Nat), c + L.length = cc → L.length < fu → TxM ClR I4 c s L → (∀ x, x ∈ L → ClO true x ∧ lnC x ≤ 400) → s + (lnL L).2 ≤ nc → OMl V F D S N w0 I4 I J z → ∃ I' J', (∀ j, oAl (oStp O d V F D S N) L c z = .inl j → lupF (fun (q : Int32 × mH) => F_X11_orders_l140 O (d + 11) 69 hv q.1 q.2) fu (nI c, hp u n T I J R) = some (.inr (-3, hp u n T I' J' R)) ∧ OFl w0 I4 hv j I' J') ∧ ∀ z', oAl (oStp O d V F D S N) L c z = .inr z' → lupF (fun (q : Int32 × mH) => F_X11_orders_l140 O (d + 11) 69 hv q.1 q.2) fu (nI c, hp u n T I J R) = some (.inl (hp u n T I' J' R)) ∧ OMl V F D S N w0 I4 I' J' z' := by
  intro L
  induction L with
  | nil =>
    intro c s I J z fu hc hf hT hL hs hz
    obtain ⟨fu, rfl⟩ : ∃ y, fu = y + 1 := ⟨fu - 1, by omega⟩
    have hc : c + 0 = cc := hc
    have e21 : I 69 21 = nI cc := by rw [hz.1.2.1 21 (by decide) (by decide) (by decide) (by decide) (by decide) (by decide) (by decide)]; exact h21
    refine ⟨I, J, (fun j q => by cases q), fun z' q => ?_⟩
    cases q
    refine ⟨lup_e ?_, hz⟩
    unfold F_X11_orders_l140
    dsimp only
    rw [gi_69_21 hS, Option.bind_some, e21, if_pos (nI_le (by omega) (by omega))]
  | cons x L ih =>
    intro c s I J z fu hc hf hT hL hs hz
    obtain ⟨fu, rfl⟩ : ∃ y, fu = y + 1 := ⟨fu - 1, by omega⟩
    have hc : c + (L.length + 1) = cc := hc
    have hs : s + (lnM x + (lnL L).2) ≤ nc := hs
    have hf : L.length + 1 < fu + 1 := hf
    have e21 : I 69 21 = nI cc := by rw [hz.1.2.1 21 (by decide) (by decide) (by decide) (by decide) (by decide) (by decide) (by decide)]; exact h21
    obtain ⟨hx, hlc⟩ := hL x (List.mem_cons_self ..)
    have t20 := hx.2.2.1
    obtain ⟨I1, J1, f2, f3⟩ := m_otimes (O := O) (d := d) (u := u) (hv := hv) hO hS (show c < 12 by omega) hT.1 hx (by omega) hlc hCo x.2.1 0 I J z FU (by omega) (by unfold FU; omega) hz
    have hd : ∀ {r41 y}, lupF (fun (q : Int32 × mH) => F_X11_orders_l150 O (d + 11) 69 hv (nI c) q.1 q.2) FU (nI 0, hp u n T I J R) = some r41 → (match r41 with | .inl r42 => some (.inl ((nI c + nI 1), r42)) | .inr r42 => some (.inr (.inr r42))) = y → F_X11_orders_l140 O (d + 11) 69 hv (nI c) (hp u n T I J R) = y := by
      intro r41 y e1 e2
      unfold F_X11_orders_l140
      rw [gi_69_21 hS, Option.bind_some, e21, if_neg (nI_ge (by omega) (by omega)), e1, Option.bind_some]
      exact e2
    cases e : oTm (oStp O d V F D S N x) x.2.1 z with
    | none =>
      have tE : oAl (oStp O d V F D S N) (x :: L) c z = .inl c := by
        show (match oTm (oStp O d V F D S N x) x.2.1 z with | none => Sum.inl c | some z' => oAl (oStp O d V F D S N) L (c + 1) z') = _
        rw [e]
      rw [tE]
      obtain ⟨f4, f5⟩ := f2 e
      refine ⟨I1, J1, fun j q => ?_, (fun z' q => by cases q)⟩
      cases q
      exact ⟨lup_e (hd f4 rfl), f5⟩
    | some z1 =>
      have tE : oAl (oStp O d V F D S N) (x :: L) c z = oAl (oStp O d V F D S N) L (c + 1) z1 := by
        show (match oTm (oStp O d V F D S N x) x.2.1 z with | none => Sum.inl c | some z' => oAl (oStp O d V F D S N) L (c + 1) z') = _
        rw [e]
      rw [tE]
      obtain ⟨f4, f5⟩ := f3 z1 e
      obtain ⟨I2, J2, h1, h2⟩ := ih (c + 1) (s + lnM x) I1 J1 z1 fu (by omega) (by omega) hT.2 (fun y hy => hL y (List.mem_cons_of_mem _ hy)) (by omega) f5
      have st : F_X11_orders_l140 O (d + 11) 69 hv (nI c) (hp u n T I J R) = some (.inl (nI (c + 1), hp u n T I1 J1 R)) := hd f4 (by rw [nI_add])
      refine ⟨I2, J2, fun j q => ?_, fun z' q => ?_⟩
      · rw [lup_c st]
        exact h1 j q
      · rw [lup_c st]
        exact h2 z' q
/-- what is kept before -/
theorem m_keep (hS : St n T R) {I : Nat → Nat → Int32} {J : Nat → Nat → Int64} {v1 : Int32} : ∃ I', lupF (fun (q : Int32 × mH) => F_X11_orders_l77 O d 69 v1 q.1 q.2) FU (nI 0, hp u n T I J R) = some (hp u n T I' J R) ∧ (∀ a, a ≠ 76 → I' a = I a) ∧ ∀ j, j < 496 → I' 76 j = I 74 j := by
  obtain ⟨r1, f1, I2, rfl, b1, b2⟩ := lup_P0 (f := fun (q : Int32 × mH) => F_X11_orders_l77 O d 69 v1 q.1 q.2) (s0 := (nI 0, hp u n T I J R)) (fun m s => ∃ I2, s = (nI m, hp u n T I2 J R) ∧ (∀ a, a ≠ 76 → I2 a = I a) ∧ ∀ j, j < m → I2 76 j = I 74 j) (fun r => ∃ I2, r = hp u n T I2 J R ∧ (∀ a, a ≠ 76 → I2 a = I a) ∧ ∀ j, j < 496 → I2 76 j = I 74 j) (N := 496) (by decide) ⟨I, rfl, fun _ _ => rfl, fun j hj => absurd hj (Nat.not_lt_zero j)⟩ (by
    intro m s hm ⟨I2, hs, b1, b2⟩
    subst hs
    left
    refine ⟨(nI (m + 1), hp u n T (up2 I2 76 m (I 74 m)) J R), ?_, _, rfl, fun a ha => by rw [up2_off _ _ _ ha]; exact b1 a ha, fun j hj => ?_⟩
    · dsimp only
      unfold F_X11_orders_l77
      rw [if_neg (nI_ge hm (by decide)), ga_69_9 hS, Option.bind_some, ga_69_6 hS, Option.bind_some, rd_74 hS (by omega), Option.bind_some, b1 74 (by decide), wr_76 hS hm, Option.bind_some, nI_add]
    · by_cases e : j = m
      · rw [e, up2_at]
      · rw [up2_nk e]
        exact b2 j (by omega)) (by
    intro s ⟨I2, hs, b1, b2⟩
    subst hs
    refine ⟨_, ?_, I2, rfl, b1, b2⟩
    dsimp only
    unfold F_X11_orders_l77
    rw [if_pos (by decide)])
  exact ⟨I2, f1, b1, b2⟩
theorem m_keep2 (hS : St n T R) {I : Nat → Nat → Int32} {J : Nat → Nat → Int64} {v1 : Int32} : ∃ I', lupF (fun (q : Int32 × mH) => F_X11_orders_l104 O d 69 v1 q.1 q.2) FU (nI 0, hp u n T I J R) = some (hp u n T I' J R) ∧ (∀ a, a ≠ 77 → I' a = I a) ∧ ∀ j, j < 16 → I' 77 j = I 75 j := by
  obtain ⟨r1, f1, I2, rfl, b1, b2⟩ := lup_P0 (f := fun (q : Int32 × mH) => F_X11_orders_l104 O d 69 v1 q.1 q.2) (s0 := (nI 0, hp u n T I J R)) (fun m s => ∃ I2, s = (nI m, hp u n T I2 J R) ∧ (∀ a, a ≠ 77 → I2 a = I a) ∧ ∀ j, j < m → I2 77 j = I 75 j) (fun r => ∃ I2, r = hp u n T I2 J R ∧ (∀ a, a ≠ 77 → I2 a = I a) ∧ ∀ j, j < 16 → I2 77 j = I 75 j) (N := 16) (by decide) ⟨I, rfl, fun _ _ => rfl, fun j hj => absurd hj (Nat.not_lt_zero j)⟩ (by
    intro m s hm ⟨I2, hs, b1, b2⟩
    subst hs
    left
    refine ⟨(nI (m + 1), hp u n T (up2 I2 77 m (I 75 m)) J R), ?_, _, rfl, fun a ha => by rw [up2_off _ _ _ ha]; exact b1 a ha, fun j hj => ?_⟩
    · dsimp only
      unfold F_X11_orders_l104
      rw [if_neg (nI_ge hm (by decide)), ga_69_10 hS, Option.bind_some, ga_69_7 hS, Option.bind_some, rd_75 hS hm, Option.bind_some, b1 75 (by decide), wr_77 hS hm, Option.bind_some, nI_add]
    · by_cases e : j = m
      · rw [e, up2_at]
      · rw [up2_nk e]
        exact b2 j (by omega)) (by
    intro s ⟨I2, hs, b1, b2⟩
    subst hs
    refine ⟨_, ?_, I2, rfl, b1, b2⟩
    dsimp only
    unfold F_X11_orders_l104
    rw [if_pos (by decide)])
  exact ⟨I2, f1, b1, b2⟩
end ORH
theorem oStp_dn {O : mO} {d V F D S N : Nat} {x : CL} {z z' : OS} (h : oStp O d V F D S N x z = some z') : z'.2.1 ≤ z.2.1 + 1 := by
  unfold oStp at h
  split at h
  · unfold oCan at h
    cases ea : vOf (oX z.1 D F z.2.1 z.2.2.1) x.2.2.1 with
    | none =>
      rw [ea] at h
      cases h
    | some a =>
      rw [ea, Option.bind_some] at h
      cases eb : vOf (oX z.1 D F z.2.1 z.2.2.1) x.2.2.2.2.1 with
      | none =>
        rw [eb] at h
        cases h
      | some b =>
        rw [eb, Option.bind_some] at h
        unfold oDo at h
        split at h
        · rw [← Option.some.inj h]
          exact Nat.le_refl _
        · cases h
  · rw [← Option.some.inj h]
    exact Nat.le_succ _
theorem oTm_dn {f : OS → Option OS} (hf : ∀ z z', f z = some z' → z'.2.1 ≤ z.2.1 + 1) : ∀ (n : Nat) (z z' : OS), oTm f n z = some z' → z'.2.1 ≤ z.2.1 + n
  | 0, z, z', h => by
    rw [← Option.some.inj h]
    exact Nat.le_refl _
  | n + 1, z, z', h => by
    have h : (match f z with | none => none | some z' => oTm f n z') = some z' := h
    cases e : f z with
    | none =>
      rw [e] at h
      cases h
    | some z1 =>
      rw [e] at h
      have := oTm_dn hf n z1 z' h
      have := hf z z1 e
      omega
theorem oAl_dn {O : mO} {d V F D S N : Nat} : ∀ (L : List CL) (c : Nat) (z z' : OS), (∀ x, x ∈ L → x.2.1 ≤ 20) → oAl (oStp O d V F D S N) L c z = .inr z' → z'.2.1 ≤ z.2.1 + 20 * L.length
  | [], c, z, z', _, h => by
    rw [← Sum.inr.inj h]
    exact Nat.le_refl _
  | x :: L, c, z, z', hx, h => by
    have h : (match oTm (oStp O d V F D S N x) x.2.1 z with | none => Sum.inl c | some z' => oAl (oStp O d V F D S N) L (c + 1) z') = .inr z' := h
    cases e : oTm (oStp O d V F D S N x) x.2.1 z with
    | none =>
      rw [e] at h
      cases h
    | some z1 =>
      rw [e] at h
      have h1 := oAl_dn L (c + 1) z1 z' (fun y hy => hx y (List.mem_cons_of_mem _ hy)) h
      have h2 := oTm_dn (fun _ _ q => oStp_dn q) _ _ _ e
      have h3 := hx x (List.mem_cons_self ..)
      show z'.2.1 ≤ z.2.1 + 20 * (L.length + 1)
      omega
