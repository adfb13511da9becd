/-! orders: the class's trial, from its beginning to its end -/
theorem TxC_cg {I I' : Nat → Nat → Int32} (h3 : I' 3 = I 3) (h4 : I' 4 = I 4) : ∀ (L : List CL) (c s : Nat), TxC I c s L → TxC I' c s L
  | [], _, _, _ => trivial
  | x :: L, c, s, h => ⟨ClC_cg h.1 (fun i _ => by rw [h4]) (fun i _ => by rw [h3]), TxC_cg h3 h4 L (c + 1) (s + lnC x) h.2⟩
section OCE
variable {O : mO} {Lx : Nat} {xs : Nat → Int32} {d u n : Nat} {T : Nat → mT} {J : Nat → Nat → Int64} {R : Nat → Nat → Option Nat} {g2 h2 V F D S N sc cc c s : Nat} {w0 : Nat → Int32} {x : CL}
theorem c_otimes (hO : O = mOl Lx xs) (hS : St n T R) (hr2 : R 54 2 = some g2) (hr3 : R 54 3 = some h2) (hgh : g2 = 32 ∧ h2 = 26 ∨ g2 = 58 ∧ h2 = 56) : ∀ (m i : Nat) (I : Nat → Nat → Int32) (z : OS) (fu : Nat), i + m = x.2.1 → m < fu → OTx n T R I sc cc c s x → OCl n T R g2 h2 V F D S N w0 I z → ∃ I', OFr g2 h2 I I' ∧ (oTm (oStp O d V F D S N x) m z = none → lupF (fun (q : Int32 × mH) => F_X9_carryOut_l12 O (d + 10) 54 2 (nI c) q.1 q.2) fu (nI i, hp u n T I J R) = some (.inr (nI c, hp u n T I' J R))) ∧ ∀ z', oTm (oStp O d V F D S N x) m z = some z' → lupF (fun (q : Int32 × mH) => F_X9_carryOut_l12 O (d + 10) 54 2 (nI c) q.1 q.2) fu (nI i, hp u n T I J R) = some (.inl (hp u n T I' J R)) ∧ OCl n T R g2 h2 V F D S N w0 I' z' := by
  intro m
  induction m with
  | zero =>
    intro i I z fu hi hf hx hz
    obtain ⟨fu, rfl⟩ : ∃ y, fu = y + 1 := ⟨fu - 1, by omega⟩
    have cc12 : c < 12 := by
      obtain ⟨ls, lc, hP, h1, h2', h3, -⟩ := hx.1
      have := hx.2.1
      omega
    have t20 := hx.2.2.2.1.2.2.1
    refine ⟨I, OFr.refl _ _ _, (fun q => by cases q), fun z' q => ?_⟩
    cases q
    refine ⟨lup_e ?_, hz⟩
    have kp := v_part (O := O) (d := d + 10) (u := u) (I := I) (J := J) (k := 1) hS cc12 (by decide)
    rw [hx.2.2.1.2.1] at kp
    unfold F_X9_carryOut_l12
    dsimp only
    rw [vc_2 hS, kp, toI_i, Option.bind_some]
    dsimp only
    rw [if_pos (nI_le (by omega) (by omega))]
  | succ m ih =>
    intro i I z fu hi hf hx hz
    obtain ⟨fu, rfl⟩ : ∃ y, fu = y + 1 := ⟨fu - 1, by omega⟩
    obtain ⟨I1, f1, f2, f3⟩ := c_oturn (O := O) (d := d) (u := u) (J := J) hO hS hr2 hr3 hgh hx hz (show i < x.2.1 by omega)
    cases e : oStp O d V F D S N x z with
    | none =>
      have tE : oTm (oStp O d V F D S N x) (m + 1) z = none := by
        unfold oTm
        rw [e]
      rw [tE]
      exact ⟨I1, f1, fun _ => lup_e (f2 e), (fun z' q => by cases q)⟩
    | some z1 =>
      have tE : oTm (oStp O d V F D S N x) (m + 1) z = oTm (oStp O d V F D S N x) m z1 := by
        show (match oStp O d V F D S N x z with | none => none | some z' => oTm (oStp O d V F D S N x) m z') = _
        rw [e]
      rw [tE]
      obtain ⟨f4, f5⟩ := f3 z1 e
      have hx1 : OTx n T R I1 sc cc c s x := OTx_cg hx (f1.1 2 (by omega) (by omega) (by omega) (by decide) (by decide) (by decide) (by decide) (by decide)) (f1.1 3 (by omega) (by omega) (by omega) (by decide) (by decide) (by decide) (by decide) (by decide)) (f1.1 4 (by omega) (by omega) (by omega) (by decide) (by decide) (by decide) (by decide) (by decide))
      obtain ⟨I2, h1, h2', h3⟩ := ih (i + 1) I1 z1 fu (by omega) (by omega) hx1 f5
      refine ⟨I2, f1.trans h1, fun q => ?_, fun z' q => ?_⟩
      · rw [lup_c f4]
        exact h2' q
      · rw [lup_c f4]
        exact h3 z' q
theorem c_oall (hO : O = mOl Lx xs) (hS : St n T R) (hr2 : R 54 2 = some g2) (hr3 : R 54 3 = some h2) (hgh : g2 = 32 ∧ h2 = 26 ∨ g2 = 58 ∧ h2 = 56) : ∀ (L : List CL) (c s : Nat) (I : Nat → Nat → Int32) (z : OS) (fu : Nat), c + L.length = cc → L.length < fu → TxC I c s L → (∀ x, x ∈ L → ClO true x) → PrV n T I R 2 sc cc → s + (lnL L).1 ≤ sc → sc ≤ 400 → OCl n T R g2 h2 V F D S N w0 I z → ∃ I', OFr g2 h2 I I' ∧ (∀ j, oAl (oStp O d V F D S N) L c z = .inl j → lupF (fun (q : Int32 × mH) => F_X9_carryOut_l2 O (d + 10) 54 2 q.1 q.2) fu (nI c, hp u n T I J R) = some (.inr (nI j, hp u n T I' J R))) ∧ ∀ z', oAl (oStp O d V F D S N) L c z = .inr z' → lupF (fun (q : Int32 × mH) => F_X9_carryOut_l2 O (d + 10) 54 2 q.1 q.2) fu (nI c, hp u n T I J R) = some (.inl (hp u n T I' J R)) ∧ OCl n T R g2 h2 V F D S N w0 I' z' := by
  intro L
  induction L with
  | nil =>
    intro c s I z fu hc hf hT hL hP hs h4 hz
    obtain ⟨fu, rfl⟩ : ∃ y, fu = y + 1 := ⟨fu - 1, by omega⟩
    have hc : c + 0 = cc := hc
    obtain ⟨ls, lc, hp1, p1, p2, p3, p4, p5, -⟩ := hP
    refine ⟨I, OFr.refl _ _ _, (fun j q => by cases q), fun z' q => ?_⟩
    cases q
    refine ⟨lup_e ?_, hz⟩
    unfold F_X9_carryOut_l2
    dsimp only
    rw [gi_2_3 hS, Option.bind_some, p5, if_pos (nI_le (by omega) (by omega))]
  | cons x L ih =>
    intro c s I z fu hc hf hT hL hP hs h4 hz
    obtain ⟨fu, rfl⟩ : ∃ y, fu = y + 1 := ⟨fu - 1, by omega⟩
    have hc : c + (L.length + 1) = cc := hc
    have hs : s + (lnC x + (lnL L).1) ≤ sc := hs
    have hf : L.length + 1 < fu + 1 := hf
    obtain ⟨ls, lc, hp1, p1, p2, p3, p4, p5, -⟩ := id hP
    have hx : OTx n T R I sc cc c s x := ⟨hP, by omega, hT.1, hL x (List.mem_cons_self ..), by omega, h4⟩
    have t20 := hx.2.2.2.1.2.2.1
    obtain ⟨I1, f1, f2, f3⟩ := c_otimes (O := O) (d := d) (u := u) (J := J) hO hS hr2 hr3 hgh x.2.1 0 I z FU (by omega) (by unfold FU; omega) hx hz
    have hd : ∀ {r13 y}, lupF (fun (q : Int32 × mH) => F_X9_carryOut_l12 O (d + 10) 54 2 (nI c) q.1 q.2) FU (nI 0, hp u n T I J R) = some r13 → (match r13 with | .inl r14 => some (.inl ((nI c + nI 1), r14)) | .inr r14 => some (.inr (.inr r14))) = y → F_X9_carryOut_l2 O (d + 10) 54 2 (nI c) (hp u n T I J R) = y := by
      intro r13 y e1 e2
      unfold F_X9_carryOut_l2
      rw [gi_2_3 hS, Option.bind_some, p5, if_neg (nI_ge (by omega) (by omega)), e1, Option.bind_some]
      exact e2
    cases e : oTm (oStp O d V F D S N x) x.2.1 z with
    | none =>
      have tE : oAl (oStp O d V F D S N) (x :: L) c z = .inl c := by
        show (match oTm (oStp O d V F D S N x) x.2.1 z with | none => Sum.inl c | some z' => oAl (oStp O d V F D S N) L (c + 1) z') = _
        rw [e]
      rw [tE]
      refine ⟨I1, f1, fun j q => ?_, (fun z' q => by cases q)⟩
      cases q
      exact lup_e (hd (f2 e) rfl)
    | some z1 =>
      have tE : oAl (oStp O d V F D S N) (x :: L) c z = oAl (oStp O d V F D S N) L (c + 1) z1 := by
        show (match oTm (oStp O d V F D S N x) x.2.1 z with | none => Sum.inl c | some z' => oAl (oStp O d V F D S N) L (c + 1) z') = _
        rw [e]
      rw [tE]
      obtain ⟨f4, f5⟩ := f3 z1 e
      have i2 := f1.1 2 (by omega) (by omega) (by omega) (by decide) (by decide) (by decide) (by decide) (by decide)
      have i3 := f1.1 3 (by omega) (by omega) (by omega) (by decide) (by decide) (by decide) (by decide) (by decide)
      have i4 := f1.1 4 (by omega) (by omega) (by omega) (by decide) (by decide) (by decide) (by decide) (by decide)
      obtain ⟨I2, h1, h2', h3⟩ := ih (c + 1) (s + lnC x) I1 z1 fu (by omega) (by omega) (TxC_cg i3 i4 L _ _ hT.2) (fun y hy => hL y (List.mem_cons_of_mem _ hy)) (PrV_cg2 i2 i3 i4 hP) (by omega) h4 f5
      have st : F_X9_carryOut_l2 O (d + 10) 54 2 (nI c) (hp u n T I J R) = some (.inl (nI (c + 1), hp u n T I1 J R)) := hd f4 (by rw [nI_add])
      refine ⟨I2, f1.trans h1, fun j q => ?_, fun z' q => ?_⟩
      · rw [lup_c st]
        exact h2' j q
      · rw [lup_c st]
        exact h3 z' q
theorem c_carryOut (hO : O = mOl Lx xs) (hS : St n T R) (hr2 : R 54 2 = some g2) (hr3 : R 54 3 = some h2) (hgh : g2 = 32 ∧ h2 = 26 ∨ g2 = 58 ∧ h2 = 56) {L : List CL} {I : Nat → Nat → Int32} {z : OS} (hT : TxC I 0 0 L) (hL : ∀ x, x ∈ L → ClO true x) (hP : PrV n T I R 2 (lnL L).1 L.length) (h4 : (lnL L).1 ≤ 400) (h12 : L.length ≤ 12) (hz : OCl n T R g2 h2 V F D S N w0 I z) : ∃ I', OFr g2 h2 I I' ∧ (∀ j, oAl (oStp O d V F D S N) L 0 z = .inl j → ev O (d + 11) MX9_carryOut [.ref 54, .ref 2] (hp u n T I J R) = some (some (.int (nI j)), hp u n T I' J R)) ∧ ∀ z', oAl (oStp O d V F D S N) L 0 z = .inr z' → ev O (d + 11) MX9_carryOut [.ref 54, .ref 2] (hp u n T I J R) = some (some (.int (-1)), hp u n T I' J R) ∧ OCl n T R g2 h2 V F D S N w0 I' z' := by
  obtain ⟨I1, f1, f2, f3⟩ := c_oall (O := O) (d := d) (u := u) (J := J) hO hS hr2 hr3 hgh L 0 0 I z FU (by omega) (by unfold FU; omega) hT hL hP (by omega) h4 hz
  refine ⟨I1, f1, fun j q => e_X9_carryOut ?_, fun z' q => ⟨e_X9_carryOut ?_, (f3 z' q).2⟩⟩
  · unfold F_X9_carryOut
    rw [f2 j q, Option.bind_some]
  · unfold F_X9_carryOut
    rw [(f3 z' q).1, Option.bind_some]
/-- the trial begins -/
theorem c_begin (hS : St n T R) {g h : Nat} {I : Nat → Nat → Int32} {w : Nat → Int32} {U : Nat → Nat × (Nat → Int32)} {sx xx : Nat} (hgh : g2 = 32 ∧ h2 = 26 ∧ g = 58 ∧ h = 56 ∨ g2 = 58 ∧ h2 = 56 ∧ g = 32 ∧ h = 26) (hr2 : R 54 2 = some g2) (hr3 : R 54 3 = some h2) (hG : Gnd n T I R g w V F D S N) (hw : Wf w V F D S N) (hrf : RfG n T R g) (hC : CHi (I h) (I (h + 1)) U sx xx) (hU : UOk w U V F D sx) : ∃ I' R', ev O (d + 2) MX9_begin [.ref 54, .ref g, .ref h] (hp u n T I J R) = some (none, hp u n T I' J R') ∧ RdG g2 R R' ∧ (∀ l, l < 6 → R' (g2 + 10) l = R (g + 10) l) ∧ OFr g2 h2 I I' ∧ OCl n T R' g2 h2 V F D S N w I' (w, 0, -1, U, sx, xx) := by
  have hn := hS.2.1
  have hGg2 : IsG n T R g2 := by
    rcases hgh with ⟨e, -⟩ | ⟨e, -⟩ <;> rw [e]
    · exact St_G32 hS
    · exact St_G58 hS
  have hHh2 : IsH n T R h2 := by
    rcases hgh with ⟨-, e, -⟩ | ⟨-, e, -⟩ <;> rw [e]
    · exact St_H26 hS
    · exact St_H56 hS
  have hHh : IsH n T R h := by
    rcases hgh with ⟨-, -, -, e⟩ | ⟨-, -, -, e⟩ <;> rw [e]
    · exact St_H56 hS
    · exact St_H26 hS
  obtain ⟨Ic, Rc, ec, cp⟩ := v_copy (O := O) (d := d) (u := u) (J := J) (I := I) hGg2 hG.1.2.1 hn (by omega) hrf
  obtain ⟨o1, o2, a1, a2, a3, a4, a5, a6, a7, a8, a9, rr, rl⟩ := cp
  have hSc : St n T Rc := St_R rr (by omega) hS
  have hr2c : Rc 54 2 = some g2 := by rw [rr 54 (by omega)]; exact hr2
  have hr3c : Rc 54 3 = some h2 := by rw [rr 54 (by omega)]; exact hr3
  have hHc2 : IsH n T Rc h2 := by
    rcases hgh with ⟨-, e, -⟩ | ⟨-, e, -⟩ <;> rw [e]
    · exact St_H26 hSc
    · exact St_H56 hSc
  have hHc : IsH n T Rc h := by
    rcases hgh with ⟨-, -, -, e⟩ | ⟨-, -, -, e⟩ <;> rw [e]
    · exact St_H56 hSc
    · exact St_H26 hSc
  have eh := evr (c_hcopy (O := O) (d := d + 1) (u := u) (J := J) (I := Ic) hHc2 hHc hn)
  let Ie : Nat → Nat → Int32 := up2 (up2 (cpI Ic (h2 + 1) (h + 1) 0 0 391) h2 1 (cpI Ic (h2 + 1) (h + 1) 0 0 391 h 1)) h2 2 (up2 (cpI Ic (h2 + 1) (h + 1) 0 0 391) h2 1 (cpI Ic (h2 + 1) (h + 1) 0 0 391 h 1) h 2)
  have eh : ev O (d + 1) MX3_copyFrom [.ref h2, .ref h] (hp u n T Ic J Rc) = some (none, hp u n T Ie J Rc) := eh
  have oe : ∀ a, a ≠ h2 → a ≠ h2 + 1 → Ie a = Ic a := fun a h1 h2' => by
    show up2 (up2 (cpI Ic (h2 + 1) (h + 1) 0 0 391) h2 1 (cpI Ic (h2 + 1) (h + 1) 0 0 391 h 1)) h2 2 (up2 (cpI Ic (h2 + 1) (h + 1) 0 0 391) h2 1 (cpI Ic (h2 + 1) (h + 1) 0 0 391 h 1) h 2) a = _
    rw [up2_off _ _ _ h1, up2_off _ _ _ h1, cpI_off h2']
  have e1 : Ie h2 1 = I h 1 := by
    show up2 (up2 (cpI Ic (h2 + 1) (h + 1) 0 0 391) h2 1 (cpI Ic (h2 + 1) (h + 1) 0 0 391 h 1)) h2 2 (up2 (cpI Ic (h2 + 1) (h + 1) 0 0 391) h2 1 (cpI Ic (h2 + 1) (h + 1) 0 0 391 h 1) h 2) h2 1 = _
    rw [up2_nk (by decide), up2_at, cpI_off (by omega), o1 h (by omega)]
  have e2 : Ie h2 2 = I h 2 := by
    show up2 (up2 (cpI Ic (h2 + 1) (h + 1) 0 0 391) h2 1 (cpI Ic (h2 + 1) (h + 1) 0 0 391 h 1)) h2 2 (up2 (cpI Ic (h2 + 1) (h + 1) 0 0 391) h2 1 (cpI Ic (h2 + 1) (h + 1) 0 0 391 h 1) h 2) h2 2 = _
    rw [up2_at, up2_na (by omega), cpI_off (by omega), o1 h (by omega)]
  have e3 : ∀ j, j < 391 → Ie (h2 + 1) j = I (h + 1) j := fun j hj => by
    show up2 (up2 (cpI Ic (h2 + 1) (h + 1) 0 0 391) h2 1 (cpI Ic (h2 + 1) (h + 1) 0 0 391 h 1)) h2 2 (up2 (cpI Ic (h2 + 1) (h + 1) 0 0 391) h2 1 (cpI Ic (h2 + 1) (h + 1) 0 0 391 h 1) h 2) (h2 + 1) j = _
    rw [up2_na (by omega), up2_na (by omega), cpI_z hj, o1 (h + 1) (by omega)]
  generalize Ie = Ie at *
  let I6 : Nat → Nat → Int32 := up2 (up2 Ie 54 4 (nI 0)) 54 5 (-1)
  have o6 : ∀ a, a ≠ 54 → I6 a = Ie a := fun a ha => by
    show up2 (up2 Ie 54 4 (nI 0)) 54 5 (-1) a = _
    rw [up2_off _ _ _ ha, up2_off _ _ _ ha]
  refine ⟨I6, Rc, e_X9_begin ?_, rr, rl, ⟨fun a h1 h2' h3 _ _ _ h7 _ => by rw [o6 a h7, oe a h2' h3, o1 a h1], fun k h1 h2' => ?_⟩, ?_, hw, Kp.rf _, ?_, up2_at _ _ _ _, ?_, hU⟩
  · unfold F_X9_begin
    rw [ga_tg hS hr2, Option.bind_some, vc_g hGg2 hn, ec, toV_v, Option.bind_some, ga_th hSc hr3c, Option.bind_some, vc_h hHc2 hn, eh, toV_v, Option.bind_some, pi_54_4 hSc, Option.bind_some, pi_54_5 hSc, Option.bind_some]
  · show up2 (up2 Ie 54 4 (nI 0)) 54 5 (-1) 54 k = _
    rw [up2_nk h2', up2_nk h1, oe 54 (by omega) (by omega), o1 54 (by omega)]
  · have g6 : ∀ j, j ≤ 10 → I6 (g2 + j) = Ic (g2 + j) := fun j hj => by rw [o6 _ (by omega), oe _ (by omega) (by omega)]
    have hGc : IsG n T Rc g2 := by
      rcases hgh with ⟨e, -⟩ | ⟨e, -⟩ <;> rw [e]
      · exact St_G32 hSc
      · exact St_G58 hSc
    have r30 : Rc g2 0 = some 30 := by
      rcases hgh with ⟨e, -⟩ | ⟨e, -⟩ <;> rw [e]
      · exact hSc.2.2 (32, 0, 30) (by decide)
      · exact hSc.2.2 (58, 0, 30) (by decide)
    exact Gnd_B hG hw (fun _ _ => rfl) (St_C hSc) hGc (by omega) r30 (fun k z1 z2 => by rw [show I6 g2 = Ic g2 from g6 0 (by decide)]; exact o2 k z1 z2) (fun k hk => by rw [g6 1 (by decide)]; exact a1 k hk) (fun k hk => by rw [g6 2 (by decide)]; exact a2 k hk) (fun k hk => by rw [g6 3 (by decide)]; exact a3 k hk) (fun k hk => by rw [g6 4 (by decide)]; exact a4 k hk) (fun k hk => by rw [g6 5 (by decide)]; exact a5 k hk) (fun k hk => by rw [g6 6 (by decide)]; exact a6 k hk) (fun k hk => by rw [g6 7 (by decide)]; exact a7 k hk) (fun k hk => by rw [g6 8 (by decide)]; exact a8 k hk) (fun k hk => by rw [g6 9 (by decide)]; exact a9 k hk) rl (fun a ha => by rw [o6 a (by omega), oe a (by omega) (by omega), o1 a (by omega)]) (fun a ha => rr a (by omega))
  · show up2 (up2 Ie 54 4 (nI 0)) 54 5 (-1) 54 4 = _
    rw [up2_nk (by decide), up2_at]
  · obtain ⟨b1, b2, b3, b4, b5⟩ := hC
    rw [o6 h2 (by omega), o6 (h2 + 1) (by omega)]
    refine ⟨by rw [e1]; exact b1, b2, by rw [e2]; exact b3, b4, fun j hj => ?_⟩
    obtain ⟨y1, y2⟩ := b5 j hj
    have lt : (xx + 16 - j) % 17 < 17 := Nat.mod_lt _ (by decide)
    exact ⟨by rw [e3 _ (by omega)]; exact y1, HsR_oc y2 (fun i hi => e3 _ (by omega)) (fun _ _ _ => rfl)⟩
end OCE
