/-! prices, terms, what is earned, who is barred: both sides, as functions of the row -/
def Rlv (g h a : Nat) : Prop := rl g h a ∨ a = 0 ∨ a = 24 ∨ a = 70
/-- the class changed nothing that matters -/
def CSx (g h : Nat) (I I1 : Nat → Nat → Int32) : Prop := ∀ a, Rlv g h a ∨ (69 ≤ a ∧ a < 98) → I1 a = I a
/-- the reference changed nothing that matters -/
def MSx (I I2 : Nat → Nat → Int32) : Prop := (∀ a, a ≠ 69 → (a < 76 ∨ a = 78 ∨ 97 ≤ a) → I2 a = I a) ∧ ∀ k, k = 1 ∨ k = 8 ∨ k = 11 ∨ k = 13 ∨ k = 18 ∨ k = 20 ∨ k = 50 ∨ k = 54 ∨ k = 55 → I2 69 k = I 69 k
def MJx (J J2 : Nat → Nat → Int64) : Prop := ∀ a, a = 84 ∨ a = 85 ∨ a = 86 ∨ a = 95 → J2 a = J a
theorem Cns_J {J J2 : Nat → Nat → Int64} (h : Cns J) (hm : MJx J J2) : Cns J2 := by
  unfold Cns at h ⊢
  rw [hm 84 (by omega), hm 85 (by omega), hm 86 (by omega), hm 95 (by omega)]
  exact h
theorem Bo_rd {O : mO} {Mc Mm : mM} {as : List Value} {c u n : Nat} {T : Nat → mT} {I I1 I2 : Nat → Nat → Int32} {J J1 J2 : Nat → Nat → Int64} {R : Nat → Nat → Option Nat} {g h V F D S N x s : Nat} {a : Int32} (hI : IvW c u n T I J R g h V F D S N x s) (h1 : ev O 200 Mc (.ref 0 :: as) (hp u n T I J R) = some (some (.int a), hp u n T I1 J1 R)) (hc : CSx g h I I1) (hj : MJx J J1) (h2 : ev O 200 Mm (.ref 69 :: as) (hp u n T I1 J1 R) = some (some (.int a), hp u n T I2 J2 R)) (hm : MSx I1 I2) (hk : MJx J1 J2) : Bo O Inv Mc Mm as c (hp u n T I J R) := by
  have hg := Iv_g hI
  refine Bo_i h1 hI.1.1 h2 (Iv_rd hI (fun a ha => ?_) (fun k hk => ?_) (Cns_J (Cns_J hI.2.2.2.2.2.2.2.2.2 hj) hk)).e
  · rw [hm.1 a (by unfold rl at ha; omega) (by unfold rl at ha; omega)]
    exact hc a (Or.inl ha)
  · rw [hm.2 k hk]
    rw [hc 69 (by omega)]
theorem MSx_thr (I : Nat → Nat → Int32) (v : Int32) : MSx I (up2 I 69 0 v) := ⟨fun a h _ => up2_off _ _ _ h, fun k hk => up2_nk (by omega)⟩
theorem MSx.tr {I I1 I2 : Nat → Nat → Int32} (h1 : MSx I I1) (h2 : MSx I1 I2) : MSx I I2 := ⟨fun a h g => (h2.1 a h g).trans (h1.1 a h g), fun k hk => (h2.2 k hk).trans (h1.2 k hk)⟩
theorem MSx_SxM {I I' : Nat → Nat → Int32} {J J' : Nat → Nat → Int64} (h : SxM 69 I I' J J') : MSx I I' := ⟨fun a h1 _ => h.1 a h1, fun k hk => h.2.1 k (by omega) (by omega)⟩
theorem MJx_SxM {I I' : Nat → Nat → Int32} {J J' : Nat → Nat → Int64} (h : SxM 69 I I' J J') : MJx J J' := fun a ha => h.2.2.1 a (by omega) (by omega) (by omega)
theorem MJx_r (J : Nat → Nat → Int64) : MJx J J := fun _ _ => rfl
theorem CSx_SxC {g h : Nat} {I I' : Nat → Nat → Int32} (hg : (g = 32 ∧ h = 26) ∨ (g = 58 ∧ h = 56)) (hs : SxC I I') : CSx g h I I' := fun a ha => hs a (by unfold Rlv rl at ha; omega) (by unfold Rlv rl at ha; omega) (by unfold Rlv rl at ha; omega)
theorem Gnd_Sx {n : Nat} {T : Nat → mT} {I I' : Nat → Nat → Int32} {R : Nat → Nat → Option Nat} {g : Nat} {w : Nat → Int32} {V F D S N : Nat} (hG : Gnd n T I R g w V F D S N) (hs : SxC I I') : Gnd n T I' R g w V F D S N := by
  have h31 := hG.1.2.2.1
  exact Gnd_cg hG (fun a ha => hs a (by omega) (by omega) (by omega))
theorem SxC.tr {I I1 I2 : Nat → Nat → Int32} (h1 : SxC I I1) (h2 : SxC I1 I2) : SxC I I2 := fun a x y z => (h2 a x y z).trans (h1 a x y z)
theorem SxC.rf (I : Nat → Nat → Int32) : SxC I I := fun _ _ _ _ => rfl
theorem SxM.rf (q : Nat) (I : Nat → Nat → Int32) (J : Nat → Nat → Int64) : SxM q I I J J := ⟨fun _ _ => rfl, fun _ _ _ => rfl, fun _ _ _ _ => rfl, fun _ _ _ => rfl⟩
theorem Vo_w {w : Nat → Int32} {V F D S N k : Nat} (hw : Wf w V F D S N) (hk : k < D) : w (9 + k) = -1 ∨ ∃ v', v' < V ∧ w (9 + k) = nI v' := by
  rcases hw.2.2.2.1.2.2.2.1 k hk with z | ⟨v, t, h1, -, -, h2, -⟩
  · exact Or.inl z.1
  · exact Or.inr ⟨v, h1, h2⟩
theorem Vo_K {V : Nat} {v : Int32} (h5 : V ≤ 5) (h : v = -1 ∨ ∃ v', v' < V ∧ v = nI v') : VoK v := by
  rcases h with z | ⟨v', h1, h2⟩
  · exact Or.inl z
  · exact Or.inr ⟨v', by omega, h2⟩
section PR
variable {O : mO} {L : Nat} {xs : Nat → Int32} {d u n : Nat} {T : Nat → mT} {I : Nat → Nat → Int32} {J : Nat → Nat → Int64} {R : Nat → Nat → Option Nat} {g V F D S N k : Nat} {w : Nat → Int32}
theorem lpF_Sx {I' : Nat → Nat → Int32} (hG : Gnd n T I R g w V F D S N) (hs : SxC I I') : lpF I' R g N = lpF I R g N := by
  have h31 := hG.1.2.2.1
  unfold lpF
  rw [hs g (by omega) (by omega) (by omega)]
theorem v_cForce (hG : Gnd n T I R g w V F D S N) (hn : n ≤ oB) : ev O (d + 2) MX2_inForce [.ref g] (hp u n T I J R) = some (some (va_rf (lpF I R g N)), hp u n T I J R) := evr (c_inF hG.1 hn (SxC.rf I))
theorem v_cPrice (hO : O = mOl L xs) (hG : Gnd n T I R g w V F D S N) (hw : Wf w V F D S N) (hn : n ≤ oB) (hk : k < D) : ∃ I', ev O (d + 3) MX2_told [.ref g, va_rf (lpF I R g N), .int (nI 0), .int (nI k)] (hp u n T I J R) = some (some (.int (prR w D k)), hp u n T I' J R) ∧ SxC I I' := by
  obtain ⟨r, K', h1, h2, I', h3, h4⟩ := Rn_ev (c_gtold (d := d) (u := u) (J := J) (kd := 0) hO hG.1 (Lw_V hG hw) hn hk (by decide))
  refine ⟨I', ?_, h4⟩
  have e6 : I (g + 4) k = w (9 + k) := hG.2.2.2.2.2.2.1 k (by have := hG.1.2.2.2.2.2.2.2.2.2.1; omega)
  rw [h1, h2, h3, e6, tdL_eq hG hw (WR_d hG hw hk (Vo_w hw hk)) (by decide)]
  rfl
theorem v_cLasts (hO : O = mOl L xs) (hG : Gnd n T I R g w V F D S N) (hw : Wf w V F D S N) (hn : n ≤ oB) (hk : k < D) : ∃ I', ev O (d + 3) MX2_told [.ref g, va_rf (lpF I R g N), .int (nI 1), .int (nI k)] (hp u n T I J R) = some (some (.int (laR w D k)), hp u n T I' J R) ∧ SxC I I' := by
  obtain ⟨r, K', h1, h2, I', h3, h4⟩ := Rn_ev (c_gtold (d := d) (u := u) (J := J) (kd := 1) hO hG.1 (Lw_V hG hw) hn hk (by decide))
  refine ⟨I', ?_, h4⟩
  have e6 : I (g + 4) k = w (9 + k) := hG.2.2.2.2.2.2.1 k (by have := hG.1.2.2.2.2.2.2.2.2.2.1; omega)
  rw [h1, h2, h3, e6, tdL_eq hG hw (WR_d hG hw hk (Vo_w hw hk)) (by decide)]
  rfl
theorem v_cEarn (hO : O = mOl L xs) (hG : Gnd n T I R g w V F D S N) (hw : Wf w V F D S N) (hn : n ≤ oB) (hk : k < F) : ∃ I', ev O (d + 3) MX2_earned [.ref g, .int (nI k)] (hp u n T I J R) = some (some (.int (eaR w k)), hp u n T I' J R) ∧ SxC I I' := by
  obtain ⟨r, K', h1, h2, I', h3, h4⟩ := Rn_ev (c_earned (d := d) (u := u) (J := J) (f := nI k) hO hG.1 (Lw_V hG hw) hn)
  refine ⟨I', ?_, h4⟩
  rw [h1, h2, h3, tdL_eq hG hw (WR_f hG hk) (by decide)]
  rfl
theorem v_cBar {v : Nat} (hG : Gnd n T I R g w V F D S N) (hw : Wf w V F D S N) (hn : n ≤ oB) (hk : k < D) (hv : v < V) : ∃ I', ev O (d + 3) MX2_isBarred [.ref g, .int (nI k), .int (nI v)] (hp u n T I J R) = some (some (.int (bI (baR w D k (nI v)))), hp u n T I' J R) ∧ SxC I I' := by
  obtain ⟨r, K', h1, h2, I', h3, h4⟩ := Rn_ev (c_isBarred (O := O) (d := d) (u := u) (J := J) (v := nI v) hG.1 (Lw_V hG hw) hn hk)
  refine ⟨I', ?_, h4⟩
  rw [h1, h2, h3, brL_eq hG hw (WR_d hG hw hk (Or.inr ⟨v, hv, rfl⟩))]
  rfl
theorem Md_L (hS : St n T R) (h20 : I 69 20 = nI 0) (hw : Wf (I 71) V F D S N) : MdL n T I R 69 D F := ⟨St_M hS, h20, hw.2.1.2.2.1, hw.1.2.2.1, hw.2.1.2.1, hw.1.2.1⟩
theorem v_mPrice (hS : St n T R) (h20 : I 69 20 = nI 0) (hw : Wf (I 71) V F D S N) (hk : k < D) : ∃ I' J', ev O (d + 5) MX11_pricedAt [.ref 69, .int (nI k)] (hp u n T I J R) = some (some (.int (prR (I 71) D k)), hp u n T I' J' R) ∧ SxM 69 I I' J J' := by
  obtain ⟨f, hf, ef⟩ := hw.2.2.2.2.1 k hk
  have h5 := hw.1
  obtain ⟨r, K', h1, h2, I', J', h3, h4⟩ := Rn_ev (k_pricedAt (O := O) (d := d) (u := u) (J := J) (f := f) (Md_L hS h20 hw) hS.2.1 (Fc_M hw) (by omega) (by omega) ef (Vo_K h5.1 (Vo_w hw hk)))
  exact ⟨I', J', by rw [h1, h2, h3], h4⟩
theorem v_mLasts (hS : St n T R) (h20 : I 69 20 = nI 0) (hw : Wf (I 71) V F D S N) (hk : k < D) : ∃ I' J', ev O (d + 5) MX11_lastsOf [.ref 69, .int (nI k)] (hp u n T I J R) = some (some (.int (laR (I 71) D k)), hp u n T I' J' R) ∧ SxM 69 I I' J J' := by
  obtain ⟨f, hf, ef⟩ := hw.2.2.2.2.1 k hk
  have h5 := hw.1
  obtain ⟨r, K', h1, h2, I', J', h3, h4⟩ := Rn_ev (k_lastsOf (O := O) (d := d) (u := u) (J := J) (f := f) (Md_L hS h20 hw) hS.2.1 (Fc_M hw) (by omega) (by omega) ef (Vo_K h5.1 (Vo_w hw hk)))
  exact ⟨I', J', by rw [h1, h2, h3], h4⟩
theorem v_mEarn (hS : St n T R) (h20 : I 69 20 = nI 0) (hw : Wf (I 71) V F D S N) (hk : k < F) : ∃ I' J', ev O (d + 5) MX11_earnsOf [.ref 69, .int (nI k)] (hp u n T I J R) = some (some (.int (eaR (I 71) k)), hp u n T I' J' R) ∧ SxM 69 I I' J J' := by
  have h5 := hw.1
  obtain ⟨r, K', h1, h2, I', J', h3, h4⟩ := Rn_ev (k_earnsOf (O := O) (d := d) (u := u) (J := J) (f := k) (Md_L hS h20 hw) hS.2.1 (Fc_M hw) (by omega))
  exact ⟨I', J', by rw [h1, h2, h3], h4⟩
theorem v_mBar {v : Nat} (hS : St n T R) (h20 : I 69 20 = nI 0) (hw : Wf (I 71) V F D S N) (hk : k < D) (hv : v < V) : ∃ I' J', ev O (d + 5) MX11_isBarred [.ref 69, .int (nI k), .int (nI v)] (hp u n T I J R) = some (some (.int (bI (baR (I 71) D k (nI v)))), hp u n T I' J' R) ∧ SxM 69 I I' J J' := by
  obtain ⟨f, hf, ef⟩ := hw.2.2.2.2.1 k hk
  have h5 := hw.1
  obtain ⟨r, K', h1, h2, I', J', h3, h4⟩ := Rn_ev (k_isBarred (O := O) (d := d) (u := u) (J := J) (f := f) (v := nI v) (Md_L hS h20 hw) hS.2.1 (Fc_M hw) (by omega) (by omega) ef (Or.inr ⟨v, by omega, rfl⟩))
  exact ⟨I', J', by rw [h1, h2, h3], h4⟩
end PR
