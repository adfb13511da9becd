/-! acts: pass -/
section PA
variable {O : mO} {L : Nat} {xs : Nat → Int32} {c d u n : Nat} {T : Nat → mT} {I : Nat → Nat → Int32} {J : Nat → Nat → Int64} {R : Nat → Nat → Option Nat} {g h V F D S N x s k v : Nat} {w w' z bd : Nat → Int32} {K : mH} {ret : Int32}
theorem upK_self (f : Nat → Int32) (i : Nat) : upK f i (f i) = f := by
  funext j
  by_cases e : j = i
  · rw [e, upK_at]
  · rw [upK_ne e]
def paP (w : Nat → Int32) : Nat → Nat → Int32
  | 0 => w
  | f + 1 => upK (paP w f) (33 + f) (if w (33 + f) + eaR w f < nI 999 then w (33 + f) + eaR w f else nI 999)
def paY (z : Nat → Int32) : Nat → Nat → Int32
  | 0 => z
  | k + 1 => if z (9 + k) = -1 then paY z k else upK (upK (paY z k) (17 + k) (z (17 + k) - nI 1)) (9 + k) (if z (17 + k) - nI 1 = 0 then -1 else z (9 + k))
/-- how many leave -/
def lvF (z : Nat → Int32) : Nat → Int32
  | 0 => nI 0
  | k + 1 => if z (9 + k) = -1 then lvF z k else lvF z k + (if z (17 + k) - nI 1 = 0 then nI 1 else nI 0)
def paW (w : Nat → Int32) (F D : Nat) : Nat → Int32 := upK (paY (paP w F) D) 6 (w 6 + nI 1)
theorem paP_s (w : Nat → Int32) (f : Nat) : paP w (f + 1) = upK (paP w f) (33 + f) (if w (33 + f) + eaR w f < nI 999 then w (33 + f) + eaR w f else nI 999) := rfl
theorem paY_s1 (h : z (9 + k) = -1) : paY z (k + 1) = paY z k := if_pos h
theorem paY_s2 (h : z (9 + k) ≠ -1) : paY z (k + 1) = upK (upK (paY z k) (17 + k) (z (17 + k) - nI 1)) (9 + k) (if z (17 + k) - nI 1 = 0 then -1 else z (9 + k)) := if_neg h
theorem paP_off : ∀ {f i : Nat}, i < 33 ∨ 33 + f ≤ i → paP w f i = w i
  | 0, _, _ => rfl
  | f + 1, i, h => by
    rw [paP_s, upK_ne (by omega)]
    exact paP_off (by omega)
theorem paY_off : ∀ {k i : Nat}, (i < 9 ∨ 9 + k ≤ i) → (i < 17 ∨ 17 + k ≤ i) → paY z k i = z i
  | 0, _, _, _ => rfl
  | k + 1, i, h1, h2 => by
    by_cases h : z (9 + k) = -1
    · rw [paY_s1 h]
      exact paY_off (by omega) (by omega)
    · rw [paY_s2 h, upK_ne (by omega), upK_ne (by omega)]
      exact paY_off (by omega) (by omega)
theorem eaR_cg {f : Nat} (h : ∀ i, i = 33 + f ∨ i < 9 ∨ 110 ≤ i → w' i = w i) : eaR w' f = eaR w f := by
  have e : sfW w' f = sfW w f := by
    funext o
    unfold sfW
    split <;> first | rfl | rw [h _ (by omega)]
  unfold eaR
  rw [e, telR_cg (fun i hi => h i (by omega)) (h 5 (by omega))]
theorem WfS_y {y : Nat} (hs : WfS z bd V F D) (hy : y ≤ 999) : WfS (upK z 6 (nI y)) bd V F D := by
  obtain ⟨a1, a2, a3, a4, a5, a6, a7⟩ := hs
  refine ⟨by rw [upK_at]; exact ⟨y, hy, rfl⟩, by (try simp (disch := omega) only [upK_at, upK_ne]); exact a2, by (try simp (disch := omega) only [upK_at, upK_ne]); exact a3, fun j hj => by (try simp (disch := omega) only [upK_at, upK_ne]); exact a4 j hj, fun j hj => by (try simp (disch := omega) only [upK_at, upK_ne]); exact a5 j hj, fun j hj => by (try simp (disch := omega) only [upK_at, upK_ne]); exact a6 j hj, fun v hv => ?_⟩
  rw [cnt_cg (w := fun j => z (9 + j)) (fun j hj => upK_ne (by omega))]
  exact a7 v hv
theorem WfS_out (hs : WfS z bd V F D) (h8 : D ≤ 8) (hV : V ≤ 5) (hk : k < D) : WfS (upK (upK z (17 + k) (nI 0)) (9 + k) (-1)) bd V F D := by
  obtain ⟨a1, a2, a3, a4, a5, a6, a7⟩ := hs
  refine ⟨by (try simp (disch := omega) only [upK_at, upK_ne]); exact a1, by (try simp (disch := omega) only [upK_at, upK_ne]); exact a2, by (try simp (disch := omega) only [upK_at, upK_ne]); exact a3, fun j hj => ?_, fun j hj => by (try simp (disch := omega) only [upK_at, upK_ne]); exact a5 j hj, fun j hj => by (try simp (disch := omega) only [upK_at, upK_ne]); exact a6 j hj, fun v hv => ?_⟩
  · by_cases e : j = k
    · subst e
      left
      rw [upK_at, upK_ne (by omega), upK_at]
      exact ⟨rfl, rfl⟩
    · rw [upK_ne (show 9 + j ≠ 9 + k by omega), upK_ne (show 9 + j ≠ 17 + k by omega), upK_ne (show 17 + j ≠ 9 + k by omega), upK_ne (show 17 + j ≠ 17 + k by omega)]
      exact a4 j hj
  · obtain ⟨b, e1, e2, e3, e4⟩ := a7 v hv
    refine ⟨b, e1, e2, e3, Nat.le_trans (cnt_2 (w := fun j => z (9 + j)) (k := k) ?_ (fun j hj hn => by rw [upK_ne (by omega), upK_ne (by omega)])) e4⟩
    rw [upK_at]
    have hm1 : ∀ v, v < 5 → (-1 : Int32) ≠ nI v := by decide +kernel
    exact hm1 v (by omega)
theorem pu_n (hw : Wf w V F D S N) {f : Nat} (hf : f < F) : ∃ m e, m ≤ 999 ∧ e ≤ 99 ∧ w (33 + f) = nI m ∧ eaR w f = nI e ∧ (if w (33 + f) + eaR w f < nI 999 then w (33 + f) + eaR w f else nI 999) = nI (min (m + e) 999) := by
  obtain ⟨m, hm, em⟩ := hw.2.2.2.1.2.2.2.2.2.1 f hf
  obtain ⟨e, he, ee⟩ := eaR_n w f
  refine ⟨m, e, hm, he, em, ee, ?_⟩
  rw [em, ee, nI_add, mi_n (by omega) (by omega)]
theorem WfS_paP (hw : Wf w V F D S N) : ∀ f, f ≤ F → WfS (paP w f) (fun v => w (37 + v)) V F D
  | 0, _ => hw.2.2.2.1
  | f + 1, h => by
    have h8 := hw.1
    obtain ⟨m, e, hm, he, e1, e2, e3⟩ := pu_n hw (show f < F by omega)
    rw [paP_s, e3]
    exact WfS_pu (WfS_paP hw f (by omega)) (by omega) (by omega) (by omega) (by omega)
theorem Wf_paP (hw : Wf w V F D S N) {f : Nat} (hf : f ≤ F) : Wf (paP w f) V F D S N := by
  have h8 := hw.1
  exact Wf_S hw (WfS_paP hw f hf) (fun _ _ _ => rfl) (fun i hi => paP_off (by omega))
theorem WfS_paY (hw : Wf z V F D S N) : ∀ k, k ≤ D → WfS (paY z k) (fun v => z (37 + v)) V F D
  | 0, _ => hw.2.2.2.1
  | k + 1, h => by
    have h8 := hw.1
    have ih := WfS_paY hw k (by omega)
    by_cases hi : z (9 + k) = -1
    · rw [paY_s1 hi]
      exact ih
    · obtain ⟨v, t, h1, h2, h3, h4, h5⟩ := Wf_in hw (show k < D by omega) hi
      rw [paY_s2 hi, h5, nI_sub h2]
      by_cases h0 : t = 1
      · subst h0
        rw [if_pos (by decide)]
        exact WfS_out ih (by omega) (by omega) (by omega)
      · have hne : ¬ nI (t - 1) = 0 := fun e => absurd ((nI_eq (a := t - 1) (b := 0) (by omega) (by omega)).mp e) (by omega)
        have e9 : paY z k (9 + k) = z (9 + k) := paY_off (by omega) (by omega)
        have es : upK (upK (paY z k) (17 + k) (nI (t - 1))) (9 + k) (z (9 + k)) = upK (paY z k) (17 + k) (nI (t - 1)) := by
          have := upK_self (upK (paY z k) (17 + k) (nI (t - 1))) (9 + k)
          rw [upK_ne (show 9 + k ≠ 17 + k by omega), e9] at this
          exact this
        rw [if_neg hne, es]
        exact WfS_t ih (by omega) (by omega) (by rw [e9]; exact hi) (by omega) (by omega)
theorem Wf_paW (hw : Wf w V F D S N) {y : Nat} (h6 : w 6 = nI y) (hy : y < 999) : Wf (paW w F D) V F D S N ∧ Kp w (paW w F D) := by
  have h8 := hw.1
  have hz := Wf_paP hw (Nat.le_refl F)
  have o : ∀ i, i < 6 ∨ i = 7 ∨ i = 8 ∨ 37 ≤ i → paW w F D i = w i := by
    intro i hi
    unfold paW
    rw [upK_ne (by omega), paY_off (by omega) (by omega), paP_off (by omega)]
  refine ⟨Wf_S hw (z := paW w F D) ?_ (fun _ _ _ => rfl) (fun i hi => o i (by omega)), o⟩
  unfold paW
  rw [h6, nI_add]
  exact WfS_cg (WfS_y (WfS_paY hz D (Nat.le_refl D)) (show y + 1 ≤ 999 by omega)) (by omega) (by omega) (fun _ _ _ => rfl) (fun v hv => (paP_off (by omega)).symm)
/-- the class: upon any ground -/
theorem c_pa (hO : O = mOl L xs) (hS : St n T R) (hG : Gnd n T I R g w V F D S N) (hw : Wf w V F D S N) (hn : n ≤ oB) (h98 : g + 10 < 98) {y : Nat} (h6 : w 6 = nI y) (hy : y ≤ 999) : ∃ I1, ev O (d + 3) MX2_passYear [.ref g] (hp u n T I J R) = some (some (.int (if y < 999 then nI (y + 1) else -3)), hp u n T I1 J R) ∧ Gnd n T I1 R g (if y < 999 then paW w F D else w) V F D S N ∧ CAo g I I1 := by
  have h8 := hw.1
  have c2 := hG.1.2.1
  have rd9 : ∀ (I' : Nat → Nat → Int32), rdI O (hp u n T I' J R) (g + 9) (nI 0) = some (I' (g + 9) 0) := by
    intro I'
    simp (disch := first | assumption | omega) only [ga_g_1, ga_g_2, ga_g_3, ga_g_4, ga_g_5, ga_g_6, ga_g_7, ga_g_8, ga_g_9, ga_g_10, gi_g_11, pi_g_11, gi_g_12, pi_g_12, gi_g_13, pi_g_13, gi_g_14, pi_g_14, gi_g_15, pi_g_15, gi_g_16, pi_g_16, gi_g_17, pi_g_17, ga_g_0, vc_g, rd_g_1, wr_g_1, ln_g_1, rd_g_2, wr_g_2, ln_g_2, rd_g_3, wr_g_3, ln_g_3, rd_g_4, wr_g_4, ln_g_4, rd_g_5, wr_g_5, ln_g_5, rd_g_6, wr_g_6, ln_g_6, rd_g_7, wr_g_7, ln_g_7, rd_g_8, wr_g_8, ln_g_8, rd_g_9, wr_g_9, ln_g_9, rd_g_10]
  have q10 : I (g + 9) 0 = nI y := (hG.2.2.2.2.2.2.2.2.2.2.1 0 (by decide)).trans h6
  by_cases hlt : y < 999
  · have L1 : ∃ r, lupF (fun (q : Int32 × mH) => F_X2_passYear_l17 O (d + 2) g q.1 q.2) FU (nI 0, hp u n T I J R) = some r ∧ (fun r => ∃ I', r = hp u n T I' J R ∧ Gnd n T I' R g (paP w F) V F D S N ∧ CAo g I I') r := by
      refine lup_P0 (fun m s => ∃ I', s = (nI m, hp u n T I' J R) ∧ Gnd n T I' R g (paP w m) V F D S N ∧ CAo g I I') _ (N := F) (by omega) ⟨I, rfl, hG, fun _ _ _ _ _ => rfl⟩ ?_ ?_
      · intro m s hm ⟨I1, hs, g1, o1⟩
        subst hs
        left
        have hw1 := Wf_paP hw (Nat.le_of_lt hm)
        obtain ⟨I2, a1, a2, a3⟩ := v_askF (O := O) (d := d + 1) (u := u) (J := J) (f := nI m) g1 hn
        obtain ⟨I3, a4, a5, a6⟩ := v_toldX (d := d) (u := u) (J := J) (kd := 2) hO g1 hw1 hn (by decide) a2 a3
        obtain ⟨pm, pe, pm1, pe1, em, ee, ek⟩ := pu_n hw hm
        rw [tdL_eq g1 hw1 (WR_f g1 hm) (by decide), show wiF (telR (paP w m) (sfW (paP w m) m) (nI 2) (woT 2).toInt64) (lsT 2) (msT 2) = eaR (paP w m) m from rfl, eaR_cg (w := w) (fun i hi => paP_off (by omega)), ee] at a4
        have g3 := Gnd_Sx g1 a5
        have r2 : ∀ I' : Nat → Nat → Int32, rdI O (hp u n T I' J R) (g + 2) (nI m) = some (I' (g + 2) m) := by
          intro I'
          simp (disch := first | assumption | omega) only [ga_g_1, ga_g_2, ga_g_3, ga_g_4, ga_g_5, ga_g_6, ga_g_7, ga_g_8, ga_g_9, ga_g_10, gi_g_11, pi_g_11, gi_g_12, pi_g_12, gi_g_13, pi_g_13, gi_g_14, pi_g_14, gi_g_15, pi_g_15, gi_g_16, pi_g_16, gi_g_17, pi_g_17, ga_g_0, vc_g, rd_g_1, wr_g_1, ln_g_1, rd_g_2, wr_g_2, ln_g_2, rd_g_3, wr_g_3, ln_g_3, rd_g_4, wr_g_4, ln_g_4, rd_g_5, wr_g_5, ln_g_5, rd_g_6, wr_g_6, ln_g_6, rd_g_7, wr_g_7, ln_g_7, rd_g_8, wr_g_8, ln_g_8, rd_g_9, wr_g_9, ln_g_9, rd_g_10]
        have g2 := Gnd_Sx g1 a2
        have v2 : I2 (g + 2) m = nI pm := by rw [g2.2.2.2.2.1 m (by omega), paP_off (by omega)]; exact em
        have w2 : wrI (hp u n T I3 J R) (g + 2) (nI m) (nI (min (pm + pe) 999)) = some (hp u n T (up2 I3 (g + 2) m (nI (min (pm + pe) 999))) J R) := by simp (disch := first | assumption | omega) only [ga_g_1, ga_g_2, ga_g_3, ga_g_4, ga_g_5, ga_g_6, ga_g_7, ga_g_8, ga_g_9, ga_g_10, gi_g_11, pi_g_11, gi_g_12, pi_g_12, gi_g_13, pi_g_13, gi_g_14, pi_g_14, gi_g_15, pi_g_15, gi_g_16, pi_g_16, gi_g_17, pi_g_17, ga_g_0, vc_g, rd_g_1, wr_g_1, ln_g_1, rd_g_2, wr_g_2, ln_g_2, rd_g_3, wr_g_3, ln_g_3, rd_g_4, wr_g_4, ln_g_4, rd_g_5, wr_g_5, ln_g_5, rd_g_6, wr_g_6, ln_g_6, rd_g_7, wr_g_7, ln_g_7, rd_g_8, wr_g_8, ln_g_8, rd_g_9, wr_g_9, ln_g_9, rd_g_10]
        refine ⟨(nI (m + 1), hp u n T (up2 I3 (g + 2) m (nI (min (pm + pe) 999))) J R), ?_, _, rfl, ?_, fun a ha z1 z2 z3 => by rw [up2_off _ _ _ (by omega), a5 a z1 z2 z3]; exact o1 a ha z1 z2 z3⟩
        · dsimp only
          unfold F_X2_passYear_l17
          rw [gi_g_12 c2 hn, Option.bind_some, g1.1.2.2.2.2.2.2.1, if_neg (nI_ge hm (by omega)), ga_g0 g1 hn, Option.bind_some, vc_30 hS, a1, toV_v, Option.bind_some, ga_g_2 c2 hn, Option.bind_some, Option.bind_some, r2, Option.bind_some, v2, ga_g0 g1 hn, Option.bind_some, vc_g c2 hn, v_forceX g1 hn a2, toR_r, Option.bind_some, vc_30 hS, a4, toI_i, Option.bind_some]
          dsimp only
          rw [nI_add, mi_n (by omega) (by omega), w2, Option.bind_some, nI_add]
        · obtain ⟨-, q1, q2, q3, q4, q5, q6, q7, q8, q9, q10, q11, ql⟩ := id g3
          rw [paP_s, ek]
          refine Gnd_ch g3 (fun j hj => by rw [up2_na (by omega)]) (fun j hj => by rw [up2_off _ _ _ (by omega)]) (fun i hi => by (try simp (disch := omega) only [upK_at, upK_ne])) (fun j hj => ?_) (fun j hj => by (try simp (disch := omega) only [up2_at, up2_na, up2_nk, up2_off]); (try simp (disch := omega) only [upK_at, upK_ne]); exact q6 j hj) (fun j hj => by (try simp (disch := omega) only [up2_at, up2_na, up2_nk, up2_off]); (try simp (disch := omega) only [upK_at, upK_ne]); exact q7 j hj) (fun j hj => by (try simp (disch := omega) only [up2_at, up2_na, up2_nk, up2_off]); (try simp (disch := omega) only [upK_at, upK_ne]); exact q10 j hj) (fun j hj => by (try simp (disch := omega) only [up2_at, up2_na, up2_nk, up2_off]); (try simp (disch := omega) only [upK_at, upK_ne]); exact q11 j hj) (fun a ha => by rw [up2_off _ _ _ (by omega)])
          by_cases e : j = m
          · rw [e, up2_at, upK_at]
          · rw [up2_nk e, upK_ne (by omega)]
            exact q4 j hj
      · intro s ⟨I1, hs, g1, o1⟩
        subst hs
        refine ⟨_, ?_, I1, rfl, g1, o1⟩
        dsimp only
        unfold F_X2_passYear_l17
        rw [gi_g_12 c2 hn, Option.bind_some, g1.1.2.2.2.2.2.2.1, if_pos (nI_le (Nat.le_refl F) (by omega))]
    obtain ⟨r1, e1, I1, hr1, g1, o1⟩ := L1
    have hz := Wf_paP hw (Nat.le_refl F)
    have L2 : ∃ r, lupF (fun (q : Int32 × mH) => F_X2_passYear_l73 O (d + 2) g q.1 q.2) FU (nI 0, hp u n T I1 J R) = some r ∧ (fun r => ∃ I', r = hp u n T I' J R ∧ Gnd n T I' R g (paY (paP w F) D) V F D S N ∧ CAo g I I') r := by
      refine lup_P0 (fun m s => ∃ I', s = (nI m, hp u n T I' J R) ∧ Gnd n T I' R g (paY (paP w F) m) V F D S N ∧ CAo g I I') _ (N := D) (by omega) ⟨I1, rfl, g1, o1⟩ ?_ ?_
      · intro m s hm ⟨I2, hs, g2, o2⟩
        subst hs
        left
        obtain ⟨⟨-, -, -, -, c5', -, c7', -, c9', c10', c11', -⟩, q1, q2, q3, q4, q5, q6, q7, q8, q9, q10, q11, ql⟩ := id g2
        have e9 : paY (paP w F) m (9 + m) = paP w F (9 + m) := paY_off (by omega) (by omega)
        have e17 : paY (paP w F) m (17 + m) = paP w F (17 + m) := paY_off (by omega) (by omega)
        have isI := v_cIsIn (O := O) (d := d + 1) (u := u) (I := I2) (J := J) (v := nI m) c2 hn c9' c10'
        rw [inR_nI hm (by omega), Bool.true_and, nI_clamp (by omega), q6 m (by omega), e9] at isI
        by_cases hi : paP w F (9 + m) = -1
        · refine ⟨(nI (m + 1), hp u n T I2 J R), ?_, I2, rfl, by rw [paY_s1 hi]; exact g2, o2⟩
          dsimp only
          unfold F_X2_passYear_l73
          rw [gi_g_13 c2 hn, Option.bind_some, c9', if_neg (nI_ge hm (by omega)), vc_g c2 hn, isI, toI_i, Option.bind_some, if_pos (by rw [decide_eq_false (fun z => z hi)]; rfl), nI_add]
        · obtain ⟨v, t, h1, h2, h3, h4, h5⟩ := Wf_in hz hm hi
          have r5 : rdI O (hp u n T I2 J R) (g + 5) (nI m) = some (nI t) := by simp (disch := first | assumption | omega) only [ga_g_1, ga_g_2, ga_g_3, ga_g_4, ga_g_5, ga_g_6, ga_g_7, ga_g_8, ga_g_9, ga_g_10, gi_g_11, pi_g_11, gi_g_12, pi_g_12, gi_g_13, pi_g_13, gi_g_14, pi_g_14, gi_g_15, pi_g_15, gi_g_16, pi_g_16, gi_g_17, pi_g_17, ga_g_0, vc_g, rd_g_1, wr_g_1, ln_g_1, rd_g_2, wr_g_2, ln_g_2, rd_g_3, wr_g_3, ln_g_3, rd_g_4, wr_g_4, ln_g_4, rd_g_5, wr_g_5, ln_g_5, rd_g_6, wr_g_6, ln_g_6, rd_g_7, wr_g_7, ln_g_7, rd_g_8, wr_g_8, ln_g_8, rd_g_9, wr_g_9, ln_g_9, rd_g_10, q7 m (by omega), e17, h5]
          have w5 : wrI (hp u n T I2 J R) (g + 5) (nI m) (nI (t - 1)) = some (hp u n T (up2 I2 (g + 5) m (nI (t - 1))) J R) := by simp (disch := first | assumption | omega) only [ga_g_1, ga_g_2, ga_g_3, ga_g_4, ga_g_5, ga_g_6, ga_g_7, ga_g_8, ga_g_9, ga_g_10, gi_g_11, pi_g_11, gi_g_12, pi_g_12, gi_g_13, pi_g_13, gi_g_14, pi_g_14, gi_g_15, pi_g_15, gi_g_16, pi_g_16, gi_g_17, pi_g_17, ga_g_0, vc_g, rd_g_1, wr_g_1, ln_g_1, rd_g_2, wr_g_2, ln_g_2, rd_g_3, wr_g_3, ln_g_3, rd_g_4, wr_g_4, ln_g_4, rd_g_5, wr_g_5, ln_g_5, rd_g_6, wr_g_6, ln_g_6, rd_g_7, wr_g_7, ln_g_7, rd_g_8, wr_g_8, ln_g_8, rd_g_9, wr_g_9, ln_g_9, rd_g_10]
          have r5' : rdI O (hp u n T (up2 I2 (g + 5) m (nI (t - 1))) J R) (g + 5) (nI m) = some (nI (t - 1)) := by simp (disch := first | assumption | omega) only [ga_g_1, ga_g_2, ga_g_3, ga_g_4, ga_g_5, ga_g_6, ga_g_7, ga_g_8, ga_g_9, ga_g_10, gi_g_11, pi_g_11, gi_g_12, pi_g_12, gi_g_13, pi_g_13, gi_g_14, pi_g_14, gi_g_15, pi_g_15, gi_g_16, pi_g_16, gi_g_17, pi_g_17, ga_g_0, vc_g, rd_g_1, wr_g_1, ln_g_1, rd_g_2, wr_g_2, ln_g_2, rd_g_3, wr_g_3, ln_g_3, rd_g_4, wr_g_4, ln_g_4, rd_g_5, wr_g_5, ln_g_5, rd_g_6, wr_g_6, ln_g_6, rd_g_7, wr_g_7, ln_g_7, rd_g_8, wr_g_8, ln_g_8, rd_g_9, wr_g_9, ln_g_9, rd_g_10, up2_at]
          have r4 : rdI O (hp u n T (up2 I2 (g + 5) m (nI (t - 1))) J R) (g + 4) (nI m) = some (paP w F (9 + m)) := by simp (disch := first | assumption | omega) only [ga_g_1, ga_g_2, ga_g_3, ga_g_4, ga_g_5, ga_g_6, ga_g_7, ga_g_8, ga_g_9, ga_g_10, gi_g_11, pi_g_11, gi_g_12, pi_g_12, gi_g_13, pi_g_13, gi_g_14, pi_g_14, gi_g_15, pi_g_15, gi_g_16, pi_g_16, gi_g_17, pi_g_17, ga_g_0, vc_g, rd_g_1, wr_g_1, ln_g_1, rd_g_2, wr_g_2, ln_g_2, rd_g_3, wr_g_3, ln_g_3, rd_g_4, wr_g_4, ln_g_4, rd_g_5, wr_g_5, ln_g_5, rd_g_6, wr_g_6, ln_g_6, rd_g_7, wr_g_7, ln_g_7, rd_g_8, wr_g_8, ln_g_8, rd_g_9, wr_g_9, ln_g_9, rd_g_10, up2_na, q6 m (by omega), e9]
          have w4 : ∀ b : Int32, wrI (hp u n T (up2 I2 (g + 5) m (nI (t - 1))) J R) (g + 4) (nI m) b = some (hp u n T (up2 (up2 I2 (g + 5) m (nI (t - 1))) (g + 4) m b) J R) := by
            intro b
            simp (disch := first | assumption | omega) only [ga_g_1, ga_g_2, ga_g_3, ga_g_4, ga_g_5, ga_g_6, ga_g_7, ga_g_8, ga_g_9, ga_g_10, gi_g_11, pi_g_11, gi_g_12, pi_g_12, gi_g_13, pi_g_13, gi_g_14, pi_g_14, gi_g_15, pi_g_15, gi_g_16, pi_g_16, gi_g_17, pi_g_17, ga_g_0, vc_g, rd_g_1, wr_g_1, ln_g_1, rd_g_2, wr_g_2, ln_g_2, rd_g_3, wr_g_3, ln_g_3, rd_g_4, wr_g_4, ln_g_4, rd_g_5, wr_g_5, ln_g_5, rd_g_6, wr_g_6, ln_g_6, rd_g_7, wr_g_7, ln_g_7, rd_g_8, wr_g_8, ln_g_8, rd_g_9, wr_g_9, ln_g_9, rd_g_10]
          refine ⟨(nI (m + 1), hp u n T (up2 (up2 I2 (g + 5) m (nI (t - 1))) (g + 4) m (if nI (t - 1) = 0 then -1 else paP w F (9 + m))) J R), ?_, _, rfl, ?_, fun a ha z1 z2 z3 => by rw [up2_off _ _ _ (by omega), up2_off _ _ _ (by omega)]; exact o2 a ha z1 z2 z3⟩
          · dsimp only
            unfold F_X2_passYear_l73 F_X2_passYear_j123
            rw [gi_g_13 c2 hn, Option.bind_some, c9', if_neg (nI_ge hm (by omega)), vc_g c2 hn, isI, toI_i, Option.bind_some, if_neg (by rw [decide_eq_true hi]; exact nbt), ga_g_5 c2 hn, Option.bind_some, r5, Option.bind_some, nI_sub h2, w5, Option.bind_some, ga_g_4 c2 hn, Option.bind_some, ga_g_5 c2 hn, Option.bind_some, r5', Option.bind_some]
            by_cases h0 : nI (t - 1) = 0
            · rw [if_pos h0, if_pos h0, w4, Option.bind_some, nI_add]
            · rw [if_neg h0, if_neg h0, Option.bind_some, r4, Option.bind_some, w4, Option.bind_some, nI_add]
          · rw [paY_s2 hi, h5, nI_sub h2]
            refine Gnd_ch g2 (fun j hj => by rw [up2_na (by omega), up2_na (by omega)]) (fun j hj => by rw [up2_off _ _ _ (by omega), up2_off _ _ _ (by omega)]) (fun i hi => by (try simp (disch := omega) only [upK_at, upK_ne])) (fun j hj => by (try simp (disch := omega) only [up2_at, up2_na, up2_nk, up2_off]); (try simp (disch := omega) only [upK_at, upK_ne]); exact q4 j hj) (fun j hj => ?_) (fun j hj => ?_) (fun j hj => by (try simp (disch := omega) only [up2_at, up2_na, up2_nk, up2_off]); (try simp (disch := omega) only [upK_at, upK_ne]); exact q10 j hj) (fun j hj => by (try simp (disch := omega) only [up2_at, up2_na, up2_nk, up2_off]); (try simp (disch := omega) only [upK_at, upK_ne]); exact q11 j hj) (fun a ha => by rw [up2_off _ _ _ (by omega), up2_off _ _ _ (by omega)])
            · by_cases e : j = m
              · rw [e, up2_at, upK_at]
              · rw [up2_nk e, up2_na (by omega), upK_ne (by omega), upK_ne (by omega)]
                exact q6 j hj
            · by_cases e : j = m
              · rw [e, up2_na (by omega), up2_at, upK_ne (by omega), upK_at]
              · rw [up2_na (by omega), up2_nk e, upK_ne (by omega), upK_ne (by omega)]
                exact q7 j hj
      · intro s ⟨I2, hs, g2, o2⟩
        subst hs
        refine ⟨_, ?_, I2, rfl, g2, o2⟩
        dsimp only
        unfold F_X2_passYear_l73
        rw [gi_g_13 c2 hn, Option.bind_some, g2.1.2.2.2.2.2.2.2.2.1, if_pos (nI_le (Nat.le_refl D) (by omega))]
    obtain ⟨r2, e2, I2, hr2, g2, o2⟩ := L2
    obtain ⟨-, q1, q2, q3, q4, q5, q6, q7, q8, q9, q10', q11, ql⟩ := id g2
    have y2 : I2 (g + 9) 0 = nI y := by rw [q10' 0 (by decide), paY_off (by omega) (by omega), paP_off (by omega)]; exact h6
    have w9 : wrI (hp u n T I2 J R) (g + 9) (nI 0) (nI (y + 1)) = some (hp u n T (up2 I2 (g + 9) 0 (nI (y + 1))) J R) := by simp (disch := first | assumption | omega) only [ga_g_1, ga_g_2, ga_g_3, ga_g_4, ga_g_5, ga_g_6, ga_g_7, ga_g_8, ga_g_9, ga_g_10, gi_g_11, pi_g_11, gi_g_12, pi_g_12, gi_g_13, pi_g_13, gi_g_14, pi_g_14, gi_g_15, pi_g_15, gi_g_16, pi_g_16, gi_g_17, pi_g_17, ga_g_0, vc_g, rd_g_1, wr_g_1, ln_g_1, rd_g_2, wr_g_2, ln_g_2, rd_g_3, wr_g_3, ln_g_3, rd_g_4, wr_g_4, ln_g_4, rd_g_5, wr_g_5, ln_g_5, rd_g_6, wr_g_6, ln_g_6, rd_g_7, wr_g_7, ln_g_7, rd_g_8, wr_g_8, ln_g_8, rd_g_9, wr_g_9, ln_g_9, rd_g_10]
    refine ⟨up2 I2 (g + 9) 0 (nI (y + 1)), e_X2_passYear (d := d + 2) ?_, ?_, fun a ha z1 z2 z3 => by rw [up2_off _ _ _ (by omega)]; exact o2 a ha z1 z2 z3⟩
    · unfold F_X2_passYear
      rw [ga_g_9 c2 hn, Option.bind_some, rd9, Option.bind_some, q10, if_pos ((nI_ltI (by omega) (by omega)).mpr hlt), e1, hr1, Option.bind_some, e2, hr2, Option.bind_some, ga_g_9 c2 hn, Option.bind_some, rd9, Option.bind_some, y2, nI_add, w9, Option.bind_some, ga_g_9 c2 hn, Option.bind_some, rd9, Option.bind_some, up2_at, if_pos hlt]
    · rw [if_pos hlt]
      unfold paW
      rw [h6, nI_add]
      refine Gnd_ch g2 (fun j hj => by rw [up2_na (by omega)]) (fun j hj => by rw [up2_off _ _ _ (by omega)]) (fun i hi => by (try simp (disch := omega) only [upK_at, upK_ne])) (fun j hj => by (try simp (disch := omega) only [up2_at, up2_na, up2_nk, up2_off]); (try simp (disch := omega) only [upK_at, upK_ne]); exact q4 j hj) (fun j hj => by (try simp (disch := omega) only [up2_at, up2_na, up2_nk, up2_off]); (try simp (disch := omega) only [upK_at, upK_ne]); exact q6 j hj) (fun j hj => by (try simp (disch := omega) only [up2_at, up2_na, up2_nk, up2_off]); (try simp (disch := omega) only [upK_at, upK_ne]); exact q7 j hj) (fun j hj => ?_) (fun j hj => by (try simp (disch := omega) only [up2_at, up2_na, up2_nk, up2_off]); (try simp (disch := omega) only [upK_at, upK_ne]); exact q11 j hj) (fun a ha => by rw [up2_off _ _ _ (by omega)])
      by_cases e : j = 0
      · rw [e, up2_at, upK_at]
      · rw [up2_nk e, upK_ne (by omega)]
        exact q10' j hj
  · refine ⟨I, e_X2_passYear (d := d + 2) ?_, by rw [if_neg hlt]; exact hG, fun _ _ _ _ _ => rfl⟩
    unfold F_X2_passYear
    rw [ga_g_9 c2 hn, Option.bind_some, rd9, Option.bind_some, q10, if_neg (fun z => hlt ((nI_ltI (by omega) (by omega)).mp z)), if_neg hlt]
/-- the reference -/
theorem m_pa (hS : St n T R) (h20 : I 69 20 = nI 0) (hw : Wf (I 71) V F D S N) : ∃ I' J', ev O (d + 6) MX11_passIt [.ref 69] (hp u n T I J R) = some (some (.int (lvF (paP (I 71) F) D)), hp u n T I' J' R) ∧ I' 71 = paW (I 71) F D ∧ (∀ a, a ≠ 69 → a ≠ 71 → a ≠ 90 → I' a = I a) ∧ (∀ k, k ≠ 34 → k ≠ 38 → I' 69 k = I 69 k) ∧ MJx J J' ∧ JkM J J' := by
  have h8 := hw.1
  have L1 : ∃ r, lupF (fun (q : Int32 × mH) => F_X11_passIt_l2 O (d + 5) 69 q.1 q.2) FU (nI 0, hp u n T I J R) = some r ∧ (fun r => ∃ I' J', r = hp u n T I' J' R ∧ (∀ a, a ≠ 69 → a ≠ 90 → I' a = I a) ∧ (∀ j, j < F → I' 90 j = eaR (I 71) j) ∧ (∀ k, k ≠ 34 → k ≠ 38 → I' 69 k = I 69 k) ∧ MJx J J' ∧ JkM J J') r := by
    refine lup_P0 (fun m s => ∃ I' J', s = (nI m, hp u n T I' J' R) ∧ (∀ a, a ≠ 69 → a ≠ 90 → I' a = I a) ∧ (∀ j, j < m → I' 90 j = eaR (I 71) j) ∧ (∀ k, k ≠ 34 → k ≠ 38 → I' 69 k = I 69 k) ∧ MJx J J' ∧ JkM J J') _ (N := F) (by omega) ⟨I, J, rfl, fun _ _ _ => rfl, fun j hj => absurd hj (Nat.not_lt_zero j), fun _ _ _ => rfl, MJx_r J, fun _ _ _ => rfl⟩ ?_ ?_
    · intro m s hm ⟨I1, J1, hs, a1, a2, a3, a4, a5⟩
      subst hs
      left
      have e71 : I1 71 = I 71 := a1 71 (by decide) (by decide)
      obtain ⟨I2, J2, b1, b2⟩ := v_mEarn (O := O) (d := d) (u := u) (J := J1) (I := I1) hS (by rw [a3 20 (by decide) (by decide)]; exact h20) (by rw [e71]; exact hw) hm
      rw [e71] at b1
      have w1 : I1 71 1 = nI F := by rw [e71]; exact hw.2.1.2.1
      refine ⟨(nI (m + 1), hp u n T (up2 I2 90 m (eaR (I 71) m)) J2 R), ?_, _, J2, rfl, fun a z1 z2 => by rw [up2_off _ _ _ z2, b2.1 a z1]; exact a1 a z1 z2, fun j hj => ?_, fun k z1 z2 => by rw [up2_na (by decide), b2.2.1 k z1 z2]; exact a3 k z1 z2, fun a ha => (MJx_SxM b2 a ha).trans (a4 a ha), fun j z1 z2 => (b2.2.2.2 j z1 z2).trans (a5 j z1 z2)⟩
      · dsimp only
        unfold F_X11_passIt_l2
        rw [ga_69_3 hS, Option.bind_some, show rdI O (hp u n T I1 J1 R) 71 (nI 1) = some (nI F) by simp (disch := first | assumption | omega) only [vc_69, gi_69_0, pi_69_0, gi_69_1, pi_69_1, ga_69_2, ga_69_3, ga_69_4, ga_69_5, ga_69_6, ga_69_7, gi_69_8, pi_69_8, ga_69_9, ga_69_10, gi_69_11, pi_69_11, ga_69_12, gi_69_13, pi_69_13, gi_69_14, pi_69_14, gi_69_15, pi_69_15, gi_69_16, pi_69_16, gj_69_17, pj_69_17, gi_69_18, pi_69_18, gi_69_19, pi_69_19, gi_69_20, pi_69_20, gi_69_21, pi_69_21, ga_69_22, gi_69_23, pi_69_23, ga_69_24, ga_69_25, gi_69_26, pi_69_26, ga_69_27, ga_69_28, gi_69_29, pi_69_29, gi_69_30, pi_69_30, ga_69_31, ga_69_32, ga_69_33, gi_69_34, pi_69_34, ga_69_35, ga_69_36, ga_69_37, gi_69_38, pi_69_38, gj_69_39, pj_69_39, gj_69_40, pj_69_40, ga_69_41, ga_69_42, ga_69_43, ga_69_44, ga_69_45, ga_69_46, ga_69_47, gi_69_48, pi_69_48, gi_69_49, pi_69_49, gi_69_50, pi_69_50, gi_69_51, pi_69_51, gj_69_52, pj_69_52, ga_69_53, gi_69_54, pi_69_54, gi_69_55, pi_69_55, rd_70, wr_70, ln_70, rd_71, wr_71, ln_71, rd_74, wr_74, ln_74, rd_75, wr_75, ln_75, v_tell_1, v_tell_2, v_tell_3, v_tell_5, v_tell_6, v_tell0, v_change, v_settled0, Option.bind_some, toI_i, toJ_j, toV_v, toR_r, up2_at, up2_na, up2_nk, up2_off, nI_add, nI_mul, nI_leI, nI_ltI, nI_eq, bI_eq0, w1], Option.bind_some, if_neg (nI_ge hm (by omega)), ga_69_41 hS, Option.bind_some, vc_69 hS, b1, toI_i, Option.bind_some]
        simp (disch := first | assumption | omega) only [vc_69, gi_69_0, pi_69_0, gi_69_1, pi_69_1, ga_69_2, ga_69_3, ga_69_4, ga_69_5, ga_69_6, ga_69_7, gi_69_8, pi_69_8, ga_69_9, ga_69_10, gi_69_11, pi_69_11, ga_69_12, gi_69_13, pi_69_13, gi_69_14, pi_69_14, gi_69_15, pi_69_15, gi_69_16, pi_69_16, gj_69_17, pj_69_17, gi_69_18, pi_69_18, gi_69_19, pi_69_19, gi_69_20, pi_69_20, gi_69_21, pi_69_21, ga_69_22, gi_69_23, pi_69_23, ga_69_24, ga_69_25, gi_69_26, pi_69_26, ga_69_27, ga_69_28, gi_69_29, pi_69_29, gi_69_30, pi_69_30, ga_69_31, ga_69_32, ga_69_33, gi_69_34, pi_69_34, ga_69_35, ga_69_36, ga_69_37, gi_69_38, pi_69_38, gj_69_39, pj_69_39, gj_69_40, pj_69_40, ga_69_41, ga_69_42, ga_69_43, ga_69_44, ga_69_45, ga_69_46, ga_69_47, gi_69_48, pi_69_48, gi_69_49, pi_69_49, gi_69_50, pi_69_50, gi_69_51, pi_69_51, gj_69_52, pj_69_52, ga_69_53, gi_69_54, pi_69_54, gi_69_55, pi_69_55, rd_71, wr_71, ln_71, rd_90, wr_90, ln_90, Option.bind_some, toI_i, toJ_j, toV_v, toR_r, up2_at, up2_na, up2_nk, up2_off, nI_add, nI_mul, nI_leI, nI_ltI, nI_eq, bI_eq0]
      · by_cases e : j = m
        · rw [e, up2_at]
        · rw [up2_nk e, b2.1 90 (by decide)]
          exact a2 j (by omega)
    · intro s ⟨I1, J1, hs, a1, a2, a3, a4, a5⟩
      subst hs
      have w1 : I1 71 1 = nI F := by rw [a1 71 (by decide) (by decide)]; exact hw.2.1.2.1
      refine ⟨_, ?_, I1, J1, rfl, a1, a2, a3, a4, a5⟩
      dsimp only
      unfold F_X11_passIt_l2
      rw [ga_69_3 hS, Option.bind_some, show rdI O (hp u n T I1 J1 R) 71 (nI 1) = some (nI F) by simp (disch := first | assumption | omega) only [vc_69, gi_69_0, pi_69_0, gi_69_1, pi_69_1, ga_69_2, ga_69_3, ga_69_4, ga_69_5, ga_69_6, ga_69_7, gi_69_8, pi_69_8, ga_69_9, ga_69_10, gi_69_11, pi_69_11, ga_69_12, gi_69_13, pi_69_13, gi_69_14, pi_69_14, gi_69_15, pi_69_15, gi_69_16, pi_69_16, gj_69_17, pj_69_17, gi_69_18, pi_69_18, gi_69_19, pi_69_19, gi_69_20, pi_69_20, gi_69_21, pi_69_21, ga_69_22, gi_69_23, pi_69_23, ga_69_24, ga_69_25, gi_69_26, pi_69_26, ga_69_27, ga_69_28, gi_69_29, pi_69_29, gi_69_30, pi_69_30, ga_69_31, ga_69_32, ga_69_33, gi_69_34, pi_69_34, ga_69_35, ga_69_36, ga_69_37, gi_69_38, pi_69_38, gj_69_39, pj_69_39, gj_69_40, pj_69_40, ga_69_41, ga_69_42, ga_69_43, ga_69_44, ga_69_45, ga_69_46, ga_69_47, gi_69_48, pi_69_48, gi_69_49, pi_69_49, gi_69_50, pi_69_50, gi_69_51, pi_69_51, gj_69_52, pj_69_52, ga_69_53, gi_69_54, pi_69_54, gi_69_55, pi_69_55, rd_70, wr_70, ln_70, rd_71, wr_71, ln_71, rd_74, wr_74, ln_74, rd_75, wr_75, ln_75, v_tell_1, v_tell_2, v_tell_3, v_tell_5, v_tell_6, v_tell0, v_change, v_settled0, Option.bind_some, toI_i, toJ_j, toV_v, toR_r, up2_at, up2_na, up2_nk, up2_off, nI_add, nI_mul, nI_leI, nI_ltI, nI_eq, bI_eq0, w1], Option.bind_some, if_pos (nI_le (Nat.le_refl F) (by omega))]
  obtain ⟨r1, e1, I1, J1, hr1, a1, a2, a3, a4, a5⟩ := L1
  have e71 : I1 71 = I 71 := a1 71 (by decide) (by decide)
  have L2 : ∃ r, lupF (fun (q : Int32 × mH) => F_X11_passIt_l31 O (d + 5) 69 q.1 q.2) FU (nI 0, hp u n T I1 J1 R) = some r ∧ (fun r => ∃ I', r = hp u n T I' J1 R ∧ (∀ a, a ≠ 71 → I' a = I1 a) ∧ I' 71 = paP (I 71) F) r := by
    refine lup_P0 (fun m s => ∃ I', s = (nI m, hp u n T I' J1 R) ∧ (∀ a, a ≠ 71 → I' a = I1 a) ∧ I' 71 = paP (I 71) m) _ (N := F) (by omega) ⟨I1, rfl, fun _ _ => rfl, e71⟩ ?_ ?_
    · intro m s hm ⟨I2, hs, b1, b2⟩
      subst hs
      left
      obtain ⟨pm, pe, pm1, pe1, em, ee, ek⟩ := pu_n hw hm
      have w1 : I2 71 1 = nI F := by rw [b2, paP_off (by omega)]; exact hw.2.1.2.1
      have v33 : I2 71 (33 + m) = nI pm := by rw [b2, paP_off (by omega)]; exact em
      have v90 : I2 90 m = nI pe := by rw [b1 90 (by decide), a2 m hm]; exact ee
      refine ⟨(nI (m + 1), hp u n T (up2 I2 71 (33 + m) (nI (min (pm + pe) 999))) J1 R), ?_, _, rfl, fun a ha => by rw [up2_off _ _ _ ha]; exact b1 a ha, ?_⟩
      · dsimp only
        unfold F_X11_passIt_l31
        simp (disch := first | assumption | omega) only [vc_69, gi_69_0, pi_69_0, gi_69_1, pi_69_1, ga_69_2, ga_69_3, ga_69_4, ga_69_5, ga_69_6, ga_69_7, gi_69_8, pi_69_8, ga_69_9, ga_69_10, gi_69_11, pi_69_11, ga_69_12, gi_69_13, pi_69_13, gi_69_14, pi_69_14, gi_69_15, pi_69_15, gi_69_16, pi_69_16, gj_69_17, pj_69_17, gi_69_18, pi_69_18, gi_69_19, pi_69_19, gi_69_20, pi_69_20, gi_69_21, pi_69_21, ga_69_22, gi_69_23, pi_69_23, ga_69_24, ga_69_25, gi_69_26, pi_69_26, ga_69_27, ga_69_28, gi_69_29, pi_69_29, gi_69_30, pi_69_30, ga_69_31, ga_69_32, ga_69_33, gi_69_34, pi_69_34, ga_69_35, ga_69_36, ga_69_37, gi_69_38, pi_69_38, gj_69_39, pj_69_39, gj_69_40, pj_69_40, ga_69_41, ga_69_42, ga_69_43, ga_69_44, ga_69_45, ga_69_46, ga_69_47, gi_69_48, pi_69_48, gi_69_49, pi_69_49, gi_69_50, pi_69_50, gi_69_51, pi_69_51, gj_69_52, pj_69_52, ga_69_53, gi_69_54, pi_69_54, gi_69_55, pi_69_55, rd_71, wr_71, ln_71, rd_90, wr_90, ln_90, Option.bind_some, toI_i, toJ_j, toV_v, toR_r, up2_at, up2_na, up2_nk, up2_off, nI_add, nI_mul, nI_leI, nI_ltI, nI_eq, bI_eq0, w1, v33, v90, v_within, wi_n]
        rw [if_neg (by omega)]
      · rw [up2_self, b2, paP_s, ek]
    · intro s ⟨I2, hs, b1, b2⟩
      subst hs
      have w1 : I2 71 1 = nI F := by rw [b2, paP_off (by omega)]; exact hw.2.1.2.1
      refine ⟨_, ?_, I2, rfl, b1, b2⟩
      dsimp only
      unfold F_X11_passIt_l31
      simp (disch := first | assumption | omega) only [vc_69, gi_69_0, pi_69_0, gi_69_1, pi_69_1, ga_69_2, ga_69_3, ga_69_4, ga_69_5, ga_69_6, ga_69_7, gi_69_8, pi_69_8, ga_69_9, ga_69_10, gi_69_11, pi_69_11, ga_69_12, gi_69_13, pi_69_13, gi_69_14, pi_69_14, gi_69_15, pi_69_15, gi_69_16, pi_69_16, gj_69_17, pj_69_17, gi_69_18, pi_69_18, gi_69_19, pi_69_19, gi_69_20, pi_69_20, gi_69_21, pi_69_21, ga_69_22, gi_69_23, pi_69_23, ga_69_24, ga_69_25, gi_69_26, pi_69_26, ga_69_27, ga_69_28, gi_69_29, pi_69_29, gi_69_30, pi_69_30, ga_69_31, ga_69_32, ga_69_33, gi_69_34, pi_69_34, ga_69_35, ga_69_36, ga_69_37, gi_69_38, pi_69_38, gj_69_39, pj_69_39, gj_69_40, pj_69_40, ga_69_41, ga_69_42, ga_69_43, ga_69_44, ga_69_45, ga_69_46, ga_69_47, gi_69_48, pi_69_48, gi_69_49, pi_69_49, gi_69_50, pi_69_50, gi_69_51, pi_69_51, gj_69_52, pj_69_52, ga_69_53, gi_69_54, pi_69_54, gi_69_55, pi_69_55, rd_71, wr_71, ln_71, Option.bind_some, toI_i, toJ_j, toV_v, toR_r, up2_at, up2_na, up2_nk, up2_off, nI_add, nI_mul, nI_leI, nI_ltI, nI_eq, bI_eq0, w1]
      rw [if_pos (Nat.le_refl F)]
  obtain ⟨r2, e2, I2, hr2, b1, b2⟩ := L2
  have hz := Wf_paP hw (Nat.le_refl F)
  have L3 : ∃ r, lupF (fun (q : Int32 × Int32 × mH) => F_X11_passIt_l84 O (d + 5) 69 q.1 q.2.1 q.2.2) FU (nI 0, nI 0, hp u n T I2 J1 R) = some r ∧ (fun r => ∃ I', r = (lvF (paP (I 71) F) D, hp u n T I' J1 R) ∧ (∀ a, a ≠ 71 → I' a = I1 a) ∧ I' 71 = paY (paP (I 71) F) D) r := by
    refine lup_P0 (fun m s => ∃ I', s = (lvF (paP (I 71) F) m, nI m, hp u n T I' J1 R) ∧ (∀ a, a ≠ 71 → I' a = I1 a) ∧ I' 71 = paY (paP (I 71) F) m) _ (N := D) (by omega) ⟨I2, rfl, b1, b2⟩ ?_ ?_
    · intro m s hm ⟨I3, hs, d1, d2⟩
      subst hs
      left
      have w2 : I3 71 2 = nI D := by rw [d2, paY_off (by omega) (by omega), paP_off (by omega)]; exact hw.2.1.2.2.1
      have v9 : I3 71 (9 + m) = paP (I 71) F (9 + m) := by rw [d2]; exact paY_off (by omega) (by omega)
      have v17 : I3 71 (17 + m) = paP (I 71) F (17 + m) := by rw [d2]; exact paY_off (by omega) (by omega)
      by_cases hi : paP (I 71) F (9 + m) = -1
      · refine ⟨(lvF (paP (I 71) F) (m + 1), nI (m + 1), hp u n T I3 J1 R), ?_, I3, rfl, d1, by rw [paY_s1 hi]; exact d2⟩
        dsimp only
        unfold F_X11_passIt_l84
        simp (disch := first | assumption | omega) only [vc_69, gi_69_0, pi_69_0, gi_69_1, pi_69_1, ga_69_2, ga_69_3, ga_69_4, ga_69_5, ga_69_6, ga_69_7, gi_69_8, pi_69_8, ga_69_9, ga_69_10, gi_69_11, pi_69_11, ga_69_12, gi_69_13, pi_69_13, gi_69_14, pi_69_14, gi_69_15, pi_69_15, gi_69_16, pi_69_16, gj_69_17, pj_69_17, gi_69_18, pi_69_18, gi_69_19, pi_69_19, gi_69_20, pi_69_20, gi_69_21, pi_69_21, ga_69_22, gi_69_23, pi_69_23, ga_69_24, ga_69_25, gi_69_26, pi_69_26, ga_69_27, ga_69_28, gi_69_29, pi_69_29, gi_69_30, pi_69_30, ga_69_31, ga_69_32, ga_69_33, gi_69_34, pi_69_34, ga_69_35, ga_69_36, ga_69_37, gi_69_38, pi_69_38, gj_69_39, pj_69_39, gj_69_40, pj_69_40, ga_69_41, ga_69_42, ga_69_43, ga_69_44, ga_69_45, ga_69_46, ga_69_47, gi_69_48, pi_69_48, gi_69_49, pi_69_49, gi_69_50, pi_69_50, gi_69_51, pi_69_51, gj_69_52, pj_69_52, ga_69_53, gi_69_54, pi_69_54, gi_69_55, pi_69_55, rd_71, wr_71, ln_71, Option.bind_some, toI_i, toJ_j, toV_v, toR_r, up2_at, up2_na, up2_nk, up2_off, nI_add, nI_mul, nI_leI, nI_ltI, nI_eq, bI_eq0, w2, v_isIn, v9]
        rw [if_neg (by omega), if_pos (decide_eq_false (fun z => z hi)), show lvF (paP (I 71) F) (m + 1) = lvF (paP (I 71) F) m from if_pos hi]
      · obtain ⟨v, t, h1, h2, h3, h4, h5⟩ := Wf_in hz hm hi
        rw [h5] at v17
        refine ⟨(lvF (paP (I 71) F) (m + 1), nI (m + 1), hp u n T (up2 (up2 I3 71 (17 + m) (nI (t - 1))) 71 (9 + m) (if nI (t - 1) = 0 then -1 else paP (I 71) F (9 + m))) J1 R), ?_, _, rfl, fun a ha => by rw [up2_off _ _ _ ha, up2_off _ _ _ ha]; exact d1 a ha, ?_⟩
        · dsimp only
          unfold F_X11_passIt_l84 F_X11_passIt_j168
          rw [show lvF (paP (I 71) F) (m + 1) = lvF (paP (I 71) F) m + (if nI (t - 1) = 0 then nI 1 else nI 0) by rw [← nI_sub h2, ← h5]; exact if_neg hi]
          simp (disch := first | assumption | omega) only [vc_69, gi_69_0, pi_69_0, gi_69_1, pi_69_1, ga_69_2, ga_69_3, ga_69_4, ga_69_5, ga_69_6, ga_69_7, gi_69_8, pi_69_8, ga_69_9, ga_69_10, gi_69_11, pi_69_11, ga_69_12, gi_69_13, pi_69_13, gi_69_14, pi_69_14, gi_69_15, pi_69_15, gi_69_16, pi_69_16, gj_69_17, pj_69_17, gi_69_18, pi_69_18, gi_69_19, pi_69_19, gi_69_20, pi_69_20, gi_69_21, pi_69_21, ga_69_22, gi_69_23, pi_69_23, ga_69_24, ga_69_25, gi_69_26, pi_69_26, ga_69_27, ga_69_28, gi_69_29, pi_69_29, gi_69_30, pi_69_30, ga_69_31, ga_69_32, ga_69_33, gi_69_34, pi_69_34, ga_69_35, ga_69_36, ga_69_37, gi_69_38, pi_69_38, gj_69_39, pj_69_39, gj_69_40, pj_69_40, ga_69_41, ga_69_42, ga_69_43, ga_69_44, ga_69_45, ga_69_46, ga_69_47, gi_69_48, pi_69_48, gi_69_49, pi_69_49, gi_69_50, pi_69_50, gi_69_51, pi_69_51, gj_69_52, pj_69_52, ga_69_53, gi_69_54, pi_69_54, gi_69_55, pi_69_55, rd_71, wr_71, ln_71, Option.bind_some, toI_i, toJ_j, toV_v, toR_r, up2_at, up2_na, up2_nk, up2_off, nI_add, nI_mul, nI_leI, nI_ltI, nI_eq, bI_eq0, w2, v_isIn, v9, v17, nI_sub]
          rw [if_neg (by omega), if_neg (by rw [decide_eq_true hi]; decide)]
          by_cases h0 : nI (t - 1) = 0
          · rw [if_pos h0, if_pos h0, if_pos h0]
          · rw [if_neg h0, if_neg h0, if_neg h0]
        · rw [up2_self, up2_self, d2, paY_s2 hi, h5, nI_sub h2]
    · intro s ⟨I3, hs, d1, d2⟩
      subst hs
      have w2 : I3 71 2 = nI D := by rw [d2, paY_off (by omega) (by omega), paP_off (by omega)]; exact hw.2.1.2.2.1
      refine ⟨_, ?_, I3, rfl, d1, d2⟩
      dsimp only
      unfold F_X11_passIt_l84
      simp (disch := first | assumption | omega) only [vc_69, gi_69_0, pi_69_0, gi_69_1, pi_69_1, ga_69_2, ga_69_3, ga_69_4, ga_69_5, ga_69_6, ga_69_7, gi_69_8, pi_69_8, ga_69_9, ga_69_10, gi_69_11, pi_69_11, ga_69_12, gi_69_13, pi_69_13, gi_69_14, pi_69_14, gi_69_15, pi_69_15, gi_69_16, pi_69_16, gj_69_17, pj_69_17, gi_69_18, pi_69_18, gi_69_19, pi_69_19, gi_69_20, pi_69_20, gi_69_21, pi_69_21, ga_69_22, gi_69_23, pi_69_23, ga_69_24, ga_69_25, gi_69_26, pi_69_26, ga_69_27, ga_69_28, gi_69_29, pi_69_29, gi_69_30, pi_69_30, ga_69_31, ga_69_32, ga_69_33, gi_69_34, pi_69_34, ga_69_35, ga_69_36, ga_69_37, gi_69_38, pi_69_38, gj_69_39, pj_69_39, gj_69_40, pj_69_40, ga_69_41, ga_69_42, ga_69_43, ga_69_44, ga_69_45, ga_69_46, ga_69_47, gi_69_48, pi_69_48, gi_69_49, pi_69_49, gi_69_50, pi_69_50, gi_69_51, pi_69_51, gj_69_52, pj_69_52, ga_69_53, gi_69_54, pi_69_54, gi_69_55, pi_69_55, rd_71, wr_71, ln_71, Option.bind_some, toI_i, toJ_j, toV_v, toR_r, up2_at, up2_na, up2_nk, up2_off, nI_add, nI_mul, nI_leI, nI_ltI, nI_eq, bI_eq0, w2]
      rw [if_pos (Nat.le_refl D)]
  obtain ⟨r3, e3, I3, hr3, d1, d2⟩ := L3
  have v6 : I3 71 6 = I 71 6 := by rw [d2, paY_off (by omega) (by omega), paP_off (by omega)]
  refine ⟨up2 I3 71 6 (I 71 6 + nI 1), J1, e_X11_passIt (d := d + 5) ?_, by rw [up2_self, d2]; rfl, fun a z1 z2 z3 => by rw [up2_off _ _ _ z2, d1 a z2]; exact a1 a z1 z3, fun k z1 z2 => by rw [up2_na (by decide), d1 69 (by decide)]; exact a3 k z1 z2, a4, a5⟩
  unfold F_X11_passIt
  rw [e1, hr1, Option.bind_some, e2, hr2, Option.bind_some, e3, hr3, Option.bind_some]
  simp (disch := first | assumption | omega) only [vc_69, gi_69_0, pi_69_0, gi_69_1, pi_69_1, ga_69_2, ga_69_3, ga_69_4, ga_69_5, ga_69_6, ga_69_7, gi_69_8, pi_69_8, ga_69_9, ga_69_10, gi_69_11, pi_69_11, ga_69_12, gi_69_13, pi_69_13, gi_69_14, pi_69_14, gi_69_15, pi_69_15, gi_69_16, pi_69_16, gj_69_17, pj_69_17, gi_69_18, pi_69_18, gi_69_19, pi_69_19, gi_69_20, pi_69_20, gi_69_21, pi_69_21, ga_69_22, gi_69_23, pi_69_23, ga_69_24, ga_69_25, gi_69_26, pi_69_26, ga_69_27, ga_69_28, gi_69_29, pi_69_29, gi_69_30, pi_69_30, ga_69_31, ga_69_32, ga_69_33, gi_69_34, pi_69_34, ga_69_35, ga_69_36, ga_69_37, gi_69_38, pi_69_38, gj_69_39, pj_69_39, gj_69_40, pj_69_40, ga_69_41, ga_69_42, ga_69_43, ga_69_44, ga_69_45, ga_69_46, ga_69_47, gi_69_48, pi_69_48, gi_69_49, pi_69_49, gi_69_50, pi_69_50, gi_69_51, pi_69_51, gj_69_52, pj_69_52, ga_69_53, gi_69_54, pi_69_54, gi_69_55, pi_69_55, rd_71, wr_71, ln_71, Option.bind_some, toI_i, toJ_j, toV_v, toR_r, up2_at, up2_na, up2_nk, up2_off, nI_add, nI_mul, nI_leI, nI_ltI, nI_eq, bI_eq0, v6]
theorem b_pass (hO : O = mOl L xs) (hI : Inv c K) : Bo O Inv MX10_pass MX11_pass [] c K := by
  obtain ⟨u, n, T, I, J, R, g, h, V, F, D, S, N, x, s, rfl, hI⟩ := hI
  obtain ⟨hS, hn, gg, hh, hG, hH, hw, hgd, hg⟩ := Iv_all hI
  obtain ⟨⟨v5, f4, d8, s8, n6⟩, ⟨w0, w1, w2, w3, w4⟩, hf, hs, hfam, hwi, hsn, hlw⟩ := hw
  obtain ⟨⟨c1, c2, c3, c4, c5, c6, c7, c8, c9, c10, c11, c12⟩, q1, q2, q3, q4, q5, q6, q7, q8, q9, q10, q11, ql⟩ := hgd
  obtain ⟨⟨b1, b2, b3, b4, b5⟩, b6, b7, b8, b9, b10⟩ := hI.2.2.2.2.2.2.2.1
  have hJ := hI.2.2.2.2.2.2.2.2.2
  have hu := hI.2.2.2.2.1
  have hw := hI.2.2.1
  have hgd := hI.2.2.2.1
  have hx := hu.1
  obtain ⟨y, hy, h6⟩ := hs.1
  refine Bo_act (ret := if y < 999 then nI (y + 1) else -3) (w' := if y < 999 then paW (I 71) F D else I 71) (k := 3) hI (by decide) ?_ ?_ ?_ ?_ ?_
  · by_cases ho : y < 999
    · rw [if_pos ho, if_pos ho]
      exact Or.inl ⟨_, by omega, rfl⟩
    · rw [if_neg ho, if_neg ho]
      exact Or.inr ⟨Or.inr rfl, rfl⟩
  · by_cases ho : y < 999
    · rw [if_pos ho]
      exact (Wf_paW hw h6 ho).1
    · rw [if_neg ho]
      exact hw
  · by_cases ho : y < 999
    · rw [if_pos ho]
      exact (Wf_paW hw h6 ho).2
    · rw [if_neg ho]
      exact Kp.rf _
  · obtain ⟨I1, e1, a1'⟩ := v_act (O := O) (d := 198) (u := u) (J := J) (kk := 3) (a := -1) (b := -1) (ret := if y < 999 then nI (y + 1) else -3) (w' := if y < 999 then paW (I 71) F D else I 71) hH hgd hn hg hx.1 hx.2.1 hx.2.2.1 hx.2.2.2.1 (Or.inr (Or.inr (Or.inr ⟨rfl, rfl, rfl⟩))) (by
        by_cases ho : y < 999
        · rw [if_pos ho]
          exact Or.inl ⟨_, by omega, rfl⟩
        · rw [if_neg ho]
          exact Or.inr (by decide)) (fun I' hG' => c_pa (d := 195) hO hS hG' hw hn (by omega) h6 hy)
    refine ⟨I1, a1', fun Ia ha => e_X10_pass (d := 199) ?_⟩
    unfold F_X10_pass
    rw [gg, Option.bind_some, hh, Option.bind_some, e1, toI_i, Option.bind_some, vc_0 hS, ha]
    rfl
  · intro Ia i71 i69
    have j71 : up2 Ia 69 0 (nI 0) 71 = I 71 := by rw [up2_off _ _ _ (by decide), i71]
    have j20 : up2 Ia 69 0 (nI 0) 69 20 = nI 0 := by rw [up2_nk (by decide), i69]; exact b5
    have r6 : ∀ (I' : Nat → Nat → Int32) (J' : Nat → Nat → Int64), rdI O (hp u n T I' J' R) 71 (nI 6) = some (I' 71 6) := by
      intro I' J'
      simp (disch := first | assumption | omega) only [rd_71, wr_71, ln_71]
    by_cases ho : y < 999
    · rw [if_pos ho, if_pos ho]
      obtain ⟨Ib, er, rm⟩ := v_remember (O := O) (d := 196) (u := u) (J := J) (I := up2 Ia 69 0 (nI 0)) (s := s) (k := 3) hS (by rw [up2_nk (by decide), i69]; exact hx.2.2.2.2) hx.2.2.2.1
      have b71 : Ib 71 = I 71 := by rw [rm.1 71 (by decide) (by decide) (by decide)]; exact j71
      obtain ⟨I2, J2, e2, m1, m2, m3, m4, -⟩ := m_pa (O := O) (d := 192) (u := u) (J := J) (I := Ib) hS (by rw [rm.2.1 20 (by decide)]; exact j20) (by rw [b71]; exact hw)
      rw [b71] at m1
      refine ⟨I2, J2, ⟨m1, fun a h1 h2 h3 h4 h5 => by rw [m2 a h1 h2 (by omega), rm.1 a h1 h3 h4], fun j hj => by rw [m3 j (by omega) (by omega), rm.2.1 j (by omega)], m4, Or.inr ⟨nI_le (Nat.zero_le _) (by omega), _, Ib, rfl, rfl, rfl, rfl, rm, m3 8 (by decide) (by decide), m2 74 (by decide) (by decide) (by decide), m2 75 (by decide) (by decide) (by decide)⟩⟩, fun It ht => e_X11_pass (d := 199) ?_⟩
      have e : ev O 199 MX11_passNow [.ref 69] (hp u n T (up2 Ia 69 0 (nI 0)) J R) = some (some (.int (nI (y + 1))), hp u n T I2 J2 R) := by
        refine e_X11_passNow (d := 198) ?_
        unfold F_X11_passNow
        have v6 : I2 71 6 = nI (y + 1) := by rw [m1]; unfold paW; rw [upK_at, h6, nI_add]
        rw [ga_69_3 hS, Option.bind_some, r6, Option.bind_some, j71, h6, if_neg (fun z => absurd ((nI_eq (by omega) (by omega)).mp z) (by omega)), vc_69 hS, er, toV_v, Option.bind_some, vc_69 hS, e2, toI_i, Option.bind_some]
        dsimp only
        rw [ga_69_3 hS, Option.bind_some, r6, Option.bind_some, v6]
      unfold F_X11_pass
      rw [pi_69_0 hS, Option.bind_some, vc_69 hS, e, toI_i, Option.bind_some, vc_69 hS, ht]
      rfl
    · rw [if_neg ho, if_neg ho]
      refine ⟨up2 Ia 69 0 (nI 0), J, ?_, fun It ht => e_X11_pass (d := 199) ?_⟩
      · have := MNw_no (s := s) (k := 3) (ret := -3) (SxM.rf 69 (up2 Ia 69 0 (nI 0)) J) (by decide)
        rw [j71] at this
        exact this
      · unfold F_X11_pass
        have e : ev O 199 MX11_passNow [.ref 69] (hp u n T (up2 Ia 69 0 (nI 0)) J R) = some (some (.int (-3)), hp u n T (up2 Ia 69 0 (nI 0)) J R) := by
          refine e_X11_passNow (d := 198) ?_
          unfold F_X11_passNow
          rw [ga_69_3 hS, Option.bind_some, r6, Option.bind_some, j71, h6, if_pos (by rw [show y = 999 by omega])]
        rw [pi_69_0 hS, Option.bind_some, vc_69 hS, e, toI_i, Option.bind_some, vc_69 hS, ht]
        rfl
end PA
