/-! one of the dead comes: the class's way, the reference's way -/
theorem up2_K {α : Type} (F : Nat → Nat → α) (a k : Nat) (x : α) : up2 F a k x a = upK (F a) k x := up2_self F a k x
theorem tf : ¬ (true = false) := by decide
/-- why one can't come; 0 if one can -/
def okD (w : Nat → Int32) (V F D : Nat) (f v t : Int32) : Int32 := if rg t 1 99 = false then -1 else if inR f F = false then -2 else if inR v V = false then -2 else if w (37 + v.toNatClampNeg) = nI (cnt (fun j => w (9 + j)) v D) then -3 else if D = 8 then -5 else nI 0
def adC (I : Nat → Nat → Int32) (g D : Nat) (f v t : Int32) : Nat → Nat → Int32 := up2 (up2 (up2 (up2 I (g + 3) D f) (g + 4) D v) (g + 5) D t) g 13 (nI (D + 1))
def adW (w : Nat → Int32) (D : Nat) (f v t : Int32) : Nat → Int32 := upK (upK (upK (upK (upK w (42 + D) f) (9 + D) v) (17 + D) t) (25 + D) (nI 0)) 2 (nI (D + 1))
def adM (I : Nat → Nat → Int32) (D : Nat) (f v t : Int32) : Nat → Nat → Int32 := up2 (up2 (up2 (up2 (up2 I 71 (42 + D) f) 71 (9 + D) v) 71 (17 + D) t) 71 (25 + D) (nI 0)) 71 2 (nI (D + 1))
theorem adM_71 (I : Nat → Nat → Int32) (D : Nat) (f v t : Int32) : adM I D f v t 71 = adW (I 71) D f v t := by
  unfold adM adW
  rw [up2_self, up2_self, up2_self, up2_self, up2_self]
theorem adM_off {I : Nat → Nat → Int32} {D : Nat} {f v t : Int32} {a : Nat} (h : a ≠ 71) : adM I D f v t a = I a := by
  unfold adM
  simp (disch := omega) only [up2_off]
section CM
variable {O : mO} {d u n : Nat} {T : Nat → mT} {I : Nat → Nat → Int32} {J : Nat → Nat → Int64} {R : Nat → Nat → Option Nat} {g V F D S N : Nat} {w : Nat → Int32} {f v t : Int32}
/-- what is needed that one comes -/
theorem okD_0 (h : okD w V F D f v t = nI 0) (hw : Wf w V F D S N) : ∃ f' v' t' b, f' < F ∧ v' < V ∧ 1 ≤ t' ∧ t' ≤ 99 ∧ f = nI f' ∧ v = nI v' ∧ t = nI t' ∧ D < 8 ∧ w (37 + v') = nI b ∧ b ≤ 3 ∧ cnt (fun j => w (9 + j)) (nI v') D < b := by
  obtain ⟨⟨v5, f4, d8, s8, n6⟩, -, -, hs, -⟩ := hw
  unfold okD at h
  rcases arg_c t (lo := 1) (hi := 99) (by decide) (by decide) with ⟨t', h1, h2, rfl⟩ | ⟨hb, -⟩
  · rw [if_neg (by rw [rg_t h1 h2 (by decide)]; decide)] at h
    cases hf : inR f F with
    | false => rw [hf, if_pos rfl] at h; exact absurd h (by decide)
    | true =>
      cases hv : inR v V with
      | false => rw [hf, hv, if_neg (by decide), if_pos rfl] at h; exact absurd h (by decide)
      | true =>
        obtain ⟨f', hf', rfl⟩ := inR_ex hf (by omega)
        obtain ⟨v', hv', rfl⟩ := inR_ex hv (by omega)
        rw [hf, hv, if_neg (by decide), if_neg (by decide), nI_clamp (by omega)] at h
        obtain ⟨b, e1, e2, e3, e4⟩ := hs.2.2.2.2.2.2 v' hv'
        by_cases hc : w (37 + v') = nI (cnt (fun j => w (9 + j)) (nI v') D)
        · rw [if_pos hc] at h; exact absurd h (by decide)
        · rw [if_neg hc] at h
          by_cases h8 : D = 8
          · rw [if_pos h8] at h; exact absurd h (by decide)
          · refine ⟨f', v', t', b, hf', hv', h1, h2, rfl, rfl, rfl, by omega, e1, e3, ?_⟩
            rcases Nat.lt_or_ge (cnt (fun j => w (9 + j)) (nI v') D) b with z | z
            · exact z
            · exact absurd (e1.trans (by rw [Nat.le_antisymm e4 z])) hc
  · rw [if_pos hb] at h; exact absurd h (by decide)
theorem okD_neg (h : ¬ okD w V F D f v t = nI 0) : okD w V F D f v t = -1 ∨ okD w V F D f v t = -2 ∨ okD w V F D f v t = -3 ∨ okD w V F D f v t = -5 := by
  unfold okD at h ⊢
  split
  · exact Or.inl rfl
  · split
    · exact Or.inr (Or.inl rfl)
    · split
      · exact Or.inr (Or.inl rfl)
      · split
        · exact Or.inr (Or.inr (Or.inl rfl))
        · split
          · exact Or.inr (Or.inr (Or.inr rfl))
          · rename_i h1 h2 h3 h4 h5
            rw [if_neg h1, if_neg h2, if_neg h3, if_neg h4, if_neg h5] at h
            exact absurd rfl h
theorem v_whyNot (hg : Gnd n T I R g w V F D S N) (hw : Wf w V F D S N) (hn : n ≤ oB) : ev O (d + 2) MX2_whyNotDead [.ref g, .int f, .int v, .int t] (hp u n T I J R) = some (some (.int (okD w V F D f v t)), hp u n T I J R) := by
  obtain ⟨⟨v5, f4, d8, s8, n6⟩, -, -, hs, -⟩ := hw
  obtain ⟨⟨c1, c2, c3, c4, c5, c6, c7, c8, c9, c10, c11, c12⟩, q1, q2, q3, q4, q5, q6, q7, q8, q9, q10, q11, ql⟩ := hg
  refine e_X2_whyNotDead ?_
  unfold F_X2_whyNotDead okD
  rcases arg_c t (lo := 1) (hi := 99) (by decide) (by decide) with ⟨t', h1, h2, rfl⟩ | ⟨hb, hb2⟩
  · rw [if_neg (nI_nlt h1 (by omega)), if_pos (nI_le h2 (by omega)), if_neg (show ¬ rg (nI t') 1 99 = false by rw [rg_t h1 h2 (by decide)]; decide)]
    simp (disch := first | assumption | omega) only [ga_g_1, ga_g_2, ga_g_3, ga_g_4, ga_g_5, ga_g_6, ga_g_7, ga_g_8, ga_g_9, ga_g_10, gi_g_11, pi_g_11, gi_g_12, pi_g_12, gi_g_13, pi_g_13, gi_g_14, pi_g_14, gi_g_15, pi_g_15, gi_g_16, pi_g_16, gi_g_17, pi_g_17, ga_g_0, vc_g, rd_g_1, wr_g_1, ln_g_1, rd_g_2, wr_g_2, ln_g_2, rd_g_3, wr_g_3, ln_g_3, rd_g_4, wr_g_4, ln_g_4, rd_g_5, wr_g_5, ln_g_5, rd_g_6, wr_g_6, ln_g_6, rd_g_7, wr_g_7, ln_g_7, rd_g_8, wr_g_8, ln_g_8, rd_g_9, wr_g_9, ln_g_9, rd_g_10, Option.bind_some, toI_i, toJ_j, toV_v, toR_r, up2_at, up2_na, up2_nk, up2_off, nI_add, nI_mul, nI_leI, nI_ltI, nI_eq, bI_eq0, v_hasFamily c2 hn c7, v_hasVault c2 hn c5, v_freeBeds c2 hn c5 c6 c9 c10]
    cases hf : inR f F with
    | false => rw [if_pos rfl, if_pos rfl]
    | true =>
      rw [if_neg tf, if_neg tf]
      cases hv : inR v V with
      | false => rw [if_pos rfl, if_pos rfl]
      | true =>
        obtain ⟨v', hv', rfl⟩ := inR_ex hv (by omega)
        obtain ⟨b, e1, e2, e3, e4⟩ := hs.2.2.2.2.2.2 v' hv'
        have ec : cnt (I (g + 4)) (nI v') D = cnt (fun j => w (9 + j)) (nI v') D := cnt_cg (fun j hj => q6 j (by omega))
        have e1' : w (37 + v') = nI b := e1
        rw [if_neg tf, if_neg tf, if_pos rfl, nI_clamp (by omega), q3 v' (by omega), ec, e1', nI_sub e4]
        by_cases h0 : b = cnt (fun j => w (9 + j)) (nI v') D
        · rw [if_neg (nI_ge (by omega) (by omega)), if_pos (by rw [← h0])]
        · rw [if_pos (nI_le (by omega) (by omega)), if_neg (fun z => h0 ((nI_eq (by omega) (by omega)).mp z)), c9]
          by_cases h8 : D = 8
          · rw [if_neg (nI_nlt (by omega) (by omega)), if_pos h8]
          · rw [if_pos (nI_lt (by omega) (by omega)), if_neg h8]
  · rw [if_pos hb]
    rcases hb2 with hb2 | ⟨z1, z2, z3⟩
    · rw [if_pos hb2]
    · rw [if_neg z1, if_neg z2]
theorem v_addDead (hG : IsG n T R g) (hn : n ≤ oB) (c9 : I g 13 = nI D) (h8 : D < 8) : ev O (d + 1) MX2_addDead [.ref g, .int f, .int v, .int t] (hp u n T I J R) = some (none, hp u n T (adC I g D f v t) J R) := by
  refine e_X2_addDead ?_
  unfold F_X2_addDead
  simp (disch := first | assumption | omega) only [ga_g_1, ga_g_2, ga_g_3, ga_g_4, ga_g_5, ga_g_6, ga_g_7, ga_g_8, ga_g_9, ga_g_10, gi_g_11, pi_g_11, gi_g_12, pi_g_12, gi_g_13, pi_g_13, gi_g_14, pi_g_14, gi_g_15, pi_g_15, gi_g_16, pi_g_16, gi_g_17, pi_g_17, ga_g_0, vc_g, rd_g_1, wr_g_1, ln_g_1, rd_g_2, wr_g_2, ln_g_2, rd_g_3, wr_g_3, ln_g_3, rd_g_4, wr_g_4, ln_g_4, rd_g_5, wr_g_5, ln_g_5, rd_g_6, wr_g_6, ln_g_6, rd_g_7, wr_g_7, ln_g_7, rd_g_8, wr_g_8, ln_g_8, rd_g_9, wr_g_9, ln_g_9, rd_g_10, Option.bind_some, toI_i, toJ_j, toV_v, toR_r, up2_at, up2_na, up2_nk, up2_off, nI_add, nI_mul, nI_leI, nI_ltI, nI_eq, bI_eq0, c9]
  rw [if_neg (by omega)]
  rfl
theorem Gnd_add (hg : Gnd n T I R g w V F D S N) (h8 : D < 8) (hk : w (25 + D) = nI 0) (h97 : 97 < g ∨ g + 10 < 98) : Gnd n T (adC I g D f v t) R g (adW w D f v t) V F (D + 1) S N := by
  obtain ⟨⟨c1, c2, c3, c4, c5, c6, c7, c8, c9, c10, c11, c12⟩, q1, q2, q3, q4, q5, q6, q7, q8, q9, q10, q11, ql⟩ := hg
  unfold adC adW
  have one : ∀ (i k : Nat) (x : Int32) (F' : Nat → Int32), (if k = D then x else F' k) = (if k = D then x else F' k) := fun _ _ _ _ => rfl
  refine ⟨⟨c1, c2, c3, c4, by (try simp (disch := omega) only [up2_at, up2_na, up2_nk, up2_off]); exact c5, c6, by (try simp (disch := omega) only [up2_at, up2_na, up2_nk, up2_off]); exact c7, c8, by (try simp (disch := omega) only [up2_at, up2_na, up2_nk, up2_off]), by omega, by (try simp (disch := omega) only [up2_at, up2_na, up2_nk, up2_off]); exact c11, c12⟩, by (try simp (disch := omega) only [up2_at, up2_na, up2_nk, up2_off]); exact q1, by (try simp (disch := omega) only [up2_at, up2_na, up2_nk, up2_off]); (try simp (disch := omega) only [upK_at, upK_ne]); exact q2, fun k hk => by (try simp (disch := omega) only [up2_at, up2_na, up2_nk, up2_off]); (try simp (disch := omega) only [upK_at, upK_ne]); exact q3 k hk, fun k hk => by (try simp (disch := omega) only [up2_at, up2_na, up2_nk, up2_off]); (try simp (disch := omega) only [upK_at, upK_ne]); exact q4 k hk, fun k hk => ?_, fun k hk => ?_, fun k hk => ?_, fun d v hd hv => by (try simp (disch := omega) only [up2_at, up2_na, up2_nk, up2_off]); (try simp (disch := omega) only [upK_at, upK_ne]); exact q8 d v hd hv, fun k hk => by (try simp (disch := omega) only [up2_at, up2_na, up2_nk, up2_off]); (try simp (disch := omega) only [upK_at, upK_ne]); exact q9 k hk, fun k hk => by (try simp (disch := omega) only [up2_at, up2_na, up2_nk, up2_off]); (try simp (disch := omega) only [upK_at, upK_ne]); exact q10 k hk, fun k hk' => ?_, ?_⟩
  · by_cases e : k = D
    · subst e
      (try simp (disch := omega) only [up2_at, up2_na, up2_nk, up2_off])
      (try simp (disch := omega) only [upK_at, upK_ne])
    · (try simp (disch := omega) only [up2_at, up2_na, up2_nk, up2_off])
      (try simp (disch := omega) only [upK_at, upK_ne])
      exact q5 k hk
  · by_cases e : k = D
    · subst e
      (try simp (disch := omega) only [up2_at, up2_na, up2_nk, up2_off])
      (try simp (disch := omega) only [upK_at, upK_ne])
    · (try simp (disch := omega) only [up2_at, up2_na, up2_nk, up2_off])
      (try simp (disch := omega) only [upK_at, upK_ne])
      exact q6 k hk
  · by_cases e : k = D
    · subst e
      (try simp (disch := omega) only [up2_at, up2_na, up2_nk, up2_off])
      (try simp (disch := omega) only [upK_at, upK_ne])
    · (try simp (disch := omega) only [up2_at, up2_na, up2_nk, up2_off])
      (try simp (disch := omega) only [upK_at, upK_ne])
      exact q7 k hk
  · by_cases e : k = D
    · subst e
      (try simp (disch := omega) only [up2_at, up2_na, up2_nk, up2_off])
      (try simp (disch := omega) only [upK_at, upK_ne])
      rw [q11 k hk', hk]
    · (try simp (disch := omega) only [up2_at, up2_na, up2_nk, up2_off])
      (try simp (disch := omega) only [upK_at, upK_ne])
      exact q11 k hk'
  · intro l hl
    obtain ⟨p, sc, cc, h1, h2, h3, h4⟩ := ql l hl
    obtain ⟨ls, lc, hp1, -⟩ := id h3
    have ne : ∀ a, a = p ∨ a = p + 1 ∨ a = p + 2 → a ≠ g ∧ a ≠ g + 3 ∧ a ≠ g + 4 ∧ a ≠ g + 5 := by
      obtain ⟨p1, p2, p3, -⟩ := hp1
      obtain ⟨⟨t0, -⟩, ⟨t1, t2, t3, t4, t5, -⟩, -⟩ := c2
      have tne : ∀ a b : Nat, (T a).1 ≠ (T b).1 → a ≠ b := fun a b hh e => hh (by rw [e])
      intro a ha
      have m0 : p ≠ g := tne _ _ (by rw [p1, t0]; decide)
      have m1 : p ≠ g + 1 := tne _ _ (by rw [p1, t1]; decide)
      have m2 : p ≠ g + 2 := tne _ _ (by rw [p1, t2]; decide)
      have m3 : p ≠ g + 3 := tne _ _ (by rw [p1, t3]; decide)
      have m4 : p ≠ g + 4 := tne _ _ (by rw [p1, t4]; decide)
      have m5 : p ≠ g + 5 := tne _ _ (by rw [p1, t5]; decide)
      have m6 : p + 1 ≠ g := tne _ _ (by rw [p2, t0]; exact (by decide : (0 : Nat) ≠ 102))
      have m7 : p + 2 ≠ g := tne _ _ (by rw [p3, t0]; exact (by decide : (0 : Nat) ≠ 102))
      omega
    have ek : ∀ a, a = p ∨ a = p + 1 ∨ a = p + 2 → up2 (up2 (up2 (up2 I (g + 3) D f) (g + 4) D v) (g + 5) D t) g 13 (nI (D + 1)) a = I a := by
      intro a ha
      obtain ⟨n1, n2, n3, n4⟩ := ne a ha
      (try simp (disch := omega) only [up2_at, up2_na, up2_nk, up2_off])
    refine ⟨p, sc, cc, h1, h2, PrV_cg2 (ek _ (by omega)) (ek _ (by omega)) (ek _ (by omega)) h3, LwEq_cg (fun i hi => by (try simp (disch := omega) only [upK_at, upK_ne])) (by omega) (ek _ (by omega)) (ek _ (by omega)) (ek _ (by omega)) h4⟩
theorem Wf_add (hw : Wf w V F D S N) (h0 : okD w V F D f v t = nI 0) : Wf (adW w D f v t) V F (D + 1) S N := by
  obtain ⟨f', v', t', b, hf', hv', ht1, ht2, rfl, rfl, rfl, h8, hb, hb3, hcn⟩ := okD_0 h0 hw
  obtain ⟨⟨v5, f4, d8, s8, n6⟩, ⟨w0, w1, w2, w3, w4⟩, hf, ⟨s1, s2, s3, s4, s5, s6, s7⟩, hfam, hwi, hsn, hlw⟩ := hw
  unfold adW
  refine ⟨⟨v5, f4, by omega, s8, ⟨n6.1, fun _ => by omega⟩⟩, ⟨by (try simp (disch := omega) only [upK_at, upK_ne]); exact w0, by (try simp (disch := omega) only [upK_at, upK_ne]); exact w1, by (try simp (disch := omega) only [upK_at, upK_ne]), by (try simp (disch := omega) only [upK_at, upK_ne]); exact w3, by (try simp (disch := omega) only [upK_at, upK_ne]); exact w4⟩, by (try simp (disch := omega) only [upK_at, upK_ne]); exact hf, ⟨by (try simp (disch := omega) only [upK_at, upK_ne]); exact s1, by (try simp (disch := omega) only [upK_at, upK_ne]); exact s2, by (try simp (disch := omega) only [upK_at, upK_ne]); exact s3, fun k hk => ?_, fun k hk => ?_, fun k hk => by (try simp (disch := omega) only [upK_at, upK_ne]); exact s6 k hk, fun x hx => ?_⟩, fun k hk => ?_, fun d v hd hv => ?_, fun k hk => by (try simp (disch := omega) only [upK_at, upK_ne]); exact hsn k hk, fun l hl => LwM_cg (fun i hi => by (try simp (disch := omega) only [upK_at, upK_ne])) (by omega) (hlw l hl)⟩
  · by_cases e : k = D
    · subst e
      (try simp (disch := omega) only [upK_at, upK_ne])
      exact Or.inr ⟨v', t', hv', ht1, ht2, rfl, rfl⟩
    · (try simp (disch := omega) only [upK_at, upK_ne])
      exact s4 k (by omega)
  · by_cases e : k = D
    · subst e
      (try simp (disch := omega) only [upK_at, upK_ne])
      exact ⟨⟨0, by decide, rfl⟩, fun _ => trivial⟩
    · (try simp (disch := omega) only [upK_at, upK_ne])
      exact ⟨(s5 k hk).1, fun z => (s5 k hk).2 (by omega)⟩
  · obtain ⟨b', e1, e2, e3, e4⟩ := s7 x hx
    rw [cnt_s, cnt_cg (w := fun j => w (9 + j)) (fun j hj => by (try simp (disch := omega) only [upK_at, upK_ne]))]
    (try simp (disch := omega) only [upK_at, upK_ne])
    by_cases e : nI v' = nI x
    · have exv : v' = x := (nI_eq (by omega) (by omega)).mp e
      subst exv
      rw [if_pos rfl]
      have eb : b = b' := (nI_eq (by omega) (by omega)).mp (hb.symm.trans e1)
      exact ⟨b', e1, e2, e3, by omega⟩
    · rw [if_neg e]
      exact ⟨b', e1, e2, e3, e4⟩
  · by_cases e : k = D
    · subst e
      (try simp (disch := omega) only [upK_at, upK_ne])
      exact ⟨f', hf', rfl⟩
    · (try simp (disch := omega) only [upK_at, upK_ne])
      exact hfam k (by omega)
  · (try simp (disch := omega) only [upK_at, upK_ne])
    exact ⟨(hwi d v hd hv).1, fun z => (hwi d v hd hv).2 (by omega)⟩
theorem v_come (hS : St n T R) (hw : Wf (I 71) V F D S N) : ev O (d + 3) MX11_come [.ref 69, .int f, .int v, .int t] (hp u n T I J R) = if okD (I 71) V F D f v t = nI 0 then some (some (.int (nI D)), hp u n T (adM I D f v t) J R) else some (some (.int (okD (I 71) V F D f v t)), hp u n T I J R) := by
  have hw0 := hw
  obtain ⟨⟨v5, f4, d8, s8, n6⟩, ⟨w0, w1, w2, w3, w4⟩, hf, ⟨s1, s2, s3, s4, s5, s6, s7⟩, hfam, hwi, hsn, hlw⟩ := hw
  have isF := v_isFamily (O := O) (d := d + 1) (u := u) (J := J) (I := I) (v := f) hS w1 (by omega)
  have isV := v_isVault (O := O) (d := d + 1) (u := u) (J := J) (I := I) (v := v) hS w0 (by omega)
  by_cases h0 : okD (I 71) V F D f v t = nI 0
  · rw [if_pos h0]
    obtain ⟨f', v', t', b, hf', hv', ht1, ht2, rfl, rfl, rfl, h8, hb, hb3, hcn⟩ := okD_0 h0 hw0
    refine e_X11_come ?_
    unfold F_X11_come
    simp (disch := first | assumption | omega) only [vc_69, gi_69_0, pi_69_0, gi_69_1, pi_69_1, ga_69_2, ga_69_3, ga_69_4, ga_69_5, ga_69_6, ga_69_7, gi_69_8, pi_69_8, ga_69_9, ga_69_10, gi_69_11, pi_69_11, ga_69_12, gi_69_13, pi_69_13, gi_69_14, pi_69_14, gi_69_15, pi_69_15, gi_69_16, pi_69_16, gj_69_17, pj_69_17, gi_69_18, pi_69_18, gi_69_19, pi_69_19, gi_69_20, pi_69_20, gi_69_21, pi_69_21, ga_69_22, gi_69_23, pi_69_23, ga_69_24, ga_69_25, gi_69_26, pi_69_26, ga_69_27, ga_69_28, gi_69_29, pi_69_29, gi_69_30, pi_69_30, ga_69_31, ga_69_32, ga_69_33, gi_69_34, pi_69_34, ga_69_35, ga_69_36, ga_69_37, gi_69_38, pi_69_38, gj_69_39, pj_69_39, gj_69_40, pj_69_40, ga_69_41, ga_69_42, ga_69_43, ga_69_44, ga_69_45, ga_69_46, ga_69_47, gi_69_48, pi_69_48, gi_69_49, pi_69_49, gi_69_50, pi_69_50, gi_69_51, pi_69_51, gj_69_52, pj_69_52, ga_69_53, gi_69_54, pi_69_54, gi_69_55, pi_69_55, rd_70, wr_70, ln_70, rd_71, wr_71, ln_71, rd_74, wr_74, ln_74, rd_75, wr_75, ln_75, v_tell_1, v_tell_2, v_tell_3, v_tell_5, v_tell_6, v_tell0, v_change, v_settled0, Option.bind_some, toI_i, toJ_j, toV_v, toR_r, up2_at, up2_na, up2_nk, up2_off, nI_add, nI_mul, nI_leI, nI_ltI, nI_eq, bI_eq0, v_in_1_99, rg_t ht1 ht2 (by decide), isF, isV, inR_nI hf' (by omega), inR_nI hv' (by omega), v_freeIn hS w2 d8 (show v' < 5 by omega), hb, nI_sub, w2]
    rw [if_neg (by decide), if_neg (by decide), if_neg (by decide), if_neg (nI_ne0 (by omega) (by omega)), if_neg (by omega)]
    refine lup_b (fun j => (nI j, hp u n T (up2 (up2 (up2 (up2 I 71 (42 + D) (nI f')) 71 (9 + D) (nI v')) 71 (17 + D) (nI t')) 71 (25 + D) (nI 0)) J R)) (hp u n T (up2 (up2 (up2 (up2 I 71 (42 + D) (nI f')) 71 (9 + D) (nI v')) 71 (17 + D) (nI t')) 71 (25 + D) (nI 0)) J R) 5 (by omega) rfl ?_ ?_ ?_
    · intro j hj
      unfold F_X11_come_l109
      simp (disch := first | assumption | omega) only [vc_69, gi_69_0, pi_69_0, gi_69_1, pi_69_1, ga_69_2, ga_69_3, ga_69_4, ga_69_5, ga_69_6, ga_69_7, gi_69_8, pi_69_8, ga_69_9, ga_69_10, gi_69_11, pi_69_11, ga_69_12, gi_69_13, pi_69_13, gi_69_14, pi_69_14, gi_69_15, pi_69_15, gi_69_16, pi_69_16, gj_69_17, pj_69_17, gi_69_18, pi_69_18, gi_69_19, pi_69_19, gi_69_20, pi_69_20, gi_69_21, pi_69_21, ga_69_22, gi_69_23, pi_69_23, ga_69_24, ga_69_25, gi_69_26, pi_69_26, ga_69_27, ga_69_28, gi_69_29, pi_69_29, gi_69_30, pi_69_30, ga_69_31, ga_69_32, ga_69_33, gi_69_34, pi_69_34, ga_69_35, ga_69_36, ga_69_37, gi_69_38, pi_69_38, gj_69_39, pj_69_39, gj_69_40, pj_69_40, ga_69_41, ga_69_42, ga_69_43, ga_69_44, ga_69_45, ga_69_46, ga_69_47, gi_69_48, pi_69_48, gi_69_49, pi_69_49, gi_69_50, pi_69_50, gi_69_51, pi_69_51, gj_69_52, pj_69_52, ga_69_53, gi_69_54, pi_69_54, gi_69_55, pi_69_55, rd_70, wr_70, ln_70, rd_71, wr_71, ln_71, rd_74, wr_74, ln_74, rd_75, wr_75, ln_75, v_tell_1, v_tell_2, v_tell_3, v_tell_5, v_tell_6, v_tell0, v_change, v_settled0, Option.bind_some, toI_i, toJ_j, toV_v, toR_r, up2_at, up2_na, up2_nk, up2_off, nI_add, nI_mul, nI_leI, nI_ltI, nI_eq, bI_eq0]
      rw [if_neg (by omega), up2_same]
      (try simp (disch := omega) only [up2_at, up2_na, up2_nk, up2_off])
      exact (hwi D j h8 hj).2 (Or.inl (Nat.le_refl D))
    · unfold F_X11_come_l109
      simp (disch := first | assumption | omega) only [vc_69, gi_69_0, pi_69_0, gi_69_1, pi_69_1, ga_69_2, ga_69_3, ga_69_4, ga_69_5, ga_69_6, ga_69_7, gi_69_8, pi_69_8, ga_69_9, ga_69_10, gi_69_11, pi_69_11, ga_69_12, gi_69_13, pi_69_13, gi_69_14, pi_69_14, gi_69_15, pi_69_15, gi_69_16, pi_69_16, gj_69_17, pj_69_17, gi_69_18, pi_69_18, gi_69_19, pi_69_19, gi_69_20, pi_69_20, gi_69_21, pi_69_21, ga_69_22, gi_69_23, pi_69_23, ga_69_24, ga_69_25, gi_69_26, pi_69_26, ga_69_27, ga_69_28, gi_69_29, pi_69_29, gi_69_30, pi_69_30, ga_69_31, ga_69_32, ga_69_33, gi_69_34, pi_69_34, ga_69_35, ga_69_36, ga_69_37, gi_69_38, pi_69_38, gj_69_39, pj_69_39, gj_69_40, pj_69_40, ga_69_41, ga_69_42, ga_69_43, ga_69_44, ga_69_45, ga_69_46, ga_69_47, gi_69_48, pi_69_48, gi_69_49, pi_69_49, gi_69_50, pi_69_50, gi_69_51, pi_69_51, gj_69_52, pj_69_52, ga_69_53, gi_69_54, pi_69_54, gi_69_55, pi_69_55, rd_70, wr_70, ln_70, rd_71, wr_71, ln_71, rd_74, wr_74, ln_74, rd_75, wr_75, ln_75, v_tell_1, v_tell_2, v_tell_3, v_tell_5, v_tell_6, v_tell0, v_change, v_settled0, Option.bind_some, toI_i, toJ_j, toV_v, toR_r, up2_at, up2_na, up2_nk, up2_off, nI_add, nI_mul, nI_leI, nI_ltI, nI_eq, bI_eq0]
      rw [if_pos (Nat.le_refl 5)]
    · simp (disch := first | assumption | omega) only [vc_69, gi_69_0, pi_69_0, gi_69_1, pi_69_1, ga_69_2, ga_69_3, ga_69_4, ga_69_5, ga_69_6, ga_69_7, gi_69_8, pi_69_8, ga_69_9, ga_69_10, gi_69_11, pi_69_11, ga_69_12, gi_69_13, pi_69_13, gi_69_14, pi_69_14, gi_69_15, pi_69_15, gi_69_16, pi_69_16, gj_69_17, pj_69_17, gi_69_18, pi_69_18, gi_69_19, pi_69_19, gi_69_20, pi_69_20, gi_69_21, pi_69_21, ga_69_22, gi_69_23, pi_69_23, ga_69_24, ga_69_25, gi_69_26, pi_69_26, ga_69_27, ga_69_28, gi_69_29, pi_69_29, gi_69_30, pi_69_30, ga_69_31, ga_69_32, ga_69_33, gi_69_34, pi_69_34, ga_69_35, ga_69_36, ga_69_37, gi_69_38, pi_69_38, gj_69_39, pj_69_39, gj_69_40, pj_69_40, ga_69_41, ga_69_42, ga_69_43, ga_69_44, ga_69_45, ga_69_46, ga_69_47, gi_69_48, pi_69_48, gi_69_49, pi_69_49, gi_69_50, pi_69_50, gi_69_51, pi_69_51, gj_69_52, pj_69_52, ga_69_53, gi_69_54, pi_69_54, gi_69_55, pi_69_55, rd_70, wr_70, ln_70, rd_71, wr_71, ln_71, rd_74, wr_74, ln_74, rd_75, wr_75, ln_75, v_tell_1, v_tell_2, v_tell_3, v_tell_5, v_tell_6, v_tell0, v_change, v_settled0, Option.bind_some, toI_i, toJ_j, toV_v, toR_r, up2_at, up2_na, up2_nk, up2_off, nI_add, nI_mul, nI_leI, nI_ltI, nI_eq, bI_eq0, w2]
      rfl
  · rw [if_neg h0]
    refine e_X11_come ?_
    unfold F_X11_come
    unfold okD at h0 ⊢
    simp (disch := first | assumption | omega) only [vc_69, gi_69_0, pi_69_0, gi_69_1, pi_69_1, ga_69_2, ga_69_3, ga_69_4, ga_69_5, ga_69_6, ga_69_7, gi_69_8, pi_69_8, ga_69_9, ga_69_10, gi_69_11, pi_69_11, ga_69_12, gi_69_13, pi_69_13, gi_69_14, pi_69_14, gi_69_15, pi_69_15, gi_69_16, pi_69_16, gj_69_17, pj_69_17, gi_69_18, pi_69_18, gi_69_19, pi_69_19, gi_69_20, pi_69_20, gi_69_21, pi_69_21, ga_69_22, gi_69_23, pi_69_23, ga_69_24, ga_69_25, gi_69_26, pi_69_26, ga_69_27, ga_69_28, gi_69_29, pi_69_29, gi_69_30, pi_69_30, ga_69_31, ga_69_32, ga_69_33, gi_69_34, pi_69_34, ga_69_35, ga_69_36, ga_69_37, gi_69_38, pi_69_38, gj_69_39, pj_69_39, gj_69_40, pj_69_40, ga_69_41, ga_69_42, ga_69_43, ga_69_44, ga_69_45, ga_69_46, ga_69_47, gi_69_48, pi_69_48, gi_69_49, pi_69_49, gi_69_50, pi_69_50, gi_69_51, pi_69_51, gj_69_52, pj_69_52, ga_69_53, gi_69_54, pi_69_54, gi_69_55, pi_69_55, rd_70, wr_70, ln_70, rd_71, wr_71, ln_71, rd_74, wr_74, ln_74, rd_75, wr_75, ln_75, v_tell_1, v_tell_2, v_tell_3, v_tell_5, v_tell_6, v_tell0, v_change, v_settled0, Option.bind_some, toI_i, toJ_j, toV_v, toR_r, up2_at, up2_na, up2_nk, up2_off, nI_add, nI_mul, nI_leI, nI_ltI, nI_eq, bI_eq0, v_in_1_99, isF, isV]
    by_cases h1 : rg t 1 99 = false
    · rw [if_pos h1, if_pos h1]
    · rw [if_neg h1, if_neg h1]
      rw [if_neg h1] at h0
      by_cases h2 : inR f F = false
      · rw [if_pos h2, if_pos h2]
      · rw [if_neg h2, if_neg h2]
        rw [if_neg h2] at h0
        by_cases h3 : inR v V = false
        · rw [if_pos h3, if_pos h3]
        · rw [if_neg h3, if_neg h3]
          rw [if_neg h3] at h0
          obtain ⟨v', hv', rfl⟩ := inR_ex (show inR v V = true by cases hh : inR v V; exact absurd hh h3; rfl) (by omega)
          obtain ⟨b, e1, e2, e3, e4⟩ := s7 v' hv'
          have e1' : I 71 (37 + v') = nI b := e1
          rw [nI_clamp (by omega), e1'] at h0 ⊢
          simp (disch := first | assumption | omega) only [vc_69, gi_69_0, pi_69_0, gi_69_1, pi_69_1, ga_69_2, ga_69_3, ga_69_4, ga_69_5, ga_69_6, ga_69_7, gi_69_8, pi_69_8, ga_69_9, ga_69_10, gi_69_11, pi_69_11, ga_69_12, gi_69_13, pi_69_13, gi_69_14, pi_69_14, gi_69_15, pi_69_15, gi_69_16, pi_69_16, gj_69_17, pj_69_17, gi_69_18, pi_69_18, gi_69_19, pi_69_19, gi_69_20, pi_69_20, gi_69_21, pi_69_21, ga_69_22, gi_69_23, pi_69_23, ga_69_24, ga_69_25, gi_69_26, pi_69_26, ga_69_27, ga_69_28, gi_69_29, pi_69_29, gi_69_30, pi_69_30, ga_69_31, ga_69_32, ga_69_33, gi_69_34, pi_69_34, ga_69_35, ga_69_36, ga_69_37, gi_69_38, pi_69_38, gj_69_39, pj_69_39, gj_69_40, pj_69_40, ga_69_41, ga_69_42, ga_69_43, ga_69_44, ga_69_45, ga_69_46, ga_69_47, gi_69_48, pi_69_48, gi_69_49, pi_69_49, gi_69_50, pi_69_50, gi_69_51, pi_69_51, gj_69_52, pj_69_52, ga_69_53, gi_69_54, pi_69_54, gi_69_55, pi_69_55, rd_70, wr_70, ln_70, rd_71, wr_71, ln_71, rd_74, wr_74, ln_74, rd_75, wr_75, ln_75, v_tell_1, v_tell_2, v_tell_3, v_tell_5, v_tell_6, v_tell0, v_change, v_settled0, Option.bind_some, toI_i, toJ_j, toV_v, toR_r, up2_at, up2_na, up2_nk, up2_off, nI_add, nI_mul, nI_leI, nI_ltI, nI_eq, bI_eq0, v_freeIn hS w2 d8 (show v' < 5 by omega), e1', nI_sub, w2]
          by_cases h4 : b = cnt (fun j => I 71 (9 + j)) (nI v') D
          · rw [if_pos (by rw [h4, Nat.sub_self]; rfl), if_pos (by rw [← h4])]
          · rw [if_neg (nI_ne0 (by omega) (by omega)), if_neg h4]
            rw [if_neg (fun z => h4 ((nI_eq (by omega) (by omega)).mp z))] at h0
            by_cases h5 : D = 8
            · rw [if_pos h5, if_pos h5]
            · rw [if_neg h5] at h0
              exact absurd rfl h0
end CM
