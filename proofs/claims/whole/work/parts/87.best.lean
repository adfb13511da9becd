/-! the reference's table of beds -/
def blF (free v : Nat) : Nat := free / 4 ^ v % 4
def oI (o : Option Nat) : Int32 := match o with
  | none => -1
  | some x => nI x
def mxO (a b : Option Nat) : Option Nat := match a, b with
  | none, b => b
  | some x, none => some x
  | some x, some y => if y ≤ x then some x else some y
def mxV (b : Nat → Option Nat) (s : Option Nat) : Nat → Option Nat
  | 0 => s
  | v + 1 => mxO (mxV b s v) (b v)
def bnF (nx : Nat → Option Nat) (br : Nat → Bool) (gn : Nat → Nat) (free v : Nat) : Option Nat := if (br v || decide (blF free v = 0)) = true then none else (nx (free - 4 ^ v)).map (fun x => x + gn v)
/-- what can be reached from the d-th on, k in all, with these beds -/
def btF (V : Nat) (bar : Nat → Nat → Bool) (lies : Nat → Bool) (gn : Nat → Nat → Nat) (all : Bool) : Nat → Nat → Nat → Option Nat
  | 0, _, _ => some 0
  | k + 1, d, free => if lies d = true then mxV (bnF (btF V bar lies gn all k (d + 1)) (bar d) (gn d) free) (if all = true then none else btF V bar lies gn all k (d + 1) free) V else btF V bar lies gn all k (d + 1) free
def Bd (B : Nat) (o : Option Nat) : Prop := ∀ x, o = some x → x ≤ B
theorem mxO_bd {a b : Option Nat} {B : Nat} (h1 : Bd B a) (h2 : Bd B b) : Bd B (mxO a b) := by
  intro x hx
  cases a with
  | none => exact h2 x hx
  | some y =>
    cases b with
    | none => exact h1 x hx
    | some z =>
      unfold mxO at hx
      dsimp only at hx
      split at hx
      · exact h1 x hx
      · exact h2 x hx
theorem mxV_bd {b : Nat → Option Nat} {s : Option Nat} {B : Nat} (h1 : ∀ v, Bd B (b v)) (h2 : Bd B s) : ∀ V, Bd B (mxV b s V)
  | 0 => h2
  | V + 1 => mxO_bd (mxV_bd h1 h2 V) (h1 V)
theorem bnF_bd {nx : Nat → Option Nat} {br : Nat → Bool} {gn : Nat → Nat} {B G : Nat} (h1 : ∀ f, Bd B (nx f)) (h2 : ∀ v, gn v ≤ G) (free v : Nat) : Bd (B + G) (bnF nx br gn free v) := by
  intro x hx
  unfold bnF at hx
  split at hx
  · cases hx
  · cases e : nx (free - 4 ^ v) with
    | none =>
      rw [e] at hx
      cases hx
    | some y =>
      rw [e] at hx
      cases hx
      have := h1 _ y e
      have := h2 v
      show y + gn v ≤ B + G
      omega
theorem Bd.mono {B B' : Nat} {o : Option Nat} (h : Bd B o) (hl : B ≤ B') : Bd B' o := fun x hx => Nat.le_trans (h x hx) hl
theorem btF_bd {V : Nat} {bar : Nat → Nat → Bool} {lies : Nat → Bool} {gn : Nat → Nat → Nat} {all : Bool} {G : Nat} (hg : ∀ d v, gn d v ≤ G) : ∀ (k d free : Nat), Bd (G * k) (btF V bar lies gn all k d free)
  | 0, _, _ => fun x hx => by
    cases hx
    exact Nat.zero_le _
  | k + 1, d, free => by
    have ih := btF_bd (V := V) (bar := bar) (lies := lies) (all := all) hg k (d + 1)
    have le : G * k ≤ G * (k + 1) := by rw [Nat.mul_succ]; omega
    unfold btF
    split
    · rw [Nat.mul_succ]
      refine mxV_bd (fun v => bnF_bd ih (hg d) free v) ?_ V
      split
      · intro x hx
        cases hx
      · exact (ih free).mono (by omega)
    · exact (ih free).mono le
theorem oI_mx {a b : Option Nat} (h1 : Bd 1000000 a) (h2 : Bd 1000000 b) : (if oI b ≤ oI a then oI a else oI b) = oI (mxO a b) := by
  cases a with
  | none =>
    cases b with
    | none => decide
    | some y =>
      have := h2 y rfl
      rw [if_neg (show ¬ oI (some y) ≤ oI none from Int32.not_le.mpr (show (-1 : Int32) < nI y by rw [Int32.lt_iff_toInt_lt, nI_toI (by omega), show (-1 : Int32).toInt = -1 by decide]; omega))]
      rfl
  | some x =>
    have h1' := h1 x rfl
    cases b with
    | none =>
      rw [if_pos (show oI none ≤ oI (some x) from (show (-1 : Int32) ≤ nI x by rw [Int32.le_iff_toInt_le, nI_toI (by omega), show (-1 : Int32).toInt = -1 by decide]; omega))]
      rfl
    | some y =>
      have h2' := h2 y rfl
      show (if nI y ≤ nI x then nI x else nI y) = oI (if y ≤ x then some x else some y)
      by_cases h : y ≤ x
      · rw [if_pos (nI_le h (by omega)), if_pos h]
        rfl
      · rw [if_neg (nI_ge (by omega) (by omega)), if_neg h]
        rfl
theorem oI_n {a : Option Nat} (h : Bd 1000000 a) : oI a = -1 ↔ a = none := by
  cases a with
  | none => exact ⟨fun _ => rfl, fun _ => rfl⟩
  | some x => exact ⟨fun z => absurd z (nI_ne1 (by have := h x rfl; omega)), fun z => by cases z⟩
theorem bl_all : ∀ v, v < 5 → ∀ f, f < 1024 → (nI f >>> ((nI 2 * nI v) &&& 31)) &&& nI 3 = nI (f / 4 ^ v % 4) := by decide +kernel
theorem sh4 : ∀ v, v < 5 → nI 1 <<< ((nI 2 * nI v) &&& 31) = nI (4 ^ v) := by decide +kernel
theorem bl_ge {f v : Nat} (h : blF f v ≠ 0) : 4 ^ v ≤ f := by
  apply Nat.le_of_not_lt
  intro z
  apply h
  unfold blF
  rw [Nat.div_eq_of_lt z]
section BT
variable {O : mO} {c d u n : Nat} {T : Nat → mT} {I : Nat → Nat → Int32} {J : Nat → Nat → Int64} {R : Nat → Nat → Option Nat} {V F D S N k i v f : Nat} {w : Nat → Int32} {all : Bool}
def bsB (w : Nat → Int32) (D d v : Nat) : Bool := baR w D d (nI v)
def bsL (w : Nat → Int32) (all : Bool) (d : Nat) : Bool := decide (w (9 + d) ≠ -1) == all
def bsG (w : Nat → Int32) (all : Bool) (d v : Nat) : Nat := if all = true then 1 else 1000 + nv w (50 + 5 * d + v) % 10
/-- the table -/
def bsT (w : Nat → Int32) (V D : Nat) (all : Bool) (d f : Nat) : Option Nat := btF V (bsB w D) (bsL w all) (bsG w all) all (D - d) d f
theorem bsG_le (w : Nat → Int32) (all : Bool) (d v : Nat) : bsG w all d v ≤ 1009 := by
  unfold bsG
  split <;> omega
theorem bsT_bd (h8 : D ≤ 8) (d f : Nat) : Bd 10000 (bsT w V D all d f) := by
  refine (btF_bd (bsG_le w all) (D - d) d f).mono ?_
  have := Nat.mul_le_mul_left 1009 (show D - d ≤ 8 by omega)
  omega
/-- who may not lie where -/
theorem m_layBar (hS : St n T R) (h20 : I 69 20 = nI 0) (hw : Wf (I 71) V F D S N) : ∃ I' J', ev O (d + 6) MX11_layBarred [.ref 69] (hp u n T I J R) = some (none, hp u n T I' J' R) ∧ (∀ a, a ≠ 69 → a ≠ 93 → I' a = I a) ∧ (∀ k, k ≠ 34 → k ≠ 38 → I' 69 k = I 69 k) ∧ MJx J J' ∧ ∀ i v, i < D → v < V → I' 93 (5 * i + v) = bI (bsB (I 71) D i v) := by
  have h8 := hw.1
  have L1 : ∃ r, lupF (fun (q : Int32 × mH) => F_X11_layBarred_l2 O (d + 5) 69 q.1 q.2) FU (nI 0, hp u n T I J R) = some r ∧ (fun r => ∃ I' J', r = hp u n T I' J' R ∧ (∀ a, a ≠ 69 → a ≠ 93 → I' a = I a) ∧ (∀ k, k ≠ 34 → k ≠ 38 → I' 69 k = I 69 k) ∧ MJx J J' ∧ ∀ i v, i < D → v < V → I' 93 (5 * i + v) = bI (bsB (I 71) D i v)) r := by
    refine lup_P0 (fun m s => ∃ I' J', s = (nI m, hp u n T I' J' R) ∧ (∀ a, a ≠ 69 → a ≠ 93 → I' a = I a) ∧ (∀ k, k ≠ 34 → k ≠ 38 → I' 69 k = I 69 k) ∧ MJx J J' ∧ ∀ i v, i < m → v < V → I' 93 (5 * i + v) = bI (bsB (I 71) D i v)) _ (N := D) (by omega) ⟨I, J, rfl, fun _ _ _ => rfl, fun _ _ _ => rfl, MJx_r J, fun i v hi => absurd hi (Nat.not_lt_zero i)⟩ ?_ ?_
    · intro m s hm ⟨I1, J1, hs, a1, a2, a3, a4⟩
      subst hs
      left
      have w2 : I1 71 2 = nI D := by rw [a1 71 (by decide) (by decide)]; exact hw.2.1.2.2.1
      have L2 : ∃ r, lupF (fun (q : Int32 × mH) => F_X11_layBarred_l14 O (d + 5) 69 (nI m) q.1 q.2) FU (nI 0, hp u n T I1 J1 R) = some r ∧ (fun r => ∃ I' J', r = hp u n T I' J' R ∧ (∀ a, a ≠ 69 → a ≠ 93 → I' a = I a) ∧ (∀ k, k ≠ 34 → k ≠ 38 → I' 69 k = I 69 k) ∧ MJx J J' ∧ (∀ i v, i < m → v < V → I' 93 (5 * i + v) = bI (bsB (I 71) D i v)) ∧ ∀ v, v < V → I' 93 (5 * m + v) = bI (bsB (I 71) D m v)) r := by
        refine lup_P0 (fun q s => ∃ I' J', s = (nI q, hp u n T I' J' R) ∧ (∀ a, a ≠ 69 → a ≠ 93 → I' a = I a) ∧ (∀ k, k ≠ 34 → k ≠ 38 → I' 69 k = I 69 k) ∧ MJx J J' ∧ (∀ i v, i < m → v < V → I' 93 (5 * i + v) = bI (bsB (I 71) D i v)) ∧ ∀ v, v < q → I' 93 (5 * m + v) = bI (bsB (I 71) D m v)) _ (N := V) (by omega) ⟨I1, J1, rfl, a1, a2, a3, a4, fun v hv => absurd hv (Nat.not_lt_zero v)⟩ ?_ ?_
        · intro q s hq ⟨I2, J2, hs, b1, b2, b3, b4, b5⟩
          subst hs
          left
          have e71 : I2 71 = I 71 := b1 71 (by decide) (by decide)
          have w0 : I2 71 0 = nI V := by rw [e71]; exact hw.2.1.1
          obtain ⟨I3, J3, e3, s3⟩ := v_mBar (O := O) (d := d) (u := u) (J := J2) (I := I2) (k := m) (v := q) hS (by rw [b2 20 (by decide) (by decide)]; exact h20) (by rw [e71]; exact hw) hm hq
          rw [e71] at e3
          have nar : vp_nar .boolean (bI (bsB (I 71) D m q)) = bI (bsB (I 71) D m q) := by cases bsB (I 71) D m q <;> decide
          refine ⟨(nI (q + 1), hp u n T (up2 I3 93 (5 * m + q) (bI (bsB (I 71) D m q))) J3 R), ?_, _, J3, rfl, fun a z1 z2 => by rw [up2_off _ _ _ z2, s3.1 a z1]; exact b1 a z1 z2, fun k z1 z2 => by rw [up2_na (by decide), s3.2.1 k z1 z2]; exact b2 k z1 z2, fun a ha => (MJx_SxM s3 a ha).trans (b3 a ha), fun i v hi hv => ?_, fun v hv => ?_⟩
          · dsimp only
            unfold F_X11_layBarred_l14
            rw [ga_69_3 hS, Option.bind_some, rd_71 hS (by omega), Option.bind_some, w0, if_neg (nI_ge hq (by omega)), ga_69_44 hS, Option.bind_some, vc_69 hS, e3, toI_i, Option.bind_some]
            dsimp only
            rw [nI_mul, nI_add, wr_93 hS (by omega), Option.bind_some, nI_add]
            rw [show baR (I 71) D m (nI q) = bsB (I 71) D m q from rfl, nar]
          · rw [up2_nk (by omega), s3.1 93 (by decide)]
            exact b4 i v hi hv
          · by_cases e : v = q
            · rw [e, up2_at]
            · rw [up2_nk (by omega), s3.1 93 (by decide)]
              exact b5 v (by omega)
        · intro s ⟨I2, J2, hs, b1, b2, b3, b4, b5⟩
          subst hs
          have w0 : I2 71 0 = nI V := by rw [b1 71 (by decide) (by decide)]; exact hw.2.1.1
          refine ⟨_, ?_, I2, J2, rfl, b1, b2, b3, b4, b5⟩
          dsimp only
          unfold F_X11_layBarred_l14
          rw [ga_69_3 hS, Option.bind_some, rd_71 hS (by omega), Option.bind_some, w0, if_pos (nI_le (Nat.le_refl V) (by omega))]
      obtain ⟨r, e, I2, J2, hr, b1, b2, b3, b4, b5⟩ := L2
      refine ⟨(nI (m + 1), hp u n T I2 J2 R), ?_, I2, J2, rfl, b1, b2, b3, fun i v hi hv => ?_⟩
      · dsimp only
        unfold F_X11_layBarred_l2
        rw [ga_69_3 hS, Option.bind_some, rd_71 hS (by omega), Option.bind_some, w2, if_neg (nI_ge hm (by omega)), e, hr, Option.bind_some, nI_add]
      · by_cases e : i = m
        · rw [e]
          exact b5 v hv
        · exact b4 i v (by omega) hv
    · intro s ⟨I1, J1, hs, a1, a2, a3, a4⟩
      subst hs
      have w2 : I1 71 2 = nI D := by rw [a1 71 (by decide) (by decide)]; exact hw.2.1.2.2.1
      refine ⟨_, ?_, I1, J1, rfl, a1, a2, a3, a4⟩
      dsimp only
      unfold F_X11_layBarred_l2
      rw [ga_69_3 hS, Option.bind_some, rd_71 hS (by omega), Option.bind_some, w2, if_pos (nI_le (Nat.le_refl D) (by omega))]
  obtain ⟨r, e, I', J', hr, h⟩ := L1
  refine ⟨I', J', e_X11_layBarred (d := d + 5) ?_, h⟩
  unfold F_X11_layBarred
  rw [e, hr]
  rfl
/-- the rows of the table from i on stand -/
def TbR (I : Nat → Nat → Int32) (w : Nat → Int32) (V D : Nat) (all : Bool) (i : Nat) : Prop := ∀ j f, i ≤ j → j ≤ D → f < 1024 → I 92 (1024 * j + f) = oI (bsT w V D all j f)
theorem m_bestIn (hS : St n T R) (hw : Wf (I 71) V F D S N) (hb : ∀ i v, i < D → v < V → I 93 (5 * i + v) = bI (bsB (I 71) D i v)) (hi : i < D) (hv : v < V) (hf : f < 1024) (ht : TbR I (I 71) V D all (i + 1)) : ev O (d + 2) MX11_bestIn [.ref 69, .int (nI i), .int (nI f), .int (nI v), .int (bI all)] (hp u n T I J R) = some (some (.int (oI (bnF (bsT (I 71) V D all (i + 1)) (bsB (I 71) D i) (bsG (I 71) all i) f v))), hp u n T I J R) := by
  have h8 := hw.1
  refine e_X11_bestIn (d := d + 1) ?_
  unfold F_X11_bestIn
  rw [ga_69_44 hS, Option.bind_some, nI_mul, nI_add, rd_93 hS (by omega), Option.bind_some, hb i v hi hv]
  unfold bnF
  cases hbar : bsB (I 71) D i v with
  | true =>
    rw [if_neg nbt]
    rfl
  | false =>
    have be : ev O (d + 1) MX11_bedsLeft [.int (nI f), .int (nI v)] (hp u n T I J R) = some (some (.int (nI (blF f v))), hp u n T I J R) := by
      refine e_X11_bedsLeft ?_
      unfold F_X11_bedsLeft
      rw [bl_all v (by omega) f hf]
      rfl
    have bl4 : blF f v < 4 := Nat.mod_lt _ (by decide)
    rw [if_pos (show bI false = 0 from rfl), be, toI_i, Option.bind_some]
    dsimp only
    by_cases h0 : blF f v = 0
    · rw [if_pos (by rw [h0]; rfl), decide_eq_true h0, Bool.or_true, if_pos rfl]
      rfl
    · have p4 := bl_ge h0
      have s4 := sh4 v (by omega)
      generalize 4 ^ v = q4 at p4 s4 ⊢
      have tb := ht (i + 1) (f - q4) (by omega) (by omega) (by omega)
      have bd := bsT_bd (w := I 71) (V := V) (all := all) h8.2.2.1 (i + 1) (f - q4)
      rw [if_neg (show ¬ nI (blF f v) = 0 from fun z => h0 ((nI_eq (b := 0) (by omega) (by omega)).mp z)), decide_eq_false h0, Bool.or_false, if_neg (show ¬ false = true by decide), ga_69_43 hS, Option.bind_some, s4, nI_add, nI_mul, nI_add, nI_sub (by omega), show 1024 * (i + 1) + f - q4 = 1024 * (i + 1) + (f - q4) by omega, rd_92 hS (by omega), Option.bind_some, tb]
      cases hx : bsT (I 71) V D all (i + 1) (f - q4) with
      | none =>
        rw [if_pos (show oI none = -1 from rfl)]
        rfl
      | some x =>
        have x1 := bd x hx
        rw [if_neg (show ¬ oI (some x) = -1 from nI_ne1 (by omega))]
        cases all with
        | true =>
          rw [if_neg nbt]
          show some (nI x + nI 1, _) = some (nI (x + 1), _)
          rw [nI_add]
        | false =>
          obtain ⟨⟨q, q1, q2⟩, -⟩ := hw.2.2.2.2.2.1 i v (by omega) (by omega)
          have eg : bsG (I 71) false i v = 1000 + q := by
            unfold bsG
            rw [if_neg (by decide), nv_n q2 (by omega), Nat.mod_eq_of_lt (by omega)]
          rw [if_pos (show bI false = 0 from rfl), ga_69_3 hS, Option.bind_some, nI_add, nI_add, rd_71 hS (by omega), Option.bind_some, q2, nI_add, Option.map_some, eg]
          show some (nI x + nI (1000 + q), _) = some (nI (x + (1000 + q)), _)
          rw [nI_add]
theorem bsT_s (hi : i < D) (f : Nat) : bsT w V D all i f = if bsL w all i = true then mxV (bnF (bsT w V D all (i + 1)) (bsB w D i) (bsG w all i) f) (if all = true then none else bsT w V D all (i + 1) f) V else bsT w V D all (i + 1) f := by
  have e : D - i = (D - (i + 1)) + 1 := by omega
  unfold bsT
  rw [e]
  rfl
theorem bsT_D (f : Nat) : bsT w V D all D f = some 0 := by
  unfold bsT
  rw [Nat.sub_self]
  rfl
/-- one place of the table -/
theorem m_place (hS : St n T R) (hw : Wf (I 71) V F D S N) (hb : ∀ i v, i < D → v < V → I 93 (5 * i + v) = bI (bsB (I 71) D i v)) (hi : i ≤ D) (hf : f < 1024) (ht : TbR I (I 71) V D all (i + 1)) : F_X11_layBest_l17 O (d + 2) 69 (bI all) (nI i) (nI f) (hp u n T I J R) = some (.inl (nI (f + 1), hp u n T (up2 I 92 (1024 * i + f) (oI (bsT (I 71) V D all i f))) J R)) := by
  have h8 := hw.1
  have w2 : I 71 2 = nI D := hw.2.1.2.2.1
  have w0 : I 71 0 = nI V := hw.2.1.1
  have put : ∀ o, F_X11_layBest_j145 O (d + 2) 69 (bI all) (nI i) (nI f) (oI o) (hp u n T I J R) = some (.inl (nI (f + 1), hp u n T (up2 I 92 (1024 * i + f) (oI o)) J R)) := by
    intro o
    unfold F_X11_layBest_j145
    rw [ga_69_43 hS, Option.bind_some, nI_mul, nI_add, wr_92 hS (by omega), Option.bind_some, nI_add]
  have stay : ∀ o, F_X11_layBest_j91 O (d + 2) 69 (bI all) (nI i) (nI f) (nI 0) (oI o) (hp u n T I J R) = some (.inl (nI (f + 1), hp u n T (up2 I 92 (1024 * i + f) (oI o)) J R)) := by
    intro o
    have e : lupF (fun (q : Int32 × Int32 × mH) => F_X11_layBest_l96 O (d + 2) 69 (bI all) (nI i) (nI f) (nI 0) q.1 q.2.1 q.2.2) FU (oI o, nI 0, hp u n T I J R) = some (oI o, hp u n T I J R) := by
      refine lup_0 (fun _ => (oI o, nI 0, hp u n T I J R)) (N := 0) (by decide) rfl (fun k hk => absurd hk (Nat.not_lt_zero k)) ?_
      dsimp only
      unfold F_X11_layBest_l96
      rw [ga_69_3 hS, Option.bind_some, rd_71 hS (by omega), Option.bind_some, w0]
      split
      · rfl
      · rw [if_pos (show nI 0 = 0 from rfl)]
    unfold F_X11_layBest_j91
    rw [e, Option.bind_some]
    exact put o
  have down : ∀ v4, i < D → F_X11_layBest_j63 O (d + 2) 69 (bI all) (nI i) (nI f) v4 (hp u n T I J R) = F_X11_layBest_j91 O (d + 2) 69 (bI all) (nI i) (nI f) v4 (oI (bsT (I 71) V D all (i + 1) f)) (hp u n T I J R) := by
    intro v4 hid
    unfold F_X11_layBest_j63
    rw [ga_69_3 hS, Option.bind_some, rd_71 hS (by omega), Option.bind_some, w2, if_neg (fun z => absurd ((nI_eq (by omega) (by omega)).mp z) (by omega)), ga_69_43 hS, Option.bind_some, nI_add, nI_mul, nI_add, rd_92 hS (by omega), Option.bind_some, ht (i + 1) f (by omega) (by omega) hf]
  have lies : ∀ o, Bd 10000 o → i < D → F_X11_layBest_j91 O (d + 2) 69 (bI all) (nI i) (nI f) (nI 1) (oI o) (hp u n T I J R) = some (.inl (nI (f + 1), hp u n T (up2 I 92 (1024 * i + f) (oI (mxV (bnF (bsT (I 71) V D all (i + 1)) (bsB (I 71) D i) (bsG (I 71) all i) f) o V))) J R)) := by
    intro o ho hid
    have bd : ∀ v, Bd 1000000 (bnF (bsT (I 71) V D all (i + 1)) (bsB (I 71) D i) (bsG (I 71) all i) f v) := fun v => (bnF_bd (fun f => bsT_bd h8.2.2.1 (i + 1) f) (bsG_le (I 71) all i) f v).mono (by decide)
    have e : lupF (fun (q : Int32 × Int32 × mH) => F_X11_layBest_l96 O (d + 2) 69 (bI all) (nI i) (nI f) (nI 1) q.1 q.2.1 q.2.2) FU (oI o, nI 0, hp u n T I J R) = some (oI (mxV (bnF (bsT (I 71) V D all (i + 1)) (bsB (I 71) D i) (bsG (I 71) all i) f) o V), hp u n T I J R) := by
      refine lup_0 (fun v => (oI (mxV (bnF (bsT (I 71) V D all (i + 1)) (bsB (I 71) D i) (bsG (I 71) all i) f) o v), nI v, hp u n T I J R)) (N := V) (by omega) rfl (fun v hv => ?_) ?_
      · dsimp only
        unfold F_X11_layBest_l96
        rw [ga_69_3 hS, Option.bind_some, rd_71 hS (by omega), Option.bind_some, w0, if_neg (nI_ge hv (by omega)), if_neg (show ¬ nI 1 = 0 by decide), vc_69 hS, m_bestIn hS hw hb hid hv hf ht, toI_i, Option.bind_some]
        dsimp only
        rw [oI_mx (mxV_bd bd (ho.mono (by decide)) v) (bd v), nI_add]
        rfl
      · dsimp only
        unfold F_X11_layBest_l96
        rw [ga_69_3 hS, Option.bind_some, rd_71 hS (by omega), Option.bind_some, w0, if_pos (nI_le (Nat.le_refl V) (by omega))]
    unfold F_X11_layBest_j91
    rw [e, Option.bind_some]
    exact put _
  unfold F_X11_layBest_l17
  rw [if_neg (nI_ge hf (by omega)), ga_69_3 hS, Option.bind_some, rd_71 hS (by omega), Option.bind_some, w2]
  by_cases hid : i < D
  · rw [if_neg (nI_ge hid (by omega)), vc_69 hS, v_isIn hS (by omega), toI_i, Option.bind_some]
    dsimp only
    rw [bsT_s hid]
    cases hl : bsL (I 71) all i with
    | false =>
      have ne : ¬ bI (decide (I 71 (9 + i) ≠ -1)) = bI all := by
        unfold bsL at hl
        intro z
        revert hl z
        cases decide (I 71 (9 + i) ≠ -1) <;> cases all <;> decide
      rw [if_neg ne, if_pos (show nI 0 = 0 from rfl), down _ hid, if_neg (by decide)]
      exact stay _
    | true =>
      have eq : bI (decide (I 71 (9 + i) ≠ -1)) = bI all := by
        unfold bsL at hl
        revert hl
        cases decide (I 71 (9 + i) ≠ -1) <;> cases all <;> decide
      rw [if_pos eq, if_neg (show ¬ nI 1 = 0 by decide), if_pos rfl]
      cases all with
      | true =>
        rw [if_neg nbt, if_pos rfl]
        exact lies none (fun x hx => by cases hx) hid
      | false =>
        rw [if_pos (show bI false = 0 from rfl), down _ hid, if_neg (by decide)]
        exact lies _ (bsT_bd h8.2.2.1 _ _) hid
  · have e : i = D := by omega
    subst e
    rw [if_pos (nI_le (Nat.le_refl i) (by omega)), bsT_D]
    unfold F_X11_layBest_j47 F_X11_layBest_j48
    rw [if_pos (show nI 0 = 0 from rfl)]
    unfold F_X11_layBest_j63
    rw [ga_69_3 hS, Option.bind_some, rd_71 hS (by omega), Option.bind_some, w2, if_pos rfl]
    exact stay (some 0)
/-- the whole table -/
theorem m_layBest (all : Bool) (hS : St n T R) (h20 : I 69 20 = nI 0) (hw : Wf (I 71) V F D S N) : ∃ I' J', ev O (d + 7) MX11_layBest [.ref 69, .int (bI all)] (hp u n T I J R) = some (none, hp u n T I' J' R) ∧ (∀ a, a ≠ 69 → a ≠ 92 → a ≠ 93 → I' a = I a) ∧ (∀ k, k ≠ 34 → k ≠ 38 → I' 69 k = I 69 k) ∧ MJx J J' ∧ (∀ i v, i < D → v < V → I' 93 (5 * i + v) = bI (bsB (I 71) D i v)) ∧ TbR I' (I 71) V D all 0 := by
  have h8 := hw.1
  obtain ⟨I1, J1, e1, a1, a2, a3, a4⟩ := m_layBar (O := O) (d := d) (u := u) (J := J) hS h20 hw
  have e71 : I1 71 = I 71 := a1 71 (by decide) (by decide)
  have w2 : I1 71 2 = nI D := by rw [e71]; exact hw.2.1.2.2.1
  have L1 : ∃ r, lupF (fun (q : Int32 × mH) => F_X11_layBest_l11 O (d + 6) 69 (bI all) q.1 q.2) FU (nI D, hp u n T I1 J1 R) = some r ∧ (fun r => ∃ I', r = hp u n T I' J1 R ∧ (∀ a, a ≠ 92 → I' a = I1 a) ∧ TbR I' (I 71) V D all 0) r := by
    refine lup_P0 (fun m s => ∃ I', s = ((if m ≤ D then nI (D - m) else -1), hp u n T I' J1 R) ∧ (∀ a, a ≠ 92 → I' a = I1 a) ∧ TbR I' (I 71) V D all (D + 1 - m)) _ (N := D + 1) (by omega) ⟨I1, by rw [if_pos (Nat.zero_le D)]; rfl, fun _ _ => rfl, fun j f h1 h2 => by omega⟩ ?_ ?_
    · intro m s hm ⟨I2, hs, b1, b2⟩
      subst hs
      left
      rw [if_pos (by omega)]
      have f71 : I2 71 = I 71 := (b1 71 (by decide)).trans e71
      have L2 : ∃ r, lupF (fun (q : Int32 × mH) => F_X11_layBest_l17 O (d + 6) 69 (bI all) (nI (D - m)) q.1 q.2) FU (nI 0, hp u n T I2 J1 R) = some r ∧ (fun r => ∃ I', r = hp u n T I' J1 R ∧ (∀ a, a ≠ 92 → I' a = I1 a) ∧ TbR I' (I 71) V D all (D + 1 - (m + 1))) r := by
        refine lup_P0 (fun f s => ∃ I', s = (nI f, hp u n T I' J1 R) ∧ (∀ a, a ≠ 92 → I' a = I1 a) ∧ TbR I' (I 71) V D all (D - m + 1) ∧ ∀ g, g < f → I' 92 (1024 * (D - m) + g) = oI (bsT (I 71) V D all (D - m) g)) _ (N := 1024) (by decide) ⟨I2, rfl, b1, by rw [show D - m + 1 = D + 1 - m by omega]; exact b2, fun g hg => absurd hg (Nat.not_lt_zero g)⟩ ?_ ?_
        · intro f s hf ⟨I3, hs, c1, c2, c3⟩
          subst hs
          left
          have g71 : I3 71 = I 71 := (c1 71 (by decide)).trans e71
          have pl := m_place (O := O) (d := d + 4) (u := u) (J := J1) (I := I3) (all := all) (i := D - m) (f := f) hS (by rw [g71]; exact hw) (fun i v hi hv => by rw [c1 93 (by decide), g71]; exact a4 i v hi hv) (by omega) hf (by rw [g71]; exact c2)
          rw [g71] at pl
          refine ⟨_, pl, _, rfl, fun a ha => by rw [up2_off _ _ _ ha]; exact c1 a ha, fun j g h1 h2 h3 => ?_, fun g hg => ?_⟩
          · rw [up2_nk (by omega)]
            exact c2 j g h1 h2 h3
          · by_cases e : g = f
            · rw [e, up2_at]
            · rw [up2_nk (by omega)]
              exact c3 g (by omega)
        · intro s ⟨I3, hs, c1, c2, c3⟩
          subst hs
          refine ⟨_, ?_, I3, rfl, c1, fun j f h1 h2 h3 => ?_⟩
          · dsimp only
            unfold F_X11_layBest_l17
            rw [if_pos (nI_le (Nat.le_refl 1024) (by omega))]
          · by_cases e : j = D - m
            · rw [e]
              exact c3 f h3
            · exact c2 j f (by omega) h2 h3
      obtain ⟨r, e, I3, hr, c1, c2⟩ := L2
      refine ⟨((if m + 1 ≤ D then nI (D - (m + 1)) else -1), hp u n T I3 J1 R), ?_, I3, rfl, c1, c2⟩
      dsimp only
      unfold F_X11_layBest_l11
      rw [if_neg (nI_pos (by omega)), e, hr, Option.bind_some]
      by_cases hmD : m + 1 ≤ D
      · rw [if_pos hmD, nI_m1 (by omega), show D - m - 1 = D - (m + 1) by omega]
      · rw [if_neg hmD, show D - m = 0 by omega]
        rfl
    · intro s ⟨I2, hs, b1, b2⟩
      subst hs
      rw [if_neg (by omega)]
      refine ⟨_, ?_, I2, rfl, b1, by rw [Nat.sub_self] at b2; exact b2⟩
      dsimp only
      unfold F_X11_layBest_l11
      rw [if_pos (by decide)]
  obtain ⟨r, e, I2, hr, b1, b2⟩ := L1
  refine ⟨I2, J1, e_X11_layBest (d := d + 6) ?_, fun a z1 z2 z3 => (b1 a z2).trans (a1 a z1 z3), fun k z1 z2 => by rw [b1 69 (by decide)]; exact a2 k z1 z2, a3, fun i v hi hv => by rw [b1 93 (by decide)]; exact a4 i v hi hv, b2⟩
  unfold F_X11_layBest
  rw [vc_69 hS, e1, toV_v, Option.bind_some, ga_69_3 hS, Option.bind_some, rd_71 hS (by omega), Option.bind_some, w2, e, hr]
  rfl
end BT
