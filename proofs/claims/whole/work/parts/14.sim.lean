/-! THE MODEL'S MACHINE DOES WHAT THE SMALL MACHINE DOES -/
def mRm (d mc ms : Nat) : Room := { frames := d + 8, cells := mc, slots := ms, locals := (d + 8) * 64 }
def mWd (y : MethodName) (b : ByteArray) (nL : Nat) (ret : Option FieldType) : List Cond := Cond.code y b nL ret :: mTbl
def mPc (O : mO) (base : Nat) (od : Nat → Nat) (D : va_G) (kA : Nat → ClassId) (X : State → Prop) (as : List Value) (K : mH) : Array Value → State → Prop := va_Pc (as.map (mV base od)) (fun U => U.heap.size = base + K.2.length ∧ va_P D mCls (mWs base od kA K) U.heap ∧ mCtx O base od D kA X U)
def mQc (base : Nat) (od : Nat → Nat) (D : va_G) (kA : Nat → ClassId) (r : Option Value) (K' : mH) : Array Value → State → Outcome → State → Prop := fun _ st oc t => oc = .returned (r.map (mV base od)) ∧ va_P D mCls (mWs base od kA K') t.heap ∧ va_F (mA base) st t
theorem mTbl_good {w : Cond} (h : w ∈ mTbl) : w ∈ mTbl ∧ ((w.onTables && w.keeps) = true ∨ ∃ ty, w = .arrayClass ty) := ⟨h, good_of_word (List.mem_filter.mp h).2⟩
theorem mWd_good {y : MethodName} {b : ByteArray} {nL : Nat} {ret : Option FieldType} (h : mCode y = some (b, nL, ret)) : GoodIn mTbl (mWd y b nL ret) := by
  intro w hw
  rcases List.mem_cons.mp hw with rfl | hw
  · exact mTbl_good (mTbl_in (mCode_in h) rfl)
  · exact mTbl_good hw
theorem mCal_in {y : MethodName} {b : ByteArray} {nL n : Nat} {ret : Option FieldType} (h : mCal y = some (b, nL, ret, n)) : mCode y = some (b, nL, ret) ∧ mPar y = some n ∧ nL ≤ 45 ∧ (y.cls ≠ "java/lang/invoke/MethodHandle" ∧ y.cls ≠ "java/lang/invoke/VarHandle") ∧ plainName y.cls = true ∧ Cond.initialized y.cls ∈ lw_tbl := by
  unfold mCal at h
  split at h
  · rename_i b' nL' ret' n' h1 h2
    split at h
    · rename_i h3
      cases h
      obtain ⟨h3, h4⟩ := h3
      simp only [mCan, Bool.and_eq_true, decide_eq_true_eq] at h4
      exact ⟨h1, h2, h3, h4.1, h4.2.1, mHasN_in h4.2.2⟩
    · cases h
  · cases h
section SIM3
variable {l : Launch} {O : mO} {base : Nat} {od : Nat → Nat} {D : va_G} {kA : Nat → ClassId} {X : State → Prop}
theorem mPc_blind (hX : mKeep base X) (as : List Value) (K : mH) : FrameBlind (mPc O base od D kA X as K) := by
  intro a U g mk h
  obtain ⟨h1, h2, h3, h4⟩ := h
  exact ⟨h1, h2, h3, mCtx_to hX (State.WarmedH.refl U) (Nat.le_refl _) (fun _ _ _ => rfl) h4⟩
theorem mCallW {p : Program} {e : Env} {R : Room} {s : State} {m : MethodId} {args : Array Value} {below : List Frame} {meth : Method} {c : Code} {H : Heap} {locs : List Loc} {cells slots mc ms : Nat} {Q : State → Prop} {pc : Nat} {L : Array Slot} {st0 rest : List Value} {v : Option Value} {K1 : mH} {a : Array Value}
    (hr : va_Run p l e R s m args below meth c H locs cells slots mc ms (F0 m pc L st0) (rest.map (mV base od)) (mQc base od D kA v K1 a) (mA base)) (hS : va_S (mA base) s.heap H locs)
    (kk : ∀ (H1 : Heap) (locs1 : List Loc), va_P D mCls (mWs base od kA K1) H1 → va_S (mA base) s.heap H1 locs1 → W p l e R s m args below meth c H1 locs1 (cells + mc) (slots + ms) Q (F0 m (pc + 3) L ((v.toList ++ rest).map (mV base od)))) : W p l e R s m args below meth c H locs cells slots Q (F0 m pc L st0) := by
  intro T hT Y
  obtain ⟨v', st₀, t, T', L', h0, Y', hL, e1, e2, ⟨hv, hp, hz, hk⟩, st⟩ := hr T hT Y
  cases hv
  rw [h0] at hz hk
  obtain ⟨t2, a1, b1⟩ := kk T'.heap (locs ++ L') (by rw [e1]; exact hp) ⟨Nat.le_trans hS.1 (by rw [e1]; exact hz), fun q h1 h2 => by rw [e1, hk q (Nat.lt_of_lt_of_le h1 hS.1) h2]; exact hS.2.1 q h1 h2, fun q hq => by
      rcases List.mem_append.mp hq with h | h
      · exact hS.2.2 q h
      · exact hL q h⟩ T' rfl Y'
  refine ⟨t2, st t2 ?_, b1⟩
  have e3 : (v.map (mV base od)).toList ++ rest.map (mV base od) = (v.toList ++ rest).map (mV base od) := by cases v <;> rfl
  rw [show ({ F0 m pc L st0 with pc := (F0 m pc L st0).pc + 3, stack := (v.map (mV base od)).toList ++ rest.map (mV base od) } : JFrame) = F0 m (pc + 3) L ((v.toList ++ rest).map (mV base od)) from by rw [e3]]
  exact a1
set_option maxHeartbeats 4000000 in
theorem mSim (hX : mKeep base X) (hCh : mChrRow l O base od D kA X) : ∀ (n d : Nat) (y : MethodName) (b : ByteArray) (nL : Nat) (ret : Option FieldType) (K0 : mH) (r : Option Value) (K' : mH) (p : Program) (e : Env) (s : State) (m : MethodId) (args : Array Value) (below : List Frame) (meth : Method) (c : Code),
    p.tables.exec = Jvm.exec → c.code = b → meth.sig.returnType = ret → meth.locks = false → c.maxLocals = nL → s.vm.findClass y.cls = some m.cls → (y.name = "<init>" → meth.name = "<init>") → (∀ w ∈ mTbl, w.before args s = true) → mCtx O base od D kA X s → s.heap.size = base + K0.2.length →
    ∀ (pc : Nat) (ls : List (Option Value)) (st : List Value) (K : mH), mEx O n d y b nL ret pc ls st K = some (r, K') →
    ∀ (H : Heap) (locs : List Loc) (cells slots : Nat) (L : Array Slot), va_P D mCls (mWs base od kA K) H → va_S (mA base) s.heap H locs → lv_has L nL (mLv base od ls) → s.heap.size + cells = base + K.2.length → slots + K0.1 = K.1 →
    W p l e (mRm d (K'.2.length - K0.2.length) (K'.1 - K0.1)) s m args below meth c H locs cells slots (MQ below (mQc base od D kA r K') args s (K'.2.length - K0.2.length) (K'.1 - K0.1) (mA base)) (F0 m pc L (st.map (mV base od))) := by
  intro n
  induction n with
  | zero =>
    intro d y b nL ret K0 r K' p e s m args below meth c _ _ _ _ _ _ _ _ _ _ pc ls st K h
    unfold mEx at h
    cases h
  | succ n ih =>
    intro d y b nL ret K0 r K' p e s m args below meth c hx hb hr hlocks hml hown hnm hts hC hs0 pc ls st K h H locs cells slots L hP hS hL hsz hsl
    have hmono := mEx_mono _ _ _ _ _ _ _ _ _ _ _ _ h
    have tw : ∀ {w : Cond}, w ∈ lw_tbl → goodWord w = true → w.before args s = true := fun h g => hts _ (mTbl_in h g)
    obtain ⟨i, len, hdg, h⟩ := mEx_inv h
    rcases h with ⟨hret, rfl⟩ | ⟨cf, hst, hn⟩ | ⟨cf, hst, hn⟩ | ⟨z, zb, zL, zr, as, rest, d', v, K1, hinv, hd, h1, h2⟩
    · obtain rfl : cells = K.2.length - K0.2.length := by omega
      obtain rfl : slots = K.1 - K0.1 := by omega
      have hq : ∀ (v : Option Value) (t : State), t.heap = H → mQc base od D kA v K args s (.returned (v.map (mV base od))) t := fun v t ht => ⟨rfl, by rw [ht]; exact hP, hS.F ht⟩
      cases i with
      | ireturn =>
        delta mRet at hret
        dsimp only at hret
        split at hret
        · split at hret
          · rename_i h1
            obtain ⟨h1, h2⟩ := h1
            subst h1
            cases hret
            exact W.zret hx hb hr h2 (fun t ht _ => hq (some (.int _)) t ht) hS.2.2 hdg
          · cases hret
        · cases hret
      | lreturn =>
        delta mRet at hret
        dsimp only at hret
        split at hret
        · split at hret
          · rename_i h1
            subst h1
            cases hret
            exact W.lret hx hb hr (fun t ht _ => hq (some (.long _)) t ht) hS.2.2 hdg
          · cases hret
        · cases hret
      | areturn =>
        delta mRet at hret
        dsimp only at hret
        split at hret
        · split at hret
          · rename_i a C h1
            subst h1
            cases hret
            exact W.aret hx hb hr (Or.inl ⟨_, rfl⟩) (Or.inr ⟨_, rfl⟩) (fun t ht _ => hq (some (.ref a)) t ht) hS.2.2 hdg
          · cases hret
        · split at hret
          · rename_i h1
            subst h1
            cases hret
            exact W.aret hx hb hr (Or.inl ⟨_, rfl⟩) (Or.inl rfl) (fun t ht _ => hq (some .null) t ht) hS.2.2 hdg
          · cases hret
        · cases hret
      | return_ =>
        delta mRet at hret
        dsimp only at hret
        split at hret
        · split at hret
          · rename_i h1
            subst h1
            cases hret
            exact W.vret hx hb hr (fun t ht _ => hq none t ht) hS.2.2 hdg
          · cases hret
        · cases hret
      | _ => cases (show (none : Option (Option Value)) = some r from hret)
    · have g1 := mStep_mono hst
      have g2 := mEx_mono _ _ _ _ _ _ _ _ _ _ _ _ hn
      refine mStep_sim hx hb hown hnm hts hC hdg hP hS hL hsz hst ?_ ?_ ?_
      · show cells + (cf.2.2.2.2.length - K.2.length) ≤ K'.2.length - K0.2.length
        omega
      · show slots + (cf.2.2.2.1 - K.1) ≤ K'.1 - K0.1
        omega
      · intro H1 locs1 L1 cells1 slots1 hP1 hS1 hL1 hz1 hz2
        exact ih d y b nL ret K0 r K' p e s m args below meth c hx hb hr hlocks hml hown hnm hts hC hs0 _ _ _ _ hn H1 locs1 cells1 slots1 L1 hP1 hS1 hL1 hz1 (by omega)
    · have g1 := mPrm_mono hst
      have g2 := mEx_mono _ _ _ _ _ _ _ _ _ _ _ _ hn
      refine mPrm_sim hCh hx hb hml hown hts hC hdg hP hS hL ?_ ?_ ?_ ?_ hst ?_
      · show 8 ≤ d + 8
        omega
      · show 512 ≤ (d + 8) * 64
        omega
      · show cells ≤ K'.2.length - K0.2.length
        omega
      · show slots ≤ K'.1 - K0.1
        omega
      · intro H1 locs1 hP1 hS1 hL1
        exact ih d y b nL ret K0 r K' p e s m args below meth c hx hb hr hlocks hml hown hnm hts hC hs0 _ _ _ _ hn H1 locs1 cells slots L hP1 hS1 hL1 (by rw [g1.1]; exact hsz) (by rw [g1.2]; exact hsl)
    · subst hd
      have g1 := mEx_mono _ _ _ _ _ _ _ _ _ _ _ _ h1
      have g2 := mEx_mono _ _ _ _ _ _ _ _ _ _ _ _ h2
      have met : ∀ (hzc : mCode z = some (zb, zL, zr)) (hpl : plainName z.cls = true) (hal : (mArg as).length ≤ zL), Met l z (mWd z zb zL zr) (mRm d' (K1.2.length - K.2.length) (K1.1 - K.1)) (mPc O base od D kA X as K) (mQc base od D kA v K1) (K1.2.length - K.2.length) (K1.1 - K.1) (mA base) := by
        intro hzc hpl hal
        refine Met.ofW (cc := zb) (maxL := zL) (ret := zr) hpl rfl ?_
        intro p2 e2 s2 m2 args2 below2 meth2 c2 s₁ B hml2 hv
        obtain ⟨rfl, hz, hP2, hC2⟩ := hv
        have hts2 : ∀ w ∈ mTbl, w.before (as.map (mV base od)).toArray s2 = true := fun w hw => atoms_spec (ws := mWd z zb zL zr) B.pre w (List.mem_cons_of_mem _ hw)
        rw [lg_entry_eq]
        have hle := lv_entry (as.map (mV base od)) (n := zL) (by rw [mEnt_len]; exact hal)
        generalize (lg_sl (as.map (mV base od)) ++ List.replicate (zL - (lg_sl (as.map (mV base od))).length) Slot.unset).toArray = L2 at hle ⊢
        exact ih d' z zb zL zr K v K1 p2 e2 s2 m2 _ below2 meth2 c2 B.exec B.bytes B.returns B.notSynchronized hml2 (findClass_of_methodNamed B.named) (fun h => (name_of_methodNamed B.named B.method).1.trans h) hts2 hC2 hz 0 (mEnt as zL) [] K h1 s2.heap [] 0 0 L2 hP2 va_S.rf (mEnt_has hle) hz (by omega)
      have pre : ∀ U : State, U.heap = H → s.WarmedH U.vm → H.size = base + K.2.length → mPc O base od D kA X as K (as.map (mV base od)).toArray U := fun U hU hW hz => ⟨rfl, by rw [hU]; exact hz, by rw [hU]; exact hP, mCtx_to hX hW (by rw [hU]; exact hS.1) (fun q h1 h2 => by rw [hU]; exact hS.2.1 q h1 h2) hC⟩
      have goOn : ∀ (a : Array Value), va_Run p l e (mRm (d' + 1) (K'.2.length - K0.2.length) (K'.1 - K0.1)) s m args below meth c H locs cells slots (K1.2.length - K.2.length) (K1.1 - K.1) (F0 m pc L (st.map (mV base od))) (rest.map (mV base od)) (mQc base od D kA v K1 a) (mA base) →
          W p l e (mRm (d' + 1) (K'.2.length - K0.2.length) (K'.1 - K0.1)) s m args below meth c H locs cells slots (MQ below (mQc base od D kA r K') args s (K'.2.length - K0.2.length) (K'.1 - K0.1) (mA base)) (F0 m pc L (st.map (mV base od))) := by
        intro a hrun
        refine mCallW hrun hS (fun H1 locs1 hP1 hS1 => ?_)
        exact ih (d' + 1) y b nL ret K0 r K' p e s m args below meth c hx hb hr hlocks hml hown hnm hts hC hs0 _ _ _ _ h2 H1 locs1 _ _ L hP1 hS1 hL (by omega) (by omega)
      refine mSiz (fun hup => ?_)
      have hz : H.size = base + K.2.length := by
        have hlo : base + K.2.length ≤ H.size := by
          rcases Nat.eq_zero_or_pos K.2.length with h0 | h0
          · rw [h0]; exact Nat.le_trans hC.1 hS.1
          · have hk : K.2.length - 1 < (mWs base od kA K).length := by rw [mWs_len]; omega
            have hg := List.getElem?_eq_getElem hk
            have h3 := (hP _ _ hg).lt
            rw [(mWs_at hg).1] at h3
            omega
        omega
      have hroom : ∀ (zL : Nat), zL ≤ 45 → (mRm d' (K1.2.length - K.2.length) (K1.1 - K.1)).frames + 1 ≤ (mRm (d' + 1) (K'.2.length - K0.2.length) (K'.1 - K0.1)).frames ∧ 8 + (zL + 11) + (mRm d' (K1.2.length - K.2.length) (K1.1 - K.1)).locals ≤ (mRm (d' + 1) (K'.2.length - K0.2.length) (K'.1 - K0.1)).locals := fun zL hzL => ⟨by show d' + 8 + 1 ≤ d' + 1 + 8; omega, by show 8 + (zL + 11) + (d' + 8) * 64 ≤ (d' + 1 + 8) * 64; omega⟩
      have hfit : cells + (K1.2.length - K.2.length) ≤ (mRm (d' + 1) (K'.2.length - K0.2.length) (K'.1 - K0.1)).cells ∧ slots + (K1.1 - K.1) ≤ (mRm (d' + 1) (K'.2.length - K0.2.length) (K'.1 - K0.1)).slots := ⟨by show cells + (K1.2.length - K.2.length) ≤ K'.2.length - K0.2.length; omega, by show slots + (K1.1 - K.1) ≤ K'.1 - K0.1; omega⟩
      cases i with
      | invokevirtual k =>
        delta mInv at hinv
        dsimp only at hinv
        split at hinv
        · rename_i z1 b1 nL1 ret1 na hv
          split at hinv
          · rename_i a r1 hdrop
            split at hinv
            · rename_i ci fs hg
              split at hinv
              · rename_i cq hcq
                split at hinv
                · rename_i hc
                  obtain ⟨hc1, ha, hc2, hc3, hc4, hc5⟩ := hc
                  subst hc1
                  cases hinv
                  unfold mVir at hv
                  split at hv
                  · rename_i z2 hlk
                    split at hv
                    · rename_i hw
                      obtain ⟨q, hq, hqq⟩ := Option.map_eq_some_iff.mp hv
                      cases hqq
                      obtain ⟨k1, k2, k3, k4, k5, k6⟩ := mCal_in hq
                      refine goOn _ (va_runV (C := z.cls) (n := na) (b := base + a) (As := (st.take na).reverse.map (mV base od)) ⟨hx, hb, hml, hown, hts⟩ (met k1 k5 hc5) (cwV na hts ?_ rfl rfl rfl ⟨rfl, k4.1, k4.2, k2⟩ (hroom _ k3)) ⟨mPc_blind hX _ _, ?_, fun U hU hW => ?_⟩ rfl ?_ hL.1 ?_ ?_ hdg hfit)
                      · intro w hw2
                        rcases List.mem_append.mp hw2 with h5 | h5
                        · simp only [List.mem_cons, List.not_mem_nil, or_false] at h5
                          rcases h5 with rfl | rfl | rfl | rfl
                          · exact mTbl_good (mTbl_in (mLnk_in hlk) rfl)
                          · exact mTbl_good (mTbl_in (mHasI_in hw.1) rfl)
                          · exact mTbl_good (mTbl_in (mHasV_in hw.2) rfl)
                          · exact mTbl_good (mTbl_in k6 rfl)
                        · exact mWd_good k1 w h5
                      · obtain ⟨cell, u1, u2, u3⟩ := va_recv hC.2.1 hP hcq (mWs_get hg)
                        exact ⟨cell, u1, u2, by rw [← hc2]; exact u3⟩
                      · have h6 := pre U hU hW hz
                        rw [show ((Value.ref a :: (st.take na).reverse).map (mV base od)) = Value.ref (base + a) :: (st.take na).reverse.map (mV base od) from by simp only [List.map_cons, mV, mAd_lt ha]] at h6
                        exact h6
                      · simp; omega
                      · show st.map (mV base od) = ((st.take na).reverse.map (mV base od)).reverse ++ Value.ref (base + a) :: rest.map (mV base od)
                        rw [← List.map_reverse, List.reverse_reverse, show Value.ref (base + a) :: rest.map (mV base od) = (Value.ref a :: rest).map (mV base od) from by simp only [List.map_cons, mV, mAd_lt ha], ← List.map_append, ← hdrop, List.take_append_drop]
                      · exact lv_room (by rw [mV_sum]; exact hc4)
                    · cases hv
                  · cases hv
                · cases hinv
              · cases hinv
            · cases hinv
          · cases hinv
        · cases hinv
      | invokestatic k =>
        delta mInv at hinv
        dsimp only at hinv
        split at hinv
        · rename_i z1 hst1 b1 nL1 ret1 na hv
          split at hinv
          · rename_i hc
            obtain ⟨hc1, hc3, hc4, hc5⟩ := hc
            subst hc1
            cases hinv
            unfold mSts at hv
            split at hv
            · rename_i z2 hh hlk
              split at hv
              · rename_i hw
                obtain ⟨q, hq, hqq⟩ := Option.map_eq_some_iff.mp hv
                cases hqq
                obtain ⟨k1, k2, k3, k4, k5, k6⟩ := mCal_in hq
                have hstack : (F0 m pc L (st.map (mV base od))).stack = ((st.take na).reverse.map (mV base od)).reverse ++ (st.drop na).map (mV base od) := by
                  show st.map (mV base od) = _
                  rw [← List.map_reverse, List.reverse_reverse, ← List.map_append, List.take_append_drop]
                cases hst1 with
                | none =>
                  refine goOn _ (va_runS (n := na) (As := (st.take na).reverse.map (mV base od)) ⟨hx, hb, hml, hown, hts⟩ (met k1 k5 hc5) (va_cwS na hts ?_ rfl rfl rfl ⟨k4.1, k4.2, k2⟩ (hroom _ k3)) ⟨mPc_blind hX _ _, fun U hU hW => pre U hU hW hz⟩ rfl (by simp; omega) hL.1 hstack (lv_room (by rw [mV_sum]; exact hc4)) hdg hfit)
                  intro w hw2
                  rcases List.mem_append.mp hw2 with h5 | h5
                  · simp only [List.mem_cons, List.not_mem_nil, or_false] at h5
                    rcases h5 with rfl | rfl | rfl
                    · exact mTbl_good (mTbl_in (mLnk_in hlk) rfl)
                    · exact mTbl_good (mTbl_in (mHasS_in hw) rfl)
                    · exact mTbl_good (mTbl_in k6 rfl)
                  · exact mWd_good k1 w h5
                | some host =>
                  exact goOn _ (va_runSN (n := na) (As := (st.take na).reverse.map (mV base od)) ⟨hx, hb, hml, hown, hts⟩ (met k1 k5 hc5) ⟨va_cnB na hts (mWd_good k1) rfl rfl rfl (hC.2.2.2.2.1 _ (mLnk_inN hlk) rfl) (tw k6 rfl) ⟨k4.1, k4.2, k2⟩ (hroom _ k3), tw (mHasS_in hw) rfl, trivial⟩ ⟨mPc_blind hX _ _, fun U hU hW => pre U hU hW hz⟩ rfl (by simp; omega) hL.1 hstack (lv_room (by rw [mV_sum]; exact hc4)) hdg hfit)
              · cases hv
            · cases hv
          · cases hinv
        · cases hinv
      | invokespecial k =>
        delta mInv at hinv
        dsimp only at hinv
        split at hinv
        · rename_i z1 hst1 b1 nL1 na hv
          split at hinv
          · rename_i a r1 hdrop
            split at hinv
            · rename_i hc
              obtain ⟨hc1, hc3, hc4, hc5⟩ := hc
              subst hc1
              cases hinv
              unfold mSpe at hv
              split at hv
              · rename_i z2 hh hlk
                split at hv
                · rename_i hw
                  obtain ⟨q, hq, hqq⟩ := Option.map_eq_some_iff.mp hv
                  cases hqq
                  obtain ⟨k1, k2, k3, k4, k5, k6⟩ := mCal_in hq
                  have hstack : (F0 m pc L (st.map (mV base od))).stack = ((st.take na).reverse.map (mV base od)).reverse ++ Value.ref (mAd base od a) :: rest.map (mV base od) := by
                    show st.map (mV base od) = _
                    rw [← List.map_reverse, List.reverse_reverse, show Value.ref (mAd base od a) :: rest.map (mV base od) = (Value.ref a :: rest).map (mV base od) from rfl, ← List.map_append, ← hdrop, List.take_append_drop]
                  cases hst1 with
                  | none =>
                    exact goOn _ (va_runI (n := na) (b := mAd base od a) (As := (st.take na).reverse.map (mV base od)) ⟨hx, hb, hml, hown, hts⟩ (met k1 k5 hc5) (cwI na hts (mWd_good k1) rfl rfl rfl (tw k6 rfl) (tw (mLnk_in hlk) rfl) (tw (mHasI_in hw.2) rfl) hw.1 ⟨k4.1, k4.2, k2⟩ (hroom _ k3)) ⟨mPc_blind hX _ _, fun U hU hW => pre U hU hW hz⟩ rfl (by simp; omega) hL.1 hstack (lv_room (by rw [mV_sum]; exact hc4)) hdg hfit)
                  | some host =>
                    exact goOn _ (va_runIN (n := na) (b := mAd base od a) (As := (st.take na).reverse.map (mV base od)) ⟨hx, hb, hml, hown, hts⟩ (met k1 k5 hc5) ⟨va_cnB na hts (mWd_good k1) rfl rfl rfl (hC.2.2.2.2.1 _ (mLnk_inN hlk) rfl) (tw k6 rfl) ⟨k4.1, k4.2, k2⟩ (hroom _ k3), hw.1, tw (mHasI_in hw.2) rfl⟩ ⟨mPc_blind hX _ _, fun U hU hW => pre U hU hW hz⟩ rfl (by simp; omega) hL.1 hstack (lv_room (by rw [mV_sum]; exact hc4)) hdg hfit)
                · cases hv
              · cases hv
            · cases hinv
          · cases hinv
        · cases hinv
      | _ => cases (show (none : Option (MethodName × ByteArray × Nat × Option FieldType × List Value × List Value)) = some _ from hinv)
end SIM3
