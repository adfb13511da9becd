/-! tables of the program: methods, by a program -/
theorem mHasI_of {y : MethodName} (p : Nat) (h : lw_tbl[p]? = some (.instanceMethod y)) : mHasI y = true := List.any_eq_true.mpr ⟨_, List.mem_of_getElem? h, decide_eq_true ⟨rfl, rfl, rfl⟩⟩
theorem mHasS_of {y : MethodName} (p : Nat) (h : lw_tbl[p]? = some (.static y)) : mHasS y = true := List.any_eq_true.mpr ⟨_, List.mem_of_getElem? h, decide_eq_true ⟨rfl, rfl, rfl⟩⟩
theorem mHasV_of {y : MethodName} (p : Nat) (h : lw_tbl[p]? = some (.selects y.cls y y)) : mHasV y = true := List.any_eq_true.mpr ⟨_, List.mem_of_getElem? h, decide_eq_true ⟨rfl, rfl, rfl, rfl, rfl, rfl, rfl⟩⟩
theorem mVir_of {own : String} {i : Nat} {y : MethodName} {q : ByteArray × Nat × Option FieldType × Nat} (h1 : mLnk own i = some (y, none)) (h2 : mHasI y = true) (h3 : mHasV y = true) (h4 : mCal y = some q) (h5 : y ≠ yChr) : mVir own i = some (y, q) ∧ mLnk own i ≠ some (yChr, none) := by
  refine ⟨?_, fun h => ?_⟩
  · unfold mVir
    rw [h1]
    dsimp only
    rw [if_pos ⟨h2, h3⟩, h4]
    rfl
  · rw [h1] at h
    cases h
    exact h5 rfl
theorem mSts_of {own : String} {i : Nat} {y : MethodName} {hh : Option String} {q : ByteArray × Nat × Option FieldType × Nat} (h1 : mLnk own i = some (y, hh)) (h2 : mHasS y = true) (h4 : mCal y = some q) (h5 : y ≠ arraycopyName ∧ y ≠ yMax ∧ y ≠ yMin) : mSts own i = some (y, hh, q) ∧ (mLnk own i ≠ some (arraycopyName, none) ∧ mLnk own i ≠ some (yMax, none) ∧ mLnk own i ≠ some (yMin, none)) := by
  refine ⟨?_, ?_⟩
  · unfold mSts
    rw [h1]
    dsimp only
    rw [if_pos h2, h4]
    rfl
  · rw [h1]
    refine ⟨fun h => ?_, fun h => ?_, fun h => ?_⟩
    · cases h
      exact h5.1 rfl
    · cases h
      exact h5.2.1 rfl
    · cases h
      exact h5.2.2 rfl
theorem mSpe_of {own : String} {i : Nat} {y : MethodName} {hh : Option String} {q : ByteArray × Nat × Option FieldType × Nat} (h1 : mLnk own i = some (y, hh)) (h0 : y.name = "<init>") (h2 : mHasI y = true) (h4 : mCal y = some q) (h5 : y ≠ Lib.objectInit) : mSpe own i = some (y, hh, q) ∧ mLnk own i ≠ some (Lib.objectInit, none) := by
  refine ⟨?_, fun h => ?_⟩
  · unfold mSpe
    rw [h1]
    dsimp only
    rw [if_pos ⟨h0, h2⟩, h4]
    rfl
  · rw [h1] at h
    cases h
    exact h5 rfl
theorem hSJ6_bitCount_0f7a4 : mHasS yJ6_bitCount_0f7a4 = true := mHasS_of 540 (by decide +kernel)
theorem hCJ6_bitCount_0f7a4 : mCal yJ6_bitCount_0f7a4 = some (cJ6_bitCount_0f7a4, 1, (some .int), 1) := by decide +kernel
theorem hIX0_askOfDead : mHasI yX0_askOfDead = true := mHasI_of 634 (by decide +kernel)
theorem hVX0_askOfDead : mHasV yX0_askOfDead = true := mHasV_of 635 (by decide +kernel)
theorem hCX0_askOfDead : mCal yX0_askOfDead = some (cX0_askOfDead, 4, none, 3) := by decide +kernel
theorem hIX0_askOfFamily : mHasI yX0_askOfFamily = true := mHasI_of 563 (by decide +kernel)
theorem hVX0_askOfFamily : mHasV yX0_askOfFamily = true := mHasV_of 564 (by decide +kernel)
theorem hCX0_askOfFamily : mCal yX0_askOfFamily = some (cX0_askOfFamily, 3, none, 2) := by decide +kernel
theorem hIX0_bars : mHasI yX0_bars = true := mHasI_of 675 (by decide +kernel)
theorem hVX0_bars : mHasV yX0_bars = true := mHasV_of 676 (by decide +kernel)
theorem hCX0_bars : mCal yX0_bars = some (cX0_bars, 5, (some .boolean), 1) := by decide +kernel
theorem hIX0_init : mHasI yX0_init = true := mHasI_of 311 (by decide +kernel)
theorem hCX0_init : mCal yX0_init = some (cX0_init, 2, none, 1) := by decide +kernel
theorem hIX0_moveOn : mHasI yX0_moveOn = true := mHasI_of 998 (by decide +kernel)
theorem hVX0_moveOn : mHasV yX0_moveOn = true := mHasV_of 999 (by decide +kernel)
theorem hCX0_moveOn : mCal yX0_moveOn = some (cX0_moveOn, 2, none, 1) := by decide +kernel
theorem hIX0_told : mHasI yX0_told = true := mHasI_of 580 (by decide +kernel)
theorem hVX0_told : mHasV yX0_told = true := mHasV_of 581 (by decide +kernel)
theorem hCX0_told : mCal yX0_told = some (cX0_told, 7, (some .int), 2) := by decide +kernel
theorem hSX10_act : mHasS yX10_act = true := mHasS_of 876 (by decide +kernel)
theorem hCX10_act : mCal yX10_act = some (cX10_act, 6, (some .int), 5) := by decide +kernel
theorem hIX10_answered : mHasI yX10_answered = true := mHasI_of 928 (by decide +kernel)
theorem hVX10_answered : mHasV yX10_answered = true := mHasV_of 15 (by decide +kernel)
theorem hCX10_answered : mCal yX10_answered = some (cX10_answered, 2, (some .int), 1) := by decide +kernel
theorem hIX10_asks : mHasI yX10_asks = true := mHasI_of 663 (by decide +kernel)
theorem hVX10_asks : mHasV yX10_asks = true := mHasV_of 664 (by decide +kernel)
theorem hCX10_asks : mCal yX10_asks = some (cX10_asks, 4, (some .int), 3) := by decide +kernel
theorem hIX10_at : mHasI yX10_at = true := mHasI_of 523 (by decide +kernel)
theorem hVX10_at : mHasV yX10_at = true := mHasV_of 524 (by decide +kernel)
theorem hCX10_at : mCal yX10_at = some (cX10_at, 3, (some .int), 2) := by decide +kernel
theorem hIX10_back : mHasI yX10_back = true := mHasI_of 1144 (by decide +kernel)
theorem hVX10_back : mHasV yX10_back = true := mHasV_of 1145 (by decide +kernel)
theorem hCX10_back : mCal yX10_back = some (cX10_back, 3, (some .int), 1) := by decide +kernel
theorem hIX10_centuries : mHasI yX10_centuries = true := mHasI_of 1118 (by decide +kernel)
theorem hVX10_centuries : mHasV yX10_centuries = true := mHasV_of 1119 (by decide +kernel)
theorem hCX10_centuries : mCal yX10_centuries = some (cX10_centuries, 6, (some .int), 2) := by decide +kernel
theorem hIX10_changes : mHasI yX10_changes = true := mHasI_of 1094 (by decide +kernel)
theorem hVX10_changes : mHasV yX10_changes = true := mHasV_of 1095 (by decide +kernel)
theorem hCX10_changes : mCal yX10_changes = some (cX10_changes, 2, (some .int), 1) := by decide +kernel
theorem hIX10_comes : mHasI yX10_comes = true := mHasI_of 710 (by decide +kernel)
theorem hVX10_comes : mHasV yX10_comes = true := mHasV_of 5 (by decide +kernel)
theorem hCX10_comes : mCal yX10_comes = some (cX10_comes, 4, (some .boolean), 3) := by decide +kernel
theorem hIX10_compare : mHasI yX10_compare = true := mHasI_of 1113 (by decide +kernel)
theorem hVX10_compare : mHasV yX10_compare = true := mHasV_of 1114 (by decide +kernel)
theorem hCX10_compare : mCal yX10_compare = some (cX10_compare, 5, (some .int), 1) := by decide +kernel
theorem hIX10_count : mHasI yX10_count = true := mHasI_of 1148 (by decide +kernel)
theorem hVX10_count : mHasV yX10_count = true := mHasV_of 1149 (by decide +kernel)
theorem hCX10_count : mCal yX10_count = some (cX10_count, 2, (some .int), 1) := by decide +kernel
theorem hIX10_dead : mHasI yX10_dead = true := mHasI_of 642 (by decide +kernel)
theorem hVX10_dead : mHasV yX10_dead = true := mHasV_of 643 (by decide +kernel)
theorem hCX10_dead : mCal yX10_dead = some (cX10_dead, 5, (some .int), 3) := by decide +kernel
theorem hIX10_draughts : mHasI yX10_draughts = true := mHasI_of 713 (by decide +kernel)
theorem hVX10_draughts : mHasV yX10_draughts = true := mHasV_of 714 (by decide +kernel)
theorem hCX10_draughts : mCal yX10_draughts = some (cX10_draughts, 1, (some .int), 0) := by decide +kernel
theorem hIX10_drawOneAct : mHasI yX10_drawOneAct = true := mHasI_of 1125 (by decide +kernel)
theorem hVX10_drawOneAct : mHasV yX10_drawOneAct = true := mHasV_of 25 (by decide +kernel)
theorem hCX10_drawOneAct : mCal yX10_drawOneAct = some (cX10_drawOneAct, 3, none, 0) := by decide +kernel
theorem hIX10_drawn : mHasI yX10_drawn = true := mHasI_of 1136 (by decide +kernel)
theorem hVX10_drawn : mHasV yX10_drawn = true := mHasV_of 1137 (by decide +kernel)
theorem hCX10_drawn : mCal yX10_drawn = some (cX10_drawn, 3, (some .int), 2) := by decide +kernel
theorem hIX10_empty : mHasI yX10_empty = true := mHasI_of 959 (by decide +kernel)
theorem hVX10_empty : mHasV yX10_empty = true := mHasV_of 960 (by decide +kernel)
theorem hCX10_empty : mCal yX10_empty = some (cX10_empty, 3, (some .int), 0) := by decide +kernel
theorem hIX10_end : mHasI yX10_end = true := mHasI_of 697 (by decide +kernel)
theorem hVX10_end : mHasV yX10_end = true := mHasV_of 698 (by decide +kernel)
theorem hCX10_end : mCal yX10_end = some (cX10_end, 2, (some .int), 1) := by decide +kernel
theorem hIX10_family : mHasI yX10_family = true := mHasI_of 547 (by decide +kernel)
theorem hVX10_family : mHasV yX10_family = true := mHasV_of 548 (by decide +kernel)
theorem hCX10_family : mCal yX10_family = some (cX10_family, 2, (some .int), 1) := by decide +kernel
theorem hIX10_fault : mHasI yX10_fault = true := mHasI_of 909 (by decide +kernel)
theorem hVX10_fault : mHasV yX10_fault = true := mHasV_of 910 (by decide +kernel)
theorem hCX10_fault : mCal yX10_fault = some (cX10_fault, 1, (some .int), 0) := by decide +kernel
theorem hIX10_feed : mHasI yX10_feed = true := mHasI_of 689 (by decide +kernel)
theorem hVX10_feed : mHasV yX10_feed = true := mHasV_of 690 (by decide +kernel)
theorem hCX10_feed : mCal yX10_feed = some (cX10_feed, 6, (some .int), 5) := by decide +kernel
theorem hIX10_few : mHasI yX10_few = true := mHasI_of 1106 (by decide +kernel)
theorem hVX10_few : mHasV yX10_few = true := mHasV_of 1107 (by decide +kernel)
theorem hCX10_few : mCal yX10_few = some (cX10_few, 8, (some .long), 2) := by decide +kernel
theorem hIX10_force : mHasI yX10_force = true := mHasI_of 917 (by decide +kernel)
theorem hVX10_force : mHasV yX10_force = true := mHasV_of 918 (by decide +kernel)
theorem hCX10_force : mCal yX10_force = some (cX10_force, 3, (some .int), 1) := by decide +kernel
theorem hIX10_forget : mHasI yX10_forget = true := mHasI_of 1006 (by decide +kernel)
theorem hVX10_forget : mHasV yX10_forget = true := mHasV_of 1007 (by decide +kernel)
theorem hCX10_forget : mCal yX10_forget = some (cX10_forget, 2, (some .int), 0) := by decide +kernel
theorem hIX10_granted : mHasI yX10_granted = true := mHasI_of 520 (by decide +kernel)
theorem hVX10_granted : mHasV yX10_granted = true := mHasV_of 1 (by decide +kernel)
theorem hCX10_granted : mCal yX10_granted = some (cX10_granted, 2, (some .int), 1) := by decide +kernel
theorem hIX10_has : mHasI yX10_has = true := mHasI_of 551 (by decide +kernel)
theorem hVX10_has : mHasV yX10_has = true := mHasV_of 552 (by decide +kernel)
theorem hCX10_has : mCal yX10_has = some (cX10_has, 3, (some .int), 2) := by decide +kernel
theorem hIX10_image : mHasI yX10_image = true := mHasI_of 1140 (by decide +kernel)
theorem hVX10_image : mHasV yX10_image = true := mHasV_of 1141 (by decide +kernel)
theorem hCX10_image : mCal yX10_image = some (cX10_image, 3, (some .int), 1) := by decide +kernel
theorem hIX10_init : mHasI yX10_init = true := mHasI_of 123 (by decide +kernel)
theorem hCX10_init : mCal yX10_init = some (cX10_init, 3, none, 0) := by decide +kernel
theorem hIX10_inside : mHasI yX10_inside = true := mHasI_of 951 (by decide +kernel)
theorem hVX10_inside : mHasV yX10_inside = true := mHasV_of 952 (by decide +kernel)
theorem hCX10_inside : mCal yX10_inside = some (cX10_inside, 2, (some .int), 1) := by decide +kernel
theorem hIX10_keep : mHasI yX10_keep = true := mHasI_of 964 (by decide +kernel)
theorem hVX10_keep : mHasV yX10_keep = true := mHasV_of 965 (by decide +kernel)
theorem hCX10_keep : mCal yX10_keep = some (cX10_keep, 4, (some .int), 3) := by decide +kernel
theorem hIX10_knock : mHasI yX10_knock = true := mHasI_of 935 (by decide +kernel)
theorem hVX10_knock : mHasV yX10_knock = true := mHasV_of 936 (by decide +kernel)
theorem hCX10_knock : mCal yX10_knock = some (cX10_knock, 2, (some .int), 1) := by decide +kernel
theorem hIX10_law : mHasI yX10_law = true := mHasI_of 717 (by decide +kernel)
theorem hVX10_law : mHasV yX10_law = true := mHasV_of 718 (by decide +kernel)
theorem hCX10_law : mCal yX10_law = some (cX10_law, 3, (some .int), 0) := by decide +kernel
theorem hIX10_lodge : mHasI yX10_lodge = true := mHasI_of 931 (by decide +kernel)
theorem hVX10_lodge : mHasV yX10_lodge = true := mHasV_of 932 (by decide +kernel)
theorem hCX10_lodge : mCal yX10_lodge = some (cX10_lodge, 3, (some .int), 2) := by decide +kernel
theorem hIX10_look : mHasI yX10_look = true := mHasI_of 1019 (by decide +kernel)
theorem hVX10_look : mHasV yX10_look = true := mHasV_of 1020 (by decide +kernel)
theorem hCX10_look : mCal yX10_look = some (cX10_look, 2, (some .int), 1) := by decide +kernel
theorem hIX10_of : mHasI yX10_of = true := mHasI_of 656 (by decide +kernel)
theorem hVX10_of : mHasV yX10_of = true := mHasV_of 657 (by decide +kernel)
theorem hCX10_of : mCal yX10_of = some (cX10_of, 3, (some .int), 2) := by decide +kernel
theorem hIX10_orders : mHasI yX10_orders = true := mHasI_of 838 (by decide +kernel)
theorem hVX10_orders : mHasV yX10_orders = true := mHasV_of 839 (by decide +kernel)
theorem hCX10_orders : mCal yX10_orders = some (cX10_orders, 5, (some .int), 0) := by decide +kernel
theorem hIX10_packed : mHasI yX10_packed = true := mHasI_of 1070 (by decide +kernel)
theorem hVX10_packed : mHasV yX10_packed = true := mHasV_of 1071 (by decide +kernel)
theorem hCX10_packed : mCal yX10_packed = some (cX10_packed, 2, (some .int), 1) := by decide +kernel
theorem hIX10_pass : mHasI yX10_pass = true := mHasI_of 939 (by decide +kernel)
theorem hVX10_pass : mHasV yX10_pass = true := mHasV_of 940 (by decide +kernel)
theorem hCX10_pass : mCal yX10_pass = some (cX10_pass, 1, (some .int), 0) := by decide +kernel
theorem hIX10_putBytes : mHasI yX10_putBytes = true := mHasI_of 694 (by decide +kernel)
theorem hVX10_putBytes : mHasV yX10_putBytes = true := mHasV_of 3 (by decide +kernel)
theorem hCX10_putBytes : mCal yX10_putBytes = some (cX10_putBytes, 3, none, 1) := by decide +kernel
theorem hIX10_refused : mHasI yX10_refused = true := mHasI_of 512 (by decide +kernel)
theorem hVX10_refused : mHasV yX10_refused = true := mHasV_of 0 (by decide +kernel)
theorem hCX10_refused : mCal yX10_refused = some (cX10_refused, 3, (some .int), 1) := by decide +kernel
theorem hIX10_renew : mHasI yX10_renew = true := mHasI_of 922 (by decide +kernel)
theorem hVX10_renew : mHasV yX10_renew = true := mHasV_of 923 (by decide +kernel)
theorem hCX10_renew : mCal yX10_renew = some (cX10_renew, 2, (some .int), 1) := by decide +kernel
theorem hIX10_rooms : mHasI yX10_rooms = true := mHasI_of 1028 (by decide +kernel)
theorem hVX10_rooms : mHasV yX10_rooms = true := mHasV_of 1029 (by decide +kernel)
theorem hCX10_rooms : mCal yX10_rooms = some (cX10_rooms, 2, (some .int), 1) := by decide +kernel
theorem hIX10_row : mHasI yX10_row = true := mHasI_of 701 (by decide +kernel)
theorem hVX10_row : mHasV yX10_row = true := mHasV_of 702 (by decide +kernel)
theorem hCX10_row : mCal yX10_row = some (cX10_row, 5, (some .int), 0) := by decide +kernel
theorem hIX10_seen : mHasI yX10_seen = true := mHasI_of 1002 (by decide +kernel)
theorem hVX10_seen : mHasV yX10_seen = true := mHasV_of 1003 (by decide +kernel)
theorem hCX10_seen : mCal yX10_seen = some (cX10_seen, 3, (some .int), 2) := by decide +kernel
theorem hIX10_status : mHasI yX10_status = true := mHasI_of 1152 (by decide +kernel)
theorem hVX10_status : mHasV yX10_status = true := mHasV_of 1153 (by decide +kernel)
theorem hCX10_status : mCal yX10_status = some (cX10_status, 1, (some .int), 0) := by decide +kernel
theorem hIX10_stopped : mHasI yX10_stopped = true := mHasI_of 913 (by decide +kernel)
theorem hVX10_stopped : mHasV yX10_stopped = true := mHasV_of 914 (by decide +kernel)
theorem hCX10_stopped : mCal yX10_stopped = some (cX10_stopped, 1, (some .int), 0) := by decide +kernel
theorem hIX10_stranger : mHasI yX10_stranger = true := mHasI_of 1010 (by decide +kernel)
theorem hVX10_stranger : mHasV yX10_stranger = true := mHasV_of 1011 (by decide +kernel)
theorem hCX10_stranger : mCal yX10_stranger = some (cX10_stranger, 1, (some .int), 0) := by decide +kernel
theorem hIX10_takeTape : mHasI yX10_takeTape = true := mHasI_of 706 (by decide +kernel)
theorem hVX10_takeTape : mHasV yX10_takeTape = true := mHasV_of 4 (by decide +kernel)
theorem hCX10_takeTape : mCal yX10_takeTape = some (cX10_takeTape, 2, (some .int), 0) := by decide +kernel
theorem hIX10_terms : mHasI yX10_terms = true := mHasI_of 683 (by decide +kernel)
theorem hVX10_terms : mHasV yX10_terms = true := mHasV_of 684 (by decide +kernel)
theorem hCX10_terms : mCal yX10_terms = some (cX10_terms, 4, (some .int), 2) := by decide +kernel
theorem hIX10_undo : mHasI yX10_undo = true := mHasI_of 943 (by decide +kernel)
theorem hVX10_undo : mHasV yX10_undo = true := mHasV_of 944 (by decide +kernel)
theorem hCX10_undo : mCal yX10_undo = some (cX10_undo, 1, (some .int), 0) := by decide +kernel
theorem hIX10_vault : mHasI yX10_vault = true := mHasI_of 507 (by decide +kernel)
theorem hVX10_vault : mHasV yX10_vault = true := mHasV_of 508 (by decide +kernel)
theorem hCX10_vault : mCal yX10_vault = some (cX10_vault, 2, (some .int), 1) := by decide +kernel
theorem hIX10_when : mHasI yX10_when = true := mHasI_of 985 (by decide +kernel)
theorem hVX10_when : mHasV yX10_when = true := mHasV_of 986 (by decide +kernel)
theorem hCX10_when : mCal yX10_when = some (cX10_when, 3, (some .int), 2) := by decide +kernel
theorem hIX10_wish : mHasI yX10_wish = true := mHasI_of 679 (by decide +kernel)
theorem hVX10_wish : mHasV yX10_wish = true := mHasV_of 680 (by decide +kernel)
theorem hCX10_wish : mCal yX10_wish = some (cX10_wish, 5, (some .int), 3) := by decide +kernel
theorem hIX11_act : mHasI yX11_act = true := mHasI_of 1836 (by decide +kernel)
theorem hVX11_act : mHasV yX11_act = true := mHasV_of 97 (by decide +kernel)
theorem hCX11_act : mCal yX11_act = some (cX11_act, 4, (some .int), 3) := by decide +kernel
theorem hIX11_asks : mHasI yX11_asks = true := mHasI_of 1480 (by decide +kernel)
theorem hVX11_asks : mHasV yX11_asks = true := mHasV_of 1481 (by decide +kernel)
theorem hCX11_asks : mCal yX11_asks = some (cX11_asks, 4, (some .int), 3) := by decide +kernel
theorem hIX11_at : mHasI yX11_at = true := mHasI_of 1383 (by decide +kernel)
theorem hVX11_at : mHasV yX11_at = true := mHasV_of 1384 (by decide +kernel)
theorem hCX11_at : mCal yX11_at = some (cX11_at, 3, (some .int), 2) := by decide +kernel
theorem hIX11_back : mHasI yX11_back = true := mHasI_of 1370 (by decide +kernel)
theorem hVX11_back : mHasV yX11_back = true := mHasV_of 1371 (by decide +kernel)
theorem hCX11_back : mCal yX11_back = some (cX11_back, 3, (some .int), 1) := by decide +kernel
theorem hSX11_bedsLeft : mHasS yX11_bedsLeft = true := mHasS_of 1785 (by decide +kernel)
theorem hCX11_bedsLeft : mCal yX11_bedsLeft = some (cX11_bedsLeft, 2, (some .int), 2) := by decide +kernel
theorem hIX11_begin : mHasI yX11_begin = true := mHasI_of 1534 (by decide +kernel)
theorem hVX11_begin : mHasV yX11_begin = true := mHasV_of 49 (by decide +kernel)
theorem hCX11_begin : mCal yX11_begin = some (cX11_begin, 1, none, 0) := by decide +kernel
theorem hIX11_beginText : mHasI yX11_beginText = true := mHasI_of 1530 (by decide +kernel)
theorem hVX11_beginText : mHasV yX11_beginText = true := mHasV_of 48 (by decide +kernel)
theorem hCX11_beginText : mCal yX11_beginText = some (cX11_beginText, 2, none, 1) := by decide +kernel
theorem hIX11_behindSum : mHasI yX11_behindSum = true := mHasI_of 1611 (by decide +kernel)
theorem hVX11_behindSum : mHasV yX11_behindSum = true := mHasV_of 65 (by decide +kernel)
theorem hCX11_behindSum : mCal yX11_behindSum = some (cX11_behindSum, 4, (some .int), 1) := by decide +kernel
theorem hIX11_behindTest : mHasI yX11_behindTest = true := mHasI_of 1634 (by decide +kernel)
theorem hVX11_behindTest : mHasV yX11_behindTest = true := mHasV_of 69 (by decide +kernel)
theorem hCX11_behindTest : mCal yX11_behindTest = some (cX11_behindTest, 2, (some .int), 0) := by decide +kernel
theorem hIX11_bestIn : mHasI yX11_bestIn = true := mHasI_of 1782 (by decide +kernel)
theorem hVX11_bestIn : mHasV yX11_bestIn = true := mHasV_of 90 (by decide +kernel)
theorem hCX11_bestIn : mCal yX11_bestIn = some (cX11_bestIn, 6, (some .int), 4) := by decide +kernel
theorem hIX11_billOf : mHasI yX11_billOf = true := mHasI_of 1447 (by decide +kernel)
theorem hVX11_billOf : mHasV yX11_billOf = true := mHasV_of 39 (by decide +kernel)
theorem hCX11_billOf : mCal yX11_billOf = some (cX11_billOf, 4, (some .int), 1) := by decide +kernel
theorem hSX11_binds : mHasS yX11_binds = true := mHasS_of 1614 (by decide +kernel)
theorem hCX11_binds : mCal yX11_binds = some (cX11_binds, 1, (some .int), 1) := by decide +kernel
theorem hIX11_canKnock : mHasI yX11_canKnock = true := mHasI_of 1701 (by decide +kernel)
theorem hVX11_canKnock : mHasV yX11_canKnock = true := mHasV_of 81 (by decide +kernel)
theorem hCX11_canKnock : mCal yX11_canKnock = some (cX11_canKnock, 2, (some .boolean), 1) := by decide +kernel
theorem hIX11_canLodge : mHasI yX11_canLodge = true := mHasI_of 1685 (by decide +kernel)
theorem hVX11_canLodge : mHasV yX11_canLodge = true := mHasV_of 78 (by decide +kernel)
theorem hCX11_canLodge : mCal yX11_canLodge = some (cX11_canLodge, 3, (some .boolean), 2) := by decide +kernel
theorem hIX11_canRenew : mHasI yX11_canRenew = true := mHasI_of 1661 (by decide +kernel)
theorem hVX11_canRenew : mHasV yX11_canRenew = true := mHasV_of 73 (by decide +kernel)
theorem hCX11_canRenew : mCal yX11_canRenew = some (cX11_canRenew, 2, (some .boolean), 1) := by decide +kernel
theorem hIX11_centuries : mHasI yX11_centuries = true := mHasI_of 1847 (by decide +kernel)
theorem hVX11_centuries : mHasV yX11_centuries = true := mHasV_of 1848 (by decide +kernel)
theorem hCX11_centuries : mCal yX11_centuries = some (cX11_centuries, 8, (some .int), 2) := by decide +kernel
theorem hIX11_change : mHasI yX11_change = true := mHasI_of 1494 (by decide +kernel)
theorem hVX11_change : mHasV yX11_change = true := mHasV_of 46 (by decide +kernel)
theorem hCX11_change : mCal yX11_change = some (cX11_change, 4, (some .int), 2) := by decide +kernel
theorem hIX11_changes : mHasI yX11_changes = true := mHasI_of 1792 (by decide +kernel)
theorem hVX11_changes : mHasV yX11_changes = true := mHasV_of 1793 (by decide +kernel)
theorem hCX11_changes : mCal yX11_changes = some (cX11_changes, 6, (some .int), 1) := by decide +kernel
theorem hIX11_come : mHasI yX11_come = true := mHasI_of 1468 (by decide +kernel)
theorem hVX11_come : mHasV yX11_come = true := mHasV_of 43 (by decide +kernel)
theorem hCX11_come : mCal yX11_come = some (cX11_come, 6, (some .int), 3) := by decide +kernel
theorem hIX11_compare : mHasI yX11_compare = true := mHasI_of 1805 (by decide +kernel)
theorem hVX11_compare : mHasV yX11_compare = true := mHasV_of 1806 (by decide +kernel)
theorem hCX11_compare : mCal yX11_compare = some (cX11_compare, 5, (some .int), 1) := by decide +kernel
theorem hIX11_count : mHasI yX11_count = true := mHasI_of 1863 (by decide +kernel)
theorem hVX11_count : mHasV yX11_count = true := mHasV_of 1864 (by decide +kernel)
theorem hCX11_count : mCal yX11_count = some (cX11_count, 2, (some .int), 1) := by decide +kernel
theorem hIX11_dead : mHasI yX11_dead = true := mHasI_of 1463 (by decide +kernel)
theorem hVX11_dead : mHasV yX11_dead = true := mHasV_of 1464 (by decide +kernel)
theorem hCX11_dead : mCal yX11_dead = some (cX11_dead, 4, (some .int), 3) := by decide +kernel
theorem hIX11_draughts : mHasI yX11_draughts = true := mHasI_of 1505 (by decide +kernel)
theorem hVX11_draughts : mHasV yX11_draughts = true := mHasV_of 1506 (by decide +kernel)
theorem hCX11_draughts : mCal yX11_draughts = some (cX11_draughts, 1, (some .int), 0) := by decide +kernel
theorem hIX11_draw : mHasI yX11_draw = true := mHasI_of 1853 (by decide +kernel)
theorem hVX11_draw : mHasV yX11_draw = true := mHasV_of 99 (by decide +kernel)
theorem hCX11_draw : mCal yX11_draw = some (cX11_draw, 2, (some .int), 1) := by decide +kernel
theorem hIX11_drawn : mHasI yX11_drawn = true := mHasI_of 1859 (by decide +kernel)
theorem hVX11_drawn : mHasV yX11_drawn = true := mHasV_of 1860 (by decide +kernel)
theorem hCX11_drawn : mCal yX11_drawn = some (cX11_drawn, 4, (some .int), 2) := by decide +kernel
theorem hIX11_earnsOf : mHasI yX11_earnsOf = true := mHasI_of 1416 (by decide +kernel)
theorem hVX11_earnsOf : mHasV yX11_earnsOf = true := mHasV_of 33 (by decide +kernel)
theorem hCX11_earnsOf : mCal yX11_earnsOf = some (cX11_earnsOf, 3, (some .int), 1) := by decide +kernel
theorem hIX11_emit : mHasI yX11_emit = true := mHasI_of 1602 (by decide +kernel)
theorem hVX11_emit : mHasV yX11_emit = true := mHasV_of 63 (by decide +kernel)
theorem hCX11_emit : mCal yX11_emit = some (cX11_emit, 3, none, 2) := by decide +kernel
theorem hIX11_empty : mHasI yX11_empty = true := mHasI_of 1724 (by decide +kernel)
theorem hVX11_empty : mHasV yX11_empty = true := mHasV_of 1725 (by decide +kernel)
theorem hCX11_empty : mCal yX11_empty = some (cX11_empty, 3, (some .int), 0) := by decide +kernel
theorem hIX11_end : mHasI yX11_end = true := mHasI_of 1517 (by decide +kernel)
theorem hVX11_end : mHasV yX11_end = true := mHasV_of 1518 (by decide +kernel)
theorem hCX11_end : mCal yX11_end = some (cX11_end, 2, (some .int), 1) := by decide +kernel
theorem hIX11_endText : mHasI yX11_endText = true := mHasI_of 1641 (by decide +kernel)
theorem hVX11_endText : mHasV yX11_endText = true := mHasV_of 70 (by decide +kernel)
theorem hCX11_endText : mCal yX11_endText = some (cX11_endText, 1, none, 0) := by decide +kernel
theorem hIX11_family : mHasI yX11_family = true := mHasI_of 1402 (by decide +kernel)
theorem hVX11_family : mHasV yX11_family = true := mHasV_of 1403 (by decide +kernel)
theorem hCX11_family : mCal yX11_family = some (cX11_family, 3, (some .int), 1) := by decide +kernel
theorem hIX11_fault : mHasI yX11_fault = true := mHasI_of 1521 (by decide +kernel)
theorem hVX11_fault : mHasV yX11_fault = true := mHasV_of 1522 (by decide +kernel)
theorem hCX11_fault : mCal yX11_fault = some (cX11_fault, 1, (some .int), 0) := by decide +kernel
theorem hIX11_feed : mHasI yX11_feed = true := mHasI_of 1509 (by decide +kernel)
theorem hVX11_feed : mHasV yX11_feed = true := mHasV_of 1510 (by decide +kernel)
theorem hCX11_feed : mCal yX11_feed = some (cX11_feed, 6, (some .int), 5) := by decide +kernel
theorem hIX11_few : mHasI yX11_few = true := mHasI_of 1800 (by decide +kernel)
theorem hVX11_few : mHasV yX11_few = true := mHasV_of 1801 (by decide +kernel)
theorem hCX11_few : mCal yX11_few = some (cX11_few, 8, (some .long), 2) := by decide +kernel
theorem hIX11_force : mHasI yX11_force = true := mHasI_of 1644 (by decide +kernel)
theorem hVX11_force : mHasV yX11_force = true := mHasV_of 1645 (by decide +kernel)
theorem hCX11_force : mCal yX11_force = some (cX11_force, 2, (some .int), 1) := by decide +kernel
theorem hIX11_forget : mHasI yX11_forget = true := mHasI_of 1749 (by decide +kernel)
theorem hVX11_forget : mHasV yX11_forget = true := mHasV_of 1750 (by decide +kernel)
theorem hCX11_forget : mCal yX11_forget = some (cX11_forget, 2, (some .int), 0) := by decide +kernel
theorem hIX11_four : mHasI yX11_four = true := mHasI_of 1514 (by decide +kernel)
theorem hVX11_four : mHasV yX11_four = true := mHasV_of 47 (by decide +kernel)
theorem hCX11_four : mCal yX11_four = some (cX11_four, 3, none, 1) := by decide +kernel
theorem hIX11_freeIn : mHasI yX11_freeIn = true := mHasI_of 1392 (by decide +kernel)
theorem hVX11_freeIn : mHasV yX11_freeIn = true := mHasV_of 30 (by decide +kernel)
theorem hCX11_freeIn : mCal yX11_freeIn = some (cX11_freeIn, 2, (some .int), 1) := by decide +kernel
theorem hIX11_giveBack : mHasI yX11_giveBack = true := mHasI_of 1840 (by decide +kernel)
theorem hVX11_giveBack : mHasV yX11_giveBack = true := mHasV_of 98 (by decide +kernel)
theorem hCX11_giveBack : mCal yX11_giveBack = some (cX11_giveBack, 3, none, 1) := by decide +kernel
theorem hIX11_has : mHasI yX11_has = true := mHasI_of 1407 (by decide +kernel)
theorem hVX11_has : mHasV yX11_has = true := mHasV_of 1408 (by decide +kernel)
theorem hCX11_has : mCal yX11_has = some (cX11_has, 5, (some .int), 2) := by decide +kernel
theorem hIX11_image : mHasI yX11_image = true := mHasI_of 1363 (by decide +kernel)
theorem hVX11_image : mHasV yX11_image = true := mHasV_of 1364 (by decide +kernel)
theorem hCX11_image : mCal yX11_image = some (cX11_image, 3, (some .int), 1) := by decide +kernel
theorem hSX11_in : mHasS yX11_in = true := mHasS_of 1367 (by decide +kernel)
theorem hCX11_in : mCal yX11_in = some (cX11_in, 6, (some .boolean), 3) := by decide +kernel
theorem hIX11_init : mHasI yX11_init = true := mHasI_of 1158 (by decide +kernel)
theorem hCX11_init : mCal yX11_init = some (cX11_init, 1, none, 0) := by decide +kernel
theorem hIX11_inner : mHasI yX11_inner = true := mHasI_of 1622 (by decide +kernel)
theorem hVX11_inner : mHasV yX11_inner = true := mHasV_of 67 (by decide +kernel)
theorem hCX11_inner : mCal yX11_inner = some (cX11_inner, 3, (some .int), 0) := by decide +kernel
theorem hIX11_inside : mHasI yX11_inside = true := mHasI_of 1720 (by decide +kernel)
theorem hVX11_inside : mHasV yX11_inside = true := mHasV_of 1721 (by decide +kernel)
theorem hCX11_inside : mCal yX11_inside = some (cX11_inside, 4, (some .int), 1) := by decide +kernel
theorem hIX11_insideNow : mHasI yX11_insideNow = true := mHasI_of 1828 (by decide +kernel)
theorem hVX11_insideNow : mHasV yX11_insideNow = true := mHasV_of 95 (by decide +kernel)
theorem hCX11_insideNow : mCal yX11_insideNow = some (cX11_insideNow, 3, (some .int), 0) := by decide +kernel
theorem hSX11_is : mHasS yX11_is = true := mHasS_of 1738 (by decide +kernel)
theorem hCX11_is : mCal yX11_is = some (cX11_is, 2, (some .boolean), 2) := by decide +kernel
theorem hIX11_isBarred : mHasI yX11_isBarred = true := mHasI_of 1485 (by decide +kernel)
theorem hVX11_isBarred : mHasV yX11_isBarred = true := mHasV_of 45 (by decide +kernel)
theorem hCX11_isBarred : mCal yX11_isBarred = some (cX11_isBarred, 3, (some .boolean), 2) := by decide +kernel
theorem hIX11_isCompared : mHasI yX11_isCompared = true := mHasI_of 1626 (by decide +kernel)
theorem hVX11_isCompared : mHasV yX11_isCompared = true := mHasV_of 68 (by decide +kernel)
theorem hCX11_isCompared : mCal yX11_isCompared = some (cX11_isCompared, 2, (some .boolean), 0) := by decide +kernel
theorem hIX11_isDead : mHasI yX11_isDead = true := mHasI_of 1434 (by decide +kernel)
theorem hVX11_isDead : mHasV yX11_isDead = true := mHasV_of 37 (by decide +kernel)
theorem hCX11_isDead : mCal yX11_isDead = some (cX11_isDead, 2, (some .boolean), 1) := by decide +kernel
theorem hSX11_isDigit : mHasS yX11_isDigit = true := mHasS_of 1544 (by decide +kernel)
theorem hCX11_isDigit : mCal yX11_isDigit = some (cX11_isDigit, 1, (some .boolean), 1) := by decide +kernel
theorem hIX11_isFamily : mHasI yX11_isFamily = true := mHasI_of 1412 (by decide +kernel)
theorem hVX11_isFamily : mHasV yX11_isFamily = true := mHasV_of 32 (by decide +kernel)
theorem hCX11_isFamily : mCal yX11_isFamily = some (cX11_isFamily, 2, (some .boolean), 1) := by decide +kernel
theorem hIX11_isIn : mHasI yX11_isIn = true := mHasI_of 1451 (by decide +kernel)
theorem hVX11_isIn : mHasV yX11_isIn = true := mHasV_of 40 (by decide +kernel)
theorem hCX11_isIn : mCal yX11_isIn = some (cX11_isIn, 2, (some .boolean), 1) := by decide +kernel
theorem hIX11_isLaw : mHasI yX11_isLaw = true := mHasI_of 1649 (by decide +kernel)
theorem hVX11_isLaw : mHasV yX11_isLaw = true := mHasV_of 71 (by decide +kernel)
theorem hCX11_isLaw : mCal yX11_isLaw = some (cX11_isLaw, 2, (some .boolean), 1) := by decide +kernel
theorem hIX11_isSign : mHasI yX11_isSign = true := mHasI_of 1577 (by decide +kernel)
theorem hVX11_isSign : mHasV yX11_isSign = true := mHasV_of 57 (by decide +kernel)
theorem hCX11_isSign : mCal yX11_isSign = some (cX11_isSign, 2, (some .boolean), 1) := by decide +kernel
theorem hSX11_isSmall : mHasS yX11_isSmall = true := mHasS_of 1541 (by decide +kernel)
theorem hCX11_isSmall : mCal yX11_isSmall = some (cX11_isSmall, 1, (some .boolean), 1) := by decide +kernel
theorem hIX11_isSo : mHasI yX11_isSo = true := mHasI_of 1426 (by decide +kernel)
theorem hVX11_isSo : mHasV yX11_isSo = true := mHasV_of 35 (by decide +kernel)
theorem hCX11_isSo : mCal yX11_isSo = some (cX11_isSo, 2, (some .boolean), 1) := by decide +kernel
theorem hIX11_isVault : mHasI yX11_isVault = true := mHasI_of 1388 (by decide +kernel)
theorem hVX11_isVault : mHasV yX11_isVault = true := mHasV_of 29 (by decide +kernel)
theorem hCX11_isVault : mCal yX11_isVault = some (cX11_isVault, 2, (some .boolean), 1) := by decide +kernel
theorem hIX11_isWord : mHasI yX11_isWord = true := mHasI_of 1556 (by decide +kernel)
theorem hVX11_isWord : mHasV yX11_isWord = true := mHasV_of 52 (by decide +kernel)
theorem hCX11_isWord : mCal yX11_isWord = some (cX11_isWord, 3, (some .boolean), 1) := by decide +kernel
theorem hIX11_keep : mHasI yX11_keep = true := mHasI_of 1728 (by decide +kernel)
theorem hVX11_keep : mHasV yX11_keep = true := mHasV_of 1729 (by decide +kernel)
theorem hCX11_keep : mCal yX11_keep = some (cX11_keep, 10, (some .int), 3) := by decide +kernel
theorem hIX11_keepAll : mHasI yX11_keepAll = true := mHasI_of 1669 (by decide +kernel)
theorem hVX11_keepAll : mHasV yX11_keepAll = true := mHasV_of 75 (by decide +kernel)
theorem hCX11_keepAll : mCal yX11_keepAll = some (cX11_keepAll, 3, none, 1) := by decide +kernel
theorem hIX11_knock : mHasI yX11_knock = true := mHasI_of 1692 (by decide +kernel)
theorem hVX11_knock : mHasV yX11_knock = true := mHasV_of 1693 (by decide +kernel)
theorem hCX11_knock : mCal yX11_knock = some (cX11_knock, 2, (some .int), 1) := by decide +kernel
theorem hIX11_knockIt : mHasI yX11_knockIt = true := mHasI_of 1705 (by decide +kernel)
theorem hVX11_knockIt : mHasV yX11_knockIt = true := mHasV_of 82 (by decide +kernel)
theorem hCX11_knockIt : mCal yX11_knockIt = some (cX11_knockIt, 2, none, 1) := by decide +kernel
theorem hIX11_knockNow : mHasI yX11_knockNow = true := mHasI_of 1697 (by decide +kernel)
theorem hVX11_knockNow : mHasV yX11_knockNow = true := mHasV_of 80 (by decide +kernel)
theorem hCX11_knockNow : mCal yX11_knockNow = some (cX11_knockNow, 2, (some .int), 1) := by decide +kernel
theorem hIX11_lastsOf : mHasI yX11_lastsOf = true := mHasI_of 1477 (by decide +kernel)
theorem hVX11_lastsOf : mHasV yX11_lastsOf = true := mHasV_of 44 (by decide +kernel)
theorem hCX11_lastsOf : mCal yX11_lastsOf = some (cX11_lastsOf, 2, (some .int), 1) := by decide +kernel
theorem hIX11_law : mHasI yX11_law = true := mHasI_of 1525 (by decide +kernel)
theorem hVX11_law : mHasV yX11_law = true := mHasV_of 1526 (by decide +kernel)
theorem hCX11_law : mCal yX11_law = some (cX11_law, 3, (some .int), 0) := by decide +kernel
theorem hIX11_layBarred : mHasI yX11_layBarred = true := mHasI_of 1778 (by decide +kernel)
theorem hVX11_layBarred : mHasV yX11_layBarred = true := mHasV_of 89 (by decide +kernel)
theorem hCX11_layBarred : mCal yX11_layBarred = some (cX11_layBarred, 3, none, 0) := by decide +kernel
theorem hIX11_layBest : mHasI yX11_layBest = true := mHasI_of 1774 (by decide +kernel)
theorem hVX11_layBest : mHasV yX11_layBest = true := mHasV_of 88 (by decide +kernel)
theorem hCX11_layBest : mCal yX11_layBest = some (cX11_layBest, 8, none, 1) := by decide +kernel
theorem hIX11_layCosts : mHasI yX11_layCosts = true := mHasI_of 1734 (by decide +kernel)
theorem hVX11_layCosts : mHasV yX11_layCosts = true := mHasV_of 85 (by decide +kernel)
theorem hCX11_layCosts : mCal yX11_layCosts = some (cX11_layCosts, 6, none, 2) := by decide +kernel
theorem hIX11_leaf : mHasI yX11_leaf = true := mHasI_of 1598 (by decide +kernel)
theorem hVX11_leaf : mHasV yX11_leaf = true := mHasV_of 62 (by decide +kernel)
theorem hCX11_leaf : mCal yX11_leaf = some (cX11_leaf, 4, none, 3) := by decide +kernel
theorem hIX11_lodge : mHasI yX11_lodge = true := mHasI_of 1676 (by decide +kernel)
theorem hVX11_lodge : mHasV yX11_lodge = true := mHasV_of 1677 (by decide +kernel)
theorem hCX11_lodge : mCal yX11_lodge = some (cX11_lodge, 3, (some .int), 2) := by decide +kernel
theorem hIX11_lodgeIt : mHasI yX11_lodgeIt = true := mHasI_of 1689 (by decide +kernel)
theorem hVX11_lodgeIt : mHasV yX11_lodgeIt = true := mHasV_of 79 (by decide +kernel)
theorem hCX11_lodgeIt : mCal yX11_lodgeIt = some (cX11_lodgeIt, 3, none, 2) := by decide +kernel
theorem hIX11_lodgeNow : mHasI yX11_lodgeNow = true := mHasI_of 1681 (by decide +kernel)
theorem hVX11_lodgeNow : mHasV yX11_lodgeNow = true := mHasV_of 77 (by decide +kernel)
theorem hCX11_lodgeNow : mCal yX11_lodgeNow = some (cX11_lodgeNow, 3, (some .int), 2) := by decide +kernel
theorem hIX11_look : mHasI yX11_look = true := mHasI_of 1765 (by decide +kernel)
theorem hVX11_look : mHasV yX11_look = true := mHasV_of 1766 (by decide +kernel)
theorem hCX11_look : mCal yX11_look = some (cX11_look, 8, (some .int), 1) := by decide +kernel
theorem hIX11_lyingIn : mHasI yX11_lyingIn = true := mHasI_of 1396 (by decide +kernel)
theorem hVX11_lyingIn : mHasV yX11_lyingIn = true := mHasV_of 31 (by decide +kernel)
theorem hCX11_lyingIn : mCal yX11_lyingIn = some (cX11_lyingIn, 4, (some .int), 1) := by decide +kernel
theorem hIX11_must : mHasI yX11_must = true := mHasI_of 1560 (by decide +kernel)
theorem hVX11_must : mHasV yX11_must = true := mHasV_of 53 (by decide +kernel)
theorem hCX11_must : mCal yX11_must = some (cX11_must, 2, none, 1) := by decide +kernel
theorem hIX11_next : mHasI yX11_next = true := mHasI_of 1538 (by decide +kernel)
theorem hVX11_next : mHasV yX11_next = true := mHasV_of 50 (by decide +kernel)
theorem hCX11_next : mCal yX11_next = some (cX11_next, 1, none, 0) := by decide +kernel
theorem hIX11_number : mHasI yX11_number = true := mHasI_of 1607 (by decide +kernel)
theorem hVX11_number : mHasV yX11_number = true := mHasV_of 64 (by decide +kernel)
theorem hCX11_number : mCal yX11_number = some (cX11_number, 6, (some .int), 2) := by decide +kernel
theorem hIX11_of : mHasI yX11_of = true := mHasI_of 1472 (by decide +kernel)
theorem hVX11_of : mHasV yX11_of = true := mHasV_of 1473 (by decide +kernel)
theorem hCX11_of : mCal yX11_of = some (cX11_of, 3, (some .int), 2) := by decide +kernel
theorem hSX11_ones : mHasS yX11_ones = true := mHasS_of 1399 (by decide +kernel)
theorem hCX11_ones : mCal yX11_ones = some (cX11_ones, 3, (some .int), 1) := by decide +kernel
theorem hIX11_openBracket : mHasI yX11_openBracket = true := mHasI_of 1581 (by decide +kernel)
theorem hVX11_openBracket : mHasV yX11_openBracket = true := mHasV_of 58 (by decide +kernel)
theorem hCX11_openBracket : mCal yX11_openBracket = some (cX11_openBracket, 2, none, 1) := by decide +kernel
theorem hIX11_orderPartAt : mHasI yX11_orderPartAt = true := mHasI_of 1589 (by decide +kernel)
theorem hVX11_orderPartAt : mHasV yX11_orderPartAt = true := mHasV_of 60 (by decide +kernel)
theorem hCX11_orderPartAt : mCal yX11_orderPartAt = some (cX11_orderPartAt, 3, (some .int), 0) := by decide +kernel
theorem hIX11_orders : mHasI yX11_orders = true := mHasI_of 1809 (by decide +kernel)
theorem hVX11_orders : mHasV yX11_orders = true := mHasV_of 1810 (by decide +kernel)
theorem hCX11_orders : mCal yX11_orders = some (cX11_orders, 4, (some .int), 0) := by decide +kernel
theorem hIX11_outIn : mHasI yX11_outIn = true := mHasI_of 1762 (by decide +kernel)
theorem hVX11_outIn : mHasV yX11_outIn = true := mHasV_of 87 (by decide +kernel)
theorem hCX11_outIn : mCal yX11_outIn = some (cX11_outIn, 3, (some .int), 2) := by decide +kernel
theorem hIX11_packed : mHasI yX11_packed = true := mHasI_of 1788 (by decide +kernel)
theorem hVX11_packed : mHasV yX11_packed = true := mHasV_of 1789 (by decide +kernel)
theorem hCX11_packed : mCal yX11_packed = some (cX11_packed, 7, (some .int), 1) := by decide +kernel
theorem hIX11_partAt : mHasI yX11_partAt = true := mHasI_of 1593 (by decide +kernel)
theorem hVX11_partAt : mHasV yX11_partAt = true := mHasV_of 61 (by decide +kernel)
theorem hCX11_partAt : mCal yX11_partAt = some (cX11_partAt, 3, (some .int), 0) := by decide +kernel
theorem hIX11_pass : mHasI yX11_pass = true := mHasI_of 1708 (by decide +kernel)
theorem hVX11_pass : mHasV yX11_pass = true := mHasV_of 1709 (by decide +kernel)
theorem hCX11_pass : mCal yX11_pass = some (cX11_pass, 1, (some .int), 0) := by decide +kernel
theorem hIX11_passIt : mHasI yX11_passIt = true := mHasI_of 1717 (by decide +kernel)
theorem hVX11_passIt : mHasV yX11_passIt = true := mHasV_of 84 (by decide +kernel)
theorem hCX11_passIt : mCal yX11_passIt = some (cX11_passIt, 3, (some .int), 0) := by decide +kernel
theorem hIX11_passNow : mHasI yX11_passNow = true := mHasI_of 1713 (by decide +kernel)
theorem hVX11_passNow : mHasV yX11_passNow = true := mHasV_of 83 (by decide +kernel)
theorem hCX11_passNow : mCal yX11_passNow = some (cX11_passNow, 1, (some .int), 0) := by decide +kernel
theorem hIX11_pricedAt : mHasI yX11_pricedAt = true := mHasI_of 1455 (by decide +kernel)
theorem hVX11_pricedAt : mHasV yX11_pricedAt = true := mHasV_of 41 (by decide +kernel)
theorem hCX11_pricedAt : mCal yX11_pricedAt = some (cX11_pricedAt, 2, (some .int), 1) := by decide +kernel
theorem hIX11_push : mHasI yX11_push = true := mHasI_of 1573 (by decide +kernel)
theorem hVX11_push : mHasV yX11_push = true := mHasV_of 56 (by decide +kernel)
theorem hCX11_push : mCal yX11_push = some (cX11_push, 3, none, 2) := by decide +kernel
theorem hIX11_putBack : mHasI yX11_putBack = true := mHasI_of 1360 (by decide +kernel)
theorem hVX11_putBack : mHasV yX11_putBack = true := mHasV_of 27 (by decide +kernel)
theorem hCX11_putBack : mCal yX11_putBack = some (cX11_putBack, 3, none, 1) := by decide +kernel
theorem hIX11_readExpression : mHasI yX11_readExpression = true := mHasI_of 1564 (by decide +kernel)
theorem hVX11_readExpression : mHasV yX11_readExpression = true := mHasV_of 54 (by decide +kernel)
theorem hCX11_readExpression : mCal yX11_readExpression = some (cX11_readExpression, 3, none, 1) := by decide +kernel
theorem hIX11_readLaw : mHasI yX11_readLaw = true := mHasI_of 1552 (by decide +kernel)
theorem hVX11_readLaw : mHasV yX11_readLaw = true := mHasV_of 51 (by decide +kernel)
theorem hCX11_readLaw : mCal yX11_readLaw = some (cX11_readLaw, 4, none, 0) := by decide +kernel
theorem hIX11_readOrder : mHasI yX11_readOrder = true := mHasI_of 1814 (by decide +kernel)
theorem hVX11_readOrder : mHasV yX11_readOrder = true := mHasV_of 92 (by decide +kernel)
theorem hCX11_readOrder : mCal yX11_readOrder = some (cX11_readOrder, 4, none, 0) := by decide +kernel
theorem hIX11_readPart : mHasI yX11_readPart = true := mHasI_of 1585 (by decide +kernel)
theorem hVX11_readPart : mHasV yX11_readPart = true := mHasV_of 59 (by decide +kernel)
theorem hCX11_readPart : mCal yX11_readPart = some (cX11_readPart, 4, (some .int), 0) := by decide +kernel
theorem hIX11_readPlain : mHasI yX11_readPlain = true := mHasI_of 1568 (by decide +kernel)
theorem hVX11_readPlain : mHasV yX11_readPlain = true := mHasV_of 55 (by decide +kernel)
theorem hCX11_readPlain : mCal yX11_readPlain = some (cX11_readPlain, 1, (some .int), 0) := by decide +kernel
theorem hIX11_readSum : mHasI yX11_readSum = true := mHasI_of 1818 (by decide +kernel)
theorem hVX11_readSum : mHasV yX11_readSum = true := mHasV_of 93 (by decide +kernel)
theorem hCX11_readSum : mCal yX11_readSum = some (cX11_readSum, 2, none, 1) := by decide +kernel
theorem hIX11_reckon : mHasI yX11_reckon = true := mHasI_of 1438 (by decide +kernel)
theorem hVX11_reckon : mHasV yX11_reckon = true := mHasV_of 38 (by decide +kernel)
theorem hCX11_reckon : mCal yX11_reckon = some (cX11_reckon, 6, (some .long), 3) := by decide +kernel
theorem hIX11_reckonAll : mHasI yX11_reckonAll = true := mHasI_of 1430 (by decide +kernel)
theorem hVX11_reckonAll : mHasV yX11_reckonAll = true := mHasV_of 36 (by decide +kernel)
theorem hCX11_reckonAll : mCal yX11_reckonAll = some (cX11_reckonAll, 7, none, 2) := by decide +kernel
theorem hIX11_remember : mHasI yX11_remember = true := mHasI_of 1665 (by decide +kernel)
theorem hVX11_remember : mHasV yX11_remember = true := mHasV_of 74 (by decide +kernel)
theorem hCX11_remember : mCal yX11_remember = some (cX11_remember, 3, none, 1) := by decide +kernel
theorem hIX11_renew : mHasI yX11_renew = true := mHasI_of 1652 (by decide +kernel)
theorem hVX11_renew : mHasV yX11_renew = true := mHasV_of 1653 (by decide +kernel)
theorem hCX11_renew : mCal yX11_renew = some (cX11_renew, 2, (some .int), 1) := by decide +kernel
theorem hIX11_renewIt : mHasI yX11_renewIt = true := mHasI_of 1673 (by decide +kernel)
theorem hVX11_renewIt : mHasV yX11_renewIt = true := mHasV_of 76 (by decide +kernel)
theorem hCX11_renewIt : mCal yX11_renewIt = some (cX11_renewIt, 4, (some .int), 1) := by decide +kernel
theorem hIX11_renewNow : mHasI yX11_renewNow = true := mHasI_of 1657 (by decide +kernel)
theorem hVX11_renewNow : mHasV yX11_renewNow = true := mHasV_of 72 (by decide +kernel)
theorem hCX11_renewNow : mCal yX11_renewNow = some (cX11_renewNow, 2, (some .int), 1) := by decide +kernel
theorem hIX11_rooms : mHasI yX11_rooms = true := mHasI_of 1769 (by decide +kernel)
theorem hVX11_rooms : mHasV yX11_rooms = true := mHasV_of 1770 (by decide +kernel)
theorem hCX11_rooms : mCal yX11_rooms = some (cX11_rooms, 6, (some .int), 1) := by decide +kernel
theorem hIX11_row : mHasI yX11_row = true := mHasI_of 1501 (by decide +kernel)
theorem hVX11_row : mHasV yX11_row = true := mHasV_of 1502 (by decide +kernel)
theorem hCX11_row : mCal yX11_row = some (cX11_row, 4, (some .int), 0) := by decide +kernel
theorem hIX11_run : mHasI yX11_run = true := mHasI_of 1824 (by decide +kernel)
theorem hVX11_run : mHasV yX11_run = true := mHasV_of 94 (by decide +kernel)
theorem hCX11_run : mCal yX11_run = some (cX11_run, 5, (some .int), 1) := by decide +kernel
theorem hIX11_seen : mHasI yX11_seen = true := mHasI_of 1745 (by decide +kernel)
theorem hVX11_seen : mHasV yX11_seen = true := mHasV_of 1746 (by decide +kernel)
theorem hCX11_seen : mCal yX11_seen = some (cX11_seen, 4, (some .int), 2) := by decide +kernel
theorem hIX11_setDead : mHasI yX11_setDead = true := mHasI_of 1459 (by decide +kernel)
theorem hVX11_setDead : mHasV yX11_setDead = true := mHasV_of 42 (by decide +kernel)
theorem hCX11_setDead : mCal yX11_setDead = some (cX11_setDead, 3, none, 2) := by decide +kernel
theorem hIX11_settle : mHasI yX11_settle = true := mHasI_of 1618 (by decide +kernel)
theorem hVX11_settle : mHasV yX11_settle = true := mHasV_of 66 (by decide +kernel)
theorem hCX11_settle : mCal yX11_settle = some (cX11_settle, 2, none, 1) := by decide +kernel
theorem hIX11_settled : mHasI yX11_settled = true := mHasI_of 1375 (by decide +kernel)
theorem hVX11_settled : mHasV yX11_settled = true := mHasV_of 28 (by decide +kernel)
theorem hCX11_settled : mCal yX11_settled = some (cX11_settled, 2, (some .int), 1) := by decide +kernel
theorem hIX11_status : mHasI yX11_status = true := mHasI_of 1869 (by decide +kernel)
theorem hVX11_status : mHasV yX11_status = true := mHasV_of 1870 (by decide +kernel)
theorem hCX11_status : mCal yX11_status = some (cX11_status, 1, (some .int), 0) := by decide +kernel
theorem hIX11_stopped : mHasI yX11_stopped = true := mHasI_of 1843 (by decide +kernel)
theorem hVX11_stopped : mHasV yX11_stopped = true := mHasV_of 1844 (by decide +kernel)
theorem hCX11_stopped : mCal yX11_stopped = some (cX11_stopped, 1, (some .int), 0) := by decide +kernel
theorem hIX11_stranger : mHasI yX11_stranger = true := mHasI_of 1753 (by decide +kernel)
theorem hVX11_stranger : mHasV yX11_stranger = true := mHasV_of 1754 (by decide +kernel)
theorem hCX11_stranger : mCal yX11_stranger = some (cX11_stranger, 1, (some .int), 0) := by decide +kernel
theorem hIX11_strangers : mHasI yX11_strangers = true := mHasI_of 1758 (by decide +kernel)
theorem hVX11_strangers : mHasV yX11_strangers = true := mHasV_of 86 (by decide +kernel)
theorem hCX11_strangers : mCal yX11_strangers = some (cX11_strangers, 5, (some .int), 0) := by decide +kernel
theorem hIX11_sumOf : mHasI yX11_sumOf = true := mHasI_of 1832 (by decide +kernel)
theorem hVX11_sumOf : mHasV yX11_sumOf = true := mHasV_of 96 (by decide +kernel)
theorem hCX11_sumOf : mCal yX11_sumOf = some (cX11_sumOf, 2, (some .int), 1) := by decide +kernel
theorem hIX11_tell : mHasI yX11_tell = true := mHasI_of 1356 (by decide +kernel)
theorem hVX11_tell : mHasV yX11_tell = true := mHasV_of 26 (by decide +kernel)
theorem hCX11_tell : mCal yX11_tell = some (cX11_tell, 2, (some .int), 1) := by decide +kernel
theorem hIX11_tells : mHasI yX11_tells = true := mHasI_of 1422 (by decide +kernel)
theorem hVX11_tells : mHasV yX11_tells = true := mHasV_of 34 (by decide +kernel)
theorem hCX11_tells : mCal yX11_tells = some (cX11_tells, 8, (some .long), 2) := by decide +kernel
theorem hIX11_terms : mHasI yX11_terms = true := mHasI_of 1497 (by decide +kernel)
theorem hVX11_terms : mHasV yX11_terms = true := mHasV_of 1498 (by decide +kernel)
theorem hCX11_terms : mCal yX11_terms = some (cX11_terms, 4, (some .int), 2) := by decide +kernel
theorem hIX11_undo : mHasI yX11_undo = true := mHasI_of 1351 (by decide +kernel)
theorem hVX11_undo : mHasV yX11_undo = true := mHasV_of 1352 (by decide +kernel)
theorem hCX11_undo : mCal yX11_undo = some (cX11_undo, 1, (some .int), 0) := by decide +kernel
theorem hIX11_vault : mHasI yX11_vault = true := mHasI_of 1378 (by decide +kernel)
theorem hVX11_vault : mHasV yX11_vault = true := mHasV_of 1379 (by decide +kernel)
theorem hCX11_vault : mCal yX11_vault = some (cX11_vault, 4, (some .int), 1) := by decide +kernel
theorem hIX11_when : mHasI yX11_when = true := mHasI_of 1741 (by decide +kernel)
theorem hVX11_when : mHasV yX11_when = true := mHasV_of 1742 (by decide +kernel)
theorem hCX11_when : mCal yX11_when = some (cX11_when, 9, (some .int), 2) := by decide +kernel
theorem hIX11_wish : mHasI yX11_wish = true := mHasI_of 1488 (by decide +kernel)
theorem hVX11_wish : mHasV yX11_wish = true := mHasV_of 1489 (by decide +kernel)
theorem hCX11_wish : mCal yX11_wish = some (cX11_wish, 4, (some .int), 3) := by decide +kernel
theorem hSX11_within : mHasS yX11_within = true := mHasS_of 1443 (by decide +kernel)
theorem hCX11_within : mCal yX11_within = some (cX11_within, 4, (some .int), 3) := by decide +kernel
theorem hIX11_wouldRather : mHasI yX11_wouldRather = true := mHasI_of 1797 (by decide +kernel)
theorem hVX11_wouldRather : mHasV yX11_wouldRather = true := mHasV_of 91 (by decide +kernel)
theorem hCX11_wouldRather : mCal yX11_wouldRather = some (cX11_wouldRather, 4, (some .boolean), 2) := by decide +kernel
theorem hIX1_draw : mHasI yX1_draw = true := mHasI_of 1128 (by decide +kernel)
theorem hVX1_draw : mHasV yX1_draw = true := mHasV_of 1129 (by decide +kernel)
theorem hCX1_draw : mCal yX1_draw = some (cX1_draw, 2, (some .int), 1) := by decide +kernel
theorem hIX1_init : mHasI yX1_init = true := mHasI_of 265 (by decide +kernel)
theorem hCX1_init : mCal yX1_init = some (cX1_init, 1, none, 0) := by decide +kernel
theorem hIX2_addDead : mHasI yX2_addDead = true := mHasI_of 652 (by decide +kernel)
theorem hVX2_addDead : mHasV yX2_addDead = true := mHasV_of 653 (by decide +kernel)
theorem hCX2_addDead : mCal yX2_addDead = some (cX2_addDead, 4, none, 3) := by decide +kernel
theorem hIX2_bill : mHasI yX2_bill = true := mHasI_of 618 (by decide +kernel)
theorem hVX2_bill : mHasV yX2_bill = true := mHasV_of 619 (by decide +kernel)
theorem hCX2_bill : mCal yX2_bill = some (cX2_bill, 4, (some .int), 1) := by decide +kernel
theorem hIX2_copyFrom : mHasI yX2_copyFrom = true := mHasI_of 846 (by decide +kernel)
theorem hVX2_copyFrom : mHasV yX2_copyFrom = true := mHasV_of 847 (by decide +kernel)
theorem hCX2_copyFrom : mCal yX2_copyFrom = some (cX2_copyFrom, 3, none, 1) := by decide +kernel
theorem hIX2_deadOf : mHasI yX2_deadOf = true := mHasI_of 614 (by decide +kernel)
theorem hVX2_deadOf : mHasV yX2_deadOf = true := mHasV_of 615 (by decide +kernel)
theorem hCX2_deadOf : mCal yX2_deadOf = some (cX2_deadOf, 4, (some .int), 1) := by decide +kernel
theorem hIX2_earned : mHasI yX2_earned = true := mHasI_of 559 (by decide +kernel)
theorem hVX2_earned : mHasV yX2_earned = true := mHasV_of 560 (by decide +kernel)
theorem hCX2_earned : mCal yX2_earned = some (cX2_earned, 2, (some .int), 1) := by decide +kernel
theorem hIX2_freeBeds : mHasI yX2_freeBeds = true := mHasI_of 531 (by decide +kernel)
theorem hVX2_freeBeds : mHasV yX2_freeBeds = true := mHasV_of 532 (by decide +kernel)
theorem hCX2_freeBeds : mCal yX2_freeBeds = some (cX2_freeBeds, 2, (some .int), 1) := by decide +kernel
theorem hIX2_hasDead : mHasI yX2_hasDead = true := mHasI_of 626 (by decide +kernel)
theorem hVX2_hasDead : mHasV yX2_hasDead = true := mHasV_of 627 (by decide +kernel)
theorem hCX2_hasDead : mCal yX2_hasDead = some (cX2_hasDead, 2, (some .boolean), 1) := by decide +kernel
theorem hIX2_hasFamily : mHasI yX2_hasFamily = true := mHasI_of 555 (by decide +kernel)
theorem hVX2_hasFamily : mHasV yX2_hasFamily = true := mHasV_of 556 (by decide +kernel)
theorem hCX2_hasFamily : mCal yX2_hasFamily = some (cX2_hasFamily, 2, (some .boolean), 1) := by decide +kernel
theorem hIX2_hasLaw : mHasI yX2_hasLaw = true := mHasI_of 576 (by decide +kernel)
theorem hVX2_hasLaw : mHasV yX2_hasLaw = true := mHasV_of 577 (by decide +kernel)
theorem hCX2_hasLaw : mCal yX2_hasLaw = some (cX2_hasLaw, 2, (some .boolean), 1) := by decide +kernel
theorem hIX2_hasVault : mHasI yX2_hasVault = true := mHasI_of 527 (by decide +kernel)
theorem hVX2_hasVault : mHasV yX2_hasVault = true := mHasV_of 528 (by decide +kernel)
theorem hCX2_hasVault : mCal yX2_hasVault = some (cX2_hasVault, 2, (some .boolean), 1) := by decide +kernel
theorem hIX2_inAfter : mHasI yX2_inAfter = true := mHasI_of 955 (by decide +kernel)
theorem hVX2_inAfter : mHasV yX2_inAfter = true := mHasV_of 956 (by decide +kernel)
theorem hCX2_inAfter : mCal yX2_inAfter = some (cX2_inAfter, 4, (some .int), 1) := by decide +kernel
theorem hIX2_inForce : mHasI yX2_inForce = true := mHasI_of 568 (by decide +kernel)
theorem hVX2_inForce : mHasV yX2_inForce = true := mHasV_of 569 (by decide +kernel)
theorem hCX2_inForce : mCal yX2_inForce = some (cX2_inForce, 1, (some (.object "VaultLeases$Program")), 0) := by decide +kernel
theorem hIX2_init : mHasI yX2_init = true := mHasI_of 323 (by decide +kernel)
theorem hCX2_init : mCal yX2_init = some (cX2_init, 2, none, 1) := by decide +kernel
theorem hIX2_insideCount : mHasI yX2_insideCount = true := mHasI_of 865 (by decide +kernel)
theorem hVX2_insideCount : mHasV yX2_insideCount = true := mHasV_of 866 (by decide +kernel)
theorem hCX2_insideCount : mCal yX2_insideCount = some (cX2_insideCount, 1, (some .int), 0) := by decide +kernel
theorem hIX2_isBarred : mHasI yX2_isBarred = true := mHasI_of 671 (by decide +kernel)
theorem hVX2_isBarred : mHasV yX2_isBarred = true := mHasV_of 672 (by decide +kernel)
theorem hCX2_isBarred : mCal yX2_isBarred = some (cX2_isBarred, 3, (some .boolean), 2) := by decide +kernel
theorem hIX2_isIn : mHasI yX2_isIn = true := mHasI_of 622 (by decide +kernel)
theorem hVX2_isIn : mHasV yX2_isIn = true := mHasV_of 623 (by decide +kernel)
theorem hCX2_isIn : mCal yX2_isIn = some (cX2_isIn, 2, (some .boolean), 1) := by decide +kernel
theorem hIX2_isOut : mHasI yX2_isOut = true := mHasI_of 892 (by decide +kernel)
theorem hVX2_isOut : mHasV yX2_isOut = true := mHasV_of 893 (by decide +kernel)
theorem hCX2_isOut : mCal yX2_isOut = some (cX2_isOut, 2, (some .boolean), 1) := by decide +kernel
theorem hIX2_knockBy : mHasI yX2_knockBy = true := mHasI_of 896 (by decide +kernel)
theorem hVX2_knockBy : mHasV yX2_knockBy = true := mHasV_of 897 (by decide +kernel)
theorem hCX2_knockBy : mCal yX2_knockBy = some (cX2_knockBy, 2, (some .int), 1) := by decide +kernel
theorem hIX2_lawAt : mHasI yX2_lawAt = true := mHasI_of 572 (by decide +kernel)
theorem hVX2_lawAt : mHasV yX2_lawAt = true := mHasV_of 573 (by decide +kernel)
theorem hCX2_lawAt : mCal yX2_lawAt = some (cX2_lawAt, 2, (some (.object "VaultLeases$Program")), 1) := by decide +kernel
theorem hIX2_lodgeIn : mHasI yX2_lodgeIn = true := mHasI_of 888 (by decide +kernel)
theorem hVX2_lodgeIn : mHasV yX2_lodgeIn = true := mHasV_of 889 (by decide +kernel)
theorem hCX2_lodgeIn : mCal yX2_lodgeIn = some (cX2_lodgeIn, 3, (some .int), 2) := by decide +kernel
theorem hIX2_lyingIn : mHasI yX2_lyingIn = true := mHasI_of 536 (by decide +kernel)
theorem hVX2_lyingIn : mHasV yX2_lyingIn = true := mHasV_of 537 (by decide +kernel)
theorem hCX2_lyingIn : mCal yX2_lyingIn = some (cX2_lyingIn, 4, (some .int), 1) := by decide +kernel
theorem hIX2_passYear : mHasI yX2_passYear = true := mHasI_of 900 (by decide +kernel)
theorem hVX2_passYear : mHasV yX2_passYear = true := mHasV_of 901 (by decide +kernel)
theorem hCX2_passYear : mCal yX2_passYear = some (cX2_passYear, 2, (some .int), 0) := by decide +kernel
theorem hIX2_pricedAfter : mHasI yX2_pricedAfter = true := mHasI_of 994 (by decide +kernel)
theorem hVX2_pricedAfter : mHasV yX2_pricedAfter = true := mHasV_of 995 (by decide +kernel)
theorem hCX2_pricedAfter : mCal yX2_pricedAfter = some (cX2_pricedAfter, 3, (some .int), 2) := by decide +kernel
theorem hIX2_renewFor : mHasI yX2_renewFor = true := mHasI_of 883 (by decide +kernel)
theorem hVX2_renewFor : mHasV yX2_renewFor = true := mHasV_of 884 (by decide +kernel)
theorem hCX2_renewFor : mCal yX2_renewFor = some (cX2_renewFor, 5, (some .int), 1) := by decide +kernel
theorem hIX2_strangers : mHasI yX2_strangers = true := mHasI_of 1014 (by decide +kernel)
theorem hVX2_strangers : mHasV yX2_strangers = true := mHasV_of 1015 (by decide +kernel)
theorem hCX2_strangers : mCal yX2_strangers = some (cX2_strangers, 5, (some .int), 0) := by decide +kernel
theorem hIX2_told : mHasI yX2_told = true := mHasI_of 630 (by decide +kernel)
theorem hVX2_told : mHasV yX2_told = true := mHasV_of 631 (by decide +kernel)
theorem hCX2_told : mCal yX2_told = some (cX2_told, 4, (some .int), 3) := by decide +kernel
theorem hIX2_whyNotDead : mHasI yX2_whyNotDead = true := mHasI_of 646 (by decide +kernel)
theorem hVX2_whyNotDead : mHasV yX2_whyNotDead = true := mHasV_of 647 (by decide +kernel)
theorem hCX2_whyNotDead : mCal yX2_whyNotDead = some (cX2_whyNotDead, 4, (some .int), 3) := by decide +kernel
theorem hIX2_wishOf : mHasI yX2_wishOf = true := mHasI_of 667 (by decide +kernel)
theorem hVX2_wishOf : mHasV yX2_wishOf = true := mHasV_of 668 (by decide +kernel)
theorem hCX2_wishOf : mCal yX2_wishOf = some (cX2_wishOf, 3, (some .int), 2) := by decide +kernel
theorem hIX3_clear : mHasI yX3_clear = true := mHasI_of 515 (by decide +kernel)
theorem hVX3_clear : mHasV yX3_clear = true := mHasV_of 516 (by decide +kernel)
theorem hCX3_clear : mCal yX3_clear = some (cX3_clear, 1, none, 0) := by decide +kernel
theorem hIX3_commit : mHasI yX3_commit = true := mHasI_of 904 (by decide +kernel)
theorem hVX3_commit : mHasV yX3_commit = true := mHasV_of 905 (by decide +kernel)
theorem hCX3_commit : mCal yX3_commit = some (cX3_commit, 1, none, 0) := by decide +kernel
theorem hIX3_copyFrom : mHasI yX3_copyFrom = true := mHasI_of 851 (by decide +kernel)
theorem hVX3_copyFrom : mHasV yX3_copyFrom = true := mHasV_of 852 (by decide +kernel)
theorem hCX3_copyFrom : mCal yX3_copyFrom = some (cX3_copyFrom, 2, none, 1) := by decide +kernel
theorem hIX3_init : mHasI yX3_init = true := mHasI_of 278 (by decide +kernel)
theorem hCX3_init : mCal yX3_init = some (cX3_init, 1, none, 0) := by decide +kernel
theorem hIX3_prepare : mHasI yX3_prepare = true := mHasI_of 879 (by decide +kernel)
theorem hVX3_prepare : mHasV yX3_prepare = true := mHasV_of 880 (by decide +kernel)
theorem hCX3_prepare : mCal yX3_prepare = some (cX3_prepare, 4, none, 2) := by decide +kernel
theorem hIX3_takeBack : mHasI yX3_takeBack = true := mHasI_of 947 (by decide +kernel)
theorem hVX3_takeBack : mHasV yX3_takeBack = true := mHasV_of 948 (by decide +kernel)
theorem hCX3_takeBack : mCal yX3_takeBack = some (cX3_takeBack, 3, (some .int), 1) := by decide +kernel
theorem hIX4_allCanLie : mHasI yX4_allCanLie = true := mHasI_of 1084 (by decide +kernel)
theorem hVX4_allCanLie : mHasV yX4_allCanLie = true := mHasV_of 23 (by decide +kernel)
theorem hCX4_allCanLie : mCal yX4_allCanLie = some (cX4_allCanLie, 4, (some .boolean), 2) := by decide +kernel
theorem hSX4_bedsOf : mHasS yX4_bedsOf = true := mHasS_of 1091 (by decide +kernel)
theorem hCX4_bedsOf : mCal yX4_bedsOf = some (cX4_bedsOf, 4, (some .int), 2) := by decide +kernel
theorem hIX4_bestLook : mHasI yX4_bestLook = true := mHasI_of 1023 (by decide +kernel)
theorem hVX4_bestLook : mHasV yX4_bestLook = true := mHasV_of 1024 (by decide +kernel)
theorem hCX4_bestLook : mCal yX4_bestLook = some (cX4_bestLook, 10, (some .int), 2) := by decide +kernel
theorem hIX4_boundTo : mHasI yX4_boundTo = true := mHasI_of 1088 (by decide +kernel)
theorem hVX4_boundTo : mHasV yX4_boundTo = true := mHasV_of 24 (by decide +kernel)
theorem hCX4_boundTo : mCal yX4_boundTo = some (cX4_boundTo, 6, (some .int), 3) := by decide +kernel
theorem hIX4_cheapestYear : mHasI yX4_cheapestYear = true := mHasI_of 990 (by decide +kernel)
theorem hVX4_cheapestYear : mHasV yX4_cheapestYear = true := mHasV_of 991 (by decide +kernel)
theorem hCX4_cheapestYear : mCal yX4_cheapestYear = some (cX4_cheapestYear, 8, (some .int), 3) := by decide +kernel
theorem hSX4_costOf : mHasS yX4_costOf = true := mHasS_of 974 (by decide +kernel)
theorem hCX4_costOf : mCal yX4_costOf = some (cX4_costOf, 5, (some .int), 3) := by decide +kernel
theorem hIX4_costOfAll : mHasI yX4_costOfAll = true := mHasI_of 981 (by decide +kernel)
theorem hVX4_costOfAll : mHasV yX4_costOfAll = true := mHasV_of 16 (by decide +kernel)
theorem hCX4_costOfAll : mCal yX4_costOfAll = some (cX4_costOfAll, 4, (some .int), 1) := by decide +kernel
theorem hIX4_exchange : mHasI yX4_exchange = true := mHasI_of 1098 (by decide +kernel)
theorem hVX4_exchange : mHasV yX4_exchange = true := mHasV_of 1099 (by decide +kernel)
theorem hCX4_exchange : mCal yX4_exchange = some (cX4_exchange, 6, (some .int), 2) := by decide +kernel
theorem hIX4_init : mHasI yX4_init = true := mHasI_of 198 (by decide +kernel)
theorem hCX4_init : mCal yX4_init = some (cX4_init, 1, none, 0) := by decide +kernel
theorem hIX4_kept : mHasI yX4_kept = true := mHasI_of 968 (by decide +kernel)
theorem hVX4_kept : mHasV yX4_kept = true := mHasV_of 969 (by decide +kernel)
theorem hCX4_kept : mCal yX4_kept = some (cX4_kept, 12, (some .int), 4) := by decide +kernel
theorem hIX4_packing : mHasI yX4_packing = true := mHasI_of 1074 (by decide +kernel)
theorem hVX4_packing : mHasV yX4_packing = true := mHasV_of 1075 (by decide +kernel)
theorem hCX4_packing : mCal yX4_packing = some (cX4_packing, 6, (some .int), 2) := by decide +kernel
theorem hSX4_vaultsOpenTo : mHasS yX4_vaultsOpenTo = true := mHasS_of 1079 (by decide +kernel)
theorem hCX4_vaultsOpenTo : mCal yX4_vaultsOpenTo = some (cX4_vaultsOpenTo, 4, (some .int), 2) := by decide +kernel
theorem hSX4_wantsBedOf : mHasS yX4_wantsBedOf = true := mHasS_of 1102 (by decide +kernel)
theorem hCX4_wantsBedOf : mCal yX4_wantsBedOf = some (cX4_wantsBedOf, 4, (some .boolean), 3) := by decide +kernel
theorem hIX5_add : mHasI yX5_add = true := mHasI_of 809 (by decide +kernel)
theorem hVX5_add : mHasV yX5_add = true := mHasV_of 810 (by decide +kernel)
theorem hCX5_add : mCal yX5_add = some (cX5_add, 3, (some .int), 2) := by decide +kernel
theorem hIX5_aim : mHasI yX5_aim = true := mHasI_of 825 (by decide +kernel)
theorem hVX5_aim : mHasV yX5_aim = true := mHasV_of 826 (by decide +kernel)
theorem hCX5_aim : mCal yX5_aim = some (cX5_aim, 2, none, 1) := by decide +kernel
theorem hIX5_clear : mHasI yX5_clear = true := mHasI_of 781 (by decide +kernel)
theorem hVX5_clear : mHasV yX5_clear = true := mHasV_of 782 (by decide +kernel)
theorem hCX5_clear : mCal yX5_clear = some (cX5_clear, 1, none, 0) := by decide +kernel
theorem hIX5_init : mHasI yX5_init = true := mHasI_of 137 (by decide +kernel)
theorem hCX5_init : mCal yX5_init = some (cX5_init, 3, none, 2) := by decide +kernel
theorem hIX5_openClause : mHasI yX5_openClause = true := mHasI_of 793 (by decide +kernel)
theorem hVX5_openClause : mHasV yX5_openClause = true := mHasV_of 794 (by decide +kernel)
theorem hCX5_openClause : mCal yX5_openClause = some (cX5_openClause, 2, none, 1) := by decide +kernel
theorem hIX5_part : mHasI yX5_part = true := mHasI_of 584 (by decide +kernel)
theorem hVX5_part : mHasV yX5_part = true := mHasV_of 585 (by decide +kernel)
theorem hCX5_part : mCal yX5_part = some (cX5_part, 4, (some .int), 2) := by decide +kernel
theorem hIX5_set : mHasI yX5_set = true := mHasI_of 797 (by decide +kernel)
theorem hVX5_set : mHasV yX5_set = true := mHasV_of 798 (by decide +kernel)
theorem hCX5_set : mCal yX5_set = some (cX5_set, 4, none, 2) := by decide +kernel
theorem hIX5_trimmed : mHasI yX5_trimmed = true := mHasI_of 829 (by decide +kernel)
theorem hVX5_trimmed : mHasV yX5_trimmed = true := mHasV_of 830 (by decide +kernel)
theorem hCX5_trimmed : mCal yX5_trimmed = some (cX5_trimmed, 2, (some (.object "VaultLeases$Program")), 0) := by decide +kernel
theorem hIX6_clause : mHasI yX6_clause = true := mHasI_of 786 (by decide +kernel)
theorem hVX6_clause : mHasV yX6_clause = true := mHasV_of 7 (by decide +kernel)
theorem hCX6_clause : mCal yX6_clause = some (cX6_clause, 2, none, 0) := by decide +kernel
theorem hIX6_init : mHasI yX6_init = true := mHasI_of 131 (by decide +kernel)
theorem hCX6_init : mCal yX6_init = some (cX6_init, 1, none, 0) := by decide +kernel
theorem hIX6_part : mHasI yX6_part = true := mHasI_of 806 (by decide +kernel)
theorem hVX6_part : mHasV yX6_part = true := mHasV_of 10 (by decide +kernel)
theorem hCX6_part : mCal yX6_part = some (cX6_part, 4, none, 0) := by decide +kernel
theorem hIX6_plain : mHasI yX6_plain = true := mHasI_of 822 (by decide +kernel)
theorem hVX6_plain : mHasV yX6_plain = true := mHasV_of 12 (by decide +kernel)
theorem hCX6_plain : mCal yX6_plain = some (cX6_plain, 3, none, 0) := by decide +kernel
theorem hIX6_readText : mHasI yX6_readText = true := mHasI_of 721 (by decide +kernel)
theorem hVX6_readText : mHasV yX6_readText = true := mHasV_of 722 (by decide +kernel)
theorem hCX6_readText : mCal yX6_readText = some (cX6_readText, 6, (some .boolean), 3) := by decide +kernel
theorem hSX6_sortOf : mHasS yX6_sortOf = true := mHasS_of 731 (by decide +kernel)
theorem hCX6_sortOf : mCal yX6_sortOf = some (cX6_sortOf, 1, (some .int), 1) := by decide +kernel
theorem hSX6_spells : mHasS yX6_spells = true := mHasS_of 737 (by decide +kernel)
theorem hCX6_spells : mCal yX6_spells = some (cX6_spells, 7, (some .boolean), 4) := by decide +kernel
theorem hIX6_split : mHasI yX6_split = true := mHasI_of 728 (by decide +kernel)
theorem hVX6_split : mHasV yX6_split = true := mHasV_of 6 (by decide +kernel)
theorem hCX6_split : mCal yX6_split = some (cX6_split, 8, none, 2) := by decide +kernel
theorem hSX6_stepOf : mHasS yX6_stepOf = true := mHasS_of 813 (by decide +kernel)
theorem hCX6_stepOf : mCal yX6_stepOf = some (cX6_stepOf, 1, (some .int), 1) := by decide +kernel
theorem hIX6_sum : mHasI yX6_sum = true := mHasI_of 802 (by decide +kernel)
theorem hVX6_sum : mHasV yX6_sum = true := mHasV_of 9 (by decide +kernel)
theorem hCX6_sum : mCal yX6_sum = some (cX6_sum, 6, none, 1) := by decide +kernel
theorem hIX6_take : mHasI yX6_take = true := mHasI_of 790 (by decide +kernel)
theorem hVX6_take : mHasV yX6_take = true := mHasV_of 8 (by decide +kernel)
theorem hCX6_take : mCal yX6_take = some (cX6_take, 2, none, 1) := by decide +kernel
theorem hIX6_test : mHasI yX6_test = true := mHasI_of 818 (by decide +kernel)
theorem hVX6_test : mHasV yX6_test = true := mHasV_of 11 (by decide +kernel)
theorem hCX6_test : mCal yX6_test = some (cX6_test, 5, none, 1) := by decide +kernel
theorem hSX6_wordAt : mHasS yX6_wordAt = true := mHasS_of 734 (by decide +kernel)
theorem hCX6_wordAt : mCal yX6_wordAt = some (cX6_wordAt, 4, (some .int), 3) := by decide +kernel
theorem hIX7_addColumns : mHasI yX7_addColumns = true := mHasI_of 1058 (by decide +kernel)
theorem hVX7_addColumns : mHasV yX7_addColumns = true := mHasV_of 20 (by decide +kernel)
theorem hCX7_addColumns : mCal yX7_addColumns = some (cX7_addColumns, 4, none, 2) := by decide +kernel
theorem hIX7_init : mHasI yX7_init = true := mHasI_of 211 (by decide +kernel)
theorem hCX7_init : mCal yX7_init = some (cX7_init, 1, none, 0) := by decide +kernel
theorem hIX7_pair : mHasI yX7_pair = true := mHasI_of 1062 (by decide +kernel)
theorem hVX7_pair : mHasV yX7_pair = true := mHasV_of 21 (by decide +kernel)
theorem hCX7_pair : mCal yX7_pair = some (cX7_pair, 5, none, 1) := by decide +kernel
theorem hIX7_plan : mHasI yX7_plan = true := mHasI_of 1032 (by decide +kernel)
theorem hVX7_plan : mHasV yX7_plan = true := mHasV_of 1033 (by decide +kernel)
theorem hCX7_plan : mCal yX7_plan = some (cX7_plan, 5, none, 1) := by decide +kernel
theorem hIX7_reachFrom : mHasI yX7_reachFrom = true := mHasI_of 1067 (by decide +kernel)
theorem hVX7_reachFrom : mHasV yX7_reachFrom = true := mHasV_of 22 (by decide +kernel)
theorem hCX7_reachFrom : mCal yX7_reachFrom = some (cX7_reachFrom, 11, (some .int), 1) := by decide +kernel
theorem hIX7_setColumns : mHasI yX7_setColumns = true := mHasI_of 1053 (by decide +kernel)
theorem hVX7_setColumns : mHasV yX7_setColumns = true := mHasV_of 19 (by decide +kernel)
theorem hCX7_setColumns : mCal yX7_setColumns = some (cX7_setColumns, 3, none, 1) := by decide +kernel
theorem hIX7_setCosts : mHasI yX7_setCosts = true := mHasI_of 1042 (by decide +kernel)
theorem hVX7_setCosts : mHasV yX7_setCosts = true := mHasV_of 18 (by decide +kernel)
theorem hCX7_setCosts : mCal yX7_setCosts = some (cX7_setCosts, 9, none, 3) := by decide +kernel
theorem hIX7_setRows : mHasI yX7_setRows = true := mHasI_of 1037 (by decide +kernel)
theorem hVX7_setRows : mHasV yX7_setRows = true := mHasV_of 17 (by decide +kernel)
theorem hCX7_setRows : mCal yX7_setRows = some (cX7_setRows, 5, none, 1) := by decide +kernel
theorem hIX8_init : mHasI yX8_init = true := mHasI_of 296 (by decide +kernel)
theorem hCX8_init : mCal yX8_init = some (cX8_init, 1, none, 0) := by decide +kernel
theorem hIX8_joined : mHasI yX8_joined = true := mHasI_of 601 (by decide +kernel)
theorem hVX8_joined : mHasV yX8_joined = true := mHasV_of 2 (by decide +kernel)
theorem hCX8_joined : mCal yX8_joined = some (cX8_joined, 6, (some .int), 3) := by decide +kernel
theorem hSX8_needed : mHasS yX8_needed = true := mHasS_of 597 (by decide +kernel)
theorem hCX8_needed : mCal yX8_needed = some (cX8_needed, 1, (some .int), 1) := by decide +kernel
theorem hIX8_work : mHasI yX8_work = true := mHasI_of 588 (by decide +kernel)
theorem hVX8_work : mHasV yX8_work = true := mHasV_of 589 (by decide +kernel)
theorem hCX8_work : mCal yX8_work = some (cX8_work, 12, (some .int), 4) := by decide +kernel
theorem hIX9_begin : mHasI yX9_begin = true := mHasI_of 842 (by decide +kernel)
theorem hVX9_begin : mHasV yX9_begin = true := mHasV_of 843 (by decide +kernel)
theorem hCX9_begin : mCal yX9_begin = some (cX9_begin, 3, none, 2) := by decide +kernel
theorem hIX9_canDo : mHasI yX9_canDo = true := mHasI_of 873 (by decide +kernel)
theorem hVX9_canDo : mHasV yX9_canDo = true := mHasV_of 14 (by decide +kernel)
theorem hCX9_canDo : mCal yX9_canDo = some (cX9_canDo, 7, (some .boolean), 2) := by decide +kernel
theorem hIX9_carryOut : mHasI yX9_carryOut = true := mHasI_of 856 (by decide +kernel)
theorem hVX9_carryOut : mHasV yX9_carryOut = true := mHasV_of 857 (by decide +kernel)
theorem hCX9_carryOut : mCal yX9_carryOut = some (cX9_carryOut, 5, (some .int), 1) := by decide +kernel
theorem hIX9_init : mHasI yX9_init = true := mHasI_of 425 (by decide +kernel)
theorem hCX9_init : mCal yX9_init = some (cX9_init, 3, none, 2) := by decide +kernel
theorem hIX9_setWords : mHasI yX9_setWords = true := mHasI_of 862 (by decide +kernel)
theorem hVX9_setWords : mHasV yX9_setWords = true := mHasV_of 13 (by decide +kernel)
theorem hCX9_setWords : mCal yX9_setWords = some (cX9_setWords, 2, none, 0) := by decide +kernel
