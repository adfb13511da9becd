/-! tables of the program, by a program -/
def kd0 : List Nat := [2, 2]
theorem de0 : (List.range 2).map (fun j => defaultValue (mTy 0 j)) = kd0.mapIdx (fun q kd => celV q kd zI zJ zR) := rfl
def kd1 : List Nat := [0]
theorem de1 : (List.range 1).map (fun j => defaultValue (mTy 1 j)) = kd1.mapIdx (fun q kd => celV q kd zI zJ zR) := rfl
def kd2 : List Nat := [2, 2, 2, 2, 2, 2, 2, 2, 2, 2, 2, 0, 0, 0, 0, 0, 0, 0]
theorem de2 : (List.range 18).map (fun j => defaultValue (mTy 2 j)) = kd2.mapIdx (fun q kd => celV q kd zI zJ zR) := rfl
def kd3 : List Nat := [2, 0, 0]
theorem de3 : (List.range 3).map (fun j => defaultValue (mTy 3 j)) = kd3.mapIdx (fun q kd => celV q kd zI zJ zR) := rfl
def kd4 : List Nat := [2, 2]
theorem de4 : (List.range 2).map (fun j => defaultValue (mTy 4 j)) = kd4.mapIdx (fun q kd => celV q kd zI zJ zR) := rfl
def kd5 : List Nat := [2, 2, 0, 0]
theorem de5 : (List.range 4).map (fun j => defaultValue (mTy 5 j)) = kd5.mapIdx (fun q kd => celV q kd zI zJ zR) := rfl
def kd6 : List Nat := [2, 2, 2, 0, 0, 0, 0, 0, 0, 0]
theorem de6 : (List.range 10).map (fun j => defaultValue (mTy 6 j)) = kd6.mapIdx (fun q kd => celV q kd zI zJ zR) := rfl
def kd7 : List Nat := [2, 2, 2, 2, 2, 2, 2, 2, 2, 2, 0, 0, 0, 0]
theorem de7 : (List.range 14).map (fun j => defaultValue (mTy 7 j)) = kd7.mapIdx (fun q kd => celV q kd zI zJ zR) := rfl
def kd8 : List Nat := [2, 0]
theorem de8 : (List.range 2).map (fun j => defaultValue (mTy 8 j)) = kd8.mapIdx (fun q kd => celV q kd zI zJ zR) := rfl
def kd9 : List Nat := [2, 2, 2, 2, 0, 0]
theorem de9 : (List.range 6).map (fun j => defaultValue (mTy 9 j)) = kd9.mapIdx (fun q kd => celV q kd zI zJ zR) := rfl
def kd10 : List Nat := [2, 2, 2, 2, 2, 2, 2, 2, 2, 2, 2, 2, 0, 0, 0, 0, 0]
theorem de10 : (List.range 17).map (fun j => defaultValue (mTy 10 j)) = kd10.mapIdx (fun q kd => celV q kd zI zJ zR) := rfl
def kd11 : List Nat := [0, 0, 2, 2, 2, 2, 2, 2, 0, 2, 2, 0, 2, 0, 0, 0, 0, 1, 0, 0, 0, 0, 2, 0, 2, 2, 0, 2, 2, 0, 0, 2, 2, 2, 0, 2, 2, 2, 0, 1, 1, 2, 2, 2, 2, 2, 2, 2, 0, 0, 0, 0, 1, 2, 0, 0]
theorem de11 : (List.range 56).map (fun j => defaultValue (mTy 11 j)) = kd11.mapIdx (fun q kd => celV q kd zI zJ zR) := rfl
def MJ6_bitCount_0f7a4 : mM := (yJ6_bitCount_0f7a4, cJ6_bitCount_0f7a4, 1, (some .int))
def MJ9_max_7cf53 : mM := (yJ9_max_7cf53, cJ9_max_7cf53, 2, (some .int))
def MJ9_min_7cf53 : mM := (yJ9_min_7cf53, cJ9_min_7cf53, 2, (some .int))
def ML_law : mM := (yL_law, code, 4, (some .boolean))
def MX0_askOfDead : mM := (yX0_askOfDead, cX0_askOfDead, 4, none)
def MX0_askOfFamily : mM := (yX0_askOfFamily, cX0_askOfFamily, 3, none)
def MX0_bars : mM := (yX0_bars, cX0_bars, 5, (some .boolean))
def MX0_init : mM := (yX0_init, cX0_init, 2, none)
def MX0_moveOn : mM := (yX0_moveOn, cX0_moveOn, 2, none)
def MX0_told : mM := (yX0_told, cX0_told, 7, (some .int))
def MX10_act : mM := (yX10_act, cX10_act, 6, (some .int))
def MX10_answered : mM := (yX10_answered, cX10_answered, 2, (some .int))
def MX10_asks : mM := (yX10_asks, cX10_asks, 4, (some .int))
def MX10_at : mM := (yX10_at, cX10_at, 3, (some .int))
def MX10_back : mM := (yX10_back, cX10_back, 3, (some .int))
def MX10_centuries : mM := (yX10_centuries, cX10_centuries, 6, (some .int))
def MX10_changes : mM := (yX10_changes, cX10_changes, 2, (some .int))
def MX10_comes : mM := (yX10_comes, cX10_comes, 4, (some .boolean))
def MX10_compare : mM := (yX10_compare, cX10_compare, 5, (some .int))
def MX10_count : mM := (yX10_count, cX10_count, 2, (some .int))
def MX10_dead : mM := (yX10_dead, cX10_dead, 5, (some .int))
def MX10_draughts : mM := (yX10_draughts, cX10_draughts, 1, (some .int))
def MX10_drawOneAct : mM := (yX10_drawOneAct, cX10_drawOneAct, 3, none)
def MX10_drawn : mM := (yX10_drawn, cX10_drawn, 3, (some .int))
def MX10_empty : mM := (yX10_empty, cX10_empty, 3, (some .int))
def MX10_end : mM := (yX10_end, cX10_end, 2, (some .int))
def MX10_family : mM := (yX10_family, cX10_family, 2, (some .int))
def MX10_fault : mM := (yX10_fault, cX10_fault, 1, (some .int))
def MX10_feed : mM := (yX10_feed, cX10_feed, 6, (some .int))
def MX10_few : mM := (yX10_few, cX10_few, 8, (some .long))
def MX10_force : mM := (yX10_force, cX10_force, 3, (some .int))
def MX10_forget : mM := (yX10_forget, cX10_forget, 2, (some .int))
def MX10_granted : mM := (yX10_granted, cX10_granted, 2, (some .int))
def MX10_has : mM := (yX10_has, cX10_has, 3, (some .int))
def MX10_image : mM := (yX10_image, cX10_image, 3, (some .int))
def MX10_init : mM := (yX10_init, cX10_init, 3, none)
def MX10_inside : mM := (yX10_inside, cX10_inside, 2, (some .int))
def MX10_keep : mM := (yX10_keep, cX10_keep, 4, (some .int))
def MX10_knock : mM := (yX10_knock, cX10_knock, 2, (some .int))
def MX10_law : mM := (yX10_law, cX10_law, 3, (some .int))
def MX10_lodge : mM := (yX10_lodge, cX10_lodge, 3, (some .int))
def MX10_look : mM := (yX10_look, cX10_look, 2, (some .int))
def MX10_of : mM := (yX10_of, cX10_of, 3, (some .int))
def MX10_orders : mM := (yX10_orders, cX10_orders, 5, (some .int))
def MX10_packed : mM := (yX10_packed, cX10_packed, 2, (some .int))
def MX10_pass : mM := (yX10_pass, cX10_pass, 1, (some .int))
def MX10_putBytes : mM := (yX10_putBytes, cX10_putBytes, 3, none)
def MX10_refused : mM := (yX10_refused, cX10_refused, 3, (some .int))
def MX10_renew : mM := (yX10_renew, cX10_renew, 2, (some .int))
def MX10_rooms : mM := (yX10_rooms, cX10_rooms, 2, (some .int))
def MX10_row : mM := (yX10_row, cX10_row, 5, (some .int))
def MX10_seen : mM := (yX10_seen, cX10_seen, 3, (some .int))
def MX10_status : mM := (yX10_status, cX10_status, 1, (some .int))
def MX10_stopped : mM := (yX10_stopped, cX10_stopped, 1, (some .int))
def MX10_stranger : mM := (yX10_stranger, cX10_stranger, 1, (some .int))
def MX10_takeTape : mM := (yX10_takeTape, cX10_takeTape, 2, (some .int))
def MX10_terms : mM := (yX10_terms, cX10_terms, 4, (some .int))
def MX10_undo : mM := (yX10_undo, cX10_undo, 1, (some .int))
def MX10_vault : mM := (yX10_vault, cX10_vault, 2, (some .int))
def MX10_when : mM := (yX10_when, cX10_when, 3, (some .int))
def MX10_wish : mM := (yX10_wish, cX10_wish, 5, (some .int))
def MX11_act : mM := (yX11_act, cX11_act, 4, (some .int))
def MX11_asks : mM := (yX11_asks, cX11_asks, 4, (some .int))
def MX11_at : mM := (yX11_at, cX11_at, 3, (some .int))
def MX11_back : mM := (yX11_back, cX11_back, 3, (some .int))
def MX11_bedsLeft : mM := (yX11_bedsLeft, cX11_bedsLeft, 2, (some .int))
def MX11_begin : mM := (yX11_begin, cX11_begin, 1, none)
def MX11_beginText : mM := (yX11_beginText, cX11_beginText, 2, none)
def MX11_behindSum : mM := (yX11_behindSum, cX11_behindSum, 4, (some .int))
def MX11_behindTest : mM := (yX11_behindTest, cX11_behindTest, 2, (some .int))
def MX11_bestIn : mM := (yX11_bestIn, cX11_bestIn, 6, (some .int))
def MX11_billOf : mM := (yX11_billOf, cX11_billOf, 4, (some .int))
def MX11_binds : mM := (yX11_binds, cX11_binds, 1, (some .int))
def MX11_canKnock : mM := (yX11_canKnock, cX11_canKnock, 2, (some .boolean))
def MX11_canLodge : mM := (yX11_canLodge, cX11_canLodge, 3, (some .boolean))
def MX11_canRenew : mM := (yX11_canRenew, cX11_canRenew, 2, (some .boolean))
def MX11_centuries : mM := (yX11_centuries, cX11_centuries, 8, (some .int))
def MX11_change : mM := (yX11_change, cX11_change, 4, (some .int))
def MX11_changes : mM := (yX11_changes, cX11_changes, 6, (some .int))
def MX11_come : mM := (yX11_come, cX11_come, 6, (some .int))
def MX11_compare : mM := (yX11_compare, cX11_compare, 5, (some .int))
def MX11_count : mM := (yX11_count, cX11_count, 2, (some .int))
def MX11_dead : mM := (yX11_dead, cX11_dead, 4, (some .int))
def MX11_draughts : mM := (yX11_draughts, cX11_draughts, 1, (some .int))
def MX11_draw : mM := (yX11_draw, cX11_draw, 2, (some .int))
def MX11_drawn : mM := (yX11_drawn, cX11_drawn, 4, (some .int))
def MX11_earnsOf : mM := (yX11_earnsOf, cX11_earnsOf, 3, (some .int))
def MX11_emit : mM := (yX11_emit, cX11_emit, 3, none)
def MX11_empty : mM := (yX11_empty, cX11_empty, 3, (some .int))
def MX11_end : mM := (yX11_end, cX11_end, 2, (some .int))
def MX11_endText : mM := (yX11_endText, cX11_endText, 1, none)
def MX11_family : mM := (yX11_family, cX11_family, 3, (some .int))
def MX11_fault : mM := (yX11_fault, cX11_fault, 1, (some .int))
def MX11_feed : mM := (yX11_feed, cX11_feed, 6, (some .int))
def MX11_few : mM := (yX11_few, cX11_few, 8, (some .long))
def MX11_force : mM := (yX11_force, cX11_force, 2, (some .int))
def MX11_forget : mM := (yX11_forget, cX11_forget, 2, (some .int))
def MX11_four : mM := (yX11_four, cX11_four, 3, none)
def MX11_freeIn : mM := (yX11_freeIn, cX11_freeIn, 2, (some .int))
def MX11_giveBack : mM := (yX11_giveBack, cX11_giveBack, 3, none)
def MX11_has : mM := (yX11_has, cX11_has, 5, (some .int))
def MX11_image : mM := (yX11_image, cX11_image, 3, (some .int))
def MX11_in : mM := (yX11_in, cX11_in, 6, (some .boolean))
def MX11_init : mM := (yX11_init, cX11_init, 1, none)
def MX11_inner : mM := (yX11_inner, cX11_inner, 3, (some .int))
def MX11_inside : mM := (yX11_inside, cX11_inside, 4, (some .int))
def MX11_insideNow : mM := (yX11_insideNow, cX11_insideNow, 3, (some .int))
def MX11_is : mM := (yX11_is, cX11_is, 2, (some .boolean))
def MX11_isBarred : mM := (yX11_isBarred, cX11_isBarred, 3, (some .boolean))
def MX11_isCompared : mM := (yX11_isCompared, cX11_isCompared, 2, (some .boolean))
def MX11_isDead : mM := (yX11_isDead, cX11_isDead, 2, (some .boolean))
def MX11_isDigit : mM := (yX11_isDigit, cX11_isDigit, 1, (some .boolean))
def MX11_isFamily : mM := (yX11_isFamily, cX11_isFamily, 2, (some .boolean))
def MX11_isIn : mM := (yX11_isIn, cX11_isIn, 2, (some .boolean))
def MX11_isLaw : mM := (yX11_isLaw, cX11_isLaw, 2, (some .boolean))
def MX11_isSign : mM := (yX11_isSign, cX11_isSign, 2, (some .boolean))
def MX11_isSmall : mM := (yX11_isSmall, cX11_isSmall, 1, (some .boolean))
def MX11_isSo : mM := (yX11_isSo, cX11_isSo, 2, (some .boolean))
def MX11_isVault : mM := (yX11_isVault, cX11_isVault, 2, (some .boolean))
def MX11_isWord : mM := (yX11_isWord, cX11_isWord, 3, (some .boolean))
def MX11_keep : mM := (yX11_keep, cX11_keep, 10, (some .int))
def MX11_keepAll : mM := (yX11_keepAll, cX11_keepAll, 3, none)
def MX11_knock : mM := (yX11_knock, cX11_knock, 2, (some .int))
def MX11_knockIt : mM := (yX11_knockIt, cX11_knockIt, 2, none)
def MX11_knockNow : mM := (yX11_knockNow, cX11_knockNow, 2, (some .int))
def MX11_lastsOf : mM := (yX11_lastsOf, cX11_lastsOf, 2, (some .int))
def MX11_law : mM := (yX11_law, cX11_law, 3, (some .int))
def MX11_layBarred : mM := (yX11_layBarred, cX11_layBarred, 3, none)
def MX11_layBest : mM := (yX11_layBest, cX11_layBest, 8, none)
def MX11_layCosts : mM := (yX11_layCosts, cX11_layCosts, 6, none)
def MX11_leaf : mM := (yX11_leaf, cX11_leaf, 4, none)
def MX11_lodge : mM := (yX11_lodge, cX11_lodge, 3, (some .int))
def MX11_lodgeIt : mM := (yX11_lodgeIt, cX11_lodgeIt, 3, none)
def MX11_lodgeNow : mM := (yX11_lodgeNow, cX11_lodgeNow, 3, (some .int))
def MX11_look : mM := (yX11_look, cX11_look, 8, (some .int))
def MX11_lyingIn : mM := (yX11_lyingIn, cX11_lyingIn, 4, (some .int))
def MX11_must : mM := (yX11_must, cX11_must, 2, none)
def MX11_next : mM := (yX11_next, cX11_next, 1, none)
def MX11_number : mM := (yX11_number, cX11_number, 6, (some .int))
def MX11_of : mM := (yX11_of, cX11_of, 3, (some .int))
def MX11_ones : mM := (yX11_ones, cX11_ones, 3, (some .int))
def MX11_openBracket : mM := (yX11_openBracket, cX11_openBracket, 2, none)
def MX11_orderPartAt : mM := (yX11_orderPartAt, cX11_orderPartAt, 3, (some .int))
def MX11_orders : mM := (yX11_orders, cX11_orders, 4, (some .int))
def MX11_outIn : mM := (yX11_outIn, cX11_outIn, 3, (some .int))
def MX11_packed : mM := (yX11_packed, cX11_packed, 7, (some .int))
def MX11_partAt : mM := (yX11_partAt, cX11_partAt, 3, (some .int))
def MX11_pass : mM := (yX11_pass, cX11_pass, 1, (some .int))
def MX11_passIt : mM := (yX11_passIt, cX11_passIt, 3, (some .int))
def MX11_passNow : mM := (yX11_passNow, cX11_passNow, 1, (some .int))
def MX11_pricedAt : mM := (yX11_pricedAt, cX11_pricedAt, 2, (some .int))
def MX11_push : mM := (yX11_push, cX11_push, 3, none)
def MX11_putBack : mM := (yX11_putBack, cX11_putBack, 3, none)
def MX11_readExpression : mM := (yX11_readExpression, cX11_readExpression, 3, none)
def MX11_readLaw : mM := (yX11_readLaw, cX11_readLaw, 4, none)
def MX11_readOrder : mM := (yX11_readOrder, cX11_readOrder, 4, none)
def MX11_readPart : mM := (yX11_readPart, cX11_readPart, 4, (some .int))
def MX11_readPlain : mM := (yX11_readPlain, cX11_readPlain, 1, (some .int))
def MX11_readSum : mM := (yX11_readSum, cX11_readSum, 2, none)
def MX11_reckon : mM := (yX11_reckon, cX11_reckon, 6, (some .long))
def MX11_reckonAll : mM := (yX11_reckonAll, cX11_reckonAll, 7, none)
def MX11_remember : mM := (yX11_remember, cX11_remember, 3, none)
def MX11_renew : mM := (yX11_renew, cX11_renew, 2, (some .int))
def MX11_renewIt : mM := (yX11_renewIt, cX11_renewIt, 4, (some .int))
def MX11_renewNow : mM := (yX11_renewNow, cX11_renewNow, 2, (some .int))
def MX11_rooms : mM := (yX11_rooms, cX11_rooms, 6, (some .int))
def MX11_row : mM := (yX11_row, cX11_row, 4, (some .int))
def MX11_run : mM := (yX11_run, cX11_run, 5, (some .int))
def MX11_seen : mM := (yX11_seen, cX11_seen, 4, (some .int))
def MX11_setDead : mM := (yX11_setDead, cX11_setDead, 3, none)
def MX11_settle : mM := (yX11_settle, cX11_settle, 2, none)
def MX11_settled : mM := (yX11_settled, cX11_settled, 2, (some .int))
def MX11_status : mM := (yX11_status, cX11_status, 1, (some .int))
def MX11_stopped : mM := (yX11_stopped, cX11_stopped, 1, (some .int))
def MX11_stranger : mM := (yX11_stranger, cX11_stranger, 1, (some .int))
def MX11_strangers : mM := (yX11_strangers, cX11_strangers, 5, (some .int))
def MX11_sumOf : mM := (yX11_sumOf, cX11_sumOf, 2, (some .int))
def MX11_tell : mM := (yX11_tell, cX11_tell, 2, (some .int))
def MX11_tells : mM := (yX11_tells, cX11_tells, 8, (some .long))
def MX11_terms : mM := (yX11_terms, cX11_terms, 4, (some .int))
def MX11_undo : mM := (yX11_undo, cX11_undo, 1, (some .int))
def MX11_vault : mM := (yX11_vault, cX11_vault, 4, (some .int))
def MX11_when : mM := (yX11_when, cX11_when, 9, (some .int))
def MX11_wish : mM := (yX11_wish, cX11_wish, 4, (some .int))
def MX11_within : mM := (yX11_within, cX11_within, 4, (some .int))
def MX11_wouldRather : mM := (yX11_wouldRather, cX11_wouldRather, 4, (some .boolean))
def MX1_draw : mM := (yX1_draw, cX1_draw, 2, (some .int))
def MX1_init : mM := (yX1_init, cX1_init, 1, none)
def MX2_addDead : mM := (yX2_addDead, cX2_addDead, 4, none)
def MX2_bill : mM := (yX2_bill, cX2_bill, 4, (some .int))
def MX2_copyFrom : mM := (yX2_copyFrom, cX2_copyFrom, 3, none)
def MX2_deadOf : mM := (yX2_deadOf, cX2_deadOf, 4, (some .int))
def MX2_earned : mM := (yX2_earned, cX2_earned, 2, (some .int))
def MX2_freeBeds : mM := (yX2_freeBeds, cX2_freeBeds, 2, (some .int))
def MX2_hasDead : mM := (yX2_hasDead, cX2_hasDead, 2, (some .boolean))
def MX2_hasFamily : mM := (yX2_hasFamily, cX2_hasFamily, 2, (some .boolean))
def MX2_hasLaw : mM := (yX2_hasLaw, cX2_hasLaw, 2, (some .boolean))
def MX2_hasVault : mM := (yX2_hasVault, cX2_hasVault, 2, (some .boolean))
def MX2_inAfter : mM := (yX2_inAfter, cX2_inAfter, 4, (some .int))
def MX2_inForce : mM := (yX2_inForce, cX2_inForce, 1, (some (.object "VaultLeases$Program")))
def MX2_init : mM := (yX2_init, cX2_init, 2, none)
def MX2_insideCount : mM := (yX2_insideCount, cX2_insideCount, 1, (some .int))
def MX2_isBarred : mM := (yX2_isBarred, cX2_isBarred, 3, (some .boolean))
def MX2_isIn : mM := (yX2_isIn, cX2_isIn, 2, (some .boolean))
def MX2_isOut : mM := (yX2_isOut, cX2_isOut, 2, (some .boolean))
def MX2_knockBy : mM := (yX2_knockBy, cX2_knockBy, 2, (some .int))
def MX2_lawAt : mM := (yX2_lawAt, cX2_lawAt, 2, (some (.object "VaultLeases$Program")))
def MX2_lodgeIn : mM := (yX2_lodgeIn, cX2_lodgeIn, 3, (some .int))
def MX2_lyingIn : mM := (yX2_lyingIn, cX2_lyingIn, 4, (some .int))
def MX2_passYear : mM := (yX2_passYear, cX2_passYear, 2, (some .int))
def MX2_pricedAfter : mM := (yX2_pricedAfter, cX2_pricedAfter, 3, (some .int))
def MX2_renewFor : mM := (yX2_renewFor, cX2_renewFor, 5, (some .int))
def MX2_strangers : mM := (yX2_strangers, cX2_strangers, 5, (some .int))
def MX2_told : mM := (yX2_told, cX2_told, 4, (some .int))
def MX2_whyNotDead : mM := (yX2_whyNotDead, cX2_whyNotDead, 4, (some .int))
def MX2_wishOf : mM := (yX2_wishOf, cX2_wishOf, 3, (some .int))
def MX3_clear : mM := (yX3_clear, cX3_clear, 1, none)
def MX3_commit : mM := (yX3_commit, cX3_commit, 1, none)
def MX3_copyFrom : mM := (yX3_copyFrom, cX3_copyFrom, 2, none)
def MX3_init : mM := (yX3_init, cX3_init, 1, none)
def MX3_prepare : mM := (yX3_prepare, cX3_prepare, 4, none)
def MX3_takeBack : mM := (yX3_takeBack, cX3_takeBack, 3, (some .int))
def MX4_allCanLie : mM := (yX4_allCanLie, cX4_allCanLie, 4, (some .boolean))
def MX4_bedsOf : mM := (yX4_bedsOf, cX4_bedsOf, 4, (some .int))
def MX4_bestLook : mM := (yX4_bestLook, cX4_bestLook, 10, (some .int))
def MX4_boundTo : mM := (yX4_boundTo, cX4_boundTo, 6, (some .int))
def MX4_cheapestYear : mM := (yX4_cheapestYear, cX4_cheapestYear, 8, (some .int))
def MX4_costOf : mM := (yX4_costOf, cX4_costOf, 5, (some .int))
def MX4_costOfAll : mM := (yX4_costOfAll, cX4_costOfAll, 4, (some .int))
def MX4_exchange : mM := (yX4_exchange, cX4_exchange, 6, (some .int))
def MX4_init : mM := (yX4_init, cX4_init, 1, none)
def MX4_kept : mM := (yX4_kept, cX4_kept, 12, (some .int))
def MX4_packing : mM := (yX4_packing, cX4_packing, 6, (some .int))
def MX4_vaultsOpenTo : mM := (yX4_vaultsOpenTo, cX4_vaultsOpenTo, 4, (some .int))
def MX4_wantsBedOf : mM := (yX4_wantsBedOf, cX4_wantsBedOf, 4, (some .boolean))
def MX5_add : mM := (yX5_add, cX5_add, 3, (some .int))
def MX5_aim : mM := (yX5_aim, cX5_aim, 2, none)
def MX5_clear : mM := (yX5_clear, cX5_clear, 1, none)
def MX5_init : mM := (yX5_init, cX5_init, 3, none)
def MX5_openClause : mM := (yX5_openClause, cX5_openClause, 2, none)
def MX5_part : mM := (yX5_part, cX5_part, 4, (some .int))
def MX5_set : mM := (yX5_set, cX5_set, 4, none)
def MX5_trimmed : mM := (yX5_trimmed, cX5_trimmed, 2, (some (.object "VaultLeases$Program")))
def MX6_clause : mM := (yX6_clause, cX6_clause, 2, none)
def MX6_init : mM := (yX6_init, cX6_init, 1, none)
def MX6_part : mM := (yX6_part, cX6_part, 4, none)
def MX6_plain : mM := (yX6_plain, cX6_plain, 3, none)
def MX6_readText : mM := (yX6_readText, cX6_readText, 6, (some .boolean))
def MX6_sortOf : mM := (yX6_sortOf, cX6_sortOf, 1, (some .int))
def MX6_spells : mM := (yX6_spells, cX6_spells, 7, (some .boolean))
def MX6_split : mM := (yX6_split, cX6_split, 8, none)
def MX6_stepOf : mM := (yX6_stepOf, cX6_stepOf, 1, (some .int))
def MX6_sum : mM := (yX6_sum, cX6_sum, 6, none)
def MX6_take : mM := (yX6_take, cX6_take, 2, none)
def MX6_test : mM := (yX6_test, cX6_test, 5, none)
def MX6_wordAt : mM := (yX6_wordAt, cX6_wordAt, 4, (some .int))
def MX7_addColumns : mM := (yX7_addColumns, cX7_addColumns, 4, none)
def MX7_init : mM := (yX7_init, cX7_init, 1, none)
def MX7_pair : mM := (yX7_pair, cX7_pair, 5, none)
def MX7_plan : mM := (yX7_plan, cX7_plan, 5, none)
def MX7_reachFrom : mM := (yX7_reachFrom, cX7_reachFrom, 11, (some .int))
def MX7_setColumns : mM := (yX7_setColumns, cX7_setColumns, 3, none)
def MX7_setCosts : mM := (yX7_setCosts, cX7_setCosts, 9, none)
def MX7_setRows : mM := (yX7_setRows, cX7_setRows, 5, none)
def MX8_init : mM := (yX8_init, cX8_init, 1, none)
def MX8_joined : mM := (yX8_joined, cX8_joined, 6, (some .int))
def MX8_needed : mM := (yX8_needed, cX8_needed, 1, (some .int))
def MX8_work : mM := (yX8_work, cX8_work, 12, (some .int))
def MX9_begin : mM := (yX9_begin, cX9_begin, 3, none)
def MX9_canDo : mM := (yX9_canDo, cX9_canDo, 7, (some .boolean))
def MX9_carryOut : mM := (yX9_carryOut, cX9_carryOut, 5, (some .int))
def MX9_init : mM := (yX9_init, cX9_init, 3, none)
def MX9_setWords : mM := (yX9_setWords, cX9_setWords, 2, none)
theorem fX0_11 : mFld RX0 11 = some (0, 1) := by decide +kernel
theorem fX0_15 : mFld RX0 15 = some (0, 0) := by decide +kernel
theorem fX0_25 : mFld RX0 25 = some (2, 3) := by decide +kernel
theorem fX0_32 : mFld RX0 32 = some (2, 5) := by decide +kernel
theorem fX0_38 : mFld RX0 38 = some (2, 1) := by decide +kernel
theorem fX0_45 : mFld RX0 45 = some (2, 9) := by decide +kernel
theorem fX0_51 : mFld RX0 51 = some (2, 2) := by decide +kernel
theorem fX0_54 : mFld RX0 54 = some (5, 3) := by decide +kernel
theorem fX0_70 : mFld RX0 70 = some (8, 1) := by decide +kernel
theorem fX1_7 : mFld RX1 7 = some (1, 0) := by decide +kernel
theorem fX10_10 : mFld RX10 10 = some (10, 0) := by decide +kernel
theorem fX10_101 : mFld RX10 101 = some (10, 8) := by decide +kernel
theorem fX10_109 : mFld RX10 109 = some (2, 11) := by decide +kernel
theorem fX10_112 : mFld RX10 112 = some (2, 1) := by decide +kernel
theorem fX10_131 : mFld RX10 131 = some (2, 12) := by decide +kernel
theorem fX10_134 : mFld RX10 134 = some (2, 2) := by decide +kernel
theorem fX10_157 : mFld RX10 157 = some (2, 13) := by decide +kernel
theorem fX10_163 : mFld RX10 163 = some (2, 3) := by decide +kernel
theorem fX10_166 : mFld RX10 166 = some (2, 4) := by decide +kernel
theorem fX10_169 : mFld RX10 169 = some (2, 5) := by decide +kernel
theorem fX10_172 : mFld RX10 172 = some (2, 14) := by decide +kernel
theorem fX10_19 : mFld RX10 19 = some (10, 1) := by decide +kernel
theorem fX10_191 : mFld RX10 191 = some (2, 6) := by decide +kernel
theorem fX10_194 : mSta RX10 194 = some 1 := by decide +kernel
theorem fX10_197 : mFld RX10 197 = some (2, 9) := by decide +kernel
theorem fX10_212 : mFld RX10 212 = some (2, 16) := by decide +kernel
theorem fX10_219 : mFld RX10 219 = some (6, 6) := by decide +kernel
theorem fX10_222 : mFld RX10 222 = some (2, 10) := by decide +kernel
theorem fX10_226 : mFld RX10 226 = some (6, 0) := by decide +kernel
theorem fX10_243 : mFld RX10 243 = some (9, 2) := by decide +kernel
theorem fX10_244 : mFld RX10 244 = some (9, 3) := by decide +kernel
theorem fX10_245 : mFld RX10 245 = some (9, 4) := by decide +kernel
theorem fX10_251 : mFld RX10 251 = some (2, 17) := by decide +kernel
theorem fX10_26 : mFld RX10 26 = some (10, 2) := by decide +kernel
theorem fX10_261 : mFld RX10 261 = some (3, 2) := by decide +kernel
theorem fX10_287 : mFld RX10 287 = some (2, 15) := by decide +kernel
theorem fX10_290 : mFld RX10 290 = some (2, 7) := by decide +kernel
theorem fX10_293 : mFld RX10 293 = some (2, 8) := by decide +kernel
theorem fX10_307 : mFld RX10 307 = some (7, 12) := by decide +kernel
theorem fX10_310 : mFld RX10 310 = some (7, 13) := by decide +kernel
theorem fX10_312 : mFld RX10 312 = some (7, 0) := by decide +kernel
theorem fX10_33 : mFld RX10 33 = some (10, 3) := by decide +kernel
theorem fX10_335 : mFld RX10 335 = some (1, 0) := by decide +kernel
theorem fX10_347 : mFld RX10 347 = some (2, 0) := by decide +kernel
theorem fX10_37 : mFld RX10 37 = some (10, 4) := by decide +kernel
theorem fX10_41 : mFld RX10 41 = some (10, 5) := by decide +kernel
theorem fX10_45 : mFld RX10 45 = some (10, 6) := by decide +kernel
theorem fX10_51 : mFld RX10 51 = some (10, 7) := by decide +kernel
theorem fX10_58 : mFld RX10 58 = some (10, 11) := by decide +kernel
theorem fX10_62 : mFld RX10 62 = some (10, 12) := by decide +kernel
theorem fX10_66 : mFld RX10 66 = some (10, 13) := by decide +kernel
theorem fX10_69 : mFld RX10 69 = some (10, 14) := by decide +kernel
theorem fX10_72 : mFld RX10 72 = some (10, 15) := by decide +kernel
theorem fX10_75 : mFld RX10 75 = some (10, 16) := by decide +kernel
theorem fX10_89 : mFld RX10 89 = some (10, 10) := by decide +kernel
theorem fX10_93 : mFld RX10 93 = some (10, 9) := by decide +kernel
theorem fX11_102 : mFld RX11 102 = some (11, 36) := by decide +kernel
theorem fX11_105 : mFld RX11 105 = some (11, 37) := by decide +kernel
theorem fX11_108 : mFld RX11 108 = some (11, 41) := by decide +kernel
theorem fX11_111 : mFld RX11 111 = some (11, 42) := by decide +kernel
theorem fX11_114 : mFld RX11 114 = some (11, 43) := by decide +kernel
theorem fX11_117 : mFld RX11 117 = some (11, 44) := by decide +kernel
theorem fX11_120 : mFld RX11 120 = some (11, 45) := by decide +kernel
theorem fX11_13 : mFld RX11 13 = some (11, 3) := by decide +kernel
theorem fX11_131 : mFld RX11 131 = some (11, 46) := by decide +kernel
theorem fX11_134 : mFld RX11 134 = some (11, 47) := by decide +kernel
theorem fX11_137 : mFld RX11 137 = some (11, 50) := by decide +kernel
theorem fX11_140 : mFld RX11 140 = some (11, 53) := by decide +kernel
theorem fX11_143 : mFld RX11 143 = some (11, 54) := by decide +kernel
theorem fX11_146 : mFld RX11 146 = some (11, 55) := by decide +kernel
theorem fX11_149 : mFld RX11 149 = some (11, 0) := by decide +kernel
theorem fX11_152 : mFld RX11 152 = some (11, 1) := by decide +kernel
theorem fX11_155 : mFld RX11 155 = some (11, 8) := by decide +kernel
theorem fX11_16 : mFld RX11 16 = some (11, 4) := by decide +kernel
theorem fX11_19 : mFld RX11 19 = some (11, 5) := by decide +kernel
theorem fX11_23 : mFld RX11 23 = some (11, 6) := by decide +kernel
theorem fX11_232 : mFld RX11 232 = some (11, 13) := by decide +kernel
theorem fX11_235 : mFld RX11 235 = some (11, 11) := by decide +kernel
theorem fX11_241 : mFld RX11 241 = some (11, 15) := by decide +kernel
theorem fX11_244 : mFld RX11 244 = some (11, 19) := by decide +kernel
theorem fX11_251 : mFld RX11 251 = some (11, 14) := by decide +kernel
theorem fX11_254 : mFld RX11 254 = some (11, 17) := by decide +kernel
theorem fX11_26 : mFld RX11 26 = some (11, 7) := by decide +kernel
theorem fX11_264 : mFld RX11 264 = some (11, 16) := by decide +kernel
theorem fX11_281 : mFld RX11 281 = some (11, 23) := by decide +kernel
theorem fX11_284 : mFld RX11 284 = some (11, 29) := by decide +kernel
theorem fX11_29 : mFld RX11 29 = some (11, 9) := by decide +kernel
theorem fX11_306 : mFld RX11 306 = some (11, 30) := by decide +kernel
theorem fX11_312 : mFld RX11 312 = some (11, 26) := by decide +kernel
theorem fX11_32 : mFld RX11 32 = some (11, 10) := by decide +kernel
theorem fX11_321 : mFld RX11 321 = some (11, 20) := by decide +kernel
theorem fX11_35 : mFld RX11 35 = some (11, 12) := by decide +kernel
theorem fX11_375 : mFld RX11 375 = some (11, 21) := by decide +kernel
theorem fX11_38 : mFld RX11 38 = some (11, 18) := by decide +kernel
theorem fX11_395 : mFld RX11 395 = some (11, 38) := by decide +kernel
theorem fX11_398 : mFld RX11 398 = some (11, 34) := by decide +kernel
theorem fX11_409 : mFld RX11 409 = some (11, 39) := by decide +kernel
theorem fX11_415 : mFld RX11 415 = some (11, 40) := by decide +kernel
theorem fX11_42 : mFld RX11 42 = some (11, 22) := by decide +kernel
theorem fX11_45 : mFld RX11 45 = some (11, 24) := by decide +kernel
theorem fX11_48 : mFld RX11 48 = some (11, 25) := by decide +kernel
theorem fX11_51 : mFld RX11 51 = some (11, 27) := by decide +kernel
theorem fX11_510 : mFld RX11 510 = some (11, 51) := by decide +kernel
theorem fX11_513 : mFld RX11 513 = some (11, 48) := by decide +kernel
theorem fX11_516 : mFld RX11 516 = some (11, 49) := by decide +kernel
theorem fX11_537 : mFld RX11 537 = some (11, 52) := by decide +kernel
theorem fX11_54 : mFld RX11 54 = some (11, 28) := by decide +kernel
theorem fX11_7 : mFld RX11 7 = some (11, 2) := by decide +kernel
theorem fX11_75 : mFld RX11 75 = some (11, 31) := by decide +kernel
theorem fX11_85 : mFld RX11 85 = some (11, 32) := by decide +kernel
theorem fX11_96 : mFld RX11 96 = some (11, 33) := by decide +kernel
theorem fX11_99 : mFld RX11 99 = some (11, 35) := by decide +kernel
theorem fX2_15 : mFld RX2 15 = some (2, 2) := by decide +kernel
theorem fX2_18 : mFld RX2 18 = some (2, 3) := by decide +kernel
theorem fX2_21 : mFld RX2 21 = some (2, 4) := by decide +kernel
theorem fX2_24 : mFld RX2 24 = some (2, 5) := by decide +kernel
theorem fX2_27 : mFld RX2 27 = some (2, 6) := by decide +kernel
theorem fX2_30 : mFld RX2 30 = some (2, 7) := by decide +kernel
theorem fX2_33 : mFld RX2 33 = some (2, 8) := by decide +kernel
theorem fX2_36 : mFld RX2 36 = some (2, 9) := by decide +kernel
theorem fX2_41 : mFld RX2 41 = some (2, 10) := by decide +kernel
theorem fX2_45 : mFld RX2 45 = some (2, 11) := by decide +kernel
theorem fX2_49 : mFld RX2 49 = some (2, 12) := by decide +kernel
theorem fX2_52 : mFld RX2 52 = some (2, 13) := by decide +kernel
theorem fX2_55 : mFld RX2 55 = some (2, 14) := by decide +kernel
theorem fX2_58 : mFld RX2 58 = some (2, 15) := by decide +kernel
theorem fX2_61 : mFld RX2 61 = some (2, 16) := by decide +kernel
theorem fX2_64 : mFld RX2 64 = some (2, 17) := by decide +kernel
theorem fX2_67 : mFld RX2 67 = some (2, 0) := by decide +kernel
theorem fX2_9 : mFld RX2 9 = some (2, 1) := by decide +kernel
theorem fX3_11 : mFld RX3 11 = some (3, 0) := by decide +kernel
theorem fX3_15 : mFld RX3 15 = some (3, 1) := by decide +kernel
theorem fX3_19 : mFld RX3 19 = some (3, 2) := by decide +kernel
theorem fX3_28 : mFld RX3 28 = some (2, 9) := by decide +kernel
theorem fX3_33 : mFld RX3 33 = some (2, 14) := by decide +kernel
theorem fX3_36 : mFld RX3 36 = some (2, 2) := by decide +kernel
theorem fX3_39 : mFld RX3 39 = some (2, 4) := by decide +kernel
theorem fX3_42 : mFld RX3 42 = some (2, 5) := by decide +kernel
theorem fX4_102 : mFld RX4 102 = some (2, 4) := by decide +kernel
theorem fX4_15 : mFld RX4 15 = some (4, 1) := by decide +kernel
theorem fX4_27 : mFld RX4 27 = some (2, 13) := by decide +kernel
theorem fX4_43 : mFld RX4 43 = some (2, 2) := by decide +kernel
theorem fX4_46 : mFld RX4 46 = some (2, 5) := by decide +kernel
theorem fX4_78 : mFld RX4 78 = some (2, 11) := by decide +kernel
theorem fX4_9 : mFld RX4 9 = some (4, 0) := by decide +kernel
theorem fX4_95 : mFld RX4 95 = some (2, 1) := by decide +kernel
theorem fX5_13 : mFld RX5 13 = some (5, 3) := by decide +kernel
theorem fX5_22 : mFld RX5 22 = some (5, 0) := by decide +kernel
theorem fX5_26 : mFld RX5 26 = some (5, 1) := by decide +kernel
theorem fX5_7 : mFld RX5 7 = some (5, 2) := by decide +kernel
theorem fX6_16 : mFld RX6 16 = some (6, 0) := by decide +kernel
theorem fX6_20 : mFld RX6 20 = some (6, 1) := by decide +kernel
theorem fX6_24 : mFld RX6 24 = some (6, 2) := by decide +kernel
theorem fX6_27 : mFld RX6 27 = some (6, 3) := by decide +kernel
theorem fX6_31 : mFld RX6 31 = some (6, 4) := by decide +kernel
theorem fX6_34 : mFld RX6 34 = some (6, 5) := by decide +kernel
theorem fX6_37 : mFld RX6 37 = some (6, 6) := by decide +kernel
theorem fX6_40 : mFld RX6 40 = some (6, 7) := by decide +kernel
theorem fX6_43 : mFld RX6 43 = some (6, 8) := by decide +kernel
theorem fX6_46 : mFld RX6 46 = some (6, 9) := by decide +kernel
theorem fX6_99 : mFld RX6 99 = some (5, 2) := by decide +kernel
theorem fX7_15 : mFld RX7 15 = some (7, 1) := by decide +kernel
theorem fX7_18 : mFld RX7 18 = some (7, 2) := by decide +kernel
theorem fX7_22 : mFld RX7 22 = some (7, 3) := by decide +kernel
theorem fX7_25 : mFld RX7 25 = some (7, 4) := by decide +kernel
theorem fX7_28 : mFld RX7 28 = some (7, 5) := by decide +kernel
theorem fX7_31 : mFld RX7 31 = some (7, 6) := by decide +kernel
theorem fX7_34 : mFld RX7 34 = some (7, 7) := by decide +kernel
theorem fX7_37 : mFld RX7 37 = some (7, 8) := by decide +kernel
theorem fX7_40 : mFld RX7 40 = some (7, 9) := by decide +kernel
theorem fX7_44 : mFld RX7 44 = some (7, 10) := by decide +kernel
theorem fX7_48 : mFld RX7 48 = some (7, 11) := by decide +kernel
theorem fX7_51 : mFld RX7 51 = some (7, 12) := by decide +kernel
theorem fX7_54 : mFld RX7 54 = some (7, 13) := by decide +kernel
theorem fX7_74 : mFld RX7 74 = some (2, 13) := by decide +kernel
theorem fX7_87 : mFld RX7 87 = some (2, 11) := by decide +kernel
theorem fX7_9 : mFld RX7 9 = some (7, 0) := by decide +kernel
theorem fX8_11 : mFld RX8 11 = some (8, 0) := by decide +kernel
theorem fX8_15 : mFld RX8 15 = some (8, 1) := by decide +kernel
theorem fX8_30 : mFld RX8 30 = some (5, 2) := by decide +kernel
theorem fX8_37 : mFld RX8 37 = some (5, 0) := by decide +kernel
theorem fX9_11 : mFld RX9 11 = some (9, 1) := by decide +kernel
theorem fX9_18 : mFld RX9 18 = some (9, 3) := by decide +kernel
theorem fX9_22 : mFld RX9 22 = some (9, 4) := by decide +kernel
theorem fX9_26 : mFld RX9 26 = some (9, 5) := by decide +kernel
theorem fX9_29 : mFld RX9 29 = some (9, 0) := by decide +kernel
theorem fX9_38 : mFld RX9 38 = some (9, 2) := by decide +kernel
theorem fX9_49 : mFld RX9 49 = some (5, 3) := by decide +kernel
theorem fX9_71 : mFld RX9 71 = some (8, 1) := by decide +kernel
theorem fX9_79 : mFld RX9 79 = some (2, 9) := by decide +kernel
theorem fX9_90 : mFld RX9 90 = some (2, 5) := by decide +kernel
theorem fX9_96 : mFld RX9 96 = some (2, 2) := by decide +kernel
theorem fX0_74 : mSta RX0 74 = some 2 := by decide +kernel
theorem fX0_77 : mSta RX0 77 = some 3 := by decide +kernel
theorem fX0_88 : mSta RX0 88 = some 4 := by decide +kernel
