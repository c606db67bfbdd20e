def lwG : List Cond := lw_tbl.filter goodWord
theorem lw_good : lwG.all goodWord = true := List.all_eq_true.mpr fun _ h => (List.mem_filter.mp h).2
theorem lwG_in : ∀ w ∈ lwG, w ∈ lw_tbl := fun _ h => (List.mem_filter.mp h).1
def isNest : Cond → Bool
  | .fieldLinkNest _ _ _ _ _ _ => true
  | .methodLinkNest _ _ _ _ => true
  | _ => false
def lwN : List Cond := lw_tbl.filter isNest
theorem lw_inN {w : Cond} {i : Nat} (h : lw_tbl[i]? = some w) (hg : isNest w = true) : w ∈ lwN := List.mem_filter.mpr ⟨List.mem_of_getElem? h, hg⟩
theorem lw_in {w : Cond} {i : Nat} (h : lw_tbl[i]? = some w) (hg : goodWord w = true) : w ∈ lwG := List.mem_filter.mpr ⟨List.mem_of_getElem? h, hg⟩
theorem ks_X5_refuse : Cond.selects RX5 yX5_refuse yX5_refuse ∈ lwG := lw_in (i := 0) (by decide +kernel) rfl
theorem ks_X3_holdRow : Cond.selects RX3 yX3_holdRow yX3_holdRow ∈ lwG := lw_in (i := 1) (by decide +kernel) rfl
theorem ks_X3_hasBarIn : Cond.selects RX3 yX3_hasBarIn yX3_hasBarIn ∈ lwG := lw_in (i := 2) (by decide +kernel) rfl
theorem ks_X3_heldBy : Cond.selects RX3 yX3_heldBy yX3_heldBy ∈ lwG := lw_in (i := 3) (by decide +kernel) rfl
theorem ks_X3_isFree : Cond.selects RX3 yX3_isFree yX3_isFree ∈ lwG := lw_in (i := 4) (by decide +kernel) rfl
theorem ks_X3_hasCells : Cond.selects RX3 yX3_hasCells yX3_hasCells ∈ lwG := lw_in (i := 5) (by decide +kernel) rfl
theorem ks_X3_hasRowIn : Cond.selects RX3 yX3_hasRowIn yX3_hasRowIn ∈ lwG := lw_in (i := 6) (by decide +kernel) rfl
theorem ks_X3_write : Cond.selects RX3 yX3_write yX3_write ∈ lwG := lw_in (i := 7) (by decide +kernel) rfl
theorem ks_X3_differ : Cond.selects RX3 yX3_differ yX3_differ ∈ lwG := lw_in (i := 8) (by decide +kernel) rfl
theorem ks_X3_carry : Cond.selects RX3 yX3_carry yX3_carry ∈ lwG := lw_in (i := 9) (by decide +kernel) rfl
theorem ks_X3_cell : Cond.selects RX3 yX3_cell yX3_cell ∈ lwG := lw_in (i := 10) (by decide +kernel) rfl
theorem ks_X0_hasBar : Cond.selects RX0 yX0_hasBar yX0_hasBar ∈ lwG := lw_in (i := 11) (by decide +kernel) rfl
theorem ks_X3_free : Cond.selects RX3 yX3_free yX3_free ∈ lwG := lw_in (i := 12) (by decide +kernel) rfl
theorem ks_X3_holdBar : Cond.selects RX3 yX3_holdBar yX3_holdBar ∈ lwG := lw_in (i := 13) (by decide +kernel) rfl
theorem ks_X3_barIn : Cond.selects RX3 yX3_barIn yX3_barIn ∈ lwG := lw_in (i := 14) (by decide +kernel) rfl
theorem ks_X0_kindOf : Cond.selects RX0 yX0_kindOf yX0_kindOf ∈ lwG := lw_in (i := 15) (by decide +kernel) rfl
theorem ks_X0_onOf : Cond.selects RX0 yX0_onOf yX0_onOf ∈ lwG := lw_in (i := 16) (by decide +kernel) rfl
theorem ks_X5_sayingOf : Cond.selects RX5 yX5_sayingOf yX5_sayingOf ∈ lwG := lw_in (i := 17) (by decide +kernel) rfl
theorem ks_X0_sizeOf : Cond.selects RX0 yX0_sizeOf yX0_sizeOf ∈ lwG := lw_in (i := 18) (by decide +kernel) rfl
theorem ks_X5_leadTo : Cond.selects RX5 yX5_leadTo yX5_leadTo ∈ lwG := lw_in (i := 19) (by decide +kernel) rfl
theorem ks_X5_study : Cond.selects RX5 yX5_study yX5_study ∈ lwG := lw_in (i := 20) (by decide +kernel) rfl
theorem ks_X1_take : Cond.selects RX1 yX1_take yX1_take ∈ lwG := lw_in (i := 21) (by decide +kernel) rfl
theorem ks_X1_takePlain : Cond.selects RX1 yX1_takePlain yX1_takePlain ∈ lwG := lw_in (i := 22) (by decide +kernel) rfl
theorem ks_X2_learn : Cond.selects RX2 yX2_learn yX2_learn ∈ lwG := lw_in (i := 23) (by decide +kernel) rfl
theorem ks_X1_legalIn : Cond.selects RX1 yX1_legalIn yX1_legalIn ∈ lwG := lw_in (i := 24) (by decide +kernel) rfl
theorem ks_X1_ringsByKind : Cond.selects RX1 yX1_ringsByKind yX1_ringsByKind ∈ lwG := lw_in (i := 25) (by decide +kernel) rfl
theorem ks_X1_afterRings : Cond.selects RX1 yX1_afterRings yX1_afterRings ∈ lwG := lw_in (i := 26) (by decide +kernel) rfl
theorem ks_X1_toldRings : Cond.selects RX1 yX1_toldRings yX1_toldRings ∈ lwG := lw_in (i := 27) (by decide +kernel) rfl
theorem ks_X1_bothMayGo : Cond.selects RX1 yX1_bothMayGo yX1_bothMayGo ∈ lwG := lw_in (i := 28) (by decide +kernel) rfl
theorem ks_X2_spreadAnew : Cond.selects RX2 yX2_spreadAnew yX2_spreadAnew ∈ lwG := lw_in (i := 29) (by decide +kernel) rfl
theorem ks_X2_forget : Cond.selects RX2 yX2_forget yX2_forget ∈ lwG := lw_in (i := 30) (by decide +kernel) rfl
theorem ks_X2_spread : Cond.selects RX2 yX2_spread yX2_spread ∈ lwG := lw_in (i := 31) (by decide +kernel) rfl
theorem ks_X2_note : Cond.selects RX2 yX2_note yX2_note ∈ lwG := lw_in (i := 32) (by decide +kernel) rfl
theorem ks_X2_isSet : Cond.selects RX2 yX2_isSet yX2_isSet ∈ lwG := lw_in (i := 33) (by decide +kernel) rfl
theorem ks_X2_foundAt : Cond.selects RX2 yX2_foundAt yX2_foundAt ∈ lwG := lw_in (i := 34) (by decide +kernel) rfl
theorem ks_X2_farOf : Cond.selects RX2 yX2_farOf yX2_farOf ∈ lwG := lw_in (i := 35) (by decide +kernel) rfl
theorem ks_X2_moveOf : Cond.selects RX2 yX2_moveOf yX2_moveOf ∈ lwG := lw_in (i := 36) (by decide +kernel) rfl
theorem ks_X2_isOpen : Cond.selects RX2 yX2_isOpen yX2_isOpen ∈ lwG := lw_in (i := 37) (by decide +kernel) rfl
theorem ks_X2_legalAt : Cond.selects RX2 yX2_legalAt yX2_legalAt ∈ lwG := lw_in (i := 38) (by decide +kernel) rfl
theorem ks_X5_legalNow : Cond.selects RX5 yX5_legalNow yX5_legalNow ∈ lwG := lw_in (i := 39) (by decide +kernel) rfl
theorem ks_X0_tabledRings : Cond.selects RX0 yX0_tabledRings yX0_tabledRings ∈ lwG := lw_in (i := 40) (by decide +kernel) rfl
theorem ks_X0_mustOf : Cond.selects RX0 yX0_mustOf yX0_mustOf ∈ lwG := lw_in (i := 41) (by decide +kernel) rfl
theorem ks_X0_hasRing : Cond.selects RX0 yX0_hasRing yX0_hasRing ∈ lwG := lw_in (i := 42) (by decide +kernel) rfl
theorem ks_X0_notOf : Cond.selects RX0 yX0_notOf yX0_notOf ∈ lwG := lw_in (i := 43) (by decide +kernel) rfl
theorem ks_X0_hasMostBars : Cond.selects RX0 yX0_hasMostBars yX0_hasMostBars ∈ lwG := lw_in (i := 44) (by decide +kernel) rfl
theorem ks_X0_addBar : Cond.selects RX0 yX0_addBar yX0_addBar ∈ lwG := lw_in (i := 45) (by decide +kernel) rfl
theorem ks_X0_hasSet : Cond.selects RX0 yX0_hasSet yX0_hasSet ∈ lwG := lw_in (i := 46) (by decide +kernel) rfl
theorem ks_X0_turnOn : Cond.selects RX0 yX0_turnOn yX0_turnOn ∈ lwG := lw_in (i := 47) (by decide +kernel) rfl
theorem ks_X0_stuckOf : Cond.selects RX0 yX0_stuckOf yX0_stuckOf ∈ lwG := lw_in (i := 48) (by decide +kernel) rfl
theorem ks_X0_fasten : Cond.selects RX0 yX0_fasten yX0_fasten ∈ lwG := lw_in (i := 49) (by decide +kernel) rfl
theorem ks_X0_tell : Cond.selects RX0 yX0_tell yX0_tell ∈ lwG := lw_in (i := 50) (by decide +kernel) rfl
theorem ks_X0_minutesOf : Cond.selects RX0 yX0_minutesOf yX0_minutesOf ∈ lwG := lw_in (i := 51) (by decide +kernel) rfl
theorem ks_X0_setMinutes : Cond.selects RX0 yX0_setMinutes yX0_setMinutes ∈ lwG := lw_in (i := 52) (by decide +kernel) rfl
theorem ks_X4_isFull : Cond.selects RX4 yX4_isFull yX4_isFull ∈ lwG := lw_in (i := 53) (by decide +kernel) rfl
theorem ks_X4_append : Cond.selects RX4 yX4_append yX4_append ∈ lwG := lw_in (i := 54) (by decide +kernel) rfl
theorem ks_X4_clear : Cond.selects RX4 yX4_clear yX4_clear ∈ lwG := lw_in (i := 55) (by decide +kernel) rfl
theorem ks_X0_become : Cond.selects RX0 yX0_become yX0_become ∈ lwG := lw_in (i := 56) (by decide +kernel) rfl
theorem ks_X4_readInto : Cond.selects RX4 yX4_readInto yX4_readInto ∈ lwG := lw_in (i := 57) (by decide +kernel) rfl
theorem ks_X4_readStatement : Cond.selects RX4 yX4_readStatement yX4_readStatement ∈ lwG := lw_in (i := 58) (by decide +kernel) rfl
theorem ks_X4_readToken : Cond.selects RX4 yX4_readToken yX4_readToken ∈ lwG := lw_in (i := 59) (by decide +kernel) rfl
theorem ks_X4_byteAt : Cond.selects RX4 yX4_byteAt yX4_byteAt ∈ lwG := lw_in (i := 60) (by decide +kernel) rfl
theorem ks_X4_isWord : Cond.selects RX4 yX4_isWord yX4_isWord ∈ lwG := lw_in (i := 61) (by decide +kernel) rfl
theorem ks_X4_readBar : Cond.selects RX4 yX4_readBar yX4_readBar ∈ lwG := lw_in (i := 62) (by decide +kernel) rfl
theorem ks_X4_readNumber : Cond.selects RX4 yX4_readNumber yX4_readNumber ∈ lwG := lw_in (i := 63) (by decide +kernel) rfl
theorem ks_X4_readStuck : Cond.selects RX4 yX4_readStuck yX4_readStuck ∈ lwG := lw_in (i := 64) (by decide +kernel) rfl
theorem ks_X4_readTable : Cond.selects RX4 yX4_readTable yX4_readTable ∈ lwG := lw_in (i := 65) (by decide +kernel) rfl
theorem ks_X4_readMinutes : Cond.selects RX4 yX4_readMinutes yX4_readMinutes ∈ lwG := lw_in (i := 66) (by decide +kernel) rfl
theorem ks_X4_readMove : Cond.selects RX4 yX4_readMove yX4_readMove ∈ lwG := lw_in (i := 67) (by decide +kernel) rfl
theorem ks_X0_makeMove : Cond.selects RX0 yX0_makeMove yX0_makeMove ∈ lwG := lw_in (i := 68) (by decide +kernel) rfl
theorem ks_X0_hasMove : Cond.selects RX0 yX0_hasMove yX0_hasMove ∈ lwG := lw_in (i := 69) (by decide +kernel) rfl
theorem ks_X2_nextMove : Cond.selects RX2 yX2_nextMove yX2_nextMove ∈ lwG := lw_in (i := 70) (by decide +kernel) rfl
theorem ks_X2_mayGo : Cond.selects RX2 yX2_mayGo yX2_mayGo ∈ lwG := lw_in (i := 71) (by decide +kernel) rfl
theorem ks_X5_spreadFromNow : Cond.selects RX5 yX5_spreadFromNow yX5_spreadFromNow ∈ lwG := lw_in (i := 72) (by decide +kernel) rfl
theorem ks_X2_farthestSet : Cond.selects RX2 yX2_farthestSet yX2_farthestSet ∈ lwG := lw_in (i := 73) (by decide +kernel) rfl
theorem ks_X2_shapeOfFound : Cond.selects RX2 yX2_shapeOfFound yX2_shapeOfFound ∈ lwG := lw_in (i := 74) (by decide +kernel) rfl
theorem ks_X2_pairsOf : Cond.selects RX2 yX2_pairsOf yX2_pairsOf ∈ lwG := lw_in (i := 75) (by decide +kernel) rfl
theorem ks_X2_countParts : Cond.selects RX2 yX2_countParts yX2_countParts ∈ lwG := lw_in (i := 76) (by decide +kernel) rfl
theorem ks_X2_greatestFewest : Cond.selects RX2 yX2_greatestFewest yX2_greatestFewest ∈ lwG := lw_in (i := 77) (by decide +kernel) rfl
theorem ks_X2_movableRings : Cond.selects RX2 yX2_movableRings yX2_movableRings ∈ lwG := lw_in (i := 78) (by decide +kernel) rfl
theorem ks_X2_countEnds : Cond.selects RX2 yX2_countEnds yX2_countEnds ∈ lwG := lw_in (i := 79) (by decide +kernel) rfl
theorem ks_X2_soonestMoveOf : Cond.selects RX2 yX2_soonestMoveOf yX2_soonestMoveOf ∈ lwG := lw_in (i := 80) (by decide +kernel) rfl
theorem ks_X2_chanceOf : Cond.selects RX2 yX2_chanceOf yX2_chanceOf ∈ lwG := lw_in (i := 81) (by decide +kernel) rfl
theorem ks_X2_share : Cond.selects RX2 yX2_share yX2_share ∈ lwG := lw_in (i := 82) (by decide +kernel) rfl
theorem ks_X2_addPart : Cond.selects RX2 yX2_addPart yX2_addPart ∈ lwG := lw_in (i := 83) (by decide +kernel) rfl
theorem ks_X0_minutesOfMove : Cond.selects RX0 yX0_minutesOfMove yX0_minutesOfMove ∈ lwG := lw_in (i := 84) (by decide +kernel) rfl
theorem ks_X0_minutesOfChain : Cond.selects RX0 yX0_minutesOfChain yX0_minutesOfChain ∈ lwG := lw_in (i := 85) (by decide +kernel) rfl
theorem ks_X5_whyNoPictures : Cond.selects RX5 yX5_whyNoPictures yX5_whyNoPictures ∈ lwG := lw_in (i := 86) (by decide +kernel) rfl
theorem ks_X5_whyNoRow : Cond.selects RX5 yX5_whyNoRow yX5_whyNoRow ∈ lwG := lw_in (i := 87) (by decide +kernel) rfl
theorem ks_X5_stepsToPicture : Cond.selects RX5 yX5_stepsToPicture yX5_stepsToPicture ∈ lwG := lw_in (i := 88) (by decide +kernel) rfl
theorem ks_X5_pictureAhead : Cond.selects RX5 yX5_pictureAhead yX5_pictureAhead ∈ lwG := lw_in (i := 89) (by decide +kernel) rfl
theorem ks_X5_brokenPicture : Cond.selects RX5 yX5_brokenPicture yX5_brokenPicture ∈ lwG := lw_in (i := 90) (by decide +kernel) rfl
theorem ks_X5_whyNoMoves : Cond.selects RX5 yX5_whyNoMoves yX5_whyNoMoves ∈ lwG := lw_in (i := 91) (by decide +kernel) rfl
theorem ks_X5_judgedMove : Cond.selects RX5 yX5_judgedMove yX5_judgedMove ∈ lwG := lw_in (i := 92) (by decide +kernel) rfl
theorem ks_X5_whyNotMade : Cond.selects RX5 yX5_whyNotMade yX5_whyNotMade ∈ lwG := lw_in (i := 93) (by decide +kernel) rfl
theorem ks_X5_onBehind : Cond.selects RX5 yX5_onBehind yX5_onBehind ∈ lwG := lw_in (i := 94) (by decide +kernel) rfl
theorem ks_X0_draw : Cond.selects RX0 yX0_draw yX0_draw ∈ lwG := lw_in (i := 95) (by decide +kernel) rfl
theorem ks_X3_freeBarsFrom : Cond.selects RX3 yX3_freeBarsFrom yX3_freeBarsFrom ∈ lwG := lw_in (i := 96) (by decide +kernel) rfl
theorem ks_X0_ringsOn : Cond.selects RX0 yX0_ringsOn yX0_ringsOn ∈ lwG := lw_in (i := 97) (by decide +kernel) rfl
theorem ks_X0_ringsStuck : Cond.selects RX0 yX0_ringsStuck yX0_ringsStuck ∈ lwG := lw_in (i := 98) (by decide +kernel) rfl
theorem ks_X0_allMinutes : Cond.selects RX0 yX0_allMinutes yX0_allMinutes ∈ lwG := lw_in (i := 99) (by decide +kernel) rfl
theorem ks_X3_countHeld : Cond.selects RX3 yX3_countHeld yX3_countHeld ∈ lwG := lw_in (i := 100) (by decide +kernel) rfl
theorem ks_X6_refuse : Cond.selects RX6 yX6_refuse yX6_refuse ∈ lwG := lw_in (i := 101) (by decide +kernel) rfl
theorem ks_X6_noRow : Cond.selects RX6 yX6_noRow yX6_noRow ∈ lwG := lw_in (i := 102) (by decide +kernel) rfl
theorem ks_X6_isBar : Cond.selects RX6 yX6_isBar yX6_isBar ∈ lwG := lw_in (i := 103) (by decide +kernel) rfl
theorem ks_X6_fewestTo : Cond.selects RX6 yX6_fewestTo yX6_fewestTo ∈ lwG := lw_in (i := 104) (by decide +kernel) rfl
theorem ks_X6_findFar : Cond.selects RX6 yX6_findFar yX6_findFar ∈ lwG := lw_in (i := 105) (by decide +kernel) rfl
theorem ks_X6_all : Cond.selects RX6 yX6_all yX6_all ∈ lwG := lw_in (i := 106) (by decide +kernel) rfl
theorem ks_X6_isMove : Cond.selects RX6 yX6_isMove yX6_isMove ∈ lwG := lw_in (i := 107) (by decide +kernel) rfl
theorem ks_X6_isRing : Cond.selects RX6 yX6_isRing yX6_isRing ∈ lwG := lw_in (i := 108) (by decide +kernel) rfl
theorem ks_X6_mayAt : Cond.selects RX6 yX6_mayAt yX6_mayAt ∈ lwG := lw_in (i := 109) (by decide +kernel) rfl
theorem ks_X6_addBar : Cond.selects RX6 yX6_addBar yX6_addBar ∈ lwG := lw_in (i := 110) (by decide +kernel) rfl
theorem ks_X6_isSet : Cond.selects RX6 yX6_isSet yX6_isSet ∈ lwG := lw_in (i := 111) (by decide +kernel) rfl
theorem ks_X6_takeFrom : Cond.selects RX6 yX6_takeFrom yX6_takeFrom ∈ lwG := lw_in (i := 112) (by decide +kernel) rfl
theorem ks_X6_readAll : Cond.selects RX6 yX6_readAll yX6_readAll ∈ lwG := lw_in (i := 113) (by decide +kernel) rfl
theorem ks_X6_look : Cond.selects RX6 yX6_look yX6_look ∈ lwG := lw_in (i := 114) (by decide +kernel) rfl
theorem ks_X6_statement : Cond.selects RX6 yX6_statement yX6_statement ∈ lwG := lw_in (i := 115) (by decide +kernel) rfl
theorem ks_X6_isWord : Cond.selects RX6 yX6_isWord yX6_isWord ∈ lwG := lw_in (i := 116) (by decide +kernel) rfl
theorem ks_X6_barTold : Cond.selects RX6 yX6_barTold yX6_barTold ∈ lwG := lw_in (i := 117) (by decide +kernel) rfl
theorem ks_X6_tells : Cond.selects RX6 yX6_tells yX6_tells ∈ lwG := lw_in (i := 118) (by decide +kernel) rfl
theorem ks_X6_number : Cond.selects RX6 yX6_number yX6_number ∈ lwG := lw_in (i := 119) (by decide +kernel) rfl
theorem ks_X6_wrong : Cond.selects RX6 yX6_wrong yX6_wrong ∈ lwG := lw_in (i := 120) (by decide +kernel) rfl
theorem ks_X6_tableTold : Cond.selects RX6 yX6_tableTold yX6_tableTold ∈ lwG := lw_in (i := 121) (by decide +kernel) rfl
theorem ks_X6_moveTold : Cond.selects RX6 yX6_moveTold yX6_moveTold ∈ lwG := lw_in (i := 122) (by decide +kernel) rfl
theorem ks_X6_makes : Cond.selects RX6 yX6_makes yX6_makes ∈ lwG := lw_in (i := 123) (by decide +kernel) rfl
theorem ks_X6_nextMove : Cond.selects RX6 yX6_nextMove yX6_nextMove ∈ lwG := lw_in (i := 124) (by decide +kernel) rfl
theorem ks_X6_arePair : Cond.selects RX6 yX6_arePair yX6_arePair ∈ lwG := lw_in (i := 125) (by decide +kernel) rfl
theorem ks_X6_lone : Cond.selects RX6 yX6_lone yX6_lone ∈ lwG := lw_in (i := 126) (by decide +kernel) rfl
theorem ks_X6_timeTo : Cond.selects RX6 yX6_timeTo yX6_timeTo ∈ lwG := lw_in (i := 127) (by decide +kernel) rfl
theorem ks_X6_minutesOf : Cond.selects RX6 yX6_minutesOf yX6_minutesOf ∈ lwG := lw_in (i := 128) (by decide +kernel) rfl
theorem ks_X6_goesOn : Cond.selects RX6 yX6_goesOn yX6_goesOn ∈ lwG := lw_in (i := 129) (by decide +kernel) rfl
theorem ks_X6_noPictures : Cond.selects RX6 yX6_noPictures yX6_noPictures ∈ lwG := lw_in (i := 130) (by decide +kernel) rfl
theorem ks_X6_brokenIn : Cond.selects RX6 yX6_brokenIn yX6_brokenIn ∈ lwG := lw_in (i := 131) (by decide +kernel) rfl
theorem ks_X6_noMoves : Cond.selects RX6 yX6_noMoves yX6_noMoves ∈ lwG := lw_in (i := 132) (by decide +kernel) rfl
theorem ks_X6_wrongIn : Cond.selects RX6 yX6_wrongIn yX6_wrongIn ∈ lwG := lw_in (i := 133) (by decide +kernel) rfl
theorem ks_X6_winning : Cond.selects RX6 yX6_winning yX6_winning ∈ lwG := lw_in (i := 134) (by decide +kernel) rfl
theorem ks_X6_below : Cond.selects RX6 yX6_below yX6_below ∈ lwG := lw_in (i := 135) (by decide +kernel) rfl
theorem ks_X6_shelvesFollow : Cond.selects RX6 yX6_shelvesFollow yX6_shelvesFollow ∈ lwG := lw_in (i := 136) (by decide +kernel) rfl
theorem kn_RingsOffLaw : Cond.initialized "RingsOffLaw" ∈ lwG := lw_in (i := 137) (by decide +kernel) rfl
theorem kn_RingsOff : Cond.initialized "RingsOff" ∈ lwG := lw_in (i := 138) (by decide +kernel) rfl
theorem kn_RingsOff_Evening : Cond.initialized "RingsOff$Evening" ∈ lwG := lw_in (i := 139) (by decide +kernel) rfl
theorem kn_java_util_Arrays : Cond.initialized "java/util/Arrays" ∈ lwG := lw_in (i := 140) (by decide +kernel) rfl
theorem kn_RingsOff_Shelves : Cond.initialized "RingsOff$Shelves" ∈ lwG := lw_in (i := 141) (by decide +kernel) rfl
theorem kn_RingsOff_Tape : Cond.initialized "RingsOff$Tape" ∈ lwG := lw_in (i := 142) (by decide +kernel) rfl
theorem kn_RingsOff_Law : Cond.initialized "RingsOff$Law" ∈ lwG := lw_in (i := 143) (by decide +kernel) rfl
theorem kn_RingsOff_Search : Cond.initialized "RingsOff$Search" ∈ lwG := lw_in (i := 144) (by decide +kernel) rfl
theorem kn_RingsOffModel : Cond.initialized "RingsOffModel" ∈ lwG := lw_in (i := 145) (by decide +kernel) rfl
theorem kn_java_lang_System : Cond.initialized "java/lang/System" ∈ lwG := lw_in (i := 146) (by decide +kernel) rfl
theorem kn_java_lang_Math : Cond.initialized "java/lang/Math" ∈ lwG := lw_in (i := 147) (by decide +kernel) rfl
theorem kn_java_lang_Number : Cond.initialized "java/lang/Number" ∈ lwG := lw_in (i := 148) (by decide +kernel) rfl
theorem kn_java_lang_Integer : Cond.initialized "java/lang/Integer" ∈ lwG := lw_in (i := 149) (by decide +kernel) rfl
theorem kn_java_lang_String : Cond.initialized "java/lang/String" ∈ lwG := lw_in (i := 150) (by decide +kernel) rfl
theorem kn_java_lang_StringLatin1 : Cond.initialized "java/lang/StringLatin1" ∈ lwG := lw_in (i := 151) (by decide +kernel) rfl
theorem kn_jdk_internal_util_Preconditions : Cond.initialized "jdk/internal/util/Preconditions" ∈ lwG := lw_in (i := 152) (by decide +kernel) rfl
theorem kn_java_lang_StringUTF16 : Cond.initialized "java/lang/StringUTF16" ∈ lwG := lw_in (i := 153) (by decide +kernel) rfl
theorem kl_L_7 : Cond.classLink RL 7 "RingsOff" ∈ lwG := lw_in (i := 154) (by decide +kernel) rfl
theorem kz_X5 : Cond.instantiable RX5 9 ∈ lwG := lw_in (i := 155) (by decide +kernel) rfl
theorem km_L_9 : Cond.methodLink RL 9 yX5_init ∈ lwG := lw_in (i := 156) (by decide +kernel) rfl
theorem ki_X5_init : Cond.instanceMethod yX5_init ∈ lwG := lw_in (i := 157) (by decide +kernel) rfl
theorem kc_X5_init : Cond.code yX5_init cX5_init 1 (none : Option Jvm.ClassFile.FieldType) ∈ lwG := lw_in (i := 158) (by decide +kernel) rfl
theorem km_X5_3 : Cond.methodLink RX5 3 Lib.objectInit ∈ lwG := lw_in (i := 159) (by decide +kernel) rfl
theorem ki_obj : Cond.instanceMethod Lib.objectInit ∈ lwG := lw_in (i := 160) (by decide +kernel) rfl
theorem kc_obj : Cond.code Lib.objectInit ⟨#[0xb1]⟩ 1 none ∈ lwG := lw_in (i := 161) (by decide +kernel) rfl
theorem kl_X5_9 : Cond.classLink RX5 9 "RingsOff$Evening" ∈ lwG := lw_in (i := 162) (by decide +kernel) rfl
theorem kz_X0 : Cond.instantiable RX0 10 ∈ lwG := lw_in (i := 163) (by decide +kernel) rfl
theorem km_X5_11 : Cond.methodLinkNest RX5 11 yX0_init "RingsOff" ∈ lwN := lw_inN (i := 164) (by decide +kernel) rfl
theorem ki_X0_init : Cond.instanceMethod yX0_init ∈ lwG := lw_in (i := 165) (by decide +kernel) rfl
theorem kc_X0_init : Cond.code yX0_init cX0_init 1 (none : Option Jvm.ClassFile.FieldType) ∈ lwG := lw_in (i := 166) (by decide +kernel) rfl
theorem km_X0_3 : Cond.methodLink RX0 3 Lib.objectInit ∈ lwG := lw_in (i := 167) (by decide +kernel) rfl
theorem km_X0_43 : Cond.methodLink RX0 43 yJ7_fill_53178 ∈ lwG := lw_in (i := 168) (by decide +kernel) rfl
theorem kt_J7_fill_53178 : Cond.static yJ7_fill_53178 ∈ lwG := lw_in (i := 169) (by decide +kernel) rfl
theorem kc_J7_fill_53178 : Cond.code yJ7_fill_53178 cJ7_fill_53178 4 (none : Option Jvm.ClassFile.FieldType) ∈ lwG := lw_in (i := 170) (by decide +kernel) rfl
theorem kf_X0_9 : Cond.fieldLink RX0 9 "RingsOff$Evening" "kinds" "[I" ∈ lwG := lw_in (i := 171) (by decide +kernel) rfl
theorem kf_X1_34 : Cond.fieldLinkNest RX1 34 "RingsOff$Evening" "kinds" "[I" "RingsOff" ∈ lwN := lw_inN (i := 172) (by decide +kernel) rfl
theorem kf_X0_15 : Cond.fieldLink RX0 15 "RingsOff$Evening" "sizes" "[I" ∈ lwG := lw_in (i := 173) (by decide +kernel) rfl
theorem kf_X1_37 : Cond.fieldLinkNest RX1 37 "RingsOff$Evening" "sizes" "[I" "RingsOff" ∈ lwN := lw_inN (i := 174) (by decide +kernel) rfl
theorem kf_X0_18 : Cond.fieldLink RX0 18 "RingsOff$Evening" "ons" "[I" ∈ lwG := lw_in (i := 175) (by decide +kernel) rfl
theorem kf_X0_21 : Cond.fieldLink RX0 21 "RingsOff$Evening" "stucks" "[I" ∈ lwG := lw_in (i := 176) (by decide +kernel) rfl
theorem kf_X1_44 : Cond.fieldLinkNest RX1 44 "RingsOff$Evening" "stucks" "[I" "RingsOff" ∈ lwN := lw_inN (i := 177) (by decide +kernel) rfl
theorem kf_X0_24 : Cond.fieldLink RX0 24 "RingsOff$Evening" "musts" "[I" ∈ lwG := lw_in (i := 178) (by decide +kernel) rfl
theorem kf_X1_47 : Cond.fieldLinkNest RX1 47 "RingsOff$Evening" "musts" "[I" "RingsOff" ∈ lwN := lw_inN (i := 179) (by decide +kernel) rfl
theorem kf_X0_27 : Cond.fieldLink RX0 27 "RingsOff$Evening" "nots" "[I" ∈ lwG := lw_in (i := 180) (by decide +kernel) rfl
theorem kf_X1_54 : Cond.fieldLinkNest RX1 54 "RingsOff$Evening" "nots" "[I" "RingsOff" ∈ lwN := lw_inN (i := 181) (by decide +kernel) rfl
theorem kf_X0_30 : Cond.fieldLink RX0 30 "RingsOff$Evening" "ringMinutes" "[I" ∈ lwG := lw_in (i := 182) (by decide +kernel) rfl
theorem kf_X0_33 : Cond.fieldLink RX0 33 "RingsOff$Evening" "bars" "I" ∈ lwG := lw_in (i := 183) (by decide +kernel) rfl
theorem kf_X5_343 : Cond.fieldLinkNest RX5 343 "RingsOff$Evening" "bars" "I" "RingsOff" ∈ lwN := lw_inN (i := 184) (by decide +kernel) rfl
theorem kf_X0_37 : Cond.fieldLink RX0 37 "RingsOff$Evening" "moved" "I" ∈ lwG := lw_in (i := 185) (by decide +kernel) rfl
theorem kf_X5_358 : Cond.fieldLinkNest RX5 358 "RingsOff$Evening" "moved" "I" "RingsOff" ∈ lwN := lw_inN (i := 186) (by decide +kernel) rfl
theorem kf_X0_40 : Cond.fieldLink RX0 40 "RingsOff$Evening" "seed" "I" ∈ lwG := lw_in (i := 187) (by decide +kernel) rfl
theorem kf_X5_349 : Cond.fieldLinkNest RX5 349 "RingsOff$Evening" "seed" "I" "RingsOff" ∈ lwN := lw_inN (i := 188) (by decide +kernel) rfl
theorem ka_int : Cond.arrayClass FieldType.int ∈ lwG := lw_in (i := 210) (by decide +kernel) rfl
theorem kl_X5_22 : Cond.classLink RX5 22 "RingsOff$Shelves" ∈ lwG := lw_in (i := 211) (by decide +kernel) rfl
theorem kz_X3 : Cond.instantiable RX3 3 ∈ lwG := lw_in (i := 212) (by decide +kernel) rfl
theorem km_X5_24 : Cond.methodLinkNest RX5 24 yX3_init "RingsOff" ∈ lwN := lw_inN (i := 213) (by decide +kernel) rfl
theorem ki_X3_init : Cond.instanceMethod yX3_init ∈ lwG := lw_in (i := 214) (by decide +kernel) rfl
theorem kc_X3_init : Cond.code yX3_init cX3_init 1 (none : Option Jvm.ClassFile.FieldType) ∈ lwG := lw_in (i := 215) (by decide +kernel) rfl
theorem km_X3_3 : Cond.methodLink RX3 3 Lib.objectInit ∈ lwG := lw_in (i := 216) (by decide +kernel) rfl
theorem km_X3_22 : Cond.methodLink RX3 22 yJ7_fill_53178 ∈ lwG := lw_in (i := 217) (by decide +kernel) rfl
theorem kf_X3_11 : Cond.fieldLink RX3 11 "RingsOff$Shelves" "held" "[I" ∈ lwG := lw_in (i := 218) (by decide +kernel) rfl
theorem kf_X3_15 : Cond.fieldLink RX3 15 "RingsOff$Shelves" "lengths" "[I" ∈ lwG := lw_in (i := 219) (by decide +kernel) rfl
theorem kf_X3_18 : Cond.fieldLink RX3 18 "RingsOff$Shelves" "cells" "[J" ∈ lwG := lw_in (i := 220) (by decide +kernel) rfl
theorem ka_long : Cond.arrayClass FieldType.long ∈ lwG := lw_in (i := 228) (by decide +kernel) rfl
theorem kl_X5_29 : Cond.classLink RX5 29 "RingsOff$Tape" ∈ lwG := lw_in (i := 229) (by decide +kernel) rfl
theorem kz_X4 : Cond.instantiable RX4 6 ∈ lwG := lw_in (i := 230) (by decide +kernel) rfl
theorem km_X5_31 : Cond.methodLinkNest RX5 31 yX4_init "RingsOff" ∈ lwN := lw_inN (i := 231) (by decide +kernel) rfl
theorem ki_X4_init : Cond.instanceMethod yX4_init ∈ lwG := lw_in (i := 232) (by decide +kernel) rfl
theorem kc_X4_init : Cond.code yX4_init cX4_init 1 (none : Option Jvm.ClassFile.FieldType) ∈ lwG := lw_in (i := 233) (by decide +kernel) rfl
theorem km_X4_3 : Cond.methodLink RX4 3 Lib.objectInit ∈ lwG := lw_in (i := 234) (by decide +kernel) rfl
theorem kf_X4_11 : Cond.fieldLink RX4 11 "RingsOff$Tape" "bytes" "[I" ∈ lwG := lw_in (i := 235) (by decide +kernel) rfl
theorem kf_X4_15 : Cond.fieldLink RX4 15 "RingsOff$Tape" "size" "I" ∈ lwG := lw_in (i := 236) (by decide +kernel) rfl
theorem kf_X5_202 : Cond.fieldLinkNest RX5 202 "RingsOff$Tape" "size" "I" "RingsOff" ∈ lwN := lw_inN (i := 237) (by decide +kernel) rfl
theorem kf_X4_19 : Cond.fieldLink RX4 19 "RingsOff$Tape" "at" "I" ∈ lwG := lw_in (i := 238) (by decide +kernel) rfl
theorem kf_X4_22 : Cond.fieldLink RX4 22 "RingsOff$Tape" "start" "I" ∈ lwG := lw_in (i := 239) (by decide +kernel) rfl
theorem kf_X5_217 : Cond.fieldLinkNest RX5 217 "RingsOff$Tape" "start" "I" "RingsOff" ∈ lwN := lw_inN (i := 240) (by decide +kernel) rfl
theorem kf_X4_25 : Cond.fieldLink RX4 25 "RingsOff$Tape" "type" "I" ∈ lwG := lw_in (i := 241) (by decide +kernel) rfl
theorem kf_X4_28 : Cond.fieldLink RX4 28 "RingsOff$Tape" "value" "I" ∈ lwG := lw_in (i := 242) (by decide +kernel) rfl
theorem kl_X5_36 : Cond.classLink RX5 36 "RingsOff$Law" ∈ lwG := lw_in (i := 256) (by decide +kernel) rfl
theorem kz_X1 : Cond.instantiable RX1 5 ∈ lwG := lw_in (i := 257) (by decide +kernel) rfl
theorem km_X5_38 : Cond.methodLinkNest RX5 38 yX1_init "RingsOff" ∈ lwN := lw_inN (i := 258) (by decide +kernel) rfl
theorem ki_X1_init : Cond.instanceMethod yX1_init ∈ lwG := lw_in (i := 259) (by decide +kernel) rfl
theorem kc_X1_init : Cond.code yX1_init cX1_init 1 (none : Option Jvm.ClassFile.FieldType) ∈ lwG := lw_in (i := 260) (by decide +kernel) rfl
theorem km_X1_3 : Cond.methodLink RX1 3 Lib.objectInit ∈ lwG := lw_in (i := 261) (by decide +kernel) rfl
theorem kf_X1_9 : Cond.fieldLink RX1 9 "RingsOff$Law" "kind" "I" ∈ lwG := lw_in (i := 262) (by decide +kernel) rfl
theorem kf_X1_15 : Cond.fieldLink RX1 15 "RingsOff$Law" "size" "I" ∈ lwG := lw_in (i := 263) (by decide +kernel) rfl
theorem kf_X2_37 : Cond.fieldLinkNest RX2 37 "RingsOff$Law" "size" "I" "RingsOff" ∈ lwN := lw_inN (i := 264) (by decide +kernel) rfl
theorem kf_X1_18 : Cond.fieldLink RX1 18 "RingsOff$Law" "stuck" "I" ∈ lwG := lw_in (i := 265) (by decide +kernel) rfl
theorem kf_X1_21 : Cond.fieldLink RX1 21 "RingsOff$Law" "musts" "[I" ∈ lwG := lw_in (i := 266) (by decide +kernel) rfl
theorem kf_X1_25 : Cond.fieldLink RX1 25 "RingsOff$Law" "nots" "[I" ∈ lwG := lw_in (i := 267) (by decide +kernel) rfl
theorem kl_X5_43 : Cond.classLink RX5 43 "RingsOff$Search" ∈ lwG := lw_in (i := 279) (by decide +kernel) rfl
theorem kz_X2 : Cond.instantiable RX2 8 ∈ lwG := lw_in (i := 280) (by decide +kernel) rfl
theorem km_X5_45 : Cond.methodLinkNest RX5 45 yX2_init "RingsOff" ∈ lwN := lw_inN (i := 281) (by decide +kernel) rfl
theorem ki_X2_init : Cond.instanceMethod yX2_init ∈ lwG := lw_in (i := 282) (by decide +kernel) rfl
theorem kc_X2_init : Cond.code yX2_init cX2_init 1 (none : Option Jvm.ClassFile.FieldType) ∈ lwG := lw_in (i := 283) (by decide +kernel) rfl
theorem km_X2_3 : Cond.methodLink RX2 3 Lib.objectInit ∈ lwG := lw_in (i := 284) (by decide +kernel) rfl
theorem kf_X2_9 : Cond.fieldLink RX2 9 "RingsOff$Search" "legal" "[I" ∈ lwG := lw_in (i := 285) (by decide +kernel) rfl
theorem kf_X2_15 : Cond.fieldLink RX2 15 "RingsOff$Search" "far" "[I" ∈ lwG := lw_in (i := 286) (by decide +kernel) rfl
theorem kf_X2_18 : Cond.fieldLink RX2 18 "RingsOff$Search" "queue" "[I" ∈ lwG := lw_in (i := 287) (by decide +kernel) rfl
theorem kf_X2_21 : Cond.fieldLink RX2 21 "RingsOff$Search" "parts" "[I" ∈ lwG := lw_in (i := 288) (by decide +kernel) rfl
theorem kf_X2_24 : Cond.fieldLink RX2 24 "RingsOff$Search" "nextParts" "[I" ∈ lwG := lw_in (i := 289) (by decide +kernel) rfl
theorem kf_X2_27 : Cond.fieldLink RX2 27 "RingsOff$Search" "size" "I" ∈ lwG := lw_in (i := 290) (by decide +kernel) rfl
theorem kf_X5_373 : Cond.fieldLinkNest RX5 373 "RingsOff$Search" "size" "I" "RingsOff" ∈ lwN := lw_inN (i := 291) (by decide +kernel) rfl
theorem kf_X2_31 : Cond.fieldLink RX2 31 "RingsOff$Search" "sets" "I" ∈ lwG := lw_in (i := 292) (by decide +kernel) rfl
theorem kf_X2_34 : Cond.fieldLink RX2 34 "RingsOff$Search" "found" "I" ∈ lwG := lw_in (i := 293) (by decide +kernel) rfl
theorem kf_X5_240 : Cond.fieldLinkNest RX5 240 "RingsOff$Search" "found" "I" "RingsOff" ∈ lwN := lw_inN (i := 294) (by decide +kernel) rfl
theorem kf_X5_12 : Cond.fieldLink RX5 12 "RingsOff" "now" "LRingsOff$Evening;" ∈ lwG := lw_in (i := 312) (by decide +kernel) rfl
theorem kf_X5_16 : Cond.fieldLink RX5 16 "RingsOff" "kept" "LRingsOff$Evening;" ∈ lwG := lw_in (i := 313) (by decide +kernel) rfl
theorem kf_X5_19 : Cond.fieldLink RX5 19 "RingsOff" "draft" "LRingsOff$Evening;" ∈ lwG := lw_in (i := 314) (by decide +kernel) rfl
theorem kf_X5_25 : Cond.fieldLink RX5 25 "RingsOff" "shelves" "LRingsOff$Shelves;" ∈ lwG := lw_in (i := 315) (by decide +kernel) rfl
theorem kf_X5_32 : Cond.fieldLink RX5 32 "RingsOff" "tape" "LRingsOff$Tape;" ∈ lwG := lw_in (i := 316) (by decide +kernel) rfl
theorem kf_X5_39 : Cond.fieldLink RX5 39 "RingsOff" "law" "LRingsOff$Law;" ∈ lwG := lw_in (i := 317) (by decide +kernel) rfl
theorem kf_X5_46 : Cond.fieldLink RX5 46 "RingsOff" "search" "LRingsOff$Search;" ∈ lwG := lw_in (i := 318) (by decide +kernel) rfl
theorem kf_X5_50 : Cond.fieldLink RX5 50 "RingsOff" "refusals" "[I" ∈ lwG := lw_in (i := 319) (by decide +kernel) rfl
theorem kf_X5_54 : Cond.fieldLink RX5 54 "RingsOff" "imageStands" "Z" ∈ lwG := lw_in (i := 320) (by decide +kernel) rfl
theorem km_L_13 : Cond.methodLink RL 13 yX5_row ∈ lwG := lw_in (i := 340) (by decide +kernel) rfl
theorem ki_X5_row : Cond.instanceMethod yX5_row ∈ lwG := lw_in (i := 341) (by decide +kernel) rfl
theorem ks_X5_row : Cond.selects RX5 yX5_row yX5_row ∈ lwG := lw_in (i := 342) (by decide +kernel) rfl
theorem kc_X5_row : Cond.code yX5_row cX5_row 4 (some FieldType.int) ∈ lwG := lw_in (i := 343) (by decide +kernel) rfl
theorem km_X5_58 : Cond.methodLinkNest RX5 58 yX3_isShelf "RingsOff" ∈ lwN := lw_inN (i := 344) (by decide +kernel) rfl
theorem kt_X3_isShelf : Cond.static yX3_isShelf ∈ lwG := lw_in (i := 345) (by decide +kernel) rfl
theorem kc_X3_isShelf : Cond.code yX3_isShelf cX3_isShelf 1 (some FieldType.boolean) ∈ lwG := lw_in (i := 346) (by decide +kernel) rfl
theorem km_X5_62 : Cond.methodLink RX5 62 yX5_refuse ∈ lwG := lw_in (i := 347) (by decide +kernel) rfl
theorem ki_X5_refuse : Cond.instanceMethod yX5_refuse ∈ lwG := lw_in (i := 349) (by decide +kernel) rfl
theorem kc_X5_refuse : Cond.code yX5_refuse cX5_refuse 3 (some FieldType.int) ∈ lwG := lw_in (i := 350) (by decide +kernel) rfl
theorem km_X5_66 : Cond.methodLinkNest RX5 66 yX3_holdRow "RingsOff" ∈ lwN := lw_inN (i := 351) (by decide +kernel) rfl
theorem ki_X3_holdRow : Cond.instanceMethod yX3_holdRow ∈ lwG := lw_in (i := 353) (by decide +kernel) rfl
theorem kc_X3_holdRow : Cond.code yX3_holdRow cX3_holdRow 5 (none : Option Jvm.ClassFile.FieldType) ∈ lwG := lw_in (i := 354) (by decide +kernel) rfl
theorem km_X3_28 : Cond.methodLink RX3 28 yX3_isShelf ∈ lwG := lw_in (i := 355) (by decide +kernel) rfl
theorem km_L_20 : Cond.methodLink RL 20 yX5_set ∈ lwG := lw_in (i := 356) (by decide +kernel) rfl
theorem ki_X5_set : Cond.instanceMethod yX5_set ∈ lwG := lw_in (i := 357) (by decide +kernel) rfl
theorem ks_X5_set : Cond.selects RX5 yX5_set yX5_set ∈ lwG := lw_in (i := 358) (by decide +kernel) rfl
theorem kc_X5_set : Cond.code yX5_set cX5_set 5 (some FieldType.int) ∈ lwG := lw_in (i := 359) (by decide +kernel) rfl
theorem km_X5_70 : Cond.methodLinkNest RX5 70 yX3_hasBarIn "RingsOff" ∈ lwN := lw_inN (i := 360) (by decide +kernel) rfl
theorem ki_X3_hasBarIn : Cond.instanceMethod yX3_hasBarIn ∈ lwG := lw_in (i := 362) (by decide +kernel) rfl
theorem kc_X3_hasBarIn : Cond.code yX3_hasBarIn cX3_hasBarIn 2 (some FieldType.boolean) ∈ lwG := lw_in (i := 363) (by decide +kernel) rfl
theorem km_X3_32 : Cond.methodLink RX3 32 yX3_heldBy ∈ lwG := lw_in (i := 364) (by decide +kernel) rfl
theorem ki_X3_heldBy : Cond.instanceMethod yX3_heldBy ∈ lwG := lw_in (i := 366) (by decide +kernel) rfl
theorem kc_X3_heldBy : Cond.code yX3_heldBy cX3_heldBy 2 (some FieldType.int) ∈ lwG := lw_in (i := 367) (by decide +kernel) rfl
theorem km_X5_73 : Cond.methodLinkNest RX5 73 yX3_isFree "RingsOff" ∈ lwN := lw_inN (i := 368) (by decide +kernel) rfl
theorem ki_X3_isFree : Cond.instanceMethod yX3_isFree ∈ lwG := lw_in (i := 370) (by decide +kernel) rfl
theorem kc_X3_isFree : Cond.code yX3_isFree cX3_isFree 2 (some FieldType.boolean) ∈ lwG := lw_in (i := 371) (by decide +kernel) rfl
theorem km_X5_76 : Cond.methodLinkNest RX5 76 yX3_hasCells "RingsOff" ∈ lwN := lw_inN (i := 372) (by decide +kernel) rfl
theorem ki_X3_hasCells : Cond.instanceMethod yX3_hasCells ∈ lwG := lw_in (i := 374) (by decide +kernel) rfl
theorem kc_X3_hasCells : Cond.code yX3_hasCells cX3_hasCells 4 (some FieldType.boolean) ∈ lwG := lw_in (i := 375) (by decide +kernel) rfl
theorem km_X3_39 : Cond.methodLink RX3 39 yX3_hasRowIn ∈ lwG := lw_in (i := 376) (by decide +kernel) rfl
theorem ki_X3_hasRowIn : Cond.instanceMethod yX3_hasRowIn ∈ lwG := lw_in (i := 378) (by decide +kernel) rfl
theorem kc_X3_hasRowIn : Cond.code yX3_hasRowIn cX3_hasRowIn 2 (some FieldType.boolean) ∈ lwG := lw_in (i := 379) (by decide +kernel) rfl
theorem km_X5_80 : Cond.methodLinkNest RX5 80 yX3_write "RingsOff" ∈ lwN := lw_inN (i := 380) (by decide +kernel) rfl
theorem ki_X3_write : Cond.instanceMethod yX3_write ∈ lwG := lw_in (i := 382) (by decide +kernel) rfl
theorem kc_X3_write : Cond.code yX3_write cX3_write 5 (none : Option Jvm.ClassFile.FieldType) ∈ lwG := lw_in (i := 383) (by decide +kernel) rfl
theorem km_X3_42 : Cond.methodLink RX3 42 yX3_hasCells ∈ lwG := lw_in (i := 384) (by decide +kernel) rfl
theorem km_X3_53 : Cond.methodLink RX3 53 yX3_lowestBits ∈ lwG := lw_in (i := 385) (by decide +kernel) rfl
theorem kt_X3_lowestBits : Cond.static yX3_lowestBits ∈ lwG := lw_in (i := 386) (by decide +kernel) rfl
theorem kc_X3_lowestBits : Cond.code yX3_lowestBits cX3_lowestBits 3 (some FieldType.long) ∈ lwG := lw_in (i := 387) (by decide +kernel) rfl
theorem km_L_25 : Cond.methodLink RL 25 yX5_copy ∈ lwG := lw_in (i := 388) (by decide +kernel) rfl
theorem ki_X5_copy : Cond.instanceMethod yX5_copy ∈ lwG := lw_in (i := 389) (by decide +kernel) rfl
theorem ks_X5_copy : Cond.selects RX5 yX5_copy yX5_copy ∈ lwG := lw_in (i := 390) (by decide +kernel) rfl
theorem kc_X5_copy : Cond.code yX5_copy cX5_copy 6 (some FieldType.int) ∈ lwG := lw_in (i := 391) (by decide +kernel) rfl
theorem km_X5_84 : Cond.methodLinkNest RX5 84 yX3_differ "RingsOff" ∈ lwN := lw_inN (i := 392) (by decide +kernel) rfl
theorem ki_X3_differ : Cond.instanceMethod yX3_differ ∈ lwG := lw_in (i := 394) (by decide +kernel) rfl
theorem kc_X3_differ : Cond.code yX3_differ cX3_differ 3 (some FieldType.boolean) ∈ lwG := lw_in (i := 395) (by decide +kernel) rfl
theorem km_X3_36 : Cond.methodLink RX3 36 yX3_isFree ∈ lwG := lw_in (i := 396) (by decide +kernel) rfl
theorem km_X5_88 : Cond.methodLinkNest RX5 88 yX3_carry "RingsOff" ∈ lwN := lw_inN (i := 397) (by decide +kernel) rfl
theorem ki_X3_carry : Cond.instanceMethod yX3_carry ∈ lwG := lw_in (i := 399) (by decide +kernel) rfl
theorem kc_X3_carry : Cond.code yX3_carry cX3_carry 6 (none : Option Jvm.ClassFile.FieldType) ∈ lwG := lw_in (i := 400) (by decide +kernel) rfl
theorem km_X3_57 : Cond.methodLink RX3 57 arraycopyName ∈ lwG := lw_in (i := 401) (by decide +kernel) rfl
theorem kst_arraycopy : Cond.static arraycopyName ∈ lwG := lw_in (i := 402) (by decide +kernel) rfl
theorem kna_arraycopy : Cond.native arraycopyName ∈ lwG := lw_in (i := 403) (by decide +kernel) rfl
theorem km_L_30 : Cond.methodLink RL 30 yX5_element ∈ lwG := lw_in (i := 404) (by decide +kernel) rfl
theorem ki_X5_element : Cond.instanceMethod yX5_element ∈ lwG := lw_in (i := 405) (by decide +kernel) rfl
theorem ks_X5_element : Cond.selects RX5 yX5_element yX5_element ∈ lwG := lw_in (i := 406) (by decide +kernel) rfl
theorem kc_X5_element : Cond.code yX5_element cX5_element 3 (some FieldType.long) ∈ lwG := lw_in (i := 407) (by decide +kernel) rfl
theorem km_X5_92 : Cond.methodLinkNest RX5 92 yX3_cell "RingsOff" ∈ lwN := lw_inN (i := 408) (by decide +kernel) rfl
theorem ki_X3_cell : Cond.instanceMethod yX3_cell ∈ lwG := lw_in (i := 410) (by decide +kernel) rfl
theorem kc_X3_cell : Cond.code yX3_cell cX3_cell 3 (some FieldType.long) ∈ lwG := lw_in (i := 411) (by decide +kernel) rfl
theorem km_L_35 : Cond.methodLink RL 35 yX5_holds ∈ lwG := lw_in (i := 412) (by decide +kernel) rfl
theorem ki_X5_holds : Cond.instanceMethod yX5_holds ∈ lwG := lw_in (i := 413) (by decide +kernel) rfl
theorem ks_X5_holds : Cond.selects RX5 yX5_holds yX5_holds ∈ lwG := lw_in (i := 414) (by decide +kernel) rfl
theorem kc_X5_holds : Cond.code yX5_holds cX5_holds 2 (some FieldType.int) ∈ lwG := lw_in (i := 415) (by decide +kernel) rfl
theorem km_X5_96 : Cond.methodLinkNest RX5 96 yX3_heldBy "RingsOff" ∈ lwN := lw_inN (i := 416) (by decide +kernel) rfl
theorem km_L_40 : Cond.methodLink RL 40 yX5_show ∈ lwG := lw_in (i := 417) (by decide +kernel) rfl
theorem ki_X5_show : Cond.instanceMethod yX5_show ∈ lwG := lw_in (i := 418) (by decide +kernel) rfl
theorem ks_X5_show : Cond.selects RX5 yX5_show yX5_show ∈ lwG := lw_in (i := 419) (by decide +kernel) rfl
theorem kc_X5_show : Cond.code yX5_show cX5_show 3 (some FieldType.int) ∈ lwG := lw_in (i := 420) (by decide +kernel) rfl
theorem km_X5_99 : Cond.methodLinkNest RX5 99 yX0_hasBar "RingsOff" ∈ lwN := lw_inN (i := 421) (by decide +kernel) rfl
theorem ki_X0_hasBar : Cond.instanceMethod yX0_hasBar ∈ lwG := lw_in (i := 423) (by decide +kernel) rfl
theorem kc_X0_hasBar : Cond.code yX0_hasBar cX0_hasBar 2 (some FieldType.boolean) ∈ lwG := lw_in (i := 424) (by decide +kernel) rfl
theorem km_X5_102 : Cond.methodLinkNest RX5 102 yX3_free "RingsOff" ∈ lwN := lw_inN (i := 425) (by decide +kernel) rfl
theorem ki_X3_free : Cond.instanceMethod yX3_free ∈ lwG := lw_in (i := 427) (by decide +kernel) rfl
theorem kc_X3_free : Cond.code yX3_free cX3_free 2 (none : Option Jvm.ClassFile.FieldType) ∈ lwG := lw_in (i := 428) (by decide +kernel) rfl
theorem km_X5_106 : Cond.methodLinkNest RX5 106 yX3_holdBar "RingsOff" ∈ lwN := lw_inN (i := 429) (by decide +kernel) rfl
theorem ki_X3_holdBar : Cond.instanceMethod yX3_holdBar ∈ lwG := lw_in (i := 431) (by decide +kernel) rfl
theorem kc_X3_holdBar : Cond.code yX3_holdBar cX3_holdBar 3 (none : Option Jvm.ClassFile.FieldType) ∈ lwG := lw_in (i := 432) (by decide +kernel) rfl
theorem km_L_45 : Cond.methodLink RL 45 yX5_says ∈ lwG := lw_in (i := 433) (by decide +kernel) rfl
theorem ki_X5_says : Cond.instanceMethod yX5_says ∈ lwG := lw_in (i := 434) (by decide +kernel) rfl
theorem ks_X5_says : Cond.selects RX5 yX5_says yX5_says ∈ lwG := lw_in (i := 435) (by decide +kernel) rfl
theorem kc_X5_says : Cond.code yX5_says cX5_says 4 (some FieldType.int) ∈ lwG := lw_in (i := 436) (by decide +kernel) rfl
theorem km_X5_110 : Cond.methodLinkNest RX5 110 yX3_barIn "RingsOff" ∈ lwN := lw_inN (i := 437) (by decide +kernel) rfl
theorem ki_X3_barIn : Cond.instanceMethod yX3_barIn ∈ lwG := lw_in (i := 439) (by decide +kernel) rfl
theorem kc_X3_barIn : Cond.code yX3_barIn cX3_barIn 3 (some FieldType.int) ∈ lwG := lw_in (i := 440) (by decide +kernel) rfl
theorem km_X5_113 : Cond.methodLinkNest RX5 113 yX3_hasRowIn "RingsOff" ∈ lwN := lw_inN (i := 441) (by decide +kernel) rfl
theorem km_X5_116 : Cond.methodLinkNest RX5 116 yX0_kindOf "RingsOff" ∈ lwN := lw_inN (i := 442) (by decide +kernel) rfl
theorem ki_X0_kindOf : Cond.instanceMethod yX0_kindOf ∈ lwG := lw_in (i := 444) (by decide +kernel) rfl
theorem kc_X0_kindOf : Cond.code yX0_kindOf cX0_kindOf 2 (some FieldType.int) ∈ lwG := lw_in (i := 445) (by decide +kernel) rfl
theorem km_X0_55 : Cond.methodLink RX0 55 yX0_hasBar ∈ lwG := lw_in (i := 446) (by decide +kernel) rfl
theorem km_X5_119 : Cond.methodLink RX5 119 yX5_isUnder ∈ lwG := lw_in (i := 447) (by decide +kernel) rfl
theorem kt_X5_isUnder : Cond.static yX5_isUnder ∈ lwG := lw_in (i := 448) (by decide +kernel) rfl
theorem kc_X5_isUnder : Cond.code yX5_isUnder cX5_isUnder 2 (some FieldType.boolean) ∈ lwG := lw_in (i := 449) (by decide +kernel) rfl
theorem km_X5_122 : Cond.methodLinkNest RX5 122 yX0_onOf "RingsOff" ∈ lwN := lw_inN (i := 450) (by decide +kernel) rfl
theorem ki_X0_onOf : Cond.instanceMethod yX0_onOf ∈ lwG := lw_in (i := 452) (by decide +kernel) rfl
theorem kc_X0_onOf : Cond.code yX0_onOf cX0_onOf 2 (some FieldType.int) ∈ lwG := lw_in (i := 453) (by decide +kernel) rfl
theorem km_X5_125 : Cond.methodLink RX5 125 yX5_sayingOf ∈ lwG := lw_in (i := 454) (by decide +kernel) rfl
theorem ki_X5_sayingOf : Cond.instanceMethod yX5_sayingOf ∈ lwG := lw_in (i := 456) (by decide +kernel) rfl
theorem kc_X5_sayingOf : Cond.code yX5_sayingOf cX5_sayingOf 4 (some FieldType.int) ∈ lwG := lw_in (i := 457) (by decide +kernel) rfl
theorem km_X5_129 : Cond.methodLinkNest RX5 129 yX0_sizeOf "RingsOff" ∈ lwN := lw_inN (i := 458) (by decide +kernel) rfl
theorem ki_X0_sizeOf : Cond.instanceMethod yX0_sizeOf ∈ lwG := lw_in (i := 460) (by decide +kernel) rfl
theorem kc_X0_sizeOf : Cond.code yX0_sizeOf cX0_sizeOf 2 (some FieldType.int) ∈ lwG := lw_in (i := 461) (by decide +kernel) rfl
theorem km_X5_132 : Cond.methodLink RX5 132 yX5_turned ∈ lwG := lw_in (i := 462) (by decide +kernel) rfl
theorem kt_X5_turned : Cond.static yX5_turned ∈ lwG := lw_in (i := 463) (by decide +kernel) rfl
theorem kc_X5_turned : Cond.code yX5_turned cX5_turned 4 (some FieldType.int) ∈ lwG := lw_in (i := 464) (by decide +kernel) rfl
theorem km_X5_136 : Cond.methodLink RX5 136 yX5_grayPlace ∈ lwG := lw_in (i := 465) (by decide +kernel) rfl
theorem kt_X5_grayPlace : Cond.static yX5_grayPlace ∈ lwG := lw_in (i := 466) (by decide +kernel) rfl
theorem kc_X5_grayPlace : Cond.code yX5_grayPlace cX5_grayPlace 5 (some FieldType.long) ∈ lwG := lw_in (i := 467) (by decide +kernel) rfl
theorem km_X5_140 : Cond.methodLink RX5 140 yX5_leadTo ∈ lwG := lw_in (i := 468) (by decide +kernel) rfl
theorem ki_X5_leadTo : Cond.instanceMethod yX5_leadTo ∈ lwG := lw_in (i := 470) (by decide +kernel) rfl
theorem kc_X5_leadTo : Cond.code yX5_leadTo cX5_leadTo 4 (some FieldType.int) ∈ lwG := lw_in (i := 471) (by decide +kernel) rfl
theorem km_X5_253 : Cond.methodLink RX5 253 yX5_study ∈ lwG := lw_in (i := 472) (by decide +kernel) rfl
theorem ki_X5_study : Cond.instanceMethod yX5_study ∈ lwG := lw_in (i := 474) (by decide +kernel) rfl
theorem kc_X5_study : Cond.code yX5_study cX5_study 2 (none : Option Jvm.ClassFile.FieldType) ∈ lwG := lw_in (i := 475) (by decide +kernel) rfl
theorem km_X5_330 : Cond.methodLinkNest RX5 330 yX1_take "RingsOff" ∈ lwN := lw_inN (i := 476) (by decide +kernel) rfl
theorem ki_X1_take : Cond.instanceMethod yX1_take ∈ lwG := lw_in (i := 478) (by decide +kernel) rfl
theorem kc_X1_take : Cond.code yX1_take cX1_take 3 (none : Option Jvm.ClassFile.FieldType) ∈ lwG := lw_in (i := 479) (by decide +kernel) rfl
theorem km_X1_28 : Cond.methodLinkNest RX1 28 yX0_hasBar "RingsOff" ∈ lwN := lw_inN (i := 480) (by decide +kernel) rfl
theorem km_X1_40 : Cond.methodLink RX1 40 yX1_takePlain ∈ lwG := lw_in (i := 481) (by decide +kernel) rfl
theorem ki_X1_takePlain : Cond.instanceMethod yX1_takePlain ∈ lwG := lw_in (i := 483) (by decide +kernel) rfl
theorem kc_X1_takePlain : Cond.code yX1_takePlain cX1_takePlain 3 (none : Option Jvm.ClassFile.FieldType) ∈ lwG := lw_in (i := 484) (by decide +kernel) rfl
theorem km_X1_48 : Cond.methodLink RX1 48 arraycopyName ∈ lwG := lw_in (i := 485) (by decide +kernel) rfl
theorem km_X5_265 : Cond.methodLinkNest RX5 265 yX2_learn "RingsOff" ∈ lwN := lw_inN (i := 486) (by decide +kernel) rfl
theorem ki_X2_learn : Cond.instanceMethod yX2_learn ∈ lwG := lw_in (i := 488) (by decide +kernel) rfl
theorem kc_X2_learn : Cond.code yX2_learn cX2_learn 3 (none : Option Jvm.ClassFile.FieldType) ∈ lwG := lw_in (i := 489) (by decide +kernel) rfl
theorem km_X2_40 : Cond.methodLink RX2 40 yJ9_min_7cf53 ∈ lwG := lw_in (i := 490) (by decide +kernel) rfl
theorem kt_J9_min_7cf53 : Cond.static yJ9_min_7cf53 ∈ lwG := lw_in (i := 491) (by decide +kernel) rfl
theorem kc_J9_min_7cf53 : Cond.code yJ9_min_7cf53 cJ9_min_7cf53 2 (some FieldType.int) ∈ lwG := lw_in (i := 492) (by decide +kernel) rfl
theorem km_X2_46 : Cond.methodLinkNest RX2 46 yX1_legalIn "RingsOff" ∈ lwN := lw_inN (i := 493) (by decide +kernel) rfl
theorem ki_X1_legalIn : Cond.instanceMethod yX1_legalIn ∈ lwG := lw_in (i := 495) (by decide +kernel) rfl
theorem kc_X1_legalIn : Cond.code yX1_legalIn cX1_legalIn 3 (some FieldType.int) ∈ lwG := lw_in (i := 496) (by decide +kernel) rfl
theorem km_X1_55 : Cond.methodLink RX1 55 yX1_ringsByKind ∈ lwG := lw_in (i := 497) (by decide +kernel) rfl
theorem ki_X1_ringsByKind : Cond.instanceMethod yX1_ringsByKind ∈ lwG := lw_in (i := 499) (by decide +kernel) rfl
theorem kc_X1_ringsByKind : Cond.code yX1_ringsByKind cX1_ringsByKind 2 (some FieldType.int) ∈ lwG := lw_in (i := 500) (by decide +kernel) rfl
theorem km_X1_63 : Cond.methodLink RX1 63 yX1_chainRings ∈ lwG := lw_in (i := 501) (by decide +kernel) rfl
theorem kt_X1_chainRings : Cond.static yX1_chainRings ∈ lwG := lw_in (i := 502) (by decide +kernel) rfl
theorem kc_X1_chainRings : Cond.code yX1_chainRings cX1_chainRings 1 (some FieldType.int) ∈ lwG := lw_in (i := 503) (by decide +kernel) rfl
theorem km_X1_66 : Cond.methodLink RX1 66 yX1_afterRings ∈ lwG := lw_in (i := 504) (by decide +kernel) rfl
theorem ki_X1_afterRings : Cond.instanceMethod yX1_afterRings ∈ lwG := lw_in (i := 506) (by decide +kernel) rfl
theorem kc_X1_afterRings : Cond.code yX1_afterRings cX1_afterRings 2 (some FieldType.int) ∈ lwG := lw_in (i := 507) (by decide +kernel) rfl
theorem km_X1_72 : Cond.methodLink RX1 72 yJ6_highestOneBit_0f7a4 ∈ lwG := lw_in (i := 508) (by decide +kernel) rfl
theorem kt_J6_highestOneBit_0f7a4 : Cond.static yJ6_highestOneBit_0f7a4 ∈ lwG := lw_in (i := 509) (by decide +kernel) rfl
theorem kc_J6_highestOneBit_0f7a4 : Cond.code yJ6_highestOneBit_0f7a4 cJ6_highestOneBit_0f7a4 1 (some FieldType.int) ∈ lwG := lw_in (i := 510) (by decide +kernel) rfl
theorem kq_J6_127 : Cond.constant RJ6 127 (-2147483648 : Int32) ∈ lwG := lw_in (i := 511) (by decide +kernel) rfl
theorem km_J6_51 : Cond.methodLink RJ6 51 yJ6_numberOfLeadingZeros_0f7a4 ∈ lwG := lw_in (i := 512) (by decide +kernel) rfl
theorem kt_J6_numberOfLeadingZeros_0f7a4 : Cond.static yJ6_numberOfLeadingZeros_0f7a4 ∈ lwG := lw_in (i := 513) (by decide +kernel) rfl
theorem kc_J6_numberOfLeadingZeros_0f7a4 : Cond.code yJ6_numberOfLeadingZeros_0f7a4 cJ6_numberOfLeadingZeros_0f7a4 2 (some FieldType.int) ∈ lwG := lw_in (i := 514) (by decide +kernel) rfl
theorem kq_J6_264 : Cond.constant RJ6 264 (65536 : Int32) ∈ lwG := lw_in (i := 515) (by decide +kernel) rfl
theorem km_X1_69 : Cond.methodLink RX1 69 yX1_toldRings ∈ lwG := lw_in (i := 516) (by decide +kernel) rfl
theorem ki_X1_toldRings : Cond.instanceMethod yX1_toldRings ∈ lwG := lw_in (i := 518) (by decide +kernel) rfl
theorem kc_X1_toldRings : Cond.code yX1_toldRings cX1_toldRings 4 (some FieldType.int) ∈ lwG := lw_in (i := 519) (by decide +kernel) rfl
theorem km_X1_59 : Cond.methodLink RX1 59 yX1_bothMayGo ∈ lwG := lw_in (i := 520) (by decide +kernel) rfl
theorem ki_X1_bothMayGo : Cond.instanceMethod yX1_bothMayGo ∈ lwG := lw_in (i := 522) (by decide +kernel) rfl
theorem kc_X1_bothMayGo : Cond.code yX1_bothMayGo cX1_bothMayGo 3 (some FieldType.boolean) ∈ lwG := lw_in (i := 523) (by decide +kernel) rfl
theorem kq_X1_62 : Cond.constant RX1 62 (1048576 : Int32) ∈ lwG := lw_in (i := 524) (by decide +kernel) rfl
theorem km_X5_306 : Cond.methodLinkNest RX5 306 yX2_spreadAnew "RingsOff" ∈ lwN := lw_inN (i := 525) (by decide +kernel) rfl
theorem ki_X2_spreadAnew : Cond.instanceMethod yX2_spreadAnew ∈ lwG := lw_in (i := 527) (by decide +kernel) rfl
theorem kc_X2_spreadAnew : Cond.code yX2_spreadAnew cX2_spreadAnew 3 (none : Option Jvm.ClassFile.FieldType) ∈ lwG := lw_in (i := 528) (by decide +kernel) rfl
theorem km_X2_63 : Cond.methodLink RX2 63 yX2_forget ∈ lwG := lw_in (i := 529) (by decide +kernel) rfl
theorem ki_X2_forget : Cond.instanceMethod yX2_forget ∈ lwG := lw_in (i := 531) (by decide +kernel) rfl
theorem kc_X2_forget : Cond.code yX2_forget cX2_forget 1 (none : Option Jvm.ClassFile.FieldType) ∈ lwG := lw_in (i := 532) (by decide +kernel) rfl
theorem km_X2_57 : Cond.methodLink RX2 57 yJ7_fill_53178 ∈ lwG := lw_in (i := 533) (by decide +kernel) rfl
theorem km_X2_66 : Cond.methodLink RX2 66 yX2_spread ∈ lwG := lw_in (i := 534) (by decide +kernel) rfl
theorem ki_X2_spread : Cond.instanceMethod yX2_spread ∈ lwG := lw_in (i := 536) (by decide +kernel) rfl
theorem kc_X2_spread : Cond.code yX2_spread cX2_spread 9 (none : Option Jvm.ClassFile.FieldType) ∈ lwG := lw_in (i := 537) (by decide +kernel) rfl
theorem km_X2_70 : Cond.methodLink RX2 70 yX2_note ∈ lwG := lw_in (i := 538) (by decide +kernel) rfl
theorem ki_X2_note : Cond.instanceMethod yX2_note ∈ lwG := lw_in (i := 540) (by decide +kernel) rfl
theorem kc_X2_note : Cond.code yX2_note cX2_note 3 (none : Option Jvm.ClassFile.FieldType) ∈ lwG := lw_in (i := 541) (by decide +kernel) rfl
theorem km_X2_53 : Cond.methodLink RX2 53 yX2_isSet ∈ lwG := lw_in (i := 542) (by decide +kernel) rfl
theorem ki_X2_isSet : Cond.instanceMethod yX2_isSet ∈ lwG := lw_in (i := 544) (by decide +kernel) rfl
theorem kc_X2_isSet : Cond.code yX2_isSet cX2_isSet 2 (some FieldType.boolean) ∈ lwG := lw_in (i := 545) (by decide +kernel) rfl
theorem km_X2_73 : Cond.methodLink RX2 73 yX2_foundAt ∈ lwG := lw_in (i := 546) (by decide +kernel) rfl
theorem ki_X2_foundAt : Cond.instanceMethod yX2_foundAt ∈ lwG := lw_in (i := 548) (by decide +kernel) rfl
theorem kc_X2_foundAt : Cond.code yX2_foundAt cX2_foundAt 2 (some FieldType.int) ∈ lwG := lw_in (i := 549) (by decide +kernel) rfl
theorem km_X2_76 : Cond.methodLink RX2 76 yX2_farOf ∈ lwG := lw_in (i := 550) (by decide +kernel) rfl
theorem ki_X2_farOf : Cond.instanceMethod yX2_farOf ∈ lwG := lw_in (i := 552) (by decide +kernel) rfl
theorem kc_X2_farOf : Cond.code yX2_farOf cX2_farOf 2 (some FieldType.int) ∈ lwG := lw_in (i := 553) (by decide +kernel) rfl
theorem km_X2_79 : Cond.methodLink RX2 79 yX2_moveOf ∈ lwG := lw_in (i := 554) (by decide +kernel) rfl
theorem ki_X2_moveOf : Cond.instanceMethod yX2_moveOf ∈ lwG := lw_in (i := 556) (by decide +kernel) rfl
theorem kc_X2_moveOf : Cond.code yX2_moveOf cX2_moveOf 2 (some FieldType.int) ∈ lwG := lw_in (i := 557) (by decide +kernel) rfl
theorem km_X2_82 : Cond.methodLinkNest RX2 82 yX5_ringsOf "RingsOff" ∈ lwN := lw_inN (i := 558) (by decide +kernel) rfl
theorem kt_X5_ringsOf : Cond.static yX5_ringsOf ∈ lwG := lw_in (i := 559) (by decide +kernel) rfl
theorem kc_X5_ringsOf : Cond.code yX5_ringsOf cX5_ringsOf 1 (some FieldType.int) ∈ lwG := lw_in (i := 560) (by decide +kernel) rfl
theorem km_X2_85 : Cond.methodLink RX2 85 yX2_isOpen ∈ lwG := lw_in (i := 561) (by decide +kernel) rfl
theorem ki_X2_isOpen : Cond.instanceMethod yX2_isOpen ∈ lwG := lw_in (i := 563) (by decide +kernel) rfl
theorem kc_X2_isOpen : Cond.code yX2_isOpen cX2_isOpen 7 (some FieldType.boolean) ∈ lwG := lw_in (i := 564) (by decide +kernel) rfl
theorem km_X2_50 : Cond.methodLink RX2 50 yX2_legalAt ∈ lwG := lw_in (i := 565) (by decide +kernel) rfl
theorem ki_X2_legalAt : Cond.instanceMethod yX2_legalAt ∈ lwG := lw_in (i := 567) (by decide +kernel) rfl
theorem kc_X2_legalAt : Cond.code yX2_legalAt cX2_legalAt 2 (some FieldType.int) ∈ lwG := lw_in (i := 568) (by decide +kernel) rfl
theorem km_X5_247 : Cond.methodLinkNest RX5 247 yX2_farOf "RingsOff" ∈ lwN := lw_inN (i := 569) (by decide +kernel) rfl
theorem km_X5_143 : Cond.methodLink RX5 143 yX5_legalNow ∈ lwG := lw_in (i := 570) (by decide +kernel) rfl
theorem ki_X5_legalNow : Cond.instanceMethod yX5_legalNow ∈ lwG := lw_in (i := 572) (by decide +kernel) rfl
theorem kc_X5_legalNow : Cond.code yX5_legalNow cX5_legalNow 2 (some FieldType.int) ∈ lwG := lw_in (i := 573) (by decide +kernel) rfl
theorem km_X5_334 : Cond.methodLinkNest RX5 334 yX1_legalIn "RingsOff" ∈ lwN := lw_inN (i := 574) (by decide +kernel) rfl
theorem km_X5_146 : Cond.methodLink RX5 146 yJ6_bitCount_0f7a4 ∈ lwG := lw_in (i := 575) (by decide +kernel) rfl
theorem kt_J6_bitCount_0f7a4 : Cond.static yJ6_bitCount_0f7a4 ∈ lwG := lw_in (i := 576) (by decide +kernel) rfl
theorem kc_J6_bitCount_0f7a4 : Cond.code yJ6_bitCount_0f7a4 cJ6_bitCount_0f7a4 1 (some FieldType.int) ∈ lwG := lw_in (i := 577) (by decide +kernel) rfl
theorem kq_J6_265 : Cond.constant RJ6 265 (1431655765 : Int32) ∈ lwG := lw_in (i := 578) (by decide +kernel) rfl
theorem kq_J6_266 : Cond.constant RJ6 266 (858993459 : Int32) ∈ lwG := lw_in (i := 579) (by decide +kernel) rfl
theorem kq_J6_267 : Cond.constant RJ6 267 (252645135 : Int32) ∈ lwG := lw_in (i := 580) (by decide +kernel) rfl
theorem km_X5_151 : Cond.methodLink RX5 151 yX5_lastRing ∈ lwG := lw_in (i := 581) (by decide +kernel) rfl
theorem kt_X5_lastRing : Cond.static yX5_lastRing ∈ lwG := lw_in (i := 582) (by decide +kernel) rfl
theorem kc_X5_lastRing : Cond.code yX5_lastRing cX5_lastRing 2 (some FieldType.int) ∈ lwG := lw_in (i := 583) (by decide +kernel) rfl
theorem km_X5_223 : Cond.methodLink RX5 223 yX5_hasBit ∈ lwG := lw_in (i := 584) (by decide +kernel) rfl
theorem kt_X5_hasBit : Cond.static yX5_hasBit ∈ lwG := lw_in (i := 585) (by decide +kernel) rfl
theorem kc_X5_hasBit : Cond.code yX5_hasBit cX5_hasBit 2 (some FieldType.boolean) ∈ lwG := lw_in (i := 586) (by decide +kernel) rfl
theorem km_X5_154 : Cond.methodLinkNest RX5 154 yX0_tabledRings "RingsOff" ∈ lwN := lw_inN (i := 587) (by decide +kernel) rfl
theorem ki_X0_tabledRings : Cond.instanceMethod yX0_tabledRings ∈ lwG := lw_in (i := 589) (by decide +kernel) rfl
theorem kc_X0_tabledRings : Cond.code yX0_tabledRings cX0_tabledRings 4 (some FieldType.int) ∈ lwG := lw_in (i := 590) (by decide +kernel) rfl
theorem km_X0_63 : Cond.methodLink RX0 63 yX0_sizeOf ∈ lwG := lw_in (i := 591) (by decide +kernel) rfl
theorem km_X0_70 : Cond.methodLink RX0 70 yX0_mustOf ∈ lwG := lw_in (i := 592) (by decide +kernel) rfl
theorem ki_X0_mustOf : Cond.instanceMethod yX0_mustOf ∈ lwG := lw_in (i := 594) (by decide +kernel) rfl
theorem kc_X0_mustOf : Cond.code yX0_mustOf cX0_mustOf 3 (some FieldType.int) ∈ lwG := lw_in (i := 595) (by decide +kernel) rfl
theorem km_X0_66 : Cond.methodLink RX0 66 yX0_hasRing ∈ lwG := lw_in (i := 596) (by decide +kernel) rfl
theorem ki_X0_hasRing : Cond.instanceMethod yX0_hasRing ∈ lwG := lw_in (i := 598) (by decide +kernel) rfl
theorem kc_X0_hasRing : Cond.code yX0_hasRing cX0_hasRing 3 (some FieldType.boolean) ∈ lwG := lw_in (i := 599) (by decide +kernel) rfl
theorem km_X0_74 : Cond.methodLink RX0 74 yX0_notOf ∈ lwG := lw_in (i := 600) (by decide +kernel) rfl
theorem ki_X0_notOf : Cond.instanceMethod yX0_notOf ∈ lwG := lw_in (i := 602) (by decide +kernel) rfl
theorem kc_X0_notOf : Cond.code yX0_notOf cX0_notOf 3 (some FieldType.int) ∈ lwG := lw_in (i := 603) (by decide +kernel) rfl
theorem km_L_49 : Cond.methodLink RL 49 yX5_bar ∈ lwG := lw_in (i := 604) (by decide +kernel) rfl
theorem ki_X5_bar : Cond.instanceMethod yX5_bar ∈ lwG := lw_in (i := 605) (by decide +kernel) rfl
theorem ks_X5_bar : Cond.selects RX5 yX5_bar yX5_bar ∈ lwG := lw_in (i := 606) (by decide +kernel) rfl
theorem kc_X5_bar : Cond.code yX5_bar cX5_bar 3 (some FieldType.int) ∈ lwG := lw_in (i := 607) (by decide +kernel) rfl
theorem km_X5_157 : Cond.methodLinkNest RX5 157 yX0_hasMostBars "RingsOff" ∈ lwN := lw_inN (i := 608) (by decide +kernel) rfl
theorem ki_X0_hasMostBars : Cond.instanceMethod yX0_hasMostBars ∈ lwG := lw_in (i := 610) (by decide +kernel) rfl
theorem kc_X0_hasMostBars : Cond.code yX0_hasMostBars cX0_hasMostBars 1 (some FieldType.boolean) ∈ lwG := lw_in (i := 611) (by decide +kernel) rfl
theorem km_X5_161 : Cond.methodLinkNest RX5 161 yX0_addBar "RingsOff" ∈ lwN := lw_inN (i := 612) (by decide +kernel) rfl
theorem ki_X0_addBar : Cond.instanceMethod yX0_addBar ∈ lwG := lw_in (i := 614) (by decide +kernel) rfl
theorem kc_X0_addBar : Cond.code yX0_addBar cX0_addBar 5 (some FieldType.int) ∈ lwG := lw_in (i := 615) (by decide +kernel) rfl
theorem km_L_53 : Cond.methodLink RL 53 yX5_put ∈ lwG := lw_in (i := 616) (by decide +kernel) rfl
theorem ki_X5_put : Cond.instanceMethod yX5_put ∈ lwG := lw_in (i := 617) (by decide +kernel) rfl
theorem ks_X5_put : Cond.selects RX5 yX5_put yX5_put ∈ lwG := lw_in (i := 618) (by decide +kernel) rfl
theorem kc_X5_put : Cond.code yX5_put cX5_put 4 (some FieldType.int) ∈ lwG := lw_in (i := 619) (by decide +kernel) rfl
theorem km_X5_164 : Cond.methodLinkNest RX5 164 yX0_hasSet "RingsOff" ∈ lwN := lw_inN (i := 620) (by decide +kernel) rfl
theorem ki_X0_hasSet : Cond.instanceMethod yX0_hasSet ∈ lwG := lw_in (i := 622) (by decide +kernel) rfl
theorem kc_X0_hasSet : Cond.code yX0_hasSet cX0_hasSet 4 (some FieldType.boolean) ∈ lwG := lw_in (i := 623) (by decide +kernel) rfl
theorem km_X5_168 : Cond.methodLinkNest RX5 168 yX0_turnOn "RingsOff" ∈ lwN := lw_inN (i := 624) (by decide +kernel) rfl
theorem ki_X0_turnOn : Cond.instanceMethod yX0_turnOn ∈ lwG := lw_in (i := 626) (by decide +kernel) rfl
theorem kc_X0_turnOn : Cond.code yX0_turnOn cX0_turnOn 3 (none : Option Jvm.ClassFile.FieldType) ∈ lwG := lw_in (i := 627) (by decide +kernel) rfl
theorem km_L_57 : Cond.methodLink RL 57 yX5_stick ∈ lwG := lw_in (i := 628) (by decide +kernel) rfl
theorem ki_X5_stick : Cond.instanceMethod yX5_stick ∈ lwG := lw_in (i := 629) (by decide +kernel) rfl
theorem ks_X5_stick : Cond.selects RX5 yX5_stick yX5_stick ∈ lwG := lw_in (i := 630) (by decide +kernel) rfl
theorem kc_X5_stick : Cond.code yX5_stick cX5_stick 4 (some FieldType.int) ∈ lwG := lw_in (i := 631) (by decide +kernel) rfl
theorem km_X5_171 : Cond.methodLinkNest RX5 171 yX0_stuckOf "RingsOff" ∈ lwN := lw_inN (i := 632) (by decide +kernel) rfl
theorem ki_X0_stuckOf : Cond.instanceMethod yX0_stuckOf ∈ lwG := lw_in (i := 634) (by decide +kernel) rfl
theorem kc_X0_stuckOf : Cond.code yX0_stuckOf cX0_stuckOf 2 (some FieldType.int) ∈ lwG := lw_in (i := 635) (by decide +kernel) rfl
theorem km_X5_174 : Cond.methodLinkNest RX5 174 yX0_fasten "RingsOff" ∈ lwN := lw_inN (i := 636) (by decide +kernel) rfl
theorem ki_X0_fasten : Cond.instanceMethod yX0_fasten ∈ lwG := lw_in (i := 638) (by decide +kernel) rfl
theorem kc_X0_fasten : Cond.code yX0_fasten cX0_fasten 3 (none : Option Jvm.ClassFile.FieldType) ∈ lwG := lw_in (i := 639) (by decide +kernel) rfl
theorem km_L_61 : Cond.methodLink RL 61 yX5_table ∈ lwG := lw_in (i := 640) (by decide +kernel) rfl
theorem ki_X5_table : Cond.instanceMethod yX5_table ∈ lwG := lw_in (i := 641) (by decide +kernel) rfl
theorem ks_X5_table : Cond.selects RX5 yX5_table yX5_table ∈ lwG := lw_in (i := 642) (by decide +kernel) rfl
theorem kc_X5_table : Cond.code yX5_table cX5_table 5 (some FieldType.int) ∈ lwG := lw_in (i := 643) (by decide +kernel) rfl
theorem km_X5_177 : Cond.methodLinkNest RX5 177 yX0_hasRing "RingsOff" ∈ lwN := lw_inN (i := 644) (by decide +kernel) rfl
theorem km_X5_180 : Cond.methodLinkNest RX5 180 yX0_tell "RingsOff" ∈ lwN := lw_inN (i := 645) (by decide +kernel) rfl
theorem ki_X0_tell : Cond.instanceMethod yX0_tell ∈ lwG := lw_in (i := 647) (by decide +kernel) rfl
theorem kc_X0_tell : Cond.code yX0_tell cX0_tell 5 (none : Option Jvm.ClassFile.FieldType) ∈ lwG := lw_in (i := 648) (by decide +kernel) rfl
theorem km_L_66 : Cond.methodLink RL 66 yX5_minutes ∈ lwG := lw_in (i := 649) (by decide +kernel) rfl
theorem ki_X5_minutes : Cond.instanceMethod yX5_minutes ∈ lwG := lw_in (i := 650) (by decide +kernel) rfl
theorem ks_X5_minutes : Cond.selects RX5 yX5_minutes yX5_minutes ∈ lwG := lw_in (i := 651) (by decide +kernel) rfl
theorem kc_X5_minutes : Cond.code yX5_minutes cX5_minutes 4 (some FieldType.int) ∈ lwG := lw_in (i := 652) (by decide +kernel) rfl
theorem km_X5_184 : Cond.methodLinkNest RX5 184 yX0_minutesOf "RingsOff" ∈ lwN := lw_inN (i := 653) (by decide +kernel) rfl
theorem ki_X0_minutesOf : Cond.instanceMethod yX0_minutesOf ∈ lwG := lw_in (i := 655) (by decide +kernel) rfl
theorem kc_X0_minutesOf : Cond.code yX0_minutesOf cX0_minutesOf 2 (some FieldType.int) ∈ lwG := lw_in (i := 656) (by decide +kernel) rfl
theorem km_X5_187 : Cond.methodLinkNest RX5 187 yX0_setMinutes "RingsOff" ∈ lwN := lw_inN (i := 657) (by decide +kernel) rfl
theorem ki_X0_setMinutes : Cond.instanceMethod yX0_setMinutes ∈ lwG := lw_in (i := 659) (by decide +kernel) rfl
theorem kc_X0_setMinutes : Cond.code yX0_setMinutes cX0_setMinutes 3 (none : Option Jvm.ClassFile.FieldType) ∈ lwG := lw_in (i := 660) (by decide +kernel) rfl
theorem km_L_83 : Cond.methodLink RL 83 yX5_barOf ∈ lwG := lw_in (i := 661) (by decide +kernel) rfl
theorem ki_X5_barOf : Cond.instanceMethod yX5_barOf ∈ lwG := lw_in (i := 662) (by decide +kernel) rfl
theorem ks_X5_barOf : Cond.selects RX5 yX5_barOf yX5_barOf ∈ lwG := lw_in (i := 663) (by decide +kernel) rfl
theorem kc_X5_barOf : Cond.code yX5_barOf cX5_barOf 3 (some FieldType.int) ∈ lwG := lw_in (i := 664) (by decide +kernel) rfl
theorem km_X5_190 : Cond.methodLinkNest RX5 190 yX0_notOf "RingsOff" ∈ lwN := lw_inN (i := 665) (by decide +kernel) rfl
theorem km_X5_193 : Cond.methodLinkNest RX5 193 yX0_mustOf "RingsOff" ∈ lwN := lw_inN (i := 666) (by decide +kernel) rfl
theorem km_L_70 : Cond.methodLink RL 70 yX5_feed ∈ lwG := lw_in (i := 667) (by decide +kernel) rfl
theorem ki_X5_feed : Cond.instanceMethod yX5_feed ∈ lwG := lw_in (i := 668) (by decide +kernel) rfl
theorem ks_X5_feed : Cond.selects RX5 yX5_feed yX5_feed ∈ lwG := lw_in (i := 669) (by decide +kernel) rfl
theorem kc_X5_feed : Cond.code yX5_feed cX5_feed 2 (some FieldType.int) ∈ lwG := lw_in (i := 670) (by decide +kernel) rfl
theorem km_X5_196 : Cond.methodLinkNest RX5 196 yX4_isFull "RingsOff" ∈ lwN := lw_inN (i := 671) (by decide +kernel) rfl
theorem ki_X4_isFull : Cond.instanceMethod yX4_isFull ∈ lwG := lw_in (i := 673) (by decide +kernel) rfl
theorem kc_X4_isFull : Cond.code yX4_isFull cX4_isFull 1 (some FieldType.boolean) ∈ lwG := lw_in (i := 674) (by decide +kernel) rfl
theorem km_X5_199 : Cond.methodLinkNest RX5 199 yX4_append "RingsOff" ∈ lwN := lw_inN (i := 675) (by decide +kernel) rfl
theorem ki_X4_append : Cond.instanceMethod yX4_append ∈ lwG := lw_in (i := 677) (by decide +kernel) rfl
theorem kc_X4_append : Cond.code yX4_append cX4_append 2 (some FieldType.int) ∈ lwG := lw_in (i := 678) (by decide +kernel) rfl
theorem km_L_74 : Cond.methodLink RL 74 yX5_wipe ∈ lwG := lw_in (i := 679) (by decide +kernel) rfl
theorem ki_X5_wipe : Cond.instanceMethod yX5_wipe ∈ lwG := lw_in (i := 680) (by decide +kernel) rfl
theorem ks_X5_wipe : Cond.selects RX5 yX5_wipe yX5_wipe ∈ lwG := lw_in (i := 681) (by decide +kernel) rfl
theorem kc_X5_wipe : Cond.code yX5_wipe cX5_wipe 2 (some FieldType.int) ∈ lwG := lw_in (i := 682) (by decide +kernel) rfl
theorem km_X5_206 : Cond.methodLinkNest RX5 206 yX4_clear "RingsOff" ∈ lwN := lw_inN (i := 683) (by decide +kernel) rfl
theorem ki_X4_clear : Cond.instanceMethod yX4_clear ∈ lwG := lw_in (i := 685) (by decide +kernel) rfl
theorem kc_X4_clear : Cond.code yX4_clear cX4_clear 1 (none : Option Jvm.ClassFile.FieldType) ∈ lwG := lw_in (i := 686) (by decide +kernel) rfl
theorem km_L_79 : Cond.methodLink RL 79 yX5_bars ∈ lwG := lw_in (i := 687) (by decide +kernel) rfl
theorem ki_X5_bars : Cond.instanceMethod yX5_bars ∈ lwG := lw_in (i := 688) (by decide +kernel) rfl
theorem ks_X5_bars : Cond.selects RX5 yX5_bars yX5_bars ∈ lwG := lw_in (i := 689) (by decide +kernel) rfl
theorem kc_X5_bars : Cond.code yX5_bars cX5_bars 3 (some FieldType.int) ∈ lwG := lw_in (i := 690) (by decide +kernel) rfl
theorem km_X5_209 : Cond.methodLinkNest RX5 209 yX0_become "RingsOff" ∈ lwN := lw_inN (i := 691) (by decide +kernel) rfl
theorem ki_X0_become : Cond.instanceMethod yX0_become ∈ lwG := lw_in (i := 693) (by decide +kernel) rfl
theorem kc_X0_become : Cond.code yX0_become cX0_become 2 (none : Option Jvm.ClassFile.FieldType) ∈ lwG := lw_in (i := 694) (by decide +kernel) rfl
theorem km_X0_49 : Cond.methodLink RX0 49 arraycopyName ∈ lwG := lw_in (i := 695) (by decide +kernel) rfl
theorem km_X5_213 : Cond.methodLinkNest RX5 213 yX4_readInto "RingsOff" ∈ lwN := lw_inN (i := 696) (by decide +kernel) rfl
theorem ki_X4_readInto : Cond.instanceMethod yX4_readInto ∈ lwG := lw_in (i := 698) (by decide +kernel) rfl
theorem kc_X4_readInto : Cond.code yX4_readInto cX4_readInto 4 (some FieldType.int) ∈ lwG := lw_in (i := 699) (by decide +kernel) rfl
theorem km_X4_31 : Cond.methodLink RX4 31 yX4_readStatement ∈ lwG := lw_in (i := 700) (by decide +kernel) rfl
theorem ki_X4_readStatement : Cond.instanceMethod yX4_readStatement ∈ lwG := lw_in (i := 702) (by decide +kernel) rfl
theorem kc_X4_readStatement : Cond.code yX4_readStatement cX4_readStatement 3 (some FieldType.boolean) ∈ lwG := lw_in (i := 703) (by decide +kernel) rfl
theorem km_X4_35 : Cond.methodLink RX4 35 yX4_readToken ∈ lwG := lw_in (i := 704) (by decide +kernel) rfl
theorem ki_X4_readToken : Cond.instanceMethod yX4_readToken ∈ lwG := lw_in (i := 706) (by decide +kernel) rfl
theorem kc_X4_readToken : Cond.code yX4_readToken cX4_readToken 2 (none : Option Jvm.ClassFile.FieldType) ∈ lwG := lw_in (i := 707) (by decide +kernel) rfl
theorem km_X4_131 : Cond.methodLink RX4 131 yX4_byteAt ∈ lwG := lw_in (i := 708) (by decide +kernel) rfl
theorem ki_X4_byteAt : Cond.instanceMethod yX4_byteAt ∈ lwG := lw_in (i := 710) (by decide +kernel) rfl
theorem kc_X4_byteAt : Cond.code yX4_byteAt cX4_byteAt 2 (some FieldType.int) ∈ lwG := lw_in (i := 711) (by decide +kernel) rfl
theorem km_X4_134 : Cond.methodLink RX4 134 yX4_isLetter ∈ lwG := lw_in (i := 712) (by decide +kernel) rfl
theorem kt_X4_isLetter : Cond.static yX4_isLetter ∈ lwG := lw_in (i := 713) (by decide +kernel) rfl
theorem kc_X4_isLetter : Cond.code yX4_isLetter cX4_isLetter 1 (some FieldType.boolean) ∈ lwG := lw_in (i := 714) (by decide +kernel) rfl
theorem km_X4_137 : Cond.methodLink RX4 137 yX4_isDigit ∈ lwG := lw_in (i := 715) (by decide +kernel) rfl
theorem kt_X4_isDigit : Cond.static yX4_isDigit ∈ lwG := lw_in (i := 716) (by decide +kernel) rfl
theorem kc_X4_isDigit : Cond.code yX4_isDigit cX4_isDigit 1 (some FieldType.boolean) ∈ lwG := lw_in (i := 717) (by decide +kernel) rfl
theorem km_X4_40 : Cond.methodLink RX4 40 yX4_isWord ∈ lwG := lw_in (i := 719) (by decide +kernel) rfl
theorem ki_X4_isWord : Cond.instanceMethod yX4_isWord ∈ lwG := lw_in (i := 721) (by decide +kernel) rfl
theorem kc_X4_isWord : Cond.code yX4_isWord cX4_isWord 3 (some FieldType.boolean) ∈ lwG := lw_in (i := 722) (by decide +kernel) rfl
theorem km_X4_140 : Cond.methodLink RX4 140 yJ0_length_8abf5 ∈ lwG := lw_in (i := 723) (by decide +kernel) rfl
theorem ki_J0_length_8abf5 : Cond.instanceMethod yJ0_length_8abf5 ∈ lwG := lw_in (i := 724) (by decide +kernel) rfl
theorem ks_J0_length_8abf5 : Cond.selects RJ0 yJ0_length_8abf5 yJ0_length_8abf5 ∈ lwG := lw_in (i := 725) (by decide +kernel) rfl
theorem kc_J0_length_8abf5 : Cond.code yJ0_length_8abf5 cJ0_length_8abf5 1 (some FieldType.int) ∈ lwG := lw_in (i := 726) (by decide +kernel) rfl
theorem km_J0_335 : Cond.methodLink RJ0 335 yJ0_coder_7d493 ∈ lwG := lw_in (i := 727) (by decide +kernel) rfl
theorem ki_J0_coder_7d493 : Cond.instanceMethod yJ0_coder_7d493 ∈ lwG := lw_in (i := 728) (by decide +kernel) rfl
theorem ks_J0_coder_7d493 : Cond.selects RJ0 yJ0_coder_7d493 yJ0_coder_7d493 ∈ lwG := lw_in (i := 729) (by decide +kernel) rfl
theorem kc_J0_coder_7d493 : Cond.code yJ0_coder_7d493 cJ0_coder_7d493 1 (some FieldType.byte) ∈ lwG := lw_in (i := 730) (by decide +kernel) rfl
theorem km_X4_146 : Cond.methodLink RX4 146 yJ0_charAt_5068e ∈ lwG := lw_in (i := 733) (by decide +kernel) rfl
theorem ki_J0_charAt_5068e : Cond.instanceMethod yJ0_charAt_5068e ∈ lwG := lw_in (i := 734) (by decide +kernel) rfl
theorem ks_J0_charAt_5068e : Cond.selects RJ0 yJ0_charAt_5068e yJ0_charAt_5068e ∈ lwG := lw_in (i := 735) (by decide +kernel) rfl
theorem kc_J0_charAt_5068e : Cond.code yJ0_charAt_5068e cJ0_charAt_5068e 2 (some FieldType.char) ∈ lwG := lw_in (i := 736) (by decide +kernel) rfl
theorem km_J0_492 : Cond.methodLink RJ0 492 yJ0_isLatin1_aae02 ∈ lwG := lw_in (i := 737) (by decide +kernel) rfl
theorem ki_J0_isLatin1_aae02 : Cond.instanceMethod yJ0_isLatin1_aae02 ∈ lwG := lw_in (i := 738) (by decide +kernel) rfl
theorem ks_J0_isLatin1_aae02 : Cond.selects RJ0 yJ0_isLatin1_aae02 yJ0_isLatin1_aae02 ∈ lwG := lw_in (i := 739) (by decide +kernel) rfl
theorem kc_J0_isLatin1_aae02 : Cond.code yJ0_isLatin1_aae02 cJ0_isLatin1_aae02 1 (some FieldType.boolean) ∈ lwG := lw_in (i := 740) (by decide +kernel) rfl
theorem km_J0_495 : Cond.methodLink RJ0 495 yJ1_charAt_3b067 ∈ lwG := lw_in (i := 741) (by decide +kernel) rfl
theorem kt_J1_charAt_3b067 : Cond.static yJ1_charAt_3b067 ∈ lwG := lw_in (i := 742) (by decide +kernel) rfl
theorem kc_J1_charAt_3b067 : Cond.code yJ1_charAt_3b067 cJ1_charAt_3b067 2 (some FieldType.char) ∈ lwG := lw_in (i := 743) (by decide +kernel) rfl
theorem km_J1_9 : Cond.methodLink RJ1 9 yJ0_checkIndex_df160 ∈ lwG := lw_in (i := 744) (by decide +kernel) rfl
theorem kt_J0_checkIndex_df160 : Cond.static yJ0_checkIndex_df160 ∈ lwG := lw_in (i := 745) (by decide +kernel) rfl
theorem kc_J0_checkIndex_df160 : Cond.code yJ0_checkIndex_df160 cJ0_checkIndex_df160 2 (none : Option Jvm.ClassFile.FieldType) ∈ lwG := lw_in (i := 746) (by decide +kernel) rfl
theorem km_J0_1059 : Cond.methodLink RJ0 1059 yJ3_checkIndex_8e157 ∈ lwG := lw_in (i := 749) (by decide +kernel) rfl
theorem kt_J3_checkIndex_8e157 : Cond.static yJ3_checkIndex_8e157 ∈ lwG := lw_in (i := 750) (by decide +kernel) rfl
theorem kc_J3_checkIndex_8e157 : Cond.code yJ3_checkIndex_8e157 cJ3_checkIndex_8e157 3 (some FieldType.int) ∈ lwG := lw_in (i := 751) (by decide +kernel) rfl
theorem km_J0_498 : Cond.methodLink RJ0 498 yJ2_charAt_3b067 ∈ lwG := lw_in (i := 752) (by decide +kernel) rfl
theorem kt_J2_charAt_3b067 : Cond.static yJ2_charAt_3b067 ∈ lwG := lw_in (i := 753) (by decide +kernel) rfl
theorem kc_J2_charAt_3b067 : Cond.code yJ2_charAt_3b067 cJ2_charAt_3b067 2 (some FieldType.char) ∈ lwG := lw_in (i := 754) (by decide +kernel) rfl
theorem km_J2_67 : Cond.methodLink RJ2 67 yJ2_checkIndex_2214a ∈ lwG := lw_in (i := 755) (by decide +kernel) rfl
theorem kt_J2_checkIndex_2214a : Cond.static yJ2_checkIndex_2214a ∈ lwG := lw_in (i := 756) (by decide +kernel) rfl
theorem kc_J2_checkIndex_2214a : Cond.code yJ2_checkIndex_2214a cJ2_checkIndex_2214a 2 (none : Option Jvm.ClassFile.FieldType) ∈ lwG := lw_in (i := 757) (by decide +kernel) rfl
theorem km_J2_48 : Cond.methodLink RJ2 48 yJ2_length_9d52b ∈ lwG := lw_in (i := 758) (by decide +kernel) rfl
theorem kt_J2_length_9d52b : Cond.static yJ2_length_9d52b ∈ lwG := lw_in (i := 759) (by decide +kernel) rfl
theorem kc_J2_length_9d52b : Cond.code yJ2_length_9d52b cJ2_length_9d52b 1 (some FieldType.int) ∈ lwG := lw_in (i := 760) (by decide +kernel) rfl
theorem km_J2_414 : Cond.methodLink RJ2 414 yJ0_checkIndex_df160 ∈ lwG := lw_in (i := 761) (by decide +kernel) rfl
theorem km_J2_71 : Cond.methodLink RJ2 71 yJ2_getChar_3b067 ∈ lwG := lw_in (i := 762) (by decide +kernel) rfl
theorem kt_J2_getChar_3b067 : Cond.static yJ2_getChar_3b067 ∈ lwG := lw_in (i := 763) (by decide +kernel) rfl
theorem kc_J2_getChar_3b067 : Cond.code yJ2_getChar_3b067 cJ2_getChar_3b067 2 (some FieldType.char) ∈ lwG := lw_in (i := 764) (by decide +kernel) rfl
theorem km_X4_44 : Cond.methodLink RX4 44 yX4_readBar ∈ lwG := lw_in (i := 771) (by decide +kernel) rfl
theorem ki_X4_readBar : Cond.instanceMethod yX4_readBar ∈ lwG := lw_in (i := 773) (by decide +kernel) rfl
theorem kc_X4_readBar : Cond.code yX4_readBar cX4_readBar 4 (some FieldType.boolean) ∈ lwG := lw_in (i := 774) (by decide +kernel) rfl
theorem km_X4_68 : Cond.methodLinkNest RX4 68 yX0_hasMostBars "RingsOff" ∈ lwN := lw_inN (i := 775) (by decide +kernel) rfl
theorem km_X4_74 : Cond.methodLink RX4 74 yX4_readNumber ∈ lwG := lw_in (i := 776) (by decide +kernel) rfl
theorem ki_X4_readNumber : Cond.instanceMethod yX4_readNumber ∈ lwG := lw_in (i := 778) (by decide +kernel) rfl
theorem kc_X4_readNumber : Cond.code yX4_readNumber cX4_readNumber 1 (some FieldType.boolean) ∈ lwG := lw_in (i := 779) (by decide +kernel) rfl
theorem km_X4_77 : Cond.methodLinkNest RX4 77 yX0_addBar "RingsOff" ∈ lwN := lw_inN (i := 780) (by decide +kernel) rfl
theorem km_X4_83 : Cond.methodLinkNest RX4 83 yX0_hasSet "RingsOff" ∈ lwN := lw_inN (i := 782) (by decide +kernel) rfl
theorem km_X4_87 : Cond.methodLinkNest RX4 87 yX0_turnOn "RingsOff" ∈ lwN := lw_inN (i := 783) (by decide +kernel) rfl
theorem km_X4_50 : Cond.methodLink RX4 50 yX4_readStuck ∈ lwG := lw_in (i := 785) (by decide +kernel) rfl
theorem ki_X4_readStuck : Cond.instanceMethod yX4_readStuck ∈ lwG := lw_in (i := 787) (by decide +kernel) rfl
theorem kc_X4_readStuck : Cond.code yX4_readStuck cX4_readStuck 3 (some FieldType.boolean) ∈ lwG := lw_in (i := 788) (by decide +kernel) rfl
theorem km_X4_91 : Cond.methodLinkNest RX4 91 yX0_hasBar "RingsOff" ∈ lwN := lw_inN (i := 789) (by decide +kernel) rfl
theorem km_X4_95 : Cond.methodLinkNest RX4 95 yX0_fasten "RingsOff" ∈ lwN := lw_inN (i := 790) (by decide +kernel) rfl
theorem km_X4_55 : Cond.methodLink RX4 55 yX4_readTable ∈ lwG := lw_in (i := 792) (by decide +kernel) rfl
theorem ki_X4_readTable : Cond.instanceMethod yX4_readTable ∈ lwG := lw_in (i := 794) (by decide +kernel) rfl
theorem kc_X4_readTable : Cond.code yX4_readTable cX4_readTable 5 (some FieldType.boolean) ∈ lwG := lw_in (i := 795) (by decide +kernel) rfl
theorem km_X4_98 : Cond.methodLinkNest RX4 98 yX0_kindOf "RingsOff" ∈ lwN := lw_inN (i := 796) (by decide +kernel) rfl
theorem km_X4_102 : Cond.methodLinkNest RX4 102 yX0_hasRing "RingsOff" ∈ lwN := lw_inN (i := 797) (by decide +kernel) rfl
theorem km_X4_106 : Cond.methodLinkNest RX4 106 yX0_tell "RingsOff" ∈ lwN := lw_inN (i := 798) (by decide +kernel) rfl
theorem km_X4_60 : Cond.methodLink RX4 60 yX4_readMinutes ∈ lwG := lw_in (i := 800) (by decide +kernel) rfl
theorem ki_X4_readMinutes : Cond.instanceMethod yX4_readMinutes ∈ lwG := lw_in (i := 802) (by decide +kernel) rfl
theorem kc_X4_readMinutes : Cond.code yX4_readMinutes cX4_readMinutes 3 (some FieldType.boolean) ∈ lwG := lw_in (i := 803) (by decide +kernel) rfl
theorem km_X4_110 : Cond.methodLinkNest RX4 110 yX0_setMinutes "RingsOff" ∈ lwN := lw_inN (i := 804) (by decide +kernel) rfl
theorem km_X4_65 : Cond.methodLink RX4 65 yX4_readMove ∈ lwG := lw_in (i := 806) (by decide +kernel) rfl
theorem ki_X4_readMove : Cond.instanceMethod yX4_readMove ∈ lwG := lw_in (i := 808) (by decide +kernel) rfl
theorem kc_X4_readMove : Cond.code yX4_readMove cX4_readMove 4 (some FieldType.boolean) ∈ lwG := lw_in (i := 809) (by decide +kernel) rfl
theorem km_X4_113 : Cond.methodLinkNest RX4 113 yX1_take "RingsOff" ∈ lwN := lw_inN (i := 810) (by decide +kernel) rfl
theorem km_X4_119 : Cond.methodLinkNest RX4 119 yX0_onOf "RingsOff" ∈ lwN := lw_inN (i := 811) (by decide +kernel) rfl
theorem km_X4_122 : Cond.methodLinkNest RX4 122 yX1_legalIn "RingsOff" ∈ lwN := lw_inN (i := 812) (by decide +kernel) rfl
theorem km_X4_125 : Cond.methodLinkNest RX4 125 yX5_hasBit "RingsOff" ∈ lwN := lw_inN (i := 813) (by decide +kernel) rfl
theorem km_X4_128 : Cond.methodLinkNest RX4 128 yX0_makeMove "RingsOff" ∈ lwN := lw_inN (i := 814) (by decide +kernel) rfl
theorem ki_X0_makeMove : Cond.instanceMethod yX0_makeMove ∈ lwG := lw_in (i := 816) (by decide +kernel) rfl
theorem kc_X0_makeMove : Cond.code yX0_makeMove cX0_makeMove 3 (none : Option Jvm.ClassFile.FieldType) ∈ lwG := lw_in (i := 817) (by decide +kernel) rfl
theorem km_X0_77 : Cond.methodLinkNest RX0 77 yX5_ringsOf "RingsOff" ∈ lwN := lw_inN (i := 818) (by decide +kernel) rfl
theorem ka_byte : Cond.arrayClass FieldType.byte ∈ lwG := lw_in (i := 819) (by decide +kernel) rfl
theorem km_L_87 : Cond.methodLink RL 87 yX5_may ∈ lwG := lw_in (i := 820) (by decide +kernel) rfl
theorem ki_X5_may : Cond.instanceMethod yX5_may ∈ lwG := lw_in (i := 821) (by decide +kernel) rfl
theorem ks_X5_may : Cond.selects RX5 yX5_may yX5_may ∈ lwG := lw_in (i := 822) (by decide +kernel) rfl
theorem kc_X5_may : Cond.code yX5_may cX5_may 3 (some FieldType.int) ∈ lwG := lw_in (i := 823) (by decide +kernel) rfl
theorem km_X5_220 : Cond.methodLinkNest RX5 220 yX0_hasMove "RingsOff" ∈ lwN := lw_inN (i := 824) (by decide +kernel) rfl
theorem ki_X0_hasMove : Cond.instanceMethod yX0_hasMove ∈ lwG := lw_in (i := 826) (by decide +kernel) rfl
theorem kc_X0_hasMove : Cond.code yX0_hasMove cX0_hasMove 3 (some FieldType.boolean) ∈ lwG := lw_in (i := 827) (by decide +kernel) rfl
theorem km_X0_59 : Cond.methodLink RX0 59 yX0_kindOf ∈ lwG := lw_in (i := 828) (by decide +kernel) rfl
theorem km_L_91 : Cond.methodLink RL 91 yX5_moves ∈ lwG := lw_in (i := 829) (by decide +kernel) rfl
theorem ki_X5_moves : Cond.instanceMethod yX5_moves ∈ lwG := lw_in (i := 830) (by decide +kernel) rfl
theorem ks_X5_moves : Cond.selects RX5 yX5_moves yX5_moves ∈ lwG := lw_in (i := 831) (by decide +kernel) rfl
theorem kc_X5_moves : Cond.code yX5_moves cX5_moves 2 (some FieldType.int) ∈ lwG := lw_in (i := 832) (by decide +kernel) rfl
theorem km_L_95 : Cond.methodLink RL 95 yX5_move ∈ lwG := lw_in (i := 833) (by decide +kernel) rfl
theorem ki_X5_move : Cond.instanceMethod yX5_move ∈ lwG := lw_in (i := 834) (by decide +kernel) rfl
theorem ks_X5_move : Cond.selects RX5 yX5_move yX5_move ∈ lwG := lw_in (i := 835) (by decide +kernel) rfl
theorem kc_X5_move : Cond.code yX5_move cX5_move 3 (some FieldType.int) ∈ lwG := lw_in (i := 836) (by decide +kernel) rfl
theorem km_X5_226 : Cond.methodLinkNest RX5 226 yX0_makeMove "RingsOff" ∈ lwN := lw_inN (i := 837) (by decide +kernel) rfl
theorem km_L_99 : Cond.methodLink RL 99 yX5_fewest ∈ lwG := lw_in (i := 838) (by decide +kernel) rfl
theorem ki_X5_fewest : Cond.instanceMethod yX5_fewest ∈ lwG := lw_in (i := 839) (by decide +kernel) rfl
theorem ks_X5_fewest : Cond.selects RX5 yX5_fewest yX5_fewest ∈ lwG := lw_in (i := 840) (by decide +kernel) rfl
theorem kc_X5_fewest : Cond.code yX5_fewest cX5_fewest 3 (some FieldType.int) ∈ lwG := lw_in (i := 841) (by decide +kernel) rfl
theorem km_L_103 : Cond.methodLink RL 103 yX5_way ∈ lwG := lw_in (i := 842) (by decide +kernel) rfl
theorem ki_X5_way : Cond.instanceMethod yX5_way ∈ lwG := lw_in (i := 843) (by decide +kernel) rfl
theorem ks_X5_way : Cond.selects RX5 yX5_way yX5_way ∈ lwG := lw_in (i := 844) (by decide +kernel) rfl
theorem kc_X5_way : Cond.code yX5_way cX5_way 6 (some FieldType.int) ∈ lwG := lw_in (i := 845) (by decide +kernel) rfl
theorem km_X5_229 : Cond.methodLinkNest RX5 229 yX2_nextMove "RingsOff" ∈ lwN := lw_inN (i := 846) (by decide +kernel) rfl
theorem ki_X2_nextMove : Cond.instanceMethod yX2_nextMove ∈ lwG := lw_in (i := 848) (by decide +kernel) rfl
theorem kc_X2_nextMove : Cond.code yX2_nextMove cX2_nextMove 5 (some FieldType.int) ∈ lwG := lw_in (i := 849) (by decide +kernel) rfl
theorem km_X2_89 : Cond.methodLink RX2 89 yX2_mayGo ∈ lwG := lw_in (i := 850) (by decide +kernel) rfl
theorem ki_X2_mayGo : Cond.instanceMethod yX2_mayGo ∈ lwG := lw_in (i := 852) (by decide +kernel) rfl
theorem kc_X2_mayGo : Cond.code yX2_mayGo cX2_mayGo 3 (some FieldType.boolean) ∈ lwG := lw_in (i := 853) (by decide +kernel) rfl
theorem km_X5_232 : Cond.methodLink RX5 232 yX5_ringsOf ∈ lwG := lw_in (i := 854) (by decide +kernel) rfl
theorem km_L_107 : Cond.methodLink RL 107 yX5_between ∈ lwG := lw_in (i := 855) (by decide +kernel) rfl
theorem ki_X5_between : Cond.instanceMethod yX5_between ∈ lwG := lw_in (i := 856) (by decide +kernel) rfl
theorem ks_X5_between : Cond.selects RX5 yX5_between yX5_between ∈ lwG := lw_in (i := 857) (by decide +kernel) rfl
theorem kc_X5_between : Cond.code yX5_between cX5_between 4 (some FieldType.int) ∈ lwG := lw_in (i := 858) (by decide +kernel) rfl
theorem km_L_111 : Cond.methodLink RL 111 yX5_place ∈ lwG := lw_in (i := 859) (by decide +kernel) rfl
theorem ki_X5_place : Cond.instanceMethod yX5_place ∈ lwG := lw_in (i := 860) (by decide +kernel) rfl
theorem ks_X5_place : Cond.selects RX5 yX5_place yX5_place ∈ lwG := lw_in (i := 861) (by decide +kernel) rfl
theorem kc_X5_place : Cond.code yX5_place cX5_place 3 (some FieldType.long) ∈ lwG := lw_in (i := 862) (by decide +kernel) rfl
theorem kq_X5_235 : Cond.constantLong RX5 235 (1152921504606846976 : Int64) ∈ lwG := lw_in (i := 863) (by decide +kernel) rfl
theorem km_L_116 : Cond.methodLink RL 116 yX5_setOf ∈ lwG := lw_in (i := 864) (by decide +kernel) rfl
theorem ki_X5_setOf : Cond.instanceMethod yX5_setOf ∈ lwG := lw_in (i := 865) (by decide +kernel) rfl
theorem ks_X5_setOf : Cond.selects RX5 yX5_setOf yX5_setOf ∈ lwG := lw_in (i := 866) (by decide +kernel) rfl
theorem kc_X5_setOf : Cond.code yX5_setOf cX5_setOf 3 (some FieldType.long) ∈ lwG := lw_in (i := 867) (by decide +kernel) rfl
theorem km_L_120 : Cond.methodLink RL 120 yX5_reach ∈ lwG := lw_in (i := 868) (by decide +kernel) rfl
theorem ki_X5_reach : Cond.instanceMethod yX5_reach ∈ lwG := lw_in (i := 869) (by decide +kernel) rfl
theorem ks_X5_reach : Cond.selects RX5 yX5_reach yX5_reach ∈ lwG := lw_in (i := 870) (by decide +kernel) rfl
theorem kc_X5_reach : Cond.code yX5_reach cX5_reach 2 (some FieldType.int) ∈ lwG := lw_in (i := 871) (by decide +kernel) rfl
theorem km_X5_237 : Cond.methodLink RX5 237 yX5_spreadFromNow ∈ lwG := lw_in (i := 872) (by decide +kernel) rfl
theorem ki_X5_spreadFromNow : Cond.instanceMethod yX5_spreadFromNow ∈ lwG := lw_in (i := 874) (by decide +kernel) rfl
theorem kc_X5_spreadFromNow : Cond.code yX5_spreadFromNow cX5_spreadFromNow 2 (none : Option Jvm.ClassFile.FieldType) ∈ lwG := lw_in (i := 875) (by decide +kernel) rfl
theorem km_L_124 : Cond.methodLink RL 124 yX5_farthest ∈ lwG := lw_in (i := 876) (by decide +kernel) rfl
theorem ki_X5_farthest : Cond.instanceMethod yX5_farthest ∈ lwG := lw_in (i := 877) (by decide +kernel) rfl
theorem ks_X5_farthest : Cond.selects RX5 yX5_farthest yX5_farthest ∈ lwG := lw_in (i := 878) (by decide +kernel) rfl
theorem kc_X5_farthest : Cond.code yX5_farthest cX5_farthest 4 (some FieldType.int) ∈ lwG := lw_in (i := 879) (by decide +kernel) rfl
theorem km_X5_243 : Cond.methodLinkNest RX5 243 yX2_farthestSet "RingsOff" ∈ lwN := lw_inN (i := 880) (by decide +kernel) rfl
theorem ki_X2_farthestSet : Cond.instanceMethod yX2_farthestSet ∈ lwG := lw_in (i := 882) (by decide +kernel) rfl
theorem kc_X2_farthestSet : Cond.code yX2_farthestSet cX2_farthestSet 3 (some FieldType.int) ∈ lwG := lw_in (i := 883) (by decide +kernel) rfl
theorem km_L_128 : Cond.methodLink RL 128 yX5_shape ∈ lwG := lw_in (i := 884) (by decide +kernel) rfl
theorem ki_X5_shape : Cond.instanceMethod yX5_shape ∈ lwG := lw_in (i := 885) (by decide +kernel) rfl
theorem ks_X5_shape : Cond.selects RX5 yX5_shape yX5_shape ∈ lwG := lw_in (i := 886) (by decide +kernel) rfl
theorem kc_X5_shape : Cond.code yX5_shape cX5_shape 2 (some FieldType.int) ∈ lwG := lw_in (i := 887) (by decide +kernel) rfl
theorem km_X5_250 : Cond.methodLinkNest RX5 250 yX2_shapeOfFound "RingsOff" ∈ lwN := lw_inN (i := 888) (by decide +kernel) rfl
theorem ki_X2_shapeOfFound : Cond.instanceMethod yX2_shapeOfFound ∈ lwG := lw_in (i := 890) (by decide +kernel) rfl
theorem kc_X2_shapeOfFound : Cond.code yX2_shapeOfFound cX2_shapeOfFound 5 (some FieldType.int) ∈ lwG := lw_in (i := 891) (by decide +kernel) rfl
theorem km_X2_93 : Cond.methodLink RX2 93 yX2_pairsOf ∈ lwG := lw_in (i := 892) (by decide +kernel) rfl
theorem ki_X2_pairsOf : Cond.instanceMethod yX2_pairsOf ∈ lwG := lw_in (i := 894) (by decide +kernel) rfl
theorem kc_X2_pairsOf : Cond.code yX2_pairsOf cX2_pairsOf 6 (some FieldType.int) ∈ lwG := lw_in (i := 895) (by decide +kernel) rfl
theorem km_X2_96 : Cond.methodLink RX2 96 yJ9_max_7cf53 ∈ lwG := lw_in (i := 896) (by decide +kernel) rfl
theorem kt_J9_max_7cf53 : Cond.static yJ9_max_7cf53 ∈ lwG := lw_in (i := 897) (by decide +kernel) rfl
theorem kc_J9_max_7cf53 : Cond.code yJ9_max_7cf53 cJ9_max_7cf53 2 (some FieldType.int) ∈ lwG := lw_in (i := 898) (by decide +kernel) rfl
theorem km_L_132 : Cond.methodLink RL 132 yX5_parts ∈ lwG := lw_in (i := 899) (by decide +kernel) rfl
theorem ki_X5_parts : Cond.instanceMethod yX5_parts ∈ lwG := lw_in (i := 900) (by decide +kernel) rfl
theorem ks_X5_parts : Cond.selects RX5 yX5_parts yX5_parts ∈ lwG := lw_in (i := 901) (by decide +kernel) rfl
theorem kc_X5_parts : Cond.code yX5_parts cX5_parts 2 (some FieldType.int) ∈ lwG := lw_in (i := 902) (by decide +kernel) rfl
theorem km_X5_256 : Cond.methodLinkNest RX5 256 yX2_countParts "RingsOff" ∈ lwN := lw_inN (i := 903) (by decide +kernel) rfl
theorem ki_X2_countParts : Cond.instanceMethod yX2_countParts ∈ lwG := lw_in (i := 905) (by decide +kernel) rfl
theorem kc_X2_countParts : Cond.code yX2_countParts cX2_countParts 3 (some FieldType.int) ∈ lwG := lw_in (i := 906) (by decide +kernel) rfl
theorem km_L_136 : Cond.methodLink RL 136 yX5_longest ∈ lwG := lw_in (i := 907) (by decide +kernel) rfl
theorem ki_X5_longest : Cond.instanceMethod yX5_longest ∈ lwG := lw_in (i := 908) (by decide +kernel) rfl
theorem ks_X5_longest : Cond.selects RX5 yX5_longest yX5_longest ∈ lwG := lw_in (i := 909) (by decide +kernel) rfl
theorem kc_X5_longest : Cond.code yX5_longest cX5_longest 2 (some FieldType.int) ∈ lwG := lw_in (i := 910) (by decide +kernel) rfl
theorem km_X5_259 : Cond.methodLinkNest RX5 259 yX2_greatestFewest "RingsOff" ∈ lwN := lw_inN (i := 911) (by decide +kernel) rfl
theorem ki_X2_greatestFewest : Cond.instanceMethod yX2_greatestFewest ∈ lwG := lw_in (i := 913) (by decide +kernel) rfl
theorem kc_X2_greatestFewest : Cond.code yX2_greatestFewest cX2_greatestFewest 3 (some FieldType.int) ∈ lwG := lw_in (i := 914) (by decide +kernel) rfl
theorem km_X2_99 : Cond.methodLink RX2 99 yX2_spreadAnew ∈ lwG := lw_in (i := 915) (by decide +kernel) rfl
theorem km_L_140 : Cond.methodLink RL 140 yX5_save ∈ lwG := lw_in (i := 916) (by decide +kernel) rfl
theorem ki_X5_save : Cond.instanceMethod yX5_save ∈ lwG := lw_in (i := 917) (by decide +kernel) rfl
theorem ks_X5_save : Cond.selects RX5 yX5_save yX5_save ∈ lwG := lw_in (i := 918) (by decide +kernel) rfl
theorem kc_X5_save : Cond.code yX5_save cX5_save 3 (some FieldType.int) ∈ lwG := lw_in (i := 919) (by decide +kernel) rfl
theorem km_X5_262 : Cond.methodLinkNest RX5 262 yX1_takePlain "RingsOff" ∈ lwN := lw_inN (i := 920) (by decide +kernel) rfl
theorem km_X5_269 : Cond.methodLinkNest RX5 269 yX2_forget "RingsOff" ∈ lwN := lw_inN (i := 921) (by decide +kernel) rfl
theorem km_X5_272 : Cond.methodLinkNest RX5 272 yX2_spread "RingsOff" ∈ lwN := lw_inN (i := 922) (by decide +kernel) rfl
theorem km_L_144 : Cond.methodLink RL 144 yX5_luck ∈ lwG := lw_in (i := 923) (by decide +kernel) rfl
theorem ki_X5_luck : Cond.instanceMethod yX5_luck ∈ lwG := lw_in (i := 924) (by decide +kernel) rfl
theorem ks_X5_luck : Cond.selects RX5 yX5_luck yX5_luck ∈ lwG := lw_in (i := 925) (by decide +kernel) rfl
theorem kc_X5_luck : Cond.code yX5_luck cX5_luck 4 (some FieldType.int) ∈ lwG := lw_in (i := 926) (by decide +kernel) rfl
theorem km_L_160 : Cond.methodLink RL 160 yX5_movable ∈ lwG := lw_in (i := 927) (by decide +kernel) rfl
theorem ki_X5_movable : Cond.instanceMethod yX5_movable ∈ lwG := lw_in (i := 928) (by decide +kernel) rfl
theorem ks_X5_movable : Cond.selects RX5 yX5_movable yX5_movable ∈ lwG := lw_in (i := 929) (by decide +kernel) rfl
theorem kc_X5_movable : Cond.code yX5_movable cX5_movable 2 (some FieldType.int) ∈ lwG := lw_in (i := 930) (by decide +kernel) rfl
theorem km_X5_275 : Cond.methodLinkNest RX5 275 yX2_movableRings "RingsOff" ∈ lwN := lw_inN (i := 931) (by decide +kernel) rfl
theorem ki_X2_movableRings : Cond.instanceMethod yX2_movableRings ∈ lwG := lw_in (i := 933) (by decide +kernel) rfl
theorem kc_X2_movableRings : Cond.code yX2_movableRings cX2_movableRings 3 (some FieldType.int) ∈ lwG := lw_in (i := 934) (by decide +kernel) rfl
theorem km_X2_102 : Cond.methodLinkNest RX2 102 yX5_hasBit "RingsOff" ∈ lwN := lw_inN (i := 935) (by decide +kernel) rfl
theorem km_L_164 : Cond.methodLink RL 164 yX5_ends ∈ lwG := lw_in (i := 936) (by decide +kernel) rfl
theorem ki_X5_ends : Cond.instanceMethod yX5_ends ∈ lwG := lw_in (i := 937) (by decide +kernel) rfl
theorem ks_X5_ends : Cond.selects RX5 yX5_ends yX5_ends ∈ lwG := lw_in (i := 938) (by decide +kernel) rfl
theorem kc_X5_ends : Cond.code yX5_ends cX5_ends 2 (some FieldType.int) ∈ lwG := lw_in (i := 939) (by decide +kernel) rfl
theorem km_X5_278 : Cond.methodLinkNest RX5 278 yX2_countEnds "RingsOff" ∈ lwN := lw_inN (i := 940) (by decide +kernel) rfl
theorem ki_X2_countEnds : Cond.instanceMethod yX2_countEnds ∈ lwG := lw_in (i := 942) (by decide +kernel) rfl
theorem kc_X2_countEnds : Cond.code yX2_countEnds cX2_countEnds 3 (some FieldType.int) ∈ lwG := lw_in (i := 943) (by decide +kernel) rfl
theorem km_X2_105 : Cond.methodLink RX2 105 yJ6_bitCount_0f7a4 ∈ lwG := lw_in (i := 944) (by decide +kernel) rfl
theorem km_L_168 : Cond.methodLink RL 168 yX5_first ∈ lwG := lw_in (i := 945) (by decide +kernel) rfl
theorem ki_X5_first : Cond.instanceMethod yX5_first ∈ lwG := lw_in (i := 946) (by decide +kernel) rfl
theorem ks_X5_first : Cond.selects RX5 yX5_first yX5_first ∈ lwG := lw_in (i := 947) (by decide +kernel) rfl
theorem kc_X5_first : Cond.code yX5_first cX5_first 3 (some FieldType.int) ∈ lwG := lw_in (i := 948) (by decide +kernel) rfl
theorem km_X5_281 : Cond.methodLinkNest RX5 281 yX2_soonestMoveOf "RingsOff" ∈ lwN := lw_inN (i := 949) (by decide +kernel) rfl
theorem ki_X2_soonestMoveOf : Cond.instanceMethod yX2_soonestMoveOf ∈ lwG := lw_in (i := 951) (by decide +kernel) rfl
theorem kc_X2_soonestMoveOf : Cond.code yX2_soonestMoveOf cX2_soonestMoveOf 4 (some FieldType.int) ∈ lwG := lw_in (i := 952) (by decide +kernel) rfl
theorem kq_X2_110 : Cond.constant RX2 110 (1048576 : Int32) ∈ lwG := lw_in (i := 953) (by decide +kernel) rfl
theorem km_L_172 : Cond.methodLink RL 172 yX5_chance ∈ lwG := lw_in (i := 954) (by decide +kernel) rfl
theorem ki_X5_chance : Cond.instanceMethod yX5_chance ∈ lwG := lw_in (i := 955) (by decide +kernel) rfl
theorem ks_X5_chance : Cond.selects RX5 yX5_chance yX5_chance ∈ lwG := lw_in (i := 956) (by decide +kernel) rfl
theorem kc_X5_chance : Cond.code yX5_chance cX5_chance 4 (some FieldType.int) ∈ lwG := lw_in (i := 957) (by decide +kernel) rfl
theorem km_X5_284 : Cond.methodLinkNest RX5 284 yX2_chanceOf "RingsOff" ∈ lwN := lw_inN (i := 958) (by decide +kernel) rfl
theorem ki_X2_chanceOf : Cond.instanceMethod yX2_chanceOf ∈ lwG := lw_in (i := 960) (by decide +kernel) rfl
theorem kc_X2_chanceOf : Cond.code yX2_chanceOf cX2_chanceOf 6 (some FieldType.int) ∈ lwG := lw_in (i := 961) (by decide +kernel) rfl
theorem kq_X2_111 : Cond.constant RX2 111 (1000000 : Int32) ∈ lwG := lw_in (i := 962) (by decide +kernel) rfl
theorem km_X2_112 : Cond.methodLink RX2 112 yX2_share ∈ lwG := lw_in (i := 963) (by decide +kernel) rfl
theorem ki_X2_share : Cond.instanceMethod yX2_share ∈ lwG := lw_in (i := 965) (by decide +kernel) rfl
theorem kc_X2_share : Cond.code yX2_share cX2_share 7 (none : Option Jvm.ClassFile.FieldType) ∈ lwG := lw_in (i := 966) (by decide +kernel) rfl
theorem km_X2_115 : Cond.methodLink RX2 115 yX2_addPart ∈ lwG := lw_in (i := 967) (by decide +kernel) rfl
theorem ki_X2_addPart : Cond.instanceMethod yX2_addPart ∈ lwG := lw_in (i := 969) (by decide +kernel) rfl
theorem kc_X2_addPart : Cond.code yX2_addPart cX2_addPart 3 (none : Option Jvm.ClassFile.FieldType) ∈ lwG := lw_in (i := 970) (by decide +kernel) rfl
theorem km_L_148 : Cond.methodLink RL 148 yX5_time ∈ lwG := lw_in (i := 971) (by decide +kernel) rfl
theorem ki_X5_time : Cond.instanceMethod yX5_time ∈ lwG := lw_in (i := 972) (by decide +kernel) rfl
theorem ks_X5_time : Cond.selects RX5 yX5_time yX5_time ∈ lwG := lw_in (i := 973) (by decide +kernel) rfl
theorem kc_X5_time : Cond.code yX5_time cX5_time 8 (some FieldType.int) ∈ lwG := lw_in (i := 974) (by decide +kernel) rfl
theorem km_X5_287 : Cond.methodLinkNest RX5 287 yX0_minutesOfMove "RingsOff" ∈ lwN := lw_inN (i := 975) (by decide +kernel) rfl
theorem ki_X0_minutesOfMove : Cond.instanceMethod yX0_minutesOfMove ∈ lwG := lw_in (i := 977) (by decide +kernel) rfl
theorem kc_X0_minutesOfMove : Cond.code yX0_minutesOfMove cX0_minutesOfMove 2 (some FieldType.int) ∈ lwG := lw_in (i := 978) (by decide +kernel) rfl
theorem km_X0_81 : Cond.methodLink RX0 81 yX0_minutesOf ∈ lwG := lw_in (i := 979) (by decide +kernel) rfl
theorem km_X0_84 : Cond.methodLink RX0 84 yJ9_max_7cf53 ∈ lwG := lw_in (i := 980) (by decide +kernel) rfl
theorem km_L_152 : Cond.methodLink RL 152 yX5_bell ∈ lwG := lw_in (i := 981) (by decide +kernel) rfl
theorem ki_X5_bell : Cond.instanceMethod yX5_bell ∈ lwG := lw_in (i := 982) (by decide +kernel) rfl
theorem ks_X5_bell : Cond.selects RX5 yX5_bell yX5_bell ∈ lwG := lw_in (i := 983) (by decide +kernel) rfl
theorem kc_X5_bell : Cond.code yX5_bell cX5_bell 10 (some FieldType.int) ∈ lwG := lw_in (i := 984) (by decide +kernel) rfl
theorem km_L_156 : Cond.methodLink RL 156 yX5_lock ∈ lwG := lw_in (i := 985) (by decide +kernel) rfl
theorem ki_X5_lock : Cond.instanceMethod yX5_lock ∈ lwG := lw_in (i := 986) (by decide +kernel) rfl
theorem ks_X5_lock : Cond.selects RX5 yX5_lock yX5_lock ∈ lwG := lw_in (i := 987) (by decide +kernel) rfl
theorem kc_X5_lock : Cond.code yX5_lock cX5_lock 3 (some FieldType.int) ∈ lwG := lw_in (i := 988) (by decide +kernel) rfl
theorem kq_X5_290 : Cond.constant RX5 290 (99999 : Int32) ∈ lwG := lw_in (i := 989) (by decide +kernel) rfl
theorem km_X5_291 : Cond.methodLinkNest RX5 291 yX0_minutesOfChain "RingsOff" ∈ lwN := lw_inN (i := 990) (by decide +kernel) rfl
theorem ki_X0_minutesOfChain : Cond.instanceMethod yX0_minutesOfChain ∈ lwG := lw_in (i := 992) (by decide +kernel) rfl
theorem kc_X0_minutesOfChain : Cond.code yX0_minutesOfChain cX0_minutesOfChain 4 (some FieldType.int) ∈ lwG := lw_in (i := 993) (by decide +kernel) rfl
theorem km_X0_89 : Cond.methodLinkNest RX0 89 yX5_grayPlace "RingsOff" ∈ lwN := lw_inN (i := 994) (by decide +kernel) rfl
theorem km_X0_93 : Cond.methodLink RX0 93 yJ6_numberOfTrailingZeros_0f7a4 ∈ lwG := lw_in (i := 995) (by decide +kernel) rfl
theorem kt_J6_numberOfTrailingZeros_0f7a4 : Cond.static yJ6_numberOfTrailingZeros_0f7a4 ∈ lwG := lw_in (i := 996) (by decide +kernel) rfl
theorem kc_J6_numberOfTrailingZeros_0f7a4 : Cond.code yJ6_numberOfTrailingZeros_0f7a4 cJ6_numberOfTrailingZeros_0f7a4 2 (some FieldType.int) ∈ lwG := lw_in (i := 997) (by decide +kernel) rfl
theorem km_L_176 : Cond.methodLink RL 176 yX5_pictures ∈ lwG := lw_in (i := 998) (by decide +kernel) rfl
theorem ki_X5_pictures : Cond.instanceMethod yX5_pictures ∈ lwG := lw_in (i := 999) (by decide +kernel) rfl
theorem ks_X5_pictures : Cond.selects RX5 yX5_pictures yX5_pictures ∈ lwG := lw_in (i := 1000) (by decide +kernel) rfl
theorem kc_X5_pictures : Cond.code yX5_pictures cX5_pictures 8 (some FieldType.int) ∈ lwG := lw_in (i := 1001) (by decide +kernel) rfl
theorem km_X5_294 : Cond.methodLink RX5 294 yX5_whyNoPictures ∈ lwG := lw_in (i := 1002) (by decide +kernel) rfl
theorem ki_X5_whyNoPictures : Cond.instanceMethod yX5_whyNoPictures ∈ lwG := lw_in (i := 1004) (by decide +kernel) rfl
theorem kc_X5_whyNoPictures : Cond.code yX5_whyNoPictures cX5_whyNoPictures 6 (some FieldType.int) ∈ lwG := lw_in (i := 1005) (by decide +kernel) rfl
theorem km_X5_367 : Cond.methodLink RX5 367 yX5_whyNoRow ∈ lwG := lw_in (i := 1006) (by decide +kernel) rfl
theorem ki_X5_whyNoRow : Cond.instanceMethod yX5_whyNoRow ∈ lwG := lw_in (i := 1008) (by decide +kernel) rfl
theorem kc_X5_whyNoRow : Cond.code yX5_whyNoRow cX5_whyNoRow 6 (some FieldType.int) ∈ lwG := lw_in (i := 1009) (by decide +kernel) rfl
theorem km_X5_297 : Cond.methodLink RX5 297 yX5_stepsToPicture ∈ lwG := lw_in (i := 1010) (by decide +kernel) rfl
theorem ki_X5_stepsToPicture : Cond.instanceMethod yX5_stepsToPicture ∈ lwG := lw_in (i := 1012) (by decide +kernel) rfl
theorem kc_X5_stepsToPicture : Cond.code yX5_stepsToPicture cX5_stepsToPicture 4 (some FieldType.int) ∈ lwG := lw_in (i := 1013) (by decide +kernel) rfl
theorem km_X5_303 : Cond.methodLink RX5 303 yX5_pictureAhead ∈ lwG := lw_in (i := 1014) (by decide +kernel) rfl
theorem ki_X5_pictureAhead : Cond.instanceMethod yX5_pictureAhead ∈ lwG := lw_in (i := 1016) (by decide +kernel) rfl
theorem kc_X5_pictureAhead : Cond.code yX5_pictureAhead cX5_pictureAhead 4 (some FieldType.int) ∈ lwG := lw_in (i := 1017) (by decide +kernel) rfl
theorem km_L_180 : Cond.methodLink RL 180 yX5_broken ∈ lwG := lw_in (i := 1018) (by decide +kernel) rfl
theorem ki_X5_broken : Cond.instanceMethod yX5_broken ∈ lwG := lw_in (i := 1019) (by decide +kernel) rfl
theorem ks_X5_broken : Cond.selects RX5 yX5_broken yX5_broken ∈ lwG := lw_in (i := 1020) (by decide +kernel) rfl
theorem kc_X5_broken : Cond.code yX5_broken cX5_broken 5 (some FieldType.int) ∈ lwG := lw_in (i := 1021) (by decide +kernel) rfl
theorem km_X5_300 : Cond.methodLink RX5 300 yX5_brokenPicture ∈ lwG := lw_in (i := 1022) (by decide +kernel) rfl
theorem ki_X5_brokenPicture : Cond.instanceMethod yX5_brokenPicture ∈ lwG := lw_in (i := 1024) (by decide +kernel) rfl
theorem kc_X5_brokenPicture : Cond.code yX5_brokenPicture cX5_brokenPicture 5 (some FieldType.int) ∈ lwG := lw_in (i := 1025) (by decide +kernel) rfl
theorem km_L_184 : Cond.methodLink RL 184 yX5_once ∈ lwG := lw_in (i := 1026) (by decide +kernel) rfl
theorem ki_X5_once : Cond.instanceMethod yX5_once ∈ lwG := lw_in (i := 1027) (by decide +kernel) rfl
theorem ks_X5_once : Cond.selects RX5 yX5_once yX5_once ∈ lwG := lw_in (i := 1028) (by decide +kernel) rfl
theorem kc_X5_once : Cond.code yX5_once cX5_once 8 (some FieldType.int) ∈ lwG := lw_in (i := 1029) (by decide +kernel) rfl
theorem km_L_188 : Cond.methodLink RL 188 yX5_judge ∈ lwG := lw_in (i := 1030) (by decide +kernel) rfl
theorem ki_X5_judge : Cond.instanceMethod yX5_judge ∈ lwG := lw_in (i := 1031) (by decide +kernel) rfl
theorem ks_X5_judge : Cond.selects RX5 yX5_judge yX5_judge ∈ lwG := lw_in (i := 1032) (by decide +kernel) rfl
theorem kc_X5_judge : Cond.code yX5_judge cX5_judge 5 (some FieldType.int) ∈ lwG := lw_in (i := 1033) (by decide +kernel) rfl
theorem km_X5_309 : Cond.methodLink RX5 309 yX5_whyNoMoves ∈ lwG := lw_in (i := 1034) (by decide +kernel) rfl
theorem ki_X5_whyNoMoves : Cond.instanceMethod yX5_whyNoMoves ∈ lwG := lw_in (i := 1036) (by decide +kernel) rfl
theorem kc_X5_whyNoMoves : Cond.code yX5_whyNoMoves cX5_whyNoMoves 4 (some FieldType.int) ∈ lwG := lw_in (i := 1037) (by decide +kernel) rfl
theorem km_X5_312 : Cond.methodLink RX5 312 yX5_judgedMove ∈ lwG := lw_in (i := 1038) (by decide +kernel) rfl
theorem ki_X5_judgedMove : Cond.instanceMethod yX5_judgedMove ∈ lwG := lw_in (i := 1040) (by decide +kernel) rfl
theorem kc_X5_judgedMove : Cond.code yX5_judgedMove cX5_judgedMove 8 (some FieldType.int) ∈ lwG := lw_in (i := 1041) (by decide +kernel) rfl
theorem kq_X5_371 : Cond.constantLong RX5 371 (20 : Int64) ∈ lwG := lw_in (i := 1042) (by decide +kernel) rfl
theorem km_L_192 : Cond.methodLink RL 192 yX5_behind ∈ lwG := lw_in (i := 1043) (by decide +kernel) rfl
theorem ki_X5_behind : Cond.instanceMethod yX5_behind ∈ lwG := lw_in (i := 1044) (by decide +kernel) rfl
theorem ks_X5_behind : Cond.selects RX5 yX5_behind yX5_behind ∈ lwG := lw_in (i := 1045) (by decide +kernel) rfl
theorem kc_X5_behind : Cond.code yX5_behind cX5_behind 5 (some FieldType.int) ∈ lwG := lw_in (i := 1046) (by decide +kernel) rfl
theorem km_X5_315 : Cond.methodLink RX5 315 yX5_whyNotMade ∈ lwG := lw_in (i := 1047) (by decide +kernel) rfl
theorem ki_X5_whyNotMade : Cond.instanceMethod yX5_whyNotMade ∈ lwG := lw_in (i := 1049) (by decide +kernel) rfl
theorem kc_X5_whyNotMade : Cond.code yX5_whyNotMade cX5_whyNotMade 5 (some FieldType.int) ∈ lwG := lw_in (i := 1050) (by decide +kernel) rfl
theorem km_X5_318 : Cond.methodLink RX5 318 yX5_onBehind ∈ lwG := lw_in (i := 1051) (by decide +kernel) rfl
theorem ki_X5_onBehind : Cond.instanceMethod yX5_onBehind ∈ lwG := lw_in (i := 1053) (by decide +kernel) rfl
theorem kc_X5_onBehind : Cond.code yX5_onBehind cX5_onBehind 6 (some FieldType.int) ∈ lwG := lw_in (i := 1054) (by decide +kernel) rfl
theorem km_L_196 : Cond.methodLink RL 196 yX5_moved ∈ lwG := lw_in (i := 1055) (by decide +kernel) rfl
theorem ki_X5_moved : Cond.instanceMethod yX5_moved ∈ lwG := lw_in (i := 1056) (by decide +kernel) rfl
theorem ks_X5_moved : Cond.selects RX5 yX5_moved yX5_moved ∈ lwG := lw_in (i := 1057) (by decide +kernel) rfl
theorem kc_X5_moved : Cond.code yX5_moved cX5_moved 6 (some FieldType.int) ∈ lwG := lw_in (i := 1058) (by decide +kernel) rfl
theorem km_L_200 : Cond.methodLink RL 200 yX5_game ∈ lwG := lw_in (i := 1059) (by decide +kernel) rfl
theorem ki_X5_game : Cond.instanceMethod yX5_game ∈ lwG := lw_in (i := 1060) (by decide +kernel) rfl
theorem ks_X5_game : Cond.selects RX5 yX5_game yX5_game ∈ lwG := lw_in (i := 1061) (by decide +kernel) rfl
theorem kc_X5_game : Cond.code yX5_game cX5_game 5 (some FieldType.int) ∈ lwG := lw_in (i := 1062) (by decide +kernel) rfl
theorem km_X5_321 : Cond.methodLink RX5 321 yX5_winningMove ∈ lwG := lw_in (i := 1063) (by decide +kernel) rfl
theorem kt_X5_winningMove : Cond.static yX5_winningMove ∈ lwG := lw_in (i := 1064) (by decide +kernel) rfl
theorem kc_X5_winningMove : Cond.code yX5_winningMove cX5_winningMove 7 (some FieldType.int) ∈ lwG := lw_in (i := 1065) (by decide +kernel) rfl
theorem km_X5_374 : Cond.methodLinkNest RX5 374 yX2_moveOf "RingsOff" ∈ lwN := lw_inN (i := 1066) (by decide +kernel) rfl
theorem km_X5_377 : Cond.methodLinkNest RX5 377 yX2_mayGo "RingsOff" ∈ lwN := lw_inN (i := 1067) (by decide +kernel) rfl
theorem km_L_204 : Cond.methodLink RL 204 yX5_goes ∈ lwG := lw_in (i := 1068) (by decide +kernel) rfl
theorem ki_X5_goes : Cond.instanceMethod yX5_goes ∈ lwG := lw_in (i := 1069) (by decide +kernel) rfl
theorem ks_X5_goes : Cond.selects RX5 yX5_goes yX5_goes ∈ lwG := lw_in (i := 1070) (by decide +kernel) rfl
theorem kc_X5_goes : Cond.code yX5_goes cX5_goes 7 (some FieldType.int) ∈ lwG := lw_in (i := 1071) (by decide +kernel) rfl
theorem km_X5_325 : Cond.methodLink RX5 325 yJ9_min_7cf53 ∈ lwG := lw_in (i := 1072) (by decide +kernel) rfl
theorem km_L_208 : Cond.methodLink RL 208 yX5_play ∈ lwG := lw_in (i := 1073) (by decide +kernel) rfl
theorem ki_X5_play : Cond.instanceMethod yX5_play ∈ lwG := lw_in (i := 1074) (by decide +kernel) rfl
theorem ks_X5_play : Cond.selects RX5 yX5_play yX5_play ∈ lwG := lw_in (i := 1075) (by decide +kernel) rfl
theorem kc_X5_play : Cond.code yX5_play cX5_play 5 (some FieldType.int) ∈ lwG := lw_in (i := 1076) (by decide +kernel) rfl
theorem km_X5_337 : Cond.methodLinkNest RX5 337 yX0_draw "RingsOff" ∈ lwN := lw_inN (i := 1077) (by decide +kernel) rfl
theorem ki_X0_draw : Cond.instanceMethod yX0_draw ∈ lwG := lw_in (i := 1079) (by decide +kernel) rfl
theorem kc_X0_draw : Cond.code yX0_draw cX0_draw 2 (some FieldType.int) ∈ lwG := lw_in (i := 1080) (by decide +kernel) rfl
theorem kq_X0_80 : Cond.constant RX0 80 (1103515245 : Int32) ∈ lwG := lw_in (i := 1081) (by decide +kernel) rfl
theorem km_X5_340 : Cond.methodLink RX5 340 yX5_bitByNumber ∈ lwG := lw_in (i := 1082) (by decide +kernel) rfl
theorem kt_X5_bitByNumber : Cond.static yX5_bitByNumber ∈ lwG := lw_in (i := 1083) (by decide +kernel) rfl
theorem kc_X5_bitByNumber : Cond.code yX5_bitByNumber cX5_bitByNumber 4 (some FieldType.int) ∈ lwG := lw_in (i := 1084) (by decide +kernel) rfl
theorem km_L_212 : Cond.methodLink RL 212 yX5_drop ∈ lwG := lw_in (i := 1085) (by decide +kernel) rfl
theorem ki_X5_drop : Cond.instanceMethod yX5_drop ∈ lwG := lw_in (i := 1086) (by decide +kernel) rfl
theorem ks_X5_drop : Cond.selects RX5 yX5_drop yX5_drop ∈ lwG := lw_in (i := 1087) (by decide +kernel) rfl
theorem kc_X5_drop : Cond.code yX5_drop cX5_drop 1 (some FieldType.int) ∈ lwG := lw_in (i := 1088) (by decide +kernel) rfl
theorem km_X5_346 : Cond.methodLinkNest RX5 346 yX3_freeBarsFrom "RingsOff" ∈ lwN := lw_inN (i := 1089) (by decide +kernel) rfl
theorem ki_X3_freeBarsFrom : Cond.instanceMethod yX3_freeBarsFrom ∈ lwG := lw_in (i := 1091) (by decide +kernel) rfl
theorem kc_X3_freeBarsFrom : Cond.code yX3_freeBarsFrom cX3_freeBarsFrom 3 (none : Option Jvm.ClassFile.FieldType) ∈ lwG := lw_in (i := 1092) (by decide +kernel) rfl
theorem km_X3_46 : Cond.methodLink RX3 46 yX3_barIn ∈ lwG := lw_in (i := 1093) (by decide +kernel) rfl
theorem km_X3_49 : Cond.methodLink RX3 49 yX3_free ∈ lwG := lw_in (i := 1094) (by decide +kernel) rfl
theorem km_L_216 : Cond.methodLink RL 216 yX5_seed ∈ lwG := lw_in (i := 1095) (by decide +kernel) rfl
theorem ki_X5_seed : Cond.instanceMethod yX5_seed ∈ lwG := lw_in (i := 1096) (by decide +kernel) rfl
theorem ks_X5_seed : Cond.selects RX5 yX5_seed yX5_seed ∈ lwG := lw_in (i := 1097) (by decide +kernel) rfl
theorem kc_X5_seed : Cond.code yX5_seed cX5_seed 3 (some FieldType.int) ∈ lwG := lw_in (i := 1098) (by decide +kernel) rfl
theorem km_L_220 : Cond.methodLink RL 220 yX5_image ∈ lwG := lw_in (i := 1099) (by decide +kernel) rfl
theorem ki_X5_image : Cond.instanceMethod yX5_image ∈ lwG := lw_in (i := 1100) (by decide +kernel) rfl
theorem ks_X5_image : Cond.selects RX5 yX5_image yX5_image ∈ lwG := lw_in (i := 1101) (by decide +kernel) rfl
theorem kc_X5_image : Cond.code yX5_image cX5_image 1 (some FieldType.int) ∈ lwG := lw_in (i := 1102) (by decide +kernel) rfl
theorem km_L_224 : Cond.methodLink RL 224 yX5_back ∈ lwG := lw_in (i := 1103) (by decide +kernel) rfl
theorem ki_X5_back : Cond.instanceMethod yX5_back ∈ lwG := lw_in (i := 1104) (by decide +kernel) rfl
theorem ks_X5_back : Cond.selects RX5 yX5_back yX5_back ∈ lwG := lw_in (i := 1105) (by decide +kernel) rfl
theorem kc_X5_back : Cond.code yX5_back cX5_back 1 (some FieldType.int) ∈ lwG := lw_in (i := 1106) (by decide +kernel) rfl
theorem km_L_228 : Cond.methodLink RL 228 yX5_status ∈ lwG := lw_in (i := 1107) (by decide +kernel) rfl
theorem ki_X5_status : Cond.instanceMethod yX5_status ∈ lwG := lw_in (i := 1108) (by decide +kernel) rfl
theorem ks_X5_status : Cond.selects RX5 yX5_status yX5_status ∈ lwG := lw_in (i := 1109) (by decide +kernel) rfl
theorem kc_X5_status : Cond.code yX5_status cX5_status 2 (some FieldType.int) ∈ lwG := lw_in (i := 1110) (by decide +kernel) rfl
theorem km_X5_352 : Cond.methodLinkNest RX5 352 yX0_ringsOn "RingsOff" ∈ lwN := lw_inN (i := 1111) (by decide +kernel) rfl
theorem ki_X0_ringsOn : Cond.instanceMethod yX0_ringsOn ∈ lwG := lw_in (i := 1113) (by decide +kernel) rfl
theorem kc_X0_ringsOn : Cond.code yX0_ringsOn cX0_ringsOn 3 (some FieldType.int) ∈ lwG := lw_in (i := 1114) (by decide +kernel) rfl
theorem km_X0_98 : Cond.methodLink RX0 98 yX0_onOf ∈ lwG := lw_in (i := 1115) (by decide +kernel) rfl
theorem km_X0_101 : Cond.methodLink RX0 101 yJ6_bitCount_0f7a4 ∈ lwG := lw_in (i := 1116) (by decide +kernel) rfl
theorem km_X5_355 : Cond.methodLinkNest RX5 355 yX0_ringsStuck "RingsOff" ∈ lwN := lw_inN (i := 1117) (by decide +kernel) rfl
theorem ki_X0_ringsStuck : Cond.instanceMethod yX0_ringsStuck ∈ lwG := lw_in (i := 1119) (by decide +kernel) rfl
theorem kc_X0_ringsStuck : Cond.code yX0_ringsStuck cX0_ringsStuck 3 (some FieldType.int) ∈ lwG := lw_in (i := 1120) (by decide +kernel) rfl
theorem km_X0_104 : Cond.methodLink RX0 104 yX0_stuckOf ∈ lwG := lw_in (i := 1121) (by decide +kernel) rfl
theorem km_X5_361 : Cond.methodLinkNest RX5 361 yX0_allMinutes "RingsOff" ∈ lwN := lw_inN (i := 1122) (by decide +kernel) rfl
theorem ki_X0_allMinutes : Cond.instanceMethod yX0_allMinutes ∈ lwG := lw_in (i := 1124) (by decide +kernel) rfl
theorem kc_X0_allMinutes : Cond.code yX0_allMinutes cX0_allMinutes 3 (some FieldType.int) ∈ lwG := lw_in (i := 1125) (by decide +kernel) rfl
theorem km_X5_364 : Cond.methodLinkNest RX5 364 yX3_countHeld "RingsOff" ∈ lwN := lw_inN (i := 1126) (by decide +kernel) rfl
theorem ki_X3_countHeld : Cond.instanceMethod yX3_countHeld ∈ lwG := lw_in (i := 1128) (by decide +kernel) rfl
theorem kc_X3_countHeld : Cond.code yX3_countHeld cX3_countHeld 3 (some FieldType.int) ∈ lwG := lw_in (i := 1129) (by decide +kernel) rfl
theorem kl_L_10 : Cond.classLink RL 10 "RingsOffModel" ∈ lwG := lw_in (i := 1130) (by decide +kernel) rfl
theorem kz_X6 : Cond.instantiable RX6 35 ∈ lwG := lw_in (i := 1131) (by decide +kernel) rfl
theorem km_L_12 : Cond.methodLink RL 12 yX6_init ∈ lwG := lw_in (i := 1132) (by decide +kernel) rfl
theorem ki_X6_init : Cond.instanceMethod yX6_init ∈ lwG := lw_in (i := 1133) (by decide +kernel) rfl
theorem kc_X6_init : Cond.code yX6_init cX6_init 2 (none : Option Jvm.ClassFile.FieldType) ∈ lwG := lw_in (i := 1134) (by decide +kernel) rfl
theorem km_X6_1 : Cond.methodLink RX6 1 Lib.objectInit ∈ lwG := lw_in (i := 1135) (by decide +kernel) rfl
theorem kl_X6_19 : Cond.classLink RX6 19 "[[J" ∈ lwG := lw_in (i := 1136) (by decide +kernel) rfl
theorem kl_X6_49 : Cond.classLink RX6 49 "[[I" ∈ lwG := lw_in (i := 1138) (by decide +kernel) rfl
theorem kf_X6_7 : Cond.fieldLink RX6 7 "RingsOffModel" "shelf" "[I" ∈ lwG := lw_in (i := 1140) (by decide +kernel) rfl
theorem kf_X6_13 : Cond.fieldLink RX6 13 "RingsOffModel" "rowSort" "[I" ∈ lwG := lw_in (i := 1141) (by decide +kernel) rfl
theorem kf_X6_16 : Cond.fieldLink RX6 16 "RingsOffModel" "rowSize" "[I" ∈ lwG := lw_in (i := 1142) (by decide +kernel) rfl
theorem kf_X6_21 : Cond.fieldLink RX6 21 "RingsOffModel" "rows" "[[J" ∈ lwG := lw_in (i := 1143) (by decide +kernel) rfl
theorem kf_X6_24 : Cond.fieldLink RX6 24 "RingsOffModel" "moved1" "[J" ∈ lwG := lw_in (i := 1144) (by decide +kernel) rfl
theorem kf_X6_28 : Cond.fieldLink RX6 28 "RingsOffModel" "shown" "[I" ∈ lwG := lw_in (i := 1145) (by decide +kernel) rfl
theorem kf_X6_31 : Cond.fieldLink RX6 31 "RingsOffModel" "tape" "[I" ∈ lwG := lw_in (i := 1146) (by decide +kernel) rfl
theorem kf_X6_157 : Cond.fieldLink RX6 157 "RingsOffModel" "tapeSize" "I" ∈ lwG := lw_in (i := 1147) (by decide +kernel) rfl
theorem kf_X6_34 : Cond.fieldLink RX6 34 "RingsOffModel" "refused" "[I" ∈ lwG := lw_in (i := 1148) (by decide +kernel) rfl
theorem kf_X6_79 : Cond.fieldLink RX6 79 "RingsOffModel" "bars" "I" ∈ lwG := lw_in (i := 1149) (by decide +kernel) rfl
theorem kf_X6_37 : Cond.fieldLink RX6 37 "RingsOffModel" "kind" "[I" ∈ lwG := lw_in (i := 1150) (by decide +kernel) rfl
theorem kf_X6_40 : Cond.fieldLink RX6 40 "RingsOffModel" "size" "[I" ∈ lwG := lw_in (i := 1151) (by decide +kernel) rfl
theorem kf_X6_43 : Cond.fieldLink RX6 43 "RingsOffModel" "on" "[I" ∈ lwG := lw_in (i := 1152) (by decide +kernel) rfl
theorem kf_X6_46 : Cond.fieldLink RX6 46 "RingsOffModel" "stuck" "[I" ∈ lwG := lw_in (i := 1153) (by decide +kernel) rfl
theorem kf_X6_51 : Cond.fieldLink RX6 51 "RingsOffModel" "must" "[[I" ∈ lwG := lw_in (i := 1154) (by decide +kernel) rfl
theorem kf_X6_54 : Cond.fieldLink RX6 54 "RingsOffModel" "not" "[[I" ∈ lwG := lw_in (i := 1155) (by decide +kernel) rfl
theorem kf_X6_57 : Cond.fieldLink RX6 57 "RingsOffModel" "minutes" "[I" ∈ lwG := lw_in (i := 1156) (by decide +kernel) rfl
theorem kf_X6_215 : Cond.fieldLink RX6 215 "RingsOffModel" "movedAll" "I" ∈ lwG := lw_in (i := 1157) (by decide +kernel) rfl
theorem kf_X6_60 : Cond.fieldLink RX6 60 "RingsOffModel" "seed" "I" ∈ lwG := lw_in (i := 1158) (by decide +kernel) rfl
theorem kf_X6_330 : Cond.fieldLink RX6 330 "RingsOffModel" "kept" "LRingsOffModel;" ∈ lwG := lw_in (i := 1159) (by decide +kernel) rfl
theorem kf_X6_241 : Cond.fieldLink RX6 241 "RingsOffModel" "tried" "LRingsOffModel;" ∈ lwG := lw_in (i := 1160) (by decide +kernel) rfl
theorem kf_X6_160 : Cond.fieldLink RX6 160 "RingsOffModel" "at" "I" ∈ lwG := lw_in (i := 1161) (by decide +kernel) rfl
theorem kf_X6_169 : Cond.fieldLink RX6 169 "RingsOffModel" "token" "I" ∈ lwG := lw_in (i := 1162) (by decide +kernel) rfl
theorem kf_X6_163 : Cond.fieldLink RX6 163 "RingsOffModel" "from" "I" ∈ lwG := lw_in (i := 1163) (by decide +kernel) rfl
theorem kf_X6_166 : Cond.fieldLink RX6 166 "RingsOffModel" "figures" "I" ∈ lwG := lw_in (i := 1164) (by decide +kernel) rfl
theorem kf_X6_179 : Cond.fieldLink RX6 179 "RingsOffModel" "fault" "I" ∈ lwG := lw_in (i := 1165) (by decide +kernel) rfl
theorem kf_X6_64 : Cond.fieldLink RX6 64 "RingsOffModel" "told" "[I" ∈ lwG := lw_in (i := 1166) (by decide +kernel) rfl
theorem kf_X6_235 : Cond.fieldLink RX6 235 "RingsOffModel" "statements" "I" ∈ lwG := lw_in (i := 1167) (by decide +kernel) rfl
theorem kf_X6_67 : Cond.fieldLink RX6 67 "RingsOffModel" "far" "[I" ∈ lwG := lw_in (i := 1168) (by decide +kernel) rfl
theorem kf_X6_70 : Cond.fieldLink RX6 70 "RingsOffModel" "queue" "[I" ∈ lwG := lw_in (i := 1169) (by decide +kernel) rfl
theorem kf_X6_266 : Cond.fieldLink RX6 266 "RingsOffModel" "queued" "I" ∈ lwG := lw_in (i := 1170) (by decide +kernel) rfl
theorem kf_X6_73 : Cond.fieldLink RX6 73 "RingsOffModel" "parts1" "[I" ∈ lwG := lw_in (i := 1171) (by decide +kernel) rfl
theorem kf_X6_76 : Cond.fieldLink RX6 76 "RingsOffModel" "parts2" "[I" ∈ lwG := lw_in (i := 1172) (by decide +kernel) rfl
theorem kf_X6_295 : Cond.fieldLink RX6 295 "RingsOffModel" "picturesSum" "I" ∈ lwG := lw_in (i := 1173) (by decide +kernel) rfl
theorem kf_X6_305 : Cond.fieldLink RX6 305 "RingsOffModel" "behindAll" "I" ∈ lwG := lw_in (i := 1174) (by decide +kernel) rfl
theorem km_L_17 : Cond.methodLink RL 17 yX6_row ∈ lwG := lw_in (i := 1246) (by decide +kernel) rfl
theorem ki_X6_row : Cond.instanceMethod yX6_row ∈ lwG := lw_in (i := 1247) (by decide +kernel) rfl
theorem ks_X6_row : Cond.selects RX6 yX6_row yX6_row ∈ lwG := lw_in (i := 1248) (by decide +kernel) rfl
theorem kc_X6_row : Cond.code yX6_row cX6_row 5 (some FieldType.int) ∈ lwG := lw_in (i := 1249) (by decide +kernel) rfl
theorem kq_X6_90 : Cond.constantLong RX6 90 (7 : Int64) ∈ lwG := lw_in (i := 1250) (by decide +kernel) rfl
theorem km_X6_82 : Cond.methodLink RX6 82 yX6_in ∈ lwG := lw_in (i := 1251) (by decide +kernel) rfl
theorem kt_X6_in : Cond.static yX6_in ∈ lwG := lw_in (i := 1252) (by decide +kernel) rfl
theorem kc_X6_in : Cond.code yX6_in cX6_in 6 (some FieldType.boolean) ∈ lwG := lw_in (i := 1253) (by decide +kernel) rfl
theorem kq_X6_92 : Cond.constantLong RX6 92 (4 : Int64) ∈ lwG := lw_in (i := 1254) (by decide +kernel) rfl
theorem kq_X6_94 : Cond.constantLong RX6 94 (40 : Int64) ∈ lwG := lw_in (i := 1255) (by decide +kernel) rfl
theorem km_X6_96 : Cond.methodLink RX6 96 yX6_refuse ∈ lwG := lw_in (i := 1256) (by decide +kernel) rfl
theorem ki_X6_refuse : Cond.instanceMethod yX6_refuse ∈ lwG := lw_in (i := 1258) (by decide +kernel) rfl
theorem kc_X6_refuse : Cond.code yX6_refuse cX6_refuse 2 (some FieldType.int) ∈ lwG := lw_in (i := 1259) (by decide +kernel) rfl
theorem km_L_24 : Cond.methodLink RL 24 yX6_set ∈ lwG := lw_in (i := 1260) (by decide +kernel) rfl
theorem ki_X6_set : Cond.instanceMethod yX6_set ∈ lwG := lw_in (i := 1261) (by decide +kernel) rfl
theorem ks_X6_set : Cond.selects RX6 yX6_set yX6_set ∈ lwG := lw_in (i := 1262) (by decide +kernel) rfl
theorem kc_X6_set : Cond.code yX6_set cX6_set 6 (some FieldType.int) ∈ lwG := lw_in (i := 1263) (by decide +kernel) rfl
theorem km_X6_99 : Cond.methodLink RX6 99 yX6_noRow ∈ lwG := lw_in (i := 1264) (by decide +kernel) rfl
theorem ki_X6_noRow : Cond.instanceMethod yX6_noRow ∈ lwG := lw_in (i := 1266) (by decide +kernel) rfl
theorem kc_X6_noRow : Cond.code yX6_noRow cX6_noRow 2 (some FieldType.int) ∈ lwG := lw_in (i := 1267) (by decide +kernel) rfl
theorem km_X6_102 : Cond.methodLink RX6 102 yX6_fit ∈ lwG := lw_in (i := 1268) (by decide +kernel) rfl
theorem kt_X6_fit : Cond.static yX6_fit ∈ lwG := lw_in (i := 1269) (by decide +kernel) rfl
theorem kc_X6_fit : Cond.code yX6_fit cX6_fit 3 (some FieldType.long) ∈ lwG := lw_in (i := 1270) (by decide +kernel) rfl
theorem km_L_29 : Cond.methodLink RL 29 yX6_copy ∈ lwG := lw_in (i := 1271) (by decide +kernel) rfl
theorem ki_X6_copy : Cond.instanceMethod yX6_copy ∈ lwG := lw_in (i := 1272) (by decide +kernel) rfl
theorem ks_X6_copy : Cond.selects RX6 yX6_copy yX6_copy ∈ lwG := lw_in (i := 1273) (by decide +kernel) rfl
theorem kc_X6_copy : Cond.code yX6_copy cX6_copy 7 (some FieldType.int) ∈ lwG := lw_in (i := 1274) (by decide +kernel) rfl
theorem km_L_34 : Cond.methodLink RL 34 yX6_element ∈ lwG := lw_in (i := 1275) (by decide +kernel) rfl
theorem ki_X6_element : Cond.instanceMethod yX6_element ∈ lwG := lw_in (i := 1276) (by decide +kernel) rfl
theorem ks_X6_element : Cond.selects RX6 yX6_element yX6_element ∈ lwG := lw_in (i := 1277) (by decide +kernel) rfl
theorem kc_X6_element : Cond.code yX6_element cX6_element 3 (some FieldType.long) ∈ lwG := lw_in (i := 1278) (by decide +kernel) rfl
theorem km_L_39 : Cond.methodLink RL 39 yX6_holds ∈ lwG := lw_in (i := 1279) (by decide +kernel) rfl
theorem ki_X6_holds : Cond.instanceMethod yX6_holds ∈ lwG := lw_in (i := 1280) (by decide +kernel) rfl
theorem ks_X6_holds : Cond.selects RX6 yX6_holds yX6_holds ∈ lwG := lw_in (i := 1281) (by decide +kernel) rfl
theorem kc_X6_holds : Cond.code yX6_holds cX6_holds 2 (some FieldType.int) ∈ lwG := lw_in (i := 1282) (by decide +kernel) rfl
theorem km_L_44 : Cond.methodLink RL 44 yX6_show ∈ lwG := lw_in (i := 1283) (by decide +kernel) rfl
theorem ki_X6_show : Cond.instanceMethod yX6_show ∈ lwG := lw_in (i := 1284) (by decide +kernel) rfl
theorem ks_X6_show : Cond.selects RX6 yX6_show yX6_show ∈ lwG := lw_in (i := 1285) (by decide +kernel) rfl
theorem kc_X6_show : Cond.code yX6_show cX6_show 3 (some FieldType.int) ∈ lwG := lw_in (i := 1286) (by decide +kernel) rfl
theorem km_X6_106 : Cond.methodLink RX6 106 yX6_isBar ∈ lwG := lw_in (i := 1287) (by decide +kernel) rfl
theorem ki_X6_isBar : Cond.instanceMethod yX6_isBar ∈ lwG := lw_in (i := 1289) (by decide +kernel) rfl
theorem kc_X6_isBar : Cond.code yX6_isBar cX6_isBar 2 (some FieldType.boolean) ∈ lwG := lw_in (i := 1290) (by decide +kernel) rfl
theorem km_L_48 : Cond.methodLink RL 48 yX6_says ∈ lwG := lw_in (i := 1291) (by decide +kernel) rfl
theorem ki_X6_says : Cond.instanceMethod yX6_says ∈ lwG := lw_in (i := 1292) (by decide +kernel) rfl
theorem ks_X6_says : Cond.selects RX6 yX6_says yX6_says ∈ lwG := lw_in (i := 1293) (by decide +kernel) rfl
theorem kc_X6_says : Cond.code yX6_says cX6_says 6 (some FieldType.int) ∈ lwG := lw_in (i := 1294) (by decide +kernel) rfl
theorem kq_X6_110 : Cond.constantLong RX6 110 (5 : Int64) ∈ lwG := lw_in (i := 1295) (by decide +kernel) rfl
theorem km_X6_112 : Cond.methodLink RX6 112 yX6_isUnder ∈ lwG := lw_in (i := 1296) (by decide +kernel) rfl
theorem kt_X6_isUnder : Cond.static yX6_isUnder ∈ lwG := lw_in (i := 1297) (by decide +kernel) rfl
theorem kc_X6_isUnder : Cond.code yX6_isUnder cX6_isUnder 2 (some FieldType.boolean) ∈ lwG := lw_in (i := 1298) (by decide +kernel) rfl
theorem km_X6_116 : Cond.methodLink RX6 116 yX6_bits ∈ lwG := lw_in (i := 1299) (by decide +kernel) rfl
theorem kt_X6_bits : Cond.static yX6_bits ∈ lwG := lw_in (i := 1300) (by decide +kernel) rfl
theorem kc_X6_bits : Cond.code yX6_bits cX6_bits 3 (some FieldType.int) ∈ lwG := lw_in (i := 1301) (by decide +kernel) rfl
theorem km_X6_119 : Cond.methodLink RX6 119 yX6_turned ∈ lwG := lw_in (i := 1302) (by decide +kernel) rfl
theorem kt_X6_turned : Cond.static yX6_turned ∈ lwG := lw_in (i := 1303) (by decide +kernel) rfl
theorem kc_X6_turned : Cond.code yX6_turned cX6_turned 4 (some FieldType.int) ∈ lwG := lw_in (i := 1304) (by decide +kernel) rfl
theorem km_X6_123 : Cond.methodLink RX6 123 yX6_placeOf ∈ lwG := lw_in (i := 1305) (by decide +kernel) rfl
theorem kt_X6_placeOf : Cond.static yX6_placeOf ∈ lwG := lw_in (i := 1306) (by decide +kernel) rfl
theorem kc_X6_placeOf : Cond.code yX6_placeOf cX6_placeOf 6 (some FieldType.long) ∈ lwG := lw_in (i := 1307) (by decide +kernel) rfl
theorem km_X6_127 : Cond.methodLink RX6 127 yX6_fewestTo ∈ lwG := lw_in (i := 1308) (by decide +kernel) rfl
theorem ki_X6_fewestTo : Cond.instanceMethod yX6_fewestTo ∈ lwG := lw_in (i := 1310) (by decide +kernel) rfl
theorem kc_X6_fewestTo : Cond.code yX6_fewestTo cX6_fewestTo 4 (some FieldType.int) ∈ lwG := lw_in (i := 1311) (by decide +kernel) rfl
theorem km_X6_269 : Cond.methodLink RX6 269 yX6_findFar ∈ lwG := lw_in (i := 1312) (by decide +kernel) rfl
theorem ki_X6_findFar : Cond.instanceMethod yX6_findFar ∈ lwG := lw_in (i := 1314) (by decide +kernel) rfl
theorem kc_X6_findFar : Cond.code yX6_findFar cX6_findFar 7 (none : Option Jvm.ClassFile.FieldType) ∈ lwG := lw_in (i := 1315) (by decide +kernel) rfl
theorem km_X6_86 : Cond.methodLink RX6 86 yX6_all ∈ lwG := lw_in (i := 1316) (by decide +kernel) rfl
theorem ki_X6_all : Cond.instanceMethod yX6_all ∈ lwG := lw_in (i := 1318) (by decide +kernel) rfl
theorem kc_X6_all : Cond.code yX6_all cX6_all 2 (some FieldType.int) ∈ lwG := lw_in (i := 1319) (by decide +kernel) rfl
theorem km_X6_256 : Cond.methodLink RX6 256 yX6_isMove ∈ lwG := lw_in (i := 1320) (by decide +kernel) rfl
theorem ki_X6_isMove : Cond.instanceMethod yX6_isMove ∈ lwG := lw_in (i := 1322) (by decide +kernel) rfl
theorem kc_X6_isMove : Cond.code yX6_isMove cX6_isMove 3 (some FieldType.boolean) ∈ lwG := lw_in (i := 1323) (by decide +kernel) rfl
theorem km_X6_148 : Cond.methodLink RX6 148 yX6_isRing ∈ lwG := lw_in (i := 1324) (by decide +kernel) rfl
theorem ki_X6_isRing : Cond.instanceMethod yX6_isRing ∈ lwG := lw_in (i := 1326) (by decide +kernel) rfl
theorem kc_X6_isRing : Cond.code yX6_isRing cX6_isRing 3 (some FieldType.boolean) ∈ lwG := lw_in (i := 1327) (by decide +kernel) rfl
theorem km_X6_212 : Cond.methodLink RX6 212 yX6_mask ∈ lwG := lw_in (i := 1328) (by decide +kernel) rfl
theorem kt_X6_mask : Cond.static yX6_mask ∈ lwG := lw_in (i := 1329) (by decide +kernel) rfl
theorem kc_X6_mask : Cond.code yX6_mask cX6_mask 1 (some FieldType.int) ∈ lwG := lw_in (i := 1330) (by decide +kernel) rfl
theorem km_X6_131 : Cond.methodLink RX6 131 yX6_mayAt ∈ lwG := lw_in (i := 1331) (by decide +kernel) rfl
theorem ki_X6_mayAt : Cond.instanceMethod yX6_mayAt ∈ lwG := lw_in (i := 1333) (by decide +kernel) rfl
theorem kc_X6_mayAt : Cond.code yX6_mayAt cX6_mayAt 4 (some FieldType.boolean) ∈ lwG := lw_in (i := 1334) (by decide +kernel) rfl
theorem km_X6_259 : Cond.methodLink RX6 259 yX6_mayBy ∈ lwG := lw_in (i := 1335) (by decide +kernel) rfl
theorem kt_X6_mayBy : Cond.static yX6_mayBy ∈ lwG := lw_in (i := 1336) (by decide +kernel) rfl
theorem kc_X6_mayBy : Cond.code yX6_mayBy cX6_mayBy 6 (some FieldType.boolean) ∈ lwG := lw_in (i := 1337) (by decide +kernel) rfl
theorem km_X6_253 : Cond.methodLink RX6 253 yX6_isChained ∈ lwG := lw_in (i := 1338) (by decide +kernel) rfl
theorem kt_X6_isChained : Cond.static yX6_isChained ∈ lwG := lw_in (i := 1339) (by decide +kernel) rfl
theorem kc_X6_isChained : Cond.code yX6_isChained cX6_isChained 2 (some FieldType.boolean) ∈ lwG := lw_in (i := 1340) (by decide +kernel) rfl
theorem km_X6_135 : Cond.methodLink RX6 135 yX6_has ∈ lwG := lw_in (i := 1341) (by decide +kernel) rfl
theorem kt_X6_has : Cond.static yX6_has ∈ lwG := lw_in (i := 1342) (by decide +kernel) rfl
theorem kc_X6_has : Cond.code yX6_has cX6_has 2 (some FieldType.boolean) ∈ lwG := lw_in (i := 1343) (by decide +kernel) rfl
theorem km_L_52 : Cond.methodLink RL 52 yX6_bar ∈ lwG := lw_in (i := 1344) (by decide +kernel) rfl
theorem ki_X6_bar : Cond.instanceMethod yX6_bar ∈ lwG := lw_in (i := 1345) (by decide +kernel) rfl
theorem ks_X6_bar : Cond.selects RX6 yX6_bar yX6_bar ∈ lwG := lw_in (i := 1346) (by decide +kernel) rfl
theorem kc_X6_bar : Cond.code yX6_bar cX6_bar 3 (some FieldType.int) ∈ lwG := lw_in (i := 1347) (by decide +kernel) rfl
theorem kq_X6_138 : Cond.constantLong RX6 138 (10 : Int64) ∈ lwG := lw_in (i := 1348) (by decide +kernel) rfl
theorem km_X6_140 : Cond.methodLink RX6 140 yX6_addBar ∈ lwG := lw_in (i := 1349) (by decide +kernel) rfl
theorem ki_X6_addBar : Cond.instanceMethod yX6_addBar ∈ lwG := lw_in (i := 1351) (by decide +kernel) rfl
theorem kc_X6_addBar : Cond.code yX6_addBar cX6_addBar 4 (none : Option Jvm.ClassFile.FieldType) ∈ lwG := lw_in (i := 1352) (by decide +kernel) rfl
theorem km_L_56 : Cond.methodLink RL 56 yX6_put ∈ lwG := lw_in (i := 1353) (by decide +kernel) rfl
theorem ki_X6_put : Cond.instanceMethod yX6_put ∈ lwG := lw_in (i := 1354) (by decide +kernel) rfl
theorem ks_X6_put : Cond.selects RX6 yX6_put yX6_put ∈ lwG := lw_in (i := 1355) (by decide +kernel) rfl
theorem kc_X6_put : Cond.code yX6_put cX6_put 4 (some FieldType.int) ∈ lwG := lw_in (i := 1356) (by decide +kernel) rfl
theorem km_X6_144 : Cond.methodLink RX6 144 yX6_isSet ∈ lwG := lw_in (i := 1357) (by decide +kernel) rfl
theorem ki_X6_isSet : Cond.instanceMethod yX6_isSet ∈ lwG := lw_in (i := 1359) (by decide +kernel) rfl
theorem kc_X6_isSet : Cond.code yX6_isSet cX6_isSet 4 (some FieldType.boolean) ∈ lwG := lw_in (i := 1360) (by decide +kernel) rfl
theorem km_L_60 : Cond.methodLink RL 60 yX6_stick ∈ lwG := lw_in (i := 1361) (by decide +kernel) rfl
theorem ki_X6_stick : Cond.instanceMethod yX6_stick ∈ lwG := lw_in (i := 1362) (by decide +kernel) rfl
theorem ks_X6_stick : Cond.selects RX6 yX6_stick yX6_stick ∈ lwG := lw_in (i := 1363) (by decide +kernel) rfl
theorem kc_X6_stick : Cond.code yX6_stick cX6_stick 4 (some FieldType.int) ∈ lwG := lw_in (i := 1364) (by decide +kernel) rfl
theorem km_L_65 : Cond.methodLink RL 65 yX6_table ∈ lwG := lw_in (i := 1365) (by decide +kernel) rfl
theorem ki_X6_table : Cond.instanceMethod yX6_table ∈ lwG := lw_in (i := 1366) (by decide +kernel) rfl
theorem ks_X6_table : Cond.selects RX6 yX6_table yX6_table ∈ lwG := lw_in (i := 1367) (by decide +kernel) rfl
theorem kc_X6_table : Cond.code yX6_table cX6_table 5 (some FieldType.int) ∈ lwG := lw_in (i := 1368) (by decide +kernel) rfl
theorem km_L_69 : Cond.methodLink RL 69 yX6_minutes ∈ lwG := lw_in (i := 1369) (by decide +kernel) rfl
theorem ki_X6_minutes : Cond.instanceMethod yX6_minutes ∈ lwG := lw_in (i := 1370) (by decide +kernel) rfl
theorem ks_X6_minutes : Cond.selects RX6 yX6_minutes yX6_minutes ∈ lwG := lw_in (i := 1371) (by decide +kernel) rfl
theorem kc_X6_minutes : Cond.code yX6_minutes cX6_minutes 4 (some FieldType.int) ∈ lwG := lw_in (i := 1372) (by decide +kernel) rfl
theorem kq_X6_151 : Cond.constantLong RX6 151 (9 : Int64) ∈ lwG := lw_in (i := 1373) (by decide +kernel) rfl
theorem kq_X6_153 : Cond.constantLong RX6 153 (99 : Int64) ∈ lwG := lw_in (i := 1374) (by decide +kernel) rfl
theorem km_L_73 : Cond.methodLink RL 73 yX6_feed ∈ lwG := lw_in (i := 1375) (by decide +kernel) rfl
theorem ki_X6_feed : Cond.instanceMethod yX6_feed ∈ lwG := lw_in (i := 1376) (by decide +kernel) rfl
theorem ks_X6_feed : Cond.selects RX6 yX6_feed yX6_feed ∈ lwG := lw_in (i := 1377) (by decide +kernel) rfl
theorem kc_X6_feed : Cond.code yX6_feed cX6_feed 2 (some FieldType.int) ∈ lwG := lw_in (i := 1378) (by decide +kernel) rfl
theorem kq_X6_155 : Cond.constantLong RX6 155 (255 : Int64) ∈ lwG := lw_in (i := 1379) (by decide +kernel) rfl
theorem km_L_78 : Cond.methodLink RL 78 yX6_wipe ∈ lwG := lw_in (i := 1380) (by decide +kernel) rfl
theorem ki_X6_wipe : Cond.instanceMethod yX6_wipe ∈ lwG := lw_in (i := 1381) (by decide +kernel) rfl
theorem ks_X6_wipe : Cond.selects RX6 yX6_wipe yX6_wipe ∈ lwG := lw_in (i := 1382) (by decide +kernel) rfl
theorem kc_X6_wipe : Cond.code yX6_wipe cX6_wipe 2 (some FieldType.int) ∈ lwG := lw_in (i := 1383) (by decide +kernel) rfl
theorem km_L_82 : Cond.methodLink RL 82 yX6_bars ∈ lwG := lw_in (i := 1384) (by decide +kernel) rfl
theorem ki_X6_bars : Cond.instanceMethod yX6_bars ∈ lwG := lw_in (i := 1385) (by decide +kernel) rfl
theorem ks_X6_bars : Cond.selects RX6 yX6_bars yX6_bars ∈ lwG := lw_in (i := 1386) (by decide +kernel) rfl
theorem kc_X6_bars : Cond.code yX6_bars cX6_bars 2 (some FieldType.int) ∈ lwG := lw_in (i := 1387) (by decide +kernel) rfl
theorem kl_X6_8 : Cond.classLink RX6 8 "RingsOffModel" ∈ lwG := lw_in (i := 1388) (by decide +kernel) rfl
theorem km_X6_245 : Cond.methodLink RX6 245 yX6_init ∈ lwG := lw_in (i := 1389) (by decide +kernel) rfl
theorem km_X6_246 : Cond.methodLink RX6 246 yX6_takeFrom ∈ lwG := lw_in (i := 1390) (by decide +kernel) rfl
theorem ki_X6_takeFrom : Cond.instanceMethod yX6_takeFrom ∈ lwG := lw_in (i := 1392) (by decide +kernel) rfl
theorem kc_X6_takeFrom : Cond.code yX6_takeFrom cX6_takeFrom 3 (none : Option Jvm.ClassFile.FieldType) ∈ lwG := lw_in (i := 1393) (by decide +kernel) rfl
theorem km_X6_326 : Cond.methodLink RX6 326 yX6_over ∈ lwG := lw_in (i := 1394) (by decide +kernel) rfl
theorem kt_X6_over : Cond.static yX6_over ∈ lwG := lw_in (i := 1395) (by decide +kernel) rfl
theorem kc_X6_over : Cond.code yX6_over cX6_over 3 (none : Option Jvm.ClassFile.FieldType) ∈ lwG := lw_in (i := 1396) (by decide +kernel) rfl
theorem km_X6_250 : Cond.methodLink RX6 250 yX6_readAll ∈ lwG := lw_in (i := 1397) (by decide +kernel) rfl
theorem ki_X6_readAll : Cond.instanceMethod yX6_readAll ∈ lwG := lw_in (i := 1399) (by decide +kernel) rfl
theorem kc_X6_readAll : Cond.code yX6_readAll cX6_readAll 1 (some FieldType.boolean) ∈ lwG := lw_in (i := 1400) (by decide +kernel) rfl
theorem km_X6_196 : Cond.methodLink RX6 196 yX6_look ∈ lwG := lw_in (i := 1401) (by decide +kernel) rfl
theorem ki_X6_look : Cond.instanceMethod yX6_look ∈ lwG := lw_in (i := 1403) (by decide +kernel) rfl
theorem kc_X6_look : Cond.code yX6_look cX6_look 1 (none : Option Jvm.ClassFile.FieldType) ∈ lwG := lw_in (i := 1404) (by decide +kernel) rfl
theorem km_X6_172 : Cond.methodLink RX6 172 yX6_isLetter ∈ lwG := lw_in (i := 1405) (by decide +kernel) rfl
theorem kt_X6_isLetter : Cond.static yX6_isLetter ∈ lwG := lw_in (i := 1406) (by decide +kernel) rfl
theorem kc_X6_isLetter : Cond.code yX6_isLetter cX6_isLetter 1 (some FieldType.boolean) ∈ lwG := lw_in (i := 1407) (by decide +kernel) rfl
theorem km_X6_175 : Cond.methodLink RX6 175 yX6_isDigit ∈ lwG := lw_in (i := 1408) (by decide +kernel) rfl
theorem kt_X6_isDigit : Cond.static yX6_isDigit ∈ lwG := lw_in (i := 1409) (by decide +kernel) rfl
theorem kc_X6_isDigit : Cond.code yX6_isDigit cX6_isDigit 1 (some FieldType.boolean) ∈ lwG := lw_in (i := 1410) (by decide +kernel) rfl
theorem kq_X6_178 : Cond.constant RX6 178 (100000 : Int32) ∈ lwG := lw_in (i := 1411) (by decide +kernel) rfl
theorem km_X6_238 : Cond.methodLink RX6 238 yX6_statement ∈ lwG := lw_in (i := 1412) (by decide +kernel) rfl
theorem ki_X6_statement : Cond.instanceMethod yX6_statement ∈ lwG := lw_in (i := 1414) (by decide +kernel) rfl
theorem kc_X6_statement : Cond.code yX6_statement cX6_statement 1 (some FieldType.boolean) ∈ lwG := lw_in (i := 1415) (by decide +kernel) rfl
theorem km_X6_206 : Cond.methodLink RX6 206 yX6_isWord ∈ lwG := lw_in (i := 1417) (by decide +kernel) rfl
theorem ki_X6_isWord : Cond.instanceMethod yX6_isWord ∈ lwG := lw_in (i := 1419) (by decide +kernel) rfl
theorem kc_X6_isWord : Cond.code yX6_isWord cX6_isWord 3 (some FieldType.boolean) ∈ lwG := lw_in (i := 1420) (by decide +kernel) rfl
theorem km_X6_182 : Cond.methodLink RX6 182 yJ0_length_8abf5 ∈ lwG := lw_in (i := 1421) (by decide +kernel) rfl
theorem km_X6_188 : Cond.methodLink RX6 188 yJ0_charAt_5068e ∈ lwG := lw_in (i := 1422) (by decide +kernel) rfl
theorem km_X6_220 : Cond.methodLink RX6 220 yX6_barTold ∈ lwG := lw_in (i := 1423) (by decide +kernel) rfl
theorem ki_X6_barTold : Cond.instanceMethod yX6_barTold ∈ lwG := lw_in (i := 1425) (by decide +kernel) rfl
theorem kc_X6_barTold : Cond.code yX6_barTold cX6_barTold 1 (some FieldType.boolean) ∈ lwG := lw_in (i := 1426) (by decide +kernel) rfl
theorem km_X6_202 : Cond.methodLink RX6 202 yX6_tells ∈ lwG := lw_in (i := 1427) (by decide +kernel) rfl
theorem ki_X6_tells : Cond.instanceMethod yX6_tells ∈ lwG := lw_in (i := 1429) (by decide +kernel) rfl
theorem kc_X6_tells : Cond.code yX6_tells cX6_tells 3 (some FieldType.boolean) ∈ lwG := lw_in (i := 1430) (by decide +kernel) rfl
theorem km_X6_199 : Cond.methodLink RX6 199 yX6_number ∈ lwG := lw_in (i := 1431) (by decide +kernel) rfl
theorem ki_X6_number : Cond.instanceMethod yX6_number ∈ lwG := lw_in (i := 1433) (by decide +kernel) rfl
theorem kc_X6_number : Cond.code yX6_number cX6_number 4 (some FieldType.boolean) ∈ lwG := lw_in (i := 1434) (by decide +kernel) rfl
theorem km_X6_192 : Cond.methodLink RX6 192 yX6_wrong ∈ lwG := lw_in (i := 1435) (by decide +kernel) rfl
theorem ki_X6_wrong : Cond.instanceMethod yX6_wrong ∈ lwG := lw_in (i := 1437) (by decide +kernel) rfl
theorem kc_X6_wrong : Cond.code yX6_wrong cX6_wrong 1 (some FieldType.boolean) ∈ lwG := lw_in (i := 1438) (by decide +kernel) rfl
theorem km_X6_226 : Cond.methodLink RX6 226 yX6_tableTold ∈ lwG := lw_in (i := 1442) (by decide +kernel) rfl
theorem ki_X6_tableTold : Cond.instanceMethod yX6_tableTold ∈ lwG := lw_in (i := 1444) (by decide +kernel) rfl
theorem kc_X6_tableTold : Cond.code yX6_tableTold cX6_tableTold 2 (some FieldType.boolean) ∈ lwG := lw_in (i := 1445) (by decide +kernel) rfl
theorem km_X6_232 : Cond.methodLink RX6 232 yX6_moveTold ∈ lwG := lw_in (i := 1448) (by decide +kernel) rfl
theorem ki_X6_moveTold : Cond.instanceMethod yX6_moveTold ∈ lwG := lw_in (i := 1450) (by decide +kernel) rfl
theorem kc_X6_moveTold : Cond.code yX6_moveTold cX6_moveTold 2 (some FieldType.boolean) ∈ lwG := lw_in (i := 1451) (by decide +kernel) rfl
theorem kq_X6_210 : Cond.constantLong RX6 210 (20 : Int64) ∈ lwG := lw_in (i := 1452) (by decide +kernel) rfl
theorem km_L_86 : Cond.methodLink RL 86 yX6_barOf ∈ lwG := lw_in (i := 1453) (by decide +kernel) rfl
theorem ki_X6_barOf : Cond.instanceMethod yX6_barOf ∈ lwG := lw_in (i := 1454) (by decide +kernel) rfl
theorem ks_X6_barOf : Cond.selects RX6 yX6_barOf yX6_barOf ∈ lwG := lw_in (i := 1455) (by decide +kernel) rfl
theorem kc_X6_barOf : Cond.code yX6_barOf cX6_barOf 3 (some FieldType.int) ∈ lwG := lw_in (i := 1456) (by decide +kernel) rfl
theorem km_L_90 : Cond.methodLink RL 90 yX6_may ∈ lwG := lw_in (i := 1457) (by decide +kernel) rfl
theorem ki_X6_may : Cond.instanceMethod yX6_may ∈ lwG := lw_in (i := 1458) (by decide +kernel) rfl
theorem ks_X6_may : Cond.selects RX6 yX6_may yX6_may ∈ lwG := lw_in (i := 1459) (by decide +kernel) rfl
theorem kc_X6_may : Cond.code yX6_may cX6_may 3 (some FieldType.int) ∈ lwG := lw_in (i := 1460) (by decide +kernel) rfl
theorem km_L_94 : Cond.methodLink RL 94 yX6_moves ∈ lwG := lw_in (i := 1461) (by decide +kernel) rfl
theorem ki_X6_moves : Cond.instanceMethod yX6_moves ∈ lwG := lw_in (i := 1462) (by decide +kernel) rfl
theorem ks_X6_moves : Cond.selects RX6 yX6_moves yX6_moves ∈ lwG := lw_in (i := 1463) (by decide +kernel) rfl
theorem kc_X6_moves : Cond.code yX6_moves cX6_moves 4 (some FieldType.int) ∈ lwG := lw_in (i := 1464) (by decide +kernel) rfl
theorem km_L_98 : Cond.methodLink RL 98 yX6_move ∈ lwG := lw_in (i := 1465) (by decide +kernel) rfl
theorem ki_X6_move : Cond.instanceMethod yX6_move ∈ lwG := lw_in (i := 1466) (by decide +kernel) rfl
theorem ks_X6_move : Cond.selects RX6 yX6_move yX6_move ∈ lwG := lw_in (i := 1467) (by decide +kernel) rfl
theorem kc_X6_move : Cond.code yX6_move cX6_move 3 (some FieldType.int) ∈ lwG := lw_in (i := 1468) (by decide +kernel) rfl
theorem km_X6_263 : Cond.methodLink RX6 263 yX6_makes ∈ lwG := lw_in (i := 1469) (by decide +kernel) rfl
theorem ki_X6_makes : Cond.instanceMethod yX6_makes ∈ lwG := lw_in (i := 1471) (by decide +kernel) rfl
theorem kc_X6_makes : Cond.code yX6_makes cX6_makes 3 (none : Option Jvm.ClassFile.FieldType) ∈ lwG := lw_in (i := 1472) (by decide +kernel) rfl
theorem km_L_102 : Cond.methodLink RL 102 yX6_fewest ∈ lwG := lw_in (i := 1473) (by decide +kernel) rfl
theorem ki_X6_fewest : Cond.instanceMethod yX6_fewest ∈ lwG := lw_in (i := 1474) (by decide +kernel) rfl
theorem ks_X6_fewest : Cond.selects RX6 yX6_fewest yX6_fewest ∈ lwG := lw_in (i := 1475) (by decide +kernel) rfl
theorem kc_X6_fewest : Cond.code yX6_fewest cX6_fewest 3 (some FieldType.int) ∈ lwG := lw_in (i := 1476) (by decide +kernel) rfl
theorem km_L_110 : Cond.methodLink RL 110 yX6_between ∈ lwG := lw_in (i := 1477) (by decide +kernel) rfl
theorem ki_X6_between : Cond.instanceMethod yX6_between ∈ lwG := lw_in (i := 1478) (by decide +kernel) rfl
theorem ks_X6_between : Cond.selects RX6 yX6_between yX6_between ∈ lwG := lw_in (i := 1479) (by decide +kernel) rfl
theorem kc_X6_between : Cond.code yX6_between cX6_between 4 (some FieldType.int) ∈ lwG := lw_in (i := 1480) (by decide +kernel) rfl
theorem km_L_106 : Cond.methodLink RL 106 yX6_way ∈ lwG := lw_in (i := 1481) (by decide +kernel) rfl
theorem ki_X6_way : Cond.instanceMethod yX6_way ∈ lwG := lw_in (i := 1482) (by decide +kernel) rfl
theorem ks_X6_way : Cond.selects RX6 yX6_way yX6_way ∈ lwG := lw_in (i := 1483) (by decide +kernel) rfl
theorem kc_X6_way : Cond.code yX6_way cX6_way 6 (some FieldType.int) ∈ lwG := lw_in (i := 1484) (by decide +kernel) rfl
theorem km_X6_273 : Cond.methodLink RX6 273 yX6_nextMove ∈ lwG := lw_in (i := 1485) (by decide +kernel) rfl
theorem ki_X6_nextMove : Cond.instanceMethod yX6_nextMove ∈ lwG := lw_in (i := 1487) (by decide +kernel) rfl
theorem kc_X6_nextMove : Cond.code yX6_nextMove cX6_nextMove 4 (some FieldType.int) ∈ lwG := lw_in (i := 1488) (by decide +kernel) rfl
theorem km_L_115 : Cond.methodLink RL 115 yX6_place ∈ lwG := lw_in (i := 1489) (by decide +kernel) rfl
theorem ki_X6_place : Cond.instanceMethod yX6_place ∈ lwG := lw_in (i := 1490) (by decide +kernel) rfl
theorem ks_X6_place : Cond.selects RX6 yX6_place yX6_place ∈ lwG := lw_in (i := 1491) (by decide +kernel) rfl
theorem kc_X6_place : Cond.code yX6_place cX6_place 3 (some FieldType.long) ∈ lwG := lw_in (i := 1492) (by decide +kernel) rfl
theorem km_L_119 : Cond.methodLink RL 119 yX6_setOf ∈ lwG := lw_in (i := 1493) (by decide +kernel) rfl
theorem ki_X6_setOf : Cond.instanceMethod yX6_setOf ∈ lwG := lw_in (i := 1494) (by decide +kernel) rfl
theorem ks_X6_setOf : Cond.selects RX6 yX6_setOf yX6_setOf ∈ lwG := lw_in (i := 1495) (by decide +kernel) rfl
theorem kc_X6_setOf : Cond.code yX6_setOf cX6_setOf 3 (some FieldType.long) ∈ lwG := lw_in (i := 1496) (by decide +kernel) rfl
theorem km_L_123 : Cond.methodLink RL 123 yX6_reach ∈ lwG := lw_in (i := 1497) (by decide +kernel) rfl
theorem ki_X6_reach : Cond.instanceMethod yX6_reach ∈ lwG := lw_in (i := 1498) (by decide +kernel) rfl
theorem ks_X6_reach : Cond.selects RX6 yX6_reach yX6_reach ∈ lwG := lw_in (i := 1499) (by decide +kernel) rfl
theorem kc_X6_reach : Cond.code yX6_reach cX6_reach 2 (some FieldType.int) ∈ lwG := lw_in (i := 1500) (by decide +kernel) rfl
theorem km_L_127 : Cond.methodLink RL 127 yX6_farthest ∈ lwG := lw_in (i := 1501) (by decide +kernel) rfl
theorem ki_X6_farthest : Cond.instanceMethod yX6_farthest ∈ lwG := lw_in (i := 1502) (by decide +kernel) rfl
theorem ks_X6_farthest : Cond.selects RX6 yX6_farthest yX6_farthest ∈ lwG := lw_in (i := 1503) (by decide +kernel) rfl
theorem kc_X6_farthest : Cond.code yX6_farthest cX6_farthest 5 (some FieldType.int) ∈ lwG := lw_in (i := 1504) (by decide +kernel) rfl
theorem km_L_131 : Cond.methodLink RL 131 yX6_shape ∈ lwG := lw_in (i := 1505) (by decide +kernel) rfl
theorem ki_X6_shape : Cond.instanceMethod yX6_shape ∈ lwG := lw_in (i := 1506) (by decide +kernel) rfl
theorem ks_X6_shape : Cond.selects RX6 yX6_shape yX6_shape ∈ lwG := lw_in (i := 1507) (by decide +kernel) rfl
theorem kc_X6_shape : Cond.code yX6_shape cX6_shape 9 (some FieldType.int) ∈ lwG := lw_in (i := 1508) (by decide +kernel) rfl
theorem km_X6_276 : Cond.methodLink RX6 276 yX6_arePair ∈ lwG := lw_in (i := 1509) (by decide +kernel) rfl
theorem ki_X6_arePair : Cond.instanceMethod yX6_arePair ∈ lwG := lw_in (i := 1511) (by decide +kernel) rfl
theorem kc_X6_arePair : Cond.code yX6_arePair cX6_arePair 4 (some FieldType.boolean) ∈ lwG := lw_in (i := 1512) (by decide +kernel) rfl
theorem km_L_135 : Cond.methodLink RL 135 yX6_parts ∈ lwG := lw_in (i := 1513) (by decide +kernel) rfl
theorem ki_X6_parts : Cond.instanceMethod yX6_parts ∈ lwG := lw_in (i := 1514) (by decide +kernel) rfl
theorem ks_X6_parts : Cond.selects RX6 yX6_parts yX6_parts ∈ lwG := lw_in (i := 1515) (by decide +kernel) rfl
theorem kc_X6_parts : Cond.code yX6_parts cX6_parts 6 (some FieldType.int) ∈ lwG := lw_in (i := 1516) (by decide +kernel) rfl
theorem km_L_139 : Cond.methodLink RL 139 yX6_longest ∈ lwG := lw_in (i := 1517) (by decide +kernel) rfl
theorem ki_X6_longest : Cond.instanceMethod yX6_longest ∈ lwG := lw_in (i := 1518) (by decide +kernel) rfl
theorem ks_X6_longest : Cond.selects RX6 yX6_longest yX6_longest ∈ lwG := lw_in (i := 1519) (by decide +kernel) rfl
theorem kc_X6_longest : Cond.code yX6_longest cX6_longest 5 (some FieldType.int) ∈ lwG := lw_in (i := 1520) (by decide +kernel) rfl
theorem km_L_143 : Cond.methodLink RL 143 yX6_save ∈ lwG := lw_in (i := 1521) (by decide +kernel) rfl
theorem ki_X6_save : Cond.instanceMethod yX6_save ∈ lwG := lw_in (i := 1522) (by decide +kernel) rfl
theorem ks_X6_save : Cond.selects RX6 yX6_save yX6_save ∈ lwG := lw_in (i := 1523) (by decide +kernel) rfl
theorem kc_X6_save : Cond.code yX6_save cX6_save 3 (some FieldType.int) ∈ lwG := lw_in (i := 1524) (by decide +kernel) rfl
theorem km_X6_279 : Cond.methodLink RX6 279 yX6_lone ∈ lwG := lw_in (i := 1525) (by decide +kernel) rfl
theorem ki_X6_lone : Cond.instanceMethod yX6_lone ∈ lwG := lw_in (i := 1527) (by decide +kernel) rfl
theorem kc_X6_lone : Cond.code yX6_lone cX6_lone 3 (some (FieldType.object "RingsOffModel")) ∈ lwG := lw_in (i := 1528) (by decide +kernel) rfl
theorem km_L_147 : Cond.methodLink RL 147 yX6_luck ∈ lwG := lw_in (i := 1529) (by decide +kernel) rfl
theorem ki_X6_luck : Cond.instanceMethod yX6_luck ∈ lwG := lw_in (i := 1530) (by decide +kernel) rfl
theorem ks_X6_luck : Cond.selects RX6 yX6_luck yX6_luck ∈ lwG := lw_in (i := 1531) (by decide +kernel) rfl
theorem kc_X6_luck : Cond.code yX6_luck cX6_luck 3 (some FieldType.int) ∈ lwG := lw_in (i := 1532) (by decide +kernel) rfl
theorem km_L_151 : Cond.methodLink RL 151 yX6_time ∈ lwG := lw_in (i := 1533) (by decide +kernel) rfl
theorem ki_X6_time : Cond.instanceMethod yX6_time ∈ lwG := lw_in (i := 1534) (by decide +kernel) rfl
theorem ks_X6_time : Cond.selects RX6 yX6_time yX6_time ∈ lwG := lw_in (i := 1535) (by decide +kernel) rfl
theorem kc_X6_time : Cond.code yX6_time cX6_time 3 (some FieldType.int) ∈ lwG := lw_in (i := 1536) (by decide +kernel) rfl
theorem km_X6_286 : Cond.methodLink RX6 286 yX6_timeTo ∈ lwG := lw_in (i := 1537) (by decide +kernel) rfl
theorem ki_X6_timeTo : Cond.instanceMethod yX6_timeTo ∈ lwG := lw_in (i := 1539) (by decide +kernel) rfl
theorem kc_X6_timeTo : Cond.code yX6_timeTo cX6_timeTo 7 (some FieldType.int) ∈ lwG := lw_in (i := 1540) (by decide +kernel) rfl
theorem km_X6_283 : Cond.methodLink RX6 283 yX6_minutesOf ∈ lwG := lw_in (i := 1541) (by decide +kernel) rfl
theorem ki_X6_minutesOf : Cond.instanceMethod yX6_minutesOf ∈ lwG := lw_in (i := 1543) (by decide +kernel) rfl
theorem kc_X6_minutesOf : Cond.code yX6_minutesOf cX6_minutesOf 2 (some FieldType.int) ∈ lwG := lw_in (i := 1544) (by decide +kernel) rfl
theorem km_L_155 : Cond.methodLink RL 155 yX6_bell ∈ lwG := lw_in (i := 1545) (by decide +kernel) rfl
theorem ki_X6_bell : Cond.instanceMethod yX6_bell ∈ lwG := lw_in (i := 1546) (by decide +kernel) rfl
theorem ks_X6_bell : Cond.selects RX6 yX6_bell yX6_bell ∈ lwG := lw_in (i := 1547) (by decide +kernel) rfl
theorem kc_X6_bell : Cond.code yX6_bell cX6_bell 8 (some FieldType.int) ∈ lwG := lw_in (i := 1548) (by decide +kernel) rfl
theorem km_L_159 : Cond.methodLink RL 159 yX6_lock ∈ lwG := lw_in (i := 1549) (by decide +kernel) rfl
theorem ki_X6_lock : Cond.instanceMethod yX6_lock ∈ lwG := lw_in (i := 1550) (by decide +kernel) rfl
theorem ks_X6_lock : Cond.selects RX6 yX6_lock yX6_lock ∈ lwG := lw_in (i := 1551) (by decide +kernel) rfl
theorem kc_X6_lock : Cond.code yX6_lock cX6_lock 3 (some FieldType.int) ∈ lwG := lw_in (i := 1552) (by decide +kernel) rfl
theorem kq_X6_289 : Cond.constantLong RX6 289 (99999 : Int64) ∈ lwG := lw_in (i := 1553) (by decide +kernel) rfl
theorem km_L_163 : Cond.methodLink RL 163 yX6_movable ∈ lwG := lw_in (i := 1554) (by decide +kernel) rfl
theorem ki_X6_movable : Cond.instanceMethod yX6_movable ∈ lwG := lw_in (i := 1555) (by decide +kernel) rfl
theorem ks_X6_movable : Cond.selects RX6 yX6_movable yX6_movable ∈ lwG := lw_in (i := 1556) (by decide +kernel) rfl
theorem kc_X6_movable : Cond.code yX6_movable cX6_movable 5 (some FieldType.int) ∈ lwG := lw_in (i := 1557) (by decide +kernel) rfl
theorem km_L_167 : Cond.methodLink RL 167 yX6_ends ∈ lwG := lw_in (i := 1558) (by decide +kernel) rfl
theorem ki_X6_ends : Cond.instanceMethod yX6_ends ∈ lwG := lw_in (i := 1559) (by decide +kernel) rfl
theorem ks_X6_ends : Cond.selects RX6 yX6_ends yX6_ends ∈ lwG := lw_in (i := 1560) (by decide +kernel) rfl
theorem kc_X6_ends : Cond.code yX6_ends cX6_ends 6 (some FieldType.int) ∈ lwG := lw_in (i := 1561) (by decide +kernel) rfl
theorem km_L_171 : Cond.methodLink RL 171 yX6_first ∈ lwG := lw_in (i := 1562) (by decide +kernel) rfl
theorem ki_X6_first : Cond.instanceMethod yX6_first ∈ lwG := lw_in (i := 1563) (by decide +kernel) rfl
theorem ks_X6_first : Cond.selects RX6 yX6_first yX6_first ∈ lwG := lw_in (i := 1564) (by decide +kernel) rfl
theorem kc_X6_first : Cond.code yX6_first cX6_first 4 (some FieldType.int) ∈ lwG := lw_in (i := 1565) (by decide +kernel) rfl
theorem km_L_175 : Cond.methodLink RL 175 yX6_chance ∈ lwG := lw_in (i := 1566) (by decide +kernel) rfl
theorem ki_X6_chance : Cond.instanceMethod yX6_chance ∈ lwG := lw_in (i := 1567) (by decide +kernel) rfl
theorem ks_X6_chance : Cond.selects RX6 yX6_chance yX6_chance ∈ lwG := lw_in (i := 1568) (by decide +kernel) rfl
theorem kc_X6_chance : Cond.code yX6_chance cX6_chance 6 (some FieldType.int) ∈ lwG := lw_in (i := 1569) (by decide +kernel) rfl
theorem kq_X6_291 : Cond.constant RX6 291 (1000000 : Int32) ∈ lwG := lw_in (i := 1570) (by decide +kernel) rfl
theorem km_X6_292 : Cond.methodLink RX6 292 yX6_goesOn ∈ lwG := lw_in (i := 1571) (by decide +kernel) rfl
theorem ki_X6_goesOn : Cond.instanceMethod yX6_goesOn ∈ lwG := lw_in (i := 1573) (by decide +kernel) rfl
theorem kc_X6_goesOn : Cond.code yX6_goesOn cX6_goesOn 5 (none : Option Jvm.ClassFile.FieldType) ∈ lwG := lw_in (i := 1574) (by decide +kernel) rfl
theorem km_L_179 : Cond.methodLink RL 179 yX6_pictures ∈ lwG := lw_in (i := 1575) (by decide +kernel) rfl
theorem ki_X6_pictures : Cond.instanceMethod yX6_pictures ∈ lwG := lw_in (i := 1576) (by decide +kernel) rfl
theorem ks_X6_pictures : Cond.selects RX6 yX6_pictures yX6_pictures ∈ lwG := lw_in (i := 1577) (by decide +kernel) rfl
theorem kc_X6_pictures : Cond.code yX6_pictures cX6_pictures 5 (some FieldType.int) ∈ lwG := lw_in (i := 1578) (by decide +kernel) rfl
theorem km_X6_298 : Cond.methodLink RX6 298 yX6_noPictures ∈ lwG := lw_in (i := 1579) (by decide +kernel) rfl
theorem ki_X6_noPictures : Cond.instanceMethod yX6_noPictures ∈ lwG := lw_in (i := 1581) (by decide +kernel) rfl
theorem kc_X6_noPictures : Cond.code yX6_noPictures cX6_noPictures 6 (some FieldType.int) ∈ lwG := lw_in (i := 1582) (by decide +kernel) rfl
theorem km_X6_301 : Cond.methodLink RX6 301 yX6_brokenIn ∈ lwG := lw_in (i := 1583) (by decide +kernel) rfl
theorem ki_X6_brokenIn : Cond.instanceMethod yX6_brokenIn ∈ lwG := lw_in (i := 1585) (by decide +kernel) rfl
theorem kc_X6_brokenIn : Cond.code yX6_brokenIn cX6_brokenIn 7 (some FieldType.int) ∈ lwG := lw_in (i := 1586) (by decide +kernel) rfl
theorem km_L_183 : Cond.methodLink RL 183 yX6_broken ∈ lwG := lw_in (i := 1587) (by decide +kernel) rfl
theorem ki_X6_broken : Cond.instanceMethod yX6_broken ∈ lwG := lw_in (i := 1588) (by decide +kernel) rfl
theorem ks_X6_broken : Cond.selects RX6 yX6_broken yX6_broken ∈ lwG := lw_in (i := 1589) (by decide +kernel) rfl
theorem kc_X6_broken : Cond.code yX6_broken cX6_broken 5 (some FieldType.int) ∈ lwG := lw_in (i := 1590) (by decide +kernel) rfl
theorem km_L_187 : Cond.methodLink RL 187 yX6_once ∈ lwG := lw_in (i := 1591) (by decide +kernel) rfl
theorem ki_X6_once : Cond.instanceMethod yX6_once ∈ lwG := lw_in (i := 1592) (by decide +kernel) rfl
theorem ks_X6_once : Cond.selects RX6 yX6_once yX6_once ∈ lwG := lw_in (i := 1593) (by decide +kernel) rfl
theorem kc_X6_once : Cond.code yX6_once cX6_once 8 (some FieldType.int) ∈ lwG := lw_in (i := 1594) (by decide +kernel) rfl
theorem km_L_191 : Cond.methodLink RL 191 yX6_judge ∈ lwG := lw_in (i := 1595) (by decide +kernel) rfl
theorem ki_X6_judge : Cond.instanceMethod yX6_judge ∈ lwG := lw_in (i := 1596) (by decide +kernel) rfl
theorem ks_X6_judge : Cond.selects RX6 yX6_judge yX6_judge ∈ lwG := lw_in (i := 1597) (by decide +kernel) rfl
theorem kc_X6_judge : Cond.code yX6_judge cX6_judge 5 (some FieldType.int) ∈ lwG := lw_in (i := 1598) (by decide +kernel) rfl
theorem km_X6_308 : Cond.methodLink RX6 308 yX6_noMoves ∈ lwG := lw_in (i := 1599) (by decide +kernel) rfl
theorem ki_X6_noMoves : Cond.instanceMethod yX6_noMoves ∈ lwG := lw_in (i := 1601) (by decide +kernel) rfl
theorem kc_X6_noMoves : Cond.code yX6_noMoves cX6_noMoves 5 (some FieldType.int) ∈ lwG := lw_in (i := 1602) (by decide +kernel) rfl
theorem km_X6_311 : Cond.methodLink RX6 311 yX6_wrongIn ∈ lwG := lw_in (i := 1603) (by decide +kernel) rfl
theorem ki_X6_wrongIn : Cond.instanceMethod yX6_wrongIn ∈ lwG := lw_in (i := 1605) (by decide +kernel) rfl
theorem kc_X6_wrongIn : Cond.code yX6_wrongIn cX6_wrongIn 5 (some FieldType.int) ∈ lwG := lw_in (i := 1606) (by decide +kernel) rfl
theorem km_L_195 : Cond.methodLink RL 195 yX6_behind ∈ lwG := lw_in (i := 1607) (by decide +kernel) rfl
theorem ki_X6_behind : Cond.instanceMethod yX6_behind ∈ lwG := lw_in (i := 1608) (by decide +kernel) rfl
theorem ks_X6_behind : Cond.selects RX6 yX6_behind yX6_behind ∈ lwG := lw_in (i := 1609) (by decide +kernel) rfl
theorem kc_X6_behind : Cond.code yX6_behind cX6_behind 5 (some FieldType.int) ∈ lwG := lw_in (i := 1610) (by decide +kernel) rfl
theorem km_L_199 : Cond.methodLink RL 199 yX6_moved ∈ lwG := lw_in (i := 1611) (by decide +kernel) rfl
theorem ki_X6_moved : Cond.instanceMethod yX6_moved ∈ lwG := lw_in (i := 1612) (by decide +kernel) rfl
theorem ks_X6_moved : Cond.selects RX6 yX6_moved yX6_moved ∈ lwG := lw_in (i := 1613) (by decide +kernel) rfl
theorem kc_X6_moved : Cond.code yX6_moved cX6_moved 5 (some FieldType.int) ∈ lwG := lw_in (i := 1614) (by decide +kernel) rfl
theorem km_L_203 : Cond.methodLink RL 203 yX6_game ∈ lwG := lw_in (i := 1615) (by decide +kernel) rfl
theorem ki_X6_game : Cond.instanceMethod yX6_game ∈ lwG := lw_in (i := 1616) (by decide +kernel) rfl
theorem ks_X6_game : Cond.selects RX6 yX6_game yX6_game ∈ lwG := lw_in (i := 1617) (by decide +kernel) rfl
theorem kc_X6_game : Cond.code yX6_game cX6_game 4 (some FieldType.int) ∈ lwG := lw_in (i := 1618) (by decide +kernel) rfl
theorem km_X6_314 : Cond.methodLink RX6 314 yX6_winning ∈ lwG := lw_in (i := 1619) (by decide +kernel) rfl
theorem ki_X6_winning : Cond.instanceMethod yX6_winning ∈ lwG := lw_in (i := 1621) (by decide +kernel) rfl
theorem kc_X6_winning : Cond.code yX6_winning cX6_winning 6 (some FieldType.int) ∈ lwG := lw_in (i := 1622) (by decide +kernel) rfl
theorem km_L_207 : Cond.methodLink RL 207 yX6_goes ∈ lwG := lw_in (i := 1623) (by decide +kernel) rfl
theorem ki_X6_goes : Cond.instanceMethod yX6_goes ∈ lwG := lw_in (i := 1624) (by decide +kernel) rfl
theorem ks_X6_goes : Cond.selects RX6 yX6_goes yX6_goes ∈ lwG := lw_in (i := 1625) (by decide +kernel) rfl
theorem kc_X6_goes : Cond.code yX6_goes cX6_goes 5 (some FieldType.int) ∈ lwG := lw_in (i := 1626) (by decide +kernel) rfl
theorem kq_X6_317 : Cond.constantLong RX6 317 (60 : Int64) ∈ lwG := lw_in (i := 1627) (by decide +kernel) rfl
theorem km_L_211 : Cond.methodLink RL 211 yX6_play ∈ lwG := lw_in (i := 1628) (by decide +kernel) rfl
theorem ki_X6_play : Cond.instanceMethod yX6_play ∈ lwG := lw_in (i := 1629) (by decide +kernel) rfl
theorem ks_X6_play : Cond.selects RX6 yX6_play yX6_play ∈ lwG := lw_in (i := 1630) (by decide +kernel) rfl
theorem kc_X6_play : Cond.code yX6_play cX6_play 7 (some FieldType.int) ∈ lwG := lw_in (i := 1631) (by decide +kernel) rfl
theorem km_X6_320 : Cond.methodLink RX6 320 yX6_below ∈ lwG := lw_in (i := 1632) (by decide +kernel) rfl
theorem ki_X6_below : Cond.instanceMethod yX6_below ∈ lwG := lw_in (i := 1634) (by decide +kernel) rfl
theorem kc_X6_below : Cond.code yX6_below cX6_below 2 (some FieldType.int) ∈ lwG := lw_in (i := 1635) (by decide +kernel) rfl
theorem kq_X6_319 : Cond.constant RX6 319 (1103515245 : Int32) ∈ lwG := lw_in (i := 1636) (by decide +kernel) rfl
theorem km_L_215 : Cond.methodLink RL 215 yX6_drop ∈ lwG := lw_in (i := 1637) (by decide +kernel) rfl
theorem ki_X6_drop : Cond.instanceMethod yX6_drop ∈ lwG := lw_in (i := 1638) (by decide +kernel) rfl
theorem ks_X6_drop : Cond.selects RX6 yX6_drop yX6_drop ∈ lwG := lw_in (i := 1639) (by decide +kernel) rfl
theorem kc_X6_drop : Cond.code yX6_drop cX6_drop 1 (some FieldType.int) ∈ lwG := lw_in (i := 1640) (by decide +kernel) rfl
theorem km_X6_323 : Cond.methodLink RX6 323 yX6_shelvesFollow ∈ lwG := lw_in (i := 1641) (by decide +kernel) rfl
theorem ki_X6_shelvesFollow : Cond.instanceMethod yX6_shelvesFollow ∈ lwG := lw_in (i := 1643) (by decide +kernel) rfl
theorem kc_X6_shelvesFollow : Cond.code yX6_shelvesFollow cX6_shelvesFollow 2 (none : Option Jvm.ClassFile.FieldType) ∈ lwG := lw_in (i := 1644) (by decide +kernel) rfl
theorem km_L_219 : Cond.methodLink RL 219 yX6_seed ∈ lwG := lw_in (i := 1645) (by decide +kernel) rfl
theorem ki_X6_seed : Cond.instanceMethod yX6_seed ∈ lwG := lw_in (i := 1646) (by decide +kernel) rfl
theorem ks_X6_seed : Cond.selects RX6 yX6_seed yX6_seed ∈ lwG := lw_in (i := 1647) (by decide +kernel) rfl
theorem kc_X6_seed : Cond.code yX6_seed cX6_seed 3 (some FieldType.int) ∈ lwG := lw_in (i := 1648) (by decide +kernel) rfl
theorem km_L_223 : Cond.methodLink RL 223 yX6_image ∈ lwG := lw_in (i := 1649) (by decide +kernel) rfl
theorem ki_X6_image : Cond.instanceMethod yX6_image ∈ lwG := lw_in (i := 1650) (by decide +kernel) rfl
theorem ks_X6_image : Cond.selects RX6 yX6_image yX6_image ∈ lwG := lw_in (i := 1651) (by decide +kernel) rfl
theorem kc_X6_image : Cond.code yX6_image cX6_image 1 (some FieldType.int) ∈ lwG := lw_in (i := 1652) (by decide +kernel) rfl
theorem km_L_227 : Cond.methodLink RL 227 yX6_back ∈ lwG := lw_in (i := 1653) (by decide +kernel) rfl
theorem ki_X6_back : Cond.instanceMethod yX6_back ∈ lwG := lw_in (i := 1654) (by decide +kernel) rfl
theorem ks_X6_back : Cond.selects RX6 yX6_back yX6_back ∈ lwG := lw_in (i := 1655) (by decide +kernel) rfl
theorem kc_X6_back : Cond.code yX6_back cX6_back 1 (some FieldType.int) ∈ lwG := lw_in (i := 1656) (by decide +kernel) rfl
theorem km_L_231 : Cond.methodLink RL 231 yX6_status ∈ lwG := lw_in (i := 1657) (by decide +kernel) rfl
theorem ki_X6_status : Cond.instanceMethod yX6_status ∈ lwG := lw_in (i := 1658) (by decide +kernel) rfl
theorem ks_X6_status : Cond.selects RX6 yX6_status yX6_status ∈ lwG := lw_in (i := 1659) (by decide +kernel) rfl
theorem kc_X6_status : Cond.code yX6_status cX6_status 4 (some FieldType.int) ∈ lwG := lw_in (i := 1660) (by decide +kernel) rfl
theorem kq_X6_333 : Cond.constantLong RX6 333 (12 : Int64) ∈ lwG := lw_in (i := 1661) (by decide +kernel) rfl
theorem kq_X6_335 : Cond.constantLong RX6 335 (16 : Int64) ∈ lwG := lw_in (i := 1662) (by decide +kernel) rfl
theorem kq_L_18 : Cond.constantLong RL 18 (4294967295 : Int64) ∈ lwG := lw_in (i := 1663) (by decide +kernel) rfl
theorem lw_insub (ws : List Cond) (ps : List Nat) (hp : ws = ps.filterMap (fun i => lw_tbl[i]?)) (h : ws.all goodWord = true) : ∀ w ∈ ws, w ∈ lwG := by
  intro w hw
  have h1 := List.all_eq_true.mp h w hw
  rw [hp] at hw
  obtain ⟨i, -, hi⟩ := List.mem_filterMap.mp hw
  exact List.mem_filter.mpr ⟨List.mem_of_getElem? hi, h1⟩
theorem in_X0 : ∀ w ∈ u_ws RX0 TX0 10, w ∈ lwG := lw_insub _ [189, 191, 193, 195, 197, 199, 201, 203, 205, 207] (by decide +kernel) (by decide +kernel)
theorem in_X1 : ∀ w ∈ u_ws RX1 TX1 5, w ∈ lwG := lw_insub _ [268, 270, 272, 274, 276] (by decide +kernel) (by decide +kernel)
theorem in_X2 : ∀ w ∈ u_ws RX2 TX2 8, w ∈ lwG := lw_insub _ [295, 297, 299, 301, 303, 305, 307, 309] (by decide +kernel) (by decide +kernel)
theorem in_X3 : ∀ w ∈ u_ws RX3 TX3 3, w ∈ lwG := lw_insub _ [221, 223, 225] (by decide +kernel) (by decide +kernel)
theorem in_X4 : ∀ w ∈ u_ws RX4 TX4 6, w ∈ lwG := lw_insub _ [243, 245, 247, 249, 251, 253] (by decide +kernel) (by decide +kernel)
theorem in_X5 : ∀ w ∈ u_ws RX5 TX5 9, w ∈ lwG := lw_insub _ [321, 323, 325, 327, 329, 331, 333, 335, 337] (by decide +kernel) (by decide +kernel)
theorem in_X6 : ∀ w ∈ u_ws RX6 TX6 35, w ∈ lwG := lw_insub _ [1175, 1177, 1179, 1181, 1183, 1185, 1187, 1189, 1191, 1193, 1195, 1197, 1199, 1201, 1203, 1205, 1207, 1209, 1211, 1213, 1215, 1217, 1219, 1221, 1223, 1225, 1227, 1229, 1231, 1233, 1235, 1237, 1239, 1241, 1243] (by decide +kernel) (by decide +kernel)
