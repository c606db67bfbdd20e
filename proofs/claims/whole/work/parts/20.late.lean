def M_X5_winningMove_j78 (N : Nat) (self : SE → Int32 → Int32 → Int32 → Option (Int32)) (se : SE) (p2 : Int32) (p3 : Int32) (p4 : Int32) (rec11 : Int32 → Option (Int32)) (z78 : Int32) : Option (Int32) := rec11 (z78 + 1)
def M_X5_winningMove_l11 (N : Nat) (self : SE → Int32 → Int32 → Int32 → Option (Int32)) (se : SE) (p2 : Int32) (p3 : Int32) (p4 : Int32) (rec11 : Int32 → Option (Int32)) (z11 : Int32) : Option (Int32) := (if (SE_size se) < z11 then some (-1 : Int32) else ((M_X2_moveOf N se z11).bind fun r23 => ((M_X5_ringsOf N r23).bind fun r31 => ((M_X2_mayGo N se p2 r23).bind fun r41 => (if r41 = 0 then M_X5_winningMove_j78 N self se p2 p3 p4 rec11 z11 else ((M_X5_hasBit N p3 (p2 ^^^ r31)).bind fun r50 => (if ¬ r50 = 0 then M_X5_winningMove_j78 N self se p2 p3 p4 rec11 z11 else ((self se (p2 ^^^ r31) (p3 ||| ((1 : Int32) <<< ((p2 ^^^ r31) &&& 31))) (p4 + (1 : Int32))).bind fun r68 => (if ¬ r68 = (-1 : Int32) then M_X5_winningMove_j78 N self se p2 p3 p4 rec11 z11 else some r23)))))))))
def M_X5_winningMove (N : Nat) : Nat → SE → Int32 → Int32 → Int32 → Option (Int32)
  | 0 => fun _ _ _ _ => none
  | D + 1 => fun se p2 p3 p4 => (if p4 ≤ (8 : Int32) then lp (M_X5_winningMove_l11 N (M_X5_winningMove N D) se p2 p3 p4) N (0 : Int32) else some (-1 : Int32))
def M_X6_isWord_l28 (N : Nat) (rm : RM) (p1 : Nat) (rec28 : Int32 → Option (Int32)) (z28 : Int32) : Option (Int32) := (if (nI (kLen.getD p1 0)) ≤ z28 then some (1 : Int32) else (if ((RM_from rm) + z28) < 0 ∨ 250 ≤ ((RM_from rm) + z28).toNatClampNeg then none else (if z28 < 0 ∨ kLen.getD p1 0 ≤ z28.toNatClampNeg then none else (if (RM_tape rm ((RM_from rm) + z28).toNatClampNeg) = (kCh p1 z28.toNatClampNeg) then rec28 (z28 + 1) else some (0 : Int32)))))
def M_X6_isWord (N : Nat) (rm : RM) (p1 : Nat) : Option (Int32) := (if ¬ (RM_token rm) = (1 : Int32) then some (0 : Int32) else (if ((RM_at rm) - (RM_from rm)) = (nI (kLen.getD p1 0)) then lp (M_X6_isWord_l28 N rm p1) N (0 : Int32) else some (0 : Int32)))
def M_X6_barTold (N : Nat) (rm : RM) : Option (Int32 × RM) := ((M_X6_tells N rm (0 : Int32) (5 : Int32)).bind fun r3 => (if r3.1 = 0 then some ((0 : Int32), r3.2) else ((M_X6_number N r3.2 (1 : Int32) (1 : Int32) (10 : Int32)).bind fun r14 => (if ¬ r14.1 = 0 then (if (0 : Int32) < 0 ∨ 4 ≤ (0 : Int32).toNatClampNeg then none else (if (1 : Int32) < 0 ∨ 4 ≤ (1 : Int32).toNatClampNeg then none else ((M_X6_addBar N r14.2 (RM_told r14.2 (0 : Int32).toNatClampNeg) (RM_told r14.2 (1 : Int32).toNatClampNeg)).bind fun r35 => ((M_X6_isWord N r35 1).bind fun r41 => (if r41 = 0 then some ((1 : Int32), r35) else ((M_X6_all N r35 ((RM_bars r35) - (1 : Int32))).bind fun r56 => ((M_X6_tells N r35 (0 : Int32) r56).bind fun r59 => (if ¬ r59.1 = 0 then (if (0 : Int32) < 0 ∨ 4 ≤ (0 : Int32).toNatClampNeg then none else (if ((RM_bars r59.2) - (1 : Int32)) < 0 ∨ 4 ≤ ((RM_bars r59.2) - (1 : Int32)).toNatClampNeg then none else some ((1 : Int32), RM_s_on r59.2 (upd (RM_on r59.2) ((RM_bars r59.2) - (1 : Int32)).toNatClampNeg (RM_told r59.2 (0 : Int32).toNatClampNeg))))) else some ((0 : Int32), r59.2))))))))) else some ((0 : Int32), r14.2)))))
def M_X6_winning_j59 (N : Nat) (self : RM → Int32 → Int32 → Int32 → Option (Int32)) (rm : RM) (p1 : Int32) (p2 : Int32) (p3 : Int32) (rec3 : Int32 → Option (Int32)) (z59 : Int32) : Option (Int32) := rec3 (z59 + 1)
def M_X6_winning_l3 (N : Nat) (self : RM → Int32 → Int32 → Int32 → Option (Int32)) (rm : RM) (p1 : Int32) (p2 : Int32) (p3 : Int32) (rec3 : Int32 → Option (Int32)) (z3 : Int32) : Option (Int32) := (if (20 : Int32) < z3 then some (-1 : Int32) else ((M_X6_mayAt N rm p1 p2 z3).bind fun r15 => (if r15 = 0 then M_X6_winning_j59 N self rm p1 p2 p3 rec3 z3 else ((M_X6_mask N z3).bind fun r24 => (if ¬ ((p3 >>> ((p2 ^^^ r24) &&& 31)) &&& (1 : Int32)) = 0 then M_X6_winning_j59 N self rm p1 p2 p3 rec3 z3 else ((self rm p1 (p2 ^^^ r24) (p3 ||| ((1 : Int32) <<< ((p2 ^^^ r24) &&& 31)))).bind fun r49 => (if ¬ r49 = (-1 : Int32) then M_X6_winning_j59 N self rm p1 p2 p3 rec3 z3 else some z3)))))))
def M_X6_winning (N : Nat) : Nat → RM → Int32 → Int32 → Int32 → Option (Int32)
  | 0 => fun _ _ _ _ => none
  | D + 1 => fun rm p1 p2 p3 => lp (M_X6_winning_l3 N (M_X6_winning N D) rm p1 p2 p3) N (0 : Int32)
def M_X6_game_j18 (N : Nat) (p1 : Int32) (p2 : Int32) (z18 : RM) : Option (Int32 × RM) := ((M_X6_refuse N z18 (-2 : Int32)).bind fun r21 => some (r21.1, r21.2))
def M_X6_game (N : Nat) (rm : RM) (p1 : Int32) (p2 : Int32) : Option (Int32 × RM) := ((M_X6_isBar N rm p1).bind fun r2 => (if r2 = 0 then M_X6_game_j18 N p1 p2 rm else ((M_X6_in N p2.toInt64 (0 : Int64) (1 : Int64)).bind fun r12 => (if ¬ r12 = 0 then (if p1 < 0 ∨ 4 ≤ p1.toNatClampNeg then none else (if (RM_size rm p1.toNatClampNeg) ≤ (3 : Int32) then (if p1 < 0 ∨ 4 ≤ p1.toNatClampNeg then none else (if p1 < 0 ∨ 4 ≤ p1.toNatClampNeg then none else ((M_X6_winning N 12 rm p1 (RM_on rm p1.toNatClampNeg) ((1 : Int32) <<< ((RM_on rm p1.toNatClampNeg) &&& 31))).bind fun r58 => (if ¬ p2 = (1 : Int32) then (if ¬ r58 = (-1 : Int32) then some ((1 : Int32), rm) else some ((0 : Int32), rm)) else some (r58, rm))))) else ((M_X6_refuse N rm (-5 : Int32)).bind fun r38 => some (r38.1, r38.2)))) else M_X6_game_j18 N p1 p2 rm))))
def M_X4_isWord_l28 (N : Nat) (tp : TP) (p1 : Nat) (rec28 : Int32 → Option (Int32)) (z28 : Int32) : Option (Int32) := (if (nI (kLen.getD p1 0)) ≤ z28 then some (1 : Int32) else ((M_X4_byteAt N tp ((TP_start tp) + z28)).bind fun r43 => (if z28 < 0 ∨ kLen.getD p1 0 ≤ z28.toNatClampNeg then none else (if r43 = (kCh p1 z28.toNatClampNeg) then rec28 (z28 + 1) else some (0 : Int32)))))
def M_X4_isWord (N : Nat) (tp : TP) (p1 : Nat) : Option (Int32) := (if ¬ (TP_type tp) = (1 : Int32) then some (0 : Int32) else (if ((TP_at tp) - (TP_start tp)) = (nI (kLen.getD p1 0)) then lp (M_X4_isWord_l28 N tp p1) N (0 : Int32) else some (0 : Int32)))
def M_X6_statement_j22 (N : Nat) (z22 : RM) : Option (Int32 × RM) := ((M_X6_isWord N z22 2).bind fun r25 => (if r25 = 0 then ((M_X6_isWord N z22 3).bind fun r88 => (if r88 = 0 then ((M_X6_isWord N z22 4).bind fun r102 => (if r102 = 0 then ((M_X6_isWord N z22 5).bind fun r153 => (if r153 = 0 then ((M_X6_wrong N z22).bind fun r167 => (if ¬ (r167.1 = 0 ∨ r167.1 = 1) then none else some (r167.1, r167.2))) else ((M_X6_moveTold N z22).bind fun r160 => (if ¬ (r160.1 = 0 ∨ r160.1 = 1) then none else some (r160.1, r160.2))))) else ((M_X6_tells N z22 (0 : Int32) (9 : Int32)).bind fun r112 => (if r112.1 = 0 then some ((0 : Int32), r112.2) else ((M_X6_number N r112.2 (1 : Int32) (0 : Int32) (99 : Int32)).bind fun r123 => (if ¬ r123.1 = 0 then (if (0 : Int32) < 0 ∨ 4 ≤ (0 : Int32).toNatClampNeg then none else (if (1 : Int32) < 0 ∨ 4 ≤ (1 : Int32).toNatClampNeg then none else (if (RM_told r123.2 (0 : Int32).toNatClampNeg) < 0 ∨ 10 ≤ (RM_told r123.2 (0 : Int32).toNatClampNeg).toNatClampNeg then none else some ((1 : Int32), RM_s_minutes r123.2 (upd (RM_minutes r123.2) (RM_told r123.2 (0 : Int32).toNatClampNeg).toNatClampNeg (RM_told r123.2 (1 : Int32).toNatClampNeg)))))) else some ((0 : Int32), r123.2))))))) else ((M_X6_tableTold N z22).bind fun r95 => (if ¬ (r95.1 = 0 ∨ r95.1 = 1) then none else some (r95.1, r95.2))))) else ((M_X6_tells N z22 (0 : Int32) ((RM_bars z22) - (1 : Int32))).bind fun r39 => (if r39.1 = 0 then some ((0 : Int32), r39.2) else (if (0 : Int32) < 0 ∨ 4 ≤ (0 : Int32).toNatClampNeg then none else ((M_X6_all N r39.2 (RM_told r39.2 (0 : Int32).toNatClampNeg)).bind fun r55 => ((M_X6_number N r39.2 (1 : Int32) (0 : Int32) r55).bind fun r58 => (if ¬ r58.1 = 0 then (if (0 : Int32) < 0 ∨ 4 ≤ (0 : Int32).toNatClampNeg then none else (if (1 : Int32) < 0 ∨ 4 ≤ (1 : Int32).toNatClampNeg then none else (if (RM_told r58.2 (0 : Int32).toNatClampNeg) < 0 ∨ 4 ≤ (RM_told r58.2 (0 : Int32).toNatClampNeg).toNatClampNeg then none else some ((1 : Int32), RM_s_stuck r58.2 (upd (RM_stuck r58.2) (RM_told r58.2 (0 : Int32).toNatClampNeg).toNatClampNeg (RM_told r58.2 (1 : Int32).toNatClampNeg)))))) else some ((0 : Int32), r58.2)))))))))
def M_X6_statement (N : Nat) (rm : RM) : Option (Int32 × RM) := ((M_X6_isWord N rm 0).bind fun r3 => (if r3 = 0 then M_X6_statement_j22 N rm else (if (4 : Int32) ≤ (RM_bars rm) then M_X6_statement_j22 N rm else ((M_X6_barTold N rm).bind fun r18 => (if ¬ (r18.1 = 0 ∨ r18.1 = 1) then none else some (r18.1, r18.2))))))
def M_X6_readAll_l23 (N : Nat) (rec23 : RM → Option (Int32 × RM)) (z23 : RM) : Option (Int32 × RM) := (if (RM_token z23) = 0 then some ((1 : Int32), z23) else (if (RM_token z23) = (3 : Int32) then ((M_X6_look N z23).bind fun r44 => ((M_X6_statement N r44).bind fun r48 => (if ¬ r48.1 = 0 then rec23 (RM_s_statements r48.2 ((RM_statements r48.2) + (1 : Int32))) else some ((0 : Int32), r48.2)))) else ((M_X6_wrong N z23).bind fun r39 => (if ¬ (r39.1 = 0 ∨ r39.1 = 1) then none else some (r39.1, r39.2)))))
def M_X6_readAll (N : Nat) (rm : RM) : Option (Int32 × RM) := ((M_X6_look N (RM_s_at (RM_s_statements rm (1 : Int32)) (0 : Int32))).bind fun r11 => ((M_X6_statement N r11).bind fun r15 => (if ¬ r15.1 = 0 then lp (M_X6_readAll_l23 N) N r15.2 else some ((0 : Int32), r15.2))))
def M_X4_readBar (N : Nat) (tp : TP) (ev : EV) : Option (Int32 × TP × EV) := ((M_X0_hasMostBars N ev).bind fun r1 => (if ¬ r1 = 0 then some ((0 : Int32), tp, ev) else ((M_X4_readNumber N tp).bind fun r8 => (if r8.1 = 0 then some ((0 : Int32), r8.2, ev) else (if (TP_value r8.2) ≤ (5 : Int32) then ((M_X4_readNumber N r8.2).bind fun r30 => (if r30.1 = 0 then some ((0 : Int32), r30.2, ev) else (if (TP_value r30.2) < (1 : Int32) then some ((0 : Int32), r30.2, ev) else (if (TP_value r30.2) ≤ (10 : Int32) then ((M_X0_addBar N ev (TP_value r8.2) (TP_value r30.2)).bind fun r61 => ((M_X4_readToken N r30.2).bind fun r66 => ((M_X4_isWord N r66 1).bind fun r72 => (if ¬ r72 = 0 then ((M_X4_readNumber N r66).bind fun r81 => (if r81.1 = 0 then some ((0 : Int32), r81.2, r61.2) else ((M_X0_hasSet N r61.2 r61.1 ((TP_value r81.2).toInt64)).bind fun r94 => (if ¬ r94 = 0 then ((M_X0_turnOn N r61.2 r61.1 (TP_value r81.2)).bind fun r108 => ((M_X4_readToken N r81.2).bind fun r112 => some ((1 : Int32), r112, r108))) else some ((0 : Int32), r81.2, r61.2))))) else some ((1 : Int32), r66, r61.2))))) else some ((0 : Int32), r30.2, ev))))) else some ((0 : Int32), r8.2, ev))))))
def M_X4_readStatement (N : Nat) (tp : TP) (ev : EV) (lw : LW) : Option (Int32 × TP × EV × LW) := ((M_X4_readToken N tp).bind fun r1 => ((M_X4_isWord N r1 0).bind fun r7 => (if r7 = 0 then ((M_X4_isWord N r1 2).bind fun r22 => (if r22 = 0 then ((M_X4_isWord N r1 3).bind fun r37 => (if r37 = 0 then ((M_X4_isWord N r1 4).bind fun r52 => (if r52 = 0 then ((M_X4_isWord N r1 5).bind fun r67 => (if r67 = 0 then some ((0 : Int32), r1, ev, lw) else ((M_X4_readMove N r1 ev lw).bind fun r76 => (if r76.1 = 0 then some ((0 : Int32), r76.2.1, r76.2.2.1, r76.2.2.2) else some ((1 : Int32), r76.2.1, r76.2.2.1, r76.2.2.2))))) else ((M_X4_readMinutes N r1 ev).bind fun r60 => (if ¬ (r60.1 = 0 ∨ r60.1 = 1) then none else some (r60.1, r60.2.1, r60.2.2, lw))))) else ((M_X4_readTable N r1 ev).bind fun r45 => (if ¬ (r45.1 = 0 ∨ r45.1 = 1) then none else some (r45.1, r45.2.1, r45.2.2, lw))))) else ((M_X4_readStuck N r1 ev).bind fun r30 => (if ¬ (r30.1 = 0 ∨ r30.1 = 1) then none else some (r30.1, r30.2.1, r30.2.2, lw))))) else ((M_X4_readBar N r1 ev).bind fun r15 => (if ¬ (r15.1 = 0 ∨ r15.1 = 1) then none else some (r15.1, r15.2.1, r15.2.2, lw))))))
def M_X5_game_j20 (N : Nat) (nw : EV) (p1 : Int32) (p2 : Int32) (z20 : RO × LW × SE) : Option (Int32 × RO × LW × SE) := ((M_X5_refuse N z20.1 (-2 : Int32)).bind fun r23 => some (r23.1, r23.2, z20.2.1, z20.2.2))
def M_X5_game (N : Nat) (ro : RO) (nw : EV) (lw : LW) (se : SE) (p1 : Int32) (p2 : Int32) : Option (Int32 × RO × LW × SE) := ((M_X0_hasBar N nw p1).bind fun r5 => (if r5 = 0 then M_X5_game_j20 N nw p1 p2 (ro, lw, se) else (if p2 < 0 then M_X5_game_j20 N nw p1 p2 (ro, lw, se) else (if p2 ≤ (1 : Int32) then ((M_X0_sizeOf N nw p1).bind fun r32 => (if r32 ≤ (3 : Int32) then ((M_X5_study N ro nw lw se p1).bind fun r48 => ((M_X0_onOf N nw p1).bind fun r56 => ((M_X5_winningMove N 12 r48.2 r56 ((1 : Int32) <<< (r56 &&& 31)) (0 : Int32)).bind fun r69 => (if ¬ p2 = (1 : Int32) then (if ¬ r69 = (-1 : Int32) then some ((1 : Int32), ro, r48.1, r48.2) else some ((0 : Int32), ro, r48.1, r48.2)) else some (r69, ro, r48.1, r48.2))))) else ((M_X5_refuse N ro (-5 : Int32)).bind fun r42 => some (r42.1, r42.2, lw, se)))) else M_X5_game_j20 N nw p1 p2 (ro, lw, se)))))
def M_X4_readInto_l7 (N : Nat) (rec7 : (TP × EV × LW × Int32) → Option (Int32 × TP × EV × LW)) (z7 : TP × EV × LW × Int32) : Option (Int32 × TP × EV × LW) := (if (250 : Int32) < z7.2.2.2 then some ((-1 : Int32), z7.1, z7.2.1, z7.2.2.1) else ((M_X4_readStatement N z7.1 z7.2.1 z7.2.2.1).bind fun r17 => (if ¬ r17.1 = 0 then (if ¬ (TP_type r17.2.1) = 0 then (if (TP_type r17.2.1) = (3 : Int32) then rec7 (r17.2.1, r17.2.2.1, r17.2.2.2, (z7.2.2.2 + 1)) else some ((-1 : Int32), r17.2.1, r17.2.2.1, r17.2.2.2)) else some (z7.2.2.2, r17.2.1, r17.2.2.1, r17.2.2.2)) else some ((-1 : Int32), r17.2.1, r17.2.2.1, r17.2.2.2))))
def M_X4_readInto (N : Nat) (tp : TP) (ev : EV) (lw : LW) : Option (Int32 × TP × EV × LW) := lp (M_X4_readInto_l7 N) N (TP_s_at tp (0 : Int32), ev, lw, (1 : Int32))
def M_X5_bars (N : Nat) (ro : RO) (nw : EV) (dr : EV) (tp : TP) (lw : LW) : Option (Int32 × RO × EV × EV × TP × LW) := ((M_X0_become N dr nw).bind fun r8 => ((M_X4_readInto N tp r8 lw).bind fun r23 => ((M_X4_clear N r23.2.1).bind fun r39 => (if ¬ r23.1 = (-1 : Int32) then ((M_X0_become N nw r23.2.2.1).bind fun r67 => some (r23.1, ro, r67, r23.2.2.1, r39, r23.2.2.2)) else ((M_X5_refuse N ro (-2 : Int32)).bind fun r50 => some (((-20 : Int32) - (TP_start r23.2.1)), r50.2, nw, r23.2.2.1, r39, r23.2.2.2))))))
theorem kM_X5_winningMove : kM yX5_winningMove cX5_winningMove 7 (some FieldType.int) 4 := ⟨kc_X5_winningMove, kn_RingsOff, by decide +kernel⟩
abbrev R_X5_winningMove (D : Nat) : Room := { frames := D + 2, cells := 0, slots := 0, locals := D * 26 + 43 }
set_option maxHeartbeats 4000000 in
set_option maxRecDepth 100000 in
theorem c_X5_winningMove (l : Launch) {ad0 : Nat → Nat} {N : Nat} : ∀ (D : Nat) {se : SE} {p2 : Int32} {p3 : Int32} {p4 : Int32} {out : Int32}, M_X5_winningMove N D se p2 p3 p4 = some out → gM l yX5_winningMove cX5_winningMove 7 (some FieldType.int) (R_X5_winningMove D) (fun _ => [.ref (ad0 0), .int p2, .int p3, .int p4]) (fun g => [wSE g ad0 se]) (gQi (fun (_ : Unit) => out) (fun g (_ : Unit) => [wSE g ad0 se])) := by
  intro D
  induction D with
  | zero =>
    intro se p2 p3 p4 out h
    rw [M_X5_winningMove] at h
    cases h
  | succ D ihD =>
  intro se p2 p3 p4 out h
  refine gM.ofi (by decide +kernel) (fun _ => Nat.le_of_ble_eq_true rfl) (fun g p e s m args below meth c A ls Q X hret hw hl => ?_)
  have hx := X.1.1
  have hb := X.1.2.1
  have hl : lv_has ls 7 [(0, .ref (ad0 0)), (1, .int p2), (2, .int p3), (3, .int p4)] := hl
  have L11 : ∀ (n : Nat) (z11 : Int32), lp (M_X5_winningMove_l11 N (M_X5_winningMove N D) se p2 p3 p4) n z11 = some out → ∀ (H : Heap) (locs : List Loc) (ls : Array Slot), gW g A s.heap [wSE g ad0 se] H locs → lv_has ls 7 [(0, .ref (ad0 0)), (1, .int p2), (2, .int p3), (3, .int p4), (4, .int z11)] → W p l e (R_X5_winningMove (D + 1)) s m args below meth c H locs 0 0 Q (F0 m 11 ls []) := by
    refine lp_ind ?_
    intro rec11 ih11
    have J78 : ∀ (z78 : Int32), M_X5_winningMove_j78 N (M_X5_winningMove N D) se p2 p3 p4 rec11 z78 = some out → ∀ (H : Heap) (locs : List Loc) (ls : Array Slot), gW g A s.heap [wSE g ad0 se] H locs → lv_has ls 7 [(0, .ref (ad0 0)), (1, .int p2), (2, .int p3), (3, .int p4), (4, .int z78)] → W p l e (R_X5_winningMove (D + 1)) s m args below meth c H locs 0 0 Q (F0 m 78 ls []) := by
      intro z78 h H locs ls hw hl
      unfold M_X5_winningMove_j78 at h
      refine lv_iinc (v := (z78 + 1)) (lv' := [(4, .int (z78 + 1)), (0, .ref (ad0 0)), (1, .int p2), (2, .int p3), (3, .int p4)]) hx hb dX5_winningMove_78 hl (k := 4) rfl rfl (by decide) rfl (fun ls hl => ?_)
      refine lv_goto (tgt := 11) hx hb dX5_winningMove_81 (by decide) ?_
      exact ih11 _ h _ _ _ hw (lv_sub hl [1, 2, 3, 4, 0] rfl)
    intro z11 h H locs ls hw hl
    unfold M_X5_winningMove_l11 at h
    refine lv_iload hx hb dX5_winningMove_11 (lv_at hl 4 rfl) ?_
    refine lv_aload_n hx hb dX5_winningMove_13 rfl (lv_at hl 0 rfl) ?_
    refine SE_gn_size X hw 0 rfl kf_X5_373 dX5_winningMove_14 ?_
    refine lv_icmp_gt (tgt := 84) hx hb dX5_winningMove_17 (by decide) (fun k17 => ?_) (fun k17 => ?_)
    · have h := itt k17 h
      refine lv_iconst (v := -1) hx hb dX5_winningMove_84 (by decide) ?_
      have h := Option.some.inj h
      subst h
      exact hret () dX5_winningMove_85 rfl hw
    · have h := itf k17 h
      refine lv_aload_n hx hb dX5_winningMove_20 rfl (lv_at hl 0 rfl) ?_
      refine lv_iload hx hb dX5_winningMove_21 (lv_at hl 4 rfl) ?_
      obtain ⟨r23, h23, h⟩ := bnd h
      refine g_calli0 (isC := [0]) (gn := fun _ => [wSE g ad0 se]) (g_runVN (isC := [0]) (rest := []) (As := [.int z11]) X hw (c_X2_moveOf l (ad := ad0) h23) rfl kM_X2_moveOf ki_X2_moveOf ks_X2_moveOf km_X5_374 ⟨(by dsimp only [R_X5_winningMove, R_X2_moveOf]; omega), (by dsimp only [R_X5_winningMove, R_X2_moveOf]; omega)⟩ ⟨(Nat.le_of_ble_eq_true rfl), (Nat.le_of_ble_eq_true rfl)⟩ rfl rfl ⟨_, _, _, _, rfl, rfl, rfl, rfl⟩ rfl hl.1 rfl (Nat.le_of_ble_eq_true rfl) dX5_winningMove_23) hw rfl rfl (fun _ => (Nat.le_of_ble_eq_true rfl)) (fun _ => rfl) rfl rfl (fun _ H locs hw => ?_)
      refine lv_istore (lv' := [(5, .int r23), (0, .ref (ad0 0)), (1, .int p2), (2, .int p3), (3, .int p4), (4, .int z11)]) hx hb dX5_winningMove_26 hl (by decide) rfl (fun ls hl => ?_)
      refine lv_iload_n hx hb dX5_winningMove_28 rfl (lv_at hl 2 rfl) ?_
      refine lv_iload hx hb dX5_winningMove_29 (lv_at hl 0 rfl) ?_
      obtain ⟨r31, h31, h⟩ := bnd h
      refine g_calli0 (isC := []) (gn := fun _ => [wSE g ad0 se]) (g_runS (isC := []) (rest := [.int p2]) (As := [.int r23]) X hw (c_X5_ringsOf l h31) rfl kM_X5_ringsOf kt_X5_ringsOf km_X5_232 ⟨(by dsimp only [R_X5_winningMove, R_X5_ringsOf]; omega), (by dsimp only [R_X5_winningMove, R_X5_ringsOf]; omega)⟩ ⟨(Nat.le_of_ble_eq_true rfl), (Nat.le_of_ble_eq_true rfl)⟩ rfl rfl rfl hl.1 rfl (Nat.le_of_ble_eq_true rfl) dX5_winningMove_31) hw rfl rfl (fun _ => (Nat.le_of_ble_eq_true rfl)) (fun _ => rfl) rfl rfl (fun _ H locs hw => ?_)
      refine lv_ixor hx hb dX5_winningMove_34 ?_
      refine lv_istore (lv' := [(6, .int (p2 ^^^ r31)), (5, .int r23), (0, .ref (ad0 0)), (1, .int p2), (2, .int p3), (3, .int p4), (4, .int z11)]) hx hb dX5_winningMove_35 hl (by decide) rfl (fun ls hl => ?_)
      refine lv_aload_n hx hb dX5_winningMove_37 rfl (lv_at hl 2 rfl) ?_
      refine lv_iload_n hx hb dX5_winningMove_38 rfl (lv_at hl 3 rfl) ?_
      refine lv_iload hx hb dX5_winningMove_39 (lv_at hl 1 rfl) ?_
      obtain ⟨r41, h41, h⟩ := bnd h
      refine g_calli0 (isC := [0]) (gn := fun _ => [wSE g ad0 se]) (g_runVN (isC := [0]) (rest := []) (As := [.int p2, .int r23]) X hw (c_X2_mayGo l (ad := ad0) h41) rfl kM_X2_mayGo ki_X2_mayGo ks_X2_mayGo km_X5_377 ⟨(by dsimp only [R_X5_winningMove, R_X2_mayGo]; omega), (by dsimp only [R_X5_winningMove, R_X2_mayGo]; omega)⟩ ⟨(Nat.le_of_ble_eq_true rfl), (Nat.le_of_ble_eq_true rfl)⟩ rfl rfl ⟨_, _, _, _, rfl, rfl, rfl, rfl⟩ rfl hl.1 rfl (Nat.le_of_ble_eq_true rfl) dX5_winningMove_41) hw rfl rfl (fun _ => (Nat.le_of_ble_eq_true rfl)) (fun _ => rfl) rfl rfl (fun _ H locs hw => ?_)
      refine lv_if_eq (tgt := 78) hx hb dX5_winningMove_44 (by decide) (fun k44 => ?_) (fun k44 => ?_)
      · have h := itt k44 h
        exact J78 _ h _ _ _ hw (lv_sub hl [2, 3, 4, 5, 6] rfl)
      · have h := itf k44 h
        refine lv_iload_n hx hb dX5_winningMove_47 rfl (lv_at hl 4 rfl) ?_
        refine lv_iload hx hb dX5_winningMove_48 (lv_at hl 0 rfl) ?_
        obtain ⟨r50, h50, h⟩ := bnd h
        refine g_calli0 (isC := []) (gn := fun _ => [wSE g ad0 se]) (g_runS (isC := []) (rest := []) (As := [.int p3, .int (p2 ^^^ r31)]) X hw (c_X5_hasBit l h50) rfl kM_X5_hasBit kt_X5_hasBit km_X5_223 ⟨(by dsimp only [R_X5_winningMove, R_X5_hasBit]; omega), (by dsimp only [R_X5_winningMove, R_X5_hasBit]; omega)⟩ ⟨(Nat.le_of_ble_eq_true rfl), (Nat.le_of_ble_eq_true rfl)⟩ rfl rfl rfl hl.1 rfl (Nat.le_of_ble_eq_true rfl) dX5_winningMove_50) hw rfl rfl (fun _ => (Nat.le_of_ble_eq_true rfl)) (fun _ => rfl) rfl rfl (fun _ H locs hw => ?_)
        refine lv_if_ne (tgt := 78) hx hb dX5_winningMove_53 (by decide) (fun k53 => ?_) (fun k53 => ?_)
        · have h := itt k53 h
          exact J78 _ h _ _ _ hw (lv_sub hl [2, 3, 4, 5, 6] rfl)
        · have h := itf (fun z => z k53) h
          refine lv_aload_n hx hb dX5_winningMove_56 rfl (lv_at hl 2 rfl) ?_
          refine lv_iload hx hb dX5_winningMove_57 (lv_at hl 0 rfl) ?_
          refine lv_iload_n hx hb dX5_winningMove_59 rfl (lv_at hl 4 rfl) ?_
          refine lv_iconst (v := 1) hx hb dX5_winningMove_60 (by decide) ?_
          refine lv_iload hx hb dX5_winningMove_61 (lv_at hl 0 rfl) ?_
          refine lv_ishl hx hb dX5_winningMove_63 ?_
          refine lv_ior hx hb dX5_winningMove_64 ?_
          refine lv_iload_n hx hb dX5_winningMove_65 rfl (lv_at hl 5 rfl) ?_
          refine lv_iconst (v := 1) hx hb dX5_winningMove_66 (by decide) ?_
          refine lv_iadd hx hb dX5_winningMove_67 ?_
          obtain ⟨r68, h68, h⟩ := bnd h
          refine g_calli0 (isC := [0]) (gn := fun _ => [wSE g ad0 se]) (g_runS (isC := [0]) (rest := []) (As := [.ref (ad0 0), .int (p2 ^^^ r31), .int (p3 ||| ((1 : Int32) <<< ((p2 ^^^ r31) &&& 31))), .int (p4 + (1 : Int32))]) X hw (ihD h68) rfl kM_X5_winningMove kt_X5_winningMove km_X5_321 ⟨(by dsimp only [R_X5_winningMove]; omega), (by dsimp only [R_X5_winningMove]; omega)⟩ ⟨(Nat.le_of_ble_eq_true rfl), (Nat.le_of_ble_eq_true rfl)⟩ rfl rfl rfl hl.1 rfl (Nat.le_of_ble_eq_true rfl) dX5_winningMove_68) hw rfl rfl (fun _ => (Nat.le_of_ble_eq_true rfl)) (fun _ => rfl) rfl rfl (fun _ H locs hw => ?_)
          refine lv_iconst (v := -1) hx hb dX5_winningMove_71 (by decide) ?_
          refine lv_icmp_ne (tgt := 78) hx hb dX5_winningMove_72 (by decide) (fun k72 => ?_) (fun k72 => ?_)
          · have h := itt k72 h
            exact J78 _ h _ _ _ hw (lv_sub hl [2, 3, 4, 5, 6] rfl)
          · have h := itf (fun z => z k72) h
            refine lv_iload hx hb dX5_winningMove_75 (lv_at hl 1 rfl) ?_
            have h := Option.some.inj h
            subst h
            exact hret () dX5_winningMove_77 rfl hw
  rw [M_X5_winningMove] at h
  refine lv_iload_n hx hb dX5_winningMove_0 rfl (lv_at hl 3 rfl) ?_
  refine lv_bipush (v := 8) hx hb dX5_winningMove_1 (by decide) ?_
  refine lv_icmp_le (tgt := 8) hx hb dX5_winningMove_3 (by decide) (fun k3 => ?_) (fun k3 => ?_)
  · have h := itt k3 h
    refine lv_iconst (v := 0) hx hb dX5_winningMove_8 (by decide) ?_
    refine lv_istore (lv' := [(4, .int (0 : Int32)), (0, .ref (ad0 0)), (1, .int p2), (2, .int p3), (3, .int p4)]) hx hb dX5_winningMove_9 hl (by decide) rfl (fun ls hl => ?_)
    exact L11 N _ h _ _ _ hw (lv_sub hl [1, 2, 3, 4, 0] rfl)
  · have h := itf k3 h
    refine lv_iconst (v := -1) hx hb dX5_winningMove_6 (by decide) ?_
    have h := Option.some.inj h
    subst h
    exact hret () dX5_winningMove_7 rfl hw
theorem kM_X6_isWord : kM yX6_isWord cX6_isWord 3 (some FieldType.boolean) 1 := ⟨kc_X6_isWord, kn_RingsOffModel, by decide +kernel⟩
abbrev R_X6_isWord : Room := { frames := 4, cells := 0, slots := 0, locals := 141 }
set_option maxHeartbeats 4000000 in
set_option maxRecDepth 100000 in
theorem c_X6_isWord (l : Launch) {ad : Nat → Nat} {eK : Option Nat} {eT : Option Nat} {N : Nat} {rm : RM} {p1 : Nat} {out : Int32} (h : M_X6_isWord N rm p1 = some out) (hp1 : p1 < 6) : gM l yX6_isWord cX6_isWord 3 (some FieldType.boolean) R_X6_isWord (fun g => [.ref (ad 0), .ref (gK g p1)]) (fun g => [wRM g ad eK eT rm]) (gQi (fun (_ : Unit) => out) (fun g (_ : Unit) => [wRM g ad eK eT rm])) := by
  refine gM.ofz (by decide +kernel) (fun _ => Nat.le_of_ble_eq_true rfl) (fun g p e s m args below meth c A ls Q X hret hw hl => ?_)
  have hx := X.1.1
  have hb := X.1.2.1
  have hl : lv_has ls 3 [(0, .ref (ad 0)), (1, .ref (gK g p1))] := hl
  have L28 : ∀ (n : Nat) (z28 : Int32), lp (M_X6_isWord_l28 N rm p1) n z28 = some out → ∀ (H : Heap) (locs : List Loc) (ls : Array Slot), gW g A s.heap [wRM g ad eK eT rm] H locs → lv_has ls 3 [(0, .ref (ad 0)), (1, .ref (gK g p1)), (2, .int z28)] → W p l e R_X6_isWord s m args below meth c H locs 0 0 Q (F0 m 28 ls []) := by
    refine lp_ind ?_
    intro rec28 ih28
    intro z28 h H locs ls hw hl
    unfold M_X6_isWord_l28 at h
    refine lv_iload_n hx hb dX6_isWord_28 rfl (lv_at hl 2 rfl) ?_
    refine lv_aload_n hx hb dX6_isWord_29 rfl (lv_at hl 1 rfl) ?_
    refine g_calli0 (isC := []) (gn := fun _ => [wRM g ad eK eT rm]) (g_runK (i := p1) hp1 (isC := []) (rest := [.int z28]) (As := []) X hw (c_J0_length l hp1) rfl rfl kM_J0_length ki_J0_length_8abf5 ks_J0_length_8abf5 km_X6_182 ⟨(Nat.le_of_ble_eq_true rfl), (Nat.le_of_ble_eq_true rfl)⟩ ⟨(Nat.le_of_ble_eq_true rfl), (Nat.le_of_ble_eq_true rfl)⟩ rfl rfl rfl hl.1 rfl (Nat.le_of_ble_eq_true rfl) dX6_isWord_30) hw rfl rfl (fun _ => (Nat.le_of_ble_eq_true rfl)) (fun _ => rfl) rfl rfl (fun _ H locs hw => ?_)
    refine lv_icmp_ge (tgt := 63) hx hb dX6_isWord_33 (by decide) (fun k33 => ?_) (fun k33 => ?_)
    · have h := itt k33 h
      refine lv_iconst (v := 1) hx hb dX6_isWord_63 (by decide) ?_
      have h := Option.some.inj h
      subst h
      exact hret () dX6_isWord_64 (by decide) rfl hw
    · have h := itf k33 h
      refine lv_aload_n hx hb dX6_isWord_36 rfl (lv_at hl 0 rfl) ?_
      refine RM_g_tape X hw 0 rfl kf_X6_31 dX6_isWord_37 ?_
      refine lv_aload_n hx hb dX6_isWord_40 rfl (lv_at hl 0 rfl) ?_
      refine RM_g_from X hw 0 rfl kf_X6_163 dX6_isWord_41 ?_
      refine lv_iload_n hx hb dX6_isWord_44 rfl (lv_at hl 2 rfl) ?_
      refine lv_iadd hx hb dX6_isWord_45 ?_
      obtain ⟨q46, h⟩ := chk h
      refine RM_l_tape X hw 0 rfl q46 dX6_isWord_46 ?_
      refine lv_aload_n hx hb dX6_isWord_47 rfl (lv_at hl 1 rfl) ?_
      refine lv_iload_n hx hb dX6_isWord_48 rfl (lv_at hl 2 rfl) ?_
      obtain ⟨q49, h⟩ := chk h
      refine g_calli0 (isC := []) (gn := fun _ => [wRM g ad eK eT rm]) (g_runK (i := p1) hp1 (isC := []) (rest := [.int (RM_tape rm ((RM_from rm) + z28).toNatClampNeg)]) (As := [.int z28]) X hw (c_charAt l hp1 q49) rfl rfl kM_J0_charAt ki_J0_charAt_5068e ks_J0_charAt_5068e km_X6_188 ⟨(Nat.le_of_ble_eq_true rfl), (Nat.le_of_ble_eq_true rfl)⟩ ⟨(Nat.le_of_ble_eq_true rfl), (Nat.le_of_ble_eq_true rfl)⟩ rfl rfl rfl hl.1 rfl (Nat.le_of_ble_eq_true rfl) dX6_isWord_49) hw rfl rfl (fun _ => (Nat.le_of_ble_eq_true rfl)) (fun _ => rfl) rfl rfl (fun _ H locs hw => ?_)
      refine lv_icmp_eq (tgt := 57) hx hb dX6_isWord_52 (by decide) (fun k52 => ?_) (fun k52 => ?_)
      · have h := itt k52 h
        refine lv_iinc (v := (z28 + 1)) (lv' := [(2, .int (z28 + 1)), (0, .ref (ad 0)), (1, .ref (gK g p1))]) hx hb dX6_isWord_57 hl (k := 2) rfl rfl (by decide) rfl (fun ls hl => ?_)
        refine lv_goto (tgt := 28) hx hb dX6_isWord_60 (by decide) ?_
        exact ih28 _ h _ _ _ hw (lv_sub hl [1, 2, 0] rfl)
      · have h := itf k52 h
        refine lv_iconst (v := 0) hx hb dX6_isWord_55 (by decide) ?_
        have h := Option.some.inj h
        subst h
        exact hret () dX6_isWord_56 (by decide) rfl hw
  unfold M_X6_isWord at h
  refine lv_aload_n hx hb dX6_isWord_0 rfl (lv_at hl 0 rfl) ?_
  refine RM_g_token X hw 0 rfl kf_X6_169 dX6_isWord_1 ?_
  refine lv_iconst (v := 1) hx hb dX6_isWord_4 (by decide) ?_
  refine lv_icmp_ne (tgt := 24) hx hb dX6_isWord_5 (by decide) (fun k5 => ?_) (fun k5 => ?_)
  · have h := itt k5 h
    refine lv_iconst (v := 0) hx hb dX6_isWord_24 (by decide) ?_
    have h := Option.some.inj h
    subst h
    exact hret () dX6_isWord_25 (by decide) rfl hw
  · have h := itf (fun z => z k5) h
    refine lv_aload_n hx hb dX6_isWord_8 rfl (lv_at hl 0 rfl) ?_
    refine RM_g_at X hw 0 rfl kf_X6_160 dX6_isWord_9 ?_
    refine lv_aload_n hx hb dX6_isWord_12 rfl (lv_at hl 0 rfl) ?_
    refine RM_g_from X hw 0 rfl kf_X6_163 dX6_isWord_13 ?_
    refine lv_isub hx hb dX6_isWord_16 ?_
    refine lv_aload_n hx hb dX6_isWord_17 rfl (lv_at hl 1 rfl) ?_
    refine g_calli0 (isC := []) (gn := fun _ => [wRM g ad eK eT rm]) (g_runK (i := p1) hp1 (isC := []) (rest := [.int ((RM_at rm) - (RM_from rm))]) (As := []) X hw (c_J0_length l hp1) rfl rfl kM_J0_length ki_J0_length_8abf5 ks_J0_length_8abf5 km_X6_182 ⟨(Nat.le_of_ble_eq_true rfl), (Nat.le_of_ble_eq_true rfl)⟩ ⟨(Nat.le_of_ble_eq_true rfl), (Nat.le_of_ble_eq_true rfl)⟩ rfl rfl rfl hl.1 rfl (Nat.le_of_ble_eq_true rfl) dX6_isWord_18) hw rfl rfl (fun _ => (Nat.le_of_ble_eq_true rfl)) (fun _ => rfl) rfl rfl (fun _ H locs hw => ?_)
    refine lv_icmp_eq (tgt := 26) hx hb dX6_isWord_21 (by decide) (fun k21 => ?_) (fun k21 => ?_)
    · have h := itt k21 h
      refine lv_iconst (v := 0) hx hb dX6_isWord_26 (by decide) ?_
      refine lv_istore_n (lv' := [(2, .int (0 : Int32)), (0, .ref (ad 0)), (1, .ref (gK g p1))]) hx hb dX6_isWord_27 rfl hl (by decide) rfl (fun ls hl => ?_)
      exact L28 N _ h _ _ _ hw (lv_sub hl [1, 2, 0] rfl)
    · have h := itf k21 h
      refine lv_iconst (v := 0) hx hb dX6_isWord_24 (by decide) ?_
      have h := Option.some.inj h
      subst h
      exact hret () dX6_isWord_25 (by decide) rfl hw
theorem kM_X6_barTold : kM yX6_barTold cX6_barTold 1 (some FieldType.boolean) 0 := ⟨kc_X6_barTold, kn_RingsOffModel, by decide +kernel⟩
abbrev R_X6_barTold : Room := { frames := 5, cells := 0, slots := 0, locals := 163 }
set_option maxHeartbeats 4000000 in
set_option maxRecDepth 100000 in
theorem c_X6_barTold (l : Launch) {ad : Nat → Nat} {eK : Option Nat} {eT : Option Nat} {N : Nat} {rm : RM} {out : Int32 × RM} (h : M_X6_barTold N rm = some out) : gM l yX6_barTold cX6_barTold 1 (some FieldType.boolean) R_X6_barTold (fun _ => [.ref (ad 0)]) (fun g => [wRM g ad eK eT rm]) (gQi (fun (_ : Unit) => out.1) (fun g (_ : Unit) => [wRM g ad eK eT out.2])) := by
  refine gM.ofz (by decide +kernel) (fun _ => Nat.le_of_ble_eq_true rfl) (fun g p e s m args below meth c A ls Q X hret hw hl => ?_)
  have hx := X.1.1
  have hb := X.1.2.1
  have hl : lv_has ls 1 [(0, .ref (ad 0))] := hl
  unfold M_X6_barTold at h
  refine lv_aload_n hx hb dX6_barTold_0 rfl (lv_at hl 0 rfl) ?_
  refine lv_iconst (v := 0) hx hb dX6_barTold_1 (by decide) ?_
  refine lv_iconst (v := 5) hx hb dX6_barTold_2 (by decide) ?_
  obtain ⟨r3, h3, h⟩ := bnd h
  refine g_calli0 (isC := [0]) (gn := fun _ => [wRM g ad eK eT r3.2]) (g_runV (isC := [0]) (rest := []) (As := [.int (0 : Int32), .int (5 : Int32)]) X hw (c_X6_tells l (ad := ad) (eK := eK) (eT := eT) h3) rfl kM_X6_tells ki_X6_tells ks_X6_tells km_X6_202 ⟨(Nat.le_of_ble_eq_true rfl), (Nat.le_of_ble_eq_true rfl)⟩ ⟨(Nat.le_of_ble_eq_true rfl), (Nat.le_of_ble_eq_true rfl)⟩ rfl rfl ⟨_, _, _, _, rfl, rfl, rfl, rfl⟩ rfl hl.1 rfl (Nat.le_of_ble_eq_true rfl) dX6_barTold_3) hw rfl rfl (fun _ => (Nat.le_of_ble_eq_true rfl)) (fun _ => rfl) rfl rfl (fun _ H locs hw => ?_)
  refine lv_if_eq (tgt := 20) hx hb dX6_barTold_6 (by decide) (fun k6 => ?_) (fun k6 => ?_)
  · have h := itt k6 h
    refine lv_iconst (v := 0) hx hb dX6_barTold_20 (by decide) ?_
    have h := Option.some.inj h
    subst h
    exact hret () dX6_barTold_21 (by decide) rfl hw
  · have h := itf k6 h
    refine lv_aload_n hx hb dX6_barTold_9 rfl (lv_at hl 0 rfl) ?_
    refine lv_iconst (v := 1) hx hb dX6_barTold_10 (by decide) ?_
    refine lv_iconst (v := 1) hx hb dX6_barTold_11 (by decide) ?_
    refine lv_bipush (v := 10) hx hb dX6_barTold_12 (by decide) ?_
    obtain ⟨r14, h14, h⟩ := bnd h
    refine g_calli0 (isC := [0]) (gn := fun _ => [wRM g ad eK eT r14.2]) (g_runV (isC := [0]) (rest := []) (As := [.int (1 : Int32), .int (1 : Int32), .int (10 : Int32)]) X hw (c_X6_number l (ad := ad) (eK := eK) (eT := eT) h14) rfl kM_X6_number ki_X6_number ks_X6_number km_X6_199 ⟨(Nat.le_of_ble_eq_true rfl), (Nat.le_of_ble_eq_true rfl)⟩ ⟨(Nat.le_of_ble_eq_true rfl), (Nat.le_of_ble_eq_true rfl)⟩ rfl rfl ⟨_, _, _, _, rfl, rfl, rfl, rfl⟩ rfl hl.1 rfl (Nat.le_of_ble_eq_true rfl) dX6_barTold_14) hw rfl rfl (fun _ => (Nat.le_of_ble_eq_true rfl)) (fun _ => rfl) rfl rfl (fun _ H locs hw => ?_)
    refine lv_if_ne (tgt := 22) hx hb dX6_barTold_17 (by decide) (fun k17 => ?_) (fun k17 => ?_)
    · have h := itt k17 h
      refine lv_aload_n hx hb dX6_barTold_22 rfl (lv_at hl 0 rfl) ?_
      refine lv_aload_n hx hb dX6_barTold_23 rfl (lv_at hl 0 rfl) ?_
      refine RM_g_told X hw 0 rfl kf_X6_64 dX6_barTold_24 ?_
      refine lv_iconst (v := 0) hx hb dX6_barTold_27 (by decide) ?_
      obtain ⟨q28, h⟩ := chk h
      refine RM_l_told X hw 0 rfl q28 dX6_barTold_28 ?_
      refine lv_aload_n hx hb dX6_barTold_29 rfl (lv_at hl 0 rfl) ?_
      refine RM_g_told X hw 0 rfl kf_X6_64 dX6_barTold_30 ?_
      refine lv_iconst (v := 1) hx hb dX6_barTold_33 (by decide) ?_
      obtain ⟨q34, h⟩ := chk h
      refine RM_l_told X hw 0 rfl q34 dX6_barTold_34 ?_
      obtain ⟨r35, h35, h⟩ := bnd h
      refine g_callv0 (isC := [0]) (gn := fun _ => [wRM g ad eK eT r35]) (g_runV (isC := [0]) (rest := []) (As := [.int (RM_told r14.2 (0 : Int32).toNatClampNeg), .int (RM_told r14.2 (1 : Int32).toNatClampNeg)]) X hw (c_X6_addBar l (ad := ad) (eK := eK) (eT := eT) h35) rfl kM_X6_addBar ki_X6_addBar ks_X6_addBar km_X6_140 ⟨(Nat.le_of_ble_eq_true rfl), (Nat.le_of_ble_eq_true rfl)⟩ ⟨(Nat.le_of_ble_eq_true rfl), (Nat.le_of_ble_eq_true rfl)⟩ rfl rfl ⟨_, _, _, _, rfl, rfl, rfl, rfl⟩ rfl hl.1 rfl (Nat.le_of_ble_eq_true rfl) dX6_barTold_35) hw rfl rfl (fun _ => (Nat.le_of_ble_eq_true rfl)) (fun _ => rfl) rfl rfl (fun _ H locs hw => ?_)
      refine lv_aload_n hx hb dX6_barTold_38 rfl (lv_at hl 0 rfl) ?_
      refine va_ldcS hx hb X.1.2.2.2.1 X.2.2.2.2.2.2.2.2.2.1 dX6_barTold_39 ?_
      obtain ⟨r41, h41, h⟩ := bnd h
      refine g_calli0 (isC := [0]) (gn := fun _ => [wRM g ad eK eT r35]) (g_runV (isC := [0]) (rest := []) (As := [.ref (gK g 1)]) X hw (c_X6_isWord l (ad := ad) (eK := eK) (eT := eT) h41 (by decide)) rfl kM_X6_isWord ki_X6_isWord ks_X6_isWord km_X6_206 ⟨(Nat.le_of_ble_eq_true rfl), (Nat.le_of_ble_eq_true rfl)⟩ ⟨(Nat.le_of_ble_eq_true rfl), (Nat.le_of_ble_eq_true rfl)⟩ rfl rfl ⟨_, _, _, _, rfl, rfl, rfl, rfl⟩ rfl hl.1 rfl (Nat.le_of_ble_eq_true rfl) dX6_barTold_41) hw rfl rfl (fun _ => (Nat.le_of_ble_eq_true rfl)) (fun _ => rfl) rfl rfl (fun _ H locs hw => ?_)
      refine lv_if_eq (tgt := 84) hx hb dX6_barTold_44 (by decide) (fun k44 => ?_) (fun k44 => ?_)
      · have h := itt k44 h
        refine lv_iconst (v := 1) hx hb dX6_barTold_84 (by decide) ?_
        have h := Option.some.inj h
        subst h
        exact hret () dX6_barTold_85 (by decide) rfl hw
      · have h := itf k44 h
        refine lv_aload_n hx hb dX6_barTold_47 rfl (lv_at hl 0 rfl) ?_
        refine lv_iconst (v := 0) hx hb dX6_barTold_48 (by decide) ?_
        refine lv_aload_n hx hb dX6_barTold_49 rfl (lv_at hl 0 rfl) ?_
        refine lv_aload_n hx hb dX6_barTold_50 rfl (lv_at hl 0 rfl) ?_
        refine RM_g_bars X hw 0 rfl kf_X6_79 dX6_barTold_51 ?_
        refine lv_iconst (v := 1) hx hb dX6_barTold_54 (by decide) ?_
        refine lv_isub hx hb dX6_barTold_55 ?_
        obtain ⟨r56, h56, h⟩ := bnd h
        refine g_calli0 (isC := [0]) (gn := fun _ => [wRM g ad eK eT r35]) (g_runV (isC := [0]) (rest := [.int (0 : Int32), .ref (ad 0)]) (As := [.int ((RM_bars r35) - (1 : Int32))]) X hw (c_X6_all l (ad := ad) (eK := eK) (eT := eT) h56) rfl kM_X6_all ki_X6_all ks_X6_all km_X6_86 ⟨(Nat.le_of_ble_eq_true rfl), (Nat.le_of_ble_eq_true rfl)⟩ ⟨(Nat.le_of_ble_eq_true rfl), (Nat.le_of_ble_eq_true rfl)⟩ rfl rfl ⟨_, _, _, _, rfl, rfl, rfl, rfl⟩ rfl hl.1 rfl (Nat.le_of_ble_eq_true rfl) dX6_barTold_56) hw rfl rfl (fun _ => (Nat.le_of_ble_eq_true rfl)) (fun _ => rfl) rfl rfl (fun _ H locs hw => ?_)
        obtain ⟨r59, h59, h⟩ := bnd h
        refine g_calli0 (isC := [0]) (gn := fun _ => [wRM g ad eK eT r59.2]) (g_runV (isC := [0]) (rest := []) (As := [.int (0 : Int32), .int r56]) X hw (c_X6_tells l (ad := ad) (eK := eK) (eT := eT) h59) rfl kM_X6_tells ki_X6_tells ks_X6_tells km_X6_202 ⟨(Nat.le_of_ble_eq_true rfl), (Nat.le_of_ble_eq_true rfl)⟩ ⟨(Nat.le_of_ble_eq_true rfl), (Nat.le_of_ble_eq_true rfl)⟩ rfl rfl ⟨_, _, _, _, rfl, rfl, rfl, rfl⟩ rfl hl.1 rfl (Nat.le_of_ble_eq_true rfl) dX6_barTold_59) hw rfl rfl (fun _ => (Nat.le_of_ble_eq_true rfl)) (fun _ => rfl) rfl rfl (fun _ H locs hw => ?_)
        refine lv_if_ne (tgt := 67) hx hb dX6_barTold_62 (by decide) (fun k62 => ?_) (fun k62 => ?_)
        · have h := itt k62 h
          refine lv_aload_n hx hb dX6_barTold_67 rfl (lv_at hl 0 rfl) ?_
          refine RM_g_on X hw 0 rfl kf_X6_43 dX6_barTold_68 ?_
          refine lv_aload_n hx hb dX6_barTold_71 rfl (lv_at hl 0 rfl) ?_
          refine RM_g_bars X hw 0 rfl kf_X6_79 dX6_barTold_72 ?_
          refine lv_iconst (v := 1) hx hb dX6_barTold_75 (by decide) ?_
          refine lv_isub hx hb dX6_barTold_76 ?_
          refine lv_aload_n hx hb dX6_barTold_77 rfl (lv_at hl 0 rfl) ?_
          refine RM_g_told X hw 0 rfl kf_X6_64 dX6_barTold_78 ?_
          refine lv_iconst (v := 0) hx hb dX6_barTold_81 (by decide) ?_
          obtain ⟨q82, h⟩ := chk h
          refine RM_l_told X hw 0 rfl q82 dX6_barTold_82 ?_
          obtain ⟨q83, h⟩ := chk h
          refine RM_a_on (gs' := [wRM g ad eK eT (RM_s_on r59.2 (upd (RM_on r59.2) ((RM_bars r59.2) - (1 : Int32)).toNatClampNeg (RM_told r59.2 (0 : Int32).toNatClampNeg)))]) X hw 0 rfl q83 dX6_barTold_83 rfl (fun H locs hw => ?_)
          refine lv_iconst (v := 1) hx hb dX6_barTold_84 (by decide) ?_
          have h := Option.some.inj h
          subst h
          exact hret () dX6_barTold_85 (by decide) rfl hw
        · have h := itf (fun z => z k62) h
          refine lv_iconst (v := 0) hx hb dX6_barTold_65 (by decide) ?_
          have h := Option.some.inj h
          subst h
          exact hret () dX6_barTold_66 (by decide) rfl hw
    · have h := itf (fun z => z k17) h
      refine lv_iconst (v := 0) hx hb dX6_barTold_20 (by decide) ?_
      have h := Option.some.inj h
      subst h
      exact hret () dX6_barTold_21 (by decide) rfl hw
theorem kM_X6_winning : kM yX6_winning cX6_winning 6 (some FieldType.int) 3 := ⟨kc_X6_winning, kn_RingsOffModel, by decide +kernel⟩
abbrev R_X6_winning (D : Nat) : Room := { frames := D + 4, cells := 0, slots := 0, locals := D * 25 + 92 }
set_option maxHeartbeats 4000000 in
set_option maxRecDepth 100000 in
theorem c_X6_winning (l : Launch) {ad : Nat → Nat} {eK : Option Nat} {eT : Option Nat} {N : Nat} : ∀ (D : Nat) {rm : RM} {p1 : Int32} {p2 : Int32} {p3 : Int32} {out : Int32}, M_X6_winning N D rm p1 p2 p3 = some out → gM l yX6_winning cX6_winning 6 (some FieldType.int) (R_X6_winning D) (fun _ => [.ref (ad 0), .int p1, .int p2, .int p3]) (fun g => [wRM g ad eK eT rm]) (gQi (fun (_ : Unit) => out) (fun g (_ : Unit) => [wRM g ad eK eT rm])) := by
  intro D
  induction D with
  | zero =>
    intro rm p1 p2 p3 out h
    rw [M_X6_winning] at h
    cases h
  | succ D ihD =>
  intro rm p1 p2 p3 out h
  refine gM.ofi (by decide +kernel) (fun _ => Nat.le_of_ble_eq_true rfl) (fun g p e s m args below meth c A ls Q X hret hw hl => ?_)
  have hx := X.1.1
  have hb := X.1.2.1
  have hl : lv_has ls 6 [(0, .ref (ad 0)), (1, .int p1), (2, .int p2), (3, .int p3)] := hl
  have L3 : ∀ (n : Nat) (z3 : Int32), lp (M_X6_winning_l3 N (M_X6_winning N D) rm p1 p2 p3) n z3 = some out → ∀ (H : Heap) (locs : List Loc) (ls : Array Slot), gW g A s.heap [wRM g ad eK eT rm] H locs → lv_has ls 6 [(0, .ref (ad 0)), (1, .int p1), (2, .int p2), (3, .int p3), (4, .int z3)] → W p l e (R_X6_winning (D + 1)) s m args below meth c H locs 0 0 Q (F0 m 3 ls []) := by
    refine lp_ind ?_
    intro rec3 ih3
    have J59 : ∀ (z59 : Int32), M_X6_winning_j59 N (M_X6_winning N D) rm p1 p2 p3 rec3 z59 = some out → ∀ (H : Heap) (locs : List Loc) (ls : Array Slot), gW g A s.heap [wRM g ad eK eT rm] H locs → lv_has ls 6 [(0, .ref (ad 0)), (1, .int p1), (2, .int p2), (3, .int p3), (4, .int z59)] → W p l e (R_X6_winning (D + 1)) s m args below meth c H locs 0 0 Q (F0 m 59 ls []) := by
      intro z59 h H locs ls hw hl
      unfold M_X6_winning_j59 at h
      refine lv_iinc (v := (z59 + 1)) (lv' := [(4, .int (z59 + 1)), (0, .ref (ad 0)), (1, .int p1), (2, .int p2), (3, .int p3)]) hx hb dX6_winning_59 hl (k := 4) rfl rfl (by decide) rfl (fun ls hl => ?_)
      refine lv_goto (tgt := 3) hx hb dX6_winning_62 (by decide) ?_
      exact ih3 _ h _ _ _ hw (lv_sub hl [1, 2, 3, 4, 0] rfl)
    intro z3 h H locs ls hw hl
    unfold M_X6_winning_l3 at h
    refine lv_iload hx hb dX6_winning_3 (lv_at hl 4 rfl) ?_
    refine lv_bipush (v := 20) hx hb dX6_winning_5 (by decide) ?_
    refine lv_icmp_gt (tgt := 65) hx hb dX6_winning_7 (by decide) (fun k7 => ?_) (fun k7 => ?_)
    · have h := itt k7 h
      refine lv_iconst (v := -1) hx hb dX6_winning_65 (by decide) ?_
      have h := Option.some.inj h
      subst h
      exact hret () dX6_winning_66 rfl hw
    · have h := itf k7 h
      refine lv_aload_n hx hb dX6_winning_10 rfl (lv_at hl 0 rfl) ?_
      refine lv_iload_n hx hb dX6_winning_11 rfl (lv_at hl 1 rfl) ?_
      refine lv_iload_n hx hb dX6_winning_12 rfl (lv_at hl 2 rfl) ?_
      refine lv_iload hx hb dX6_winning_13 (lv_at hl 4 rfl) ?_
      obtain ⟨r15, h15, h⟩ := bnd h
      refine g_calli0 (isC := [0]) (gn := fun _ => [wRM g ad eK eT rm]) (g_runV (isC := [0]) (rest := []) (As := [.int p1, .int p2, .int z3]) X hw (c_X6_mayAt l (ad := ad) (eK := eK) (eT := eT) h15) rfl kM_X6_mayAt ki_X6_mayAt ks_X6_mayAt km_X6_131 ⟨(by dsimp only [R_X6_winning, R_X6_mayAt]; omega), (by dsimp only [R_X6_winning, R_X6_mayAt]; omega)⟩ ⟨(Nat.le_of_ble_eq_true rfl), (Nat.le_of_ble_eq_true rfl)⟩ rfl rfl ⟨_, _, _, _, rfl, rfl, rfl, rfl⟩ rfl hl.1 rfl (Nat.le_of_ble_eq_true rfl) dX6_winning_15) hw rfl rfl (fun _ => (Nat.le_of_ble_eq_true rfl)) (fun _ => rfl) rfl rfl (fun _ H locs hw => ?_)
      refine lv_if_eq (tgt := 59) hx hb dX6_winning_18 (by decide) (fun k18 => ?_) (fun k18 => ?_)
      · have h := itt k18 h
        exact J59 _ h _ _ _ hw (lv_sub hl [0, 1, 2, 3, 4] rfl)
      · have h := itf k18 h
        refine lv_iload_n hx hb dX6_winning_21 rfl (lv_at hl 2 rfl) ?_
        refine lv_iload hx hb dX6_winning_22 (lv_at hl 4 rfl) ?_
        obtain ⟨r24, h24, h⟩ := bnd h
        refine g_calli0 (isC := []) (gn := fun _ => [wRM g ad eK eT rm]) (g_runS (isC := []) (rest := [.int p2]) (As := [.int z3]) X hw (c_X6_mask l h24) rfl kM_X6_mask kt_X6_mask km_X6_212 ⟨(by dsimp only [R_X6_winning, R_X6_mask]; omega), (by dsimp only [R_X6_winning, R_X6_mask]; omega)⟩ ⟨(Nat.le_of_ble_eq_true rfl), (Nat.le_of_ble_eq_true rfl)⟩ rfl rfl rfl hl.1 rfl (Nat.le_of_ble_eq_true rfl) dX6_winning_24) hw rfl rfl (fun _ => (Nat.le_of_ble_eq_true rfl)) (fun _ => rfl) rfl rfl (fun _ H locs hw => ?_)
        refine lv_ixor hx hb dX6_winning_27 ?_
        refine lv_istore (lv' := [(5, .int (p2 ^^^ r24)), (0, .ref (ad 0)), (1, .int p1), (2, .int p2), (3, .int p3), (4, .int z3)]) hx hb dX6_winning_28 hl (by decide) rfl (fun ls hl => ?_)
        refine lv_iload_n hx hb dX6_winning_30 rfl (lv_at hl 4 rfl) ?_
        refine lv_iload hx hb dX6_winning_31 (lv_at hl 0 rfl) ?_
        refine lv_ishr hx hb dX6_winning_33 ?_
        refine lv_iconst (v := 1) hx hb dX6_winning_34 (by decide) ?_
        refine lv_iand hx hb dX6_winning_35 ?_
        refine lv_if_ne (tgt := 59) hx hb dX6_winning_36 (by decide) (fun k36 => ?_) (fun k36 => ?_)
        · have h := itt k36 h
          exact J59 _ h _ _ _ hw (lv_sub hl [1, 2, 3, 4, 5] rfl)
        · have h := itf (fun z => z k36) h
          refine lv_aload_n hx hb dX6_winning_39 rfl (lv_at hl 1 rfl) ?_
          refine lv_iload_n hx hb dX6_winning_40 rfl (lv_at hl 2 rfl) ?_
          refine lv_iload hx hb dX6_winning_41 (lv_at hl 0 rfl) ?_
          refine lv_iload_n hx hb dX6_winning_43 rfl (lv_at hl 4 rfl) ?_
          refine lv_iconst (v := 1) hx hb dX6_winning_44 (by decide) ?_
          refine lv_iload hx hb dX6_winning_45 (lv_at hl 0 rfl) ?_
          refine lv_ishl hx hb dX6_winning_47 ?_
          refine lv_ior hx hb dX6_winning_48 ?_
          obtain ⟨r49, h49, h⟩ := bnd h
          refine g_calli0 (isC := [0]) (gn := fun _ => [wRM g ad eK eT rm]) (g_runV (isC := [0]) (rest := []) (As := [.int p1, .int (p2 ^^^ r24), .int (p3 ||| ((1 : Int32) <<< ((p2 ^^^ r24) &&& 31)))]) X hw (ihD h49) rfl kM_X6_winning ki_X6_winning ks_X6_winning km_X6_314 ⟨(by dsimp only [R_X6_winning]; omega), (by dsimp only [R_X6_winning]; omega)⟩ ⟨(Nat.le_of_ble_eq_true rfl), (Nat.le_of_ble_eq_true rfl)⟩ rfl rfl ⟨_, _, _, _, rfl, rfl, rfl, rfl⟩ rfl hl.1 rfl (Nat.le_of_ble_eq_true rfl) dX6_winning_49) hw rfl rfl (fun _ => (Nat.le_of_ble_eq_true rfl)) (fun _ => rfl) rfl rfl (fun _ H locs hw => ?_)
          refine lv_iconst (v := -1) hx hb dX6_winning_52 (by decide) ?_
          refine lv_icmp_ne (tgt := 59) hx hb dX6_winning_53 (by decide) (fun k53 => ?_) (fun k53 => ?_)
          · have h := itt k53 h
            exact J59 _ h _ _ _ hw (lv_sub hl [1, 2, 3, 4, 5] rfl)
          · have h := itf (fun z => z k53) h
            refine lv_iload hx hb dX6_winning_56 (lv_at hl 5 rfl) ?_
            have h := Option.some.inj h
            subst h
            exact hret () dX6_winning_58 rfl hw
  rw [M_X6_winning] at h
  refine lv_iconst (v := 0) hx hb dX6_winning_0 (by decide) ?_
  refine lv_istore (lv' := [(4, .int (0 : Int32)), (0, .ref (ad 0)), (1, .int p1), (2, .int p2), (3, .int p3)]) hx hb dX6_winning_1 hl (by decide) rfl (fun ls hl => ?_)
  exact L3 N _ h _ _ _ hw (lv_sub hl [1, 2, 3, 4, 0] rfl)
theorem kM_X6_game : kM yX6_game cX6_game 4 (some FieldType.int) 2 := ⟨kc_X6_game, kn_RingsOffModel, by decide +kernel⟩
abbrev R_X6_game : Room := { frames := 17, cells := 0, slots := 0, locals := 417 }
set_option maxHeartbeats 4000000 in
set_option maxRecDepth 100000 in
theorem c_X6_game (l : Launch) {ad : Nat → Nat} {eK : Option Nat} {eT : Option Nat} {N : Nat} {rm : RM} {p1 : Int32} {p2 : Int32} {out : Int32 × RM} (h : M_X6_game N rm p1 p2 = some out) : gM l yX6_game cX6_game 4 (some FieldType.int) R_X6_game (fun _ => [.ref (ad 0), .int p1, .int p2]) (fun g => [wRM g ad eK eT rm]) (gQi (fun (_ : Unit) => out.1) (fun g (_ : Unit) => [wRM g ad eK eT out.2])) := by
  refine gM.ofi (by decide +kernel) (fun _ => Nat.le_of_ble_eq_true rfl) (fun g p e s m args below meth c A ls Q X hret hw hl => ?_)
  have hx := X.1.1
  have hb := X.1.2.1
  have hl : lv_has ls 4 [(0, .ref (ad 0)), (1, .int p1), (2, .int p2)] := hl
  have J18 : ∀ (z18 : RM), M_X6_game_j18 N p1 p2 z18 = some out → ∀ (H : Heap) (locs : List Loc) (ls : Array Slot), gW g A s.heap [wRM g ad eK eT z18] H locs → lv_has ls 4 [(0, .ref (ad 0))] → W p l e R_X6_game s m args below meth c H locs 0 0 Q (F0 m 18 ls []) := by
    intro z18 h H locs ls hw hl
    unfold M_X6_game_j18 at h
    refine lv_aload_n hx hb dX6_game_18 rfl (lv_at hl 0 rfl) ?_
    refine lv_bipush (v := -2) hx hb dX6_game_19 (by decide) ?_
    obtain ⟨r21, h21, h⟩ := bnd h
    refine g_calli0 (isC := [0]) (gn := fun _ => [wRM g ad eK eT r21.2]) (g_runV (isC := [0]) (rest := []) (As := [.int (-2 : Int32)]) X hw (c_X6_refuse l (ad := ad) (eK := eK) (eT := eT) h21) rfl kM_X6_refuse ki_X6_refuse ks_X6_refuse km_X6_96 ⟨(Nat.le_of_ble_eq_true rfl), (Nat.le_of_ble_eq_true rfl)⟩ ⟨(Nat.le_of_ble_eq_true rfl), (Nat.le_of_ble_eq_true rfl)⟩ rfl rfl ⟨_, _, _, _, rfl, rfl, rfl, rfl⟩ rfl hl.1 rfl (Nat.le_of_ble_eq_true rfl) dX6_game_21) hw rfl rfl (fun _ => (Nat.le_of_ble_eq_true rfl)) (fun _ => rfl) rfl rfl (fun _ H locs hw => ?_)
    have h := Option.some.inj h
    subst h
    exact hret () dX6_game_24 rfl hw
  unfold M_X6_game at h
  refine lv_aload_n hx hb dX6_game_0 rfl (lv_at hl 0 rfl) ?_
  refine lv_iload_n hx hb dX6_game_1 rfl (lv_at hl 1 rfl) ?_
  obtain ⟨r2, h2, h⟩ := bnd h
  refine g_calli0 (isC := [0]) (gn := fun _ => [wRM g ad eK eT rm]) (g_runV (isC := [0]) (rest := []) (As := [.int p1]) X hw (c_X6_isBar l (ad := ad) (eK := eK) (eT := eT) h2) rfl kM_X6_isBar ki_X6_isBar ks_X6_isBar km_X6_106 ⟨(Nat.le_of_ble_eq_true rfl), (Nat.le_of_ble_eq_true rfl)⟩ ⟨(Nat.le_of_ble_eq_true rfl), (Nat.le_of_ble_eq_true rfl)⟩ rfl rfl ⟨_, _, _, _, rfl, rfl, rfl, rfl⟩ rfl hl.1 rfl (Nat.le_of_ble_eq_true rfl) dX6_game_2) hw rfl rfl (fun _ => (Nat.le_of_ble_eq_true rfl)) (fun _ => rfl) rfl rfl (fun _ H locs hw => ?_)
  refine lv_if_eq (tgt := 18) hx hb dX6_game_5 (by decide) (fun k5 => ?_) (fun k5 => ?_)
  · have h := itt k5 h
    exact J18 _ h _ _ _ hw (lv_sub hl [0] rfl)
  · have h := itf k5 h
    refine lv_iload_n hx hb dX6_game_8 rfl (lv_at hl 2 rfl) ?_
    refine lv_i2l (v := p2.toInt64) hx hb dX6_game_9 rfl ?_
    refine lv_lconst (v := 0) hx hb dX6_game_10 (by decide) ?_
    refine lv_lconst (v := 1) hx hb dX6_game_11 (by decide) ?_
    obtain ⟨r12, h12, h⟩ := bnd h
    refine g_calli0 (isC := []) (gn := fun _ => [wRM g ad eK eT rm]) (g_runS (isC := []) (rest := []) (As := [.long p2.toInt64, .long (0 : Int64), .long (1 : Int64)]) X hw (c_X6_in l h12) rfl kM_X6_in kt_X6_in km_X6_82 ⟨(Nat.le_of_ble_eq_true rfl), (Nat.le_of_ble_eq_true rfl)⟩ ⟨(Nat.le_of_ble_eq_true rfl), (Nat.le_of_ble_eq_true rfl)⟩ rfl rfl rfl hl.1 rfl (Nat.le_of_ble_eq_true rfl) dX6_game_12) hw rfl rfl (fun _ => (Nat.le_of_ble_eq_true rfl)) (fun _ => rfl) rfl rfl (fun _ H locs hw => ?_)
    refine lv_if_ne (tgt := 25) hx hb dX6_game_15 (by decide) (fun k15 => ?_) (fun k15 => ?_)
    · have h := itt k15 h
      refine lv_aload_n hx hb dX6_game_25 rfl (lv_at hl 0 rfl) ?_
      refine RM_g_size X hw 0 rfl kf_X6_40 dX6_game_26 ?_
      refine lv_iload_n hx hb dX6_game_29 rfl (lv_at hl 1 rfl) ?_
      obtain ⟨q30, h⟩ := chk h
      refine RM_l_size X hw 0 rfl q30 dX6_game_30 ?_
      refine lv_iconst (v := 3) hx hb dX6_game_31 (by decide) ?_
      refine lv_icmp_le (tgt := 42) hx hb dX6_game_32 (by decide) (fun k32 => ?_) (fun k32 => ?_)
      · have h := itt k32 h
        refine lv_aload_n hx hb dX6_game_42 rfl (lv_at hl 0 rfl) ?_
        refine lv_iload_n hx hb dX6_game_43 rfl (lv_at hl 1 rfl) ?_
        refine lv_aload_n hx hb dX6_game_44 rfl (lv_at hl 0 rfl) ?_
        refine RM_g_on X hw 0 rfl kf_X6_43 dX6_game_45 ?_
        refine lv_iload_n hx hb dX6_game_48 rfl (lv_at hl 1 rfl) ?_
        obtain ⟨q49, h⟩ := chk h
        refine RM_l_on X hw 0 rfl q49 dX6_game_49 ?_
        refine lv_iconst (v := 1) hx hb dX6_game_50 (by decide) ?_
        refine lv_aload_n hx hb dX6_game_51 rfl (lv_at hl 0 rfl) ?_
        refine RM_g_on X hw 0 rfl kf_X6_43 dX6_game_52 ?_
        refine lv_iload_n hx hb dX6_game_55 rfl (lv_at hl 1 rfl) ?_
        obtain ⟨q56, h⟩ := chk h
        refine RM_l_on X hw 0 rfl q56 dX6_game_56 ?_
        refine lv_ishl hx hb dX6_game_57 ?_
        obtain ⟨r58, h58, h⟩ := bnd h
        refine g_calli0 (isC := [0]) (gn := fun _ => [wRM g ad eK eT rm]) (g_runV (isC := [0]) (rest := []) (As := [.int p1, .int (RM_on rm p1.toNatClampNeg), .int ((1 : Int32) <<< ((RM_on rm p1.toNatClampNeg) &&& 31))]) X hw (c_X6_winning l (ad := ad) (eK := eK) (eT := eT) 12 h58) rfl kM_X6_winning ki_X6_winning ks_X6_winning km_X6_314 ⟨(Nat.le_of_ble_eq_true rfl), (Nat.le_of_ble_eq_true rfl)⟩ ⟨(Nat.le_of_ble_eq_true rfl), (Nat.le_of_ble_eq_true rfl)⟩ rfl rfl ⟨_, _, _, _, rfl, rfl, rfl, rfl⟩ rfl hl.1 rfl (Nat.le_of_ble_eq_true rfl) dX6_game_58) hw rfl rfl (fun _ => (Nat.le_of_ble_eq_true rfl)) (fun _ => rfl) rfl rfl (fun _ H locs hw => ?_)
        refine lv_istore_n (lv' := [(3, .int r58), (0, .ref (ad 0)), (1, .int p1), (2, .int p2)]) hx hb dX6_game_61 rfl hl (by decide) rfl (fun ls hl => ?_)
        refine lv_iload_n hx hb dX6_game_62 rfl (lv_at hl 3 rfl) ?_
        refine lv_iconst (v := 1) hx hb dX6_game_63 (by decide) ?_
        refine lv_icmp_ne (tgt := 71) hx hb dX6_game_64 (by decide) (fun k64 => ?_) (fun k64 => ?_)
        · have h := itt k64 h
          refine lv_iload_n hx hb dX6_game_71 rfl (lv_at hl 0 rfl) ?_
          refine lv_iconst (v := -1) hx hb dX6_game_72 (by decide) ?_
          refine lv_icmp_ne (tgt := 80) hx hb dX6_game_73 (by decide) (fun k73 => ?_) (fun k73 => ?_)
          · have h := itt k73 h
            refine lv_iconst (v := 1) hx hb dX6_game_80 (by decide) ?_
            have h := Option.some.inj h
            subst h
            exact hret () dX6_game_81 rfl hw
          · have h := itf (fun z => z k73) h
            refine lv_iconst (v := 0) hx hb dX6_game_76 (by decide) ?_
            refine lv_goto (tgt := 81) hx hb dX6_game_77 (by decide) ?_
            have h := Option.some.inj h
            subst h
            exact hret () dX6_game_81 rfl hw
        · have h := itf (fun z => z k64) h
          refine lv_iload_n hx hb dX6_game_67 rfl (lv_at hl 0 rfl) ?_
          refine lv_goto (tgt := 81) hx hb dX6_game_68 (by decide) ?_
          have h := Option.some.inj h
          subst h
          exact hret () dX6_game_81 rfl hw
      · have h := itf k32 h
        refine lv_aload_n hx hb dX6_game_35 rfl (lv_at hl 0 rfl) ?_
        refine lv_bipush (v := -5) hx hb dX6_game_36 (by decide) ?_
        obtain ⟨r38, h38, h⟩ := bnd h
        refine g_calli0 (isC := [0]) (gn := fun _ => [wRM g ad eK eT r38.2]) (g_runV (isC := [0]) (rest := []) (As := [.int (-5 : Int32)]) X hw (c_X6_refuse l (ad := ad) (eK := eK) (eT := eT) h38) rfl kM_X6_refuse ki_X6_refuse ks_X6_refuse km_X6_96 ⟨(Nat.le_of_ble_eq_true rfl), (Nat.le_of_ble_eq_true rfl)⟩ ⟨(Nat.le_of_ble_eq_true rfl), (Nat.le_of_ble_eq_true rfl)⟩ rfl rfl ⟨_, _, _, _, rfl, rfl, rfl, rfl⟩ rfl hl.1 rfl (Nat.le_of_ble_eq_true rfl) dX6_game_38) hw rfl rfl (fun _ => (Nat.le_of_ble_eq_true rfl)) (fun _ => rfl) rfl rfl (fun _ H locs hw => ?_)
        have h := Option.some.inj h
        subst h
        exact hret () dX6_game_41 rfl hw
    · have h := itf (fun z => z k15) h
      exact J18 _ h _ _ _ hw (lv_sub hl [0] rfl)
theorem kM_X4_isWord : kM yX4_isWord cX4_isWord 3 (some FieldType.boolean) 1 := ⟨kc_X4_isWord, kn_RingsOff_Tape, by decide +kernel⟩
abbrev R_X4_isWord : Room := { frames := 4, cells := 0, slots := 0, locals := 141 }
set_option maxHeartbeats 4000000 in
set_option maxRecDepth 100000 in
theorem c_X4_isWord (l : Launch) {ad : Nat → Nat} {N : Nat} {tp : TP} {p1 : Nat} {out : Int32} (h : M_X4_isWord N tp p1 = some out) (hp1 : p1 < 6) : gM l yX4_isWord cX4_isWord 3 (some FieldType.boolean) R_X4_isWord (fun g => [.ref (ad 0), .ref (gK g p1)]) (fun g => [wTP g ad tp]) (gQi (fun (_ : Unit) => out) (fun g (_ : Unit) => [wTP g ad tp])) := by
  refine gM.ofz (by decide +kernel) (fun _ => Nat.le_of_ble_eq_true rfl) (fun g p e s m args below meth c A ls Q X hret hw hl => ?_)
  have hx := X.1.1
  have hb := X.1.2.1
  have hl : lv_has ls 3 [(0, .ref (ad 0)), (1, .ref (gK g p1))] := hl
  have L28 : ∀ (n : Nat) (z28 : Int32), lp (M_X4_isWord_l28 N tp p1) n z28 = some out → ∀ (H : Heap) (locs : List Loc) (ls : Array Slot), gW g A s.heap [wTP g ad tp] H locs → lv_has ls 3 [(0, .ref (ad 0)), (1, .ref (gK g p1)), (2, .int z28)] → W p l e R_X4_isWord s m args below meth c H locs 0 0 Q (F0 m 28 ls []) := by
    refine lp_ind ?_
    intro rec28 ih28
    intro z28 h H locs ls hw hl
    unfold M_X4_isWord_l28 at h
    refine lv_iload_n hx hb dX4_isWord_28 rfl (lv_at hl 2 rfl) ?_
    refine lv_aload_n hx hb dX4_isWord_29 rfl (lv_at hl 1 rfl) ?_
    refine g_calli0 (isC := []) (gn := fun _ => [wTP g ad tp]) (g_runK (i := p1) hp1 (isC := []) (rest := [.int z28]) (As := []) X hw (c_J0_length l hp1) rfl rfl kM_J0_length ki_J0_length_8abf5 ks_J0_length_8abf5 km_X4_140 ⟨(Nat.le_of_ble_eq_true rfl), (Nat.le_of_ble_eq_true rfl)⟩ ⟨(Nat.le_of_ble_eq_true rfl), (Nat.le_of_ble_eq_true rfl)⟩ rfl rfl rfl hl.1 rfl (Nat.le_of_ble_eq_true rfl) dX4_isWord_30) hw rfl rfl (fun _ => (Nat.le_of_ble_eq_true rfl)) (fun _ => rfl) rfl rfl (fun _ H locs hw => ?_)
    refine lv_icmp_ge (tgt := 62) hx hb dX4_isWord_33 (by decide) (fun k33 => ?_) (fun k33 => ?_)
    · have h := itt k33 h
      refine lv_iconst (v := 1) hx hb dX4_isWord_62 (by decide) ?_
      have h := Option.some.inj h
      subst h
      exact hret () dX4_isWord_63 (by decide) rfl hw
    · have h := itf k33 h
      refine lv_aload_n hx hb dX4_isWord_36 rfl (lv_at hl 0 rfl) ?_
      refine lv_aload_n hx hb dX4_isWord_37 rfl (lv_at hl 0 rfl) ?_
      refine TP_g_start X hw 0 rfl kf_X4_22 dX4_isWord_38 ?_
      refine lv_iload_n hx hb dX4_isWord_41 rfl (lv_at hl 2 rfl) ?_
      refine lv_iadd hx hb dX4_isWord_42 ?_
      obtain ⟨r43, h43, h⟩ := bnd h
      refine g_calli0 (isC := [0]) (gn := fun _ => [wTP g ad tp]) (g_runV (isC := [0]) (rest := []) (As := [.int ((TP_start tp) + z28)]) X hw (c_X4_byteAt l (ad := ad) h43) rfl kM_X4_byteAt ki_X4_byteAt ks_X4_byteAt km_X4_131 ⟨(Nat.le_of_ble_eq_true rfl), (Nat.le_of_ble_eq_true rfl)⟩ ⟨(Nat.le_of_ble_eq_true rfl), (Nat.le_of_ble_eq_true rfl)⟩ rfl rfl ⟨_, _, _, _, rfl, rfl, rfl, rfl⟩ rfl hl.1 rfl (Nat.le_of_ble_eq_true rfl) dX4_isWord_43) hw rfl rfl (fun _ => (Nat.le_of_ble_eq_true rfl)) (fun _ => rfl) rfl rfl (fun _ H locs hw => ?_)
      refine lv_aload_n hx hb dX4_isWord_46 rfl (lv_at hl 1 rfl) ?_
      refine lv_iload_n hx hb dX4_isWord_47 rfl (lv_at hl 2 rfl) ?_
      obtain ⟨q48, h⟩ := chk h
      refine g_calli0 (isC := []) (gn := fun _ => [wTP g ad tp]) (g_runK (i := p1) hp1 (isC := []) (rest := [.int r43]) (As := [.int z28]) X hw (c_charAt l hp1 q48) rfl rfl kM_J0_charAt ki_J0_charAt_5068e ks_J0_charAt_5068e km_X4_146 ⟨(Nat.le_of_ble_eq_true rfl), (Nat.le_of_ble_eq_true rfl)⟩ ⟨(Nat.le_of_ble_eq_true rfl), (Nat.le_of_ble_eq_true rfl)⟩ rfl rfl rfl hl.1 rfl (Nat.le_of_ble_eq_true rfl) dX4_isWord_48) hw rfl rfl (fun _ => (Nat.le_of_ble_eq_true rfl)) (fun _ => rfl) rfl rfl (fun _ H locs hw => ?_)
      refine lv_icmp_eq (tgt := 56) hx hb dX4_isWord_51 (by decide) (fun k51 => ?_) (fun k51 => ?_)
      · have h := itt k51 h
        refine lv_iinc (v := (z28 + 1)) (lv' := [(2, .int (z28 + 1)), (0, .ref (ad 0)), (1, .ref (gK g p1))]) hx hb dX4_isWord_56 hl (k := 2) rfl rfl (by decide) rfl (fun ls hl => ?_)
        refine lv_goto (tgt := 28) hx hb dX4_isWord_59 (by decide) ?_
        exact ih28 _ h _ _ _ hw (lv_sub hl [1, 2, 0] rfl)
      · have h := itf k51 h
        refine lv_iconst (v := 0) hx hb dX4_isWord_54 (by decide) ?_
        have h := Option.some.inj h
        subst h
        exact hret () dX4_isWord_55 (by decide) rfl hw
  unfold M_X4_isWord at h
  refine lv_aload_n hx hb dX4_isWord_0 rfl (lv_at hl 0 rfl) ?_
  refine TP_g_type X hw 0 rfl kf_X4_25 dX4_isWord_1 ?_
  refine lv_iconst (v := 1) hx hb dX4_isWord_4 (by decide) ?_
  refine lv_icmp_ne (tgt := 24) hx hb dX4_isWord_5 (by decide) (fun k5 => ?_) (fun k5 => ?_)
  · have h := itt k5 h
    refine lv_iconst (v := 0) hx hb dX4_isWord_24 (by decide) ?_
    have h := Option.some.inj h
    subst h
    exact hret () dX4_isWord_25 (by decide) rfl hw
  · have h := itf (fun z => z k5) h
    refine lv_aload_n hx hb dX4_isWord_8 rfl (lv_at hl 0 rfl) ?_
    refine TP_g_at X hw 0 rfl kf_X4_19 dX4_isWord_9 ?_
    refine lv_aload_n hx hb dX4_isWord_12 rfl (lv_at hl 0 rfl) ?_
    refine TP_g_start X hw 0 rfl kf_X4_22 dX4_isWord_13 ?_
    refine lv_isub hx hb dX4_isWord_16 ?_
    refine lv_aload_n hx hb dX4_isWord_17 rfl (lv_at hl 1 rfl) ?_
    refine g_calli0 (isC := []) (gn := fun _ => [wTP g ad tp]) (g_runK (i := p1) hp1 (isC := []) (rest := [.int ((TP_at tp) - (TP_start tp))]) (As := []) X hw (c_J0_length l hp1) rfl rfl kM_J0_length ki_J0_length_8abf5 ks_J0_length_8abf5 km_X4_140 ⟨(Nat.le_of_ble_eq_true rfl), (Nat.le_of_ble_eq_true rfl)⟩ ⟨(Nat.le_of_ble_eq_true rfl), (Nat.le_of_ble_eq_true rfl)⟩ rfl rfl rfl hl.1 rfl (Nat.le_of_ble_eq_true rfl) dX4_isWord_18) hw rfl rfl (fun _ => (Nat.le_of_ble_eq_true rfl)) (fun _ => rfl) rfl rfl (fun _ H locs hw => ?_)
    refine lv_icmp_eq (tgt := 26) hx hb dX4_isWord_21 (by decide) (fun k21 => ?_) (fun k21 => ?_)
    · have h := itt k21 h
      refine lv_iconst (v := 0) hx hb dX4_isWord_26 (by decide) ?_
      refine lv_istore_n (lv' := [(2, .int (0 : Int32)), (0, .ref (ad 0)), (1, .ref (gK g p1))]) hx hb dX4_isWord_27 rfl hl (by decide) rfl (fun ls hl => ?_)
      exact L28 N _ h _ _ _ hw (lv_sub hl [1, 2, 0] rfl)
    · have h := itf k21 h
      refine lv_iconst (v := 0) hx hb dX4_isWord_24 (by decide) ?_
      have h := Option.some.inj h
      subst h
      exact hret () dX4_isWord_25 (by decide) rfl hw
theorem kM_X6_statement : kM yX6_statement cX6_statement 1 (some FieldType.boolean) 0 := ⟨kc_X6_statement, kn_RingsOffModel, by decide +kernel⟩
abbrev R_X6_statement : Room := { frames := 6, cells := 0, slots := 0, locals := 183 }
set_option maxHeartbeats 4000000 in
set_option maxRecDepth 100000 in
theorem c_X6_statement (l : Launch) {ad : Nat → Nat} {eK : Option Nat} {eT : Option Nat} {N : Nat} {rm : RM} {out : Int32 × RM} (h : M_X6_statement N rm = some out) : gM l yX6_statement cX6_statement 1 (some FieldType.boolean) R_X6_statement (fun _ => [.ref (ad 0)]) (fun g => [wRM g ad eK eT rm]) (gQi (fun (_ : Unit) => out.1) (fun g (_ : Unit) => [wRM g ad eK eT out.2])) := by
  refine gM.ofz (by decide +kernel) (fun _ => Nat.le_of_ble_eq_true rfl) (fun g p e s m args below meth c A ls Q X hret hw hl => ?_)
  have hx := X.1.1
  have hb := X.1.2.1
  have hl : lv_has ls 1 [(0, .ref (ad 0))] := hl
  have J22 : ∀ (z22 : RM), M_X6_statement_j22 N z22 = some out → ∀ (H : Heap) (locs : List Loc) (ls : Array Slot), gW g A s.heap [wRM g ad eK eT z22] H locs → lv_has ls 1 [(0, .ref (ad 0))] → W p l e R_X6_statement s m args below meth c H locs 0 0 Q (F0 m 22 ls []) := by
    intro z22 h H locs ls hw hl
    unfold M_X6_statement_j22 at h
    refine lv_aload_n hx hb dX6_statement_22 rfl (lv_at hl 0 rfl) ?_
    refine va_ldcS hx hb X.1.2.2.2.1 X.2.2.2.2.2.2.2.2.2.2.1 dX6_statement_23 ?_
    obtain ⟨r25, h25, h⟩ := bnd h
    refine g_calli0 (isC := [0]) (gn := fun _ => [wRM g ad eK eT z22]) (g_runV (isC := [0]) (rest := []) (As := [.ref (gK g 2)]) X hw (c_X6_isWord l (ad := ad) (eK := eK) (eT := eT) h25 (by decide)) rfl kM_X6_isWord ki_X6_isWord ks_X6_isWord km_X6_206 ⟨(Nat.le_of_ble_eq_true rfl), (Nat.le_of_ble_eq_true rfl)⟩ ⟨(Nat.le_of_ble_eq_true rfl), (Nat.le_of_ble_eq_true rfl)⟩ rfl rfl ⟨_, _, _, _, rfl, rfl, rfl, rfl⟩ rfl hl.1 rfl (Nat.le_of_ble_eq_true rfl) dX6_statement_25) hw rfl rfl (fun _ => (Nat.le_of_ble_eq_true rfl)) (fun _ => rfl) rfl rfl (fun _ H locs hw => ?_)
    refine lv_if_eq (tgt := 85) hx hb dX6_statement_28 (by decide) (fun k28 => ?_) (fun k28 => ?_)
    · have h := itt k28 h
      refine lv_aload_n hx hb dX6_statement_85 rfl (lv_at hl 0 rfl) ?_
      refine va_ldcS hx hb X.1.2.2.2.1 X.2.2.2.2.2.2.2.2.2.2.2.1 dX6_statement_86 ?_
      obtain ⟨r88, h88, h⟩ := bnd h
      refine g_calli0 (isC := [0]) (gn := fun _ => [wRM g ad eK eT z22]) (g_runV (isC := [0]) (rest := []) (As := [.ref (gK g 3)]) X hw (c_X6_isWord l (ad := ad) (eK := eK) (eT := eT) h88 (by decide)) rfl kM_X6_isWord ki_X6_isWord ks_X6_isWord km_X6_206 ⟨(Nat.le_of_ble_eq_true rfl), (Nat.le_of_ble_eq_true rfl)⟩ ⟨(Nat.le_of_ble_eq_true rfl), (Nat.le_of_ble_eq_true rfl)⟩ rfl rfl ⟨_, _, _, _, rfl, rfl, rfl, rfl⟩ rfl hl.1 rfl (Nat.le_of_ble_eq_true rfl) dX6_statement_88) hw rfl rfl (fun _ => (Nat.le_of_ble_eq_true rfl)) (fun _ => rfl) rfl rfl (fun _ H locs hw => ?_)
      refine lv_if_eq (tgt := 99) hx hb dX6_statement_91 (by decide) (fun k91 => ?_) (fun k91 => ?_)
      · have h := itt k91 h
        refine lv_aload_n hx hb dX6_statement_99 rfl (lv_at hl 0 rfl) ?_
        refine va_ldcS hx hb X.1.2.2.2.1 X.2.2.2.2.2.2.2.2.2.2.2.2.1 dX6_statement_100 ?_
        obtain ⟨r102, h102, h⟩ := bnd h
        refine g_calli0 (isC := [0]) (gn := fun _ => [wRM g ad eK eT z22]) (g_runV (isC := [0]) (rest := []) (As := [.ref (gK g 4)]) X hw (c_X6_isWord l (ad := ad) (eK := eK) (eT := eT) h102 (by decide)) rfl kM_X6_isWord ki_X6_isWord ks_X6_isWord km_X6_206 ⟨(Nat.le_of_ble_eq_true rfl), (Nat.le_of_ble_eq_true rfl)⟩ ⟨(Nat.le_of_ble_eq_true rfl), (Nat.le_of_ble_eq_true rfl)⟩ rfl rfl ⟨_, _, _, _, rfl, rfl, rfl, rfl⟩ rfl hl.1 rfl (Nat.le_of_ble_eq_true rfl) dX6_statement_102) hw rfl rfl (fun _ => (Nat.le_of_ble_eq_true rfl)) (fun _ => rfl) rfl rfl (fun _ H locs hw => ?_)
        refine lv_if_eq (tgt := 150) hx hb dX6_statement_105 (by decide) (fun k105 => ?_) (fun k105 => ?_)
        · have h := itt k105 h
          refine lv_aload_n hx hb dX6_statement_150 rfl (lv_at hl 0 rfl) ?_
          refine va_ldcS hx hb X.1.2.2.2.1 X.2.2.2.2.2.2.2.2.2.2.2.2.2 dX6_statement_151 ?_
          obtain ⟨r153, h153, h⟩ := bnd h
          refine g_calli0 (isC := [0]) (gn := fun _ => [wRM g ad eK eT z22]) (g_runV (isC := [0]) (rest := []) (As := [.ref (gK g 5)]) X hw (c_X6_isWord l (ad := ad) (eK := eK) (eT := eT) h153 (by decide)) rfl kM_X6_isWord ki_X6_isWord ks_X6_isWord km_X6_206 ⟨(Nat.le_of_ble_eq_true rfl), (Nat.le_of_ble_eq_true rfl)⟩ ⟨(Nat.le_of_ble_eq_true rfl), (Nat.le_of_ble_eq_true rfl)⟩ rfl rfl ⟨_, _, _, _, rfl, rfl, rfl, rfl⟩ rfl hl.1 rfl (Nat.le_of_ble_eq_true rfl) dX6_statement_153) hw rfl rfl (fun _ => (Nat.le_of_ble_eq_true rfl)) (fun _ => rfl) rfl rfl (fun _ H locs hw => ?_)
          refine lv_if_eq (tgt := 166) hx hb dX6_statement_156 (by decide) (fun k156 => ?_) (fun k156 => ?_)
          · have h := itt k156 h
            refine lv_aload_n hx hb dX6_statement_166 rfl (lv_at hl 0 rfl) ?_
            obtain ⟨r167, h167, h⟩ := bnd h
            refine g_calli0 (isC := [0]) (gn := fun _ => [wRM g ad eK eT r167.2]) (g_runV (isC := [0]) (rest := []) (As := []) X hw (c_X6_wrong l (ad := ad) (eK := eK) (eT := eT) h167) rfl kM_X6_wrong ki_X6_wrong ks_X6_wrong km_X6_192 ⟨(Nat.le_of_ble_eq_true rfl), (Nat.le_of_ble_eq_true rfl)⟩ ⟨(Nat.le_of_ble_eq_true rfl), (Nat.le_of_ble_eq_true rfl)⟩ rfl rfl ⟨_, _, _, _, rfl, rfl, rfl, rfl⟩ rfl hl.1 rfl (Nat.le_of_ble_eq_true rfl) dX6_statement_167) hw rfl rfl (fun _ => (Nat.le_of_ble_eq_true rfl)) (fun _ => rfl) rfl rfl (fun _ H locs hw => ?_)
            obtain ⟨q170, h⟩ := chk h
            have h := Option.some.inj h
            subst h
            exact hret () dX6_statement_170 (Decidable.not_not.mp q170) rfl hw
          · have h := itf k156 h
            refine lv_aload_n hx hb dX6_statement_159 rfl (lv_at hl 0 rfl) ?_
            obtain ⟨r160, h160, h⟩ := bnd h
            refine g_calli0 (isC := [0]) (gn := fun _ => [wRM g ad eK eT r160.2]) (g_runV (isC := [0]) (rest := []) (As := []) X hw (c_X6_moveTold l (ad := ad) (eK := eK) (eT := eT) h160) rfl kM_X6_moveTold ki_X6_moveTold ks_X6_moveTold km_X6_232 ⟨(Nat.le_of_ble_eq_true rfl), (Nat.le_of_ble_eq_true rfl)⟩ ⟨(Nat.le_of_ble_eq_true rfl), (Nat.le_of_ble_eq_true rfl)⟩ rfl rfl ⟨_, _, _, _, rfl, rfl, rfl, rfl⟩ rfl hl.1 rfl (Nat.le_of_ble_eq_true rfl) dX6_statement_160) hw rfl rfl (fun _ => (Nat.le_of_ble_eq_true rfl)) (fun _ => rfl) rfl rfl (fun _ H locs hw => ?_)
            refine lv_goto (tgt := 170) hx hb dX6_statement_163 (by decide) ?_
            obtain ⟨q170, h⟩ := chk h
            have h := Option.some.inj h
            subst h
            exact hret () dX6_statement_170 (Decidable.not_not.mp q170) rfl hw
        · have h := itf k105 h
          refine lv_aload_n hx hb dX6_statement_108 rfl (lv_at hl 0 rfl) ?_
          refine lv_iconst (v := 0) hx hb dX6_statement_109 (by decide) ?_
          refine lv_bipush (v := 9) hx hb dX6_statement_110 (by decide) ?_
          obtain ⟨r112, h112, h⟩ := bnd h
          refine g_calli0 (isC := [0]) (gn := fun _ => [wRM g ad eK eT r112.2]) (g_runV (isC := [0]) (rest := []) (As := [.int (0 : Int32), .int (9 : Int32)]) X hw (c_X6_tells l (ad := ad) (eK := eK) (eT := eT) h112) rfl kM_X6_tells ki_X6_tells ks_X6_tells km_X6_202 ⟨(Nat.le_of_ble_eq_true rfl), (Nat.le_of_ble_eq_true rfl)⟩ ⟨(Nat.le_of_ble_eq_true rfl), (Nat.le_of_ble_eq_true rfl)⟩ rfl rfl ⟨_, _, _, _, rfl, rfl, rfl, rfl⟩ rfl hl.1 rfl (Nat.le_of_ble_eq_true rfl) dX6_statement_112) hw rfl rfl (fun _ => (Nat.le_of_ble_eq_true rfl)) (fun _ => rfl) rfl rfl (fun _ H locs hw => ?_)
          refine lv_if_eq (tgt := 129) hx hb dX6_statement_115 (by decide) (fun k115 => ?_) (fun k115 => ?_)
          · have h := itt k115 h
            refine lv_iconst (v := 0) hx hb dX6_statement_129 (by decide) ?_
            have h := Option.some.inj h
            subst h
            exact hret () dX6_statement_130 (by decide) rfl hw
          · have h := itf k115 h
            refine lv_aload_n hx hb dX6_statement_118 rfl (lv_at hl 0 rfl) ?_
            refine lv_iconst (v := 1) hx hb dX6_statement_119 (by decide) ?_
            refine lv_iconst (v := 0) hx hb dX6_statement_120 (by decide) ?_
            refine lv_bipush (v := 99) hx hb dX6_statement_121 (by decide) ?_
            obtain ⟨r123, h123, h⟩ := bnd h
            refine g_calli0 (isC := [0]) (gn := fun _ => [wRM g ad eK eT r123.2]) (g_runV (isC := [0]) (rest := []) (As := [.int (1 : Int32), .int (0 : Int32), .int (99 : Int32)]) X hw (c_X6_number l (ad := ad) (eK := eK) (eT := eT) h123) rfl kM_X6_number ki_X6_number ks_X6_number km_X6_199 ⟨(Nat.le_of_ble_eq_true rfl), (Nat.le_of_ble_eq_true rfl)⟩ ⟨(Nat.le_of_ble_eq_true rfl), (Nat.le_of_ble_eq_true rfl)⟩ rfl rfl ⟨_, _, _, _, rfl, rfl, rfl, rfl⟩ rfl hl.1 rfl (Nat.le_of_ble_eq_true rfl) dX6_statement_123) hw rfl rfl (fun _ => (Nat.le_of_ble_eq_true rfl)) (fun _ => rfl) rfl rfl (fun _ H locs hw => ?_)
            refine lv_if_ne (tgt := 131) hx hb dX6_statement_126 (by decide) (fun k126 => ?_) (fun k126 => ?_)
            · have h := itt k126 h
              refine lv_aload_n hx hb dX6_statement_131 rfl (lv_at hl 0 rfl) ?_
              refine RM_g_minutes X hw 0 rfl kf_X6_57 dX6_statement_132 ?_
              refine lv_aload_n hx hb dX6_statement_135 rfl (lv_at hl 0 rfl) ?_
              refine RM_g_told X hw 0 rfl kf_X6_64 dX6_statement_136 ?_
              refine lv_iconst (v := 0) hx hb dX6_statement_139 (by decide) ?_
              obtain ⟨q140, h⟩ := chk h
              refine RM_l_told X hw 0 rfl q140 dX6_statement_140 ?_
              refine lv_aload_n hx hb dX6_statement_141 rfl (lv_at hl 0 rfl) ?_
              refine RM_g_told X hw 0 rfl kf_X6_64 dX6_statement_142 ?_
              refine lv_iconst (v := 1) hx hb dX6_statement_145 (by decide) ?_
              obtain ⟨q146, h⟩ := chk h
              refine RM_l_told X hw 0 rfl q146 dX6_statement_146 ?_
              obtain ⟨q147, h⟩ := chk h
              refine RM_a_minutes (gs' := [wRM g ad eK eT (RM_s_minutes r123.2 (upd (RM_minutes r123.2) (RM_told r123.2 (0 : Int32).toNatClampNeg).toNatClampNeg (RM_told r123.2 (1 : Int32).toNatClampNeg)))]) X hw 0 rfl q147 dX6_statement_147 rfl (fun H locs hw => ?_)
              refine lv_iconst (v := 1) hx hb dX6_statement_148 (by decide) ?_
              have h := Option.some.inj h
              subst h
              exact hret () dX6_statement_149 (by decide) rfl hw
            · have h := itf (fun z => z k126) h
              refine lv_iconst (v := 0) hx hb dX6_statement_129 (by decide) ?_
              have h := Option.some.inj h
              subst h
              exact hret () dX6_statement_130 (by decide) rfl hw
      · have h := itf k91 h
        refine lv_aload_n hx hb dX6_statement_94 rfl (lv_at hl 0 rfl) ?_
        obtain ⟨r95, h95, h⟩ := bnd h
        refine g_calli0 (isC := [0]) (gn := fun _ => [wRM g ad eK eT r95.2]) (g_runV (isC := [0]) (rest := []) (As := []) X hw (c_X6_tableTold l (ad := ad) (eK := eK) (eT := eT) h95) rfl kM_X6_tableTold ki_X6_tableTold ks_X6_tableTold km_X6_226 ⟨(Nat.le_of_ble_eq_true rfl), (Nat.le_of_ble_eq_true rfl)⟩ ⟨(Nat.le_of_ble_eq_true rfl), (Nat.le_of_ble_eq_true rfl)⟩ rfl rfl ⟨_, _, _, _, rfl, rfl, rfl, rfl⟩ rfl hl.1 rfl (Nat.le_of_ble_eq_true rfl) dX6_statement_95) hw rfl rfl (fun _ => (Nat.le_of_ble_eq_true rfl)) (fun _ => rfl) rfl rfl (fun _ H locs hw => ?_)
        obtain ⟨q98, h⟩ := chk h
        have h := Option.some.inj h
        subst h
        exact hret () dX6_statement_98 (Decidable.not_not.mp q98) rfl hw
    · have h := itf k28 h
      refine lv_aload_n hx hb dX6_statement_31 rfl (lv_at hl 0 rfl) ?_
      refine lv_iconst (v := 0) hx hb dX6_statement_32 (by decide) ?_
      refine lv_aload_n hx hb dX6_statement_33 rfl (lv_at hl 0 rfl) ?_
      refine RM_g_bars X hw 0 rfl kf_X6_79 dX6_statement_34 ?_
      refine lv_iconst (v := 1) hx hb dX6_statement_37 (by decide) ?_
      refine lv_isub hx hb dX6_statement_38 ?_
      obtain ⟨r39, h39, h⟩ := bnd h
      refine g_calli0 (isC := [0]) (gn := fun _ => [wRM g ad eK eT r39.2]) (g_runV (isC := [0]) (rest := []) (As := [.int (0 : Int32), .int ((RM_bars z22) - (1 : Int32))]) X hw (c_X6_tells l (ad := ad) (eK := eK) (eT := eT) h39) rfl kM_X6_tells ki_X6_tells ks_X6_tells km_X6_202 ⟨(Nat.le_of_ble_eq_true rfl), (Nat.le_of_ble_eq_true rfl)⟩ ⟨(Nat.le_of_ble_eq_true rfl), (Nat.le_of_ble_eq_true rfl)⟩ rfl rfl ⟨_, _, _, _, rfl, rfl, rfl, rfl⟩ rfl hl.1 rfl (Nat.le_of_ble_eq_true rfl) dX6_statement_39) hw rfl rfl (fun _ => (Nat.le_of_ble_eq_true rfl)) (fun _ => rfl) rfl rfl (fun _ H locs hw => ?_)
      refine lv_if_eq (tgt := 64) hx hb dX6_statement_42 (by decide) (fun k42 => ?_) (fun k42 => ?_)
      · have h := itt k42 h
        refine lv_iconst (v := 0) hx hb dX6_statement_64 (by decide) ?_
        have h := Option.some.inj h
        subst h
        exact hret () dX6_statement_65 (by decide) rfl hw
      · have h := itf k42 h
        refine lv_aload_n hx hb dX6_statement_45 rfl (lv_at hl 0 rfl) ?_
        refine lv_iconst (v := 1) hx hb dX6_statement_46 (by decide) ?_
        refine lv_iconst (v := 0) hx hb dX6_statement_47 (by decide) ?_
        refine lv_aload_n hx hb dX6_statement_48 rfl (lv_at hl 0 rfl) ?_
        refine lv_aload_n hx hb dX6_statement_49 rfl (lv_at hl 0 rfl) ?_
        refine RM_g_told X hw 0 rfl kf_X6_64 dX6_statement_50 ?_
        refine lv_iconst (v := 0) hx hb dX6_statement_53 (by decide) ?_
        obtain ⟨q54, h⟩ := chk h
        refine RM_l_told X hw 0 rfl q54 dX6_statement_54 ?_
        obtain ⟨r55, h55, h⟩ := bnd h
        refine g_calli0 (isC := [0]) (gn := fun _ => [wRM g ad eK eT r39.2]) (g_runV (isC := [0]) (rest := [.int (0 : Int32), .int (1 : Int32), .ref (ad 0)]) (As := [.int (RM_told r39.2 (0 : Int32).toNatClampNeg)]) X hw (c_X6_all l (ad := ad) (eK := eK) (eT := eT) h55) rfl kM_X6_all ki_X6_all ks_X6_all km_X6_86 ⟨(Nat.le_of_ble_eq_true rfl), (Nat.le_of_ble_eq_true rfl)⟩ ⟨(Nat.le_of_ble_eq_true rfl), (Nat.le_of_ble_eq_true rfl)⟩ rfl rfl ⟨_, _, _, _, rfl, rfl, rfl, rfl⟩ rfl hl.1 rfl (Nat.le_of_ble_eq_true rfl) dX6_statement_55) hw rfl rfl (fun _ => (Nat.le_of_ble_eq_true rfl)) (fun _ => rfl) rfl rfl (fun _ H locs hw => ?_)
        obtain ⟨r58, h58, h⟩ := bnd h
        refine g_calli0 (isC := [0]) (gn := fun _ => [wRM g ad eK eT r58.2]) (g_runV (isC := [0]) (rest := []) (As := [.int (1 : Int32), .int (0 : Int32), .int r55]) X hw (c_X6_number l (ad := ad) (eK := eK) (eT := eT) h58) rfl kM_X6_number ki_X6_number ks_X6_number km_X6_199 ⟨(Nat.le_of_ble_eq_true rfl), (Nat.le_of_ble_eq_true rfl)⟩ ⟨(Nat.le_of_ble_eq_true rfl), (Nat.le_of_ble_eq_true rfl)⟩ rfl rfl ⟨_, _, _, _, rfl, rfl, rfl, rfl⟩ rfl hl.1 rfl (Nat.le_of_ble_eq_true rfl) dX6_statement_58) hw rfl rfl (fun _ => (Nat.le_of_ble_eq_true rfl)) (fun _ => rfl) rfl rfl (fun _ H locs hw => ?_)
        refine lv_if_ne (tgt := 66) hx hb dX6_statement_61 (by decide) (fun k61 => ?_) (fun k61 => ?_)
        · have h := itt k61 h
          refine lv_aload_n hx hb dX6_statement_66 rfl (lv_at hl 0 rfl) ?_
          refine RM_g_stuck X hw 0 rfl kf_X6_46 dX6_statement_67 ?_
          refine lv_aload_n hx hb dX6_statement_70 rfl (lv_at hl 0 rfl) ?_
          refine RM_g_told X hw 0 rfl kf_X6_64 dX6_statement_71 ?_
          refine lv_iconst (v := 0) hx hb dX6_statement_74 (by decide) ?_
          obtain ⟨q75, h⟩ := chk h
          refine RM_l_told X hw 0 rfl q75 dX6_statement_75 ?_
          refine lv_aload_n hx hb dX6_statement_76 rfl (lv_at hl 0 rfl) ?_
          refine RM_g_told X hw 0 rfl kf_X6_64 dX6_statement_77 ?_
          refine lv_iconst (v := 1) hx hb dX6_statement_80 (by decide) ?_
          obtain ⟨q81, h⟩ := chk h
          refine RM_l_told X hw 0 rfl q81 dX6_statement_81 ?_
          obtain ⟨q82, h⟩ := chk h
          refine RM_a_stuck (gs' := [wRM g ad eK eT (RM_s_stuck r58.2 (upd (RM_stuck r58.2) (RM_told r58.2 (0 : Int32).toNatClampNeg).toNatClampNeg (RM_told r58.2 (1 : Int32).toNatClampNeg)))]) X hw 0 rfl q82 dX6_statement_82 rfl (fun H locs hw => ?_)
          refine lv_iconst (v := 1) hx hb dX6_statement_83 (by decide) ?_
          have h := Option.some.inj h
          subst h
          exact hret () dX6_statement_84 (by decide) rfl hw
        · have h := itf (fun z => z k61) h
          refine lv_iconst (v := 0) hx hb dX6_statement_64 (by decide) ?_
          have h := Option.some.inj h
          subst h
          exact hret () dX6_statement_65 (by decide) rfl hw
  unfold M_X6_statement at h
  refine lv_aload_n hx hb dX6_statement_0 rfl (lv_at hl 0 rfl) ?_
  refine va_ldcS hx hb X.1.2.2.2.1 X.2.2.2.2.2.2.2.2.1 dX6_statement_1 ?_
  obtain ⟨r3, h3, h⟩ := bnd h
  refine g_calli0 (isC := [0]) (gn := fun _ => [wRM g ad eK eT rm]) (g_runV (isC := [0]) (rest := []) (As := [.ref (gK g 0)]) X hw (c_X6_isWord l (ad := ad) (eK := eK) (eT := eT) h3 (by decide)) rfl kM_X6_isWord ki_X6_isWord ks_X6_isWord km_X6_206 ⟨(Nat.le_of_ble_eq_true rfl), (Nat.le_of_ble_eq_true rfl)⟩ ⟨(Nat.le_of_ble_eq_true rfl), (Nat.le_of_ble_eq_true rfl)⟩ rfl rfl ⟨_, _, _, _, rfl, rfl, rfl, rfl⟩ rfl hl.1 rfl (Nat.le_of_ble_eq_true rfl) dX6_statement_3) hw rfl rfl (fun _ => (Nat.le_of_ble_eq_true rfl)) (fun _ => rfl) rfl rfl (fun _ H locs hw => ?_)
  refine lv_if_eq (tgt := 22) hx hb dX6_statement_6 (by decide) (fun k6 => ?_) (fun k6 => ?_)
  · have h := itt k6 h
    exact J22 _ h _ _ _ hw (lv_sub hl [0] rfl)
  · have h := itf k6 h
    refine lv_aload_n hx hb dX6_statement_9 rfl (lv_at hl 0 rfl) ?_
    refine RM_g_bars X hw 0 rfl kf_X6_79 dX6_statement_10 ?_
    refine lv_iconst (v := 4) hx hb dX6_statement_13 (by decide) ?_
    refine lv_icmp_ge (tgt := 22) hx hb dX6_statement_14 (by decide) (fun k14 => ?_) (fun k14 => ?_)
    · have h := itt k14 h
      exact J22 _ h _ _ _ hw (lv_sub hl [0] rfl)
    · have h := itf k14 h
      refine lv_aload_n hx hb dX6_statement_17 rfl (lv_at hl 0 rfl) ?_
      obtain ⟨r18, h18, h⟩ := bnd h
      refine g_calli0 (isC := [0]) (gn := fun _ => [wRM g ad eK eT r18.2]) (g_runV (isC := [0]) (rest := []) (As := []) X hw (c_X6_barTold l (ad := ad) (eK := eK) (eT := eT) h18) rfl kM_X6_barTold ki_X6_barTold ks_X6_barTold km_X6_220 ⟨(Nat.le_of_ble_eq_true rfl), (Nat.le_of_ble_eq_true rfl)⟩ ⟨(Nat.le_of_ble_eq_true rfl), (Nat.le_of_ble_eq_true rfl)⟩ rfl rfl ⟨_, _, _, _, rfl, rfl, rfl, rfl⟩ rfl hl.1 rfl (Nat.le_of_ble_eq_true rfl) dX6_statement_18) hw rfl rfl (fun _ => (Nat.le_of_ble_eq_true rfl)) (fun _ => rfl) rfl rfl (fun _ H locs hw => ?_)
      obtain ⟨q21, h⟩ := chk h
      have h := Option.some.inj h
      subst h
      exact hret () dX6_statement_21 (Decidable.not_not.mp q21) rfl hw
theorem kM_X6_readAll : kM yX6_readAll cX6_readAll 1 (some FieldType.boolean) 0 := ⟨kc_X6_readAll, kn_RingsOffModel, by decide +kernel⟩
abbrev R_X6_readAll : Room := { frames := 7, cells := 0, slots := 0, locals := 203 }
set_option maxHeartbeats 4000000 in
set_option maxRecDepth 100000 in
theorem c_X6_readAll (l : Launch) {ad : Nat → Nat} {eK : Option Nat} {eT : Option Nat} {N : Nat} {rm : RM} {out : Int32 × RM} (h : M_X6_readAll N rm = some out) : gM l yX6_readAll cX6_readAll 1 (some FieldType.boolean) R_X6_readAll (fun _ => [.ref (ad 0)]) (fun g => [wRM g ad eK eT rm]) (gQi (fun (_ : Unit) => out.1) (fun g (_ : Unit) => [wRM g ad eK eT out.2])) := by
  refine gM.ofz (by decide +kernel) (fun _ => Nat.le_of_ble_eq_true rfl) (fun g p e s m args below meth c A ls Q X hret hw hl => ?_)
  have hx := X.1.1
  have hb := X.1.2.1
  have hl : lv_has ls 1 [(0, .ref (ad 0))] := hl
  have L23 : ∀ (n : Nat) (z23 : RM), lp (M_X6_readAll_l23 N) n z23 = some out → ∀ (H : Heap) (locs : List Loc) (ls : Array Slot), gW g A s.heap [wRM g ad eK eT z23] H locs → lv_has ls 1 [(0, .ref (ad 0))] → W p l e R_X6_readAll s m args below meth c H locs 0 0 Q (F0 m 23 ls []) := by
    refine lp_ind ?_
    intro rec23 ih23
    intro z23 h H locs ls hw hl
    unfold M_X6_readAll_l23 at h
    refine lv_aload_n hx hb dX6_readAll_23 rfl (lv_at hl 0 rfl) ?_
    refine RM_g_token X hw 0 rfl kf_X6_169 dX6_readAll_24 ?_
    refine lv_if_eq (tgt := 69) hx hb dX6_readAll_27 (by decide) (fun k27 => ?_) (fun k27 => ?_)
    · have h := itt k27 h
      refine lv_iconst (v := 1) hx hb dX6_readAll_69 (by decide) ?_
      have h := Option.some.inj h
      subst h
      exact hret () dX6_readAll_70 (by decide) rfl hw
    · have h := itf k27 h
      refine lv_aload_n hx hb dX6_readAll_30 rfl (lv_at hl 0 rfl) ?_
      refine RM_g_token X hw 0 rfl kf_X6_169 dX6_readAll_31 ?_
      refine lv_iconst (v := 3) hx hb dX6_readAll_34 (by decide) ?_
      refine lv_icmp_eq (tgt := 43) hx hb dX6_readAll_35 (by decide) (fun k35 => ?_) (fun k35 => ?_)
      · have h := itt k35 h
        refine lv_aload_n hx hb dX6_readAll_43 rfl (lv_at hl 0 rfl) ?_
        obtain ⟨r44, h44, h⟩ := bnd h
        refine g_callv0 (isC := [0]) (gn := fun _ => [wRM g ad eK eT r44]) (g_runV (isC := [0]) (rest := []) (As := []) X hw (c_X6_look l (ad := ad) (eK := eK) (eT := eT) h44) rfl kM_X6_look ki_X6_look ks_X6_look km_X6_196 ⟨(Nat.le_of_ble_eq_true rfl), (Nat.le_of_ble_eq_true rfl)⟩ ⟨(Nat.le_of_ble_eq_true rfl), (Nat.le_of_ble_eq_true rfl)⟩ rfl rfl ⟨_, _, _, _, rfl, rfl, rfl, rfl⟩ rfl hl.1 rfl (Nat.le_of_ble_eq_true rfl) dX6_readAll_44) hw rfl rfl (fun _ => (Nat.le_of_ble_eq_true rfl)) (fun _ => rfl) rfl rfl (fun _ H locs hw => ?_)
        refine lv_aload_n hx hb dX6_readAll_47 rfl (lv_at hl 0 rfl) ?_
        obtain ⟨r48, h48, h⟩ := bnd h
        refine g_calli0 (isC := [0]) (gn := fun _ => [wRM g ad eK eT r48.2]) (g_runV (isC := [0]) (rest := []) (As := []) X hw (c_X6_statement l (ad := ad) (eK := eK) (eT := eT) h48) rfl kM_X6_statement ki_X6_statement ks_X6_statement km_X6_238 ⟨(Nat.le_of_ble_eq_true rfl), (Nat.le_of_ble_eq_true rfl)⟩ ⟨(Nat.le_of_ble_eq_true rfl), (Nat.le_of_ble_eq_true rfl)⟩ rfl rfl ⟨_, _, _, _, rfl, rfl, rfl, rfl⟩ rfl hl.1 rfl (Nat.le_of_ble_eq_true rfl) dX6_readAll_48) hw rfl rfl (fun _ => (Nat.le_of_ble_eq_true rfl)) (fun _ => rfl) rfl rfl (fun _ H locs hw => ?_)
        refine lv_if_ne (tgt := 56) hx hb dX6_readAll_51 (by decide) (fun k51 => ?_) (fun k51 => ?_)
        · have h := itt k51 h
          refine lv_aload_n hx hb dX6_readAll_56 rfl (lv_at hl 0 rfl) ?_
          refine lv_dup hx hb dX6_readAll_57 rfl ?_
          refine RM_g_statements X hw 0 rfl kf_X6_235 dX6_readAll_58 ?_
          refine lv_iconst (v := 1) hx hb dX6_readAll_61 (by decide) ?_
          refine lv_iadd hx hb dX6_readAll_62 ?_
          refine RM_p_statements (gs' := [wRM g ad eK eT (RM_s_statements r48.2 ((RM_statements r48.2) + (1 : Int32)))]) X hw 0 rfl kf_X6_235 dX6_readAll_63 rfl (fun H locs hw => ?_)
          refine lv_goto (tgt := 23) hx hb dX6_readAll_66 (by decide) ?_
          exact ih23 _ h _ _ _ hw (lv_sub hl [0] rfl)
        · have h := itf (fun z => z k51) h
          refine lv_iconst (v := 0) hx hb dX6_readAll_54 (by decide) ?_
          have h := Option.some.inj h
          subst h
          exact hret () dX6_readAll_55 (by decide) rfl hw
      · have h := itf k35 h
        refine lv_aload_n hx hb dX6_readAll_38 rfl (lv_at hl 0 rfl) ?_
        obtain ⟨r39, h39, h⟩ := bnd h
        refine g_calli0 (isC := [0]) (gn := fun _ => [wRM g ad eK eT r39.2]) (g_runV (isC := [0]) (rest := []) (As := []) X hw (c_X6_wrong l (ad := ad) (eK := eK) (eT := eT) h39) rfl kM_X6_wrong ki_X6_wrong ks_X6_wrong km_X6_192 ⟨(Nat.le_of_ble_eq_true rfl), (Nat.le_of_ble_eq_true rfl)⟩ ⟨(Nat.le_of_ble_eq_true rfl), (Nat.le_of_ble_eq_true rfl)⟩ rfl rfl ⟨_, _, _, _, rfl, rfl, rfl, rfl⟩ rfl hl.1 rfl (Nat.le_of_ble_eq_true rfl) dX6_readAll_39) hw rfl rfl (fun _ => (Nat.le_of_ble_eq_true rfl)) (fun _ => rfl) rfl rfl (fun _ H locs hw => ?_)
        obtain ⟨q42, h⟩ := chk h
        have h := Option.some.inj h
        subst h
        exact hret () dX6_readAll_42 (Decidable.not_not.mp q42) rfl hw
  unfold M_X6_readAll at h
  refine lv_aload_n hx hb dX6_readAll_0 rfl (lv_at hl 0 rfl) ?_
  refine lv_iconst (v := 1) hx hb dX6_readAll_1 (by decide) ?_
  refine RM_p_statements (gs' := [wRM g ad eK eT (RM_s_statements rm (1 : Int32))]) X hw 0 rfl kf_X6_235 dX6_readAll_2 rfl (fun H locs hw => ?_)
  refine lv_aload_n hx hb dX6_readAll_5 rfl (lv_at hl 0 rfl) ?_
  refine lv_iconst (v := 0) hx hb dX6_readAll_6 (by decide) ?_
  refine RM_p_at (gs' := [wRM g ad eK eT (RM_s_at (RM_s_statements rm (1 : Int32)) (0 : Int32))]) X hw 0 rfl kf_X6_160 dX6_readAll_7 rfl (fun H locs hw => ?_)
  refine lv_aload_n hx hb dX6_readAll_10 rfl (lv_at hl 0 rfl) ?_
  obtain ⟨r11, h11, h⟩ := bnd h
  refine g_callv0 (isC := [0]) (gn := fun _ => [wRM g ad eK eT r11]) (g_runV (isC := [0]) (rest := []) (As := []) X hw (c_X6_look l (ad := ad) (eK := eK) (eT := eT) h11) rfl kM_X6_look ki_X6_look ks_X6_look km_X6_196 ⟨(Nat.le_of_ble_eq_true rfl), (Nat.le_of_ble_eq_true rfl)⟩ ⟨(Nat.le_of_ble_eq_true rfl), (Nat.le_of_ble_eq_true rfl)⟩ rfl rfl ⟨_, _, _, _, rfl, rfl, rfl, rfl⟩ rfl hl.1 rfl (Nat.le_of_ble_eq_true rfl) dX6_readAll_11) hw rfl rfl (fun _ => (Nat.le_of_ble_eq_true rfl)) (fun _ => rfl) rfl rfl (fun _ H locs hw => ?_)
  refine lv_aload_n hx hb dX6_readAll_14 rfl (lv_at hl 0 rfl) ?_
  obtain ⟨r15, h15, h⟩ := bnd h
  refine g_calli0 (isC := [0]) (gn := fun _ => [wRM g ad eK eT r15.2]) (g_runV (isC := [0]) (rest := []) (As := []) X hw (c_X6_statement l (ad := ad) (eK := eK) (eT := eT) h15) rfl kM_X6_statement ki_X6_statement ks_X6_statement km_X6_238 ⟨(Nat.le_of_ble_eq_true rfl), (Nat.le_of_ble_eq_true rfl)⟩ ⟨(Nat.le_of_ble_eq_true rfl), (Nat.le_of_ble_eq_true rfl)⟩ rfl rfl ⟨_, _, _, _, rfl, rfl, rfl, rfl⟩ rfl hl.1 rfl (Nat.le_of_ble_eq_true rfl) dX6_readAll_15) hw rfl rfl (fun _ => (Nat.le_of_ble_eq_true rfl)) (fun _ => rfl) rfl rfl (fun _ H locs hw => ?_)
  refine lv_if_ne (tgt := 23) hx hb dX6_readAll_18 (by decide) (fun k18 => ?_) (fun k18 => ?_)
  · have h := itt k18 h
    exact L23 N _ h _ _ _ hw (lv_sub hl [0] rfl)
  · have h := itf (fun z => z k18) h
    refine lv_iconst (v := 0) hx hb dX6_readAll_21 (by decide) ?_
    have h := Option.some.inj h
    subst h
    exact hret () dX6_readAll_22 (by decide) rfl hw
theorem kM_X4_readBar : kM yX4_readBar cX4_readBar 4 (some FieldType.boolean) 1 := ⟨kc_X4_readBar, kn_RingsOff_Tape, by decide +kernel⟩
abbrev R_X4_readBar : Room := { frames := 5, cells := 0, slots := 0, locals := 163 }
set_option maxHeartbeats 4000000 in
set_option maxRecDepth 100000 in
theorem c_X4_readBar (l : Launch) {ad : Nat → Nat} {ad1 : Nat → Nat} {N : Nat} {tp : TP} {ev : EV} {out : Int32 × TP × EV} (h : M_X4_readBar N tp ev = some out) : gM l yX4_readBar cX4_readBar 4 (some FieldType.boolean) R_X4_readBar (fun _ => [.ref (ad 0), .ref (ad1 0)]) (fun g => [wTP g ad tp, wEV g ad1 ev]) (gQi (fun (_ : Unit) => out.1) (fun g (_ : Unit) => [wTP g ad out.2.1, wEV g ad1 out.2.2])) := by
  refine gM.ofz (by decide +kernel) (fun _ => Nat.le_of_ble_eq_true rfl) (fun g p e s m args below meth c A ls Q X hret hw hl => ?_)
  have hx := X.1.1
  have hb := X.1.2.1
  have hl : lv_has ls 4 [(0, .ref (ad 0)), (1, .ref (ad1 0))] := hl
  unfold M_X4_readBar at h
  refine lv_aload_n hx hb dX4_readBar_0 rfl (lv_at hl 1 rfl) ?_
  obtain ⟨r1, h1, h⟩ := bnd h
  refine g_calli0 (isC := [1]) (gn := fun _ => [wTP g ad tp, wEV g ad1 ev]) (g_runVN (isC := [1]) (rest := []) (As := []) X hw (c_X0_hasMostBars l (ad := ad1) h1) rfl kM_X0_hasMostBars ki_X0_hasMostBars ks_X0_hasMostBars km_X4_68 ⟨(Nat.le_of_ble_eq_true rfl), (Nat.le_of_ble_eq_true rfl)⟩ ⟨(Nat.le_of_ble_eq_true rfl), (Nat.le_of_ble_eq_true rfl)⟩ rfl rfl ⟨_, _, _, _, rfl, rfl, rfl, rfl⟩ rfl hl.1 rfl (Nat.le_of_ble_eq_true rfl) dX4_readBar_1) hw rfl rfl (fun _ => (Nat.le_of_ble_eq_true rfl)) (fun _ => rfl) rfl rfl (fun _ H locs hw => ?_)
  refine lv_if_ne (tgt := 22) hx hb dX4_readBar_4 (by decide) (fun k4 => ?_) (fun k4 => ?_)
  · have h := itt k4 h
    refine lv_iconst (v := 0) hx hb dX4_readBar_22 (by decide) ?_
    have h := Option.some.inj h
    subst h
    exact hret () dX4_readBar_23 (by decide) rfl hw
  · have h := itf (fun z => z k4) h
    refine lv_aload_n hx hb dX4_readBar_7 rfl (lv_at hl 0 rfl) ?_
    obtain ⟨r8, h8, h⟩ := bnd h
    refine g_calli0 (isC := [0]) (gn := fun _ => [wTP g ad r8.2, wEV g ad1 ev]) (g_runV (isC := [0]) (rest := []) (As := []) X hw (c_X4_readNumber l (ad := ad) h8) rfl kM_X4_readNumber ki_X4_readNumber ks_X4_readNumber km_X4_74 ⟨(Nat.le_of_ble_eq_true rfl), (Nat.le_of_ble_eq_true rfl)⟩ ⟨(Nat.le_of_ble_eq_true rfl), (Nat.le_of_ble_eq_true rfl)⟩ rfl rfl ⟨_, _, _, _, rfl, rfl, rfl, rfl⟩ rfl hl.1 rfl (Nat.le_of_ble_eq_true rfl) dX4_readBar_8) hw rfl rfl (fun _ => (Nat.le_of_ble_eq_true rfl)) (fun _ => rfl) rfl rfl (fun _ H locs hw => ?_)
    refine lv_if_eq (tgt := 22) hx hb dX4_readBar_11 (by decide) (fun k11 => ?_) (fun k11 => ?_)
    · have h := itt k11 h
      refine lv_iconst (v := 0) hx hb dX4_readBar_22 (by decide) ?_
      have h := Option.some.inj h
      subst h
      exact hret () dX4_readBar_23 (by decide) rfl hw
    · have h := itf k11 h
      refine lv_aload_n hx hb dX4_readBar_14 rfl (lv_at hl 0 rfl) ?_
      refine TP_g_value X hw 0 rfl kf_X4_28 dX4_readBar_15 ?_
      refine lv_iconst (v := 5) hx hb dX4_readBar_18 (by decide) ?_
      refine lv_icmp_le (tgt := 24) hx hb dX4_readBar_19 (by decide) (fun k19 => ?_) (fun k19 => ?_)
      · have h := itt k19 h
        refine lv_aload_n hx hb dX4_readBar_24 rfl (lv_at hl 0 rfl) ?_
        refine TP_g_value X hw 0 rfl kf_X4_28 dX4_readBar_25 ?_
        refine lv_istore_n (lv' := [(2, .int (TP_value r8.2)), (0, .ref (ad 0)), (1, .ref (ad1 0))]) hx hb dX4_readBar_28 rfl hl (by decide) rfl (fun ls hl => ?_)
        refine lv_aload_n hx hb dX4_readBar_29 rfl (lv_at hl 1 rfl) ?_
        obtain ⟨r30, h30, h⟩ := bnd h
        refine g_calli0 (isC := [0]) (gn := fun _ => [wTP g ad r30.2, wEV g ad1 ev]) (g_runV (isC := [0]) (rest := []) (As := []) X hw (c_X4_readNumber l (ad := ad) h30) rfl kM_X4_readNumber ki_X4_readNumber ks_X4_readNumber km_X4_74 ⟨(Nat.le_of_ble_eq_true rfl), (Nat.le_of_ble_eq_true rfl)⟩ ⟨(Nat.le_of_ble_eq_true rfl), (Nat.le_of_ble_eq_true rfl)⟩ rfl rfl ⟨_, _, _, _, rfl, rfl, rfl, rfl⟩ rfl hl.1 rfl (Nat.le_of_ble_eq_true rfl) dX4_readBar_30) hw rfl rfl (fun _ => (Nat.le_of_ble_eq_true rfl)) (fun _ => rfl) rfl rfl (fun _ H locs hw => ?_)
        refine lv_if_eq (tgt := 53) hx hb dX4_readBar_33 (by decide) (fun k33 => ?_) (fun k33 => ?_)
        · have h := itt k33 h
          refine lv_iconst (v := 0) hx hb dX4_readBar_53 (by decide) ?_
          have h := Option.some.inj h
          subst h
          exact hret () dX4_readBar_54 (by decide) rfl hw
        · have h := itf k33 h
          refine lv_aload_n hx hb dX4_readBar_36 rfl (lv_at hl 1 rfl) ?_
          refine TP_g_value X hw 0 rfl kf_X4_28 dX4_readBar_37 ?_
          refine lv_iconst (v := 1) hx hb dX4_readBar_40 (by decide) ?_
          refine lv_icmp_lt (tgt := 53) hx hb dX4_readBar_41 (by decide) (fun k41 => ?_) (fun k41 => ?_)
          · have h := itt k41 h
            refine lv_iconst (v := 0) hx hb dX4_readBar_53 (by decide) ?_
            have h := Option.some.inj h
            subst h
            exact hret () dX4_readBar_54 (by decide) rfl hw
          · have h := itf k41 h
            refine lv_aload_n hx hb dX4_readBar_44 rfl (lv_at hl 1 rfl) ?_
            refine TP_g_value X hw 0 rfl kf_X4_28 dX4_readBar_45 ?_
            refine lv_bipush (v := 10) hx hb dX4_readBar_48 (by decide) ?_
            refine lv_icmp_le (tgt := 55) hx hb dX4_readBar_50 (by decide) (fun k50 => ?_) (fun k50 => ?_)
            · have h := itt k50 h
              refine lv_aload_n hx hb dX4_readBar_55 rfl (lv_at hl 2 rfl) ?_
              refine lv_iload_n hx hb dX4_readBar_56 rfl (lv_at hl 0 rfl) ?_
              refine lv_aload_n hx hb dX4_readBar_57 rfl (lv_at hl 1 rfl) ?_
              refine TP_g_value X hw 0 rfl kf_X4_28 dX4_readBar_58 ?_
              obtain ⟨r61, h61, h⟩ := bnd h
              refine g_calli0 (isC := [1]) (gn := fun _ => [wTP g ad r30.2, wEV g ad1 r61.2]) (g_runVN (isC := [1]) (rest := []) (As := [.int (TP_value r8.2), .int (TP_value r30.2)]) X hw (c_X0_addBar l (ad := ad1) h61) rfl kM_X0_addBar ki_X0_addBar ks_X0_addBar km_X4_77 ⟨(Nat.le_of_ble_eq_true rfl), (Nat.le_of_ble_eq_true rfl)⟩ ⟨(Nat.le_of_ble_eq_true rfl), (Nat.le_of_ble_eq_true rfl)⟩ rfl rfl ⟨_, _, _, _, rfl, rfl, rfl, rfl⟩ rfl hl.1 rfl (Nat.le_of_ble_eq_true rfl) dX4_readBar_61) hw rfl rfl (fun _ => (Nat.le_of_ble_eq_true rfl)) (fun _ => rfl) rfl rfl (fun _ H locs hw => ?_)
              refine lv_istore_n (lv' := [(3, .int r61.1), (2, .int (TP_value r8.2)), (0, .ref (ad 0)), (1, .ref (ad1 0))]) hx hb dX4_readBar_64 rfl hl (by decide) rfl (fun ls hl => ?_)
              refine lv_aload_n hx hb dX4_readBar_65 rfl (lv_at hl 2 rfl) ?_
              obtain ⟨r66, h66, h⟩ := bnd h
              refine g_callv0 (isC := [0]) (gn := fun _ => [wTP g ad r66, wEV g ad1 r61.2]) (g_runV (isC := [0]) (rest := []) (As := []) X hw (c_X4_readToken l (ad := ad) h66) rfl kM_X4_readToken ki_X4_readToken ks_X4_readToken km_X4_35 ⟨(Nat.le_of_ble_eq_true rfl), (Nat.le_of_ble_eq_true rfl)⟩ ⟨(Nat.le_of_ble_eq_true rfl), (Nat.le_of_ble_eq_true rfl)⟩ rfl rfl ⟨_, _, _, _, rfl, rfl, rfl, rfl⟩ rfl hl.1 rfl (Nat.le_of_ble_eq_true rfl) dX4_readBar_66) hw rfl rfl (fun _ => (Nat.le_of_ble_eq_true rfl)) (fun _ => rfl) rfl rfl (fun _ H locs hw => ?_)
              refine lv_aload_n hx hb dX4_readBar_69 rfl (lv_at hl 2 rfl) ?_
              refine va_ldcS hx hb X.1.2.2.2.1 X.2.2.2.2.2.2.2.1.2.1 dX4_readBar_70 ?_
              obtain ⟨r72, h72, h⟩ := bnd h
              refine g_calli0 (isC := [0]) (gn := fun _ => [wTP g ad r66, wEV g ad1 r61.2]) (g_runV (isC := [0]) (rest := []) (As := [.ref (gK g 1)]) X hw (c_X4_isWord l (ad := ad) h72 (by decide)) rfl kM_X4_isWord ki_X4_isWord ks_X4_isWord km_X4_40 ⟨(Nat.le_of_ble_eq_true rfl), (Nat.le_of_ble_eq_true rfl)⟩ ⟨(Nat.le_of_ble_eq_true rfl), (Nat.le_of_ble_eq_true rfl)⟩ rfl rfl ⟨_, _, _, _, rfl, rfl, rfl, rfl⟩ rfl hl.1 rfl (Nat.le_of_ble_eq_true rfl) dX4_readBar_72) hw rfl rfl (fun _ => (Nat.le_of_ble_eq_true rfl)) (fun _ => rfl) rfl rfl (fun _ H locs hw => ?_)
              refine lv_if_ne (tgt := 80) hx hb dX4_readBar_75 (by decide) (fun k75 => ?_) (fun k75 => ?_)
              · have h := itt k75 h
                refine lv_aload_n hx hb dX4_readBar_80 rfl (lv_at hl 2 rfl) ?_
                obtain ⟨r81, h81, h⟩ := bnd h
                refine g_calli0 (isC := [0]) (gn := fun _ => [wTP g ad r81.2, wEV g ad1 r61.2]) (g_runV (isC := [0]) (rest := []) (As := []) X hw (c_X4_readNumber l (ad := ad) h81) rfl kM_X4_readNumber ki_X4_readNumber ks_X4_readNumber km_X4_74 ⟨(Nat.le_of_ble_eq_true rfl), (Nat.le_of_ble_eq_true rfl)⟩ ⟨(Nat.le_of_ble_eq_true rfl), (Nat.le_of_ble_eq_true rfl)⟩ rfl rfl ⟨_, _, _, _, rfl, rfl, rfl, rfl⟩ rfl hl.1 rfl (Nat.le_of_ble_eq_true rfl) dX4_readBar_81) hw rfl rfl (fun _ => (Nat.le_of_ble_eq_true rfl)) (fun _ => rfl) rfl rfl (fun _ H locs hw => ?_)
                refine lv_if_eq (tgt := 100) hx hb dX4_readBar_84 (by decide) (fun k84 => ?_) (fun k84 => ?_)
                · have h := itt k84 h
                  refine lv_iconst (v := 0) hx hb dX4_readBar_100 (by decide) ?_
                  have h := Option.some.inj h
                  subst h
                  exact hret () dX4_readBar_101 (by decide) rfl hw
                · have h := itf k84 h
                  refine lv_aload_n hx hb dX4_readBar_87 rfl (lv_at hl 3 rfl) ?_
                  refine lv_iload_n hx hb dX4_readBar_88 rfl (lv_at hl 0 rfl) ?_
                  refine lv_aload_n hx hb dX4_readBar_89 rfl (lv_at hl 2 rfl) ?_
                  refine TP_g_value X hw 0 rfl kf_X4_28 dX4_readBar_90 ?_
                  refine lv_i2l (v := (TP_value r81.2).toInt64) hx hb dX4_readBar_93 rfl ?_
                  obtain ⟨r94, h94, h⟩ := bnd h
                  refine g_calli0 (isC := [1]) (gn := fun _ => [wTP g ad r81.2, wEV g ad1 r61.2]) (g_runVN (isC := [1]) (rest := []) (As := [.int r61.1, .long (TP_value r81.2).toInt64]) X hw (c_X0_hasSet l (ad := ad1) h94) rfl kM_X0_hasSet ki_X0_hasSet ks_X0_hasSet km_X4_83 ⟨(Nat.le_of_ble_eq_true rfl), (Nat.le_of_ble_eq_true rfl)⟩ ⟨(Nat.le_of_ble_eq_true rfl), (Nat.le_of_ble_eq_true rfl)⟩ rfl rfl ⟨_, _, _, _, rfl, rfl, rfl, rfl⟩ rfl hl.1 rfl (Nat.le_of_ble_eq_true rfl) dX4_readBar_94) hw rfl rfl (fun _ => (Nat.le_of_ble_eq_true rfl)) (fun _ => rfl) rfl rfl (fun _ H locs hw => ?_)
                  refine lv_if_ne (tgt := 102) hx hb dX4_readBar_97 (by decide) (fun k97 => ?_) (fun k97 => ?_)
                  · have h := itt k97 h
                    refine lv_aload_n hx hb dX4_readBar_102 rfl (lv_at hl 3 rfl) ?_
                    refine lv_iload_n hx hb dX4_readBar_103 rfl (lv_at hl 0 rfl) ?_
                    refine lv_aload_n hx hb dX4_readBar_104 rfl (lv_at hl 2 rfl) ?_
                    refine TP_g_value X hw 0 rfl kf_X4_28 dX4_readBar_105 ?_
                    obtain ⟨r108, h108, h⟩ := bnd h
                    refine g_callv0 (isC := [1]) (gn := fun _ => [wTP g ad r81.2, wEV g ad1 r108]) (g_runVN (isC := [1]) (rest := []) (As := [.int r61.1, .int (TP_value r81.2)]) X hw (c_X0_turnOn l (ad := ad1) h108) rfl kM_X0_turnOn ki_X0_turnOn ks_X0_turnOn km_X4_87 ⟨(Nat.le_of_ble_eq_true rfl), (Nat.le_of_ble_eq_true rfl)⟩ ⟨(Nat.le_of_ble_eq_true rfl), (Nat.le_of_ble_eq_true rfl)⟩ rfl rfl ⟨_, _, _, _, rfl, rfl, rfl, rfl⟩ rfl hl.1 rfl (Nat.le_of_ble_eq_true rfl) dX4_readBar_108) hw rfl rfl (fun _ => (Nat.le_of_ble_eq_true rfl)) (fun _ => rfl) rfl rfl (fun _ H locs hw => ?_)
                    refine lv_aload_n hx hb dX4_readBar_111 rfl (lv_at hl 2 rfl) ?_
                    obtain ⟨r112, h112, h⟩ := bnd h
                    refine g_callv0 (isC := [0]) (gn := fun _ => [wTP g ad r112, wEV g ad1 r108]) (g_runV (isC := [0]) (rest := []) (As := []) X hw (c_X4_readToken l (ad := ad) h112) rfl kM_X4_readToken ki_X4_readToken ks_X4_readToken km_X4_35 ⟨(Nat.le_of_ble_eq_true rfl), (Nat.le_of_ble_eq_true rfl)⟩ ⟨(Nat.le_of_ble_eq_true rfl), (Nat.le_of_ble_eq_true rfl)⟩ rfl rfl ⟨_, _, _, _, rfl, rfl, rfl, rfl⟩ rfl hl.1 rfl (Nat.le_of_ble_eq_true rfl) dX4_readBar_112) hw rfl rfl (fun _ => (Nat.le_of_ble_eq_true rfl)) (fun _ => rfl) rfl rfl (fun _ H locs hw => ?_)
                    refine lv_iconst (v := 1) hx hb dX4_readBar_115 (by decide) ?_
                    have h := Option.some.inj h
                    subst h
                    exact hret () dX4_readBar_116 (by decide) rfl hw
                  · have h := itf (fun z => z k97) h
                    refine lv_iconst (v := 0) hx hb dX4_readBar_100 (by decide) ?_
                    have h := Option.some.inj h
                    subst h
                    exact hret () dX4_readBar_101 (by decide) rfl hw
              · have h := itf (fun z => z k75) h
                refine lv_iconst (v := 1) hx hb dX4_readBar_78 (by decide) ?_
                have h := Option.some.inj h
                subst h
                exact hret () dX4_readBar_79 (by decide) rfl hw
            · have h := itf k50 h
              refine lv_iconst (v := 0) hx hb dX4_readBar_53 (by decide) ?_
              have h := Option.some.inj h
              subst h
              exact hret () dX4_readBar_54 (by decide) rfl hw
      · have h := itf k19 h
        refine lv_iconst (v := 0) hx hb dX4_readBar_22 (by decide) ?_
        have h := Option.some.inj h
        subst h
        exact hret () dX4_readBar_23 (by decide) rfl hw
theorem kM_X4_readStatement : kM yX4_readStatement cX4_readStatement 3 (some FieldType.boolean) 2 := ⟨kc_X4_readStatement, kn_RingsOff_Tape, by decide +kernel⟩
abbrev R_X4_readStatement : Room := { frames := 6, cells := 0, slots := 0, locals := 186 }
set_option maxHeartbeats 4000000 in
set_option maxRecDepth 100000 in
theorem c_X4_readStatement (l : Launch) {ad : Nat → Nat} {ad1 : Nat → Nat} {ad2 : Nat → Nat} {N : Nat} {tp : TP} {ev : EV} {lw : LW} {out : Int32 × TP × EV × LW} (h : M_X4_readStatement N tp ev lw = some out) : gM l yX4_readStatement cX4_readStatement 3 (some FieldType.boolean) R_X4_readStatement (fun _ => [.ref (ad 0), .ref (ad1 0), .ref (ad2 0)]) (fun g => [wTP g ad tp, wEV g ad1 ev, wLW g ad2 lw]) (gQi (fun (_ : Unit) => out.1) (fun g (_ : Unit) => [wTP g ad out.2.1, wEV g ad1 out.2.2.1, wLW g ad2 out.2.2.2])) := by
  refine gM.ofz (by decide +kernel) (fun _ => Nat.le_of_ble_eq_true rfl) (fun g p e s m args below meth c A ls Q X hret hw hl => ?_)
  have hx := X.1.1
  have hb := X.1.2.1
  have hl : lv_has ls 3 [(0, .ref (ad 0)), (1, .ref (ad1 0)), (2, .ref (ad2 0))] := hl
  unfold M_X4_readStatement at h
  refine lv_aload_n hx hb dX4_readStatement_0 rfl (lv_at hl 0 rfl) ?_
  obtain ⟨r1, h1, h⟩ := bnd h
  refine g_callv0 (isC := [0]) (gn := fun _ => [wTP g ad r1, wEV g ad1 ev, wLW g ad2 lw]) (g_runV (isC := [0]) (rest := []) (As := []) X hw (c_X4_readToken l (ad := ad) h1) rfl kM_X4_readToken ki_X4_readToken ks_X4_readToken km_X4_35 ⟨(Nat.le_of_ble_eq_true rfl), (Nat.le_of_ble_eq_true rfl)⟩ ⟨(Nat.le_of_ble_eq_true rfl), (Nat.le_of_ble_eq_true rfl)⟩ rfl rfl ⟨_, _, _, _, rfl, rfl, rfl, rfl⟩ rfl hl.1 rfl (Nat.le_of_ble_eq_true rfl) dX4_readStatement_1) hw rfl rfl (fun _ => (Nat.le_of_ble_eq_true rfl)) (fun _ => rfl) rfl rfl (fun _ H locs hw => ?_)
  refine lv_aload_n hx hb dX4_readStatement_4 rfl (lv_at hl 0 rfl) ?_
  refine va_ldcS hx hb X.1.2.2.2.1 X.2.2.2.2.2.2.2.1.1 dX4_readStatement_5 ?_
  obtain ⟨r7, h7, h⟩ := bnd h
  refine g_calli0 (isC := [0]) (gn := fun _ => [wTP g ad r1, wEV g ad1 ev, wLW g ad2 lw]) (g_runV (isC := [0]) (rest := []) (As := [.ref (gK g 0)]) X hw (c_X4_isWord l (ad := ad) h7 (by decide)) rfl kM_X4_isWord ki_X4_isWord ks_X4_isWord km_X4_40 ⟨(Nat.le_of_ble_eq_true rfl), (Nat.le_of_ble_eq_true rfl)⟩ ⟨(Nat.le_of_ble_eq_true rfl), (Nat.le_of_ble_eq_true rfl)⟩ rfl rfl ⟨_, _, _, _, rfl, rfl, rfl, rfl⟩ rfl hl.1 rfl (Nat.le_of_ble_eq_true rfl) dX4_readStatement_7) hw rfl rfl (fun _ => (Nat.le_of_ble_eq_true rfl)) (fun _ => rfl) rfl rfl (fun _ H locs hw => ?_)
  refine lv_if_eq (tgt := 19) hx hb dX4_readStatement_10 (by decide) (fun k10 => ?_) (fun k10 => ?_)
  · have h := itt k10 h
    refine lv_aload_n hx hb dX4_readStatement_19 rfl (lv_at hl 0 rfl) ?_
    refine va_ldcS hx hb X.1.2.2.2.1 X.2.2.2.2.2.2.2.1.2.2.1 dX4_readStatement_20 ?_
    obtain ⟨r22, h22, h⟩ := bnd h
    refine g_calli0 (isC := [0]) (gn := fun _ => [wTP g ad r1, wEV g ad1 ev, wLW g ad2 lw]) (g_runV (isC := [0]) (rest := []) (As := [.ref (gK g 2)]) X hw (c_X4_isWord l (ad := ad) h22 (by decide)) rfl kM_X4_isWord ki_X4_isWord ks_X4_isWord km_X4_40 ⟨(Nat.le_of_ble_eq_true rfl), (Nat.le_of_ble_eq_true rfl)⟩ ⟨(Nat.le_of_ble_eq_true rfl), (Nat.le_of_ble_eq_true rfl)⟩ rfl rfl ⟨_, _, _, _, rfl, rfl, rfl, rfl⟩ rfl hl.1 rfl (Nat.le_of_ble_eq_true rfl) dX4_readStatement_22) hw rfl rfl (fun _ => (Nat.le_of_ble_eq_true rfl)) (fun _ => rfl) rfl rfl (fun _ H locs hw => ?_)
    refine lv_if_eq (tgt := 34) hx hb dX4_readStatement_25 (by decide) (fun k25 => ?_) (fun k25 => ?_)
    · have h := itt k25 h
      refine lv_aload_n hx hb dX4_readStatement_34 rfl (lv_at hl 0 rfl) ?_
      refine va_ldcS hx hb X.1.2.2.2.1 X.2.2.2.2.2.2.2.1.2.2.2.1 dX4_readStatement_35 ?_
      obtain ⟨r37, h37, h⟩ := bnd h
      refine g_calli0 (isC := [0]) (gn := fun _ => [wTP g ad r1, wEV g ad1 ev, wLW g ad2 lw]) (g_runV (isC := [0]) (rest := []) (As := [.ref (gK g 3)]) X hw (c_X4_isWord l (ad := ad) h37 (by decide)) rfl kM_X4_isWord ki_X4_isWord ks_X4_isWord km_X4_40 ⟨(Nat.le_of_ble_eq_true rfl), (Nat.le_of_ble_eq_true rfl)⟩ ⟨(Nat.le_of_ble_eq_true rfl), (Nat.le_of_ble_eq_true rfl)⟩ rfl rfl ⟨_, _, _, _, rfl, rfl, rfl, rfl⟩ rfl hl.1 rfl (Nat.le_of_ble_eq_true rfl) dX4_readStatement_37) hw rfl rfl (fun _ => (Nat.le_of_ble_eq_true rfl)) (fun _ => rfl) rfl rfl (fun _ H locs hw => ?_)
      refine lv_if_eq (tgt := 49) hx hb dX4_readStatement_40 (by decide) (fun k40 => ?_) (fun k40 => ?_)
      · have h := itt k40 h
        refine lv_aload_n hx hb dX4_readStatement_49 rfl (lv_at hl 0 rfl) ?_
        refine va_ldcS hx hb X.1.2.2.2.1 X.2.2.2.2.2.2.2.1.2.2.2.2.1 dX4_readStatement_50 ?_
        obtain ⟨r52, h52, h⟩ := bnd h
        refine g_calli0 (isC := [0]) (gn := fun _ => [wTP g ad r1, wEV g ad1 ev, wLW g ad2 lw]) (g_runV (isC := [0]) (rest := []) (As := [.ref (gK g 4)]) X hw (c_X4_isWord l (ad := ad) h52 (by decide)) rfl kM_X4_isWord ki_X4_isWord ks_X4_isWord km_X4_40 ⟨(Nat.le_of_ble_eq_true rfl), (Nat.le_of_ble_eq_true rfl)⟩ ⟨(Nat.le_of_ble_eq_true rfl), (Nat.le_of_ble_eq_true rfl)⟩ rfl rfl ⟨_, _, _, _, rfl, rfl, rfl, rfl⟩ rfl hl.1 rfl (Nat.le_of_ble_eq_true rfl) dX4_readStatement_52) hw rfl rfl (fun _ => (Nat.le_of_ble_eq_true rfl)) (fun _ => rfl) rfl rfl (fun _ H locs hw => ?_)
        refine lv_if_eq (tgt := 64) hx hb dX4_readStatement_55 (by decide) (fun k55 => ?_) (fun k55 => ?_)
        · have h := itt k55 h
          refine lv_aload_n hx hb dX4_readStatement_64 rfl (lv_at hl 0 rfl) ?_
          refine va_ldcS hx hb X.1.2.2.2.1 X.2.2.2.2.2.2.2.1.2.2.2.2.2 dX4_readStatement_65 ?_
          obtain ⟨r67, h67, h⟩ := bnd h
          refine g_calli0 (isC := [0]) (gn := fun _ => [wTP g ad r1, wEV g ad1 ev, wLW g ad2 lw]) (g_runV (isC := [0]) (rest := []) (As := [.ref (gK g 5)]) X hw (c_X4_isWord l (ad := ad) h67 (by decide)) rfl kM_X4_isWord ki_X4_isWord ks_X4_isWord km_X4_40 ⟨(Nat.le_of_ble_eq_true rfl), (Nat.le_of_ble_eq_true rfl)⟩ ⟨(Nat.le_of_ble_eq_true rfl), (Nat.le_of_ble_eq_true rfl)⟩ rfl rfl ⟨_, _, _, _, rfl, rfl, rfl, rfl⟩ rfl hl.1 rfl (Nat.le_of_ble_eq_true rfl) dX4_readStatement_67) hw rfl rfl (fun _ => (Nat.le_of_ble_eq_true rfl)) (fun _ => rfl) rfl rfl (fun _ H locs hw => ?_)
          refine lv_if_eq (tgt := 86) hx hb dX4_readStatement_70 (by decide) (fun k70 => ?_) (fun k70 => ?_)
          · have h := itt k70 h
            refine lv_iconst (v := 0) hx hb dX4_readStatement_86 (by decide) ?_
            have h := Option.some.inj h
            subst h
            exact hret () dX4_readStatement_87 (by decide) rfl hw
          · have h := itf k70 h
            refine lv_aload_n hx hb dX4_readStatement_73 rfl (lv_at hl 0 rfl) ?_
            refine lv_aload_n hx hb dX4_readStatement_74 rfl (lv_at hl 1 rfl) ?_
            refine lv_aload_n hx hb dX4_readStatement_75 rfl (lv_at hl 2 rfl) ?_
            obtain ⟨r76, h76, h⟩ := bnd h
            refine g_calli0 (isC := [0, 1, 2]) (gn := fun _ => [wTP g ad r76.2.1, wEV g ad1 r76.2.2.1, wLW g ad2 r76.2.2.2]) (g_runV (isC := [0, 1, 2]) (rest := []) (As := [.ref (ad1 0), .ref (ad2 0)]) X hw (c_X4_readMove l (ad := ad) (ad1 := ad1) (ad2 := ad2) h76) rfl kM_X4_readMove ki_X4_readMove ks_X4_readMove km_X4_65 ⟨(Nat.le_of_ble_eq_true rfl), (Nat.le_of_ble_eq_true rfl)⟩ ⟨(Nat.le_of_ble_eq_true rfl), (Nat.le_of_ble_eq_true rfl)⟩ rfl rfl ⟨_, _, _, _, rfl, rfl, rfl, rfl⟩ rfl hl.1 rfl (Nat.le_of_ble_eq_true rfl) dX4_readStatement_76) hw rfl rfl (fun _ => (Nat.le_of_ble_eq_true rfl)) (fun _ => rfl) rfl rfl (fun _ H locs hw => ?_)
            refine lv_if_eq (tgt := 86) hx hb dX4_readStatement_79 (by decide) (fun k79 => ?_) (fun k79 => ?_)
            · have h := itt k79 h
              refine lv_iconst (v := 0) hx hb dX4_readStatement_86 (by decide) ?_
              have h := Option.some.inj h
              subst h
              exact hret () dX4_readStatement_87 (by decide) rfl hw
            · have h := itf k79 h
              refine lv_iconst (v := 1) hx hb dX4_readStatement_82 (by decide) ?_
              refine lv_goto (tgt := 87) hx hb dX4_readStatement_83 (by decide) ?_
              have h := Option.some.inj h
              subst h
              exact hret () dX4_readStatement_87 (by decide) rfl hw
        · have h := itf k55 h
          refine lv_aload_n hx hb dX4_readStatement_58 rfl (lv_at hl 0 rfl) ?_
          refine lv_aload_n hx hb dX4_readStatement_59 rfl (lv_at hl 1 rfl) ?_
          obtain ⟨r60, h60, h⟩ := bnd h
          refine g_calli0 (isC := [0, 1]) (gn := fun _ => [wTP g ad r60.2.1, wEV g ad1 r60.2.2, wLW g ad2 lw]) (g_runV (isC := [0, 1]) (rest := []) (As := [.ref (ad1 0)]) X hw (c_X4_readMinutes l (ad := ad) (ad1 := ad1) h60) rfl kM_X4_readMinutes ki_X4_readMinutes ks_X4_readMinutes km_X4_60 ⟨(Nat.le_of_ble_eq_true rfl), (Nat.le_of_ble_eq_true rfl)⟩ ⟨(Nat.le_of_ble_eq_true rfl), (Nat.le_of_ble_eq_true rfl)⟩ rfl rfl ⟨_, _, _, _, rfl, rfl, rfl, rfl⟩ rfl hl.1 rfl (Nat.le_of_ble_eq_true rfl) dX4_readStatement_60) hw rfl rfl (fun _ => (Nat.le_of_ble_eq_true rfl)) (fun _ => rfl) rfl rfl (fun _ H locs hw => ?_)
          obtain ⟨q63, h⟩ := chk h
          have h := Option.some.inj h
          subst h
          exact hret () dX4_readStatement_63 (Decidable.not_not.mp q63) rfl hw
      · have h := itf k40 h
        refine lv_aload_n hx hb dX4_readStatement_43 rfl (lv_at hl 0 rfl) ?_
        refine lv_aload_n hx hb dX4_readStatement_44 rfl (lv_at hl 1 rfl) ?_
        obtain ⟨r45, h45, h⟩ := bnd h
        refine g_calli0 (isC := [0, 1]) (gn := fun _ => [wTP g ad r45.2.1, wEV g ad1 r45.2.2, wLW g ad2 lw]) (g_runV (isC := [0, 1]) (rest := []) (As := [.ref (ad1 0)]) X hw (c_X4_readTable l (ad := ad) (ad1 := ad1) h45) rfl kM_X4_readTable ki_X4_readTable ks_X4_readTable km_X4_55 ⟨(Nat.le_of_ble_eq_true rfl), (Nat.le_of_ble_eq_true rfl)⟩ ⟨(Nat.le_of_ble_eq_true rfl), (Nat.le_of_ble_eq_true rfl)⟩ rfl rfl ⟨_, _, _, _, rfl, rfl, rfl, rfl⟩ rfl hl.1 rfl (Nat.le_of_ble_eq_true rfl) dX4_readStatement_45) hw rfl rfl (fun _ => (Nat.le_of_ble_eq_true rfl)) (fun _ => rfl) rfl rfl (fun _ H locs hw => ?_)
        obtain ⟨q48, h⟩ := chk h
        have h := Option.some.inj h
        subst h
        exact hret () dX4_readStatement_48 (Decidable.not_not.mp q48) rfl hw
    · have h := itf k25 h
      refine lv_aload_n hx hb dX4_readStatement_28 rfl (lv_at hl 0 rfl) ?_
      refine lv_aload_n hx hb dX4_readStatement_29 rfl (lv_at hl 1 rfl) ?_
      obtain ⟨r30, h30, h⟩ := bnd h
      refine g_calli0 (isC := [0, 1]) (gn := fun _ => [wTP g ad r30.2.1, wEV g ad1 r30.2.2, wLW g ad2 lw]) (g_runV (isC := [0, 1]) (rest := []) (As := [.ref (ad1 0)]) X hw (c_X4_readStuck l (ad := ad) (ad1 := ad1) h30) rfl kM_X4_readStuck ki_X4_readStuck ks_X4_readStuck km_X4_50 ⟨(Nat.le_of_ble_eq_true rfl), (Nat.le_of_ble_eq_true rfl)⟩ ⟨(Nat.le_of_ble_eq_true rfl), (Nat.le_of_ble_eq_true rfl)⟩ rfl rfl ⟨_, _, _, _, rfl, rfl, rfl, rfl⟩ rfl hl.1 rfl (Nat.le_of_ble_eq_true rfl) dX4_readStatement_30) hw rfl rfl (fun _ => (Nat.le_of_ble_eq_true rfl)) (fun _ => rfl) rfl rfl (fun _ H locs hw => ?_)
      obtain ⟨q33, h⟩ := chk h
      have h := Option.some.inj h
      subst h
      exact hret () dX4_readStatement_33 (Decidable.not_not.mp q33) rfl hw
  · have h := itf k10 h
    refine lv_aload_n hx hb dX4_readStatement_13 rfl (lv_at hl 0 rfl) ?_
    refine lv_aload_n hx hb dX4_readStatement_14 rfl (lv_at hl 1 rfl) ?_
    obtain ⟨r15, h15, h⟩ := bnd h
    refine g_calli0 (isC := [0, 1]) (gn := fun _ => [wTP g ad r15.2.1, wEV g ad1 r15.2.2, wLW g ad2 lw]) (g_runV (isC := [0, 1]) (rest := []) (As := [.ref (ad1 0)]) X hw (c_X4_readBar l (ad := ad) (ad1 := ad1) h15) rfl kM_X4_readBar ki_X4_readBar ks_X4_readBar km_X4_44 ⟨(Nat.le_of_ble_eq_true rfl), (Nat.le_of_ble_eq_true rfl)⟩ ⟨(Nat.le_of_ble_eq_true rfl), (Nat.le_of_ble_eq_true rfl)⟩ rfl rfl ⟨_, _, _, _, rfl, rfl, rfl, rfl⟩ rfl hl.1 rfl (Nat.le_of_ble_eq_true rfl) dX4_readStatement_15) hw rfl rfl (fun _ => (Nat.le_of_ble_eq_true rfl)) (fun _ => rfl) rfl rfl (fun _ H locs hw => ?_)
    obtain ⟨q18, h⟩ := chk h
    have h := Option.some.inj h
    subst h
    exact hret () dX4_readStatement_18 (Decidable.not_not.mp q18) rfl hw
theorem kM_X5_game : kM yX5_game cX5_game 5 (some FieldType.int) 2 := ⟨kc_X5_game, kn_RingsOff, by decide +kernel⟩
abbrev R_X5_game : Room := { frames := 15, cells := 0, slots := 0, locals := 381 }
set_option maxHeartbeats 4000000 in
set_option maxRecDepth 100000 in
theorem c_X5_game (l : Launch) {ad : Nat → Nat} {adN : Nat → Nat} {adL : Nat → Nat} {adE : Nat → Nat} {aK : Nat} {aD : Nat} {aS : Nat} {aT : Nat} {N : Nat} {ro : RO} {nw : EV} {lw : LW} {se : SE} {p1 : Int32} {p2 : Int32} {out : Int32 × RO × LW × SE} (h : M_X5_game N ro nw lw se p1 p2 = some out) : gM l yX5_game cX5_game 5 (some FieldType.int) R_X5_game (fun _ => [.ref (ad 0), .int p1, .int p2]) (fun g => [wRO g ad (adN 0) aK aD aS aT (adL 0) (adE 0) ro, wEV g adN nw, wLW g adL lw, wSE g adE se]) (gQi (fun (_ : Unit) => out.1) (fun g (_ : Unit) => [wRO g ad (adN 0) aK aD aS aT (adL 0) (adE 0) out.2.1, wEV g adN nw, wLW g adL out.2.2.1, wSE g adE out.2.2.2])) := by
  refine gM.ofi (by decide +kernel) (fun _ => Nat.le_of_ble_eq_true rfl) (fun g p e s m args below meth c A ls Q X hret hw hl => ?_)
  have hx := X.1.1
  have hb := X.1.2.1
  have hl : lv_has ls 5 [(0, .ref (ad 0)), (1, .int p1), (2, .int p2)] := hl
  have J20 : ∀ (z20 : RO × LW × SE), M_X5_game_j20 N nw p1 p2 z20 = some out → ∀ (H : Heap) (locs : List Loc) (ls : Array Slot), gW g A s.heap [wRO g ad (adN 0) aK aD aS aT (adL 0) (adE 0) z20.1, wEV g adN nw, wLW g adL z20.2.1, wSE g adE z20.2.2] H locs → lv_has ls 5 [(0, .ref (ad 0))] → W p l e R_X5_game s m args below meth c H locs 0 0 Q (F0 m 20 ls []) := by
    intro z20 h H locs ls hw hl
    unfold M_X5_game_j20 at h
    refine lv_aload_n hx hb dX5_game_20 rfl (lv_at hl 0 rfl) ?_
    refine lv_bipush (v := -2) hx hb dX5_game_21 (by decide) ?_
    obtain ⟨r23, h23, h⟩ := bnd h
    refine g_calli0 (isC := [0]) (gn := fun _ => [wRO g ad (adN 0) aK aD aS aT (adL 0) (adE 0) r23.2, wEV g adN nw, wLW g adL z20.2.1, wSE g adE z20.2.2]) (g_runV (isC := [0]) (rest := []) (As := [.int (-2 : Int32)]) X hw (c_X5_refuse l (ad := ad) (aN := (adN 0)) (aK := aK) (aD := aD) (aS := aS) (aT := aT) (aL := (adL 0)) (aE := (adE 0)) h23) rfl kM_X5_refuse ki_X5_refuse ks_X5_refuse km_X5_62 ⟨(Nat.le_of_ble_eq_true rfl), (Nat.le_of_ble_eq_true rfl)⟩ ⟨(Nat.le_of_ble_eq_true rfl), (Nat.le_of_ble_eq_true rfl)⟩ rfl rfl ⟨_, _, _, _, rfl, rfl, rfl, rfl⟩ rfl hl.1 rfl (Nat.le_of_ble_eq_true rfl) dX5_game_23) hw rfl rfl (fun _ => (Nat.le_of_ble_eq_true rfl)) (fun _ => rfl) rfl rfl (fun _ H locs hw => ?_)
    have h := Option.some.inj h
    subst h
    exact hret () dX5_game_26 rfl hw
  unfold M_X5_game at h
  refine lv_aload_n hx hb dX5_game_0 rfl (lv_at hl 0 rfl) ?_
  refine RO_g_now X hw 0 rfl kf_X5_12 dX5_game_1 ?_
  refine lv_iload_n hx hb dX5_game_4 rfl (lv_at hl 1 rfl) ?_
  obtain ⟨r5, h5, h⟩ := bnd h
  refine g_calli0 (isC := [1]) (gn := fun _ => [wRO g ad (adN 0) aK aD aS aT (adL 0) (adE 0) ro, wEV g adN nw, wLW g adL lw, wSE g adE se]) (g_runVN (isC := [1]) (rest := []) (As := [.int p1]) X hw (c_X0_hasBar l (ad := adN) h5) rfl kM_X0_hasBar ki_X0_hasBar ks_X0_hasBar km_X5_99 ⟨(Nat.le_of_ble_eq_true rfl), (Nat.le_of_ble_eq_true rfl)⟩ ⟨(Nat.le_of_ble_eq_true rfl), (Nat.le_of_ble_eq_true rfl)⟩ rfl rfl ⟨_, _, _, _, rfl, rfl, rfl, rfl⟩ rfl hl.1 rfl (Nat.le_of_ble_eq_true rfl) dX5_game_5) hw rfl rfl (fun _ => (Nat.le_of_ble_eq_true rfl)) (fun _ => rfl) rfl rfl (fun _ H locs hw => ?_)
  refine lv_if_eq (tgt := 20) hx hb dX5_game_8 (by decide) (fun k8 => ?_) (fun k8 => ?_)
  · have h := itt k8 h
    exact J20 _ h _ _ _ hw (lv_sub hl [0] rfl)
  · have h := itf k8 h
    refine lv_iload_n hx hb dX5_game_11 rfl (lv_at hl 2 rfl) ?_
    refine lv_if_lt (tgt := 20) hx hb dX5_game_12 (by decide) (fun k12 => ?_) (fun k12 => ?_)
    · have h := itt k12 h
      exact J20 _ h _ _ _ hw (lv_sub hl [0] rfl)
    · have h := itf k12 h
      refine lv_iload_n hx hb dX5_game_15 rfl (lv_at hl 2 rfl) ?_
      refine lv_iconst (v := 1) hx hb dX5_game_16 (by decide) ?_
      refine lv_icmp_le (tgt := 27) hx hb dX5_game_17 (by decide) (fun k17 => ?_) (fun k17 => ?_)
      · have h := itt k17 h
        refine lv_aload_n hx hb dX5_game_27 rfl (lv_at hl 0 rfl) ?_
        refine RO_g_now X hw 0 rfl kf_X5_12 dX5_game_28 ?_
        refine lv_iload_n hx hb dX5_game_31 rfl (lv_at hl 1 rfl) ?_
        obtain ⟨r32, h32, h⟩ := bnd h
        refine g_calli0 (isC := [1]) (gn := fun _ => [wRO g ad (adN 0) aK aD aS aT (adL 0) (adE 0) ro, wEV g adN nw, wLW g adL lw, wSE g adE se]) (g_runVN (isC := [1]) (rest := []) (As := [.int p1]) X hw (c_X0_sizeOf l (ad := adN) h32) rfl kM_X0_sizeOf ki_X0_sizeOf ks_X0_sizeOf km_X5_129 ⟨(Nat.le_of_ble_eq_true rfl), (Nat.le_of_ble_eq_true rfl)⟩ ⟨(Nat.le_of_ble_eq_true rfl), (Nat.le_of_ble_eq_true rfl)⟩ rfl rfl ⟨_, _, _, _, rfl, rfl, rfl, rfl⟩ rfl hl.1 rfl (Nat.le_of_ble_eq_true rfl) dX5_game_32) hw rfl rfl (fun _ => (Nat.le_of_ble_eq_true rfl)) (fun _ => rfl) rfl rfl (fun _ H locs hw => ?_)
        refine lv_iconst (v := 3) hx hb dX5_game_35 (by decide) ?_
        refine lv_icmp_le (tgt := 46) hx hb dX5_game_36 (by decide) (fun k36 => ?_) (fun k36 => ?_)
        · have h := itt k36 h
          refine lv_aload_n hx hb dX5_game_46 rfl (lv_at hl 0 rfl) ?_
          refine lv_iload_n hx hb dX5_game_47 rfl (lv_at hl 1 rfl) ?_
          obtain ⟨r48, h48, h⟩ := bnd h
          refine g_callv0 (isC := [0, 1, 2, 3]) (gn := fun _ => [wRO g ad (adN 0) aK aD aS aT (adL 0) (adE 0) ro, wEV g adN nw, wLW g adL r48.1, wSE g adE r48.2]) (g_runV (isC := [0, 1, 2, 3]) (rest := []) (As := [.int p1]) X hw (c_X5_study l (ad := ad) (adN := adN) (adL := adL) (adE := adE) (aK := aK) (aD := aD) (aS := aS) (aT := aT) h48) rfl kM_X5_study ki_X5_study ks_X5_study km_X5_253 ⟨(Nat.le_of_ble_eq_true rfl), (Nat.le_of_ble_eq_true rfl)⟩ ⟨(Nat.le_of_ble_eq_true rfl), (Nat.le_of_ble_eq_true rfl)⟩ rfl rfl ⟨_, _, _, _, rfl, rfl, rfl, rfl⟩ rfl hl.1 rfl (Nat.le_of_ble_eq_true rfl) dX5_game_48) hw rfl rfl (fun _ => (Nat.le_of_ble_eq_true rfl)) (fun _ => rfl) rfl rfl (fun _ H locs hw => ?_)
          refine lv_aload_n hx hb dX5_game_51 rfl (lv_at hl 0 rfl) ?_
          refine RO_g_now X hw 0 rfl kf_X5_12 dX5_game_52 ?_
          refine lv_iload_n hx hb dX5_game_55 rfl (lv_at hl 1 rfl) ?_
          obtain ⟨r56, h56, h⟩ := bnd h
          refine g_calli0 (isC := [1]) (gn := fun _ => [wRO g ad (adN 0) aK aD aS aT (adL 0) (adE 0) ro, wEV g adN nw, wLW g adL r48.1, wSE g adE r48.2]) (g_runVN (isC := [1]) (rest := []) (As := [.int p1]) X hw (c_X0_onOf l (ad := adN) h56) rfl kM_X0_onOf ki_X0_onOf ks_X0_onOf km_X5_122 ⟨(Nat.le_of_ble_eq_true rfl), (Nat.le_of_ble_eq_true rfl)⟩ ⟨(Nat.le_of_ble_eq_true rfl), (Nat.le_of_ble_eq_true rfl)⟩ rfl rfl ⟨_, _, _, _, rfl, rfl, rfl, rfl⟩ rfl hl.1 rfl (Nat.le_of_ble_eq_true rfl) dX5_game_56) hw rfl rfl (fun _ => (Nat.le_of_ble_eq_true rfl)) (fun _ => rfl) rfl rfl (fun _ H locs hw => ?_)
          refine lv_istore_n (lv' := [(3, .int r56), (0, .ref (ad 0)), (1, .int p1), (2, .int p2)]) hx hb dX5_game_59 rfl hl (by decide) rfl (fun ls hl => ?_)
          refine lv_aload_n hx hb dX5_game_60 rfl (lv_at hl 1 rfl) ?_
          refine RO_g_search X hw 0 rfl kf_X5_46 dX5_game_61 ?_
          refine lv_iload_n hx hb dX5_game_64 rfl (lv_at hl 0 rfl) ?_
          refine lv_iconst (v := 1) hx hb dX5_game_65 (by decide) ?_
          refine lv_iload_n hx hb dX5_game_66 rfl (lv_at hl 0 rfl) ?_
          refine lv_ishl hx hb dX5_game_67 ?_
          refine lv_iconst (v := 0) hx hb dX5_game_68 (by decide) ?_
          obtain ⟨r69, h69, h⟩ := bnd h
          refine g_calli0 (isC := [3]) (gn := fun _ => [wRO g ad (adN 0) aK aD aS aT (adL 0) (adE 0) ro, wEV g adN nw, wLW g adL r48.1, wSE g adE r48.2]) (g_runS (isC := [3]) (rest := []) (As := [.ref (adE 0), .int r56, .int ((1 : Int32) <<< (r56 &&& 31)), .int (0 : Int32)]) X hw (c_X5_winningMove l (ad0 := adE) 12 h69) rfl kM_X5_winningMove kt_X5_winningMove km_X5_321 ⟨(Nat.le_of_ble_eq_true rfl), (Nat.le_of_ble_eq_true rfl)⟩ ⟨(Nat.le_of_ble_eq_true rfl), (Nat.le_of_ble_eq_true rfl)⟩ rfl rfl rfl hl.1 rfl (Nat.le_of_ble_eq_true rfl) dX5_game_69) hw rfl rfl (fun _ => (Nat.le_of_ble_eq_true rfl)) (fun _ => rfl) rfl rfl (fun _ H locs hw => ?_)
          refine lv_istore (lv' := [(4, .int r69), (3, .int r56), (0, .ref (ad 0)), (1, .int p1), (2, .int p2)]) hx hb dX5_game_72 hl (by decide) rfl (fun ls hl => ?_)
          refine lv_iload_n hx hb dX5_game_74 rfl (lv_at hl 4 rfl) ?_
          refine lv_iconst (v := 1) hx hb dX5_game_75 (by decide) ?_
          refine lv_icmp_ne (tgt := 82) hx hb dX5_game_76 (by decide) (fun k76 => ?_) (fun k76 => ?_)
          · have h := itt k76 h
            refine lv_iload hx hb dX5_game_82 (lv_at hl 0 rfl) ?_
            refine lv_iconst (v := -1) hx hb dX5_game_84 (by decide) ?_
            refine lv_icmp_ne (tgt := 92) hx hb dX5_game_85 (by decide) (fun k85 => ?_) (fun k85 => ?_)
            · have h := itt k85 h
              refine lv_iconst (v := 1) hx hb dX5_game_92 (by decide) ?_
              have h := Option.some.inj h
              subst h
              exact hret () dX5_game_93 rfl hw
            · have h := itf (fun z => z k85) h
              refine lv_iconst (v := 0) hx hb dX5_game_88 (by decide) ?_
              refine lv_goto (tgt := 93) hx hb dX5_game_89 (by decide) ?_
              have h := Option.some.inj h
              subst h
              exact hret () dX5_game_93 rfl hw
          · have h := itf (fun z => z k76) h
            refine lv_iload hx hb dX5_game_79 (lv_at hl 0 rfl) ?_
            have h := Option.some.inj h
            subst h
            exact hret () dX5_game_81 rfl hw
        · have h := itf k36 h
          refine lv_aload_n hx hb dX5_game_39 rfl (lv_at hl 0 rfl) ?_
          refine lv_bipush (v := -5) hx hb dX5_game_40 (by decide) ?_
          obtain ⟨r42, h42, h⟩ := bnd h
          refine g_calli0 (isC := [0]) (gn := fun _ => [wRO g ad (adN 0) aK aD aS aT (adL 0) (adE 0) r42.2, wEV g adN nw, wLW g adL lw, wSE g adE se]) (g_runV (isC := [0]) (rest := []) (As := [.int (-5 : Int32)]) X hw (c_X5_refuse l (ad := ad) (aN := (adN 0)) (aK := aK) (aD := aD) (aS := aS) (aT := aT) (aL := (adL 0)) (aE := (adE 0)) h42) rfl kM_X5_refuse ki_X5_refuse ks_X5_refuse km_X5_62 ⟨(Nat.le_of_ble_eq_true rfl), (Nat.le_of_ble_eq_true rfl)⟩ ⟨(Nat.le_of_ble_eq_true rfl), (Nat.le_of_ble_eq_true rfl)⟩ rfl rfl ⟨_, _, _, _, rfl, rfl, rfl, rfl⟩ rfl hl.1 rfl (Nat.le_of_ble_eq_true rfl) dX5_game_42) hw rfl rfl (fun _ => (Nat.le_of_ble_eq_true rfl)) (fun _ => rfl) rfl rfl (fun _ H locs hw => ?_)
          have h := Option.some.inj h
          subst h
          exact hret () dX5_game_45 rfl hw
      · have h := itf k17 h
        exact J20 _ h _ _ _ hw (lv_sub hl [0] rfl)
theorem kM_X4_readInto : kM yX4_readInto cX4_readInto 4 (some FieldType.int) 2 := ⟨kc_X4_readInto, kn_RingsOff_Tape, by decide +kernel⟩
abbrev R_X4_readInto : Room := { frames := 7, cells := 0, slots := 0, locals := 208 }
set_option maxHeartbeats 4000000 in
set_option maxRecDepth 100000 in
theorem c_X4_readInto (l : Launch) {ad : Nat → Nat} {ad1 : Nat → Nat} {ad2 : Nat → Nat} {N : Nat} {tp : TP} {ev : EV} {lw : LW} {out : Int32 × TP × EV × LW} (h : M_X4_readInto N tp ev lw = some out) : gM l yX4_readInto cX4_readInto 4 (some FieldType.int) R_X4_readInto (fun _ => [.ref (ad 0), .ref (ad1 0), .ref (ad2 0)]) (fun g => [wTP g ad tp, wEV g ad1 ev, wLW g ad2 lw]) (gQi (fun (_ : Unit) => out.1) (fun g (_ : Unit) => [wTP g ad out.2.1, wEV g ad1 out.2.2.1, wLW g ad2 out.2.2.2])) := by
  refine gM.ofi (by decide +kernel) (fun _ => Nat.le_of_ble_eq_true rfl) (fun g p e s m args below meth c A ls Q X hret hw hl => ?_)
  have hx := X.1.1
  have hb := X.1.2.1
  have hl : lv_has ls 4 [(0, .ref (ad 0)), (1, .ref (ad1 0)), (2, .ref (ad2 0))] := hl
  have L7 : ∀ (n : Nat) (z7 : TP × EV × LW × Int32), lp (M_X4_readInto_l7 N) n z7 = some out → ∀ (H : Heap) (locs : List Loc) (ls : Array Slot), gW g A s.heap [wTP g ad z7.1, wEV g ad1 z7.2.1, wLW g ad2 z7.2.2.1] H locs → lv_has ls 4 [(0, .ref (ad 0)), (1, .ref (ad1 0)), (2, .ref (ad2 0)), (3, .int z7.2.2.2)] → W p l e R_X4_readInto s m args below meth c H locs 0 0 Q (F0 m 7 ls []) := by
    refine lp_ind ?_
    intro rec7 ih7
    intro z7 h H locs ls hw hl
    unfold M_X4_readInto_l7 at h
    refine lv_iload_n hx hb dX4_readInto_7 rfl (lv_at hl 3 rfl) ?_
    refine lv_sipush (v := 250) hx hb dX4_readInto_8 (by decide) ?_
    refine lv_icmp_gt (tgt := 50) hx hb dX4_readInto_11 (by decide) (fun k11 => ?_) (fun k11 => ?_)
    · have h := itt k11 h
      refine lv_iconst (v := -1) hx hb dX4_readInto_50 (by decide) ?_
      have h := Option.some.inj h
      subst h
      exact hret () dX4_readInto_51 rfl hw
    · have h := itf k11 h
      refine lv_aload_n hx hb dX4_readInto_14 rfl (lv_at hl 0 rfl) ?_
      refine lv_aload_n hx hb dX4_readInto_15 rfl (lv_at hl 1 rfl) ?_
      refine lv_aload_n hx hb dX4_readInto_16 rfl (lv_at hl 2 rfl) ?_
      obtain ⟨r17, h17, h⟩ := bnd h
      refine g_calli0 (isC := [0, 1, 2]) (gn := fun _ => [wTP g ad r17.2.1, wEV g ad1 r17.2.2.1, wLW g ad2 r17.2.2.2]) (g_runV (isC := [0, 1, 2]) (rest := []) (As := [.ref (ad1 0), .ref (ad2 0)]) X hw (c_X4_readStatement l (ad := ad) (ad1 := ad1) (ad2 := ad2) h17) rfl kM_X4_readStatement ki_X4_readStatement ks_X4_readStatement km_X4_31 ⟨(Nat.le_of_ble_eq_true rfl), (Nat.le_of_ble_eq_true rfl)⟩ ⟨(Nat.le_of_ble_eq_true rfl), (Nat.le_of_ble_eq_true rfl)⟩ rfl rfl ⟨_, _, _, _, rfl, rfl, rfl, rfl⟩ rfl hl.1 rfl (Nat.le_of_ble_eq_true rfl) dX4_readInto_17) hw rfl rfl (fun _ => (Nat.le_of_ble_eq_true rfl)) (fun _ => rfl) rfl rfl (fun _ H locs hw => ?_)
      refine lv_if_ne (tgt := 25) hx hb dX4_readInto_20 (by decide) (fun k20 => ?_) (fun k20 => ?_)
      · have h := itt k20 h
        refine lv_aload_n hx hb dX4_readInto_25 rfl (lv_at hl 0 rfl) ?_
        refine TP_g_type X hw 0 rfl kf_X4_25 dX4_readInto_26 ?_
        refine lv_if_ne (tgt := 34) hx hb dX4_readInto_29 (by decide) (fun k29 => ?_) (fun k29 => ?_)
        · have h := itt k29 h
          refine lv_aload_n hx hb dX4_readInto_34 rfl (lv_at hl 0 rfl) ?_
          refine TP_g_type X hw 0 rfl kf_X4_25 dX4_readInto_35 ?_
          refine lv_iconst (v := 3) hx hb dX4_readInto_38 (by decide) ?_
          refine lv_icmp_eq (tgt := 44) hx hb dX4_readInto_39 (by decide) (fun k39 => ?_) (fun k39 => ?_)
          · have h := itt k39 h
            refine lv_iinc (v := (z7.2.2.2 + 1)) (lv' := [(3, .int (z7.2.2.2 + 1)), (0, .ref (ad 0)), (1, .ref (ad1 0)), (2, .ref (ad2 0))]) hx hb dX4_readInto_44 hl (k := 3) rfl rfl (by decide) rfl (fun ls hl => ?_)
            refine lv_goto (tgt := 7) hx hb dX4_readInto_47 (by decide) ?_
            exact ih7 _ h _ _ _ hw (lv_sub hl [1, 2, 3, 0] rfl)
          · have h := itf k39 h
            refine lv_iconst (v := -1) hx hb dX4_readInto_42 (by decide) ?_
            have h := Option.some.inj h
            subst h
            exact hret () dX4_readInto_43 rfl hw
        · have h := itf (fun z => z k29) h
          refine lv_iload_n hx hb dX4_readInto_32 rfl (lv_at hl 3 rfl) ?_
          have h := Option.some.inj h
          subst h
          exact hret () dX4_readInto_33 rfl hw
      · have h := itf (fun z => z k20) h
        refine lv_iconst (v := -1) hx hb dX4_readInto_23 (by decide) ?_
        have h := Option.some.inj h
        subst h
        exact hret () dX4_readInto_24 rfl hw
  unfold M_X4_readInto at h
  refine lv_aload_n hx hb dX4_readInto_0 rfl (lv_at hl 0 rfl) ?_
  refine lv_iconst (v := 0) hx hb dX4_readInto_1 (by decide) ?_
  refine TP_p_at (gs' := [wTP g ad (TP_s_at tp (0 : Int32)), wEV g ad1 ev, wLW g ad2 lw]) X hw 0 rfl kf_X4_19 dX4_readInto_2 rfl (fun H locs hw => ?_)
  refine lv_iconst (v := 1) hx hb dX4_readInto_5 (by decide) ?_
  refine lv_istore_n (lv' := [(3, .int (1 : Int32)), (0, .ref (ad 0)), (1, .ref (ad1 0)), (2, .ref (ad2 0))]) hx hb dX4_readInto_6 rfl hl (by decide) rfl (fun ls hl => ?_)
  exact L7 N _ h _ _ _ hw (lv_sub hl [1, 2, 3, 0] rfl)
theorem kM_X5_bars : kM yX5_bars cX5_bars 3 (some FieldType.int) 0 := ⟨kc_X5_bars, kn_RingsOff, by decide +kernel⟩
abbrev R_X5_bars : Room := { frames := 8, cells := 0, slots := 0, locals := 231 }
set_option maxHeartbeats 4000000 in
set_option maxRecDepth 100000 in
theorem c_X5_bars (l : Launch) {ad : Nat → Nat} {adN : Nat → Nat} {adD : Nat → Nat} {adT : Nat → Nat} {adL : Nat → Nat} {aK : Nat} {aS : Nat} {aE : Nat} {N : Nat} {ro : RO} {nw : EV} {dr : EV} {tp : TP} {lw : LW} {out : Int32 × RO × EV × EV × TP × LW} (h : M_X5_bars N ro nw dr tp lw = some out) : gM l yX5_bars cX5_bars 3 (some FieldType.int) R_X5_bars (fun _ => [.ref (ad 0)]) (fun g => [wRO g ad (adN 0) aK (adD 0) aS (adT 0) (adL 0) aE ro, wEV g adN nw, wEV g adD dr, wTP g adT tp, wLW g adL lw]) (gQi (fun (_ : Unit) => out.1) (fun g (_ : Unit) => [wRO g ad (adN 0) aK (adD 0) aS (adT 0) (adL 0) aE out.2.1, wEV g adN out.2.2.1, wEV g adD out.2.2.2.1, wTP g adT out.2.2.2.2.1, wLW g adL out.2.2.2.2.2])) := by
  refine gM.ofi (by decide +kernel) (fun _ => Nat.le_of_ble_eq_true rfl) (fun g p e s m args below meth c A ls Q X hret hw hl => ?_)
  have hx := X.1.1
  have hb := X.1.2.1
  have hl : lv_has ls 3 [(0, .ref (ad 0))] := hl
  unfold M_X5_bars at h
  refine lv_aload_n hx hb dX5_bars_0 rfl (lv_at hl 0 rfl) ?_
  refine RO_g_draft X hw 0 rfl kf_X5_19 dX5_bars_1 ?_
  refine lv_aload_n hx hb dX5_bars_4 rfl (lv_at hl 0 rfl) ?_
  refine RO_g_now X hw 0 rfl kf_X5_12 dX5_bars_5 ?_
  obtain ⟨r8, h8, h⟩ := bnd h
  refine g_callv0 (isC := [2, 1]) (gn := fun _ => [wRO g ad (adN 0) aK (adD 0) aS (adT 0) (adL 0) aE ro, wEV g adN nw, wEV g adD r8, wTP g adT tp, wLW g adL lw]) (g_runVN (isC := [2, 1]) (rest := []) (As := [.ref (adN 0)]) X hw (c_X0_become l (ad := adD) (ad1 := adN) h8) rfl kM_X0_become ki_X0_become ks_X0_become km_X5_209 ⟨(Nat.le_of_ble_eq_true rfl), (Nat.le_of_ble_eq_true rfl)⟩ ⟨(Nat.le_of_ble_eq_true rfl), (Nat.le_of_ble_eq_true rfl)⟩ rfl rfl ⟨_, _, _, _, rfl, rfl, rfl, rfl⟩ rfl hl.1 rfl (Nat.le_of_ble_eq_true rfl) dX5_bars_8) hw rfl rfl (fun _ => (Nat.le_of_ble_eq_true rfl)) (fun _ => rfl) rfl rfl (fun _ H locs hw => ?_)
  refine lv_aload_n hx hb dX5_bars_11 rfl (lv_at hl 0 rfl) ?_
  refine RO_g_tape X hw 0 rfl kf_X5_32 dX5_bars_12 ?_
  refine lv_aload_n hx hb dX5_bars_15 rfl (lv_at hl 0 rfl) ?_
  refine RO_g_draft X hw 0 rfl kf_X5_19 dX5_bars_16 ?_
  refine lv_aload_n hx hb dX5_bars_19 rfl (lv_at hl 0 rfl) ?_
  refine RO_g_law X hw 0 rfl kf_X5_39 dX5_bars_20 ?_
  obtain ⟨r23, h23, h⟩ := bnd h
  refine g_calli0 (isC := [3, 2, 4]) (gn := fun _ => [wRO g ad (adN 0) aK (adD 0) aS (adT 0) (adL 0) aE ro, wEV g adN nw, wEV g adD r23.2.2.1, wTP g adT r23.2.1, wLW g adL r23.2.2.2]) (g_runVN (isC := [3, 2, 4]) (rest := []) (As := [.ref (adD 0), .ref (adL 0)]) X hw (c_X4_readInto l (ad := adT) (ad1 := adD) (ad2 := adL) h23) rfl kM_X4_readInto ki_X4_readInto ks_X4_readInto km_X5_213 ⟨(Nat.le_of_ble_eq_true rfl), (Nat.le_of_ble_eq_true rfl)⟩ ⟨(Nat.le_of_ble_eq_true rfl), (Nat.le_of_ble_eq_true rfl)⟩ rfl rfl ⟨_, _, _, _, rfl, rfl, rfl, rfl⟩ rfl hl.1 rfl (Nat.le_of_ble_eq_true rfl) dX5_bars_23) hw rfl rfl (fun _ => (Nat.le_of_ble_eq_true rfl)) (fun _ => rfl) rfl rfl (fun _ H locs hw => ?_)
  refine lv_istore_n (lv' := [(1, .int r23.1), (0, .ref (ad 0))]) hx hb dX5_bars_26 rfl hl (by decide) rfl (fun ls hl => ?_)
  refine lv_aload_n hx hb dX5_bars_27 rfl (lv_at hl 1 rfl) ?_
  refine RO_g_tape X hw 0 rfl kf_X5_32 dX5_bars_28 ?_
  refine TP_gn_start X hw 3 rfl kf_X5_217 dX5_bars_31 ?_
  refine lv_istore_n (lv' := [(2, .int (TP_start r23.2.1)), (1, .int r23.1), (0, .ref (ad 0))]) hx hb dX5_bars_34 rfl hl (by decide) rfl (fun ls hl => ?_)
  refine lv_aload_n hx hb dX5_bars_35 rfl (lv_at hl 2 rfl) ?_
  refine RO_g_tape X hw 0 rfl kf_X5_32 dX5_bars_36 ?_
  obtain ⟨r39, h39, h⟩ := bnd h
  refine g_callv0 (isC := [3]) (gn := fun _ => [wRO g ad (adN 0) aK (adD 0) aS (adT 0) (adL 0) aE ro, wEV g adN nw, wEV g adD r23.2.2.1, wTP g adT r39, wLW g adL r23.2.2.2]) (g_runVN (isC := [3]) (rest := []) (As := []) X hw (c_X4_clear l (ad := adT) h39) rfl kM_X4_clear ki_X4_clear ks_X4_clear km_X5_206 ⟨(Nat.le_of_ble_eq_true rfl), (Nat.le_of_ble_eq_true rfl)⟩ ⟨(Nat.le_of_ble_eq_true rfl), (Nat.le_of_ble_eq_true rfl)⟩ rfl rfl ⟨_, _, _, _, rfl, rfl, rfl, rfl⟩ rfl hl.1 rfl (Nat.le_of_ble_eq_true rfl) dX5_bars_39) hw rfl rfl (fun _ => (Nat.le_of_ble_eq_true rfl)) (fun _ => rfl) rfl rfl (fun _ H locs hw => ?_)
  refine lv_iload_n hx hb dX5_bars_42 rfl (lv_at hl 1 rfl) ?_
  refine lv_iconst (v := -1) hx hb dX5_bars_43 (by decide) ?_
  refine lv_icmp_ne (tgt := 59) hx hb dX5_bars_44 (by decide) (fun k44 => ?_) (fun k44 => ?_)
  · have h := itt k44 h
    refine lv_aload_n hx hb dX5_bars_59 rfl (lv_at hl 2 rfl) ?_
    refine RO_g_now X hw 0 rfl kf_X5_12 dX5_bars_60 ?_
    refine lv_aload_n hx hb dX5_bars_63 rfl (lv_at hl 2 rfl) ?_
    refine RO_g_draft X hw 0 rfl kf_X5_19 dX5_bars_64 ?_
    obtain ⟨r67, h67, h⟩ := bnd h
    refine g_callv0 (isC := [1, 2]) (gn := fun _ => [wRO g ad (adN 0) aK (adD 0) aS (adT 0) (adL 0) aE ro, wEV g adN r67, wEV g adD r23.2.2.1, wTP g adT r39, wLW g adL r23.2.2.2]) (g_runVN (isC := [1, 2]) (rest := []) (As := [.ref (adD 0)]) X hw (c_X0_become l (ad := adN) (ad1 := adD) h67) rfl kM_X0_become ki_X0_become ks_X0_become km_X5_209 ⟨(Nat.le_of_ble_eq_true rfl), (Nat.le_of_ble_eq_true rfl)⟩ ⟨(Nat.le_of_ble_eq_true rfl), (Nat.le_of_ble_eq_true rfl)⟩ rfl rfl ⟨_, _, _, _, rfl, rfl, rfl, rfl⟩ rfl hl.1 rfl (Nat.le_of_ble_eq_true rfl) dX5_bars_67) hw rfl rfl (fun _ => (Nat.le_of_ble_eq_true rfl)) (fun _ => rfl) rfl rfl (fun _ H locs hw => ?_)
    refine lv_iload_n hx hb dX5_bars_70 rfl (lv_at hl 1 rfl) ?_
    have h := Option.some.inj h
    subst h
    exact hret () dX5_bars_71 rfl hw
  · have h := itf (fun z => z k44) h
    refine lv_aload_n hx hb dX5_bars_47 rfl (lv_at hl 2 rfl) ?_
    refine lv_bipush (v := -2) hx hb dX5_bars_48 (by decide) ?_
    obtain ⟨r50, h50, h⟩ := bnd h
    refine g_calli0 (isC := [0]) (gn := fun _ => [wRO g ad (adN 0) aK (adD 0) aS (adT 0) (adL 0) aE r50.2, wEV g adN nw, wEV g adD r23.2.2.1, wTP g adT r39, wLW g adL r23.2.2.2]) (g_runV (isC := [0]) (rest := []) (As := [.int (-2 : Int32)]) X hw (c_X5_refuse l (ad := ad) (aN := (adN 0)) (aK := aK) (aD := (adD 0)) (aS := aS) (aT := (adT 0)) (aL := (adL 0)) (aE := aE) h50) rfl kM_X5_refuse ki_X5_refuse ks_X5_refuse km_X5_62 ⟨(Nat.le_of_ble_eq_true rfl), (Nat.le_of_ble_eq_true rfl)⟩ ⟨(Nat.le_of_ble_eq_true rfl), (Nat.le_of_ble_eq_true rfl)⟩ rfl rfl ⟨_, _, _, _, rfl, rfl, rfl, rfl⟩ rfl hl.1 rfl (Nat.le_of_ble_eq_true rfl) dX5_bars_50) hw rfl rfl (fun _ => (Nat.le_of_ble_eq_true rfl)) (fun _ => rfl) rfl rfl (fun _ H locs hw => ?_)
    refine lv_pop hx hb dX5_bars_53 rfl ?_
    refine lv_bipush (v := -20) hx hb dX5_bars_54 (by decide) ?_
    refine lv_iload_n hx hb dX5_bars_56 rfl (lv_at hl 0 rfl) ?_
    refine lv_isub hx hb dX5_bars_57 ?_
    have h := Option.some.inj h
    subst h
    exact hret () dX5_bars_58 rfl hw
