def M_X6_takeFrom_l54 (N : Nat) (rm1 : RM) (rec54 : (RM × Int32) → Option (RM)) (z54 : RM × Int32) : Option (RM) := (if (4 : Int32) ≤ z54.2 then ((some (RM_s_minutes z54.1 (ovf 10 (RM_minutes rm1) (RM_minutes z54.1)))).bind fun s103 => some (RM_s_seed (RM_s_movedAll s103 (RM_movedAll rm1)) (RM_seed rm1))) else (if z54.2 < 0 ∨ 4 ≤ z54.2.toNatClampNeg then none else (if z54.2 < 0 ∨ 4 ≤ z54.2.toNatClampNeg then none else ((some (RM_s_must z54.1 (va_up (RM_must z54.1) z54.2.toNatClampNeg (ovf 10 (RM_must rm1 z54.2.toNatClampNeg) (RM_must z54.1 z54.2.toNatClampNeg))))).bind fun s71 => (if z54.2 < 0 ∨ 4 ≤ z54.2.toNatClampNeg then none else (if z54.2 < 0 ∨ 4 ≤ z54.2.toNatClampNeg then none else ((some (RM_s_not s71 (va_up (RM_not s71) z54.2.toNatClampNeg (ovf 10 (RM_not rm1 z54.2.toNatClampNeg) (RM_not s71 z54.2.toNatClampNeg))))).bind fun s86 => rec54 (s86, (z54.2 + 1)))))))))
def M_X6_takeFrom (N : Nat) (rm : RM) (rm1 : RM) : Option (RM) := ((some (RM_s_kind (RM_s_bars rm (RM_bars rm1)) (ovf 4 (RM_kind rm1) (RM_kind (RM_s_bars rm (RM_bars rm1)))))).bind fun s16 => ((some (RM_s_size s16 (ovf 4 (RM_size rm1) (RM_size s16)))).bind fun s27 => ((some (RM_s_on s27 (ovf 4 (RM_on rm1) (RM_on s27)))).bind fun s38 => ((some (RM_s_stuck s38 (ovf 4 (RM_stuck rm1) (RM_stuck s38)))).bind fun s49 => lp (M_X6_takeFrom_l54 N rm1) N (s49, (0 : Int32))))))
def M_X6_lone_s_j18 (N : Nat) (rm : RM) (p1 : Int32) (p2 : Int32) (z18 : RM) : Option (RM) := ((M_X6_takeFrom N z18 rm).bind fun r23 => ((M_X6_addBar N (RM_s_bars r23 (0 : Int32)) p1 p2).bind fun r40 => some r40))
def M_X6_lone_s (N : Nat) (rm : RM) (rt : RM) (p1 : Int32) (p2 : Int32) : Option (RM) := M_X6_lone_s_j18 N rm p1 p2 rt
def M_X6_lone_n_j100018 (N : Nat) (rm : RM) (p1 : Int32) (p2 : Int32) (z100018 : RM) : Option (RM) := ((M_X6_takeFrom N z100018 rm).bind fun r23 => ((M_X6_addBar N (RM_s_bars r23 (0 : Int32)) p1 p2).bind fun r40 => some r40))
def M_X6_lone_n (N : Nat) (rm : RM) (p1 : Int32) (p2 : Int32) : Option (RM) := M_X6_lone_n_j100018 N rm p1 p2 RM0
def M_X6_save_s (N : Nat) (rm : RM) (rt : RM) (p1 : Int32) : Option (Int32 × RM × RM) := ((M_X6_in N p1.toInt64 (1 : Int64) (10 : Int64)).bind fun r6 => (if ¬ r6 = 0 then ((M_X6_lone_s N rm rt (1 : Int32) p1).bind fun r22 => ((M_X6_fewestTo N r22 (0 : Int32) (((1 : Int32) <<< (p1 &&& 31)) - (1 : Int32)) (0 : Int32)).bind fun r32 => ((M_X6_lone_s N rm r32.2 (2 : Int32) p1).bind fun r40 => ((M_X6_fewestTo N r40 (0 : Int32) (((1 : Int32) <<< (p1 &&& 31)) - (1 : Int32)) (0 : Int32)).bind fun r50 => some ((r32.1 - r50.1), rm, r50.2))))) else ((M_X6_refuse N rm (-2 : Int32)).bind fun r15 => some (r15.1, r15.2, rt))))
def M_X6_save_n (N : Nat) (rm : RM) (p1 : Int32) : Option (Int32 × RM × Option RM) := ((M_X6_in N p1.toInt64 (1 : Int64) (10 : Int64)).bind fun r6 => (if ¬ r6 = 0 then ((M_X6_lone_n N rm (1 : Int32) p1).bind fun r22 => ((M_X6_fewestTo N r22 (0 : Int32) (((1 : Int32) <<< (p1 &&& 31)) - (1 : Int32)) (0 : Int32)).bind fun r32 => ((M_X6_lone_s N rm r32.2 (2 : Int32) p1).bind fun r40 => ((M_X6_fewestTo N r40 (0 : Int32) (((1 : Int32) <<< (p1 &&& 31)) - (1 : Int32)) (0 : Int32)).bind fun r50 => some ((r32.1 - r50.1), rm, some r50.2))))) else ((M_X6_refuse N rm (-2 : Int32)).bind fun r15 => some (r15.1, r15.2, (none : Option RM)))))
def M_X6_lock_s_l21 (N : Nat) (p1 : Int32) (rec21 : (RM × RM × Int32) → Option (Int32 × RM × RM)) (z21 : RM × RM × Int32) : Option (Int32 × RM × RM) := (if (10 : Int32) < z21.2.2 then some ((-1 : Int32), z21.1, z21.2.1) else ((M_X6_lone_s N z21.1 z21.2.1 (1 : Int32) z21.2.2).bind fun r30 => ((M_X6_timeTo N r30 (0 : Int32) (((1 : Int32) <<< (z21.2.2 &&& 31)) - (1 : Int32)) (0 : Int32)).bind fun r40 => (if r40.1 < p1 then rec21 (z21.1, r40.2, (z21.2.2 + 1)) else some (z21.2.2, z21.1, r40.2)))))
def M_X6_lock_s (N : Nat) (rm : RM) (rt : RM) (p1 : Int32) : Option (Int32 × RM × RM) := ((M_X6_in N p1.toInt64 (0 : Int64) (99999 : Int64)).bind fun r6 => (if ¬ r6 = 0 then lp (M_X6_lock_s_l21 N p1) N (rm, rt, (1 : Int32)) else ((M_X6_refuse N rm (-2 : Int32)).bind fun r15 => some (r15.1, r15.2, rt))))
def M_X6_lock_n_l100021 (N : Nat) (p1 : Int32) (rec100021 : (RM × RM × Int32) → Option (Int32 × RM × Option RM)) (z100021 : RM × RM × Int32) : Option (Int32 × RM × Option RM) := (if (10 : Int32) < z100021.2.2 then some ((-1 : Int32), z100021.1, some z100021.2.1) else ((M_X6_lone_s N z100021.1 z100021.2.1 (1 : Int32) z100021.2.2).bind fun r30 => ((M_X6_timeTo N r30 (0 : Int32) (((1 : Int32) <<< (z100021.2.2 &&& 31)) - (1 : Int32)) (0 : Int32)).bind fun r40 => (if r40.1 < p1 then rec100021 (z100021.1, r40.2, (z100021.2.2 + 1)) else some (z100021.2.2, z100021.1, some r40.2)))))
def M_X6_lock_n (N : Nat) (rm : RM) (p1 : Int32) : Option (Int32 × RM × Option RM) := ((M_X6_in N p1.toInt64 (0 : Int64) (99999 : Int64)).bind fun r6 => (if ¬ r6 = 0 then (if (10 : Int32) < (1 : Int32) then some ((-1 : Int32), rm, (none : Option RM)) else ((M_X6_lone_n N rm (1 : Int32) (1 : Int32)).bind fun r30 => ((M_X6_timeTo N r30 (0 : Int32) (((1 : Int32) <<< ((1 : Int32) &&& 31)) - (1 : Int32)) (0 : Int32)).bind fun r40 => (if r40.1 < p1 then lp (M_X6_lock_n_l100021 N p1) N (rm, r40.2, ((1 : Int32) + 1)) else some ((1 : Int32), rm, some r40.2))))) else ((M_X6_refuse N rm (-2 : Int32)).bind fun r15 => some (r15.1, r15.2, (none : Option RM)))))
def M_X6_image_s_j18 (N : Nat) (rm : RM) (z18 : RM) : Option (Int32 × RM) := ((M_X6_takeFrom N z18 rm).bind fun r23 => some ((1 : Int32), r23))
def M_X6_image_s (N : Nat) (rm : RM) (rt : RM) : Option (Int32 × RM) := M_X6_image_s_j18 N rm rt
def M_X6_image_n_j100018 (N : Nat) (rm : RM) (z100018 : RM) : Option (Int32 × RM) := ((M_X6_takeFrom N z100018 rm).bind fun r23 => some ((1 : Int32), r23))
def M_X6_image_n (N : Nat) (rm : RM) : Option (Int32 × RM) := M_X6_image_n_j100018 N rm RM0
def M_X6_back_s (N : Nat) (rm : RM) (rt : RM) : Option (Int32 × RM) := ((M_X6_takeFrom N rm rt).bind fun r19 => ((M_X6_shelvesFollow N r19).bind fun r23 => some ((1 : Int32), r23)))
def M_X6_back_n (N : Nat) (rm : RM) : Option (Int32 × RM) := ((M_X6_refuse N rm (-5 : Int32)).bind fun r10 => some (r10.1, r10.2))
def M_X6_chance_l172 (N : Nat) (p1 : Int32) (p2 : Int32) (p3 : Int32) (rec110 : (RM × Int32) → Option (Int32 × RM)) (rec172 : (RM × Int32 × Int32) → Option (Int32 × RM)) (z172 : RM × Int32 × Int32) : Option (Int32 × RM) := ((M_X6_all N z172.1 p1).bind fun r176 => (if r176 < z172.2.2 then rec110 (z172.1, (z172.2.1 + 1)) else (if z172.2.2 < 0 ∨ (RM_pl z172.1) ≤ z172.2.2.toNatClampNeg then none else (if z172.2.2 < 0 ∨ (RM_pl z172.1) ≤ z172.2.2.toNatClampNeg then none else rec172 (RM_s_parts1 z172.1 (upd (RM_parts1 z172.1) z172.2.2.toNatClampNeg (RM_parts2 z172.1 z172.2.2.toNatClampNeg)), z172.2.1, (z172.2.2 + 1))))))
def M_X6_chance_l146 (N : Nat) (p1 : Int32) (p2 : Int32) (p3 : Int32) (rec110 : (RM × Int32) → Option (Int32 × RM)) (rec146 : (RM × Int32 × Int32) → Option (Int32 × RM)) (z146 : RM × Int32 × Int32) : Option (Int32 × RM) := ((M_X6_all N z146.1 p1).bind fun r150 => (if r150 < z146.2.2 then lp (M_X6_chance_l172 N p1 p2 p3 rec110) N (z146.1, z146.2.1, (0 : Int32)) else ((M_X6_goesOn N z146.1 p1 z146.2.2).bind fun r160 => rec146 (r160, z146.2.1, (z146.2.2 + 1)))))
def M_X6_chance_l119 (N : Nat) (p1 : Int32) (p2 : Int32) (p3 : Int32) (rec110 : (RM × Int32) → Option (Int32 × RM)) (rec119 : (RM × Int32 × Int32) → Option (Int32 × RM)) (z119 : RM × Int32 × Int32) : Option (Int32 × RM) := ((M_X6_all N z119.1 p1).bind fun r123 => (if r123 < z119.2.2 then lp (M_X6_chance_l146 N p1 p2 p3 rec110) N (z119.1, z119.2.1, (0 : Int32)) else (if z119.2.2 < 0 ∨ (RM_pl z119.1) ≤ z119.2.2.toNatClampNeg then none else rec119 (RM_s_parts2 z119.1 (upd (RM_parts2 z119.1) z119.2.2.toNatClampNeg (0 : Int32)), z119.2.1, (z119.2.2 + 1)))))
def M_X6_chance_l110 (N : Nat) (p1 : Int32) (p2 : Int32) (p3 : Int32) (rec110 : (RM × Int32) → Option (Int32 × RM)) (z110 : RM × Int32) : Option (Int32 × RM) := (if p3 ≤ z110.2 then (if p2 < 0 ∨ (RM_pl z110.1) ≤ p2.toNatClampNeg then none else some ((RM_parts1 z110.1 p2.toNatClampNeg), z110.1)) else lp (M_X6_chance_l119 N p1 p2 p3 rec110) N (z110.1, z110.2, (0 : Int32)))
def M_X6_chance_j100 (N : Nat) (p1 : Int32) (p2 : Int32) (p3 : Int32) (rec66 : (RM × Int32) → Option (Int32 × RM)) (z100 : RM × Int32 × Int32 × Int32) : Option (Int32 × RM) := (if z100.2.2.1 < 0 ∨ (RM_pl z100.1) ≤ z100.2.2.1.toNatClampNeg then none else rec66 (RM_s_parts1 z100.1 (upd (RM_parts1 z100.1) z100.2.2.1.toNatClampNeg z100.2.2.2), (z100.2.1 + 1)))
def M_X6_chance_l66 (N : Nat) (p1 : Int32) (p2 : Int32) (p3 : Int32) (rec66 : (RM × Int32) → Option (Int32 × RM)) (z66 : RM × Int32) : Option (Int32 × RM) := ((M_X6_all N z66.1 p1).bind fun r70 => (if r70 < z66.2 then lp (M_X6_chance_l110 N p1 p2 p3) N (z66.1, (0 : Int32)) else (if p1 < 0 ∨ 4 ≤ p1.toNatClampNeg then none else (if ¬ z66.2 = (RM_on z66.1 p1.toNatClampNeg) then M_X6_chance_j100 N p1 p2 p3 rec66 (z66.1, z66.2, z66.2, (0 : Int32)) else M_X6_chance_j100 N p1 p2 p3 rec66 (z66.1, z66.2, z66.2, (1000000 : Int32))))))
def M_X6_chance_j63 (N : Nat) (p1 : Int32) (p2 : Int32) (p3 : Int32) (z63 : RM) : Option (Int32 × RM) := lp (M_X6_chance_l66 N p1 p2 p3) N (z63, (0 : Int32))
def M_X6_chance_j30 (N : Nat) (p1 : Int32) (p2 : Int32) (p3 : Int32) (z30 : RM) : Option (Int32 × RM) := ((M_X6_refuse N z30 (-2 : Int32)).bind fun r33 => some (r33.1, r33.2))
def M_X6_chance (N : Nat) (rm : RM) (p1 : Int32) (p2 : Int32) (p3 : Int32) : Option (Int32 × RM) := ((M_X6_isBar N rm p1).bind fun r2 => (if r2 = 0 then M_X6_chance_j30 N p1 p2 p3 rm else ((M_X6_isSet N rm p1 p2.toInt64).bind fun r12 => (if r12 = 0 then M_X6_chance_j30 N p1 p2 p3 rm else ((M_X6_in N p3.toInt64 (0 : Int64) (20 : Int64)).bind fun r24 => (if ¬ r24 = 0 then (if ¬ (nI (RM_pl rm)) = 0 then M_X6_chance_j63 N p1 p2 p3 rm else M_X6_chance_j63 N p1 p2 p3 (RM_alloc rm)) else M_X6_chance_j30 N p1 p2 p3 rm))))))
def M_X6_bars_s_j18 (N : Nat) (z18 : RM × RM) : Option (Int32 × RM × RM) := ((M_X6_takeFrom N z18.2 z18.1).bind fun r23 => ((M_X6_readAll N z18.1).bind fun r27 => (if ¬ r27.1 = 0 then some ((RM_statements (RM_s_tapeSize r27.2 (0 : Int32))), RM_s_tapeSize r27.2 (0 : Int32), r23) else ((M_X6_takeFrom N (RM_s_tapeSize r27.2 (0 : Int32)) r23).bind fun r45 => ((M_X6_refuse N r45 (-2 : Int32)).bind fun r51 => some (((-20 : Int32) - (RM_fault r51.2)), r51.2, r23))))))
def M_X6_bars_s (N : Nat) (rm : RM) (rt : RM) : Option (Int32 × RM × RM) := M_X6_bars_s_j18 N (rm, rt)
def M_X6_bars_n_j100018 (N : Nat) (z100018 : RM × RM) : Option (Int32 × RM × Option RM) := ((M_X6_takeFrom N z100018.2 z100018.1).bind fun r23 => ((M_X6_readAll N z100018.1).bind fun r27 => (if ¬ r27.1 = 0 then some ((RM_statements (RM_s_tapeSize r27.2 (0 : Int32))), RM_s_tapeSize r27.2 (0 : Int32), some r23) else ((M_X6_takeFrom N (RM_s_tapeSize r27.2 (0 : Int32)) r23).bind fun r45 => ((M_X6_refuse N r45 (-2 : Int32)).bind fun r51 => some (((-20 : Int32) - (RM_fault r51.2)), r51.2, some r23))))))
def M_X6_bars_n (N : Nat) (rm : RM) : Option (Int32 × RM × Option RM) := M_X6_bars_n_j100018 N (rm, RM0)
def M_X2_chanceOf_j100 (N : Nat) (p1 : Int32) (p2 : Int32) (p3 : Int32) (rec37 : (SE × Int32) → Option (Int32 × SE)) (z100 : SE × Int32) : Option (Int32 × SE) := rec37 (SE_swp z100.1, (z100.2 + 1))
def M_X2_chanceOf_j94 (N : Nat) (p1 : Int32) (p2 : Int32) (p3 : Int32) (rec37 : (SE × Int32) → Option (Int32 × SE)) (rec54 : (SE × Int32 × Int32) → Option (Int32 × SE)) (z94 : SE × Int32 × Int32) : Option (Int32 × SE) := rec54 (z94.1, z94.2.1, (z94.2.2 + 1))
def M_X2_chanceOf_l54 (N : Nat) (p1 : Int32) (p2 : Int32) (p3 : Int32) (rec37 : (SE × Int32) → Option (Int32 × SE)) (rec54 : (SE × Int32 × Int32) → Option (Int32 × SE)) (z54 : SE × Int32 × Int32) : Option (Int32 × SE) := (if (SE_sets z54.1) ≤ z54.2.2 then M_X2_chanceOf_j100 N p1 p2 p3 rec37 (z54.1, z54.2.1) else (if (1024 : Int32) ≤ z54.2.2 then M_X2_chanceOf_j100 N p1 p2 p3 rec37 (z54.1, z54.2.1) else (if z54.2.2 < 0 ∨ 1024 ≤ z54.2.2.toNatClampNeg then none else (if (SE_parts z54.1 z54.2.2.toNatClampNeg) ≤ 0 then M_X2_chanceOf_j94 N p1 p2 p3 rec37 rec54 (z54.1, z54.2.1, z54.2.2) else (if z54.2.2 < 0 ∨ 1024 ≤ z54.2.2.toNatClampNeg then none else ((M_X2_share N z54.1 z54.2.2 (SE_parts z54.1 z54.2.2.toNatClampNeg)).bind fun r91 => M_X2_chanceOf_j94 N p1 p2 p3 rec37 rec54 (r91, z54.2.1, z54.2.2)))))))
def M_X2_chanceOf_l37 (N : Nat) (p1 : Int32) (p2 : Int32) (p3 : Int32) (rec37 : (SE × Int32) → Option (Int32 × SE)) (z37 : SE × Int32) : Option (Int32 × SE) := (if p3 ≤ z37.2 then (if p2 < 0 ∨ 1024 ≤ p2.toNatClampNeg then none else some ((SE_parts z37.1 p2.toNatClampNeg), z37.1)) else lp (M_X2_chanceOf_l54 N p1 p2 p3 rec37) N (SE_s_nextParts z37.1 (fillf 1024 (0 : Int32) (SE_nextParts z37.1)), z37.2, (0 : Int32)))
def M_X2_chanceOf (N : Nat) (se : SE) (p1 : Int32) (p2 : Int32) (p3 : Int32) : Option (Int32 × SE) := ((M_X2_isSet N se p1).bind fun r2 => (if r2 = 0 then some ((0 : Int32), se) else ((M_X2_isSet N se p2).bind fun r10 => (if ¬ r10 = 0 then (if p1 < 0 ∨ 1024 ≤ p1.toNatClampNeg then none else lp (M_X2_chanceOf_l37 N p1 p2 p3) N (SE_s_parts (SE_s_parts se (fillf 1024 (0 : Int32) (SE_parts se))) (upd (SE_parts (SE_s_parts se (fillf 1024 (0 : Int32) (SE_parts se)))) p1.toNatClampNeg (1000000 : Int32)), (0 : Int32))) else some ((0 : Int32), se)))))
def M_X5_chance_j23 (N : Nat) (nw : EV) (p1 : Int32) (p2 : Int32) (p3 : Int32) (z23 : RO × LW × SE) : Option (Int32 × RO × LW × SE) := ((M_X5_refuse N z23.1 (-2 : Int32)).bind fun r26 => some (r26.1, r26.2, z23.2.1, z23.2.2))
def M_X5_chance (N : Nat) (ro : RO) (nw : EV) (lw : LW) (se : SE) (p1 : Int32) (p2 : Int32) (p3 : Int32) : Option (Int32 × RO × LW × SE) := ((M_X0_hasSet N nw p1 p2.toInt64).bind fun r7 => (if r7 = 0 then M_X5_chance_j23 N nw p1 p2 p3 (ro, lw, se) else (if p3 < 0 then M_X5_chance_j23 N nw p1 p2 p3 (ro, lw, se) else (if p3 ≤ (20 : Int32) then ((M_X5_study N ro nw lw se p1).bind fun r32 => ((M_X0_onOf N nw p1).bind fun r44 => ((M_X2_chanceOf N r32.2 r44 p2 p3).bind fun r49 => some (r49.1, ro, r32.1, r49.2)))) else M_X5_chance_j23 N nw p1 p2 p3 (ro, lw, se)))))
theorem kM_X6_takeFrom : kM yX6_takeFrom cX6_takeFrom 3 (none : Option Jvm.ClassFile.FieldType) 1 := ⟨kc_X6_takeFrom, kn_RingsOffModel, by decide +kernel⟩
abbrev R_X6_takeFrom : Room := { frames := 1, cells := 0, slots := 0, locals := 22 }
set_option maxHeartbeats 4000000 in
set_option maxRecDepth 100000 in
theorem c_X6_takeFrom (l : Launch) {ad : Nat → Nat} {ad1 : Nat → Nat} {eK : Option Nat} {eT : Option Nat} {eK1 : Option Nat} {eT1 : Option Nat} {N : Nat} {rm : RM} {rm1 : RM} {out : RM} (h : M_X6_takeFrom N rm rm1 = some out) : gM l yX6_takeFrom cX6_takeFrom 3 (none : Option Jvm.ClassFile.FieldType) R_X6_takeFrom (fun _ => [.ref (ad 0), .ref (ad1 0)]) (fun g => [wRM g ad eK eT rm, wRM g ad1 eK1 eT1 rm1]) (gQv (fun g (_ : Unit) => [wRM g ad eK eT out, wRM g ad1 eK1 eT1 rm1])) := by
  refine gM.ofv (by decide +kernel) (fun _ => Nat.le_of_ble_eq_true rfl) (fun g p e s m args below meth c A ls Q X hret hw hl => ?_)
  have hx := X.1.1
  have hb := X.1.2.1
  have hl : lv_has ls 3 [(0, .ref (ad 0)), (1, .ref (ad1 0))] := hl
  have L54 : ∀ (n : Nat) (z54 : RM × Int32), lp (M_X6_takeFrom_l54 N rm1) n z54 = some out → ∀ (H : Heap) (locs : List Loc) (ls : Array Slot), gW g A s.heap [wRM g ad eK eT z54.1, wRM g ad1 eK1 eT1 rm1] H locs → lv_has ls 3 [(0, .ref (ad 0)), (1, .ref (ad1 0)), (2, .int z54.2)] → W p l e R_X6_takeFrom s m args below meth c H locs 0 0 Q (F0 m 54 ls []) := by
    refine lp_ind ?_
    intro rec54 ih54
    intro z54 h H locs ls hw hl
    unfold M_X6_takeFrom_l54 at h
    refine lv_iload_n hx hb dX6_takeFrom_54 rfl (lv_at hl 2 rfl) ?_
    refine lv_iconst (v := 4) hx hb dX6_takeFrom_55 (by decide) ?_
    refine lv_icmp_ge (tgt := 95) hx hb dX6_takeFrom_56 (by decide) (fun k56 => ?_) (fun k56 => ?_)
    · have h := itt k56 h
      refine lv_aload_n hx hb dX6_takeFrom_95 rfl (lv_at hl 1 rfl) ?_
      refine RM_g_minutes X hw 1 rfl kf_X6_57 dX6_takeFrom_96 ?_
      refine lv_aload_n hx hb dX6_takeFrom_99 rfl (lv_at hl 0 rfl) ?_
      refine RM_g_minutes X hw 0 rfl kf_X6_57 dX6_takeFrom_100 ?_
      obtain ⟨s103, e103, h⟩ := bnd h
      have e103 := Option.some.inj e103
      refine g_callv0 (isC := [0, 1]) (gn := fun _ => [wRM g ad eK eT s103, wRM g ad1 eK1 eT1 rm1]) (g_runS (isC := [0, 1]) (rest := []) (As := [.ref (ad1 31), .ref (ad 31)]) X hw (c_over l (gs := fun g => [wRM g ad eK eT z54.1, wRM g ad1 eK1 eT1 rm1]) (w := fun g => wRM g ad1 eK1 eT1 rm1) (v := fun g => wRM g ad eK eT z54.1) 1 31 0 31 (fun _ => rfl) (fun _ => rfl) (fun _ => rfl) (fun _ => rfl) (by decide) (by decide)) rfl kM_X6_over kt_X6_over km_X6_326 ⟨(Nat.le_of_ble_eq_true rfl), (Nat.le_of_ble_eq_true rfl)⟩ ⟨(Nat.le_of_ble_eq_true rfl), (Nat.le_of_ble_eq_true rfl)⟩ rfl rfl rfl hl.1 rfl (Nat.le_of_ble_eq_true rfl) dX6_takeFrom_103) hw rfl rfl (fun _ => (Nat.le_of_ble_eq_true rfl)) (fun _ => by rw [← e103]; exact congrArg (fun w => [w, wRM g ad1 eK1 eT1 rm1]) (wRM_o_minutes _)) rfl rfl (fun _ H locs hw => ?_)
      refine lv_aload_n hx hb dX6_takeFrom_106 rfl (lv_at hl 0 rfl) ?_
      refine lv_aload_n hx hb dX6_takeFrom_107 rfl (lv_at hl 1 rfl) ?_
      refine RM_g_movedAll X hw 1 rfl kf_X6_215 dX6_takeFrom_108 ?_
      refine RM_p_movedAll (gs' := [wRM g ad eK eT (RM_s_movedAll s103 (RM_movedAll rm1)), wRM g ad1 eK1 eT1 rm1]) X hw 0 rfl kf_X6_215 dX6_takeFrom_111 rfl (fun H locs hw => ?_)
      refine lv_aload_n hx hb dX6_takeFrom_114 rfl (lv_at hl 0 rfl) ?_
      refine lv_aload_n hx hb dX6_takeFrom_115 rfl (lv_at hl 1 rfl) ?_
      refine RM_g_seed X hw 1 rfl kf_X6_60 dX6_takeFrom_116 ?_
      refine RM_p_seed (gs' := [wRM g ad eK eT (RM_s_seed (RM_s_movedAll s103 (RM_movedAll rm1)) (RM_seed rm1)), wRM g ad1 eK1 eT1 rm1]) X hw 0 rfl kf_X6_60 dX6_takeFrom_119 rfl (fun H locs hw => ?_)
      have h := Option.some.inj h
      subst h
      exact hret () dX6_takeFrom_122 hw
    · have h := itf k56 h
      refine lv_aload_n hx hb dX6_takeFrom_59 rfl (lv_at hl 1 rfl) ?_
      refine RM_g_must X hw 1 rfl kf_X6_51 dX6_takeFrom_60 ?_
      refine lv_iload_n hx hb dX6_takeFrom_63 rfl (lv_at hl 2 rfl) ?_
      obtain ⟨q64, h⟩ := chk h
      have o64 := Nat.not_le.mp (fun z => q64 (Or.inr z))
      refine RM_q_must X hw 1 rfl q64 dX6_takeFrom_64 ?_
      refine lv_aload_n hx hb dX6_takeFrom_65 rfl (lv_at hl 0 rfl) ?_
      refine RM_g_must X hw 0 rfl kf_X6_51 dX6_takeFrom_66 ?_
      refine lv_iload_n hx hb dX6_takeFrom_69 rfl (lv_at hl 2 rfl) ?_
      obtain ⟨q70, h⟩ := chk h
      have o70 := Nat.not_le.mp (fun z => q70 (Or.inr z))
      refine RM_q_must X hw 0 rfl q70 dX6_takeFrom_70 ?_
      obtain ⟨s71, e71, h⟩ := bnd h
      have e71 := Option.some.inj e71
      refine g_callv0 (isC := [0, 1]) (gn := fun _ => [wRM g ad eK eT s71, wRM g ad1 eK1 eT1 rm1]) (g_runS (isC := [0, 1]) (rest := []) (As := [.ref (ad1 (22 + z54.2.toNatClampNeg)), .ref (ad (22 + z54.2.toNatClampNeg))]) X hw (c_over l (gs := fun g => [wRM g ad eK eT z54.1, wRM g ad1 eK1 eT1 rm1]) (w := fun g => wRM g ad1 eK1 eT1 rm1) (v := fun g => wRM g ad eK eT z54.1) 1 (22 + z54.2.toNatClampNeg) 0 (22 + z54.2.toNatClampNeg) (fun _ => rfl) (fun _ => wRM_r_must _ o64) (fun _ => rfl) (fun _ => wRM_r_must _ o70) (by decide) (by decide)) rfl kM_X6_over kt_X6_over km_X6_326 ⟨(Nat.le_of_ble_eq_true rfl), (Nat.le_of_ble_eq_true rfl)⟩ ⟨(Nat.le_of_ble_eq_true rfl), (Nat.le_of_ble_eq_true rfl)⟩ rfl rfl rfl hl.1 rfl (Nat.le_of_ble_eq_true rfl) dX6_takeFrom_71) hw rfl rfl (fun _ => (Nat.le_of_ble_eq_true rfl)) (fun _ => by rw [← e71]; exact congrArg (fun w => [w, wRM g ad1 eK1 eT1 rm1]) (wRM_s_must _ _ o70)) rfl rfl (fun _ H locs hw => ?_)
      refine lv_aload_n hx hb dX6_takeFrom_74 rfl (lv_at hl 1 rfl) ?_
      refine RM_g_not X hw 1 rfl kf_X6_54 dX6_takeFrom_75 ?_
      refine lv_iload_n hx hb dX6_takeFrom_78 rfl (lv_at hl 2 rfl) ?_
      obtain ⟨q79, h⟩ := chk h
      have o79 := Nat.not_le.mp (fun z => q79 (Or.inr z))
      refine RM_q_not X hw 1 rfl q79 dX6_takeFrom_79 ?_
      refine lv_aload_n hx hb dX6_takeFrom_80 rfl (lv_at hl 0 rfl) ?_
      refine RM_g_not X hw 0 rfl kf_X6_54 dX6_takeFrom_81 ?_
      refine lv_iload_n hx hb dX6_takeFrom_84 rfl (lv_at hl 2 rfl) ?_
      obtain ⟨q85, h⟩ := chk h
      have o85 := Nat.not_le.mp (fun z => q85 (Or.inr z))
      refine RM_q_not X hw 0 rfl q85 dX6_takeFrom_85 ?_
      obtain ⟨s86, e86, h⟩ := bnd h
      have e86 := Option.some.inj e86
      refine g_callv0 (isC := [0, 1]) (gn := fun _ => [wRM g ad eK eT s86, wRM g ad1 eK1 eT1 rm1]) (g_runS (isC := [0, 1]) (rest := []) (As := [.ref (ad1 (27 + z54.2.toNatClampNeg)), .ref (ad (27 + z54.2.toNatClampNeg))]) X hw (c_over l (gs := fun g => [wRM g ad eK eT s71, wRM g ad1 eK1 eT1 rm1]) (w := fun g => wRM g ad1 eK1 eT1 rm1) (v := fun g => wRM g ad eK eT s71) 1 (27 + z54.2.toNatClampNeg) 0 (27 + z54.2.toNatClampNeg) (fun _ => rfl) (fun _ => wRM_r_not _ o79) (fun _ => rfl) (fun _ => wRM_r_not _ o85) (by decide) (by decide)) rfl kM_X6_over kt_X6_over km_X6_326 ⟨(Nat.le_of_ble_eq_true rfl), (Nat.le_of_ble_eq_true rfl)⟩ ⟨(Nat.le_of_ble_eq_true rfl), (Nat.le_of_ble_eq_true rfl)⟩ rfl rfl rfl hl.1 rfl (Nat.le_of_ble_eq_true rfl) dX6_takeFrom_86) hw rfl rfl (fun _ => (Nat.le_of_ble_eq_true rfl)) (fun _ => by rw [← e86]; exact congrArg (fun w => [w, wRM g ad1 eK1 eT1 rm1]) (wRM_s_not _ _ o85)) rfl rfl (fun _ H locs hw => ?_)
      refine lv_iinc (v := (z54.2 + 1)) (lv' := [(2, .int (z54.2 + 1)), (0, .ref (ad 0)), (1, .ref (ad1 0))]) hx hb dX6_takeFrom_89 hl (k := 2) rfl rfl (by decide) rfl (fun ls hl => ?_)
      refine lv_goto (tgt := 54) hx hb dX6_takeFrom_92 (by decide) ?_
      exact ih54 _ h _ _ _ hw (lv_sub hl [1, 2, 0] rfl)
  unfold M_X6_takeFrom at h
  refine lv_aload_n hx hb dX6_takeFrom_0 rfl (lv_at hl 0 rfl) ?_
  refine lv_aload_n hx hb dX6_takeFrom_1 rfl (lv_at hl 1 rfl) ?_
  refine RM_g_bars X hw 1 rfl kf_X6_79 dX6_takeFrom_2 ?_
  refine RM_p_bars (gs' := [wRM g ad eK eT (RM_s_bars rm (RM_bars rm1)), wRM g ad1 eK1 eT1 rm1]) X hw 0 rfl kf_X6_79 dX6_takeFrom_5 rfl (fun H locs hw => ?_)
  refine lv_aload_n hx hb dX6_takeFrom_8 rfl (lv_at hl 1 rfl) ?_
  refine RM_g_kind X hw 1 rfl kf_X6_37 dX6_takeFrom_9 ?_
  refine lv_aload_n hx hb dX6_takeFrom_12 rfl (lv_at hl 0 rfl) ?_
  refine RM_g_kind X hw 0 rfl kf_X6_37 dX6_takeFrom_13 ?_
  obtain ⟨s16, e16, h⟩ := bnd h
  have e16 := Option.some.inj e16
  refine g_callv0 (isC := [0, 1]) (gn := fun _ => [wRM g ad eK eT s16, wRM g ad1 eK1 eT1 rm1]) (g_runS (isC := [0, 1]) (rest := []) (As := [.ref (ad1 17), .ref (ad 17)]) X hw (c_over l (gs := fun g => [wRM g ad eK eT (RM_s_bars rm (RM_bars rm1)), wRM g ad1 eK1 eT1 rm1]) (w := fun g => wRM g ad1 eK1 eT1 rm1) (v := fun g => wRM g ad eK eT (RM_s_bars rm (RM_bars rm1))) 1 17 0 17 (fun _ => rfl) (fun _ => rfl) (fun _ => rfl) (fun _ => rfl) (by decide) (by decide)) rfl kM_X6_over kt_X6_over km_X6_326 ⟨(Nat.le_of_ble_eq_true rfl), (Nat.le_of_ble_eq_true rfl)⟩ ⟨(Nat.le_of_ble_eq_true rfl), (Nat.le_of_ble_eq_true rfl)⟩ rfl rfl rfl hl.1 rfl (Nat.le_of_ble_eq_true rfl) dX6_takeFrom_16) hw rfl rfl (fun _ => (Nat.le_of_ble_eq_true rfl)) (fun _ => by rw [← e16]; exact congrArg (fun w => [w, wRM g ad1 eK1 eT1 rm1]) (wRM_o_kind _)) rfl rfl (fun _ H locs hw => ?_)
  refine lv_aload_n hx hb dX6_takeFrom_19 rfl (lv_at hl 1 rfl) ?_
  refine RM_g_size X hw 1 rfl kf_X6_40 dX6_takeFrom_20 ?_
  refine lv_aload_n hx hb dX6_takeFrom_23 rfl (lv_at hl 0 rfl) ?_
  refine RM_g_size X hw 0 rfl kf_X6_40 dX6_takeFrom_24 ?_
  obtain ⟨s27, e27, h⟩ := bnd h
  have e27 := Option.some.inj e27
  refine g_callv0 (isC := [0, 1]) (gn := fun _ => [wRM g ad eK eT s27, wRM g ad1 eK1 eT1 rm1]) (g_runS (isC := [0, 1]) (rest := []) (As := [.ref (ad1 18), .ref (ad 18)]) X hw (c_over l (gs := fun g => [wRM g ad eK eT s16, wRM g ad1 eK1 eT1 rm1]) (w := fun g => wRM g ad1 eK1 eT1 rm1) (v := fun g => wRM g ad eK eT s16) 1 18 0 18 (fun _ => rfl) (fun _ => rfl) (fun _ => rfl) (fun _ => rfl) (by decide) (by decide)) rfl kM_X6_over kt_X6_over km_X6_326 ⟨(Nat.le_of_ble_eq_true rfl), (Nat.le_of_ble_eq_true rfl)⟩ ⟨(Nat.le_of_ble_eq_true rfl), (Nat.le_of_ble_eq_true rfl)⟩ rfl rfl rfl hl.1 rfl (Nat.le_of_ble_eq_true rfl) dX6_takeFrom_27) hw rfl rfl (fun _ => (Nat.le_of_ble_eq_true rfl)) (fun _ => by rw [← e27]; exact congrArg (fun w => [w, wRM g ad1 eK1 eT1 rm1]) (wRM_o_size _)) rfl rfl (fun _ H locs hw => ?_)
  refine lv_aload_n hx hb dX6_takeFrom_30 rfl (lv_at hl 1 rfl) ?_
  refine RM_g_on X hw 1 rfl kf_X6_43 dX6_takeFrom_31 ?_
  refine lv_aload_n hx hb dX6_takeFrom_34 rfl (lv_at hl 0 rfl) ?_
  refine RM_g_on X hw 0 rfl kf_X6_43 dX6_takeFrom_35 ?_
  obtain ⟨s38, e38, h⟩ := bnd h
  have e38 := Option.some.inj e38
  refine g_callv0 (isC := [0, 1]) (gn := fun _ => [wRM g ad eK eT s38, wRM g ad1 eK1 eT1 rm1]) (g_runS (isC := [0, 1]) (rest := []) (As := [.ref (ad1 19), .ref (ad 19)]) X hw (c_over l (gs := fun g => [wRM g ad eK eT s27, wRM g ad1 eK1 eT1 rm1]) (w := fun g => wRM g ad1 eK1 eT1 rm1) (v := fun g => wRM g ad eK eT s27) 1 19 0 19 (fun _ => rfl) (fun _ => rfl) (fun _ => rfl) (fun _ => rfl) (by decide) (by decide)) rfl kM_X6_over kt_X6_over km_X6_326 ⟨(Nat.le_of_ble_eq_true rfl), (Nat.le_of_ble_eq_true rfl)⟩ ⟨(Nat.le_of_ble_eq_true rfl), (Nat.le_of_ble_eq_true rfl)⟩ rfl rfl rfl hl.1 rfl (Nat.le_of_ble_eq_true rfl) dX6_takeFrom_38) hw rfl rfl (fun _ => (Nat.le_of_ble_eq_true rfl)) (fun _ => by rw [← e38]; exact congrArg (fun w => [w, wRM g ad1 eK1 eT1 rm1]) (wRM_o_on _)) rfl rfl (fun _ H locs hw => ?_)
  refine lv_aload_n hx hb dX6_takeFrom_41 rfl (lv_at hl 1 rfl) ?_
  refine RM_g_stuck X hw 1 rfl kf_X6_46 dX6_takeFrom_42 ?_
  refine lv_aload_n hx hb dX6_takeFrom_45 rfl (lv_at hl 0 rfl) ?_
  refine RM_g_stuck X hw 0 rfl kf_X6_46 dX6_takeFrom_46 ?_
  obtain ⟨s49, e49, h⟩ := bnd h
  have e49 := Option.some.inj e49
  refine g_callv0 (isC := [0, 1]) (gn := fun _ => [wRM g ad eK eT s49, wRM g ad1 eK1 eT1 rm1]) (g_runS (isC := [0, 1]) (rest := []) (As := [.ref (ad1 20), .ref (ad 20)]) X hw (c_over l (gs := fun g => [wRM g ad eK eT s38, wRM g ad1 eK1 eT1 rm1]) (w := fun g => wRM g ad1 eK1 eT1 rm1) (v := fun g => wRM g ad eK eT s38) 1 20 0 20 (fun _ => rfl) (fun _ => rfl) (fun _ => rfl) (fun _ => rfl) (by decide) (by decide)) rfl kM_X6_over kt_X6_over km_X6_326 ⟨(Nat.le_of_ble_eq_true rfl), (Nat.le_of_ble_eq_true rfl)⟩ ⟨(Nat.le_of_ble_eq_true rfl), (Nat.le_of_ble_eq_true rfl)⟩ rfl rfl rfl hl.1 rfl (Nat.le_of_ble_eq_true rfl) dX6_takeFrom_49) hw rfl rfl (fun _ => (Nat.le_of_ble_eq_true rfl)) (fun _ => by rw [← e49]; exact congrArg (fun w => [w, wRM g ad1 eK1 eT1 rm1]) (wRM_o_stuck _)) rfl rfl (fun _ H locs hw => ?_)
  refine lv_iconst (v := 0) hx hb dX6_takeFrom_52 (by decide) ?_
  refine lv_istore_n (lv' := [(2, .int (0 : Int32)), (0, .ref (ad 0)), (1, .ref (ad1 0))]) hx hb dX6_takeFrom_53 rfl hl (by decide) rfl (fun ls hl => ?_)
  exact L54 N _ h _ _ _ hw (lv_sub hl [1, 2, 0] rfl)
theorem kM_X6_lone : kM yX6_lone cX6_lone 3 (some (FieldType.object "RingsOffModel")) 2 := ⟨kc_X6_lone, kn_RingsOffModel, by decide +kernel⟩
abbrev R_X6_lone_s : Room := { frames := 2, cells := 0, slots := 0, locals := 61 }
set_option maxHeartbeats 4000000 in
set_option maxRecDepth 100000 in
theorem c_X6_lone_s (l : Launch) {ad : Nat → Nat} {adT : Nat → Nat} {eK : Option Nat} {eK1 : Option Nat} {eT1 : Option Nat} {N : Nat} {rm : RM} {rt : RM} {p1 : Int32} {p2 : Int32} {out : RM} (h : M_X6_lone_s N rm rt p1 p2 = some out) : gM l yX6_lone cX6_lone 3 (some (FieldType.object "RingsOffModel")) R_X6_lone_s (fun _ => [.ref (ad 0), .int p1, .int p2]) (fun g => [wRM g ad eK (some (adT 0)) rm, wRM g adT eK1 eT1 rt]) (gQr (fun (_ : Unit) => adT 0) (fun g (_ : Unit) => [wRM g ad eK (some (adT 0)) rm, wRM g adT eK1 eT1 out])) := by
  refine gM.ofr (by decide +kernel) (fun _ => Nat.le_of_ble_eq_true rfl) (fun g p e s m args below meth c A ls Q X hret hw hl => ?_)
  have hx := X.1.1
  have hb := X.1.2.1
  have hl : lv_has ls 3 [(0, .ref (ad 0)), (1, .int p1), (2, .int p2)] := hl
  have J18 : ∀ (z18 : RM), M_X6_lone_s_j18 N rm p1 p2 z18 = some out → ∀ (H : Heap) (locs : List Loc) (ls : Array Slot), gW g A s.heap [wRM g ad eK (some (adT 0)) rm, wRM g adT eK1 eT1 z18] H locs → lv_has ls 3 [(0, .ref (ad 0)), (1, .int p1), (2, .int p2)] → W p l e R_X6_lone_s s m args below meth c H locs 0 0 Q (F0 m 18 ls []) := by
    intro z18 h H locs ls hw hl
    unfold M_X6_lone_s_j18 at h
    refine lv_aload_n hx hb dX6_lone_18 rfl (lv_at hl 0 rfl) ?_
    refine RM_g_tried X hw 0 rfl kf_X6_241 dX6_lone_19 ?_
    refine lv_aload_n hx hb dX6_lone_22 rfl (lv_at hl 0 rfl) ?_
    obtain ⟨r23, h23, h⟩ := bnd h
    refine g_callv0 (isC := [1, 0]) (gn := fun _ => [wRM g ad eK (some (adT 0)) rm, wRM g adT eK1 eT1 r23]) (g_runV (isC := [1, 0]) (rest := []) (As := [.ref (ad 0)]) X hw (c_X6_takeFrom l (ad := adT) (eK := eK1) (eT := eT1) (ad1 := ad) (eK1 := eK) (eT1 := (some (adT 0))) h23) rfl kM_X6_takeFrom ki_X6_takeFrom ks_X6_takeFrom km_X6_246 ⟨(Nat.le_of_ble_eq_true rfl), (Nat.le_of_ble_eq_true rfl)⟩ ⟨(Nat.le_of_ble_eq_true rfl), (Nat.le_of_ble_eq_true rfl)⟩ rfl rfl ⟨_, _, _, _, rfl, rfl, rfl, rfl⟩ rfl hl.1 rfl (Nat.le_of_ble_eq_true rfl) dX6_lone_23) hw rfl rfl (fun _ => (Nat.le_of_ble_eq_true rfl)) (fun _ => rfl) rfl rfl (fun _ H locs hw => ?_)
    refine lv_aload_n hx hb dX6_lone_26 rfl (lv_at hl 0 rfl) ?_
    refine RM_g_tried X hw 0 rfl kf_X6_241 dX6_lone_27 ?_
    refine lv_iconst (v := 0) hx hb dX6_lone_30 (by decide) ?_
    refine RM_p_bars (gs' := [wRM g ad eK (some (adT 0)) rm, wRM g adT eK1 eT1 (RM_s_bars r23 (0 : Int32))]) X hw 1 rfl kf_X6_79 dX6_lone_31 rfl (fun H locs hw => ?_)
    refine lv_aload_n hx hb dX6_lone_34 rfl (lv_at hl 0 rfl) ?_
    refine RM_g_tried X hw 0 rfl kf_X6_241 dX6_lone_35 ?_
    refine lv_iload_n hx hb dX6_lone_38 rfl (lv_at hl 1 rfl) ?_
    refine lv_iload_n hx hb dX6_lone_39 rfl (lv_at hl 2 rfl) ?_
    obtain ⟨r40, h40, h⟩ := bnd h
    refine g_callv0 (isC := [1]) (gn := fun _ => [wRM g ad eK (some (adT 0)) rm, wRM g adT eK1 eT1 r40]) (g_runV (isC := [1]) (rest := []) (As := [.int p1, .int p2]) X hw (c_X6_addBar l (ad := adT) (eK := eK1) (eT := eT1) h40) rfl kM_X6_addBar ki_X6_addBar ks_X6_addBar km_X6_140 ⟨(Nat.le_of_ble_eq_true rfl), (Nat.le_of_ble_eq_true rfl)⟩ ⟨(Nat.le_of_ble_eq_true rfl), (Nat.le_of_ble_eq_true rfl)⟩ rfl rfl ⟨_, _, _, _, rfl, rfl, rfl, rfl⟩ rfl hl.1 rfl (Nat.le_of_ble_eq_true rfl) dX6_lone_40) hw rfl rfl (fun _ => (Nat.le_of_ble_eq_true rfl)) (fun _ => rfl) rfl rfl (fun _ H locs hw => ?_)
    refine lv_aload_n hx hb dX6_lone_43 rfl (lv_at hl 0 rfl) ?_
    refine RM_g_tried X hw 0 rfl kf_X6_241 dX6_lone_44 ?_
    have h := Option.some.inj h
    subst h
    exact hret () dX6_lone_47 rfl hw
  unfold M_X6_lone_s at h
  refine lv_aload_n hx hb dX6_lone_0 rfl (lv_at hl 0 rfl) ?_
  refine RM_g_tried X hw 0 rfl kf_X6_241 dX6_lone_1 ?_
  refine lv_ifnonnull (tgt := 18) hx hb dX6_lone_4 (by decide) ?_
  exact J18 _ h _ _ _ hw (lv_sub hl [0, 1, 2] rfl)
abbrev R_X6_lone_n : Room := { frames := 2, cells := 37, slots := 2859, locals := 61 }
set_option maxHeartbeats 4000000 in
set_option maxRecDepth 100000 in
theorem c_X6_lone_n (l : Launch) {ad : Nat → Nat} {eK : Option Nat} {N : Nat} {rm : RM} {p1 : Int32} {p2 : Int32} {out : RM} (h : M_X6_lone_n N rm p1 p2 = some out) : gM l yX6_lone cX6_lone 3 (some (FieldType.object "RingsOffModel")) R_X6_lone_n (fun _ => [.ref (ad 0), .int p1, .int p2]) (fun g => [wRM g ad eK none rm]) (gQr (fun (u : Nat → Nat) => u 0) (fun g (u : Nat → Nat) => [wRM g ad eK (some (u 0)) rm, wRM g u none none out])) := by
  refine gM.ofr (by decide +kernel) (fun _ => Nat.le_of_ble_eq_true rfl) (fun g p e s m args below meth c A ls Q X hret hw hl => ?_)
  have hx := X.1.1
  have hb := X.1.2.1
  have hl : lv_has ls 3 [(0, .ref (ad 0)), (1, .int p1), (2, .int p2)] := hl
  have J100018 : ∀ (z100018 : RM), M_X6_lone_n_j100018 N rm p1 p2 z100018 = some out → ∀ u : Nat → Nat, ∀ (H : Heap) (locs : List Loc) (ls : Array Slot), gW g A s.heap [wRM g ad eK (some (u 0)) rm, wRM g u none none z100018] H locs → lv_has ls 3 [(0, .ref (ad 0)), (1, .int p1), (2, .int p2)] → W p l e R_X6_lone_n s m args below meth c H locs 37 2859 Q (F0 m 18 ls []) := by
    intro z100018 h u H locs ls hw hl
    unfold M_X6_lone_n_j100018 at h
    refine lv_aload_n hx hb dX6_lone_18 rfl (lv_at hl 0 rfl) ?_
    refine RM_g_tried X hw 0 rfl kf_X6_241 dX6_lone_19 ?_
    refine lv_aload_n hx hb dX6_lone_22 rfl (lv_at hl 0 rfl) ?_
    obtain ⟨r23, h23, h⟩ := bnd h
    refine g_callv0 (isC := [1, 0]) (gn := fun _ => [wRM g ad eK (some (u 0)) rm, wRM g u none none r23]) (g_runV (isC := [1, 0]) (rest := []) (As := [.ref (ad 0)]) X hw (c_X6_takeFrom l (ad := u) (eK := none) (eT := none) (ad1 := ad) (eK1 := eK) (eT1 := (some (u 0))) h23) rfl kM_X6_takeFrom ki_X6_takeFrom ks_X6_takeFrom km_X6_246 ⟨(Nat.le_of_ble_eq_true rfl), (Nat.le_of_ble_eq_true rfl)⟩ ⟨(Nat.le_of_ble_eq_true rfl), (Nat.le_of_ble_eq_true rfl)⟩ rfl rfl ⟨_, _, _, _, rfl, rfl, rfl, rfl⟩ rfl hl.1 rfl (Nat.le_of_ble_eq_true rfl) dX6_lone_23) hw rfl rfl (fun _ => (Nat.le_of_ble_eq_true rfl)) (fun _ => rfl) rfl rfl (fun _ H locs hw => ?_)
    refine lv_aload_n hx hb dX6_lone_26 rfl (lv_at hl 0 rfl) ?_
    refine RM_g_tried X hw 0 rfl kf_X6_241 dX6_lone_27 ?_
    refine lv_iconst (v := 0) hx hb dX6_lone_30 (by decide) ?_
    refine RM_p_bars (gs' := [wRM g ad eK (some (u 0)) rm, wRM g u none none (RM_s_bars r23 (0 : Int32))]) X hw 1 rfl kf_X6_79 dX6_lone_31 rfl (fun H locs hw => ?_)
    refine lv_aload_n hx hb dX6_lone_34 rfl (lv_at hl 0 rfl) ?_
    refine RM_g_tried X hw 0 rfl kf_X6_241 dX6_lone_35 ?_
    refine lv_iload_n hx hb dX6_lone_38 rfl (lv_at hl 1 rfl) ?_
    refine lv_iload_n hx hb dX6_lone_39 rfl (lv_at hl 2 rfl) ?_
    obtain ⟨r40, h40, h⟩ := bnd h
    refine g_callv0 (isC := [1]) (gn := fun _ => [wRM g ad eK (some (u 0)) rm, wRM g u none none r40]) (g_runV (isC := [1]) (rest := []) (As := [.int p1, .int p2]) X hw (c_X6_addBar l (ad := u) (eK := none) (eT := none) h40) rfl kM_X6_addBar ki_X6_addBar ks_X6_addBar km_X6_140 ⟨(Nat.le_of_ble_eq_true rfl), (Nat.le_of_ble_eq_true rfl)⟩ ⟨(Nat.le_of_ble_eq_true rfl), (Nat.le_of_ble_eq_true rfl)⟩ rfl rfl ⟨_, _, _, _, rfl, rfl, rfl, rfl⟩ rfl hl.1 rfl (Nat.le_of_ble_eq_true rfl) dX6_lone_40) hw rfl rfl (fun _ => (Nat.le_of_ble_eq_true rfl)) (fun _ => rfl) rfl rfl (fun _ H locs hw => ?_)
    refine lv_aload_n hx hb dX6_lone_43 rfl (lv_at hl 0 rfl) ?_
    refine RM_g_tried X hw 0 rfl kf_X6_241 dX6_lone_44 ?_
    have h := Option.some.inj h
    subst h
    exact hret u dX6_lone_47 rfl hw
  unfold M_X6_lone_n at h
  refine lv_aload_n hx hb dX6_lone_0 rfl (lv_at hl 0 rfl) ?_
  refine RM_g_tried X hw 0 rfl kf_X6_241 dX6_lone_1 ?_
  refine lv_ifnonnullN hx hb dX6_lone_4 ?_
  refine lv_aload_n hx hb dX6_lone_7 rfl (lv_at hl 0 rfl) ?_
  refine g_newRM X hw kl_X6_8 (Nat.le_of_ble_eq_true rfl) (Nat.le_of_ble_eq_true rfl) dX6_lone_8 (fun q8 H locs hw => ?_)
  refine lv_dup hx hb dX6_lone_11 rfl ?_
  refine g_callv (isC := [1]) (gn := fun u12 => [wRM g ad eK none rm, wRM g (adq q8 u12) none none RM0]) (g_runI (isC := [1]) (rest := [.ref q8, .ref (ad 0)]) (As := []) X hw (c_X6_init l (q := q8)) rfl kM_X6_init ki_X6_init rfl km_X6_245 ⟨(Nat.le_of_ble_eq_true rfl), (Nat.le_of_ble_eq_true rfl)⟩ ⟨(Nat.le_of_ble_eq_true rfl), (Nat.le_of_ble_eq_true rfl)⟩ rfl rfl rfl hl.1 rfl (Nat.le_of_ble_eq_true rfl) dX6_lone_12) hw rfl rfl (fun _ => (Nat.le_of_ble_eq_true rfl)) (fun _ => rfl) (fun u12 H locs hw => ?_)
  refine W.widen (k := 37) (n := 2859) (Nat.le_of_ble_eq_true rfl) (Nat.le_of_ble_eq_true rfl) ?_
  refine RM_p_tried (gs' := [wRM g ad eK (some ((adq q8 u12) 0)) rm, wRM g (adq q8 u12) none none RM0]) X hw 0 rfl kf_X6_241 dX6_lone_15 rfl (fun H locs hw => ?_)
  exact J100018 _ h _ _ _ _ hw (lv_sub hl [0, 1, 2] rfl)
theorem kM_X6_save : kM yX6_save cX6_save 3 (some FieldType.int) 1 := ⟨kc_X6_save, kn_RingsOffModel, by decide +kernel⟩
abbrev R_X6_save_s : Room := { frames := 6, cells := 0, slots := 0, locals := 141 }
set_option maxHeartbeats 4000000 in
set_option maxRecDepth 100000 in
theorem c_X6_save_s (l : Launch) {ad : Nat → Nat} {adT : Nat → Nat} {eK : Option Nat} {eK1 : Option Nat} {eT1 : Option Nat} {N : Nat} {rm : RM} {rt : RM} {p1 : Int32} {out : Int32 × RM × RM} (h : M_X6_save_s N rm rt p1 = some out) : gM l yX6_save cX6_save 3 (some FieldType.int) R_X6_save_s (fun _ => [.ref (ad 0), .int p1]) (fun g => [wRM g ad eK (some (adT 0)) rm, wRM g adT eK1 eT1 rt]) (gQi (fun (_ : Unit) => out.1) (fun g (_ : Unit) => [wRM g ad eK (some (adT 0)) out.2.1, wRM g adT eK1 eT1 out.2.2])) := by
  refine gM.ofi (by decide +kernel) (fun _ => Nat.le_of_ble_eq_true rfl) (fun g p e s m args below meth c A ls Q X hret hw hl => ?_)
  have hx := X.1.1
  have hb := X.1.2.1
  have hl : lv_has ls 3 [(0, .ref (ad 0)), (1, .int p1)] := hl
  unfold M_X6_save_s at h
  refine lv_iload_n hx hb dX6_save_0 rfl (lv_at hl 1 rfl) ?_
  refine lv_i2l (v := p1.toInt64) hx hb dX6_save_1 rfl ?_
  refine lv_lconst (v := 1) hx hb dX6_save_2 (by decide) ?_
  refine lv_ldc2 hx hb X.1.2.2.2.1 (gK1 X _ kq_X6_138) dX6_save_3 ?_
  obtain ⟨r6, h6, h⟩ := bnd h
  refine g_calli0 (isC := []) (gn := fun _ => [wRM g ad eK (some (adT 0)) rm, wRM g adT eK1 eT1 rt]) (g_runS (isC := []) (rest := []) (As := [.long p1.toInt64, .long (1 : Int64), .long (10 : Int64)]) X hw (c_X6_in l h6) rfl kM_X6_in kt_X6_in km_X6_82 ⟨(Nat.le_of_ble_eq_true rfl), (Nat.le_of_ble_eq_true rfl)⟩ ⟨(Nat.le_of_ble_eq_true rfl), (Nat.le_of_ble_eq_true rfl)⟩ rfl rfl rfl hl.1 rfl (Nat.le_of_ble_eq_true rfl) dX6_save_6) hw rfl rfl (fun _ => (Nat.le_of_ble_eq_true rfl)) (fun _ => rfl) rfl rfl (fun _ H locs hw => ?_)
  refine lv_if_ne (tgt := 19) hx hb dX6_save_9 (by decide) (fun k9 => ?_) (fun k9 => ?_)
  · have h := itt k9 h
    refine lv_aload_n hx hb dX6_save_19 rfl (lv_at hl 0 rfl) ?_
    refine lv_iconst (v := 1) hx hb dX6_save_20 (by decide) ?_
    refine lv_iload_n hx hb dX6_save_21 rfl (lv_at hl 1 rfl) ?_
    obtain ⟨r22, h22, h⟩ := bnd h
    refine g_callr0 (isC := [0, 1]) (gn := fun _ => [wRM g ad eK (some (adT 0)) rm, wRM g adT eK1 eT1 r22]) (g_runV (isC := [0, 1]) (rest := []) (As := [.int (1 : Int32), .int p1]) X hw (c_X6_lone_s l (ad := ad) (eK := eK) (adT := adT) (eK1 := eK1) (eT1 := eT1) h22) rfl kM_X6_lone ki_X6_lone ks_X6_lone km_X6_279 ⟨(Nat.le_of_ble_eq_true rfl), (Nat.le_of_ble_eq_true rfl)⟩ ⟨(Nat.le_of_ble_eq_true rfl), (Nat.le_of_ble_eq_true rfl)⟩ rfl rfl ⟨_, _, _, _, rfl, rfl, rfl, rfl⟩ rfl hl.1 rfl (Nat.le_of_ble_eq_true rfl) dX6_save_22) hw rfl rfl (fun _ => (Nat.le_of_ble_eq_true rfl)) (fun _ => rfl) rfl rfl (fun _ H locs hw => ?_)
    refine lv_iconst (v := 0) hx hb dX6_save_25 (by decide) ?_
    refine lv_iconst (v := 1) hx hb dX6_save_26 (by decide) ?_
    refine lv_iload_n hx hb dX6_save_27 rfl (lv_at hl 1 rfl) ?_
    refine lv_ishl hx hb dX6_save_28 ?_
    refine lv_iconst (v := 1) hx hb dX6_save_29 (by decide) ?_
    refine lv_isub hx hb dX6_save_30 ?_
    refine lv_iconst (v := 0) hx hb dX6_save_31 (by decide) ?_
    obtain ⟨r32, h32, h⟩ := bnd h
    refine g_calli0 (isC := [1]) (gn := fun _ => [wRM g ad eK (some (adT 0)) rm, wRM g adT eK1 eT1 r32.2]) (g_runV (isC := [1]) (rest := []) (As := [.int (0 : Int32), .int (((1 : Int32) <<< (p1 &&& 31)) - (1 : Int32)), .int (0 : Int32)]) X hw (c_X6_fewestTo l (ad := adT) (eK := eK1) (eT := eT1) h32) rfl kM_X6_fewestTo ki_X6_fewestTo ks_X6_fewestTo km_X6_127 ⟨(Nat.le_of_ble_eq_true rfl), (Nat.le_of_ble_eq_true rfl)⟩ ⟨(Nat.le_of_ble_eq_true rfl), (Nat.le_of_ble_eq_true rfl)⟩ rfl rfl ⟨_, _, _, _, rfl, rfl, rfl, rfl⟩ rfl hl.1 rfl (Nat.le_of_ble_eq_true rfl) dX6_save_32) hw rfl rfl (fun _ => (Nat.le_of_ble_eq_true rfl)) (fun _ => rfl) rfl rfl (fun _ H locs hw => ?_)
    refine lv_istore_n (lv' := [(2, .int r32.1), (0, .ref (ad 0)), (1, .int p1)]) hx hb dX6_save_35 rfl hl (by decide) rfl (fun ls hl => ?_)
    refine lv_iload_n hx hb dX6_save_36 rfl (lv_at hl 0 rfl) ?_
    refine lv_aload_n hx hb dX6_save_37 rfl (lv_at hl 1 rfl) ?_
    refine lv_iconst (v := 2) hx hb dX6_save_38 (by decide) ?_
    refine lv_iload_n hx hb dX6_save_39 rfl (lv_at hl 2 rfl) ?_
    obtain ⟨r40, h40, h⟩ := bnd h
    refine g_callr0 (isC := [0, 1]) (gn := fun _ => [wRM g ad eK (some (adT 0)) rm, wRM g adT eK1 eT1 r40]) (g_runV (isC := [0, 1]) (rest := [.int r32.1]) (As := [.int (2 : Int32), .int p1]) X hw (c_X6_lone_s l (ad := ad) (eK := eK) (adT := adT) (eK1 := eK1) (eT1 := eT1) h40) rfl kM_X6_lone ki_X6_lone ks_X6_lone km_X6_279 ⟨(Nat.le_of_ble_eq_true rfl), (Nat.le_of_ble_eq_true rfl)⟩ ⟨(Nat.le_of_ble_eq_true rfl), (Nat.le_of_ble_eq_true rfl)⟩ rfl rfl ⟨_, _, _, _, rfl, rfl, rfl, rfl⟩ rfl hl.1 rfl (Nat.le_of_ble_eq_true rfl) dX6_save_40) hw rfl rfl (fun _ => (Nat.le_of_ble_eq_true rfl)) (fun _ => rfl) rfl rfl (fun _ H locs hw => ?_)
    refine lv_iconst (v := 0) hx hb dX6_save_43 (by decide) ?_
    refine lv_iconst (v := 1) hx hb dX6_save_44 (by decide) ?_
    refine lv_iload_n hx hb dX6_save_45 rfl (lv_at hl 2 rfl) ?_
    refine lv_ishl hx hb dX6_save_46 ?_
    refine lv_iconst (v := 1) hx hb dX6_save_47 (by decide) ?_
    refine lv_isub hx hb dX6_save_48 ?_
    refine lv_iconst (v := 0) hx hb dX6_save_49 (by decide) ?_
    obtain ⟨r50, h50, h⟩ := bnd h
    refine g_calli0 (isC := [1]) (gn := fun _ => [wRM g ad eK (some (adT 0)) rm, wRM g adT eK1 eT1 r50.2]) (g_runV (isC := [1]) (rest := [.int r32.1]) (As := [.int (0 : Int32), .int (((1 : Int32) <<< (p1 &&& 31)) - (1 : Int32)), .int (0 : Int32)]) X hw (c_X6_fewestTo l (ad := adT) (eK := eK1) (eT := eT1) h50) rfl kM_X6_fewestTo ki_X6_fewestTo ks_X6_fewestTo km_X6_127 ⟨(Nat.le_of_ble_eq_true rfl), (Nat.le_of_ble_eq_true rfl)⟩ ⟨(Nat.le_of_ble_eq_true rfl), (Nat.le_of_ble_eq_true rfl)⟩ rfl rfl ⟨_, _, _, _, rfl, rfl, rfl, rfl⟩ rfl hl.1 rfl (Nat.le_of_ble_eq_true rfl) dX6_save_50) hw rfl rfl (fun _ => (Nat.le_of_ble_eq_true rfl)) (fun _ => rfl) rfl rfl (fun _ H locs hw => ?_)
    refine lv_isub hx hb dX6_save_53 ?_
    have h := Option.some.inj h
    subst h
    exact hret () dX6_save_54 rfl hw
  · have h := itf (fun z => z k9) h
    refine lv_aload_n hx hb dX6_save_12 rfl (lv_at hl 0 rfl) ?_
    refine lv_bipush (v := -2) hx hb dX6_save_13 (by decide) ?_
    obtain ⟨r15, h15, h⟩ := bnd h
    refine g_calli0 (isC := [0]) (gn := fun _ => [wRM g ad eK (some (adT 0)) r15.2, wRM g adT eK1 eT1 rt]) (g_runV (isC := [0]) (rest := []) (As := [.int (-2 : Int32)]) X hw (c_X6_refuse l (ad := ad) (eK := eK) (eT := (some (adT 0))) h15) rfl kM_X6_refuse ki_X6_refuse ks_X6_refuse km_X6_96 ⟨(Nat.le_of_ble_eq_true rfl), (Nat.le_of_ble_eq_true rfl)⟩ ⟨(Nat.le_of_ble_eq_true rfl), (Nat.le_of_ble_eq_true rfl)⟩ rfl rfl ⟨_, _, _, _, rfl, rfl, rfl, rfl⟩ rfl hl.1 rfl (Nat.le_of_ble_eq_true rfl) dX6_save_15) hw rfl rfl (fun _ => (Nat.le_of_ble_eq_true rfl)) (fun _ => rfl) rfl rfl (fun _ H locs hw => ?_)
    have h := Option.some.inj h
    subst h
    exact hret () dX6_save_18 rfl hw
abbrev R_X6_save_n : Room := { frames := 6, cells := 37, slots := 2859, locals := 141 }
set_option maxHeartbeats 4000000 in
set_option maxRecDepth 100000 in
theorem c_X6_save_n (l : Launch) {ad : Nat → Nat} {eK : Option Nat} {N : Nat} {rm : RM} {p1 : Int32} {out : Int32 × RM × Option RM} (h : M_X6_save_n N rm p1 = some out) : gM l yX6_save cX6_save 3 (some FieldType.int) R_X6_save_n (fun _ => [.ref (ad 0), .int p1]) (fun g => [wRM g ad eK none rm]) (gQi (fun (u : Nat → Nat) => out.1) (fun g (u : Nat → Nat) => oT g ad eK out.2.1 u out.2.2)) := by
  refine gM.ofi (by decide +kernel) (fun _ => Nat.le_of_ble_eq_true rfl) (fun g p e s m args below meth c A ls Q X hret hw hl => ?_)
  have hx := X.1.1
  have hb := X.1.2.1
  have hl : lv_has ls 3 [(0, .ref (ad 0)), (1, .int p1)] := hl
  unfold M_X6_save_n at h
  refine lv_iload_n hx hb dX6_save_0 rfl (lv_at hl 1 rfl) ?_
  refine lv_i2l (v := p1.toInt64) hx hb dX6_save_1 rfl ?_
  refine lv_lconst (v := 1) hx hb dX6_save_2 (by decide) ?_
  refine lv_ldc2 hx hb X.1.2.2.2.1 (gK1 X _ kq_X6_138) dX6_save_3 ?_
  obtain ⟨r6, h6, h⟩ := bnd h
  refine g_calli0 (isC := []) (gn := fun _ => [wRM g ad eK none rm]) (g_runS (isC := []) (rest := []) (As := [.long p1.toInt64, .long (1 : Int64), .long (10 : Int64)]) X hw (c_X6_in l h6) rfl kM_X6_in kt_X6_in km_X6_82 ⟨(Nat.le_of_ble_eq_true rfl), (Nat.le_of_ble_eq_true rfl)⟩ ⟨(Nat.le_of_ble_eq_true rfl), (Nat.le_of_ble_eq_true rfl)⟩ rfl rfl rfl hl.1 rfl (Nat.le_of_ble_eq_true rfl) dX6_save_6) hw rfl rfl (fun _ => (Nat.le_of_ble_eq_true rfl)) (fun _ => rfl) rfl rfl (fun _ H locs hw => ?_)
  refine lv_if_ne (tgt := 19) hx hb dX6_save_9 (by decide) (fun k9 => ?_) (fun k9 => ?_)
  · have h := itt k9 h
    refine lv_aload_n hx hb dX6_save_19 rfl (lv_at hl 0 rfl) ?_
    refine lv_iconst (v := 1) hx hb dX6_save_20 (by decide) ?_
    refine lv_iload_n hx hb dX6_save_21 rfl (lv_at hl 1 rfl) ?_
    obtain ⟨r22, h22, h⟩ := bnd h
    refine g_callr (isC := [0]) (gn := fun u22 => [wRM g ad eK (some (u22 0)) rm, wRM g u22 none none r22]) (g_runV (isC := [0]) (rest := []) (As := [.int (1 : Int32), .int p1]) X hw (c_X6_lone_n l (ad := ad) (eK := eK) h22) rfl kM_X6_lone ki_X6_lone ks_X6_lone km_X6_279 ⟨(Nat.le_of_ble_eq_true rfl), (Nat.le_of_ble_eq_true rfl)⟩ ⟨(Nat.le_of_ble_eq_true rfl), (Nat.le_of_ble_eq_true rfl)⟩ rfl rfl ⟨_, _, _, _, rfl, rfl, rfl, rfl⟩ rfl hl.1 rfl (Nat.le_of_ble_eq_true rfl) dX6_save_22) hw rfl rfl (fun _ => (Nat.le_of_ble_eq_true rfl)) (fun _ => rfl) (fun u22 H locs hw => ?_)
    refine W.widen (k := 37) (n := 2859) (Nat.le_of_ble_eq_true rfl) (Nat.le_of_ble_eq_true rfl) ?_
    refine lv_iconst (v := 0) hx hb dX6_save_25 (by decide) ?_
    refine lv_iconst (v := 1) hx hb dX6_save_26 (by decide) ?_
    refine lv_iload_n hx hb dX6_save_27 rfl (lv_at hl 1 rfl) ?_
    refine lv_ishl hx hb dX6_save_28 ?_
    refine lv_iconst (v := 1) hx hb dX6_save_29 (by decide) ?_
    refine lv_isub hx hb dX6_save_30 ?_
    refine lv_iconst (v := 0) hx hb dX6_save_31 (by decide) ?_
    obtain ⟨r32, h32, h⟩ := bnd h
    refine g_calli0 (isC := [1]) (gn := fun _ => [wRM g ad eK (some (u22 0)) rm, wRM g u22 none none r32.2]) (g_runV (isC := [1]) (rest := []) (As := [.int (0 : Int32), .int (((1 : Int32) <<< (p1 &&& 31)) - (1 : Int32)), .int (0 : Int32)]) X hw (c_X6_fewestTo l (ad := u22) (eK := none) (eT := none) h32) rfl kM_X6_fewestTo ki_X6_fewestTo ks_X6_fewestTo km_X6_127 ⟨(Nat.le_of_ble_eq_true rfl), (Nat.le_of_ble_eq_true rfl)⟩ ⟨(Nat.le_of_ble_eq_true rfl), (Nat.le_of_ble_eq_true rfl)⟩ rfl rfl ⟨_, _, _, _, rfl, rfl, rfl, rfl⟩ rfl hl.1 rfl (Nat.le_of_ble_eq_true rfl) dX6_save_32) hw rfl rfl (fun _ => (Nat.le_of_ble_eq_true rfl)) (fun _ => rfl) rfl rfl (fun _ H locs hw => ?_)
    refine lv_istore_n (lv' := [(2, .int r32.1), (0, .ref (ad 0)), (1, .int p1)]) hx hb dX6_save_35 rfl hl (by decide) rfl (fun ls hl => ?_)
    refine lv_iload_n hx hb dX6_save_36 rfl (lv_at hl 0 rfl) ?_
    refine lv_aload_n hx hb dX6_save_37 rfl (lv_at hl 1 rfl) ?_
    refine lv_iconst (v := 2) hx hb dX6_save_38 (by decide) ?_
    refine lv_iload_n hx hb dX6_save_39 rfl (lv_at hl 2 rfl) ?_
    obtain ⟨r40, h40, h⟩ := bnd h
    refine g_callr0 (isC := [0, 1]) (gn := fun _ => [wRM g ad eK (some (u22 0)) rm, wRM g u22 none none r40]) (g_runV (isC := [0, 1]) (rest := [.int r32.1]) (As := [.int (2 : Int32), .int p1]) X hw (c_X6_lone_s l (ad := ad) (eK := eK) (adT := u22) (eK1 := none) (eT1 := none) h40) rfl kM_X6_lone ki_X6_lone ks_X6_lone km_X6_279 ⟨(Nat.le_of_ble_eq_true rfl), (Nat.le_of_ble_eq_true rfl)⟩ ⟨(Nat.le_of_ble_eq_true rfl), (Nat.le_of_ble_eq_true rfl)⟩ rfl rfl ⟨_, _, _, _, rfl, rfl, rfl, rfl⟩ rfl hl.1 rfl (Nat.le_of_ble_eq_true rfl) dX6_save_40) hw rfl rfl (fun _ => (Nat.le_of_ble_eq_true rfl)) (fun _ => rfl) rfl rfl (fun _ H locs hw => ?_)
    refine lv_iconst (v := 0) hx hb dX6_save_43 (by decide) ?_
    refine lv_iconst (v := 1) hx hb dX6_save_44 (by decide) ?_
    refine lv_iload_n hx hb dX6_save_45 rfl (lv_at hl 2 rfl) ?_
    refine lv_ishl hx hb dX6_save_46 ?_
    refine lv_iconst (v := 1) hx hb dX6_save_47 (by decide) ?_
    refine lv_isub hx hb dX6_save_48 ?_
    refine lv_iconst (v := 0) hx hb dX6_save_49 (by decide) ?_
    obtain ⟨r50, h50, h⟩ := bnd h
    refine g_calli0 (isC := [1]) (gn := fun _ => [wRM g ad eK (some (u22 0)) rm, wRM g u22 none none r50.2]) (g_runV (isC := [1]) (rest := [.int r32.1]) (As := [.int (0 : Int32), .int (((1 : Int32) <<< (p1 &&& 31)) - (1 : Int32)), .int (0 : Int32)]) X hw (c_X6_fewestTo l (ad := u22) (eK := none) (eT := none) h50) rfl kM_X6_fewestTo ki_X6_fewestTo ks_X6_fewestTo km_X6_127 ⟨(Nat.le_of_ble_eq_true rfl), (Nat.le_of_ble_eq_true rfl)⟩ ⟨(Nat.le_of_ble_eq_true rfl), (Nat.le_of_ble_eq_true rfl)⟩ rfl rfl ⟨_, _, _, _, rfl, rfl, rfl, rfl⟩ rfl hl.1 rfl (Nat.le_of_ble_eq_true rfl) dX6_save_50) hw rfl rfl (fun _ => (Nat.le_of_ble_eq_true rfl)) (fun _ => rfl) rfl rfl (fun _ H locs hw => ?_)
    refine lv_isub hx hb dX6_save_53 ?_
    have h := Option.some.inj h
    subst h
    exact hret u22 dX6_save_54 rfl hw
  · have h := itf (fun z => z k9) h
    refine lv_aload_n hx hb dX6_save_12 rfl (lv_at hl 0 rfl) ?_
    refine lv_bipush (v := -2) hx hb dX6_save_13 (by decide) ?_
    obtain ⟨r15, h15, h⟩ := bnd h
    refine g_calli0 (isC := [0]) (gn := fun _ => [wRM g ad eK none r15.2]) (g_runV (isC := [0]) (rest := []) (As := [.int (-2 : Int32)]) X hw (c_X6_refuse l (ad := ad) (eK := eK) (eT := none) h15) rfl kM_X6_refuse ki_X6_refuse ks_X6_refuse km_X6_96 ⟨(Nat.le_of_ble_eq_true rfl), (Nat.le_of_ble_eq_true rfl)⟩ ⟨(Nat.le_of_ble_eq_true rfl), (Nat.le_of_ble_eq_true rfl)⟩ rfl rfl ⟨_, _, _, _, rfl, rfl, rfl, rfl⟩ rfl hl.1 rfl (Nat.le_of_ble_eq_true rfl) dX6_save_15) hw rfl rfl (fun _ => (Nat.le_of_ble_eq_true rfl)) (fun _ => rfl) rfl rfl (fun _ H locs hw => ?_)
    have h := Option.some.inj h
    subst h
    refine W.widen (k := 37) (n := 2859) (Nat.le_of_ble_eq_true rfl) (Nat.le_of_ble_eq_true rfl) ?_
    exact hret (fun _ => 0) dX6_save_18 rfl hw
theorem kM_X6_lock : kM yX6_lock cX6_lock 3 (some FieldType.int) 1 := ⟨kc_X6_lock, kn_RingsOffModel, by decide +kernel⟩
abbrev R_X6_lock_s : Room := { frames := 6, cells := 0, slots := 0, locals := 144 }
set_option maxHeartbeats 4000000 in
set_option maxRecDepth 100000 in
theorem c_X6_lock_s (l : Launch) {ad : Nat → Nat} {adT : Nat → Nat} {eK : Option Nat} {eK1 : Option Nat} {eT1 : Option Nat} {N : Nat} {rm : RM} {rt : RM} {p1 : Int32} {out : Int32 × RM × RM} (h : M_X6_lock_s N rm rt p1 = some out) : gM l yX6_lock cX6_lock 3 (some FieldType.int) R_X6_lock_s (fun _ => [.ref (ad 0), .int p1]) (fun g => [wRM g ad eK (some (adT 0)) rm, wRM g adT eK1 eT1 rt]) (gQi (fun (_ : Unit) => out.1) (fun g (_ : Unit) => [wRM g ad eK (some (adT 0)) out.2.1, wRM g adT eK1 eT1 out.2.2])) := by
  refine gM.ofi (by decide +kernel) (fun _ => Nat.le_of_ble_eq_true rfl) (fun g p e s m args below meth c A ls Q X hret hw hl => ?_)
  have hx := X.1.1
  have hb := X.1.2.1
  have hl : lv_has ls 3 [(0, .ref (ad 0)), (1, .int p1)] := hl
  have L21 : ∀ (n : Nat) (z21 : RM × RM × Int32), lp (M_X6_lock_s_l21 N p1) n z21 = some out → ∀ (H : Heap) (locs : List Loc) (ls : Array Slot), gW g A s.heap [wRM g ad eK (some (adT 0)) z21.1, wRM g adT eK1 eT1 z21.2.1] H locs → lv_has ls 3 [(0, .ref (ad 0)), (1, .int p1), (2, .int z21.2.2)] → W p l e R_X6_lock_s s m args below meth c H locs 0 0 Q (F0 m 21 ls []) := by
    refine lp_ind ?_
    intro rec21 ih21
    intro z21 h H locs ls hw hl
    unfold M_X6_lock_s_l21 at h
    refine lv_iload_n hx hb dX6_lock_21 rfl (lv_at hl 2 rfl) ?_
    refine lv_bipush (v := 10) hx hb dX6_lock_22 (by decide) ?_
    refine lv_icmp_gt (tgt := 55) hx hb dX6_lock_24 (by decide) (fun k24 => ?_) (fun k24 => ?_)
    · have h := itt k24 h
      refine lv_iconst (v := -1) hx hb dX6_lock_55 (by decide) ?_
      have h := Option.some.inj h
      subst h
      exact hret () dX6_lock_56 rfl hw
    · have h := itf k24 h
      refine lv_aload_n hx hb dX6_lock_27 rfl (lv_at hl 0 rfl) ?_
      refine lv_iconst (v := 1) hx hb dX6_lock_28 (by decide) ?_
      refine lv_iload_n hx hb dX6_lock_29 rfl (lv_at hl 2 rfl) ?_
      obtain ⟨r30, h30, h⟩ := bnd h
      refine g_callr0 (isC := [0, 1]) (gn := fun _ => [wRM g ad eK (some (adT 0)) z21.1, wRM g adT eK1 eT1 r30]) (g_runV (isC := [0, 1]) (rest := []) (As := [.int (1 : Int32), .int z21.2.2]) X hw (c_X6_lone_s l (ad := ad) (eK := eK) (adT := adT) (eK1 := eK1) (eT1 := eT1) h30) rfl kM_X6_lone ki_X6_lone ks_X6_lone km_X6_279 ⟨(Nat.le_of_ble_eq_true rfl), (Nat.le_of_ble_eq_true rfl)⟩ ⟨(Nat.le_of_ble_eq_true rfl), (Nat.le_of_ble_eq_true rfl)⟩ rfl rfl ⟨_, _, _, _, rfl, rfl, rfl, rfl⟩ rfl hl.1 rfl (Nat.le_of_ble_eq_true rfl) dX6_lock_30) hw rfl rfl (fun _ => (Nat.le_of_ble_eq_true rfl)) (fun _ => rfl) rfl rfl (fun _ H locs hw => ?_)
      refine lv_iconst (v := 0) hx hb dX6_lock_33 (by decide) ?_
      refine lv_iconst (v := 1) hx hb dX6_lock_34 (by decide) ?_
      refine lv_iload_n hx hb dX6_lock_35 rfl (lv_at hl 2 rfl) ?_
      refine lv_ishl hx hb dX6_lock_36 ?_
      refine lv_iconst (v := 1) hx hb dX6_lock_37 (by decide) ?_
      refine lv_isub hx hb dX6_lock_38 ?_
      refine lv_iconst (v := 0) hx hb dX6_lock_39 (by decide) ?_
      obtain ⟨r40, h40, h⟩ := bnd h
      refine g_calli0 (isC := [1]) (gn := fun _ => [wRM g ad eK (some (adT 0)) z21.1, wRM g adT eK1 eT1 r40.2]) (g_runV (isC := [1]) (rest := []) (As := [.int (0 : Int32), .int (((1 : Int32) <<< (z21.2.2 &&& 31)) - (1 : Int32)), .int (0 : Int32)]) X hw (c_X6_timeTo l (ad := adT) (eK := eK1) (eT := eT1) h40) rfl kM_X6_timeTo ki_X6_timeTo ks_X6_timeTo km_X6_286 ⟨(Nat.le_of_ble_eq_true rfl), (Nat.le_of_ble_eq_true rfl)⟩ ⟨(Nat.le_of_ble_eq_true rfl), (Nat.le_of_ble_eq_true rfl)⟩ rfl rfl ⟨_, _, _, _, rfl, rfl, rfl, rfl⟩ rfl hl.1 rfl (Nat.le_of_ble_eq_true rfl) dX6_lock_40) hw rfl rfl (fun _ => (Nat.le_of_ble_eq_true rfl)) (fun _ => rfl) rfl rfl (fun _ H locs hw => ?_)
      refine lv_iload_n hx hb dX6_lock_43 rfl (lv_at hl 1 rfl) ?_
      refine lv_icmp_lt (tgt := 49) hx hb dX6_lock_44 (by decide) (fun k44 => ?_) (fun k44 => ?_)
      · have h := itt k44 h
        refine lv_iinc (v := (z21.2.2 + 1)) (lv' := [(2, .int (z21.2.2 + 1)), (0, .ref (ad 0)), (1, .int p1)]) hx hb dX6_lock_49 hl (k := 2) rfl rfl (by decide) rfl (fun ls hl => ?_)
        refine lv_goto (tgt := 21) hx hb dX6_lock_52 (by decide) ?_
        exact ih21 _ h _ _ _ hw (lv_sub hl [1, 2, 0] rfl)
      · have h := itf k44 h
        refine lv_iload_n hx hb dX6_lock_47 rfl (lv_at hl 2 rfl) ?_
        have h := Option.some.inj h
        subst h
        exact hret () dX6_lock_48 rfl hw
  unfold M_X6_lock_s at h
  refine lv_iload_n hx hb dX6_lock_0 rfl (lv_at hl 1 rfl) ?_
  refine lv_i2l (v := p1.toInt64) hx hb dX6_lock_1 rfl ?_
  refine lv_lconst (v := 0) hx hb dX6_lock_2 (by decide) ?_
  refine lv_ldc2 hx hb X.1.2.2.2.1 (gK1 X _ kq_X6_289) dX6_lock_3 ?_
  obtain ⟨r6, h6, h⟩ := bnd h
  refine g_calli0 (isC := []) (gn := fun _ => [wRM g ad eK (some (adT 0)) rm, wRM g adT eK1 eT1 rt]) (g_runS (isC := []) (rest := []) (As := [.long p1.toInt64, .long (0 : Int64), .long (99999 : Int64)]) X hw (c_X6_in l h6) rfl kM_X6_in kt_X6_in km_X6_82 ⟨(Nat.le_of_ble_eq_true rfl), (Nat.le_of_ble_eq_true rfl)⟩ ⟨(Nat.le_of_ble_eq_true rfl), (Nat.le_of_ble_eq_true rfl)⟩ rfl rfl rfl hl.1 rfl (Nat.le_of_ble_eq_true rfl) dX6_lock_6) hw rfl rfl (fun _ => (Nat.le_of_ble_eq_true rfl)) (fun _ => rfl) rfl rfl (fun _ H locs hw => ?_)
  refine lv_if_ne (tgt := 19) hx hb dX6_lock_9 (by decide) (fun k9 => ?_) (fun k9 => ?_)
  · have h := itt k9 h
    refine lv_iconst (v := 1) hx hb dX6_lock_19 (by decide) ?_
    refine lv_istore_n (lv' := [(2, .int (1 : Int32)), (0, .ref (ad 0)), (1, .int p1)]) hx hb dX6_lock_20 rfl hl (by decide) rfl (fun ls hl => ?_)
    exact L21 N _ h _ _ _ hw (lv_sub hl [1, 2, 0] rfl)
  · have h := itf (fun z => z k9) h
    refine lv_aload_n hx hb dX6_lock_12 rfl (lv_at hl 0 rfl) ?_
    refine lv_bipush (v := -2) hx hb dX6_lock_13 (by decide) ?_
    obtain ⟨r15, h15, h⟩ := bnd h
    refine g_calli0 (isC := [0]) (gn := fun _ => [wRM g ad eK (some (adT 0)) r15.2, wRM g adT eK1 eT1 rt]) (g_runV (isC := [0]) (rest := []) (As := [.int (-2 : Int32)]) X hw (c_X6_refuse l (ad := ad) (eK := eK) (eT := (some (adT 0))) h15) rfl kM_X6_refuse ki_X6_refuse ks_X6_refuse km_X6_96 ⟨(Nat.le_of_ble_eq_true rfl), (Nat.le_of_ble_eq_true rfl)⟩ ⟨(Nat.le_of_ble_eq_true rfl), (Nat.le_of_ble_eq_true rfl)⟩ rfl rfl ⟨_, _, _, _, rfl, rfl, rfl, rfl⟩ rfl hl.1 rfl (Nat.le_of_ble_eq_true rfl) dX6_lock_15) hw rfl rfl (fun _ => (Nat.le_of_ble_eq_true rfl)) (fun _ => rfl) rfl rfl (fun _ H locs hw => ?_)
    have h := Option.some.inj h
    subst h
    exact hret () dX6_lock_18 rfl hw
abbrev R_X6_lock_n : Room := { frames := 6, cells := 37, slots := 2859, locals := 144 }
set_option maxHeartbeats 4000000 in
set_option maxRecDepth 100000 in
theorem c_X6_lock_n (l : Launch) {ad : Nat → Nat} {eK : Option Nat} {N : Nat} {rm : RM} {p1 : Int32} {out : Int32 × RM × Option RM} (h : M_X6_lock_n N rm p1 = some out) : gM l yX6_lock cX6_lock 3 (some FieldType.int) R_X6_lock_n (fun _ => [.ref (ad 0), .int p1]) (fun g => [wRM g ad eK none rm]) (gQi (fun (u : Nat → Nat) => out.1) (fun g (u : Nat → Nat) => oT g ad eK out.2.1 u out.2.2)) := by
  refine gM.ofi (by decide +kernel) (fun _ => Nat.le_of_ble_eq_true rfl) (fun g p e s m args below meth c A ls Q X hret hw hl => ?_)
  have hx := X.1.1
  have hb := X.1.2.1
  have hl : lv_has ls 3 [(0, .ref (ad 0)), (1, .int p1)] := hl
  have L100021 : ∀ (n : Nat) (z100021 : RM × RM × Int32), lp (M_X6_lock_n_l100021 N p1) n z100021 = some out → ∀ u : Nat → Nat, ∀ (H : Heap) (locs : List Loc) (ls : Array Slot), gW g A s.heap [wRM g ad eK (some (u 0)) z100021.1, wRM g u none none z100021.2.1] H locs → lv_has ls 3 [(0, .ref (ad 0)), (1, .int p1), (2, .int z100021.2.2)] → W p l e R_X6_lock_n s m args below meth c H locs 37 2859 Q (F0 m 21 ls []) := by
    refine lp_ind ?_
    intro rec100021 ih100021
    intro z100021 h u H locs ls hw hl
    unfold M_X6_lock_n_l100021 at h
    refine lv_iload_n hx hb dX6_lock_21 rfl (lv_at hl 2 rfl) ?_
    refine lv_bipush (v := 10) hx hb dX6_lock_22 (by decide) ?_
    refine lv_icmp_gt (tgt := 55) hx hb dX6_lock_24 (by decide) (fun k24 => ?_) (fun k24 => ?_)
    · have h := itt k24 h
      refine lv_iconst (v := -1) hx hb dX6_lock_55 (by decide) ?_
      have h := Option.some.inj h
      subst h
      exact hret u dX6_lock_56 rfl hw
    · have h := itf k24 h
      refine lv_aload_n hx hb dX6_lock_27 rfl (lv_at hl 0 rfl) ?_
      refine lv_iconst (v := 1) hx hb dX6_lock_28 (by decide) ?_
      refine lv_iload_n hx hb dX6_lock_29 rfl (lv_at hl 2 rfl) ?_
      obtain ⟨r30, h30, h⟩ := bnd h
      refine g_callr0 (isC := [0, 1]) (gn := fun _ => [wRM g ad eK (some (u 0)) z100021.1, wRM g u none none r30]) (g_runV (isC := [0, 1]) (rest := []) (As := [.int (1 : Int32), .int z100021.2.2]) X hw (c_X6_lone_s l (ad := ad) (eK := eK) (adT := u) (eK1 := none) (eT1 := none) h30) rfl kM_X6_lone ki_X6_lone ks_X6_lone km_X6_279 ⟨(Nat.le_of_ble_eq_true rfl), (Nat.le_of_ble_eq_true rfl)⟩ ⟨(Nat.le_of_ble_eq_true rfl), (Nat.le_of_ble_eq_true rfl)⟩ rfl rfl ⟨_, _, _, _, rfl, rfl, rfl, rfl⟩ rfl hl.1 rfl (Nat.le_of_ble_eq_true rfl) dX6_lock_30) hw rfl rfl (fun _ => (Nat.le_of_ble_eq_true rfl)) (fun _ => rfl) rfl rfl (fun _ H locs hw => ?_)
      refine lv_iconst (v := 0) hx hb dX6_lock_33 (by decide) ?_
      refine lv_iconst (v := 1) hx hb dX6_lock_34 (by decide) ?_
      refine lv_iload_n hx hb dX6_lock_35 rfl (lv_at hl 2 rfl) ?_
      refine lv_ishl hx hb dX6_lock_36 ?_
      refine lv_iconst (v := 1) hx hb dX6_lock_37 (by decide) ?_
      refine lv_isub hx hb dX6_lock_38 ?_
      refine lv_iconst (v := 0) hx hb dX6_lock_39 (by decide) ?_
      obtain ⟨r40, h40, h⟩ := bnd h
      refine g_calli0 (isC := [1]) (gn := fun _ => [wRM g ad eK (some (u 0)) z100021.1, wRM g u none none r40.2]) (g_runV (isC := [1]) (rest := []) (As := [.int (0 : Int32), .int (((1 : Int32) <<< (z100021.2.2 &&& 31)) - (1 : Int32)), .int (0 : Int32)]) X hw (c_X6_timeTo l (ad := u) (eK := none) (eT := none) h40) rfl kM_X6_timeTo ki_X6_timeTo ks_X6_timeTo km_X6_286 ⟨(Nat.le_of_ble_eq_true rfl), (Nat.le_of_ble_eq_true rfl)⟩ ⟨(Nat.le_of_ble_eq_true rfl), (Nat.le_of_ble_eq_true rfl)⟩ rfl rfl ⟨_, _, _, _, rfl, rfl, rfl, rfl⟩ rfl hl.1 rfl (Nat.le_of_ble_eq_true rfl) dX6_lock_40) hw rfl rfl (fun _ => (Nat.le_of_ble_eq_true rfl)) (fun _ => rfl) rfl rfl (fun _ H locs hw => ?_)
      refine lv_iload_n hx hb dX6_lock_43 rfl (lv_at hl 1 rfl) ?_
      refine lv_icmp_lt (tgt := 49) hx hb dX6_lock_44 (by decide) (fun k44 => ?_) (fun k44 => ?_)
      · have h := itt k44 h
        refine lv_iinc (v := (z100021.2.2 + 1)) (lv' := [(2, .int (z100021.2.2 + 1)), (0, .ref (ad 0)), (1, .int p1)]) hx hb dX6_lock_49 hl (k := 2) rfl rfl (by decide) rfl (fun ls hl => ?_)
        refine lv_goto (tgt := 21) hx hb dX6_lock_52 (by decide) ?_
        exact ih100021 _ h _ _ _ _ hw (lv_sub hl [1, 2, 0] rfl)
      · have h := itf k44 h
        refine lv_iload_n hx hb dX6_lock_47 rfl (lv_at hl 2 rfl) ?_
        have h := Option.some.inj h
        subst h
        exact hret u dX6_lock_48 rfl hw
  unfold M_X6_lock_n at h
  refine lv_iload_n hx hb dX6_lock_0 rfl (lv_at hl 1 rfl) ?_
  refine lv_i2l (v := p1.toInt64) hx hb dX6_lock_1 rfl ?_
  refine lv_lconst (v := 0) hx hb dX6_lock_2 (by decide) ?_
  refine lv_ldc2 hx hb X.1.2.2.2.1 (gK1 X _ kq_X6_289) dX6_lock_3 ?_
  obtain ⟨r6, h6, h⟩ := bnd h
  refine g_calli0 (isC := []) (gn := fun _ => [wRM g ad eK none rm]) (g_runS (isC := []) (rest := []) (As := [.long p1.toInt64, .long (0 : Int64), .long (99999 : Int64)]) X hw (c_X6_in l h6) rfl kM_X6_in kt_X6_in km_X6_82 ⟨(Nat.le_of_ble_eq_true rfl), (Nat.le_of_ble_eq_true rfl)⟩ ⟨(Nat.le_of_ble_eq_true rfl), (Nat.le_of_ble_eq_true rfl)⟩ rfl rfl rfl hl.1 rfl (Nat.le_of_ble_eq_true rfl) dX6_lock_6) hw rfl rfl (fun _ => (Nat.le_of_ble_eq_true rfl)) (fun _ => rfl) rfl rfl (fun _ H locs hw => ?_)
  refine lv_if_ne (tgt := 19) hx hb dX6_lock_9 (by decide) (fun k9 => ?_) (fun k9 => ?_)
  · have h := itt k9 h
    refine lv_iconst (v := 1) hx hb dX6_lock_19 (by decide) ?_
    refine lv_istore_n (lv' := [(2, .int (1 : Int32)), (0, .ref (ad 0)), (1, .int p1)]) hx hb dX6_lock_20 rfl hl (by decide) rfl (fun ls hl => ?_)
    refine lv_iload_n hx hb dX6_lock_21 rfl (lv_at hl 0 rfl) ?_
    refine lv_bipush (v := 10) hx hb dX6_lock_22 (by decide) ?_
    refine lv_icmp_gt (tgt := 55) hx hb dX6_lock_24 (by decide) (fun k24 => ?_) (fun k24 => ?_)
    · have h := itt k24 h
      refine lv_iconst (v := -1) hx hb dX6_lock_55 (by decide) ?_
      have h := Option.some.inj h
      subst h
      refine W.widen (k := 37) (n := 2859) (Nat.le_of_ble_eq_true rfl) (Nat.le_of_ble_eq_true rfl) ?_
      exact hret (fun _ => 0) dX6_lock_56 rfl hw
    · have h := itf k24 h
      refine lv_aload_n hx hb dX6_lock_27 rfl (lv_at hl 1 rfl) ?_
      refine lv_iconst (v := 1) hx hb dX6_lock_28 (by decide) ?_
      refine lv_iload_n hx hb dX6_lock_29 rfl (lv_at hl 0 rfl) ?_
      obtain ⟨r30, h30, h⟩ := bnd h
      refine g_callr (isC := [0]) (gn := fun u30 => [wRM g ad eK (some (u30 0)) rm, wRM g u30 none none r30]) (g_runV (isC := [0]) (rest := []) (As := [.int (1 : Int32), .int (1 : Int32)]) X hw (c_X6_lone_n l (ad := ad) (eK := eK) h30) rfl kM_X6_lone ki_X6_lone ks_X6_lone km_X6_279 ⟨(Nat.le_of_ble_eq_true rfl), (Nat.le_of_ble_eq_true rfl)⟩ ⟨(Nat.le_of_ble_eq_true rfl), (Nat.le_of_ble_eq_true rfl)⟩ rfl rfl ⟨_, _, _, _, rfl, rfl, rfl, rfl⟩ rfl hl.1 rfl (Nat.le_of_ble_eq_true rfl) dX6_lock_30) hw rfl rfl (fun _ => (Nat.le_of_ble_eq_true rfl)) (fun _ => rfl) (fun u30 H locs hw => ?_)
      refine W.widen (k := 37) (n := 2859) (Nat.le_of_ble_eq_true rfl) (Nat.le_of_ble_eq_true rfl) ?_
      refine lv_iconst (v := 0) hx hb dX6_lock_33 (by decide) ?_
      refine lv_iconst (v := 1) hx hb dX6_lock_34 (by decide) ?_
      refine lv_iload_n hx hb dX6_lock_35 rfl (lv_at hl 0 rfl) ?_
      refine lv_ishl hx hb dX6_lock_36 ?_
      refine lv_iconst (v := 1) hx hb dX6_lock_37 (by decide) ?_
      refine lv_isub hx hb dX6_lock_38 ?_
      refine lv_iconst (v := 0) hx hb dX6_lock_39 (by decide) ?_
      obtain ⟨r40, h40, h⟩ := bnd h
      refine g_calli0 (isC := [1]) (gn := fun _ => [wRM g ad eK (some (u30 0)) rm, wRM g u30 none none r40.2]) (g_runV (isC := [1]) (rest := []) (As := [.int (0 : Int32), .int (((1 : Int32) <<< ((1 : Int32) &&& 31)) - (1 : Int32)), .int (0 : Int32)]) X hw (c_X6_timeTo l (ad := u30) (eK := none) (eT := none) h40) rfl kM_X6_timeTo ki_X6_timeTo ks_X6_timeTo km_X6_286 ⟨(Nat.le_of_ble_eq_true rfl), (Nat.le_of_ble_eq_true rfl)⟩ ⟨(Nat.le_of_ble_eq_true rfl), (Nat.le_of_ble_eq_true rfl)⟩ rfl rfl ⟨_, _, _, _, rfl, rfl, rfl, rfl⟩ rfl hl.1 rfl (Nat.le_of_ble_eq_true rfl) dX6_lock_40) hw rfl rfl (fun _ => (Nat.le_of_ble_eq_true rfl)) (fun _ => rfl) rfl rfl (fun _ H locs hw => ?_)
      refine lv_iload_n hx hb dX6_lock_43 rfl (lv_at hl 2 rfl) ?_
      refine lv_icmp_lt (tgt := 49) hx hb dX6_lock_44 (by decide) (fun k44 => ?_) (fun k44 => ?_)
      · have h := itt k44 h
        refine lv_iinc (v := ((1 : Int32) + 1)) (lv' := [(2, .int ((1 : Int32) + 1)), (0, .ref (ad 0)), (1, .int p1)]) hx hb dX6_lock_49 hl (k := 0) rfl rfl (by decide) rfl (fun ls hl => ?_)
        refine lv_goto (tgt := 21) hx hb dX6_lock_52 (by decide) ?_
        exact L100021 N _ h _ _ _ _ hw (lv_sub hl [1, 2, 0] rfl)
      · have h := itf k44 h
        refine lv_iload_n hx hb dX6_lock_47 rfl (lv_at hl 0 rfl) ?_
        have h := Option.some.inj h
        subst h
        exact hret u30 dX6_lock_48 rfl hw
  · have h := itf (fun z => z k9) h
    refine lv_aload_n hx hb dX6_lock_12 rfl (lv_at hl 0 rfl) ?_
    refine lv_bipush (v := -2) hx hb dX6_lock_13 (by decide) ?_
    obtain ⟨r15, h15, h⟩ := bnd h
    refine g_calli0 (isC := [0]) (gn := fun _ => [wRM g ad eK none r15.2]) (g_runV (isC := [0]) (rest := []) (As := [.int (-2 : Int32)]) X hw (c_X6_refuse l (ad := ad) (eK := eK) (eT := none) h15) rfl kM_X6_refuse ki_X6_refuse ks_X6_refuse km_X6_96 ⟨(Nat.le_of_ble_eq_true rfl), (Nat.le_of_ble_eq_true rfl)⟩ ⟨(Nat.le_of_ble_eq_true rfl), (Nat.le_of_ble_eq_true rfl)⟩ rfl rfl ⟨_, _, _, _, rfl, rfl, rfl, rfl⟩ rfl hl.1 rfl (Nat.le_of_ble_eq_true rfl) dX6_lock_15) hw rfl rfl (fun _ => (Nat.le_of_ble_eq_true rfl)) (fun _ => rfl) rfl rfl (fun _ H locs hw => ?_)
    have h := Option.some.inj h
    subst h
    refine W.widen (k := 37) (n := 2859) (Nat.le_of_ble_eq_true rfl) (Nat.le_of_ble_eq_true rfl) ?_
    exact hret (fun _ => 0) dX6_lock_18 rfl hw
theorem kM_X6_image : kM yX6_image cX6_image 1 (some FieldType.int) 0 := ⟨kc_X6_image, kn_RingsOffModel, by decide +kernel⟩
abbrev R_X6_image_s : Room := { frames := 2, cells := 0, slots := 0, locals := 61 }
set_option maxHeartbeats 4000000 in
set_option maxRecDepth 100000 in
theorem c_X6_image_s (l : Launch) {ad : Nat → Nat} {adK : Nat → Nat} {eT : Option Nat} {eK1 : Option Nat} {eT1 : Option Nat} {N : Nat} {rm : RM} {rt : RM} {out : Int32 × RM} (h : M_X6_image_s N rm rt = some out) : gM l yX6_image cX6_image 1 (some FieldType.int) R_X6_image_s (fun _ => [.ref (ad 0)]) (fun g => [wRM g ad (some (adK 0)) eT rm, wRM g adK eK1 eT1 rt]) (gQi (fun (_ : Unit) => out.1) (fun g (_ : Unit) => [wRM g ad (some (adK 0)) eT rm, wRM g adK eK1 eT1 out.2])) := by
  refine gM.ofi (by decide +kernel) (fun _ => Nat.le_of_ble_eq_true rfl) (fun g p e s m args below meth c A ls Q X hret hw hl => ?_)
  have hx := X.1.1
  have hb := X.1.2.1
  have hl : lv_has ls 1 [(0, .ref (ad 0))] := hl
  have J18 : ∀ (z18 : RM), M_X6_image_s_j18 N rm z18 = some out → ∀ (H : Heap) (locs : List Loc) (ls : Array Slot), gW g A s.heap [wRM g ad (some (adK 0)) eT rm, wRM g adK eK1 eT1 z18] H locs → lv_has ls 1 [(0, .ref (ad 0))] → W p l e R_X6_image_s s m args below meth c H locs 0 0 Q (F0 m 18 ls []) := by
    intro z18 h H locs ls hw hl
    unfold M_X6_image_s_j18 at h
    refine lv_aload_n hx hb dX6_image_18 rfl (lv_at hl 0 rfl) ?_
    refine RM_g_kept X hw 0 rfl kf_X6_330 dX6_image_19 ?_
    refine lv_aload_n hx hb dX6_image_22 rfl (lv_at hl 0 rfl) ?_
    obtain ⟨r23, h23, h⟩ := bnd h
    refine g_callv0 (isC := [1, 0]) (gn := fun _ => [wRM g ad (some (adK 0)) eT rm, wRM g adK eK1 eT1 r23]) (g_runV (isC := [1, 0]) (rest := []) (As := [.ref (ad 0)]) X hw (c_X6_takeFrom l (ad := adK) (eK := eK1) (eT := eT1) (ad1 := ad) (eK1 := (some (adK 0))) (eT1 := eT) h23) rfl kM_X6_takeFrom ki_X6_takeFrom ks_X6_takeFrom km_X6_246 ⟨(Nat.le_of_ble_eq_true rfl), (Nat.le_of_ble_eq_true rfl)⟩ ⟨(Nat.le_of_ble_eq_true rfl), (Nat.le_of_ble_eq_true rfl)⟩ rfl rfl ⟨_, _, _, _, rfl, rfl, rfl, rfl⟩ rfl hl.1 rfl (Nat.le_of_ble_eq_true rfl) dX6_image_23) hw rfl rfl (fun _ => (Nat.le_of_ble_eq_true rfl)) (fun _ => rfl) rfl rfl (fun _ H locs hw => ?_)
    refine lv_iconst (v := 1) hx hb dX6_image_26 (by decide) ?_
    have h := Option.some.inj h
    subst h
    exact hret () dX6_image_27 rfl hw
  unfold M_X6_image_s at h
  refine lv_aload_n hx hb dX6_image_0 rfl (lv_at hl 0 rfl) ?_
  refine RM_g_kept X hw 0 rfl kf_X6_330 dX6_image_1 ?_
  refine lv_ifnonnull (tgt := 18) hx hb dX6_image_4 (by decide) ?_
  exact J18 _ h _ _ _ hw (lv_sub hl [0] rfl)
abbrev R_X6_image_n : Room := { frames := 2, cells := 37, slots := 2859, locals := 61 }
set_option maxHeartbeats 4000000 in
set_option maxRecDepth 100000 in
theorem c_X6_image_n (l : Launch) {ad : Nat → Nat} {eT : Option Nat} {N : Nat} {rm : RM} {out : Int32 × RM} (h : M_X6_image_n N rm = some out) : gM l yX6_image cX6_image 1 (some FieldType.int) R_X6_image_n (fun _ => [.ref (ad 0)]) (fun g => [wRM g ad none eT rm]) (gQi (fun (u : Nat → Nat) => out.1) (fun g (u : Nat → Nat) => [wRM g ad (some (u 0)) eT rm, wRM g u none none out.2])) := by
  refine gM.ofi (by decide +kernel) (fun _ => Nat.le_of_ble_eq_true rfl) (fun g p e s m args below meth c A ls Q X hret hw hl => ?_)
  have hx := X.1.1
  have hb := X.1.2.1
  have hl : lv_has ls 1 [(0, .ref (ad 0))] := hl
  have J100018 : ∀ (z100018 : RM), M_X6_image_n_j100018 N rm z100018 = some out → ∀ u : Nat → Nat, ∀ (H : Heap) (locs : List Loc) (ls : Array Slot), gW g A s.heap [wRM g ad (some (u 0)) eT rm, wRM g u none none z100018] H locs → lv_has ls 1 [(0, .ref (ad 0))] → W p l e R_X6_image_n s m args below meth c H locs 37 2859 Q (F0 m 18 ls []) := by
    intro z100018 h u H locs ls hw hl
    unfold M_X6_image_n_j100018 at h
    refine lv_aload_n hx hb dX6_image_18 rfl (lv_at hl 0 rfl) ?_
    refine RM_g_kept X hw 0 rfl kf_X6_330 dX6_image_19 ?_
    refine lv_aload_n hx hb dX6_image_22 rfl (lv_at hl 0 rfl) ?_
    obtain ⟨r23, h23, h⟩ := bnd h
    refine g_callv0 (isC := [1, 0]) (gn := fun _ => [wRM g ad (some (u 0)) eT rm, wRM g u none none r23]) (g_runV (isC := [1, 0]) (rest := []) (As := [.ref (ad 0)]) X hw (c_X6_takeFrom l (ad := u) (eK := none) (eT := none) (ad1 := ad) (eK1 := (some (u 0))) (eT1 := eT) h23) rfl kM_X6_takeFrom ki_X6_takeFrom ks_X6_takeFrom km_X6_246 ⟨(Nat.le_of_ble_eq_true rfl), (Nat.le_of_ble_eq_true rfl)⟩ ⟨(Nat.le_of_ble_eq_true rfl), (Nat.le_of_ble_eq_true rfl)⟩ rfl rfl ⟨_, _, _, _, rfl, rfl, rfl, rfl⟩ rfl hl.1 rfl (Nat.le_of_ble_eq_true rfl) dX6_image_23) hw rfl rfl (fun _ => (Nat.le_of_ble_eq_true rfl)) (fun _ => rfl) rfl rfl (fun _ H locs hw => ?_)
    refine lv_iconst (v := 1) hx hb dX6_image_26 (by decide) ?_
    have h := Option.some.inj h
    subst h
    exact hret u dX6_image_27 rfl hw
  unfold M_X6_image_n at h
  refine lv_aload_n hx hb dX6_image_0 rfl (lv_at hl 0 rfl) ?_
  refine RM_g_kept X hw 0 rfl kf_X6_330 dX6_image_1 ?_
  refine lv_ifnonnullN hx hb dX6_image_4 ?_
  refine lv_aload_n hx hb dX6_image_7 rfl (lv_at hl 0 rfl) ?_
  refine g_newRM X hw kl_X6_8 (Nat.le_of_ble_eq_true rfl) (Nat.le_of_ble_eq_true rfl) dX6_image_8 (fun q8 H locs hw => ?_)
  refine lv_dup hx hb dX6_image_11 rfl ?_
  refine g_callv (isC := [1]) (gn := fun u12 => [wRM g ad none eT rm, wRM g (adq q8 u12) none none RM0]) (g_runI (isC := [1]) (rest := [.ref q8, .ref (ad 0)]) (As := []) X hw (c_X6_init l (q := q8)) rfl kM_X6_init ki_X6_init rfl km_X6_245 ⟨(Nat.le_of_ble_eq_true rfl), (Nat.le_of_ble_eq_true rfl)⟩ ⟨(Nat.le_of_ble_eq_true rfl), (Nat.le_of_ble_eq_true rfl)⟩ rfl rfl rfl hl.1 rfl (Nat.le_of_ble_eq_true rfl) dX6_image_12) hw rfl rfl (fun _ => (Nat.le_of_ble_eq_true rfl)) (fun _ => rfl) (fun u12 H locs hw => ?_)
  refine W.widen (k := 37) (n := 2859) (Nat.le_of_ble_eq_true rfl) (Nat.le_of_ble_eq_true rfl) ?_
  refine RM_p_kept (gs' := [wRM g ad (some ((adq q8 u12) 0)) eT rm, wRM g (adq q8 u12) none none RM0]) X hw 0 rfl kf_X6_330 dX6_image_15 rfl (fun H locs hw => ?_)
  exact J100018 _ h _ _ _ _ hw (lv_sub hl [0] rfl)
theorem kM_X6_back : kM yX6_back cX6_back 1 (some FieldType.int) 0 := ⟨kc_X6_back, kn_RingsOffModel, by decide +kernel⟩
abbrev R_X6_back_s : Room := { frames := 2, cells := 0, slots := 0, locals := 44 }
set_option maxHeartbeats 4000000 in
set_option maxRecDepth 100000 in
theorem c_X6_back_s (l : Launch) {ad : Nat → Nat} {adK : Nat → Nat} {eT : Option Nat} {eK1 : Option Nat} {eT1 : Option Nat} {N : Nat} {rm : RM} {rt : RM} {out : Int32 × RM} (h : M_X6_back_s N rm rt = some out) : gM l yX6_back cX6_back 1 (some FieldType.int) R_X6_back_s (fun _ => [.ref (ad 0)]) (fun g => [wRM g ad (some (adK 0)) eT rm, wRM g adK eK1 eT1 rt]) (gQi (fun (_ : Unit) => out.1) (fun g (_ : Unit) => [wRM g ad (some (adK 0)) eT out.2, wRM g adK eK1 eT1 rt])) := by
  refine gM.ofi (by decide +kernel) (fun _ => Nat.le_of_ble_eq_true rfl) (fun g p e s m args below meth c A ls Q X hret hw hl => ?_)
  have hx := X.1.1
  have hb := X.1.2.1
  have hl : lv_has ls 1 [(0, .ref (ad 0))] := hl
  unfold M_X6_back_s at h
  refine lv_aload_n hx hb dX6_back_0 rfl (lv_at hl 0 rfl) ?_
  refine RM_g_kept X hw 0 rfl kf_X6_330 dX6_back_1 ?_
  refine lv_ifnonnull (tgt := 14) hx hb dX6_back_4 (by decide) ?_
  refine lv_aload_n hx hb dX6_back_14 rfl (lv_at hl 0 rfl) ?_
  refine lv_aload_n hx hb dX6_back_15 rfl (lv_at hl 0 rfl) ?_
  refine RM_g_kept X hw 0 rfl kf_X6_330 dX6_back_16 ?_
  obtain ⟨r19, h19, h⟩ := bnd h
  refine g_callv0 (isC := [0, 1]) (gn := fun _ => [wRM g ad (some (adK 0)) eT r19, wRM g adK eK1 eT1 rt]) (g_runV (isC := [0, 1]) (rest := []) (As := [.ref (adK 0)]) X hw (c_X6_takeFrom l (ad := ad) (eK := (some (adK 0))) (eT := eT) (ad1 := adK) (eK1 := eK1) (eT1 := eT1) h19) rfl kM_X6_takeFrom ki_X6_takeFrom ks_X6_takeFrom km_X6_246 ⟨(Nat.le_of_ble_eq_true rfl), (Nat.le_of_ble_eq_true rfl)⟩ ⟨(Nat.le_of_ble_eq_true rfl), (Nat.le_of_ble_eq_true rfl)⟩ rfl rfl ⟨_, _, _, _, rfl, rfl, rfl, rfl⟩ rfl hl.1 rfl (Nat.le_of_ble_eq_true rfl) dX6_back_19) hw rfl rfl (fun _ => (Nat.le_of_ble_eq_true rfl)) (fun _ => rfl) rfl rfl (fun _ H locs hw => ?_)
  refine lv_aload_n hx hb dX6_back_22 rfl (lv_at hl 0 rfl) ?_
  obtain ⟨r23, h23, h⟩ := bnd h
  refine g_callv0 (isC := [0]) (gn := fun _ => [wRM g ad (some (adK 0)) eT r23, wRM g adK eK1 eT1 rt]) (g_runV (isC := [0]) (rest := []) (As := []) X hw (c_X6_shelvesFollow l (ad := ad) (eK := (some (adK 0))) (eT := eT) h23) rfl kM_X6_shelvesFollow ki_X6_shelvesFollow ks_X6_shelvesFollow km_X6_323 ⟨(Nat.le_of_ble_eq_true rfl), (Nat.le_of_ble_eq_true rfl)⟩ ⟨(Nat.le_of_ble_eq_true rfl), (Nat.le_of_ble_eq_true rfl)⟩ rfl rfl ⟨_, _, _, _, rfl, rfl, rfl, rfl⟩ rfl hl.1 rfl (Nat.le_of_ble_eq_true rfl) dX6_back_23) hw rfl rfl (fun _ => (Nat.le_of_ble_eq_true rfl)) (fun _ => rfl) rfl rfl (fun _ H locs hw => ?_)
  refine lv_iconst (v := 1) hx hb dX6_back_26 (by decide) ?_
  have h := Option.some.inj h
  subst h
  exact hret () dX6_back_27 rfl hw
abbrev R_X6_back_n : Room := { frames := 2, cells := 0, slots := 0, locals := 44 }
set_option maxHeartbeats 4000000 in
set_option maxRecDepth 100000 in
theorem c_X6_back_n (l : Launch) {ad : Nat → Nat} {eT : Option Nat} {N : Nat} {rm : RM} {out : Int32 × RM} (h : M_X6_back_n N rm = some out) : gM l yX6_back cX6_back 1 (some FieldType.int) R_X6_back_n (fun _ => [.ref (ad 0)]) (fun g => [wRM g ad none eT rm]) (gQi (fun (_ : Unit) => out.1) (fun g (_ : Unit) => [wRM g ad none eT out.2])) := by
  refine gM.ofi (by decide +kernel) (fun _ => Nat.le_of_ble_eq_true rfl) (fun g p e s m args below meth c A ls Q X hret hw hl => ?_)
  have hx := X.1.1
  have hb := X.1.2.1
  have hl : lv_has ls 1 [(0, .ref (ad 0))] := hl
  unfold M_X6_back_n at h
  refine lv_aload_n hx hb dX6_back_0 rfl (lv_at hl 0 rfl) ?_
  refine RM_g_kept X hw 0 rfl kf_X6_330 dX6_back_1 ?_
  refine lv_ifnonnullN hx hb dX6_back_4 ?_
  refine lv_aload_n hx hb dX6_back_7 rfl (lv_at hl 0 rfl) ?_
  refine lv_bipush (v := -5) hx hb dX6_back_8 (by decide) ?_
  obtain ⟨r10, h10, h⟩ := bnd h
  refine g_calli0 (isC := [0]) (gn := fun _ => [wRM g ad none eT r10.2]) (g_runV (isC := [0]) (rest := []) (As := [.int (-5 : Int32)]) X hw (c_X6_refuse l (ad := ad) (eK := none) (eT := eT) h10) rfl kM_X6_refuse ki_X6_refuse ks_X6_refuse km_X6_96 ⟨(Nat.le_of_ble_eq_true rfl), (Nat.le_of_ble_eq_true rfl)⟩ ⟨(Nat.le_of_ble_eq_true rfl), (Nat.le_of_ble_eq_true rfl)⟩ rfl rfl ⟨_, _, _, _, rfl, rfl, rfl, rfl⟩ rfl hl.1 rfl (Nat.le_of_ble_eq_true rfl) dX6_back_10) hw rfl rfl (fun _ => (Nat.le_of_ble_eq_true rfl)) (fun _ => rfl) rfl rfl (fun _ H locs hw => ?_)
  have h := Option.some.inj h
  subst h
  exact hret () dX6_back_13 rfl hw
theorem kM_X6_chance : kM yX6_chance cX6_chance 6 (some FieldType.int) 3 := ⟨kc_X6_chance, kn_RingsOffModel, by decide +kernel⟩
abbrev R_X6_chance : Room := { frames := 5, cells := 2, slots := 2048, locals := 116 }
set_option maxHeartbeats 4000000 in
set_option maxRecDepth 100000 in
theorem c_X6_chance (l : Launch) {ad : Nat → Nat} {eK : Option Nat} {eT : Option Nat} {N : Nat} {rm : RM} {p1 : Int32} {p2 : Int32} {p3 : Int32} {out : Int32 × RM} (h : M_X6_chance N rm p1 p2 p3 = some out) : gM l yX6_chance cX6_chance 6 (some FieldType.int) R_X6_chance (fun _ => [.ref (ad 0), .int p1, .int p2, .int p3]) (fun g => [wRM g ad eK eT rm]) (gQi (fun (u : { u : Nat → Nat // u 0 = ad 0 }) => out.1) (fun g (u : { u : Nat → Nat // u 0 = ad 0 }) => [wRM g u.1 eK eT out.2])) := by
  refine gM.ofi (by decide +kernel) (fun _ => Nat.le_of_ble_eq_true rfl) (fun g p e s m args below meth c A ls Q X hret hw hl => ?_)
  obtain ⟨a, hz, ha⟩ : ∃ a, ad 0 = a ∧ a = ad 0 := ⟨_, rfl, rfl⟩
  have hx := X.1.1
  have hb := X.1.2.1
  have hl : lv_has ls 6 [(0, .ref (ad 0)), (1, .int p1), (2, .int p2), (3, .int p3)] := hl
  have L110 : ∀ (n : Nat) (z110 : RM × Int32), lp (M_X6_chance_l110 N p1 p2 p3) n z110 = some out → ∀ ad : Nat → Nat, ad 0 = a → ∀ (H : Heap) (locs : List Loc) (ls : Array Slot), gW g A s.heap [wRM g ad eK eT z110.1] H locs → lv_has ls 6 [(0, .ref (ad 0)), (1, .int p1), (2, .int p2), (3, .int p3), (4, .int z110.2)] → W p l e R_X6_chance s m args below meth c H locs 2 2048 Q (F0 m 110 ls []) := by
    refine lp_ind ?_
    intro rec110 ih110
    have L172 : ∀ (n : Nat) (z172 : RM × Int32 × Int32), lp (M_X6_chance_l172 N p1 p2 p3 rec110) n z172 = some out → ∀ ad : Nat → Nat, ad 0 = a → ∀ (H : Heap) (locs : List Loc) (ls : Array Slot), gW g A s.heap [wRM g ad eK eT z172.1] H locs → lv_has ls 6 [(0, .ref (ad 0)), (1, .int p1), (2, .int p2), (3, .int p3), (4, .int z172.2.1), (5, .int z172.2.2)] → W p l e R_X6_chance s m args below meth c H locs 2 2048 Q (F0 m 172 ls []) := by
      refine lp_ind ?_
      intro rec172 ih172
      intro z172 h ad hz H locs ls hw hl
      unfold M_X6_chance_l172 at h
      refine lv_iload hx hb dX6_chance_172 (lv_at hl 5 rfl) ?_
      refine lv_aload_n hx hb dX6_chance_174 rfl (lv_at hl 0 rfl) ?_
      refine lv_iload_n hx hb dX6_chance_175 rfl (lv_at hl 1 rfl) ?_
      obtain ⟨r176, h176, h⟩ := bnd h
      refine g_calli0 (isC := [0]) (gn := fun _ => [wRM g ad eK eT z172.1]) (g_runV (isC := [0]) (rest := [.int z172.2.2]) (As := [.int p1]) X hw (c_X6_all l (ad := ad) (eK := eK) (eT := eT) h176) rfl kM_X6_all ki_X6_all ks_X6_all km_X6_86 ⟨(Nat.le_of_ble_eq_true rfl), (Nat.le_of_ble_eq_true rfl)⟩ ⟨(Nat.le_of_ble_eq_true rfl), (Nat.le_of_ble_eq_true rfl)⟩ rfl rfl ⟨_, _, _, _, rfl, rfl, rfl, rfl⟩ rfl hl.1 rfl (Nat.le_of_ble_eq_true rfl) dX6_chance_176) hw rfl rfl (fun _ => (Nat.le_of_ble_eq_true rfl)) (fun _ => rfl) rfl rfl (fun _ H locs hw => ?_)
      refine lv_icmp_gt (tgt := 202) hx hb dX6_chance_179 (by decide) (fun k179 => ?_) (fun k179 => ?_)
      · have h := itt k179 h
        refine lv_iinc (v := (z172.2.1 + 1)) (lv' := [(4, .int (z172.2.1 + 1)), (0, .ref (ad 0)), (1, .int p1), (2, .int p2), (3, .int p3), (5, .int z172.2.2)]) hx hb dX6_chance_202 hl (k := 4) rfl rfl (by decide) rfl (fun ls hl => ?_)
        refine lv_goto (tgt := 110) hx hb dX6_chance_205 (by decide) ?_
        exact ih110 _ h _ hz _ _ _ hw (lv_sub hl [1, 2, 3, 4, 0] rfl)
      · have h := itf k179 h
        refine lv_aload_n hx hb dX6_chance_182 rfl (lv_at hl 0 rfl) ?_
        refine RM_g_parts1 X hw 0 rfl kf_X6_73 dX6_chance_183 ?_
        refine lv_iload hx hb dX6_chance_186 (lv_at hl 5 rfl) ?_
        refine lv_aload_n hx hb dX6_chance_188 rfl (lv_at hl 0 rfl) ?_
        refine RM_g_parts2 X hw 0 rfl kf_X6_76 dX6_chance_189 ?_
        refine lv_iload hx hb dX6_chance_192 (lv_at hl 5 rfl) ?_
        obtain ⟨q194, h⟩ := chk h
        refine RM_l_parts2 X hw 0 rfl q194 dX6_chance_194 ?_
        obtain ⟨q195, h⟩ := chk h
        refine RM_a_parts1 (gs' := [wRM g ad eK eT (RM_s_parts1 z172.1 (upd (RM_parts1 z172.1) z172.2.2.toNatClampNeg (RM_parts2 z172.1 z172.2.2.toNatClampNeg)))]) X hw 0 rfl q195 dX6_chance_195 rfl (fun H locs hw => ?_)
        refine lv_iinc (v := (z172.2.2 + 1)) (lv' := [(5, .int (z172.2.2 + 1)), (0, .ref (ad 0)), (1, .int p1), (2, .int p2), (3, .int p3), (4, .int z172.2.1)]) hx hb dX6_chance_196 hl (k := 5) rfl rfl (by decide) rfl (fun ls hl => ?_)
        refine lv_goto (tgt := 172) hx hb dX6_chance_199 (by decide) ?_
        exact ih172 _ h _ hz _ _ _ hw (lv_sub hl [1, 2, 3, 4, 5, 0] rfl)
    have L146 : ∀ (n : Nat) (z146 : RM × Int32 × Int32), lp (M_X6_chance_l146 N p1 p2 p3 rec110) n z146 = some out → ∀ ad : Nat → Nat, ad 0 = a → ∀ (H : Heap) (locs : List Loc) (ls : Array Slot), gW g A s.heap [wRM g ad eK eT z146.1] H locs → lv_has ls 6 [(0, .ref (ad 0)), (1, .int p1), (2, .int p2), (3, .int p3), (4, .int z146.2.1), (5, .int z146.2.2)] → W p l e R_X6_chance s m args below meth c H locs 2 2048 Q (F0 m 146 ls []) := by
      refine lp_ind ?_
      intro rec146 ih146
      intro z146 h ad hz H locs ls hw hl
      unfold M_X6_chance_l146 at h
      refine lv_iload hx hb dX6_chance_146 (lv_at hl 5 rfl) ?_
      refine lv_aload_n hx hb dX6_chance_148 rfl (lv_at hl 0 rfl) ?_
      refine lv_iload_n hx hb dX6_chance_149 rfl (lv_at hl 1 rfl) ?_
      obtain ⟨r150, h150, h⟩ := bnd h
      refine g_calli0 (isC := [0]) (gn := fun _ => [wRM g ad eK eT z146.1]) (g_runV (isC := [0]) (rest := [.int z146.2.2]) (As := [.int p1]) X hw (c_X6_all l (ad := ad) (eK := eK) (eT := eT) h150) rfl kM_X6_all ki_X6_all ks_X6_all km_X6_86 ⟨(Nat.le_of_ble_eq_true rfl), (Nat.le_of_ble_eq_true rfl)⟩ ⟨(Nat.le_of_ble_eq_true rfl), (Nat.le_of_ble_eq_true rfl)⟩ rfl rfl ⟨_, _, _, _, rfl, rfl, rfl, rfl⟩ rfl hl.1 rfl (Nat.le_of_ble_eq_true rfl) dX6_chance_150) hw rfl rfl (fun _ => (Nat.le_of_ble_eq_true rfl)) (fun _ => rfl) rfl rfl (fun _ H locs hw => ?_)
      refine lv_icmp_gt (tgt := 169) hx hb dX6_chance_153 (by decide) (fun k153 => ?_) (fun k153 => ?_)
      · have h := itt k153 h
        refine lv_iconst (v := 0) hx hb dX6_chance_169 (by decide) ?_
        refine lv_istore (lv' := [(5, .int (0 : Int32)), (0, .ref (ad 0)), (1, .int p1), (2, .int p2), (3, .int p3), (4, .int z146.2.1)]) hx hb dX6_chance_170 hl (by decide) rfl (fun ls hl => ?_)
        exact L172 N _ h _ hz _ _ _ hw (lv_sub hl [1, 2, 3, 4, 5, 0] rfl)
      · have h := itf k153 h
        refine lv_aload_n hx hb dX6_chance_156 rfl (lv_at hl 0 rfl) ?_
        refine lv_iload_n hx hb dX6_chance_157 rfl (lv_at hl 1 rfl) ?_
        refine lv_iload hx hb dX6_chance_158 (lv_at hl 5 rfl) ?_
        obtain ⟨r160, h160, h⟩ := bnd h
        refine g_callv0 (isC := [0]) (gn := fun _ => [wRM g ad eK eT r160]) (g_runV (isC := [0]) (rest := []) (As := [.int p1, .int z146.2.2]) X hw (c_X6_goesOn l (ad := ad) (eK := eK) (eT := eT) h160) rfl kM_X6_goesOn ki_X6_goesOn ks_X6_goesOn km_X6_292 ⟨(Nat.le_of_ble_eq_true rfl), (Nat.le_of_ble_eq_true rfl)⟩ ⟨(Nat.le_of_ble_eq_true rfl), (Nat.le_of_ble_eq_true rfl)⟩ rfl rfl ⟨_, _, _, _, rfl, rfl, rfl, rfl⟩ rfl hl.1 rfl (Nat.le_of_ble_eq_true rfl) dX6_chance_160) hw rfl rfl (fun _ => (Nat.le_of_ble_eq_true rfl)) (fun _ => rfl) rfl rfl (fun _ H locs hw => ?_)
        refine lv_iinc (v := (z146.2.2 + 1)) (lv' := [(5, .int (z146.2.2 + 1)), (0, .ref (ad 0)), (1, .int p1), (2, .int p2), (3, .int p3), (4, .int z146.2.1)]) hx hb dX6_chance_163 hl (k := 5) rfl rfl (by decide) rfl (fun ls hl => ?_)
        refine lv_goto (tgt := 146) hx hb dX6_chance_166 (by decide) ?_
        exact ih146 _ h _ hz _ _ _ hw (lv_sub hl [1, 2, 3, 4, 5, 0] rfl)
    have L119 : ∀ (n : Nat) (z119 : RM × Int32 × Int32), lp (M_X6_chance_l119 N p1 p2 p3 rec110) n z119 = some out → ∀ ad : Nat → Nat, ad 0 = a → ∀ (H : Heap) (locs : List Loc) (ls : Array Slot), gW g A s.heap [wRM g ad eK eT z119.1] H locs → lv_has ls 6 [(0, .ref (ad 0)), (1, .int p1), (2, .int p2), (3, .int p3), (4, .int z119.2.1), (5, .int z119.2.2)] → W p l e R_X6_chance s m args below meth c H locs 2 2048 Q (F0 m 119 ls []) := by
      refine lp_ind ?_
      intro rec119 ih119
      intro z119 h ad hz H locs ls hw hl
      unfold M_X6_chance_l119 at h
      refine lv_iload hx hb dX6_chance_119 (lv_at hl 5 rfl) ?_
      refine lv_aload_n hx hb dX6_chance_121 rfl (lv_at hl 0 rfl) ?_
      refine lv_iload_n hx hb dX6_chance_122 rfl (lv_at hl 1 rfl) ?_
      obtain ⟨r123, h123, h⟩ := bnd h
      refine g_calli0 (isC := [0]) (gn := fun _ => [wRM g ad eK eT z119.1]) (g_runV (isC := [0]) (rest := [.int z119.2.2]) (As := [.int p1]) X hw (c_X6_all l (ad := ad) (eK := eK) (eT := eT) h123) rfl kM_X6_all ki_X6_all ks_X6_all km_X6_86 ⟨(Nat.le_of_ble_eq_true rfl), (Nat.le_of_ble_eq_true rfl)⟩ ⟨(Nat.le_of_ble_eq_true rfl), (Nat.le_of_ble_eq_true rfl)⟩ rfl rfl ⟨_, _, _, _, rfl, rfl, rfl, rfl⟩ rfl hl.1 rfl (Nat.le_of_ble_eq_true rfl) dX6_chance_123) hw rfl rfl (fun _ => (Nat.le_of_ble_eq_true rfl)) (fun _ => rfl) rfl rfl (fun _ H locs hw => ?_)
      refine lv_icmp_gt (tgt := 143) hx hb dX6_chance_126 (by decide) (fun k126 => ?_) (fun k126 => ?_)
      · have h := itt k126 h
        refine lv_iconst (v := 0) hx hb dX6_chance_143 (by decide) ?_
        refine lv_istore (lv' := [(5, .int (0 : Int32)), (0, .ref (ad 0)), (1, .int p1), (2, .int p2), (3, .int p3), (4, .int z119.2.1)]) hx hb dX6_chance_144 hl (by decide) rfl (fun ls hl => ?_)
        exact L146 N _ h _ hz _ _ _ hw (lv_sub hl [1, 2, 3, 4, 5, 0] rfl)
      · have h := itf k126 h
        refine lv_aload_n hx hb dX6_chance_129 rfl (lv_at hl 0 rfl) ?_
        refine RM_g_parts2 X hw 0 rfl kf_X6_76 dX6_chance_130 ?_
        refine lv_iload hx hb dX6_chance_133 (lv_at hl 5 rfl) ?_
        refine lv_iconst (v := 0) hx hb dX6_chance_135 (by decide) ?_
        obtain ⟨q136, h⟩ := chk h
        refine RM_a_parts2 (gs' := [wRM g ad eK eT (RM_s_parts2 z119.1 (upd (RM_parts2 z119.1) z119.2.2.toNatClampNeg (0 : Int32)))]) X hw 0 rfl q136 dX6_chance_136 rfl (fun H locs hw => ?_)
        refine lv_iinc (v := (z119.2.2 + 1)) (lv' := [(5, .int (z119.2.2 + 1)), (0, .ref (ad 0)), (1, .int p1), (2, .int p2), (3, .int p3), (4, .int z119.2.1)]) hx hb dX6_chance_137 hl (k := 5) rfl rfl (by decide) rfl (fun ls hl => ?_)
        refine lv_goto (tgt := 119) hx hb dX6_chance_140 (by decide) ?_
        exact ih119 _ h _ hz _ _ _ hw (lv_sub hl [1, 2, 3, 4, 5, 0] rfl)
    intro z110 h ad hz H locs ls hw hl
    unfold M_X6_chance_l110 at h
    refine lv_iload hx hb dX6_chance_110 (lv_at hl 4 rfl) ?_
    refine lv_iload_n hx hb dX6_chance_112 rfl (lv_at hl 3 rfl) ?_
    refine lv_icmp_ge (tgt := 208) hx hb dX6_chance_113 (by decide) (fun k113 => ?_) (fun k113 => ?_)
    · have h := itt k113 h
      refine lv_aload_n hx hb dX6_chance_208 rfl (lv_at hl 0 rfl) ?_
      refine RM_g_parts1 X hw 0 rfl kf_X6_73 dX6_chance_209 ?_
      refine lv_iload_n hx hb dX6_chance_212 rfl (lv_at hl 2 rfl) ?_
      obtain ⟨q213, h⟩ := chk h
      refine RM_l_parts1 X hw 0 rfl q213 dX6_chance_213 ?_
      have h := Option.some.inj h
      subst h
      exact hret ⟨ad, hz.trans ha⟩ dX6_chance_214 rfl hw
    · have h := itf k113 h
      refine lv_iconst (v := 0) hx hb dX6_chance_116 (by decide) ?_
      refine lv_istore (lv' := [(5, .int (0 : Int32)), (0, .ref (ad 0)), (1, .int p1), (2, .int p2), (3, .int p3), (4, .int z110.2)]) hx hb dX6_chance_117 hl (by decide) rfl (fun ls hl => ?_)
      exact L119 N _ h _ hz _ _ _ hw (lv_sub hl [1, 2, 3, 4, 5, 0] rfl)
  have L66 : ∀ (n : Nat) (z66 : RM × Int32), lp (M_X6_chance_l66 N p1 p2 p3) n z66 = some out → ∀ ad : Nat → Nat, ad 0 = a → ∀ (H : Heap) (locs : List Loc) (ls : Array Slot), gW g A s.heap [wRM g ad eK eT z66.1] H locs → lv_has ls 6 [(0, .ref (ad 0)), (1, .int p1), (2, .int p2), (3, .int p3), (4, .int z66.2)] → W p l e R_X6_chance s m args below meth c H locs 2 2048 Q (F0 m 66 ls []) := by
    refine lp_ind ?_
    intro rec66 ih66
    have J100 : ∀ (z100 : RM × Int32 × Int32 × Int32), M_X6_chance_j100 N p1 p2 p3 rec66 z100 = some out → ∀ ad : Nat → Nat, ad 0 = a → ∀ (H : Heap) (locs : List Loc) (ls : Array Slot), gW g A s.heap [wRM g ad eK eT z100.1] H locs → lv_has ls 6 [(0, .ref (ad 0)), (1, .int p1), (2, .int p2), (3, .int p3), (4, .int z100.2.1)] → W p l e R_X6_chance s m args below meth c H locs 2 2048 Q (F0 m 100 ls [.int z100.2.2.2, .int z100.2.2.1, .ref (ad 35)]) := by
      intro z100 h ad hz H locs ls hw hl
      unfold M_X6_chance_j100 at h
      obtain ⟨q100, h⟩ := chk h
      refine RM_a_parts1 (gs' := [wRM g ad eK eT (RM_s_parts1 z100.1 (upd (RM_parts1 z100.1) z100.2.2.1.toNatClampNeg z100.2.2.2))]) X hw 0 rfl q100 dX6_chance_100 rfl (fun H locs hw => ?_)
      refine lv_iinc (v := (z100.2.1 + 1)) (lv' := [(4, .int (z100.2.1 + 1)), (0, .ref (ad 0)), (1, .int p1), (2, .int p2), (3, .int p3)]) hx hb dX6_chance_101 hl (k := 4) rfl rfl (by decide) rfl (fun ls hl => ?_)
      refine lv_goto (tgt := 66) hx hb dX6_chance_104 (by decide) ?_
      exact ih66 _ h _ hz _ _ _ hw (lv_sub hl [1, 2, 3, 4, 0] rfl)
    intro z66 h ad hz H locs ls hw hl
    unfold M_X6_chance_l66 at h
    refine lv_iload hx hb dX6_chance_66 (lv_at hl 4 rfl) ?_
    refine lv_aload_n hx hb dX6_chance_68 rfl (lv_at hl 0 rfl) ?_
    refine lv_iload_n hx hb dX6_chance_69 rfl (lv_at hl 1 rfl) ?_
    obtain ⟨r70, h70, h⟩ := bnd h
    refine g_calli0 (isC := [0]) (gn := fun _ => [wRM g ad eK eT z66.1]) (g_runV (isC := [0]) (rest := [.int z66.2]) (As := [.int p1]) X hw (c_X6_all l (ad := ad) (eK := eK) (eT := eT) h70) rfl kM_X6_all ki_X6_all ks_X6_all km_X6_86 ⟨(Nat.le_of_ble_eq_true rfl), (Nat.le_of_ble_eq_true rfl)⟩ ⟨(Nat.le_of_ble_eq_true rfl), (Nat.le_of_ble_eq_true rfl)⟩ rfl rfl ⟨_, _, _, _, rfl, rfl, rfl, rfl⟩ rfl hl.1 rfl (Nat.le_of_ble_eq_true rfl) dX6_chance_70) hw rfl rfl (fun _ => (Nat.le_of_ble_eq_true rfl)) (fun _ => rfl) rfl rfl (fun _ H locs hw => ?_)
    refine lv_icmp_gt (tgt := 107) hx hb dX6_chance_73 (by decide) (fun k73 => ?_) (fun k73 => ?_)
    · have h := itt k73 h
      refine lv_iconst (v := 0) hx hb dX6_chance_107 (by decide) ?_
      refine lv_istore (lv' := [(4, .int (0 : Int32)), (0, .ref (ad 0)), (1, .int p1), (2, .int p2), (3, .int p3)]) hx hb dX6_chance_108 hl (by decide) rfl (fun ls hl => ?_)
      exact L110 N _ h _ hz _ _ _ hw (lv_sub hl [1, 2, 3, 4, 0] rfl)
    · have h := itf k73 h
      refine lv_aload_n hx hb dX6_chance_76 rfl (lv_at hl 0 rfl) ?_
      refine RM_g_parts1 X hw 0 rfl kf_X6_73 dX6_chance_77 ?_
      refine lv_iload hx hb dX6_chance_80 (lv_at hl 4 rfl) ?_
      refine lv_iload hx hb dX6_chance_82 (lv_at hl 4 rfl) ?_
      refine lv_aload_n hx hb dX6_chance_84 rfl (lv_at hl 0 rfl) ?_
      refine RM_g_on X hw 0 rfl kf_X6_43 dX6_chance_85 ?_
      refine lv_iload_n hx hb dX6_chance_88 rfl (lv_at hl 1 rfl) ?_
      obtain ⟨q89, h⟩ := chk h
      refine RM_l_on X hw 0 rfl q89 dX6_chance_89 ?_
      refine lv_icmp_ne (tgt := 99) hx hb dX6_chance_90 (by decide) (fun k90 => ?_) (fun k90 => ?_)
      · have h := itt k90 h
        refine lv_iconst (v := 0) hx hb dX6_chance_99 (by decide) ?_
        exact J100 _ h _ hz _ _ _ hw (lv_sub hl [0, 1, 2, 3, 4] rfl)
      · have h := itf (fun z => z k90) h
        refine lv_ldcw hx hb X.1.2.2.2.1 (gK1 X _ kq_X6_291) dX6_chance_93 ?_
        refine lv_goto (tgt := 100) hx hb dX6_chance_96 (by decide) ?_
        exact J100 _ h _ hz _ _ _ hw (lv_sub hl [0, 1, 2, 3, 4] rfl)
  have J63 : ∀ (z63 : RM), M_X6_chance_j63 N p1 p2 p3 z63 = some out → ∀ ad : Nat → Nat, ad 0 = a → ∀ (H : Heap) (locs : List Loc) (ls : Array Slot), gW g A s.heap [wRM g ad eK eT z63] H locs → lv_has ls 6 [(0, .ref (ad 0)), (1, .int p1), (2, .int p2), (3, .int p3)] → W p l e R_X6_chance s m args below meth c H locs 2 2048 Q (F0 m 63 ls []) := by
    intro z63 h ad hz H locs ls hw hl
    unfold M_X6_chance_j63 at h
    refine lv_iconst (v := 0) hx hb dX6_chance_63 (by decide) ?_
    refine lv_istore (lv' := [(4, .int (0 : Int32)), (0, .ref (ad 0)), (1, .int p1), (2, .int p2), (3, .int p3)]) hx hb dX6_chance_64 hl (by decide) rfl (fun ls hl => ?_)
    exact L66 N _ h _ hz _ _ _ hw (lv_sub hl [1, 2, 3, 4, 0] rfl)
  have J30 : ∀ (z30 : RM), M_X6_chance_j30 N p1 p2 p3 z30 = some out → ∀ (H : Heap) (locs : List Loc) (ls : Array Slot), gW g A s.heap [wRM g ad eK eT z30] H locs → lv_has ls 6 [(0, .ref (ad 0))] → W p l e R_X6_chance s m args below meth c H locs 0 0 Q (F0 m 30 ls []) := by
    intro z30 h H locs ls hw hl
    unfold M_X6_chance_j30 at h
    refine lv_aload_n hx hb dX6_chance_30 rfl (lv_at hl 0 rfl) ?_
    refine lv_bipush (v := -2) hx hb dX6_chance_31 (by decide) ?_
    obtain ⟨r33, h33, h⟩ := bnd h
    refine g_calli0 (isC := [0]) (gn := fun _ => [wRM g ad eK eT r33.2]) (g_runV (isC := [0]) (rest := []) (As := [.int (-2 : Int32)]) X hw (c_X6_refuse l (ad := ad) (eK := eK) (eT := eT) h33) rfl kM_X6_refuse ki_X6_refuse ks_X6_refuse km_X6_96 ⟨(Nat.le_of_ble_eq_true rfl), (Nat.le_of_ble_eq_true rfl)⟩ ⟨(Nat.le_of_ble_eq_true rfl), (Nat.le_of_ble_eq_true rfl)⟩ rfl rfl ⟨_, _, _, _, rfl, rfl, rfl, rfl⟩ rfl hl.1 rfl (Nat.le_of_ble_eq_true rfl) dX6_chance_33) hw rfl rfl (fun _ => (Nat.le_of_ble_eq_true rfl)) (fun _ => rfl) rfl rfl (fun _ H locs hw => ?_)
    have h := Option.some.inj h
    subst h
    refine W.widen (k := 2) (n := 2048) (Nat.le_of_ble_eq_true rfl) (Nat.le_of_ble_eq_true rfl) ?_
    exact hret ⟨ad, hz.trans ha⟩ dX6_chance_36 rfl hw
  unfold M_X6_chance at h
  refine lv_aload_n hx hb dX6_chance_0 rfl (lv_at hl 0 rfl) ?_
  refine lv_iload_n hx hb dX6_chance_1 rfl (lv_at hl 1 rfl) ?_
  obtain ⟨r2, h2, h⟩ := bnd h
  refine g_calli0 (isC := [0]) (gn := fun _ => [wRM g ad eK eT rm]) (g_runV (isC := [0]) (rest := []) (As := [.int p1]) X hw (c_X6_isBar l (ad := ad) (eK := eK) (eT := eT) h2) rfl kM_X6_isBar ki_X6_isBar ks_X6_isBar km_X6_106 ⟨(Nat.le_of_ble_eq_true rfl), (Nat.le_of_ble_eq_true rfl)⟩ ⟨(Nat.le_of_ble_eq_true rfl), (Nat.le_of_ble_eq_true rfl)⟩ rfl rfl ⟨_, _, _, _, rfl, rfl, rfl, rfl⟩ rfl hl.1 rfl (Nat.le_of_ble_eq_true rfl) dX6_chance_2) hw rfl rfl (fun _ => (Nat.le_of_ble_eq_true rfl)) (fun _ => rfl) rfl rfl (fun _ H locs hw => ?_)
  refine lv_if_eq (tgt := 30) hx hb dX6_chance_5 (by decide) (fun k5 => ?_) (fun k5 => ?_)
  · have h := itt k5 h
    exact J30 _ h _ _ _ hw (lv_sub hl [0] rfl)
  · have h := itf k5 h
    refine lv_aload_n hx hb dX6_chance_8 rfl (lv_at hl 0 rfl) ?_
    refine lv_iload_n hx hb dX6_chance_9 rfl (lv_at hl 1 rfl) ?_
    refine lv_iload_n hx hb dX6_chance_10 rfl (lv_at hl 2 rfl) ?_
    refine lv_i2l (v := p2.toInt64) hx hb dX6_chance_11 rfl ?_
    obtain ⟨r12, h12, h⟩ := bnd h
    refine g_calli0 (isC := [0]) (gn := fun _ => [wRM g ad eK eT rm]) (g_runV (isC := [0]) (rest := []) (As := [.int p1, .long p2.toInt64]) X hw (c_X6_isSet l (ad := ad) (eK := eK) (eT := eT) h12) rfl kM_X6_isSet ki_X6_isSet ks_X6_isSet km_X6_144 ⟨(Nat.le_of_ble_eq_true rfl), (Nat.le_of_ble_eq_true rfl)⟩ ⟨(Nat.le_of_ble_eq_true rfl), (Nat.le_of_ble_eq_true rfl)⟩ rfl rfl ⟨_, _, _, _, rfl, rfl, rfl, rfl⟩ rfl hl.1 rfl (Nat.le_of_ble_eq_true rfl) dX6_chance_12) hw rfl rfl (fun _ => (Nat.le_of_ble_eq_true rfl)) (fun _ => rfl) rfl rfl (fun _ H locs hw => ?_)
    refine lv_if_eq (tgt := 30) hx hb dX6_chance_15 (by decide) (fun k15 => ?_) (fun k15 => ?_)
    · have h := itt k15 h
      exact J30 _ h _ _ _ hw (lv_sub hl [0] rfl)
    · have h := itf k15 h
      refine lv_iload_n hx hb dX6_chance_18 rfl (lv_at hl 3 rfl) ?_
      refine lv_i2l (v := p3.toInt64) hx hb dX6_chance_19 rfl ?_
      refine lv_lconst (v := 0) hx hb dX6_chance_20 (by decide) ?_
      refine lv_ldc2 hx hb X.1.2.2.2.1 (gK1 X _ kq_X6_210) dX6_chance_21 ?_
      obtain ⟨r24, h24, h⟩ := bnd h
      refine g_calli0 (isC := []) (gn := fun _ => [wRM g ad eK eT rm]) (g_runS (isC := []) (rest := []) (As := [.long p3.toInt64, .long (0 : Int64), .long (20 : Int64)]) X hw (c_X6_in l h24) rfl kM_X6_in kt_X6_in km_X6_82 ⟨(Nat.le_of_ble_eq_true rfl), (Nat.le_of_ble_eq_true rfl)⟩ ⟨(Nat.le_of_ble_eq_true rfl), (Nat.le_of_ble_eq_true rfl)⟩ rfl rfl rfl hl.1 rfl (Nat.le_of_ble_eq_true rfl) dX6_chance_24) hw rfl rfl (fun _ => (Nat.le_of_ble_eq_true rfl)) (fun _ => rfl) rfl rfl (fun _ H locs hw => ?_)
      refine lv_if_ne (tgt := 37) hx hb dX6_chance_27 (by decide) (fun k27 => ?_) (fun k27 => ?_)
      · have h := itt k27 h
        refine lv_aload_n hx hb dX6_chance_37 rfl (lv_at hl 0 rfl) ?_
        refine RM_g_parts1 X hw 0 rfl kf_X6_73 dX6_chance_38 ?_
        refine RM_n_parts1 X hw 0 rfl dX6_chance_41 ?_
        refine lv_if_ne (tgt := 63) hx hb dX6_chance_42 (by decide) (fun k42 => ?_) (fun k42 => ?_)
        · have h := itt k42 h
          refine W.widen (k := 2) (n := 2048) (Nat.le_of_ble_eq_true rfl) (Nat.le_of_ble_eq_true rfl) ?_
          exact J63 _ h _ hz _ _ _ hw (lv_sub hl [0, 1, 2, 3] rfl)
        · have h := itf (fun z => z k42) h
          refine lv_aload_n hx hb dX6_chance_45 rfl (lv_at hl 0 rfl) ?_
          refine lv_sipush (v := 1024) hx hb dX6_chance_46 (by decide) ?_
          refine g_newI (N := 1024) X hw (by decide) (by decide) (Nat.le_of_ble_eq_true rfl) (Nat.le_of_ble_eq_true rfl) (Nat.le_of_ble_eq_true rfl) dX6_chance_49 (fun q1 H hw => ?_)
          refine g_put X hw 0 0 rfl rfl rfl in_X6 tyX6 tyX6_ok nmX6 31 (by decide) kf_X6_73 rfl (ty := .array .int) rfl rfl rfl (Nat.le_of_ble_eq_true rfl) dX6_chance_51 rfl (fun H locs hw => ?_)
          refine lv_aload_n hx hb dX6_chance_54 rfl (lv_at hl 0 rfl) ?_
          refine lv_sipush (v := 1024) hx hb dX6_chance_55 (by decide) ?_
          refine g_newI (N := 1024) X hw (by decide) (by decide) (Nat.le_of_ble_eq_true rfl) (Nat.le_of_ble_eq_true rfl) (Nat.le_of_ble_eq_true rfl) dX6_chance_58 (fun q2 H hw => ?_)
          refine g_put X hw 0 0 rfl rfl rfl in_X6 tyX6 tyX6_ok nmX6 32 (by decide) kf_X6_76 rfl (ty := .array .int) rfl rfl rfl (Nat.le_of_ble_eq_true rfl) dX6_chance_60 rfl (fun H locs hw => ?_)
          have hw : gW g A s.heap [wRM1 g ad eK eT rm q1 q2, [(q1, .inl (g.2.1, 1024, .inl (fun _ => 0)))], [(q2, .inl (g.2.1, 1024, .inl (fun _ => 0)))]] H locs := hw
          have hw := hw.regroup (gs' := [wRM g (adP q1 q2 ad) eK eT (RM_alloc rm)]) [0, 1, 2, 3, 4, 5, 6, 7, 8, 9, 10, 11, 12, 13, 14, 15, 16, 17, 18, 19, 20, 21, 22, 23, 24, 25, 26, 27, 28, 29, 30, 31, 32, 33, 34, 37, 38] (by decide +kernel) wRM_alloc
          exact J63 _ h _ (show adP q1 q2 ad 0 = a from hz) _ _ _ hw (lv_sub hl [0, 1, 2, 3] rfl)
      · have h := itf (fun z => z k27) h
        exact J30 _ h _ _ _ hw (lv_sub hl [0] rfl)
theorem kM_X6_bars : kM yX6_bars cX6_bars 2 (some FieldType.int) 0 := ⟨kc_X6_bars, kn_RingsOffModel, by decide +kernel⟩
abbrev R_X6_bars_s : Room := { frames := 8, cells := 0, slots := 0, locals := 223 }
set_option maxHeartbeats 4000000 in
set_option maxRecDepth 100000 in
theorem c_X6_bars_s (l : Launch) {ad : Nat → Nat} {adT : Nat → Nat} {eK : Option Nat} {eK1 : Option Nat} {eT1 : Option Nat} {N : Nat} {rm : RM} {rt : RM} {out : Int32 × RM × RM} (h : M_X6_bars_s N rm rt = some out) : gM l yX6_bars cX6_bars 2 (some FieldType.int) R_X6_bars_s (fun _ => [.ref (ad 0)]) (fun g => [wRM g ad eK (some (adT 0)) rm, wRM g adT eK1 eT1 rt]) (gQi (fun (_ : Unit) => out.1) (fun g (_ : Unit) => [wRM g ad eK (some (adT 0)) out.2.1, wRM g adT eK1 eT1 out.2.2])) := by
  refine gM.ofi (by decide +kernel) (fun _ => Nat.le_of_ble_eq_true rfl) (fun g p e s m args below meth c A ls Q X hret hw hl => ?_)
  have hx := X.1.1
  have hb := X.1.2.1
  have hl : lv_has ls 2 [(0, .ref (ad 0))] := hl
  have J18 : ∀ (z18 : RM × RM), M_X6_bars_s_j18 N z18 = some out → ∀ (H : Heap) (locs : List Loc) (ls : Array Slot), gW g A s.heap [wRM g ad eK (some (adT 0)) z18.1, wRM g adT eK1 eT1 z18.2] H locs → lv_has ls 2 [(0, .ref (ad 0))] → W p l e R_X6_bars_s s m args below meth c H locs 0 0 Q (F0 m 18 ls []) := by
    intro z18 h H locs ls hw hl
    unfold M_X6_bars_s_j18 at h
    refine lv_aload_n hx hb dX6_bars_18 rfl (lv_at hl 0 rfl) ?_
    refine RM_g_tried X hw 0 rfl kf_X6_241 dX6_bars_19 ?_
    refine lv_aload_n hx hb dX6_bars_22 rfl (lv_at hl 0 rfl) ?_
    obtain ⟨r23, h23, h⟩ := bnd h
    refine g_callv0 (isC := [1, 0]) (gn := fun _ => [wRM g ad eK (some (adT 0)) z18.1, wRM g adT eK1 eT1 r23]) (g_runV (isC := [1, 0]) (rest := []) (As := [.ref (ad 0)]) X hw (c_X6_takeFrom l (ad := adT) (eK := eK1) (eT := eT1) (ad1 := ad) (eK1 := eK) (eT1 := (some (adT 0))) h23) rfl kM_X6_takeFrom ki_X6_takeFrom ks_X6_takeFrom km_X6_246 ⟨(Nat.le_of_ble_eq_true rfl), (Nat.le_of_ble_eq_true rfl)⟩ ⟨(Nat.le_of_ble_eq_true rfl), (Nat.le_of_ble_eq_true rfl)⟩ rfl rfl ⟨_, _, _, _, rfl, rfl, rfl, rfl⟩ rfl hl.1 rfl (Nat.le_of_ble_eq_true rfl) dX6_bars_23) hw rfl rfl (fun _ => (Nat.le_of_ble_eq_true rfl)) (fun _ => rfl) rfl rfl (fun _ H locs hw => ?_)
    refine lv_aload_n hx hb dX6_bars_26 rfl (lv_at hl 0 rfl) ?_
    obtain ⟨r27, h27, h⟩ := bnd h
    refine g_calli0 (isC := [0]) (gn := fun _ => [wRM g ad eK (some (adT 0)) r27.2, wRM g adT eK1 eT1 r23]) (g_runV (isC := [0]) (rest := []) (As := []) X hw (c_X6_readAll l (ad := ad) (eK := eK) (eT := (some (adT 0))) h27) rfl kM_X6_readAll ki_X6_readAll ks_X6_readAll km_X6_250 ⟨(Nat.le_of_ble_eq_true rfl), (Nat.le_of_ble_eq_true rfl)⟩ ⟨(Nat.le_of_ble_eq_true rfl), (Nat.le_of_ble_eq_true rfl)⟩ rfl rfl ⟨_, _, _, _, rfl, rfl, rfl, rfl⟩ rfl hl.1 rfl (Nat.le_of_ble_eq_true rfl) dX6_bars_27) hw rfl rfl (fun _ => (Nat.le_of_ble_eq_true rfl)) (fun _ => rfl) rfl rfl (fun _ H locs hw => ?_)
    refine lv_istore_n (lv' := [(1, .int r27.1), (0, .ref (ad 0))]) hx hb dX6_bars_30 rfl hl (by decide) rfl (fun ls hl => ?_)
    refine lv_aload_n hx hb dX6_bars_31 rfl (lv_at hl 1 rfl) ?_
    refine lv_iconst (v := 0) hx hb dX6_bars_32 (by decide) ?_
    refine RM_p_tapeSize (gs' := [wRM g ad eK (some (adT 0)) (RM_s_tapeSize r27.2 (0 : Int32)), wRM g adT eK1 eT1 r23]) X hw 0 rfl kf_X6_157 dX6_bars_33 rfl (fun H locs hw => ?_)
    refine lv_iload_n hx hb dX6_bars_36 rfl (lv_at hl 0 rfl) ?_
    refine lv_if_ne (tgt := 63) hx hb dX6_bars_37 (by decide) (fun k37 => ?_) (fun k37 => ?_)
    · have h := itt k37 h
      refine lv_aload_n hx hb dX6_bars_63 rfl (lv_at hl 1 rfl) ?_
      refine RM_g_statements X hw 0 rfl kf_X6_235 dX6_bars_64 ?_
      have h := Option.some.inj h
      subst h
      exact hret () dX6_bars_67 rfl hw
    · have h := itf (fun z => z k37) h
      refine lv_aload_n hx hb dX6_bars_40 rfl (lv_at hl 1 rfl) ?_
      refine lv_aload_n hx hb dX6_bars_41 rfl (lv_at hl 1 rfl) ?_
      refine RM_g_tried X hw 0 rfl kf_X6_241 dX6_bars_42 ?_
      obtain ⟨r45, h45, h⟩ := bnd h
      refine g_callv0 (isC := [0, 1]) (gn := fun _ => [wRM g ad eK (some (adT 0)) r45, wRM g adT eK1 eT1 r23]) (g_runV (isC := [0, 1]) (rest := []) (As := [.ref (adT 0)]) X hw (c_X6_takeFrom l (ad := ad) (eK := eK) (eT := (some (adT 0))) (ad1 := adT) (eK1 := eK1) (eT1 := eT1) h45) rfl kM_X6_takeFrom ki_X6_takeFrom ks_X6_takeFrom km_X6_246 ⟨(Nat.le_of_ble_eq_true rfl), (Nat.le_of_ble_eq_true rfl)⟩ ⟨(Nat.le_of_ble_eq_true rfl), (Nat.le_of_ble_eq_true rfl)⟩ rfl rfl ⟨_, _, _, _, rfl, rfl, rfl, rfl⟩ rfl hl.1 rfl (Nat.le_of_ble_eq_true rfl) dX6_bars_45) hw rfl rfl (fun _ => (Nat.le_of_ble_eq_true rfl)) (fun _ => rfl) rfl rfl (fun _ H locs hw => ?_)
      refine lv_aload_n hx hb dX6_bars_48 rfl (lv_at hl 1 rfl) ?_
      refine lv_bipush (v := -2) hx hb dX6_bars_49 (by decide) ?_
      obtain ⟨r51, h51, h⟩ := bnd h
      refine g_calli0 (isC := [0]) (gn := fun _ => [wRM g ad eK (some (adT 0)) r51.2, wRM g adT eK1 eT1 r23]) (g_runV (isC := [0]) (rest := []) (As := [.int (-2 : Int32)]) X hw (c_X6_refuse l (ad := ad) (eK := eK) (eT := (some (adT 0))) h51) rfl kM_X6_refuse ki_X6_refuse ks_X6_refuse km_X6_96 ⟨(Nat.le_of_ble_eq_true rfl), (Nat.le_of_ble_eq_true rfl)⟩ ⟨(Nat.le_of_ble_eq_true rfl), (Nat.le_of_ble_eq_true rfl)⟩ rfl rfl ⟨_, _, _, _, rfl, rfl, rfl, rfl⟩ rfl hl.1 rfl (Nat.le_of_ble_eq_true rfl) dX6_bars_51) hw rfl rfl (fun _ => (Nat.le_of_ble_eq_true rfl)) (fun _ => rfl) rfl rfl (fun _ H locs hw => ?_)
      refine lv_pop hx hb dX6_bars_54 rfl ?_
      refine lv_bipush (v := -20) hx hb dX6_bars_55 (by decide) ?_
      refine lv_aload_n hx hb dX6_bars_57 rfl (lv_at hl 1 rfl) ?_
      refine RM_g_fault X hw 0 rfl kf_X6_179 dX6_bars_58 ?_
      refine lv_isub hx hb dX6_bars_61 ?_
      have h := Option.some.inj h
      subst h
      exact hret () dX6_bars_62 rfl hw
  unfold M_X6_bars_s at h
  refine lv_aload_n hx hb dX6_bars_0 rfl (lv_at hl 0 rfl) ?_
  refine RM_g_tried X hw 0 rfl kf_X6_241 dX6_bars_1 ?_
  refine lv_ifnonnull (tgt := 18) hx hb dX6_bars_4 (by decide) ?_
  exact J18 _ h _ _ _ hw (lv_sub hl [0] rfl)
abbrev R_X6_bars_n : Room := { frames := 8, cells := 37, slots := 2859, locals := 223 }
set_option maxHeartbeats 4000000 in
set_option maxRecDepth 100000 in
theorem c_X6_bars_n (l : Launch) {ad : Nat → Nat} {eK : Option Nat} {N : Nat} {rm : RM} {out : Int32 × RM × Option RM} (h : M_X6_bars_n N rm = some out) : gM l yX6_bars cX6_bars 2 (some FieldType.int) R_X6_bars_n (fun _ => [.ref (ad 0)]) (fun g => [wRM g ad eK none rm]) (gQi (fun (u : Nat → Nat) => out.1) (fun g (u : Nat → Nat) => oT g ad eK out.2.1 u out.2.2)) := by
  refine gM.ofi (by decide +kernel) (fun _ => Nat.le_of_ble_eq_true rfl) (fun g p e s m args below meth c A ls Q X hret hw hl => ?_)
  have hx := X.1.1
  have hb := X.1.2.1
  have hl : lv_has ls 2 [(0, .ref (ad 0))] := hl
  have J100018 : ∀ (z100018 : RM × RM), M_X6_bars_n_j100018 N z100018 = some out → ∀ u : Nat → Nat, ∀ (H : Heap) (locs : List Loc) (ls : Array Slot), gW g A s.heap [wRM g ad eK (some (u 0)) z100018.1, wRM g u none none z100018.2] H locs → lv_has ls 2 [(0, .ref (ad 0))] → W p l e R_X6_bars_n s m args below meth c H locs 37 2859 Q (F0 m 18 ls []) := by
    intro z100018 h u H locs ls hw hl
    unfold M_X6_bars_n_j100018 at h
    refine lv_aload_n hx hb dX6_bars_18 rfl (lv_at hl 0 rfl) ?_
    refine RM_g_tried X hw 0 rfl kf_X6_241 dX6_bars_19 ?_
    refine lv_aload_n hx hb dX6_bars_22 rfl (lv_at hl 0 rfl) ?_
    obtain ⟨r23, h23, h⟩ := bnd h
    refine g_callv0 (isC := [1, 0]) (gn := fun _ => [wRM g ad eK (some (u 0)) z100018.1, wRM g u none none r23]) (g_runV (isC := [1, 0]) (rest := []) (As := [.ref (ad 0)]) X hw (c_X6_takeFrom l (ad := u) (eK := none) (eT := none) (ad1 := ad) (eK1 := eK) (eT1 := (some (u 0))) h23) rfl kM_X6_takeFrom ki_X6_takeFrom ks_X6_takeFrom km_X6_246 ⟨(Nat.le_of_ble_eq_true rfl), (Nat.le_of_ble_eq_true rfl)⟩ ⟨(Nat.le_of_ble_eq_true rfl), (Nat.le_of_ble_eq_true rfl)⟩ rfl rfl ⟨_, _, _, _, rfl, rfl, rfl, rfl⟩ rfl hl.1 rfl (Nat.le_of_ble_eq_true rfl) dX6_bars_23) hw rfl rfl (fun _ => (Nat.le_of_ble_eq_true rfl)) (fun _ => rfl) rfl rfl (fun _ H locs hw => ?_)
    refine lv_aload_n hx hb dX6_bars_26 rfl (lv_at hl 0 rfl) ?_
    obtain ⟨r27, h27, h⟩ := bnd h
    refine g_calli0 (isC := [0]) (gn := fun _ => [wRM g ad eK (some (u 0)) r27.2, wRM g u none none r23]) (g_runV (isC := [0]) (rest := []) (As := []) X hw (c_X6_readAll l (ad := ad) (eK := eK) (eT := (some (u 0))) h27) rfl kM_X6_readAll ki_X6_readAll ks_X6_readAll km_X6_250 ⟨(Nat.le_of_ble_eq_true rfl), (Nat.le_of_ble_eq_true rfl)⟩ ⟨(Nat.le_of_ble_eq_true rfl), (Nat.le_of_ble_eq_true rfl)⟩ rfl rfl ⟨_, _, _, _, rfl, rfl, rfl, rfl⟩ rfl hl.1 rfl (Nat.le_of_ble_eq_true rfl) dX6_bars_27) hw rfl rfl (fun _ => (Nat.le_of_ble_eq_true rfl)) (fun _ => rfl) rfl rfl (fun _ H locs hw => ?_)
    refine lv_istore_n (lv' := [(1, .int r27.1), (0, .ref (ad 0))]) hx hb dX6_bars_30 rfl hl (by decide) rfl (fun ls hl => ?_)
    refine lv_aload_n hx hb dX6_bars_31 rfl (lv_at hl 1 rfl) ?_
    refine lv_iconst (v := 0) hx hb dX6_bars_32 (by decide) ?_
    refine RM_p_tapeSize (gs' := [wRM g ad eK (some (u 0)) (RM_s_tapeSize r27.2 (0 : Int32)), wRM g u none none r23]) X hw 0 rfl kf_X6_157 dX6_bars_33 rfl (fun H locs hw => ?_)
    refine lv_iload_n hx hb dX6_bars_36 rfl (lv_at hl 0 rfl) ?_
    refine lv_if_ne (tgt := 63) hx hb dX6_bars_37 (by decide) (fun k37 => ?_) (fun k37 => ?_)
    · have h := itt k37 h
      refine lv_aload_n hx hb dX6_bars_63 rfl (lv_at hl 1 rfl) ?_
      refine RM_g_statements X hw 0 rfl kf_X6_235 dX6_bars_64 ?_
      have h := Option.some.inj h
      subst h
      exact hret u dX6_bars_67 rfl hw
    · have h := itf (fun z => z k37) h
      refine lv_aload_n hx hb dX6_bars_40 rfl (lv_at hl 1 rfl) ?_
      refine lv_aload_n hx hb dX6_bars_41 rfl (lv_at hl 1 rfl) ?_
      refine RM_g_tried X hw 0 rfl kf_X6_241 dX6_bars_42 ?_
      obtain ⟨r45, h45, h⟩ := bnd h
      refine g_callv0 (isC := [0, 1]) (gn := fun _ => [wRM g ad eK (some (u 0)) r45, wRM g u none none r23]) (g_runV (isC := [0, 1]) (rest := []) (As := [.ref (u 0)]) X hw (c_X6_takeFrom l (ad := ad) (eK := eK) (eT := (some (u 0))) (ad1 := u) (eK1 := none) (eT1 := none) h45) rfl kM_X6_takeFrom ki_X6_takeFrom ks_X6_takeFrom km_X6_246 ⟨(Nat.le_of_ble_eq_true rfl), (Nat.le_of_ble_eq_true rfl)⟩ ⟨(Nat.le_of_ble_eq_true rfl), (Nat.le_of_ble_eq_true rfl)⟩ rfl rfl ⟨_, _, _, _, rfl, rfl, rfl, rfl⟩ rfl hl.1 rfl (Nat.le_of_ble_eq_true rfl) dX6_bars_45) hw rfl rfl (fun _ => (Nat.le_of_ble_eq_true rfl)) (fun _ => rfl) rfl rfl (fun _ H locs hw => ?_)
      refine lv_aload_n hx hb dX6_bars_48 rfl (lv_at hl 1 rfl) ?_
      refine lv_bipush (v := -2) hx hb dX6_bars_49 (by decide) ?_
      obtain ⟨r51, h51, h⟩ := bnd h
      refine g_calli0 (isC := [0]) (gn := fun _ => [wRM g ad eK (some (u 0)) r51.2, wRM g u none none r23]) (g_runV (isC := [0]) (rest := []) (As := [.int (-2 : Int32)]) X hw (c_X6_refuse l (ad := ad) (eK := eK) (eT := (some (u 0))) h51) rfl kM_X6_refuse ki_X6_refuse ks_X6_refuse km_X6_96 ⟨(Nat.le_of_ble_eq_true rfl), (Nat.le_of_ble_eq_true rfl)⟩ ⟨(Nat.le_of_ble_eq_true rfl), (Nat.le_of_ble_eq_true rfl)⟩ rfl rfl ⟨_, _, _, _, rfl, rfl, rfl, rfl⟩ rfl hl.1 rfl (Nat.le_of_ble_eq_true rfl) dX6_bars_51) hw rfl rfl (fun _ => (Nat.le_of_ble_eq_true rfl)) (fun _ => rfl) rfl rfl (fun _ H locs hw => ?_)
      refine lv_pop hx hb dX6_bars_54 rfl ?_
      refine lv_bipush (v := -20) hx hb dX6_bars_55 (by decide) ?_
      refine lv_aload_n hx hb dX6_bars_57 rfl (lv_at hl 1 rfl) ?_
      refine RM_g_fault X hw 0 rfl kf_X6_179 dX6_bars_58 ?_
      refine lv_isub hx hb dX6_bars_61 ?_
      have h := Option.some.inj h
      subst h
      exact hret u dX6_bars_62 rfl hw
  unfold M_X6_bars_n at h
  refine lv_aload_n hx hb dX6_bars_0 rfl (lv_at hl 0 rfl) ?_
  refine RM_g_tried X hw 0 rfl kf_X6_241 dX6_bars_1 ?_
  refine lv_ifnonnullN hx hb dX6_bars_4 ?_
  refine lv_aload_n hx hb dX6_bars_7 rfl (lv_at hl 0 rfl) ?_
  refine g_newRM X hw kl_X6_8 (Nat.le_of_ble_eq_true rfl) (Nat.le_of_ble_eq_true rfl) dX6_bars_8 (fun q8 H locs hw => ?_)
  refine lv_dup hx hb dX6_bars_11 rfl ?_
  refine g_callv (isC := [1]) (gn := fun u12 => [wRM g ad eK none rm, wRM g (adq q8 u12) none none RM0]) (g_runI (isC := [1]) (rest := [.ref q8, .ref (ad 0)]) (As := []) X hw (c_X6_init l (q := q8)) rfl kM_X6_init ki_X6_init rfl km_X6_245 ⟨(Nat.le_of_ble_eq_true rfl), (Nat.le_of_ble_eq_true rfl)⟩ ⟨(Nat.le_of_ble_eq_true rfl), (Nat.le_of_ble_eq_true rfl)⟩ rfl rfl rfl hl.1 rfl (Nat.le_of_ble_eq_true rfl) dX6_bars_12) hw rfl rfl (fun _ => (Nat.le_of_ble_eq_true rfl)) (fun _ => rfl) (fun u12 H locs hw => ?_)
  refine W.widen (k := 37) (n := 2859) (Nat.le_of_ble_eq_true rfl) (Nat.le_of_ble_eq_true rfl) ?_
  refine RM_p_tried (gs' := [wRM g ad eK (some ((adq q8 u12) 0)) rm, wRM g (adq q8 u12) none none RM0]) X hw 0 rfl kf_X6_241 dX6_bars_15 rfl (fun H locs hw => ?_)
  exact J100018 _ h _ _ _ _ hw (lv_sub hl [0] rfl)
theorem kM_X2_chanceOf : kM yX2_chanceOf cX2_chanceOf 6 (some FieldType.int) 3 := ⟨kc_X2_chanceOf, kn_RingsOff_Search, by decide +kernel⟩
abbrev R_X2_chanceOf : Room := { frames := 3, cells := 0, slots := 0, locals := 69 }
set_option maxHeartbeats 4000000 in
set_option maxRecDepth 100000 in
theorem c_X2_chanceOf (l : Launch) {ad : Nat → Nat} {N : Nat} {se : SE} {p1 : Int32} {p2 : Int32} {p3 : Int32} {out : Int32 × SE} (h : M_X2_chanceOf N se p1 p2 p3 = some out) : gM l yX2_chanceOf cX2_chanceOf 6 (some FieldType.int) R_X2_chanceOf (fun _ => [.ref (ad 0), .int p1, .int p2, .int p3]) (fun g => [wSE g ad se]) (gQi (fun (u : Bool) => out.1) (fun g (u : Bool) => [wSE g (swB u ad) out.2])) := by
  refine gM.ofi (by decide +kernel) (fun _ => Nat.le_of_ble_eq_true rfl) (fun g p e s m args below meth c A ls Q X hret hw hl => ?_)
  have hx := X.1.1
  have hb := X.1.2.1
  have L37 : ∀ (n : Nat) (z37 : SE × Int32), lp (M_X2_chanceOf_l37 N p1 p2 p3) n z37 = some out → ∀ (b : Bool) (H : Heap) (locs : List Loc) (ls : Array Slot), gW g A s.heap [wSE g (swB b ad) z37.1] H locs → lv_has ls 6 [(0, .ref ((swB b ad) 0)), (2, .int p2), (3, .int p3), (4, .int z37.2)] → W p l e R_X2_chanceOf s m args below meth c H locs 0 0 Q (F0 m 37 ls []) := by
    refine lp_ind ?_
    intro rec37 ih37
    have J100 : ∀ (z100 : SE × Int32), M_X2_chanceOf_j100 N p1 p2 p3 rec37 z100 = some out → ∀ (b : Bool) (H : Heap) (locs : List Loc) (ls : Array Slot), gW g A s.heap [wSE g (swB b ad) z100.1] H locs → lv_has ls 6 [(0, .ref ((swB b ad) 0)), (2, .int p2), (3, .int p3), (4, .int z100.2)] → W p l e R_X2_chanceOf s m args below meth c H locs 0 0 Q (F0 m 100 ls []) := by
      intro z100 h b H locs ls hw hl
      unfold M_X2_chanceOf_j100 at h
      refine lv_aload_n hx hb dX2_chanceOf_100 rfl (lv_at hl 0 rfl) ?_
      refine SE_g_parts X hw 0 rfl kf_X2_21 dX2_chanceOf_101 ?_
      refine lv_astore (lv' := [(5, .ref ((swB b ad) 4)), (0, .ref ((swB b ad) 0)), (2, .int p2), (3, .int p3), (4, .int z100.2)]) hx hb dX2_chanceOf_104 hl (by decide) rfl (fun ls hl => ?_)
      refine lv_aload_n hx hb dX2_chanceOf_106 rfl (lv_at hl 1 rfl) ?_
      refine lv_aload_n hx hb dX2_chanceOf_107 rfl (lv_at hl 1 rfl) ?_
      refine SE_g_nextParts X hw 0 rfl kf_X2_24 dX2_chanceOf_108 ?_
      refine g_put (gs' := [(wSE g (swB b ad) z100.1).set 0 ((swB b ad) 0, .inr (2, [.ref ((swB b ad) 1), .ref ((swB b ad) 2), .ref ((swB b ad) 3), .ref ((swB b ad) 5), .ref ((swB b ad) 5), .int (SE_size z100.1), .int (SE_sets z100.1), .int (SE_found z100.1)]))]) X hw 0 0 rfl rfl rfl in_X2 tyX2 tyX2_ok nmX2 3 (by decide) kf_X2_21 rfl (ty := .array .int) rfl rfl rfl (Nat.le_of_ble_eq_true rfl) dX2_chanceOf_111 rfl (fun H locs hw => ?_)
      refine lv_aload_n hx hb dX2_chanceOf_114 rfl (lv_at hl 1 rfl) ?_
      refine lv_aload hx hb dX2_chanceOf_115 (lv_at hl 0 rfl) ?_
      refine g_put (gs' := [(wSE g (swB b ad) z100.1).set 0 ((swB b ad) 0, .inr (2, [.ref ((swB b ad) 1), .ref ((swB b ad) 2), .ref ((swB b ad) 3), .ref ((swB b ad) 5), .ref ((swB b ad) 4), .int (SE_size z100.1), .int (SE_sets z100.1), .int (SE_found z100.1)]))]) X hw 0 0 rfl rfl rfl in_X2 tyX2 tyX2_ok nmX2 4 (by decide) kf_X2_24 rfl (ty := .array .int) rfl rfl rfl (Nat.le_of_ble_eq_true rfl) dX2_chanceOf_117 rfl (fun H locs hw => ?_)
      have hw := hw.regroup (gs' := [wSE g (swB (!b) ad) (SE_swp z100.1)]) [0, 1, 2, 3, 5, 4] (by decide) (by cases b <;> rfl)
      refine lv_iinc (v := (z100.2 + 1)) (lv' := [(4, .int (z100.2 + 1)), (5, .ref ((swB b ad) 4)), (0, .ref ((swB b ad) 0)), (2, .int p2), (3, .int p3)]) hx hb dX2_chanceOf_120 hl (k := 4) rfl rfl (by decide) rfl (fun ls hl => ?_)
      refine lv_goto (tgt := 37) hx hb dX2_chanceOf_123 (by decide) ?_
      exact ih37 _ h _ _ _ _ hw (lv_sub hl [2, 3, 4, 0] rfl)
    have L54 : ∀ (n : Nat) (z54 : SE × Int32 × Int32), lp (M_X2_chanceOf_l54 N p1 p2 p3 rec37) n z54 = some out → ∀ (b : Bool) (H : Heap) (locs : List Loc) (ls : Array Slot), gW g A s.heap [wSE g (swB b ad) z54.1] H locs → lv_has ls 6 [(0, .ref ((swB b ad) 0)), (2, .int p2), (3, .int p3), (4, .int z54.2.1), (5, .int z54.2.2)] → W p l e R_X2_chanceOf s m args below meth c H locs 0 0 Q (F0 m 54 ls []) := by
      refine lp_ind ?_
      intro rec54 ih54
      have J94 : ∀ (z94 : SE × Int32 × Int32), M_X2_chanceOf_j94 N p1 p2 p3 rec37 rec54 z94 = some out → ∀ (b : Bool) (H : Heap) (locs : List Loc) (ls : Array Slot), gW g A s.heap [wSE g (swB b ad) z94.1] H locs → lv_has ls 6 [(0, .ref ((swB b ad) 0)), (2, .int p2), (3, .int p3), (4, .int z94.2.1), (5, .int z94.2.2)] → W p l e R_X2_chanceOf s m args below meth c H locs 0 0 Q (F0 m 94 ls []) := by
        intro z94 h b H locs ls hw hl
        unfold M_X2_chanceOf_j94 at h
        refine lv_iinc (v := (z94.2.2 + 1)) (lv' := [(5, .int (z94.2.2 + 1)), (0, .ref ((swB b ad) 0)), (2, .int p2), (3, .int p3), (4, .int z94.2.1)]) hx hb dX2_chanceOf_94 hl (k := 4) rfl rfl (by decide) rfl (fun ls hl => ?_)
        refine lv_goto (tgt := 54) hx hb dX2_chanceOf_97 (by decide) ?_
        exact ih54 _ h _ _ _ _ hw (lv_sub hl [1, 2, 3, 4, 0] rfl)
      intro z54 h b H locs ls hw hl
      unfold M_X2_chanceOf_l54 at h
      refine lv_iload hx hb dX2_chanceOf_54 (lv_at hl 4 rfl) ?_
      refine lv_aload_n hx hb dX2_chanceOf_56 rfl (lv_at hl 0 rfl) ?_
      refine SE_g_sets X hw 0 rfl kf_X2_31 dX2_chanceOf_57 ?_
      refine lv_icmp_ge (tgt := 100) hx hb dX2_chanceOf_60 (by decide) (fun k60 => ?_) (fun k60 => ?_)
      · have h := itt k60 h
        exact J100 _ h _ _ _ _ hw (lv_sub hl [0, 1, 2, 3] rfl)
      · have h := itf k60 h
        refine lv_iload hx hb dX2_chanceOf_63 (lv_at hl 4 rfl) ?_
        refine lv_sipush (v := 1024) hx hb dX2_chanceOf_65 (by decide) ?_
        refine lv_icmp_ge (tgt := 100) hx hb dX2_chanceOf_68 (by decide) (fun k68 => ?_) (fun k68 => ?_)
        · have h := itt k68 h
          exact J100 _ h _ _ _ _ hw (lv_sub hl [0, 1, 2, 3] rfl)
        · have h := itf k68 h
          refine lv_aload_n hx hb dX2_chanceOf_71 rfl (lv_at hl 0 rfl) ?_
          refine SE_g_parts X hw 0 rfl kf_X2_21 dX2_chanceOf_72 ?_
          refine lv_iload hx hb dX2_chanceOf_75 (lv_at hl 4 rfl) ?_
          obtain ⟨q77, h⟩ := chk h
          refine SE_l_parts X hw 0 rfl q77 dX2_chanceOf_77 ?_
          refine lv_if_le (tgt := 94) hx hb dX2_chanceOf_78 (by decide) (fun k78 => ?_) (fun k78 => ?_)
          · have h := itt k78 h
            exact J94 _ h _ _ _ _ hw (lv_sub hl [0, 1, 2, 3, 4] rfl)
          · have h := itf k78 h
            refine lv_aload_n hx hb dX2_chanceOf_81 rfl (lv_at hl 0 rfl) ?_
            refine lv_iload hx hb dX2_chanceOf_82 (lv_at hl 4 rfl) ?_
            refine lv_aload_n hx hb dX2_chanceOf_84 rfl (lv_at hl 0 rfl) ?_
            refine SE_g_parts X hw 0 rfl kf_X2_21 dX2_chanceOf_85 ?_
            refine lv_iload hx hb dX2_chanceOf_88 (lv_at hl 4 rfl) ?_
            obtain ⟨q90, h⟩ := chk h
            refine SE_l_parts X hw 0 rfl q90 dX2_chanceOf_90 ?_
            obtain ⟨r91, h91, h⟩ := bnd h
            refine g_callv0 (isC := [0]) (gn := fun _ => [wSE g (swB b ad) r91]) (g_runV (isC := [0]) (rest := []) (As := [.int z54.2.2, .int (SE_parts z54.1 z54.2.2.toNatClampNeg)]) X hw (c_X2_share l (ad := (swB b ad)) h91) rfl kM_X2_share ki_X2_share ks_X2_share km_X2_112 ⟨(Nat.le_of_ble_eq_true rfl), (Nat.le_of_ble_eq_true rfl)⟩ ⟨(Nat.le_of_ble_eq_true rfl), (Nat.le_of_ble_eq_true rfl)⟩ rfl rfl ⟨_, _, _, _, rfl, rfl, rfl, rfl⟩ rfl hl.1 rfl (Nat.le_of_ble_eq_true rfl) dX2_chanceOf_91) hw rfl rfl (fun _ => (Nat.le_of_ble_eq_true rfl)) (fun _ => rfl) rfl rfl (fun _ H locs hw => ?_)
            exact J94 _ h _ _ _ _ hw (lv_sub hl [0, 1, 2, 3, 4] rfl)
    intro z37 h b H locs ls hw hl
    unfold M_X2_chanceOf_l37 at h
    refine lv_iload hx hb dX2_chanceOf_37 (lv_at hl 3 rfl) ?_
    refine lv_iload_n hx hb dX2_chanceOf_39 rfl (lv_at hl 2 rfl) ?_
    refine lv_icmp_ge (tgt := 126) hx hb dX2_chanceOf_40 (by decide) (fun k40 => ?_) (fun k40 => ?_)
    · have h := itt k40 h
      refine lv_aload_n hx hb dX2_chanceOf_126 rfl (lv_at hl 0 rfl) ?_
      refine SE_g_parts X hw 0 rfl kf_X2_21 dX2_chanceOf_127 ?_
      refine lv_iload_n hx hb dX2_chanceOf_130 rfl (lv_at hl 1 rfl) ?_
      obtain ⟨q131, h⟩ := chk h
      refine SE_l_parts X hw 0 rfl q131 dX2_chanceOf_131 ?_
      have h := Option.some.inj h
      subst h
      exact hret b dX2_chanceOf_132 rfl hw
    · have h := itf k40 h
      refine lv_aload_n hx hb dX2_chanceOf_43 rfl (lv_at hl 0 rfl) ?_
      refine SE_g_nextParts X hw 0 rfl kf_X2_24 dX2_chanceOf_44 ?_
      refine lv_iconst (v := 0) hx hb dX2_chanceOf_47 (by decide) ?_
      refine g_callv0 (isC := [0]) (gn := fun _ => [wSE g (swB b ad) (SE_s_nextParts z37.1 (fillf 1024 (0 : Int32) (SE_nextParts z37.1)))]) (g_runS (isC := [0]) (rest := []) (As := [.ref ((swB b ad) 5), .int (0 : Int32)]) X hw (c_fill l (gs := fun g => [wSE g (swB b ad) z37.1]) (w := fun g => wSE g (swB b ad) z37.1) 0 5 (v := (0 : Int32)) (fun _ => rfl) (fun _ => rfl) (by decide)) rfl kM_J7_fill_53178 kt_J7_fill_53178 km_X2_57 ⟨(Nat.le_of_ble_eq_true rfl), (Nat.le_of_ble_eq_true rfl)⟩ ⟨(Nat.le_of_ble_eq_true rfl), (Nat.le_of_ble_eq_true rfl)⟩ rfl rfl rfl hl.1 rfl (Nat.le_of_ble_eq_true rfl) dX2_chanceOf_48) hw rfl rfl (fun _ => (Nat.le_of_ble_eq_true rfl)) (fun _ => rfl) rfl rfl (fun _ H locs hw => ?_)
      refine lv_iconst (v := 0) hx hb dX2_chanceOf_51 (by decide) ?_
      refine lv_istore (lv' := [(5, .int (0 : Int32)), (0, .ref ((swB b ad) 0)), (2, .int p2), (3, .int p3), (4, .int z37.2)]) hx hb dX2_chanceOf_52 hl (by decide) rfl (fun ls hl => ?_)
      exact L54 N _ h _ _ _ _ hw (lv_sub hl [1, 2, 3, 4, 0] rfl)
  have key : ∀ (b : Bool), gW g A s.heap [wSE g (swB b ad) se] s.heap [] → W p l e R_X2_chanceOf s m args below meth c s.heap [] 0 0 Q (F0 m 0 ls []) := by
    intro b hw
    have hl : lv_has ls 6 [(0, .ref ((swB b ad) 0)), (1, .int p1), (2, .int p2), (3, .int p3)] := hl
    unfold M_X2_chanceOf at h
    refine lv_aload_n hx hb dX2_chanceOf_0 rfl (lv_at hl 0 rfl) ?_
    refine lv_iload_n hx hb dX2_chanceOf_1 rfl (lv_at hl 1 rfl) ?_
    obtain ⟨r2, h2, h⟩ := bnd h
    refine g_calli0 (isC := [0]) (gn := fun _ => [wSE g (swB b ad) se]) (g_runV (isC := [0]) (rest := []) (As := [.int p1]) X hw (c_X2_isSet l (ad := (swB b ad)) h2) rfl kM_X2_isSet ki_X2_isSet ks_X2_isSet km_X2_53 ⟨(Nat.le_of_ble_eq_true rfl), (Nat.le_of_ble_eq_true rfl)⟩ ⟨(Nat.le_of_ble_eq_true rfl), (Nat.le_of_ble_eq_true rfl)⟩ rfl rfl ⟨_, _, _, _, rfl, rfl, rfl, rfl⟩ rfl hl.1 rfl (Nat.le_of_ble_eq_true rfl) dX2_chanceOf_2) hw rfl rfl (fun _ => (Nat.le_of_ble_eq_true rfl)) (fun _ => rfl) rfl rfl (fun _ H locs hw => ?_)
    refine lv_if_eq (tgt := 16) hx hb dX2_chanceOf_5 (by decide) (fun k5 => ?_) (fun k5 => ?_)
    · have h := itt k5 h
      refine lv_iconst (v := 0) hx hb dX2_chanceOf_16 (by decide) ?_
      have h := Option.some.inj h
      subst h
      exact hret b dX2_chanceOf_17 rfl hw
    · have h := itf k5 h
      refine lv_aload_n hx hb dX2_chanceOf_8 rfl (lv_at hl 0 rfl) ?_
      refine lv_iload_n hx hb dX2_chanceOf_9 rfl (lv_at hl 2 rfl) ?_
      obtain ⟨r10, h10, h⟩ := bnd h
      refine g_calli0 (isC := [0]) (gn := fun _ => [wSE g (swB b ad) se]) (g_runV (isC := [0]) (rest := []) (As := [.int p2]) X hw (c_X2_isSet l (ad := (swB b ad)) h10) rfl kM_X2_isSet ki_X2_isSet ks_X2_isSet km_X2_53 ⟨(Nat.le_of_ble_eq_true rfl), (Nat.le_of_ble_eq_true rfl)⟩ ⟨(Nat.le_of_ble_eq_true rfl), (Nat.le_of_ble_eq_true rfl)⟩ rfl rfl ⟨_, _, _, _, rfl, rfl, rfl, rfl⟩ rfl hl.1 rfl (Nat.le_of_ble_eq_true rfl) dX2_chanceOf_10) hw rfl rfl (fun _ => (Nat.le_of_ble_eq_true rfl)) (fun _ => rfl) rfl rfl (fun _ H locs hw => ?_)
      refine lv_if_ne (tgt := 18) hx hb dX2_chanceOf_13 (by decide) (fun k13 => ?_) (fun k13 => ?_)
      · have h := itt k13 h
        refine lv_aload_n hx hb dX2_chanceOf_18 rfl (lv_at hl 0 rfl) ?_
        refine SE_g_parts X hw 0 rfl kf_X2_21 dX2_chanceOf_19 ?_
        refine lv_iconst (v := 0) hx hb dX2_chanceOf_22 (by decide) ?_
        refine g_callv0 (isC := [0]) (gn := fun _ => [wSE g (swB b ad) (SE_s_parts se (fillf 1024 (0 : Int32) (SE_parts se)))]) (g_runS (isC := [0]) (rest := []) (As := [.ref ((swB b ad) 4), .int (0 : Int32)]) X hw (c_fill l (gs := fun g => [wSE g (swB b ad) se]) (w := fun g => wSE g (swB b ad) se) 0 4 (v := (0 : Int32)) (fun _ => rfl) (fun _ => rfl) (by decide)) rfl kM_J7_fill_53178 kt_J7_fill_53178 km_X2_57 ⟨(Nat.le_of_ble_eq_true rfl), (Nat.le_of_ble_eq_true rfl)⟩ ⟨(Nat.le_of_ble_eq_true rfl), (Nat.le_of_ble_eq_true rfl)⟩ rfl rfl rfl hl.1 rfl (Nat.le_of_ble_eq_true rfl) dX2_chanceOf_23) hw rfl rfl (fun _ => (Nat.le_of_ble_eq_true rfl)) (fun _ => rfl) rfl rfl (fun _ H locs hw => ?_)
        refine lv_aload_n hx hb dX2_chanceOf_26 rfl (lv_at hl 0 rfl) ?_
        refine SE_g_parts X hw 0 rfl kf_X2_21 dX2_chanceOf_27 ?_
        refine lv_iload_n hx hb dX2_chanceOf_30 rfl (lv_at hl 1 rfl) ?_
        refine lv_ldc hx hb X.1.2.2.2.1 (gK1 X _ kq_X2_111) dX2_chanceOf_31 ?_
        obtain ⟨q33, h⟩ := chk h
        refine SE_a_parts (gs' := [wSE g (swB b ad) (SE_s_parts (SE_s_parts se (fillf 1024 (0 : Int32) (SE_parts se))) (upd (SE_parts (SE_s_parts se (fillf 1024 (0 : Int32) (SE_parts se)))) p1.toNatClampNeg (1000000 : Int32)))]) X hw 0 rfl q33 dX2_chanceOf_33 rfl (fun H locs hw => ?_)
        refine lv_iconst (v := 0) hx hb dX2_chanceOf_34 (by decide) ?_
        refine lv_istore (lv' := [(4, .int (0 : Int32)), (0, .ref ((swB b ad) 0)), (1, .int p1), (2, .int p2), (3, .int p3)]) hx hb dX2_chanceOf_35 hl (by decide) rfl (fun ls hl => ?_)
        exact L37 N _ h _ _ _ _ hw (lv_sub hl [1, 3, 4, 0] rfl)
      · have h := itf (fun z => z k13) h
        refine lv_iconst (v := 0) hx hb dX2_chanceOf_16 (by decide) ?_
        have h := Option.some.inj h
        subst h
        exact hret b dX2_chanceOf_17 rfl hw
  exact key false hw
theorem kM_X5_chance : kM yX5_chance cX5_chance 4 (some FieldType.int) 3 := ⟨kc_X5_chance, kn_RingsOff, by decide +kernel⟩
abbrev R_X5_chance : Room := { frames := 7, cells := 0, slots := 0, locals := 148 }
set_option maxHeartbeats 4000000 in
set_option maxRecDepth 100000 in
theorem c_X5_chance (l : Launch) {ad : Nat → Nat} {adN : Nat → Nat} {adL : Nat → Nat} {adE : Nat → Nat} {aK : Nat} {aD : Nat} {aS : Nat} {aT : Nat} {N : Nat} {ro : RO} {nw : EV} {lw : LW} {se : SE} {p1 : Int32} {p2 : Int32} {p3 : Int32} {out : Int32 × RO × LW × SE} (h : M_X5_chance N ro nw lw se p1 p2 p3 = some out) : gM l yX5_chance cX5_chance 4 (some FieldType.int) R_X5_chance (fun _ => [.ref (ad 0), .int p1, .int p2, .int p3]) (fun g => [wRO g ad (adN 0) aK aD aS aT (adL 0) (adE 0) ro, wEV g adN nw, wLW g adL lw, wSE g adE se]) (gQi (fun (u : Bool) => out.1) (fun g (u : Bool) => [wRO g ad (adN 0) aK aD aS aT (adL 0) (adE 0) out.2.1, wEV g adN nw, wLW g adL out.2.2.1, wSE g (swB u adE) out.2.2.2])) := by
  refine gM.ofi (by decide +kernel) (fun _ => Nat.le_of_ble_eq_true rfl) (fun g p e s m args below meth c A ls Q X hret hw hl => ?_)
  have hx := X.1.1
  have hb := X.1.2.1
  have hl : lv_has ls 4 [(0, .ref (ad 0)), (1, .int p1), (2, .int p2), (3, .int p3)] := hl
  have J23 : ∀ (z23 : RO × LW × SE), M_X5_chance_j23 N nw p1 p2 p3 z23 = some out → ∀ (H : Heap) (locs : List Loc) (ls : Array Slot), gW g A s.heap [wRO g ad (adN 0) aK aD aS aT (adL 0) (adE 0) z23.1, wEV g adN nw, wLW g adL z23.2.1, wSE g adE z23.2.2] H locs → lv_has ls 4 [(0, .ref (ad 0))] → W p l e R_X5_chance s m args below meth c H locs 0 0 Q (F0 m 23 ls []) := by
    intro z23 h H locs ls hw hl
    unfold M_X5_chance_j23 at h
    refine lv_aload_n hx hb dX5_chance_23 rfl (lv_at hl 0 rfl) ?_
    refine lv_bipush (v := -2) hx hb dX5_chance_24 (by decide) ?_
    obtain ⟨r26, h26, h⟩ := bnd h
    refine g_calli0 (isC := [0]) (gn := fun _ => [wRO g ad (adN 0) aK aD aS aT (adL 0) (adE 0) r26.2, wEV g adN nw, wLW g adL z23.2.1, wSE g adE z23.2.2]) (g_runV (isC := [0]) (rest := []) (As := [.int (-2 : Int32)]) X hw (c_X5_refuse l (ad := ad) (aN := (adN 0)) (aK := aK) (aD := aD) (aS := aS) (aT := aT) (aL := (adL 0)) (aE := (adE 0)) h26) rfl kM_X5_refuse ki_X5_refuse ks_X5_refuse km_X5_62 ⟨(Nat.le_of_ble_eq_true rfl), (Nat.le_of_ble_eq_true rfl)⟩ ⟨(Nat.le_of_ble_eq_true rfl), (Nat.le_of_ble_eq_true rfl)⟩ rfl rfl ⟨_, _, _, _, rfl, rfl, rfl, rfl⟩ rfl hl.1 rfl (Nat.le_of_ble_eq_true rfl) dX5_chance_26) hw rfl rfl (fun _ => (Nat.le_of_ble_eq_true rfl)) (fun _ => rfl) rfl rfl (fun _ H locs hw => ?_)
    have h := Option.some.inj h
    subst h
    exact hret false dX5_chance_29 rfl hw
  unfold M_X5_chance at h
  refine lv_aload_n hx hb dX5_chance_0 rfl (lv_at hl 0 rfl) ?_
  refine RO_g_now X hw 0 rfl kf_X5_12 dX5_chance_1 ?_
  refine lv_iload_n hx hb dX5_chance_4 rfl (lv_at hl 1 rfl) ?_
  refine lv_iload_n hx hb dX5_chance_5 rfl (lv_at hl 2 rfl) ?_
  refine lv_i2l (v := p2.toInt64) hx hb dX5_chance_6 rfl ?_
  obtain ⟨r7, h7, h⟩ := bnd h
  refine g_calli0 (isC := [1]) (gn := fun _ => [wRO g ad (adN 0) aK aD aS aT (adL 0) (adE 0) ro, wEV g adN nw, wLW g adL lw, wSE g adE se]) (g_runVN (isC := [1]) (rest := []) (As := [.int p1, .long p2.toInt64]) X hw (c_X0_hasSet l (ad := adN) h7) rfl kM_X0_hasSet ki_X0_hasSet ks_X0_hasSet km_X5_164 ⟨(Nat.le_of_ble_eq_true rfl), (Nat.le_of_ble_eq_true rfl)⟩ ⟨(Nat.le_of_ble_eq_true rfl), (Nat.le_of_ble_eq_true rfl)⟩ rfl rfl ⟨_, _, _, _, rfl, rfl, rfl, rfl⟩ rfl hl.1 rfl (Nat.le_of_ble_eq_true rfl) dX5_chance_7) hw rfl rfl (fun _ => (Nat.le_of_ble_eq_true rfl)) (fun _ => rfl) rfl rfl (fun _ H locs hw => ?_)
  refine lv_if_eq (tgt := 23) hx hb dX5_chance_10 (by decide) (fun k10 => ?_) (fun k10 => ?_)
  · have h := itt k10 h
    exact J23 _ h _ _ _ hw (lv_sub hl [0] rfl)
  · have h := itf k10 h
    refine lv_iload_n hx hb dX5_chance_13 rfl (lv_at hl 3 rfl) ?_
    refine lv_if_lt (tgt := 23) hx hb dX5_chance_14 (by decide) (fun k14 => ?_) (fun k14 => ?_)
    · have h := itt k14 h
      exact J23 _ h _ _ _ hw (lv_sub hl [0] rfl)
    · have h := itf k14 h
      refine lv_iload_n hx hb dX5_chance_17 rfl (lv_at hl 3 rfl) ?_
      refine lv_bipush (v := 20) hx hb dX5_chance_18 (by decide) ?_
      refine lv_icmp_le (tgt := 30) hx hb dX5_chance_20 (by decide) (fun k20 => ?_) (fun k20 => ?_)
      · have h := itt k20 h
        refine lv_aload_n hx hb dX5_chance_30 rfl (lv_at hl 0 rfl) ?_
        refine lv_iload_n hx hb dX5_chance_31 rfl (lv_at hl 1 rfl) ?_
        obtain ⟨r32, h32, h⟩ := bnd h
        refine g_callv0 (isC := [0, 1, 2, 3]) (gn := fun _ => [wRO g ad (adN 0) aK aD aS aT (adL 0) (adE 0) ro, wEV g adN nw, wLW g adL r32.1, wSE g adE r32.2]) (g_runV (isC := [0, 1, 2, 3]) (rest := []) (As := [.int p1]) X hw (c_X5_study l (ad := ad) (adN := adN) (adL := adL) (adE := adE) (aK := aK) (aD := aD) (aS := aS) (aT := aT) h32) rfl kM_X5_study ki_X5_study ks_X5_study km_X5_253 ⟨(Nat.le_of_ble_eq_true rfl), (Nat.le_of_ble_eq_true rfl)⟩ ⟨(Nat.le_of_ble_eq_true rfl), (Nat.le_of_ble_eq_true rfl)⟩ rfl rfl ⟨_, _, _, _, rfl, rfl, rfl, rfl⟩ rfl hl.1 rfl (Nat.le_of_ble_eq_true rfl) dX5_chance_32) hw rfl rfl (fun _ => (Nat.le_of_ble_eq_true rfl)) (fun _ => rfl) rfl rfl (fun _ H locs hw => ?_)
        refine lv_aload_n hx hb dX5_chance_35 rfl (lv_at hl 0 rfl) ?_
        refine RO_g_search X hw 0 rfl kf_X5_46 dX5_chance_36 ?_
        refine lv_aload_n hx hb dX5_chance_39 rfl (lv_at hl 0 rfl) ?_
        refine RO_g_now X hw 0 rfl kf_X5_12 dX5_chance_40 ?_
        refine lv_iload_n hx hb dX5_chance_43 rfl (lv_at hl 1 rfl) ?_
        obtain ⟨r44, h44, h⟩ := bnd h
        refine g_calli0 (isC := [1]) (gn := fun _ => [wRO g ad (adN 0) aK aD aS aT (adL 0) (adE 0) ro, wEV g adN nw, wLW g adL r32.1, wSE g adE r32.2]) (g_runVN (isC := [1]) (rest := [.ref (adE 0)]) (As := [.int p1]) X hw (c_X0_onOf l (ad := adN) h44) rfl kM_X0_onOf ki_X0_onOf ks_X0_onOf km_X5_122 ⟨(Nat.le_of_ble_eq_true rfl), (Nat.le_of_ble_eq_true rfl)⟩ ⟨(Nat.le_of_ble_eq_true rfl), (Nat.le_of_ble_eq_true rfl)⟩ rfl rfl ⟨_, _, _, _, rfl, rfl, rfl, rfl⟩ rfl hl.1 rfl (Nat.le_of_ble_eq_true rfl) dX5_chance_44) hw rfl rfl (fun _ => (Nat.le_of_ble_eq_true rfl)) (fun _ => rfl) rfl rfl (fun _ H locs hw => ?_)
        refine lv_iload_n hx hb dX5_chance_47 rfl (lv_at hl 2 rfl) ?_
        refine lv_iload_n hx hb dX5_chance_48 rfl (lv_at hl 3 rfl) ?_
        obtain ⟨r49, h49, h⟩ := bnd h
        refine g_calli0 (isC := [3]) (gn := fun u49 => [wRO g ad (adN 0) aK aD aS aT (adL 0) (adE 0) ro, wEV g adN nw, wLW g adL r32.1, wSE g (swB u49 adE) r49.2]) (g_runVN (isC := [3]) (rest := []) (As := [.int r44, .int p2, .int p3]) X hw (c_X2_chanceOf l (ad := adE) h49) rfl kM_X2_chanceOf ki_X2_chanceOf ks_X2_chanceOf km_X5_284 ⟨(Nat.le_of_ble_eq_true rfl), (Nat.le_of_ble_eq_true rfl)⟩ ⟨(Nat.le_of_ble_eq_true rfl), (Nat.le_of_ble_eq_true rfl)⟩ rfl rfl ⟨_, _, _, _, rfl, rfl, rfl, rfl⟩ rfl hl.1 rfl (Nat.le_of_ble_eq_true rfl) dX5_chance_49) hw rfl rfl (fun _ => (Nat.le_of_ble_eq_true rfl)) (fun _ => rfl) rfl rfl (fun u49 H locs hw => ?_)
        have h := Option.some.inj h
        subst h
        exact hret u49 dX5_chance_52 rfl hw
      · have h := itf k20 h
        exact J23 _ h _ _ _ hw (lv_sub hl [0] rfl)
