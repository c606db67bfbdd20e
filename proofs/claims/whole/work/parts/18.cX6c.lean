theorem kM_X6_minutesOf : kM yX6_minutesOf cX6_minutesOf 2 (some FieldType.int) 1 := ⟨kc_X6_minutesOf, kn_RingsOffModel, by decide +kernel⟩
abbrev R_X6_minutesOf : Room := { frames := 0, cells := 0, slots := 0, locals := 0 }
set_option maxHeartbeats 4000000 in
set_option maxRecDepth 100000 in
theorem c_X6_minutesOf (l : Launch) {ad : Nat → Nat} {eK : Option Nat} {eT : Option Nat} {N : Nat} {rm : RM} {p1 : Int32} {out : Int32} (h : M_X6_minutesOf N rm p1 = some out) : gM l yX6_minutesOf cX6_minutesOf 2 (some FieldType.int) R_X6_minutesOf (fun _ => [.ref (ad 0), .int p1]) (fun g => [wRM g ad eK eT rm]) (gQi (fun (_ : Unit) => out) (fun g (_ : Unit) => [wRM g ad eK eT rm])) := by
  refine gM.ofi (by decide +kernel) (fun _ => Nat.le_of_ble_eq_true rfl) (fun g p e s m args below meth c A ls Q X hret hw hl => ?_)
  have hx := X.1.1
  have hb := X.1.2.1
  have hl : lv_has ls 2 [(0, .ref (ad 0)), (1, .int p1)] := hl
  unfold M_X6_minutesOf at h
  refine lv_iload_n hx hb dX6_minutesOf_0 rfl (lv_at hl 1 rfl) ?_
  refine lv_bipush (v := 20) hx hb dX6_minutesOf_1 (by decide) ?_
  refine lv_icmp_eq (tgt := 13) hx hb dX6_minutesOf_3 (by decide) (fun k3 => ?_) (fun k3 => ?_)
  · have h := itt k3 h
    refine lv_aload_n hx hb dX6_minutesOf_13 rfl (lv_at hl 0 rfl) ?_
    refine RM_g_minutes X hw 0 rfl kf_X6_57 dX6_minutesOf_14 ?_
    refine lv_iconst (v := 0) hx hb dX6_minutesOf_17 (by decide) ?_
    obtain ⟨q18, h⟩ := chk h
    refine RM_l_minutes X hw 0 rfl q18 dX6_minutesOf_18 ?_
    refine lv_aload_n hx hb dX6_minutesOf_19 rfl (lv_at hl 0 rfl) ?_
    refine RM_g_minutes X hw 0 rfl kf_X6_57 dX6_minutesOf_20 ?_
    refine lv_iconst (v := 1) hx hb dX6_minutesOf_23 (by decide) ?_
    obtain ⟨q24, h⟩ := chk h
    refine RM_l_minutes X hw 0 rfl q24 dX6_minutesOf_24 ?_
    refine lv_icmp_le (tgt := 37) hx hb dX6_minutesOf_25 (by decide) (fun k25 => ?_) (fun k25 => ?_)
    · have h := itt k25 h
      refine lv_aload_n hx hb dX6_minutesOf_37 rfl (lv_at hl 0 rfl) ?_
      refine RM_g_minutes X hw 0 rfl kf_X6_57 dX6_minutesOf_38 ?_
      refine lv_iconst (v := 1) hx hb dX6_minutesOf_41 (by decide) ?_
      obtain ⟨q42, h⟩ := chk h
      refine RM_l_minutes X hw 0 rfl q42 dX6_minutesOf_42 ?_
      have h := Option.some.inj h
      subst h
      exact hret () dX6_minutesOf_43 rfl hw
    · have h := itf k25 h
      refine lv_aload_n hx hb dX6_minutesOf_28 rfl (lv_at hl 0 rfl) ?_
      refine RM_g_minutes X hw 0 rfl kf_X6_57 dX6_minutesOf_29 ?_
      refine lv_iconst (v := 0) hx hb dX6_minutesOf_32 (by decide) ?_
      obtain ⟨q33, h⟩ := chk h
      refine RM_l_minutes X hw 0 rfl q33 dX6_minutesOf_33 ?_
      refine lv_goto (tgt := 43) hx hb dX6_minutesOf_34 (by decide) ?_
      have h := Option.some.inj h
      subst h
      exact hret () dX6_minutesOf_43 rfl hw
  · have h := itf k3 h
    refine lv_aload_n hx hb dX6_minutesOf_6 rfl (lv_at hl 0 rfl) ?_
    refine RM_g_minutes X hw 0 rfl kf_X6_57 dX6_minutesOf_7 ?_
    refine lv_iload_n hx hb dX6_minutesOf_10 rfl (lv_at hl 1 rfl) ?_
    obtain ⟨q11, h⟩ := chk h
    refine RM_l_minutes X hw 0 rfl q11 dX6_minutesOf_11 ?_
    have h := Option.some.inj h
    subst h
    exact hret () dX6_minutesOf_12 rfl hw
theorem kM_X6_timeTo : kM yX6_timeTo cX6_timeTo 7 (some FieldType.int) 3 := ⟨kc_X6_timeTo, kn_RingsOffModel, by decide +kernel⟩
abbrev R_X6_timeTo : Room := { frames := 5, cells := 0, slots := 0, locals := 118 }
set_option maxHeartbeats 4000000 in
set_option maxRecDepth 100000 in
theorem c_X6_timeTo (l : Launch) {ad : Nat → Nat} {eK : Option Nat} {eT : Option Nat} {N : Nat} {rm : RM} {p1 : Int32} {p2 : Int32} {p3 : Int32} {out : Int32 × RM} (h : M_X6_timeTo N rm p1 p2 p3 = some out) : gM l yX6_timeTo cX6_timeTo 7 (some FieldType.int) R_X6_timeTo (fun _ => [.ref (ad 0), .int p1, .int p2, .int p3]) (fun g => [wRM g ad eK eT rm]) (gQi (fun (_ : Unit) => out.1) (fun g (_ : Unit) => [wRM g ad eK eT out.2])) := by
  refine gM.ofi (by decide +kernel) (fun _ => Nat.le_of_ble_eq_true rfl) (fun g p e s m args below meth c A ls Q X hret hw hl => ?_)
  have hx := X.1.1
  have hb := X.1.2.1
  have hl : lv_has ls 7 [(0, .ref (ad 0)), (1, .int p1), (2, .int p2), (3, .int p3)] := hl
  have L25 : ∀ (n : Nat) (z25 : RM × Int32 × Int32), lp (M_X6_timeTo_l25 N p1 p2 p3) n z25 = some out → ∀ (H : Heap) (locs : List Loc) (ls : Array Slot), gW g A s.heap [wRM g ad eK eT z25.1] H locs → lv_has ls 7 [(0, .ref (ad 0)), (1, .int p1), (3, .int p3), (4, .int z25.2.1), (5, .int z25.2.2)] → W p l e R_X6_timeTo s m args below meth c H locs 0 0 Q (F0 m 25 ls []) := by
    refine lp_ind ?_
    intro rec25 ih25
    intro z25 h H locs ls hw hl
    unfold M_X6_timeTo_l25 at h
    refine lv_iload hx hb dX6_timeTo_25 (lv_at hl 4 rfl) ?_
    refine lv_iload_n hx hb dX6_timeTo_27 rfl (lv_at hl 2 rfl) ?_
    refine lv_icmp_eq (tgt := 64) hx hb dX6_timeTo_28 (by decide) (fun k28 => ?_) (fun k28 => ?_)
    · have h := itt k28 h
      refine lv_iload hx hb dX6_timeTo_64 (lv_at hl 3 rfl) ?_
      have h := Option.some.inj h
      subst h
      exact hret () dX6_timeTo_66 rfl hw
    · have h := itf k28 h
      refine lv_aload_n hx hb dX6_timeTo_31 rfl (lv_at hl 0 rfl) ?_
      refine lv_iload_n hx hb dX6_timeTo_32 rfl (lv_at hl 1 rfl) ?_
      refine lv_iload hx hb dX6_timeTo_33 (lv_at hl 4 rfl) ?_
      obtain ⟨r35, h35, h⟩ := bnd h
      refine g_calli0 (isC := [0]) (gn := fun _ => [wRM g ad eK eT z25.1]) (g_runV (isC := [0]) (rest := []) (As := [.int p1, .int z25.2.2]) X hw (c_X6_nextMove l (ad := ad) (eK := eK) (eT := eT) h35) rfl kM_X6_nextMove ki_X6_nextMove ks_X6_nextMove km_X6_273 ⟨(Nat.le_of_ble_eq_true rfl), (Nat.le_of_ble_eq_true rfl)⟩ ⟨(Nat.le_of_ble_eq_true rfl), (Nat.le_of_ble_eq_true rfl)⟩ rfl rfl ⟨_, _, _, _, rfl, rfl, rfl, rfl⟩ rfl hl.1 rfl (Nat.le_of_ble_eq_true rfl) dX6_timeTo_35) hw rfl rfl (fun _ => (Nat.le_of_ble_eq_true rfl)) (fun _ => rfl) rfl rfl (fun _ H locs hw => ?_)
      refine lv_istore (lv' := [(6, .int r35), (0, .ref (ad 0)), (1, .int p1), (3, .int p3), (4, .int z25.2.1), (5, .int z25.2.2)]) hx hb dX6_timeTo_38 hl (by decide) rfl (fun ls hl => ?_)
      refine lv_iload hx hb dX6_timeTo_40 (lv_at hl 4 rfl) ?_
      refine lv_aload_n hx hb dX6_timeTo_42 rfl (lv_at hl 1 rfl) ?_
      refine lv_iload hx hb dX6_timeTo_43 (lv_at hl 0 rfl) ?_
      obtain ⟨r45, h45, h⟩ := bnd h
      refine g_calli0 (isC := [0]) (gn := fun _ => [wRM g ad eK eT z25.1]) (g_runV (isC := [0]) (rest := [.int z25.2.1]) (As := [.int r35]) X hw (c_X6_minutesOf l (ad := ad) (eK := eK) (eT := eT) h45) rfl kM_X6_minutesOf ki_X6_minutesOf ks_X6_minutesOf km_X6_283 ⟨(Nat.le_of_ble_eq_true rfl), (Nat.le_of_ble_eq_true rfl)⟩ ⟨(Nat.le_of_ble_eq_true rfl), (Nat.le_of_ble_eq_true rfl)⟩ rfl rfl ⟨_, _, _, _, rfl, rfl, rfl, rfl⟩ rfl hl.1 rfl (Nat.le_of_ble_eq_true rfl) dX6_timeTo_45) hw rfl rfl (fun _ => (Nat.le_of_ble_eq_true rfl)) (fun _ => rfl) rfl rfl (fun _ H locs hw => ?_)
      refine lv_iadd hx hb dX6_timeTo_48 ?_
      refine lv_istore (lv' := [(4, .int (z25.2.1 + r45)), (6, .int r35), (0, .ref (ad 0)), (1, .int p1), (3, .int p3), (5, .int z25.2.2)]) hx hb dX6_timeTo_49 hl (by decide) rfl (fun ls hl => ?_)
      refine lv_iload hx hb dX6_timeTo_51 (lv_at hl 5 rfl) ?_
      refine lv_iload hx hb dX6_timeTo_53 (lv_at hl 1 rfl) ?_
      obtain ⟨r55, h55, h⟩ := bnd h
      refine g_calli0 (isC := []) (gn := fun _ => [wRM g ad eK eT z25.1]) (g_runS (isC := []) (rest := [.int z25.2.2]) (As := [.int r35]) X hw (c_X6_mask l h55) rfl kM_X6_mask kt_X6_mask km_X6_212 ⟨(Nat.le_of_ble_eq_true rfl), (Nat.le_of_ble_eq_true rfl)⟩ ⟨(Nat.le_of_ble_eq_true rfl), (Nat.le_of_ble_eq_true rfl)⟩ rfl rfl rfl hl.1 rfl (Nat.le_of_ble_eq_true rfl) dX6_timeTo_55) hw rfl rfl (fun _ => (Nat.le_of_ble_eq_true rfl)) (fun _ => rfl) rfl rfl (fun _ H locs hw => ?_)
      refine lv_ixor hx hb dX6_timeTo_58 ?_
      refine lv_istore (lv' := [(5, .int (z25.2.2 ^^^ r55)), (4, .int (z25.2.1 + r45)), (6, .int r35), (0, .ref (ad 0)), (1, .int p1), (3, .int p3)]) hx hb dX6_timeTo_59 hl (by decide) rfl (fun ls hl => ?_)
      refine lv_goto (tgt := 25) hx hb dX6_timeTo_61 (by decide) ?_
      exact ih25 _ h _ _ _ hw (lv_sub hl [3, 4, 5, 1, 0] rfl)
  unfold M_X6_timeTo at h
  refine lv_aload_n hx hb dX6_timeTo_0 rfl (lv_at hl 0 rfl) ?_
  refine lv_iload_n hx hb dX6_timeTo_1 rfl (lv_at hl 1 rfl) ?_
  refine lv_iload_n hx hb dX6_timeTo_2 rfl (lv_at hl 3 rfl) ?_
  refine lv_iconst (v := 0) hx hb dX6_timeTo_3 (by decide) ?_
  obtain ⟨r4, h4, h⟩ := bnd h
  refine g_callv0 (isC := [0]) (gn := fun _ => [wRM g ad eK eT r4]) (g_runV (isC := [0]) (rest := []) (As := [.int p1, .int p3, .int (0 : Int32)]) X hw (c_X6_findFar l (ad := ad) (eK := eK) (eT := eT) h4) rfl kM_X6_findFar ki_X6_findFar ks_X6_findFar km_X6_269 ⟨(Nat.le_of_ble_eq_true rfl), (Nat.le_of_ble_eq_true rfl)⟩ ⟨(Nat.le_of_ble_eq_true rfl), (Nat.le_of_ble_eq_true rfl)⟩ rfl rfl ⟨_, _, _, _, rfl, rfl, rfl, rfl⟩ rfl hl.1 rfl (Nat.le_of_ble_eq_true rfl) dX6_timeTo_4) hw rfl rfl (fun _ => (Nat.le_of_ble_eq_true rfl)) (fun _ => rfl) rfl rfl (fun _ H locs hw => ?_)
  refine lv_aload_n hx hb dX6_timeTo_7 rfl (lv_at hl 0 rfl) ?_
  refine RM_g_far X hw 0 rfl kf_X6_67 dX6_timeTo_8 ?_
  refine lv_iload_n hx hb dX6_timeTo_11 rfl (lv_at hl 2 rfl) ?_
  obtain ⟨q12, h⟩ := chk h
  refine RM_l_far X hw 0 rfl q12 dX6_timeTo_12 ?_
  refine lv_iconst (v := -1) hx hb dX6_timeTo_13 (by decide) ?_
  refine lv_icmp_ne (tgt := 19) hx hb dX6_timeTo_14 (by decide) (fun k14 => ?_) (fun k14 => ?_)
  · have h := itt k14 h
    refine lv_iconst (v := 0) hx hb dX6_timeTo_19 (by decide) ?_
    refine lv_istore (lv' := [(4, .int (0 : Int32)), (0, .ref (ad 0)), (1, .int p1), (2, .int p2), (3, .int p3)]) hx hb dX6_timeTo_20 hl (by decide) rfl (fun ls hl => ?_)
    refine lv_iload_n hx hb dX6_timeTo_22 rfl (lv_at hl 3 rfl) ?_
    refine lv_istore (lv' := [(5, .int p2), (4, .int (0 : Int32)), (0, .ref (ad 0)), (1, .int p1), (2, .int p2), (3, .int p3)]) hx hb dX6_timeTo_23 hl (by decide) rfl (fun ls hl => ?_)
    exact L25 N _ h _ _ _ hw (lv_sub hl [2, 3, 5, 1, 0] rfl)
  · have h := itf (fun z => z k14) h
    refine lv_iconst (v := -1) hx hb dX6_timeTo_17 (by decide) ?_
    have h := Option.some.inj h
    subst h
    exact hret () dX6_timeTo_18 rfl hw
theorem kM_X6_time : kM yX6_time cX6_time 3 (some FieldType.int) 2 := ⟨kc_X6_time, kn_RingsOffModel, by decide +kernel⟩
abbrev R_X6_time : Room := { frames := 6, cells := 0, slots := 0, locals := 144 }
set_option maxHeartbeats 4000000 in
set_option maxRecDepth 100000 in
theorem c_X6_time (l : Launch) {ad : Nat → Nat} {eK : Option Nat} {eT : Option Nat} {N : Nat} {rm : RM} {p1 : Int32} {p2 : Int32} {out : Int32 × RM} (h : M_X6_time N rm p1 p2 = some out) : gM l yX6_time cX6_time 3 (some FieldType.int) R_X6_time (fun _ => [.ref (ad 0), .int p1, .int p2]) (fun g => [wRM g ad eK eT rm]) (gQi (fun (_ : Unit) => out.1) (fun g (_ : Unit) => [wRM g ad eK eT out.2])) := by
  refine gM.ofi (by decide +kernel) (fun _ => Nat.le_of_ble_eq_true rfl) (fun g p e s m args below meth c A ls Q X hret hw hl => ?_)
  have hx := X.1.1
  have hb := X.1.2.1
  have hl : lv_has ls 3 [(0, .ref (ad 0)), (1, .int p1), (2, .int p2)] := hl
  have J33 : ∀ (z33 : RM), M_X6_time_j33 N p1 p2 z33 = some out → ∀ (H : Heap) (locs : List Loc) (ls : Array Slot), gW g A s.heap [wRM g ad eK eT z33] H locs → lv_has ls 3 [(0, .ref (ad 0))] → W p l e R_X6_time s m args below meth c H locs 0 0 Q (F0 m 33 ls []) := by
    intro z33 h H locs ls hw hl
    unfold M_X6_time_j33 at h
    refine lv_aload_n hx hb dX6_time_33 rfl (lv_at hl 0 rfl) ?_
    refine lv_bipush (v := -2) hx hb dX6_time_34 (by decide) ?_
    obtain ⟨r36, h36, h⟩ := bnd h
    refine g_calli0 (isC := [0]) (gn := fun _ => [wRM g ad eK eT r36.2]) (g_runV (isC := [0]) (rest := []) (As := [.int (-2 : Int32)]) X hw (c_X6_refuse l (ad := ad) (eK := eK) (eT := eT) h36) rfl kM_X6_refuse ki_X6_refuse ks_X6_refuse km_X6_96 ⟨(Nat.le_of_ble_eq_true rfl), (Nat.le_of_ble_eq_true rfl)⟩ ⟨(Nat.le_of_ble_eq_true rfl), (Nat.le_of_ble_eq_true rfl)⟩ rfl rfl ⟨_, _, _, _, rfl, rfl, rfl, rfl⟩ rfl hl.1 rfl (Nat.le_of_ble_eq_true rfl) dX6_time_36) hw rfl rfl (fun _ => (Nat.le_of_ble_eq_true rfl)) (fun _ => rfl) rfl rfl (fun _ H locs hw => ?_)
    have h := Option.some.inj h
    subst h
    exact hret () dX6_time_39 rfl hw
  unfold M_X6_time at h
  refine lv_aload_n hx hb dX6_time_0 rfl (lv_at hl 0 rfl) ?_
  refine lv_iload_n hx hb dX6_time_1 rfl (lv_at hl 1 rfl) ?_
  obtain ⟨r2, h2, h⟩ := bnd h
  refine g_calli0 (isC := [0]) (gn := fun _ => [wRM g ad eK eT rm]) (g_runV (isC := [0]) (rest := []) (As := [.int p1]) X hw (c_X6_isBar l (ad := ad) (eK := eK) (eT := eT) h2) rfl kM_X6_isBar ki_X6_isBar ks_X6_isBar km_X6_106 ⟨(Nat.le_of_ble_eq_true rfl), (Nat.le_of_ble_eq_true rfl)⟩ ⟨(Nat.le_of_ble_eq_true rfl), (Nat.le_of_ble_eq_true rfl)⟩ rfl rfl ⟨_, _, _, _, rfl, rfl, rfl, rfl⟩ rfl hl.1 rfl (Nat.le_of_ble_eq_true rfl) dX6_time_2) hw rfl rfl (fun _ => (Nat.le_of_ble_eq_true rfl)) (fun _ => rfl) rfl rfl (fun _ H locs hw => ?_)
  refine lv_if_eq (tgt := 33) hx hb dX6_time_5 (by decide) (fun k5 => ?_) (fun k5 => ?_)
  · have h := itt k5 h
    exact J33 _ h _ _ _ hw (lv_sub hl [0] rfl)
  · have h := itf k5 h
    refine lv_aload_n hx hb dX6_time_8 rfl (lv_at hl 0 rfl) ?_
    refine lv_iload_n hx hb dX6_time_9 rfl (lv_at hl 1 rfl) ?_
    refine lv_iload_n hx hb dX6_time_10 rfl (lv_at hl 2 rfl) ?_
    refine lv_i2l (v := p2.toInt64) hx hb dX6_time_11 rfl ?_
    obtain ⟨r12, h12, h⟩ := bnd h
    refine g_calli0 (isC := [0]) (gn := fun _ => [wRM g ad eK eT rm]) (g_runV (isC := [0]) (rest := []) (As := [.int p1, .long p2.toInt64]) X hw (c_X6_isSet l (ad := ad) (eK := eK) (eT := eT) h12) rfl kM_X6_isSet ki_X6_isSet ks_X6_isSet km_X6_144 ⟨(Nat.le_of_ble_eq_true rfl), (Nat.le_of_ble_eq_true rfl)⟩ ⟨(Nat.le_of_ble_eq_true rfl), (Nat.le_of_ble_eq_true rfl)⟩ rfl rfl ⟨_, _, _, _, rfl, rfl, rfl, rfl⟩ rfl hl.1 rfl (Nat.le_of_ble_eq_true rfl) dX6_time_12) hw rfl rfl (fun _ => (Nat.le_of_ble_eq_true rfl)) (fun _ => rfl) rfl rfl (fun _ H locs hw => ?_)
    refine lv_if_eq (tgt := 33) hx hb dX6_time_15 (by decide) (fun k15 => ?_) (fun k15 => ?_)
    · have h := itt k15 h
      exact J33 _ h _ _ _ hw (lv_sub hl [0] rfl)
    · have h := itf k15 h
      refine lv_aload_n hx hb dX6_time_18 rfl (lv_at hl 0 rfl) ?_
      refine lv_iload_n hx hb dX6_time_19 rfl (lv_at hl 1 rfl) ?_
      refine lv_aload_n hx hb dX6_time_20 rfl (lv_at hl 0 rfl) ?_
      refine RM_g_on X hw 0 rfl kf_X6_43 dX6_time_21 ?_
      refine lv_iload_n hx hb dX6_time_24 rfl (lv_at hl 1 rfl) ?_
      obtain ⟨q25, h⟩ := chk h
      refine RM_l_on X hw 0 rfl q25 dX6_time_25 ?_
      refine lv_iload_n hx hb dX6_time_26 rfl (lv_at hl 2 rfl) ?_
      obtain ⟨r27, h27, h⟩ := bnd h
      refine g_calli0 (isC := [0]) (gn := fun _ => [wRM g ad eK eT r27.2]) (g_runV (isC := [0]) (rest := []) (As := [.int p1, .int (RM_on rm p1.toNatClampNeg), .int p2]) X hw (c_X6_timeTo l (ad := ad) (eK := eK) (eT := eT) h27) rfl kM_X6_timeTo ki_X6_timeTo ks_X6_timeTo km_X6_286 ⟨(Nat.le_of_ble_eq_true rfl), (Nat.le_of_ble_eq_true rfl)⟩ ⟨(Nat.le_of_ble_eq_true rfl), (Nat.le_of_ble_eq_true rfl)⟩ rfl rfl ⟨_, _, _, _, rfl, rfl, rfl, rfl⟩ rfl hl.1 rfl (Nat.le_of_ble_eq_true rfl) dX6_time_27) hw rfl rfl (fun _ => (Nat.le_of_ble_eq_true rfl)) (fun _ => rfl) rfl rfl (fun _ H locs hw => ?_)
      refine lv_goto (tgt := 39) hx hb dX6_time_30 (by decide) ?_
      have h := Option.some.inj h
      subst h
      exact hret () dX6_time_39 rfl hw
theorem kM_X6_bell : kM yX6_bell cX6_bell 8 (some FieldType.int) 3 := ⟨kc_X6_bell, kn_RingsOffModel, by decide +kernel⟩
abbrev R_X6_bell : Room := { frames := 5, cells := 0, slots := 0, locals := 118 }
set_option maxHeartbeats 4000000 in
set_option maxRecDepth 100000 in
theorem c_X6_bell (l : Launch) {ad : Nat → Nat} {eK : Option Nat} {eT : Option Nat} {N : Nat} {rm : RM} {p1 : Int32} {p2 : Int32} {p3 : Int32} {out : Int32 × RM} (h : M_X6_bell N rm p1 p2 p3 = some out) : gM l yX6_bell cX6_bell 8 (some FieldType.int) R_X6_bell (fun _ => [.ref (ad 0), .int p1, .int p2, .int p3]) (fun g => [wRM g ad eK eT rm]) (gQi (fun (_ : Unit) => out.1) (fun g (_ : Unit) => [wRM g ad eK eT out.2])) := by
  refine gM.ofi (by decide +kernel) (fun _ => Nat.le_of_ble_eq_true rfl) (fun g p e s m args below meth c A ls Q X hret hw hl => ?_)
  have hx := X.1.1
  have hb := X.1.2.1
  have hl : lv_has ls 8 [(0, .ref (ad 0)), (1, .int p1), (2, .int p2), (3, .int p3)] := hl
  have L67 : ∀ (n : Nat) (z67 : RM × Int32 × Int32 × Int32), lp (M_X6_bell_l67 N p1 p2 p3) n z67 = some out → ∀ (H : Heap) (locs : List Loc) (ls : Array Slot), gW g A s.heap [wRM g ad eK eT z67.1] H locs → lv_has ls 8 [(0, .ref (ad 0)), (1, .int p1), (2, .int p2), (3, .int p3), (4, .int z67.2.1), (5, .int z67.2.2.1), (6, .int z67.2.2.2)] → W p l e R_X6_bell s m args below meth c H locs 0 0 Q (F0 m 67 ls []) := by
    refine lp_ind ?_
    intro rec67 ih67
    have J111 : ∀ (z111 : RM × Int32 × Int32 × Int32 × Int32 × Int32), M_X6_bell_j111 N p1 p2 p3 rec67 z111 = some out → ∀ (H : Heap) (locs : List Loc) (ls : Array Slot), gW g A s.heap [wRM g ad eK eT z111.1] H locs → lv_has ls 8 [(0, .ref (ad 0)), (1, .int p1), (2, .int p2), (3, .int p3), (4, .int z111.2.1), (6, .int z111.2.2.1), (7, .int z111.2.2.2.1)] → W p l e R_X6_bell s m args below meth c H locs 0 0 Q (F0 m 111 ls [.int z111.2.2.2.2.2, .int z111.2.2.2.2.1]) := by
      intro z111 h H locs ls hw hl
      unfold M_X6_bell_j111 at h
      refine lv_iadd hx hb dX6_bell_111 ?_
      refine lv_istore (lv' := [(5, .int (z111.2.2.2.2.1 + z111.2.2.2.2.2)), (0, .ref (ad 0)), (1, .int p1), (2, .int p2), (3, .int p3), (4, .int z111.2.1), (6, .int z111.2.2.1), (7, .int z111.2.2.2.1)]) hx hb dX6_bell_112 hl (by decide) rfl (fun ls hl => ?_)
      refine lv_iload hx hb dX6_bell_114 (lv_at hl 0 rfl) ?_
      refine lv_iload_n hx hb dX6_bell_116 rfl (lv_at hl 4 rfl) ?_
      refine lv_icmp_ne (tgt := 123) hx hb dX6_bell_117 (by decide) (fun k117 => ?_) (fun k117 => ?_)
      · have h := itt k117 h
        refine lv_iload hx hb dX6_bell_123 (lv_at hl 6 rfl) ?_
        refine lv_iload hx hb dX6_bell_125 (lv_at hl 7 rfl) ?_
        obtain ⟨r127, h127, h⟩ := bnd h
        refine g_calli0 (isC := []) (gn := fun _ => [wRM g ad eK eT z111.1]) (g_runS (isC := []) (rest := [.int z111.2.2.1]) (As := [.int z111.2.2.2.1]) X hw (c_X6_mask l h127) rfl kM_X6_mask kt_X6_mask km_X6_212 ⟨(Nat.le_of_ble_eq_true rfl), (Nat.le_of_ble_eq_true rfl)⟩ ⟨(Nat.le_of_ble_eq_true rfl), (Nat.le_of_ble_eq_true rfl)⟩ rfl rfl rfl hl.1 rfl (Nat.le_of_ble_eq_true rfl) dX6_bell_127) hw rfl rfl (fun _ => (Nat.le_of_ble_eq_true rfl)) (fun _ => rfl) rfl rfl (fun _ H locs hw => ?_)
        refine lv_ixor hx hb dX6_bell_130 ?_
        refine lv_istore (lv' := [(6, .int (z111.2.2.1 ^^^ r127)), (5, .int (z111.2.2.2.2.1 + z111.2.2.2.2.2)), (0, .ref (ad 0)), (1, .int p1), (2, .int p2), (3, .int p3), (4, .int z111.2.1), (7, .int z111.2.2.2.1)]) hx hb dX6_bell_131 hl (by decide) rfl (fun ls hl => ?_)
        refine lv_goto (tgt := 67) hx hb dX6_bell_133 (by decide) ?_
        exact ih67 _ h _ _ _ hw (lv_sub hl [2, 3, 4, 5, 6, 1, 0] rfl)
      · have h := itf (fun z => z k117) h
        refine lv_iload hx hb dX6_bell_120 (lv_at hl 5 rfl) ?_
        have h := Option.some.inj h
        subst h
        exact hret () dX6_bell_122 rfl hw
    intro z67 h H locs ls hw hl
    unfold M_X6_bell_l67 at h
    refine lv_iload hx hb dX6_bell_67 (lv_at hl 6 rfl) ?_
    refine lv_if_eq (tgt := 136) hx hb dX6_bell_69 (by decide) (fun k69 => ?_) (fun k69 => ?_)
    · have h := itt k69 h
      refine lv_iconst (v := -1) hx hb dX6_bell_136 (by decide) ?_
      have h := Option.some.inj h
      subst h
      exact hret () dX6_bell_137 rfl hw
    · have h := itf k69 h
      refine lv_aload_n hx hb dX6_bell_72 rfl (lv_at hl 0 rfl) ?_
      refine lv_iload_n hx hb dX6_bell_73 rfl (lv_at hl 1 rfl) ?_
      refine lv_iload hx hb dX6_bell_74 (lv_at hl 6 rfl) ?_
      obtain ⟨r76, h76, h⟩ := bnd h
      refine g_calli0 (isC := [0]) (gn := fun _ => [wRM g ad eK eT z67.1]) (g_runV (isC := [0]) (rest := []) (As := [.int p1, .int z67.2.2.2]) X hw (c_X6_nextMove l (ad := ad) (eK := eK) (eT := eT) h76) rfl kM_X6_nextMove ki_X6_nextMove ks_X6_nextMove km_X6_273 ⟨(Nat.le_of_ble_eq_true rfl), (Nat.le_of_ble_eq_true rfl)⟩ ⟨(Nat.le_of_ble_eq_true rfl), (Nat.le_of_ble_eq_true rfl)⟩ rfl rfl ⟨_, _, _, _, rfl, rfl, rfl, rfl⟩ rfl hl.1 rfl (Nat.le_of_ble_eq_true rfl) dX6_bell_76) hw rfl rfl (fun _ => (Nat.le_of_ble_eq_true rfl)) (fun _ => rfl) rfl rfl (fun _ H locs hw => ?_)
      refine lv_istore (lv' := [(7, .int r76), (0, .ref (ad 0)), (1, .int p1), (2, .int p2), (3, .int p3), (4, .int z67.2.1), (5, .int z67.2.2.1), (6, .int z67.2.2.2)]) hx hb dX6_bell_79 hl (by decide) rfl (fun ls hl => ?_)
      refine lv_iload hx hb dX6_bell_81 (lv_at hl 5 rfl) ?_
      refine lv_aload_n hx hb dX6_bell_83 rfl (lv_at hl 1 rfl) ?_
      refine lv_iload hx hb dX6_bell_84 (lv_at hl 0 rfl) ?_
      obtain ⟨r86, h86, h⟩ := bnd h
      refine g_calli0 (isC := [0]) (gn := fun _ => [wRM g ad eK eT z67.1]) (g_runV (isC := [0]) (rest := [.int z67.2.1]) (As := [.int r76]) X hw (c_X6_minutesOf l (ad := ad) (eK := eK) (eT := eT) h86) rfl kM_X6_minutesOf ki_X6_minutesOf ks_X6_minutesOf km_X6_283 ⟨(Nat.le_of_ble_eq_true rfl), (Nat.le_of_ble_eq_true rfl)⟩ ⟨(Nat.le_of_ble_eq_true rfl), (Nat.le_of_ble_eq_true rfl)⟩ rfl rfl ⟨_, _, _, _, rfl, rfl, rfl, rfl⟩ rfl hl.1 rfl (Nat.le_of_ble_eq_true rfl) dX6_bell_86) hw rfl rfl (fun _ => (Nat.le_of_ble_eq_true rfl)) (fun _ => rfl) rfl rfl (fun _ H locs hw => ?_)
      refine lv_iadd hx hb dX6_bell_89 ?_
      refine lv_istore (lv' := [(4, .int (z67.2.1 + r86)), (7, .int r76), (0, .ref (ad 0)), (1, .int p1), (2, .int p2), (3, .int p3), (5, .int z67.2.2.1), (6, .int z67.2.2.2)]) hx hb dX6_bell_90 hl (by decide) rfl (fun ls hl => ?_)
      refine lv_iload hx hb dX6_bell_92 (lv_at hl 6 rfl) ?_
      refine lv_iload hx hb dX6_bell_94 (lv_at hl 1 rfl) ?_
      obtain ⟨r96, h96, h⟩ := bnd h
      refine g_calli0 (isC := []) (gn := fun _ => [wRM g ad eK eT z67.1]) (g_runS (isC := []) (rest := [.int z67.2.2.1]) (As := [.int r76]) X hw (c_X6_mask l h96) rfl kM_X6_mask kt_X6_mask km_X6_212 ⟨(Nat.le_of_ble_eq_true rfl), (Nat.le_of_ble_eq_true rfl)⟩ ⟨(Nat.le_of_ble_eq_true rfl), (Nat.le_of_ble_eq_true rfl)⟩ rfl rfl rfl hl.1 rfl (Nat.le_of_ble_eq_true rfl) dX6_bell_96) hw rfl rfl (fun _ => (Nat.le_of_ble_eq_true rfl)) (fun _ => rfl) rfl rfl (fun _ H locs hw => ?_)
      refine lv_iload_n hx hb dX6_bell_99 rfl (lv_at hl 4 rfl) ?_
      obtain ⟨r100, h100, h⟩ := bnd h
      refine g_calli0 (isC := []) (gn := fun _ => [wRM g ad eK eT z67.1]) (g_runS (isC := []) (rest := [.int z67.2.2.1]) (As := [.int r96, .int p2]) X hw (c_X6_has l h100) rfl kM_X6_has kt_X6_has km_X6_135 ⟨(Nat.le_of_ble_eq_true rfl), (Nat.le_of_ble_eq_true rfl)⟩ ⟨(Nat.le_of_ble_eq_true rfl), (Nat.le_of_ble_eq_true rfl)⟩ rfl rfl rfl hl.1 rfl (Nat.le_of_ble_eq_true rfl) dX6_bell_100) hw rfl rfl (fun _ => (Nat.le_of_ble_eq_true rfl)) (fun _ => rfl) rfl rfl (fun _ H locs hw => ?_)
      refine lv_if_eq (tgt := 110) hx hb dX6_bell_103 (by decide) (fun k103 => ?_) (fun k103 => ?_)
      · have h := itt k103 h
        refine lv_iconst (v := 0) hx hb dX6_bell_110 (by decide) ?_
        exact J111 _ h _ _ _ hw (lv_sub hl [2, 3, 4, 5, 0, 7, 1] rfl)
      · have h := itf k103 h
        refine lv_iconst (v := 1) hx hb dX6_bell_106 (by decide) ?_
        refine lv_goto (tgt := 111) hx hb dX6_bell_107 (by decide) ?_
        exact J111 _ h _ _ _ hw (lv_sub hl [2, 3, 4, 5, 0, 7, 1] rfl)
  have J22 : ∀ (z22 : RM), M_X6_bell_j22 N p1 p2 p3 z22 = some out → ∀ (H : Heap) (locs : List Loc) (ls : Array Slot), gW g A s.heap [wRM g ad eK eT z22] H locs → lv_has ls 8 [(0, .ref (ad 0))] → W p l e R_X6_bell s m args below meth c H locs 0 0 Q (F0 m 22 ls []) := by
    intro z22 h H locs ls hw hl
    unfold M_X6_bell_j22 at h
    refine lv_aload_n hx hb dX6_bell_22 rfl (lv_at hl 0 rfl) ?_
    refine lv_bipush (v := -2) hx hb dX6_bell_23 (by decide) ?_
    obtain ⟨r25, h25, h⟩ := bnd h
    refine g_calli0 (isC := [0]) (gn := fun _ => [wRM g ad eK eT r25.2]) (g_runV (isC := [0]) (rest := []) (As := [.int (-2 : Int32)]) X hw (c_X6_refuse l (ad := ad) (eK := eK) (eT := eT) h25) rfl kM_X6_refuse ki_X6_refuse ks_X6_refuse km_X6_96 ⟨(Nat.le_of_ble_eq_true rfl), (Nat.le_of_ble_eq_true rfl)⟩ ⟨(Nat.le_of_ble_eq_true rfl), (Nat.le_of_ble_eq_true rfl)⟩ rfl rfl ⟨_, _, _, _, rfl, rfl, rfl, rfl⟩ rfl hl.1 rfl (Nat.le_of_ble_eq_true rfl) dX6_bell_25) hw rfl rfl (fun _ => (Nat.le_of_ble_eq_true rfl)) (fun _ => rfl) rfl rfl (fun _ H locs hw => ?_)
    have h := Option.some.inj h
    subst h
    exact hret () dX6_bell_28 rfl hw
  unfold M_X6_bell at h
  refine lv_aload_n hx hb dX6_bell_0 rfl (lv_at hl 0 rfl) ?_
  refine lv_iload_n hx hb dX6_bell_1 rfl (lv_at hl 1 rfl) ?_
  obtain ⟨r2, h2, h⟩ := bnd h
  refine g_calli0 (isC := [0]) (gn := fun _ => [wRM g ad eK eT rm]) (g_runV (isC := [0]) (rest := []) (As := [.int p1]) X hw (c_X6_isBar l (ad := ad) (eK := eK) (eT := eT) h2) rfl kM_X6_isBar ki_X6_isBar ks_X6_isBar km_X6_106 ⟨(Nat.le_of_ble_eq_true rfl), (Nat.le_of_ble_eq_true rfl)⟩ ⟨(Nat.le_of_ble_eq_true rfl), (Nat.le_of_ble_eq_true rfl)⟩ rfl rfl ⟨_, _, _, _, rfl, rfl, rfl, rfl⟩ rfl hl.1 rfl (Nat.le_of_ble_eq_true rfl) dX6_bell_2) hw rfl rfl (fun _ => (Nat.le_of_ble_eq_true rfl)) (fun _ => rfl) rfl rfl (fun _ H locs hw => ?_)
  refine lv_if_eq (tgt := 22) hx hb dX6_bell_5 (by decide) (fun k5 => ?_) (fun k5 => ?_)
  · have h := itt k5 h
    exact J22 _ h _ _ _ hw (lv_sub hl [0] rfl)
  · have h := itf k5 h
    refine lv_aload_n hx hb dX6_bell_8 rfl (lv_at hl 0 rfl) ?_
    refine lv_iload_n hx hb dX6_bell_9 rfl (lv_at hl 1 rfl) ?_
    refine lv_iload_n hx hb dX6_bell_10 rfl (lv_at hl 2 rfl) ?_
    obtain ⟨r11, h11, h⟩ := bnd h
    refine g_calli0 (isC := [0]) (gn := fun _ => [wRM g ad eK eT rm]) (g_runV (isC := [0]) (rest := []) (As := [.int p1, .int p2]) X hw (c_X6_isRing l (ad := ad) (eK := eK) (eT := eT) h11) rfl kM_X6_isRing ki_X6_isRing ks_X6_isRing km_X6_148 ⟨(Nat.le_of_ble_eq_true rfl), (Nat.le_of_ble_eq_true rfl)⟩ ⟨(Nat.le_of_ble_eq_true rfl), (Nat.le_of_ble_eq_true rfl)⟩ rfl rfl ⟨_, _, _, _, rfl, rfl, rfl, rfl⟩ rfl hl.1 rfl (Nat.le_of_ble_eq_true rfl) dX6_bell_11) hw rfl rfl (fun _ => (Nat.le_of_ble_eq_true rfl)) (fun _ => rfl) rfl rfl (fun _ H locs hw => ?_)
    refine lv_if_eq (tgt := 22) hx hb dX6_bell_14 (by decide) (fun k14 => ?_) (fun k14 => ?_)
    · have h := itt k14 h
      exact J22 _ h _ _ _ hw (lv_sub hl [0] rfl)
    · have h := itf k14 h
      refine lv_iload_n hx hb dX6_bell_17 rfl (lv_at hl 3 rfl) ?_
      refine lv_iconst (v := 1) hx hb dX6_bell_18 (by decide) ?_
      refine lv_icmp_ge (tgt := 29) hx hb dX6_bell_19 (by decide) (fun k19 => ?_) (fun k19 => ?_)
      · have h := itt k19 h
        refine lv_aload_n hx hb dX6_bell_29 rfl (lv_at hl 0 rfl) ?_
        refine lv_iload_n hx hb dX6_bell_30 rfl (lv_at hl 1 rfl) ?_
        refine lv_iconst (v := 0) hx hb dX6_bell_31 (by decide) ?_
        refine lv_iconst (v := 0) hx hb dX6_bell_32 (by decide) ?_
        obtain ⟨r33, h33, h⟩ := bnd h
        refine g_callv0 (isC := [0]) (gn := fun _ => [wRM g ad eK eT r33]) (g_runV (isC := [0]) (rest := []) (As := [.int p1, .int (0 : Int32), .int (0 : Int32)]) X hw (c_X6_findFar l (ad := ad) (eK := eK) (eT := eT) h33) rfl kM_X6_findFar ki_X6_findFar ks_X6_findFar km_X6_269 ⟨(Nat.le_of_ble_eq_true rfl), (Nat.le_of_ble_eq_true rfl)⟩ ⟨(Nat.le_of_ble_eq_true rfl), (Nat.le_of_ble_eq_true rfl)⟩ rfl rfl ⟨_, _, _, _, rfl, rfl, rfl, rfl⟩ rfl hl.1 rfl (Nat.le_of_ble_eq_true rfl) dX6_bell_33) hw rfl rfl (fun _ => (Nat.le_of_ble_eq_true rfl)) (fun _ => rfl) rfl rfl (fun _ H locs hw => ?_)
        refine lv_aload_n hx hb dX6_bell_36 rfl (lv_at hl 0 rfl) ?_
        refine RM_g_far X hw 0 rfl kf_X6_67 dX6_bell_37 ?_
        refine lv_aload_n hx hb dX6_bell_40 rfl (lv_at hl 0 rfl) ?_
        refine RM_g_on X hw 0 rfl kf_X6_43 dX6_bell_41 ?_
        refine lv_iload_n hx hb dX6_bell_44 rfl (lv_at hl 1 rfl) ?_
        obtain ⟨q45, h⟩ := chk h
        refine RM_l_on X hw 0 rfl q45 dX6_bell_45 ?_
        obtain ⟨q46, h⟩ := chk h
        refine RM_l_far X hw 0 rfl q46 dX6_bell_46 ?_
        refine lv_iconst (v := -1) hx hb dX6_bell_47 (by decide) ?_
        refine lv_icmp_ne (tgt := 53) hx hb dX6_bell_48 (by decide) (fun k48 => ?_) (fun k48 => ?_)
        · have h := itt k48 h
          refine lv_iconst (v := 0) hx hb dX6_bell_53 (by decide) ?_
          refine lv_istore (lv' := [(4, .int (0 : Int32)), (0, .ref (ad 0)), (1, .int p1), (2, .int p2), (3, .int p3)]) hx hb dX6_bell_54 hl (by decide) rfl (fun ls hl => ?_)
          refine lv_iconst (v := 0) hx hb dX6_bell_56 (by decide) ?_
          refine lv_istore (lv' := [(5, .int (0 : Int32)), (4, .int (0 : Int32)), (0, .ref (ad 0)), (1, .int p1), (2, .int p2), (3, .int p3)]) hx hb dX6_bell_57 hl (by decide) rfl (fun ls hl => ?_)
          refine lv_aload_n hx hb dX6_bell_59 rfl (lv_at hl 2 rfl) ?_
          refine RM_g_on X hw 0 rfl kf_X6_43 dX6_bell_60 ?_
          refine lv_iload_n hx hb dX6_bell_63 rfl (lv_at hl 3 rfl) ?_
          obtain ⟨q64, h⟩ := chk h
          refine RM_l_on X hw 0 rfl q64 dX6_bell_64 ?_
          refine lv_istore (lv' := [(6, .int (RM_on r33 p1.toNatClampNeg)), (5, .int (0 : Int32)), (4, .int (0 : Int32)), (0, .ref (ad 0)), (1, .int p1), (2, .int p2), (3, .int p3)]) hx hb dX6_bell_65 hl (by decide) rfl (fun ls hl => ?_)
          exact L67 N _ h _ _ _ hw (lv_sub hl [3, 4, 5, 6, 2, 1, 0] rfl)
        · have h := itf (fun z => z k48) h
          refine lv_iconst (v := -1) hx hb dX6_bell_51 (by decide) ?_
          have h := Option.some.inj h
          subst h
          exact hret () dX6_bell_52 rfl hw
      · have h := itf k19 h
        exact J22 _ h _ _ _ hw (lv_sub hl [0] rfl)
theorem kM_X6_movable : kM yX6_movable cX6_movable 5 (some FieldType.int) 1 := ⟨kc_X6_movable, kn_RingsOffModel, by decide +kernel⟩
abbrev R_X6_movable : Room := { frames := 5, cells := 0, slots := 0, locals := 118 }
set_option maxHeartbeats 4000000 in
set_option maxRecDepth 100000 in
theorem c_X6_movable (l : Launch) {ad : Nat → Nat} {eK : Option Nat} {eT : Option Nat} {N : Nat} {rm : RM} {p1 : Int32} {out : Int32 × RM} (h : M_X6_movable N rm p1 = some out) : gM l yX6_movable cX6_movable 5 (some FieldType.int) R_X6_movable (fun _ => [.ref (ad 0), .int p1]) (fun g => [wRM g ad eK eT rm]) (gQi (fun (_ : Unit) => out.1) (fun g (_ : Unit) => [wRM g ad eK eT out.2])) := by
  refine gM.ofi (by decide +kernel) (fun _ => Nat.le_of_ble_eq_true rfl) (fun g p e s m args below meth c A ls Q X hret hw hl => ?_)
  have hx := X.1.1
  have hb := X.1.2.1
  have hl : lv_has ls 5 [(0, .ref (ad 0)), (1, .int p1)] := hl
  have L31 : ∀ (n : Nat) (z31 : RM × Int32 × Int32), lp (M_X6_movable_l31 N p1) n z31 = some out → ∀ (H : Heap) (locs : List Loc) (ls : Array Slot), gW g A s.heap [wRM g ad eK eT z31.1] H locs → lv_has ls 5 [(0, .ref (ad 0)), (1, .int p1), (2, .int z31.2.1), (3, .int z31.2.2)] → W p l e R_X6_movable s m args below meth c H locs 0 0 Q (F0 m 31 ls []) := by
    refine lp_ind ?_
    intro rec31 ih31
    have L42 : ∀ (n : Nat) (z42 : RM × Int32 × Int32 × Int32), lp (M_X6_movable_l42 N p1 rec31) n z42 = some out → ∀ (H : Heap) (locs : List Loc) (ls : Array Slot), gW g A s.heap [wRM g ad eK eT z42.1] H locs → lv_has ls 5 [(0, .ref (ad 0)), (1, .int p1), (2, .int z42.2.1), (3, .int z42.2.2.1), (4, .int z42.2.2.2)] → W p l e R_X6_movable s m args below meth c H locs 0 0 Q (F0 m 42 ls []) := by
      refine lp_ind ?_
      intro rec42 ih42
      have J75 : ∀ (z75 : RM × Int32 × Int32 × Int32 × Int32), M_X6_movable_j75 N p1 rec31 rec42 z75 = some out → ∀ (H : Heap) (locs : List Loc) (ls : Array Slot), gW g A s.heap [wRM g ad eK eT z75.1] H locs → lv_has ls 5 [(0, .ref (ad 0)), (1, .int p1), (3, .int z75.2.1), (4, .int z75.2.2.1)] → W p l e R_X6_movable s m args below meth c H locs 0 0 Q (F0 m 75 ls [.int z75.2.2.2.2, .int z75.2.2.2.1]) := by
        intro z75 h H locs ls hw hl
        unfold M_X6_movable_j75 at h
        refine lv_ior hx hb dX6_movable_75 ?_
        refine lv_istore_n (lv' := [(2, .int (z75.2.2.2.1 ||| z75.2.2.2.2)), (0, .ref (ad 0)), (1, .int p1), (3, .int z75.2.1), (4, .int z75.2.2.1)]) hx hb dX6_movable_76 rfl hl (by decide) rfl (fun ls hl => ?_)
        refine lv_iinc (v := (z75.2.2.1 + 1)) (lv' := [(4, .int (z75.2.2.1 + 1)), (2, .int (z75.2.2.2.1 ||| z75.2.2.2.2)), (0, .ref (ad 0)), (1, .int p1), (3, .int z75.2.1)]) hx hb dX6_movable_77 hl (k := 4) rfl rfl (by decide) rfl (fun ls hl => ?_)
        refine lv_goto (tgt := 42) hx hb dX6_movable_80 (by decide) ?_
        exact ih42 _ h _ _ _ hw (lv_sub hl [2, 3, 1, 4, 0] rfl)
      intro z42 h H locs ls hw hl
      unfold M_X6_movable_l42 at h
      refine lv_iload hx hb dX6_movable_42 (lv_at hl 4 rfl) ?_
      refine lv_bipush (v := 20) hx hb dX6_movable_44 (by decide) ?_
      refine lv_icmp_gt (tgt := 83) hx hb dX6_movable_46 (by decide) (fun k46 => ?_) (fun k46 => ?_)
      · have h := itt k46 h
        refine lv_iinc (v := (z42.2.2.1 + 1)) (lv' := [(3, .int (z42.2.2.1 + 1)), (0, .ref (ad 0)), (1, .int p1), (2, .int z42.2.1), (4, .int z42.2.2.2)]) hx hb dX6_movable_83 hl (k := 3) rfl rfl (by decide) rfl (fun ls hl => ?_)
        refine lv_goto (tgt := 31) hx hb dX6_movable_86 (by decide) ?_
        exact ih31 _ h _ _ _ hw (lv_sub hl [1, 2, 3, 0] rfl)
      · have h := itf k46 h
        refine lv_iload_n hx hb dX6_movable_49 rfl (lv_at hl 2 rfl) ?_
        refine lv_aload_n hx hb dX6_movable_50 rfl (lv_at hl 0 rfl) ?_
        refine lv_iload_n hx hb dX6_movable_51 rfl (lv_at hl 1 rfl) ?_
        refine lv_aload_n hx hb dX6_movable_52 rfl (lv_at hl 0 rfl) ?_
        refine RM_g_queue X hw 0 rfl kf_X6_70 dX6_movable_53 ?_
        refine lv_iload_n hx hb dX6_movable_56 rfl (lv_at hl 3 rfl) ?_
        obtain ⟨q57, h⟩ := chk h
        refine RM_l_queue X hw 0 rfl q57 dX6_movable_57 ?_
        refine lv_iload hx hb dX6_movable_58 (lv_at hl 4 rfl) ?_
        obtain ⟨r60, h60, h⟩ := bnd h
        refine g_calli0 (isC := [0]) (gn := fun _ => [wRM g ad eK eT z42.1]) (g_runV (isC := [0]) (rest := [.int z42.2.1]) (As := [.int p1, .int (RM_queue z42.1 z42.2.2.1.toNatClampNeg), .int z42.2.2.2]) X hw (c_X6_mayAt l (ad := ad) (eK := eK) (eT := eT) h60) rfl kM_X6_mayAt ki_X6_mayAt ks_X6_mayAt km_X6_131 ⟨(Nat.le_of_ble_eq_true rfl), (Nat.le_of_ble_eq_true rfl)⟩ ⟨(Nat.le_of_ble_eq_true rfl), (Nat.le_of_ble_eq_true rfl)⟩ rfl rfl ⟨_, _, _, _, rfl, rfl, rfl, rfl⟩ rfl hl.1 rfl (Nat.le_of_ble_eq_true rfl) dX6_movable_60) hw rfl rfl (fun _ => (Nat.le_of_ble_eq_true rfl)) (fun _ => rfl) rfl rfl (fun _ H locs hw => ?_)
        refine lv_if_eq (tgt := 74) hx hb dX6_movable_63 (by decide) (fun k63 => ?_) (fun k63 => ?_)
        · have h := itt k63 h
          refine lv_iconst (v := 0) hx hb dX6_movable_74 (by decide) ?_
          exact J75 _ h _ _ _ hw (lv_sub hl [0, 1, 3, 4] rfl)
        · have h := itf k63 h
          refine lv_iload hx hb dX6_movable_66 (lv_at hl 4 rfl) ?_
          obtain ⟨r68, h68, h⟩ := bnd h
          refine g_calli0 (isC := []) (gn := fun _ => [wRM g ad eK eT z42.1]) (g_runS (isC := []) (rest := [.int z42.2.1]) (As := [.int z42.2.2.2]) X hw (c_X6_mask l h68) rfl kM_X6_mask kt_X6_mask km_X6_212 ⟨(Nat.le_of_ble_eq_true rfl), (Nat.le_of_ble_eq_true rfl)⟩ ⟨(Nat.le_of_ble_eq_true rfl), (Nat.le_of_ble_eq_true rfl)⟩ rfl rfl rfl hl.1 rfl (Nat.le_of_ble_eq_true rfl) dX6_movable_68) hw rfl rfl (fun _ => (Nat.le_of_ble_eq_true rfl)) (fun _ => rfl) rfl rfl (fun _ H locs hw => ?_)
          refine lv_goto (tgt := 75) hx hb dX6_movable_71 (by decide) ?_
          exact J75 _ h _ _ _ hw (lv_sub hl [0, 1, 3, 4] rfl)
    intro z31 h H locs ls hw hl
    unfold M_X6_movable_l31 at h
    refine lv_iload_n hx hb dX6_movable_31 rfl (lv_at hl 3 rfl) ?_
    refine lv_aload_n hx hb dX6_movable_32 rfl (lv_at hl 0 rfl) ?_
    refine RM_g_queued X hw 0 rfl kf_X6_266 dX6_movable_33 ?_
    refine lv_icmp_ge (tgt := 89) hx hb dX6_movable_36 (by decide) (fun k36 => ?_) (fun k36 => ?_)
    · have h := itt k36 h
      refine lv_iload_n hx hb dX6_movable_89 rfl (lv_at hl 2 rfl) ?_
      have h := Option.some.inj h
      subst h
      exact hret () dX6_movable_90 rfl hw
    · have h := itf k36 h
      refine lv_iconst (v := 0) hx hb dX6_movable_39 (by decide) ?_
      refine lv_istore (lv' := [(4, .int (0 : Int32)), (0, .ref (ad 0)), (1, .int p1), (2, .int z31.2.1), (3, .int z31.2.2)]) hx hb dX6_movable_40 hl (by decide) rfl (fun ls hl => ?_)
      exact L42 N _ h _ _ _ hw (lv_sub hl [1, 2, 3, 4, 0] rfl)
  unfold M_X6_movable at h
  refine lv_aload_n hx hb dX6_movable_0 rfl (lv_at hl 0 rfl) ?_
  refine lv_iload_n hx hb dX6_movable_1 rfl (lv_at hl 1 rfl) ?_
  obtain ⟨r2, h2, h⟩ := bnd h
  refine g_calli0 (isC := [0]) (gn := fun _ => [wRM g ad eK eT rm]) (g_runV (isC := [0]) (rest := []) (As := [.int p1]) X hw (c_X6_isBar l (ad := ad) (eK := eK) (eT := eT) h2) rfl kM_X6_isBar ki_X6_isBar ks_X6_isBar km_X6_106 ⟨(Nat.le_of_ble_eq_true rfl), (Nat.le_of_ble_eq_true rfl)⟩ ⟨(Nat.le_of_ble_eq_true rfl), (Nat.le_of_ble_eq_true rfl)⟩ rfl rfl ⟨_, _, _, _, rfl, rfl, rfl, rfl⟩ rfl hl.1 rfl (Nat.le_of_ble_eq_true rfl) dX6_movable_2) hw rfl rfl (fun _ => (Nat.le_of_ble_eq_true rfl)) (fun _ => rfl) rfl rfl (fun _ H locs hw => ?_)
  refine lv_if_ne (tgt := 15) hx hb dX6_movable_5 (by decide) (fun k5 => ?_) (fun k5 => ?_)
  · have h := itt k5 h
    refine lv_aload_n hx hb dX6_movable_15 rfl (lv_at hl 0 rfl) ?_
    refine lv_iload_n hx hb dX6_movable_16 rfl (lv_at hl 1 rfl) ?_
    refine lv_aload_n hx hb dX6_movable_17 rfl (lv_at hl 0 rfl) ?_
    refine RM_g_on X hw 0 rfl kf_X6_43 dX6_movable_18 ?_
    refine lv_iload_n hx hb dX6_movable_21 rfl (lv_at hl 1 rfl) ?_
    obtain ⟨q22, h⟩ := chk h
    refine RM_l_on X hw 0 rfl q22 dX6_movable_22 ?_
    refine lv_iconst (v := 1) hx hb dX6_movable_23 (by decide) ?_
    obtain ⟨r24, h24, h⟩ := bnd h
    refine g_callv0 (isC := [0]) (gn := fun _ => [wRM g ad eK eT r24]) (g_runV (isC := [0]) (rest := []) (As := [.int p1, .int (RM_on rm p1.toNatClampNeg), .int (1 : Int32)]) X hw (c_X6_findFar l (ad := ad) (eK := eK) (eT := eT) h24) rfl kM_X6_findFar ki_X6_findFar ks_X6_findFar km_X6_269 ⟨(Nat.le_of_ble_eq_true rfl), (Nat.le_of_ble_eq_true rfl)⟩ ⟨(Nat.le_of_ble_eq_true rfl), (Nat.le_of_ble_eq_true rfl)⟩ rfl rfl ⟨_, _, _, _, rfl, rfl, rfl, rfl⟩ rfl hl.1 rfl (Nat.le_of_ble_eq_true rfl) dX6_movable_24) hw rfl rfl (fun _ => (Nat.le_of_ble_eq_true rfl)) (fun _ => rfl) rfl rfl (fun _ H locs hw => ?_)
    refine lv_iconst (v := 0) hx hb dX6_movable_27 (by decide) ?_
    refine lv_istore_n (lv' := [(2, .int (0 : Int32)), (0, .ref (ad 0)), (1, .int p1)]) hx hb dX6_movable_28 rfl hl (by decide) rfl (fun ls hl => ?_)
    refine lv_iconst (v := 0) hx hb dX6_movable_29 (by decide) ?_
    refine lv_istore_n (lv' := [(3, .int (0 : Int32)), (2, .int (0 : Int32)), (0, .ref (ad 0)), (1, .int p1)]) hx hb dX6_movable_30 rfl hl (by decide) rfl (fun ls hl => ?_)
    exact L31 N _ h _ _ _ hw (lv_sub hl [2, 3, 1, 0] rfl)
  · have h := itf (fun z => z k5) h
    refine lv_aload_n hx hb dX6_movable_8 rfl (lv_at hl 0 rfl) ?_
    refine lv_bipush (v := -2) hx hb dX6_movable_9 (by decide) ?_
    obtain ⟨r11, h11, h⟩ := bnd h
    refine g_calli0 (isC := [0]) (gn := fun _ => [wRM g ad eK eT r11.2]) (g_runV (isC := [0]) (rest := []) (As := [.int (-2 : Int32)]) X hw (c_X6_refuse l (ad := ad) (eK := eK) (eT := eT) h11) rfl kM_X6_refuse ki_X6_refuse ks_X6_refuse km_X6_96 ⟨(Nat.le_of_ble_eq_true rfl), (Nat.le_of_ble_eq_true rfl)⟩ ⟨(Nat.le_of_ble_eq_true rfl), (Nat.le_of_ble_eq_true rfl)⟩ rfl rfl ⟨_, _, _, _, rfl, rfl, rfl, rfl⟩ rfl hl.1 rfl (Nat.le_of_ble_eq_true rfl) dX6_movable_11) hw rfl rfl (fun _ => (Nat.le_of_ble_eq_true rfl)) (fun _ => rfl) rfl rfl (fun _ H locs hw => ?_)
    have h := Option.some.inj h
    subst h
    exact hret () dX6_movable_14 rfl hw
theorem kM_X6_ends : kM yX6_ends cX6_ends 6 (some FieldType.int) 1 := ⟨kc_X6_ends, kn_RingsOffModel, by decide +kernel⟩
abbrev R_X6_ends : Room := { frames := 5, cells := 0, slots := 0, locals := 118 }
set_option maxHeartbeats 4000000 in
set_option maxRecDepth 100000 in
theorem c_X6_ends (l : Launch) {ad : Nat → Nat} {eK : Option Nat} {eT : Option Nat} {N : Nat} {rm : RM} {p1 : Int32} {out : Int32 × RM} (h : M_X6_ends N rm p1 = some out) : gM l yX6_ends cX6_ends 6 (some FieldType.int) R_X6_ends (fun _ => [.ref (ad 0), .int p1]) (fun g => [wRM g ad eK eT rm]) (gQi (fun (_ : Unit) => out.1) (fun g (_ : Unit) => [wRM g ad eK eT out.2])) := by
  refine gM.ofi (by decide +kernel) (fun _ => Nat.le_of_ble_eq_true rfl) (fun g p e s m args below meth c A ls Q X hret hw hl => ?_)
  have hx := X.1.1
  have hb := X.1.2.1
  have hl : lv_has ls 6 [(0, .ref (ad 0)), (1, .int p1)] := hl
  have L31 : ∀ (n : Nat) (z31 : RM × Int32 × Int32), lp (M_X6_ends_l31 N p1) n z31 = some out → ∀ (H : Heap) (locs : List Loc) (ls : Array Slot), gW g A s.heap [wRM g ad eK eT z31.1] H locs → lv_has ls 6 [(0, .ref (ad 0)), (1, .int p1), (2, .int z31.2.1), (3, .int z31.2.2)] → W p l e R_X6_ends s m args below meth c H locs 0 0 Q (F0 m 31 ls []) := by
    refine lp_ind ?_
    intro rec31 ih31
    have J96 : ∀ (z96 : RM × Int32 × Int32 × Int32), M_X6_ends_j96 N p1 rec31 z96 = some out → ∀ (H : Heap) (locs : List Loc) (ls : Array Slot), gW g A s.heap [wRM g ad eK eT z96.1] H locs → lv_has ls 6 [(0, .ref (ad 0)), (1, .int p1), (3, .int z96.2.1)] → W p l e R_X6_ends s m args below meth c H locs 0 0 Q (F0 m 96 ls [.int z96.2.2.2, .int z96.2.2.1]) := by
      intro z96 h H locs ls hw hl
      unfold M_X6_ends_j96 at h
      refine lv_iadd hx hb dX6_ends_96 ?_
      refine lv_istore_n (lv' := [(2, .int (z96.2.2.1 + z96.2.2.2)), (0, .ref (ad 0)), (1, .int p1), (3, .int z96.2.1)]) hx hb dX6_ends_97 rfl hl (by decide) rfl (fun ls hl => ?_)
      refine lv_iinc (v := (z96.2.1 + 1)) (lv' := [(3, .int (z96.2.1 + 1)), (2, .int (z96.2.2.1 + z96.2.2.2)), (0, .ref (ad 0)), (1, .int p1)]) hx hb dX6_ends_98 hl (k := 3) rfl rfl (by decide) rfl (fun ls hl => ?_)
      refine lv_goto (tgt := 31) hx hb dX6_ends_101 (by decide) ?_
      exact ih31 _ h _ _ _ hw (lv_sub hl [2, 3, 1, 0] rfl)
    have L45 : ∀ (n : Nat) (z45 : RM × Int32 × Int32 × Int32 × Int32), lp (M_X6_ends_l45 N p1 rec31) n z45 = some out → ∀ (H : Heap) (locs : List Loc) (ls : Array Slot), gW g A s.heap [wRM g ad eK eT z45.1] H locs → lv_has ls 6 [(0, .ref (ad 0)), (1, .int p1), (2, .int z45.2.1), (3, .int z45.2.2.1), (4, .int z45.2.2.2.1), (5, .int z45.2.2.2.2)] → W p l e R_X6_ends s m args below meth c H locs 0 0 Q (F0 m 45 ls []) := by
      refine lp_ind ?_
      intro rec45 ih45
      have J75 : ∀ (z75 : RM × Int32 × Int32 × Int32 × Int32 × Int32), M_X6_ends_j75 N p1 rec31 rec45 z75 = some out → ∀ (H : Heap) (locs : List Loc) (ls : Array Slot), gW g A s.heap [wRM g ad eK eT z75.1] H locs → lv_has ls 6 [(0, .ref (ad 0)), (1, .int p1), (2, .int z75.2.1), (3, .int z75.2.2.1), (5, .int z75.2.2.2.1)] → W p l e R_X6_ends s m args below meth c H locs 0 0 Q (F0 m 75 ls [.int z75.2.2.2.2.2, .int z75.2.2.2.2.1]) := by
        intro z75 h H locs ls hw hl
        unfold M_X6_ends_j75 at h
        refine lv_iadd hx hb dX6_ends_75 ?_
        refine lv_istore (lv' := [(4, .int (z75.2.2.2.2.1 + z75.2.2.2.2.2)), (0, .ref (ad 0)), (1, .int p1), (2, .int z75.2.1), (3, .int z75.2.2.1), (5, .int z75.2.2.2.1)]) hx hb dX6_ends_76 hl (by decide) rfl (fun ls hl => ?_)
        refine lv_iinc (v := (z75.2.2.2.1 + 1)) (lv' := [(5, .int (z75.2.2.2.1 + 1)), (4, .int (z75.2.2.2.2.1 + z75.2.2.2.2.2)), (0, .ref (ad 0)), (1, .int p1), (2, .int z75.2.1), (3, .int z75.2.2.1)]) hx hb dX6_ends_78 hl (k := 5) rfl rfl (by decide) rfl (fun ls hl => ?_)
        refine lv_goto (tgt := 45) hx hb dX6_ends_81 (by decide) ?_
        exact ih45 _ h _ _ _ hw (lv_sub hl [2, 3, 4, 5, 1, 0] rfl)
      intro z45 h H locs ls hw hl
      unfold M_X6_ends_l45 at h
      refine lv_iload hx hb dX6_ends_45 (lv_at hl 5 rfl) ?_
      refine lv_bipush (v := 20) hx hb dX6_ends_47 (by decide) ?_
      refine lv_icmp_gt (tgt := 84) hx hb dX6_ends_49 (by decide) (fun k49 => ?_) (fun k49 => ?_)
      · have h := itt k49 h
        refine lv_iload_n hx hb dX6_ends_84 rfl (lv_at hl 2 rfl) ?_
        refine lv_iload hx hb dX6_ends_85 (lv_at hl 4 rfl) ?_
        refine lv_iconst (v := 1) hx hb dX6_ends_87 (by decide) ?_
        refine lv_icmp_ne (tgt := 95) hx hb dX6_ends_88 (by decide) (fun k88 => ?_) (fun k88 => ?_)
        · have h := itt k88 h
          refine lv_iconst (v := 0) hx hb dX6_ends_95 (by decide) ?_
          exact J96 _ h _ _ _ hw (lv_sub hl [0, 1, 3] rfl)
        · have h := itf (fun z => z k88) h
          refine lv_iconst (v := 1) hx hb dX6_ends_91 (by decide) ?_
          refine lv_goto (tgt := 96) hx hb dX6_ends_92 (by decide) ?_
          exact J96 _ h _ _ _ hw (lv_sub hl [0, 1, 3] rfl)
      · have h := itf k49 h
        refine lv_iload hx hb dX6_ends_52 (lv_at hl 4 rfl) ?_
        refine lv_aload_n hx hb dX6_ends_54 rfl (lv_at hl 0 rfl) ?_
        refine lv_iload_n hx hb dX6_ends_55 rfl (lv_at hl 1 rfl) ?_
        refine lv_aload_n hx hb dX6_ends_56 rfl (lv_at hl 0 rfl) ?_
        refine RM_g_queue X hw 0 rfl kf_X6_70 dX6_ends_57 ?_
        refine lv_iload_n hx hb dX6_ends_60 rfl (lv_at hl 3 rfl) ?_
        obtain ⟨q61, h⟩ := chk h
        refine RM_l_queue X hw 0 rfl q61 dX6_ends_61 ?_
        refine lv_iload hx hb dX6_ends_62 (lv_at hl 5 rfl) ?_
        obtain ⟨r64, h64, h⟩ := bnd h
        refine g_calli0 (isC := [0]) (gn := fun _ => [wRM g ad eK eT z45.1]) (g_runV (isC := [0]) (rest := [.int z45.2.2.2.1]) (As := [.int p1, .int (RM_queue z45.1 z45.2.2.1.toNatClampNeg), .int z45.2.2.2.2]) X hw (c_X6_mayAt l (ad := ad) (eK := eK) (eT := eT) h64) rfl kM_X6_mayAt ki_X6_mayAt ks_X6_mayAt km_X6_131 ⟨(Nat.le_of_ble_eq_true rfl), (Nat.le_of_ble_eq_true rfl)⟩ ⟨(Nat.le_of_ble_eq_true rfl), (Nat.le_of_ble_eq_true rfl)⟩ rfl rfl ⟨_, _, _, _, rfl, rfl, rfl, rfl⟩ rfl hl.1 rfl (Nat.le_of_ble_eq_true rfl) dX6_ends_64) hw rfl rfl (fun _ => (Nat.le_of_ble_eq_true rfl)) (fun _ => rfl) rfl rfl (fun _ H locs hw => ?_)
        refine lv_if_eq (tgt := 74) hx hb dX6_ends_67 (by decide) (fun k67 => ?_) (fun k67 => ?_)
        · have h := itt k67 h
          refine lv_iconst (v := 0) hx hb dX6_ends_74 (by decide) ?_
          exact J75 _ h _ _ _ hw (lv_sub hl [0, 1, 2, 3, 5] rfl)
        · have h := itf k67 h
          refine lv_iconst (v := 1) hx hb dX6_ends_70 (by decide) ?_
          refine lv_goto (tgt := 75) hx hb dX6_ends_71 (by decide) ?_
          exact J75 _ h _ _ _ hw (lv_sub hl [0, 1, 2, 3, 5] rfl)
    intro z31 h H locs ls hw hl
    unfold M_X6_ends_l31 at h
    refine lv_iload_n hx hb dX6_ends_31 rfl (lv_at hl 3 rfl) ?_
    refine lv_aload_n hx hb dX6_ends_32 rfl (lv_at hl 0 rfl) ?_
    refine RM_g_queued X hw 0 rfl kf_X6_266 dX6_ends_33 ?_
    refine lv_icmp_ge (tgt := 104) hx hb dX6_ends_36 (by decide) (fun k36 => ?_) (fun k36 => ?_)
    · have h := itt k36 h
      refine lv_iload_n hx hb dX6_ends_104 rfl (lv_at hl 2 rfl) ?_
      have h := Option.some.inj h
      subst h
      exact hret () dX6_ends_105 rfl hw
    · have h := itf k36 h
      refine lv_iconst (v := 0) hx hb dX6_ends_39 (by decide) ?_
      refine lv_istore (lv' := [(4, .int (0 : Int32)), (0, .ref (ad 0)), (1, .int p1), (2, .int z31.2.1), (3, .int z31.2.2)]) hx hb dX6_ends_40 hl (by decide) rfl (fun ls hl => ?_)
      refine lv_iconst (v := 0) hx hb dX6_ends_42 (by decide) ?_
      refine lv_istore (lv' := [(5, .int (0 : Int32)), (4, .int (0 : Int32)), (0, .ref (ad 0)), (1, .int p1), (2, .int z31.2.1), (3, .int z31.2.2)]) hx hb dX6_ends_43 hl (by decide) rfl (fun ls hl => ?_)
      exact L45 N _ h _ _ _ hw (lv_sub hl [2, 3, 4, 5, 1, 0] rfl)
  unfold M_X6_ends at h
  refine lv_aload_n hx hb dX6_ends_0 rfl (lv_at hl 0 rfl) ?_
  refine lv_iload_n hx hb dX6_ends_1 rfl (lv_at hl 1 rfl) ?_
  obtain ⟨r2, h2, h⟩ := bnd h
  refine g_calli0 (isC := [0]) (gn := fun _ => [wRM g ad eK eT rm]) (g_runV (isC := [0]) (rest := []) (As := [.int p1]) X hw (c_X6_isBar l (ad := ad) (eK := eK) (eT := eT) h2) rfl kM_X6_isBar ki_X6_isBar ks_X6_isBar km_X6_106 ⟨(Nat.le_of_ble_eq_true rfl), (Nat.le_of_ble_eq_true rfl)⟩ ⟨(Nat.le_of_ble_eq_true rfl), (Nat.le_of_ble_eq_true rfl)⟩ rfl rfl ⟨_, _, _, _, rfl, rfl, rfl, rfl⟩ rfl hl.1 rfl (Nat.le_of_ble_eq_true rfl) dX6_ends_2) hw rfl rfl (fun _ => (Nat.le_of_ble_eq_true rfl)) (fun _ => rfl) rfl rfl (fun _ H locs hw => ?_)
  refine lv_if_ne (tgt := 15) hx hb dX6_ends_5 (by decide) (fun k5 => ?_) (fun k5 => ?_)
  · have h := itt k5 h
    refine lv_aload_n hx hb dX6_ends_15 rfl (lv_at hl 0 rfl) ?_
    refine lv_iload_n hx hb dX6_ends_16 rfl (lv_at hl 1 rfl) ?_
    refine lv_aload_n hx hb dX6_ends_17 rfl (lv_at hl 0 rfl) ?_
    refine RM_g_on X hw 0 rfl kf_X6_43 dX6_ends_18 ?_
    refine lv_iload_n hx hb dX6_ends_21 rfl (lv_at hl 1 rfl) ?_
    obtain ⟨q22, h⟩ := chk h
    refine RM_l_on X hw 0 rfl q22 dX6_ends_22 ?_
    refine lv_iconst (v := 1) hx hb dX6_ends_23 (by decide) ?_
    obtain ⟨r24, h24, h⟩ := bnd h
    refine g_callv0 (isC := [0]) (gn := fun _ => [wRM g ad eK eT r24]) (g_runV (isC := [0]) (rest := []) (As := [.int p1, .int (RM_on rm p1.toNatClampNeg), .int (1 : Int32)]) X hw (c_X6_findFar l (ad := ad) (eK := eK) (eT := eT) h24) rfl kM_X6_findFar ki_X6_findFar ks_X6_findFar km_X6_269 ⟨(Nat.le_of_ble_eq_true rfl), (Nat.le_of_ble_eq_true rfl)⟩ ⟨(Nat.le_of_ble_eq_true rfl), (Nat.le_of_ble_eq_true rfl)⟩ rfl rfl ⟨_, _, _, _, rfl, rfl, rfl, rfl⟩ rfl hl.1 rfl (Nat.le_of_ble_eq_true rfl) dX6_ends_24) hw rfl rfl (fun _ => (Nat.le_of_ble_eq_true rfl)) (fun _ => rfl) rfl rfl (fun _ H locs hw => ?_)
    refine lv_iconst (v := 0) hx hb dX6_ends_27 (by decide) ?_
    refine lv_istore_n (lv' := [(2, .int (0 : Int32)), (0, .ref (ad 0)), (1, .int p1)]) hx hb dX6_ends_28 rfl hl (by decide) rfl (fun ls hl => ?_)
    refine lv_iconst (v := 0) hx hb dX6_ends_29 (by decide) ?_
    refine lv_istore_n (lv' := [(3, .int (0 : Int32)), (2, .int (0 : Int32)), (0, .ref (ad 0)), (1, .int p1)]) hx hb dX6_ends_30 rfl hl (by decide) rfl (fun ls hl => ?_)
    exact L31 N _ h _ _ _ hw (lv_sub hl [2, 3, 1, 0] rfl)
  · have h := itf (fun z => z k5) h
    refine lv_aload_n hx hb dX6_ends_8 rfl (lv_at hl 0 rfl) ?_
    refine lv_bipush (v := -2) hx hb dX6_ends_9 (by decide) ?_
    obtain ⟨r11, h11, h⟩ := bnd h
    refine g_calli0 (isC := [0]) (gn := fun _ => [wRM g ad eK eT r11.2]) (g_runV (isC := [0]) (rest := []) (As := [.int (-2 : Int32)]) X hw (c_X6_refuse l (ad := ad) (eK := eK) (eT := eT) h11) rfl kM_X6_refuse ki_X6_refuse ks_X6_refuse km_X6_96 ⟨(Nat.le_of_ble_eq_true rfl), (Nat.le_of_ble_eq_true rfl)⟩ ⟨(Nat.le_of_ble_eq_true rfl), (Nat.le_of_ble_eq_true rfl)⟩ rfl rfl ⟨_, _, _, _, rfl, rfl, rfl, rfl⟩ rfl hl.1 rfl (Nat.le_of_ble_eq_true rfl) dX6_ends_11) hw rfl rfl (fun _ => (Nat.le_of_ble_eq_true rfl)) (fun _ => rfl) rfl rfl (fun _ H locs hw => ?_)
    have h := Option.some.inj h
    subst h
    exact hret () dX6_ends_14 rfl hw
theorem kM_X6_first : kM yX6_first cX6_first 4 (some FieldType.int) 2 := ⟨kc_X6_first, kn_RingsOffModel, by decide +kernel⟩
abbrev R_X6_first : Room := { frames := 5, cells := 0, slots := 0, locals := 118 }
set_option maxHeartbeats 4000000 in
set_option maxRecDepth 100000 in
theorem c_X6_first (l : Launch) {ad : Nat → Nat} {eK : Option Nat} {eT : Option Nat} {N : Nat} {rm : RM} {p1 : Int32} {p2 : Int32} {out : Int32 × RM} (h : M_X6_first N rm p1 p2 = some out) : gM l yX6_first cX6_first 4 (some FieldType.int) R_X6_first (fun _ => [.ref (ad 0), .int p1, .int p2]) (fun g => [wRM g ad eK eT rm]) (gQi (fun (_ : Unit) => out.1) (fun g (_ : Unit) => [wRM g ad eK eT out.2])) := by
  refine gM.ofi (by decide +kernel) (fun _ => Nat.le_of_ble_eq_true rfl) (fun g p e s m args below meth c A ls Q X hret hw hl => ?_)
  have hx := X.1.1
  have hb := X.1.2.1
  have hl : lv_has ls 4 [(0, .ref (ad 0)), (1, .int p1), (2, .int p2)] := hl
  have J82 : ∀ (z82 : RM × Int32), M_X6_first_j82 N p1 p2 z82 = some out → ∀ (H : Heap) (locs : List Loc) (ls : Array Slot), gW g A s.heap [wRM g ad eK eT z82.1] H locs → lv_has ls 4 [(0, .ref (ad 0)), (3, .int z82.2)] → W p l e R_X6_first s m args below meth c H locs 0 0 Q (F0 m 82 ls []) := by
    intro z82 h H locs ls hw hl
    unfold M_X6_first_j82 at h
    refine lv_aload_n hx hb dX6_first_82 rfl (lv_at hl 0 rfl) ?_
    refine RM_g_far X hw 0 rfl kf_X6_67 dX6_first_83 ?_
    refine lv_aload_n hx hb dX6_first_86 rfl (lv_at hl 0 rfl) ?_
    refine RM_g_queue X hw 0 rfl kf_X6_70 dX6_first_87 ?_
    refine lv_iload_n hx hb dX6_first_90 rfl (lv_at hl 1 rfl) ?_
    obtain ⟨q91, h⟩ := chk h
    refine RM_l_queue X hw 0 rfl q91 dX6_first_91 ?_
    obtain ⟨q92, h⟩ := chk h
    refine RM_l_far X hw 0 rfl q92 dX6_first_92 ?_
    refine lv_iconst (v := 1) hx hb dX6_first_93 (by decide) ?_
    refine lv_iadd hx hb dX6_first_94 ?_
    have h := Option.some.inj h
    subst h
    exact hret () dX6_first_95 rfl hw
  have L38 : ∀ (n : Nat) (z38 : RM × Int32), lp (M_X6_first_l38 N p1 p2) n z38 = some out → ∀ (H : Heap) (locs : List Loc) (ls : Array Slot), gW g A s.heap [wRM g ad eK eT z38.1] H locs → lv_has ls 4 [(0, .ref (ad 0)), (1, .int p1), (2, .int p2), (3, .int z38.2)] → W p l e R_X6_first s m args below meth c H locs 0 0 Q (F0 m 38 ls []) := by
    refine lp_ind ?_
    intro rec38 ih38
    have J96 : ∀ (z96 : RM × Int32), M_X6_first_j96 N p1 p2 rec38 z96 = some out → ∀ (H : Heap) (locs : List Loc) (ls : Array Slot), gW g A s.heap [wRM g ad eK eT z96.1] H locs → lv_has ls 4 [(0, .ref (ad 0)), (1, .int p1), (2, .int p2), (3, .int z96.2)] → W p l e R_X6_first s m args below meth c H locs 0 0 Q (F0 m 96 ls []) := by
      intro z96 h H locs ls hw hl
      unfold M_X6_first_j96 at h
      refine lv_iinc (v := (z96.2 + 1)) (lv' := [(3, .int (z96.2 + 1)), (0, .ref (ad 0)), (1, .int p1), (2, .int p2)]) hx hb dX6_first_96 hl (k := 3) rfl rfl (by decide) rfl (fun ls hl => ?_)
      refine lv_goto (tgt := 38) hx hb dX6_first_99 (by decide) ?_
      exact ih38 _ h _ _ _ hw (lv_sub hl [1, 2, 3, 0] rfl)
    intro z38 h H locs ls hw hl
    unfold M_X6_first_l38 at h
    refine lv_iload_n hx hb dX6_first_38 rfl (lv_at hl 3 rfl) ?_
    refine lv_aload_n hx hb dX6_first_39 rfl (lv_at hl 0 rfl) ?_
    refine RM_g_queued X hw 0 rfl kf_X6_266 dX6_first_40 ?_
    refine lv_icmp_ge (tgt := 102) hx hb dX6_first_43 (by decide) (fun k43 => ?_) (fun k43 => ?_)
    · have h := itt k43 h
      refine lv_iconst (v := -1) hx hb dX6_first_102 (by decide) ?_
      have h := Option.some.inj h
      subst h
      exact hret () dX6_first_103 rfl hw
    · have h := itf k43 h
      refine lv_aload_n hx hb dX6_first_46 rfl (lv_at hl 0 rfl) ?_
      refine lv_iload_n hx hb dX6_first_47 rfl (lv_at hl 1 rfl) ?_
      refine lv_aload_n hx hb dX6_first_48 rfl (lv_at hl 0 rfl) ?_
      refine RM_g_queue X hw 0 rfl kf_X6_70 dX6_first_49 ?_
      refine lv_iload_n hx hb dX6_first_52 rfl (lv_at hl 3 rfl) ?_
      obtain ⟨q53, h⟩ := chk h
      refine RM_l_queue X hw 0 rfl q53 dX6_first_53 ?_
      refine lv_iload_n hx hb dX6_first_54 rfl (lv_at hl 2 rfl) ?_
      obtain ⟨r55, h55, h⟩ := bnd h
      refine g_calli0 (isC := [0]) (gn := fun _ => [wRM g ad eK eT z38.1]) (g_runV (isC := [0]) (rest := []) (As := [.int p1, .int (RM_queue z38.1 z38.2.toNatClampNeg), .int p2]) X hw (c_X6_mayAt l (ad := ad) (eK := eK) (eT := eT) h55) rfl kM_X6_mayAt ki_X6_mayAt ks_X6_mayAt km_X6_131 ⟨(Nat.le_of_ble_eq_true rfl), (Nat.le_of_ble_eq_true rfl)⟩ ⟨(Nat.le_of_ble_eq_true rfl), (Nat.le_of_ble_eq_true rfl)⟩ rfl rfl ⟨_, _, _, _, rfl, rfl, rfl, rfl⟩ rfl hl.1 rfl (Nat.le_of_ble_eq_true rfl) dX6_first_55) hw rfl rfl (fun _ => (Nat.le_of_ble_eq_true rfl)) (fun _ => rfl) rfl rfl (fun _ H locs hw => ?_)
      refine lv_if_ne (tgt := 82) hx hb dX6_first_58 (by decide) (fun k58 => ?_) (fun k58 => ?_)
      · have h := itt k58 h
        exact J82 _ h _ _ _ hw (lv_sub hl [0, 3] rfl)
      · have h := itf (fun z => z k58) h
        refine lv_iload_n hx hb dX6_first_61 rfl (lv_at hl 2 rfl) ?_
        refine lv_iconst (v := 2) hx hb dX6_first_62 (by decide) ?_
        refine lv_icmp_ge (tgt := 96) hx hb dX6_first_63 (by decide) (fun k63 => ?_) (fun k63 => ?_)
        · have h := itt k63 h
          exact J96 _ h _ _ _ hw (lv_sub hl [0, 1, 2, 3] rfl)
        · have h := itf k63 h
          refine lv_aload_n hx hb dX6_first_66 rfl (lv_at hl 0 rfl) ?_
          refine lv_iload_n hx hb dX6_first_67 rfl (lv_at hl 1 rfl) ?_
          refine lv_aload_n hx hb dX6_first_68 rfl (lv_at hl 0 rfl) ?_
          refine RM_g_queue X hw 0 rfl kf_X6_70 dX6_first_69 ?_
          refine lv_iload_n hx hb dX6_first_72 rfl (lv_at hl 3 rfl) ?_
          obtain ⟨q73, h⟩ := chk h
          refine RM_l_queue X hw 0 rfl q73 dX6_first_73 ?_
          refine lv_bipush (v := 20) hx hb dX6_first_74 (by decide) ?_
          obtain ⟨r76, h76, h⟩ := bnd h
          refine g_calli0 (isC := [0]) (gn := fun _ => [wRM g ad eK eT z38.1]) (g_runV (isC := [0]) (rest := []) (As := [.int p1, .int (RM_queue z38.1 z38.2.toNatClampNeg), .int (20 : Int32)]) X hw (c_X6_mayAt l (ad := ad) (eK := eK) (eT := eT) h76) rfl kM_X6_mayAt ki_X6_mayAt ks_X6_mayAt km_X6_131 ⟨(Nat.le_of_ble_eq_true rfl), (Nat.le_of_ble_eq_true rfl)⟩ ⟨(Nat.le_of_ble_eq_true rfl), (Nat.le_of_ble_eq_true rfl)⟩ rfl rfl ⟨_, _, _, _, rfl, rfl, rfl, rfl⟩ rfl hl.1 rfl (Nat.le_of_ble_eq_true rfl) dX6_first_76) hw rfl rfl (fun _ => (Nat.le_of_ble_eq_true rfl)) (fun _ => rfl) rfl rfl (fun _ H locs hw => ?_)
          refine lv_if_eq (tgt := 96) hx hb dX6_first_79 (by decide) (fun k79 => ?_) (fun k79 => ?_)
          · have h := itt k79 h
            exact J96 _ h _ _ _ hw (lv_sub hl [0, 1, 2, 3] rfl)
          · have h := itf k79 h
            exact J82 _ h _ _ _ hw (lv_sub hl [0, 3] rfl)
  have J17 : ∀ (z17 : RM), M_X6_first_j17 N p1 p2 z17 = some out → ∀ (H : Heap) (locs : List Loc) (ls : Array Slot), gW g A s.heap [wRM g ad eK eT z17] H locs → lv_has ls 4 [(0, .ref (ad 0))] → W p l e R_X6_first s m args below meth c H locs 0 0 Q (F0 m 17 ls []) := by
    intro z17 h H locs ls hw hl
    unfold M_X6_first_j17 at h
    refine lv_aload_n hx hb dX6_first_17 rfl (lv_at hl 0 rfl) ?_
    refine lv_bipush (v := -2) hx hb dX6_first_18 (by decide) ?_
    obtain ⟨r20, h20, h⟩ := bnd h
    refine g_calli0 (isC := [0]) (gn := fun _ => [wRM g ad eK eT r20.2]) (g_runV (isC := [0]) (rest := []) (As := [.int (-2 : Int32)]) X hw (c_X6_refuse l (ad := ad) (eK := eK) (eT := eT) h20) rfl kM_X6_refuse ki_X6_refuse ks_X6_refuse km_X6_96 ⟨(Nat.le_of_ble_eq_true rfl), (Nat.le_of_ble_eq_true rfl)⟩ ⟨(Nat.le_of_ble_eq_true rfl), (Nat.le_of_ble_eq_true rfl)⟩ rfl rfl ⟨_, _, _, _, rfl, rfl, rfl, rfl⟩ rfl hl.1 rfl (Nat.le_of_ble_eq_true rfl) dX6_first_20) hw rfl rfl (fun _ => (Nat.le_of_ble_eq_true rfl)) (fun _ => rfl) rfl rfl (fun _ H locs hw => ?_)
    have h := Option.some.inj h
    subst h
    exact hret () dX6_first_23 rfl hw
  unfold M_X6_first at h
  refine lv_aload_n hx hb dX6_first_0 rfl (lv_at hl 0 rfl) ?_
  refine lv_iload_n hx hb dX6_first_1 rfl (lv_at hl 1 rfl) ?_
  obtain ⟨r2, h2, h⟩ := bnd h
  refine g_calli0 (isC := [0]) (gn := fun _ => [wRM g ad eK eT rm]) (g_runV (isC := [0]) (rest := []) (As := [.int p1]) X hw (c_X6_isBar l (ad := ad) (eK := eK) (eT := eT) h2) rfl kM_X6_isBar ki_X6_isBar ks_X6_isBar km_X6_106 ⟨(Nat.le_of_ble_eq_true rfl), (Nat.le_of_ble_eq_true rfl)⟩ ⟨(Nat.le_of_ble_eq_true rfl), (Nat.le_of_ble_eq_true rfl)⟩ rfl rfl ⟨_, _, _, _, rfl, rfl, rfl, rfl⟩ rfl hl.1 rfl (Nat.le_of_ble_eq_true rfl) dX6_first_2) hw rfl rfl (fun _ => (Nat.le_of_ble_eq_true rfl)) (fun _ => rfl) rfl rfl (fun _ H locs hw => ?_)
  refine lv_if_eq (tgt := 17) hx hb dX6_first_5 (by decide) (fun k5 => ?_) (fun k5 => ?_)
  · have h := itt k5 h
    exact J17 _ h _ _ _ hw (lv_sub hl [0] rfl)
  · have h := itf k5 h
    refine lv_aload_n hx hb dX6_first_8 rfl (lv_at hl 0 rfl) ?_
    refine lv_iload_n hx hb dX6_first_9 rfl (lv_at hl 1 rfl) ?_
    refine lv_iload_n hx hb dX6_first_10 rfl (lv_at hl 2 rfl) ?_
    obtain ⟨r11, h11, h⟩ := bnd h
    refine g_calli0 (isC := [0]) (gn := fun _ => [wRM g ad eK eT rm]) (g_runV (isC := [0]) (rest := []) (As := [.int p1, .int p2]) X hw (c_X6_isRing l (ad := ad) (eK := eK) (eT := eT) h11) rfl kM_X6_isRing ki_X6_isRing ks_X6_isRing km_X6_148 ⟨(Nat.le_of_ble_eq_true rfl), (Nat.le_of_ble_eq_true rfl)⟩ ⟨(Nat.le_of_ble_eq_true rfl), (Nat.le_of_ble_eq_true rfl)⟩ rfl rfl ⟨_, _, _, _, rfl, rfl, rfl, rfl⟩ rfl hl.1 rfl (Nat.le_of_ble_eq_true rfl) dX6_first_11) hw rfl rfl (fun _ => (Nat.le_of_ble_eq_true rfl)) (fun _ => rfl) rfl rfl (fun _ H locs hw => ?_)
    refine lv_if_ne (tgt := 24) hx hb dX6_first_14 (by decide) (fun k14 => ?_) (fun k14 => ?_)
    · have h := itt k14 h
      refine lv_aload_n hx hb dX6_first_24 rfl (lv_at hl 0 rfl) ?_
      refine lv_iload_n hx hb dX6_first_25 rfl (lv_at hl 1 rfl) ?_
      refine lv_aload_n hx hb dX6_first_26 rfl (lv_at hl 0 rfl) ?_
      refine RM_g_on X hw 0 rfl kf_X6_43 dX6_first_27 ?_
      refine lv_iload_n hx hb dX6_first_30 rfl (lv_at hl 1 rfl) ?_
      obtain ⟨q31, h⟩ := chk h
      refine RM_l_on X hw 0 rfl q31 dX6_first_31 ?_
      refine lv_iconst (v := 1) hx hb dX6_first_32 (by decide) ?_
      obtain ⟨r33, h33, h⟩ := bnd h
      refine g_callv0 (isC := [0]) (gn := fun _ => [wRM g ad eK eT r33]) (g_runV (isC := [0]) (rest := []) (As := [.int p1, .int (RM_on rm p1.toNatClampNeg), .int (1 : Int32)]) X hw (c_X6_findFar l (ad := ad) (eK := eK) (eT := eT) h33) rfl kM_X6_findFar ki_X6_findFar ks_X6_findFar km_X6_269 ⟨(Nat.le_of_ble_eq_true rfl), (Nat.le_of_ble_eq_true rfl)⟩ ⟨(Nat.le_of_ble_eq_true rfl), (Nat.le_of_ble_eq_true rfl)⟩ rfl rfl ⟨_, _, _, _, rfl, rfl, rfl, rfl⟩ rfl hl.1 rfl (Nat.le_of_ble_eq_true rfl) dX6_first_33) hw rfl rfl (fun _ => (Nat.le_of_ble_eq_true rfl)) (fun _ => rfl) rfl rfl (fun _ H locs hw => ?_)
      refine lv_iconst (v := 0) hx hb dX6_first_36 (by decide) ?_
      refine lv_istore_n (lv' := [(3, .int (0 : Int32)), (0, .ref (ad 0)), (1, .int p1), (2, .int p2)]) hx hb dX6_first_37 rfl hl (by decide) rfl (fun ls hl => ?_)
      exact L38 N _ h _ _ _ hw (lv_sub hl [1, 2, 3, 0] rfl)
    · have h := itf (fun z => z k14) h
      exact J17 _ h _ _ _ hw (lv_sub hl [0] rfl)
theorem kM_X6_goesOn : kM yX6_goesOn cX6_goesOn 5 (none : Option Jvm.ClassFile.FieldType) 2 := ⟨kc_X6_goesOn, kn_RingsOffModel, by decide +kernel⟩
abbrev R_X6_goesOn : Room := { frames := 4, cells := 0, slots := 0, locals := 92 }
set_option maxHeartbeats 4000000 in
set_option maxRecDepth 100000 in
theorem c_X6_goesOn (l : Launch) {ad : Nat → Nat} {eK : Option Nat} {eT : Option Nat} {N : Nat} {rm : RM} {p1 : Int32} {p2 : Int32} {out : RM} (h : M_X6_goesOn N rm p1 p2 = some out) : gM l yX6_goesOn cX6_goesOn 5 (none : Option Jvm.ClassFile.FieldType) R_X6_goesOn (fun _ => [.ref (ad 0), .int p1, .int p2]) (fun g => [wRM g ad eK eT rm]) (gQv (fun g (_ : Unit) => [wRM g ad eK eT out])) := by
  refine gM.ofv (by decide +kernel) (fun _ => Nat.le_of_ble_eq_true rfl) (fun g p e s m args below meth c A ls Q X hret hw hl => ?_)
  have hx := X.1.1
  have hb := X.1.2.1
  have hl : lv_has ls 5 [(0, .ref (ad 0)), (1, .int p1), (2, .int p2)] := hl
  have L69 : ∀ (n : Nat) (z69 : RM × Int32 × Int32), lp (M_X6_goesOn_l69 N p1 p2) n z69 = some out → ∀ (H : Heap) (locs : List Loc) (ls : Array Slot), gW g A s.heap [wRM g ad eK eT z69.1] H locs → lv_has ls 5 [(0, .ref (ad 0)), (1, .int p1), (2, .int p2), (3, .int z69.2.1), (4, .int z69.2.2)] → W p l e R_X6_goesOn s m args below meth c H locs 0 0 Q (F0 m 69 ls []) := by
    refine lp_ind ?_
    intro rec69 ih69
    have J110 : ∀ (z110 : RM × Int32 × Int32), M_X6_goesOn_j110 N p1 p2 rec69 z110 = some out → ∀ (H : Heap) (locs : List Loc) (ls : Array Slot), gW g A s.heap [wRM g ad eK eT z110.1] H locs → lv_has ls 5 [(0, .ref (ad 0)), (1, .int p1), (2, .int p2), (3, .int z110.2.1), (4, .int z110.2.2)] → W p l e R_X6_goesOn s m args below meth c H locs 0 0 Q (F0 m 110 ls []) := by
      intro z110 h H locs ls hw hl
      unfold M_X6_goesOn_j110 at h
      refine lv_iinc (v := (z110.2.2 + 1)) (lv' := [(4, .int (z110.2.2 + 1)), (0, .ref (ad 0)), (1, .int p1), (2, .int p2), (3, .int z110.2.1)]) hx hb dX6_goesOn_110 hl (k := 4) rfl rfl (by decide) rfl (fun ls hl => ?_)
      refine lv_goto (tgt := 69) hx hb dX6_goesOn_113 (by decide) ?_
      exact ih69 _ h _ _ _ hw (lv_sub hl [1, 2, 3, 4, 0] rfl)
    intro z69 h H locs ls hw hl
    unfold M_X6_goesOn_l69 at h
    refine lv_iload hx hb dX6_goesOn_69 (lv_at hl 4 rfl) ?_
    refine lv_bipush (v := 20) hx hb dX6_goesOn_71 (by decide) ?_
    refine lv_icmp_gt (tgt := 116) hx hb dX6_goesOn_73 (by decide) (fun k73 => ?_) (fun k73 => ?_)
    · have h := itt k73 h
      have h := Option.some.inj h
      subst h
      exact hret () dX6_goesOn_116 hw
    · have h := itf k73 h
      refine lv_aload_n hx hb dX6_goesOn_76 rfl (lv_at hl 0 rfl) ?_
      refine lv_iload_n hx hb dX6_goesOn_77 rfl (lv_at hl 1 rfl) ?_
      refine lv_iload_n hx hb dX6_goesOn_78 rfl (lv_at hl 2 rfl) ?_
      refine lv_iload hx hb dX6_goesOn_79 (lv_at hl 4 rfl) ?_
      obtain ⟨r81, h81, h⟩ := bnd h
      refine g_calli0 (isC := [0]) (gn := fun _ => [wRM g ad eK eT z69.1]) (g_runV (isC := [0]) (rest := []) (As := [.int p1, .int p2, .int z69.2.2]) X hw (c_X6_mayAt l (ad := ad) (eK := eK) (eT := eT) h81) rfl kM_X6_mayAt ki_X6_mayAt ks_X6_mayAt km_X6_131 ⟨(Nat.le_of_ble_eq_true rfl), (Nat.le_of_ble_eq_true rfl)⟩ ⟨(Nat.le_of_ble_eq_true rfl), (Nat.le_of_ble_eq_true rfl)⟩ rfl rfl ⟨_, _, _, _, rfl, rfl, rfl, rfl⟩ rfl hl.1 rfl (Nat.le_of_ble_eq_true rfl) dX6_goesOn_81) hw rfl rfl (fun _ => (Nat.le_of_ble_eq_true rfl)) (fun _ => rfl) rfl rfl (fun _ H locs hw => ?_)
      refine lv_if_eq (tgt := 110) hx hb dX6_goesOn_84 (by decide) (fun k84 => ?_) (fun k84 => ?_)
      · have h := itt k84 h
        exact J110 _ h _ _ _ hw (lv_sub hl [0, 1, 2, 3, 4] rfl)
      · have h := itf k84 h
        refine lv_aload_n hx hb dX6_goesOn_87 rfl (lv_at hl 0 rfl) ?_
        refine RM_g_parts2 X hw 0 rfl kf_X6_76 dX6_goesOn_88 ?_
        refine lv_iload_n hx hb dX6_goesOn_91 rfl (lv_at hl 2 rfl) ?_
        refine lv_iload hx hb dX6_goesOn_92 (lv_at hl 4 rfl) ?_
        obtain ⟨r94, h94, h⟩ := bnd h
        refine g_calli0 (isC := []) (gn := fun _ => [wRM g ad eK eT z69.1]) (g_runS (isC := []) (rest := [.int p2, .ref (ad 36)]) (As := [.int z69.2.2]) X hw (c_X6_mask l h94) rfl kM_X6_mask kt_X6_mask km_X6_212 ⟨(Nat.le_of_ble_eq_true rfl), (Nat.le_of_ble_eq_true rfl)⟩ ⟨(Nat.le_of_ble_eq_true rfl), (Nat.le_of_ble_eq_true rfl)⟩ rfl rfl rfl hl.1 rfl (Nat.le_of_ble_eq_true rfl) dX6_goesOn_94) hw rfl rfl (fun _ => (Nat.le_of_ble_eq_true rfl)) (fun _ => rfl) rfl rfl (fun _ H locs hw => ?_)
        refine lv_ixor hx hb dX6_goesOn_97 ?_
        refine lv_dup2_11 hx hb dX6_goesOn_98 rfl rfl ?_
        obtain ⟨q99, h⟩ := chk h
        refine RM_l_parts2 X hw 0 rfl q99 dX6_goesOn_99 ?_
        refine lv_aload_n hx hb dX6_goesOn_100 rfl (lv_at hl 0 rfl) ?_
        refine RM_g_parts1 X hw 0 rfl kf_X6_73 dX6_goesOn_101 ?_
        refine lv_iload_n hx hb dX6_goesOn_104 rfl (lv_at hl 2 rfl) ?_
        obtain ⟨q105, h⟩ := chk h
        refine RM_l_parts1 X hw 0 rfl q105 dX6_goesOn_105 ?_
        refine lv_iload_n hx hb dX6_goesOn_106 rfl (lv_at hl 3 rfl) ?_
        obtain ⟨q107, h⟩ := chk h
        refine lv_idiv hx hb dX6_goesOn_107 q107 ?_
        refine lv_iadd hx hb dX6_goesOn_108 ?_
        obtain ⟨q109, h⟩ := chk h
        refine RM_a_parts2 (gs' := [wRM g ad eK eT (RM_s_parts2 z69.1 (upd (RM_parts2 z69.1) (p2 ^^^ r94).toNatClampNeg ((RM_parts2 z69.1 (p2 ^^^ r94).toNatClampNeg) + ((RM_parts1 z69.1 p2.toNatClampNeg) / z69.2.1))))]) X hw 0 rfl q109 dX6_goesOn_109 rfl (fun H locs hw => ?_)
        exact J110 _ h _ _ _ hw (lv_sub hl [0, 1, 2, 3, 4] rfl)
  have J46 : ∀ (z46 : RM × Int32), M_X6_goesOn_j46 N p1 p2 z46 = some out → ∀ (H : Heap) (locs : List Loc) (ls : Array Slot), gW g A s.heap [wRM g ad eK eT z46.1] H locs → lv_has ls 5 [(0, .ref (ad 0)), (1, .int p1), (2, .int p2), (3, .int z46.2)] → W p l e R_X6_goesOn s m args below meth c H locs 0 0 Q (F0 m 46 ls []) := by
    intro z46 h H locs ls hw hl
    unfold M_X6_goesOn_j46 at h
    refine lv_iload_n hx hb dX6_goesOn_46 rfl (lv_at hl 3 rfl) ?_
    refine lv_if_ne (tgt := 66) hx hb dX6_goesOn_47 (by decide) (fun k47 => ?_) (fun k47 => ?_)
    · have h := itt k47 h
      refine lv_iconst (v := 0) hx hb dX6_goesOn_66 (by decide) ?_
      refine lv_istore (lv' := [(4, .int (0 : Int32)), (0, .ref (ad 0)), (1, .int p1), (2, .int p2), (3, .int z46.2)]) hx hb dX6_goesOn_67 hl (by decide) rfl (fun ls hl => ?_)
      exact L69 N _ h _ _ _ hw (lv_sub hl [1, 2, 3, 4, 0] rfl)
    · have h := itf (fun z => z k47) h
      refine lv_aload_n hx hb dX6_goesOn_50 rfl (lv_at hl 0 rfl) ?_
      refine RM_g_parts2 X hw 0 rfl kf_X6_76 dX6_goesOn_51 ?_
      refine lv_iload_n hx hb dX6_goesOn_54 rfl (lv_at hl 2 rfl) ?_
      refine lv_dup2_11 hx hb dX6_goesOn_55 rfl rfl ?_
      obtain ⟨q56, h⟩ := chk h
      refine RM_l_parts2 X hw 0 rfl q56 dX6_goesOn_56 ?_
      refine lv_aload_n hx hb dX6_goesOn_57 rfl (lv_at hl 0 rfl) ?_
      refine RM_g_parts1 X hw 0 rfl kf_X6_73 dX6_goesOn_58 ?_
      refine lv_iload_n hx hb dX6_goesOn_61 rfl (lv_at hl 2 rfl) ?_
      obtain ⟨q62, h⟩ := chk h
      refine RM_l_parts1 X hw 0 rfl q62 dX6_goesOn_62 ?_
      refine lv_iadd hx hb dX6_goesOn_63 ?_
      obtain ⟨q64, h⟩ := chk h
      refine RM_a_parts2 (gs' := [wRM g ad eK eT (RM_s_parts2 z46.1 (upd (RM_parts2 z46.1) p2.toNatClampNeg ((RM_parts2 z46.1 p2.toNatClampNeg) + (RM_parts1 z46.1 p2.toNatClampNeg))))]) X hw 0 rfl q64 dX6_goesOn_64 rfl (fun H locs hw => ?_)
      have h := Option.some.inj h
      subst h
      exact hret () dX6_goesOn_65 hw
  have L5 : ∀ (n : Nat) (z5 : RM × Int32 × Int32), lp (M_X6_goesOn_l5 N p1 p2) n z5 = some out → ∀ (H : Heap) (locs : List Loc) (ls : Array Slot), gW g A s.heap [wRM g ad eK eT z5.1] H locs → lv_has ls 5 [(0, .ref (ad 0)), (1, .int p1), (2, .int p2), (3, .int z5.2.1), (4, .int z5.2.2)] → W p l e R_X6_goesOn s m args below meth c H locs 0 0 Q (F0 m 5 ls []) := by
    refine lp_ind ?_
    intro rec5 ih5
    have J38 : ∀ (z38 : RM × Int32 × Int32 × Int32), M_X6_goesOn_j38 N p1 p2 rec5 z38 = some out → ∀ (H : Heap) (locs : List Loc) (ls : Array Slot), gW g A s.heap [wRM g ad eK eT z38.1] H locs → lv_has ls 5 [(0, .ref (ad 0)), (1, .int p1), (2, .int p2), (4, .int z38.2.1)] → W p l e R_X6_goesOn s m args below meth c H locs 0 0 Q (F0 m 38 ls [.int z38.2.2.2, .int z38.2.2.1]) := by
      intro z38 h H locs ls hw hl
      unfold M_X6_goesOn_j38 at h
      refine lv_iadd hx hb dX6_goesOn_38 ?_
      refine lv_istore_n (lv' := [(3, .int (z38.2.2.1 + z38.2.2.2)), (0, .ref (ad 0)), (1, .int p1), (2, .int p2), (4, .int z38.2.1)]) hx hb dX6_goesOn_39 rfl hl (by decide) rfl (fun ls hl => ?_)
      refine lv_iinc (v := (z38.2.1 + 1)) (lv' := [(4, .int (z38.2.1 + 1)), (3, .int (z38.2.2.1 + z38.2.2.2)), (0, .ref (ad 0)), (1, .int p1), (2, .int p2)]) hx hb dX6_goesOn_40 hl (k := 4) rfl rfl (by decide) rfl (fun ls hl => ?_)
      refine lv_goto (tgt := 5) hx hb dX6_goesOn_43 (by decide) ?_
      exact ih5 _ h _ _ _ hw (lv_sub hl [2, 3, 4, 1, 0] rfl)
    intro z5 h H locs ls hw hl
    unfold M_X6_goesOn_l5 at h
    refine lv_iload hx hb dX6_goesOn_5 (lv_at hl 4 rfl) ?_
    refine lv_bipush (v := 20) hx hb dX6_goesOn_7 (by decide) ?_
    refine lv_icmp_gt (tgt := 46) hx hb dX6_goesOn_9 (by decide) (fun k9 => ?_) (fun k9 => ?_)
    · have h := itt k9 h
      exact J46 _ h _ _ _ hw (lv_sub hl [0, 1, 2, 3] rfl)
    · have h := itf k9 h
      refine lv_aload_n hx hb dX6_goesOn_12 rfl (lv_at hl 0 rfl) ?_
      refine RM_g_parts1 X hw 0 rfl kf_X6_73 dX6_goesOn_13 ?_
      refine lv_iload_n hx hb dX6_goesOn_16 rfl (lv_at hl 2 rfl) ?_
      obtain ⟨q17, h⟩ := chk h
      refine RM_l_parts1 X hw 0 rfl q17 dX6_goesOn_17 ?_
      refine lv_if_le (tgt := 46) hx hb dX6_goesOn_18 (by decide) (fun k18 => ?_) (fun k18 => ?_)
      · have h := itt k18 h
        exact J46 _ h _ _ _ hw (lv_sub hl [0, 1, 2, 3] rfl)
      · have h := itf k18 h
        refine lv_iload_n hx hb dX6_goesOn_21 rfl (lv_at hl 3 rfl) ?_
        refine lv_aload_n hx hb dX6_goesOn_22 rfl (lv_at hl 0 rfl) ?_
        refine lv_iload_n hx hb dX6_goesOn_23 rfl (lv_at hl 1 rfl) ?_
        refine lv_iload_n hx hb dX6_goesOn_24 rfl (lv_at hl 2 rfl) ?_
        refine lv_iload hx hb dX6_goesOn_25 (lv_at hl 4 rfl) ?_
        obtain ⟨r27, h27, h⟩ := bnd h
        refine g_calli0 (isC := [0]) (gn := fun _ => [wRM g ad eK eT z5.1]) (g_runV (isC := [0]) (rest := [.int z5.2.1]) (As := [.int p1, .int p2, .int z5.2.2]) X hw (c_X6_mayAt l (ad := ad) (eK := eK) (eT := eT) h27) rfl kM_X6_mayAt ki_X6_mayAt ks_X6_mayAt km_X6_131 ⟨(Nat.le_of_ble_eq_true rfl), (Nat.le_of_ble_eq_true rfl)⟩ ⟨(Nat.le_of_ble_eq_true rfl), (Nat.le_of_ble_eq_true rfl)⟩ rfl rfl ⟨_, _, _, _, rfl, rfl, rfl, rfl⟩ rfl hl.1 rfl (Nat.le_of_ble_eq_true rfl) dX6_goesOn_27) hw rfl rfl (fun _ => (Nat.le_of_ble_eq_true rfl)) (fun _ => rfl) rfl rfl (fun _ H locs hw => ?_)
        refine lv_if_eq (tgt := 37) hx hb dX6_goesOn_30 (by decide) (fun k30 => ?_) (fun k30 => ?_)
        · have h := itt k30 h
          refine lv_iconst (v := 0) hx hb dX6_goesOn_37 (by decide) ?_
          exact J38 _ h _ _ _ hw (lv_sub hl [0, 1, 2, 4] rfl)
        · have h := itf k30 h
          refine lv_iconst (v := 1) hx hb dX6_goesOn_33 (by decide) ?_
          refine lv_goto (tgt := 38) hx hb dX6_goesOn_34 (by decide) ?_
          exact J38 _ h _ _ _ hw (lv_sub hl [0, 1, 2, 4] rfl)
  unfold M_X6_goesOn at h
  refine lv_iconst (v := 0) hx hb dX6_goesOn_0 (by decide) ?_
  refine lv_istore_n (lv' := [(3, .int (0 : Int32)), (0, .ref (ad 0)), (1, .int p1), (2, .int p2)]) hx hb dX6_goesOn_1 rfl hl (by decide) rfl (fun ls hl => ?_)
  refine lv_iconst (v := 0) hx hb dX6_goesOn_2 (by decide) ?_
  refine lv_istore (lv' := [(4, .int (0 : Int32)), (3, .int (0 : Int32)), (0, .ref (ad 0)), (1, .int p1), (2, .int p2)]) hx hb dX6_goesOn_3 hl (by decide) rfl (fun ls hl => ?_)
  exact L5 N _ h _ _ _ hw (lv_sub hl [2, 3, 4, 1, 0] rfl)
theorem kM_X6_noPictures : kM yX6_noPictures cX6_noPictures 6 (some FieldType.int) 3 := ⟨kc_X6_noPictures, kn_RingsOffModel, by decide +kernel⟩
abbrev R_X6_noPictures : Room := { frames := 2, cells := 0, slots := 0, locals := 48 }
set_option maxHeartbeats 4000000 in
set_option maxRecDepth 100000 in
theorem c_X6_noPictures (l : Launch) {ad : Nat → Nat} {eK : Option Nat} {eT : Option Nat} {N : Nat} {rm : RM} {p1 : Int32} {p2 : Int32} {p3 : Int32} {out : Int32 × RM} (h : M_X6_noPictures N rm p1 p2 p3 = some out) : gM l yX6_noPictures cX6_noPictures 6 (some FieldType.int) R_X6_noPictures (fun _ => [.ref (ad 0), .int p1, .int p2, .int p3]) (fun g => [wRM g ad eK eT rm]) (gQi (fun (_ : Unit) => out.1) (fun g (_ : Unit) => [wRM g ad eK eT out.2])) := by
  refine gM.ofi (by decide +kernel) (fun _ => Nat.le_of_ble_eq_true rfl) (fun g p e s m args below meth c A ls Q X hret hw hl => ?_)
  have hx := X.1.1
  have hb := X.1.2.1
  have hl : lv_has ls 6 [(0, .ref (ad 0)), (1, .int p1), (2, .int p2), (3, .int p3)] := hl
  have L74 : ∀ (n : Nat) (z74 : RM × Int32), lp (M_X6_noPictures_l74 N p1 p2 p3) n z74 = some out → ∀ (H : Heap) (locs : List Loc) (ls : Array Slot), gW g A s.heap [wRM g ad eK eT z74.1] H locs → lv_has ls 6 [(0, .ref (ad 0)), (1, .int p1), (2, .int p2), (3, .int p3), (5, .int z74.2)] → W p l e R_X6_noPictures s m args below meth c H locs 0 0 Q (F0 m 74 ls []) := by
    refine lp_ind ?_
    intro rec74 ih74
    intro z74 h H locs ls hw hl
    unfold M_X6_noPictures_l74 at h
    refine lv_iload hx hb dX6_noPictures_74 (lv_at hl 4 rfl) ?_
    refine lv_iload_n hx hb dX6_noPictures_76 rfl (lv_at hl 2 rfl) ?_
    refine lv_icmp_ge (tgt := 110) hx hb dX6_noPictures_77 (by decide) (fun k77 => ?_) (fun k77 => ?_)
    · have h := itt k77 h
      refine lv_iconst (v := 0) hx hb dX6_noPictures_110 (by decide) ?_
      have h := Option.some.inj h
      subst h
      exact hret () dX6_noPictures_111 rfl hw
    · have h := itf k77 h
      refine lv_aload_n hx hb dX6_noPictures_80 rfl (lv_at hl 0 rfl) ?_
      refine lv_iload_n hx hb dX6_noPictures_81 rfl (lv_at hl 3 rfl) ?_
      refine lv_aload_n hx hb dX6_noPictures_82 rfl (lv_at hl 0 rfl) ?_
      refine RM_g_rows X hw 0 rfl kf_X6_21 dX6_noPictures_83 ?_
      refine lv_iload_n hx hb dX6_noPictures_86 rfl (lv_at hl 1 rfl) ?_
      obtain ⟨q87, h⟩ := chk h
      have o87 := Nat.not_le.mp (fun z => q87 (Or.inr z))
      refine RM_q_rows X hw 0 rfl q87 dX6_noPictures_87 ?_
      refine lv_iload hx hb dX6_noPictures_88 (lv_at hl 4 rfl) ?_
      obtain ⟨q90, h⟩ := chk h
      refine RM_l_rows X hw 0 rfl o87 q90 dX6_noPictures_90 ?_
      obtain ⟨r91, h91, h⟩ := bnd h
      refine g_calli0 (isC := [0]) (gn := fun _ => [wRM g ad eK eT z74.1]) (g_runV (isC := [0]) (rest := []) (As := [.int p3, .long (RM_rows z74.1 p1.toNatClampNeg z74.2.toNatClampNeg)]) X hw (c_X6_isSet l (ad := ad) (eK := eK) (eT := eT) h91) rfl kM_X6_isSet ki_X6_isSet ks_X6_isSet km_X6_144 ⟨(Nat.le_of_ble_eq_true rfl), (Nat.le_of_ble_eq_true rfl)⟩ ⟨(Nat.le_of_ble_eq_true rfl), (Nat.le_of_ble_eq_true rfl)⟩ rfl rfl ⟨_, _, _, _, rfl, rfl, rfl, rfl⟩ rfl hl.1 rfl (Nat.le_of_ble_eq_true rfl) dX6_noPictures_91) hw rfl rfl (fun _ => (Nat.le_of_ble_eq_true rfl)) (fun _ => rfl) rfl rfl (fun _ H locs hw => ?_)
      refine lv_if_ne (tgt := 104) hx hb dX6_noPictures_94 (by decide) (fun k94 => ?_) (fun k94 => ?_)
      · have h := itt k94 h
        refine lv_iinc (v := (z74.2 + 1)) (lv' := [(5, .int (z74.2 + 1)), (0, .ref (ad 0)), (1, .int p1), (2, .int p2), (3, .int p3)]) hx hb dX6_noPictures_104 hl (k := 4) rfl rfl (by decide) rfl (fun ls hl => ?_)
        refine lv_goto (tgt := 74) hx hb dX6_noPictures_107 (by decide) ?_
        exact ih74 _ h _ _ _ hw (lv_sub hl [1, 2, 3, 4, 0] rfl)
      · have h := itf (fun z => z k94) h
        refine lv_aload_n hx hb dX6_noPictures_97 rfl (lv_at hl 0 rfl) ?_
        refine lv_bipush (v := -2) hx hb dX6_noPictures_98 (by decide) ?_
        obtain ⟨r100, h100, h⟩ := bnd h
        refine g_calli0 (isC := [0]) (gn := fun _ => [wRM g ad eK eT r100.2]) (g_runV (isC := [0]) (rest := []) (As := [.int (-2 : Int32)]) X hw (c_X6_refuse l (ad := ad) (eK := eK) (eT := eT) h100) rfl kM_X6_refuse ki_X6_refuse ks_X6_refuse km_X6_96 ⟨(Nat.le_of_ble_eq_true rfl), (Nat.le_of_ble_eq_true rfl)⟩ ⟨(Nat.le_of_ble_eq_true rfl), (Nat.le_of_ble_eq_true rfl)⟩ rfl rfl ⟨_, _, _, _, rfl, rfl, rfl, rfl⟩ rfl hl.1 rfl (Nat.le_of_ble_eq_true rfl) dX6_noPictures_100) hw rfl rfl (fun _ => (Nat.le_of_ble_eq_true rfl)) (fun _ => rfl) rfl rfl (fun _ H locs hw => ?_)
        have h := Option.some.inj h
        subst h
        exact hret () dX6_noPictures_103 rfl hw
  have J32 : ∀ (z32 : RM), M_X6_noPictures_j32 N p1 p2 p3 z32 = some out → ∀ (H : Heap) (locs : List Loc) (ls : Array Slot), gW g A s.heap [wRM g ad eK eT z32] H locs → lv_has ls 6 [(0, .ref (ad 0))] → W p l e R_X6_noPictures s m args below meth c H locs 0 0 Q (F0 m 32 ls []) := by
    intro z32 h H locs ls hw hl
    unfold M_X6_noPictures_j32 at h
    refine lv_aload_n hx hb dX6_noPictures_32 rfl (lv_at hl 0 rfl) ?_
    refine lv_bipush (v := -2) hx hb dX6_noPictures_33 (by decide) ?_
    obtain ⟨r35, h35, h⟩ := bnd h
    refine g_calli0 (isC := [0]) (gn := fun _ => [wRM g ad eK eT r35.2]) (g_runV (isC := [0]) (rest := []) (As := [.int (-2 : Int32)]) X hw (c_X6_refuse l (ad := ad) (eK := eK) (eT := eT) h35) rfl kM_X6_refuse ki_X6_refuse ks_X6_refuse km_X6_96 ⟨(Nat.le_of_ble_eq_true rfl), (Nat.le_of_ble_eq_true rfl)⟩ ⟨(Nat.le_of_ble_eq_true rfl), (Nat.le_of_ble_eq_true rfl)⟩ rfl rfl ⟨_, _, _, _, rfl, rfl, rfl, rfl⟩ rfl hl.1 rfl (Nat.le_of_ble_eq_true rfl) dX6_noPictures_35) hw rfl rfl (fun _ => (Nat.le_of_ble_eq_true rfl)) (fun _ => rfl) rfl rfl (fun _ H locs hw => ?_)
    have h := Option.some.inj h
    subst h
    exact hret () dX6_noPictures_38 rfl hw
  unfold M_X6_noPictures at h
  refine lv_iload_n hx hb dX6_noPictures_0 rfl (lv_at hl 1 rfl) ?_
  refine lv_i2l (v := p1.toInt64) hx hb dX6_noPictures_1 rfl ?_
  refine lv_lconst (v := 0) hx hb dX6_noPictures_2 (by decide) ?_
  refine lv_ldc2 hx hb X.1.2.2.2.1 (gK1 X _ kq_X6_90) dX6_noPictures_3 ?_
  obtain ⟨r6, h6, h⟩ := bnd h
  refine g_calli0 (isC := []) (gn := fun _ => [wRM g ad eK eT rm]) (g_runS (isC := []) (rest := []) (As := [.long p1.toInt64, .long (0 : Int64), .long (7 : Int64)]) X hw (c_X6_in l h6) rfl kM_X6_in kt_X6_in km_X6_82 ⟨(Nat.le_of_ble_eq_true rfl), (Nat.le_of_ble_eq_true rfl)⟩ ⟨(Nat.le_of_ble_eq_true rfl), (Nat.le_of_ble_eq_true rfl)⟩ rfl rfl rfl hl.1 rfl (Nat.le_of_ble_eq_true rfl) dX6_noPictures_6) hw rfl rfl (fun _ => (Nat.le_of_ble_eq_true rfl)) (fun _ => rfl) rfl rfl (fun _ H locs hw => ?_)
  refine lv_if_eq (tgt := 32) hx hb dX6_noPictures_9 (by decide) (fun k9 => ?_) (fun k9 => ?_)
  · have h := itt k9 h
    exact J32 _ h _ _ _ hw (lv_sub hl [0] rfl)
  · have h := itf k9 h
    refine lv_iload_n hx hb dX6_noPictures_12 rfl (lv_at hl 2 rfl) ?_
    refine lv_i2l (v := p2.toInt64) hx hb dX6_noPictures_13 rfl ?_
    refine lv_lconst (v := 1) hx hb dX6_noPictures_14 (by decide) ?_
    refine lv_ldc2 hx hb X.1.2.2.2.1 (gK1 X _ kq_X6_138) dX6_noPictures_15 ?_
    obtain ⟨r18, h18, h⟩ := bnd h
    refine g_calli0 (isC := []) (gn := fun _ => [wRM g ad eK eT rm]) (g_runS (isC := []) (rest := []) (As := [.long p2.toInt64, .long (1 : Int64), .long (10 : Int64)]) X hw (c_X6_in l h18) rfl kM_X6_in kt_X6_in km_X6_82 ⟨(Nat.le_of_ble_eq_true rfl), (Nat.le_of_ble_eq_true rfl)⟩ ⟨(Nat.le_of_ble_eq_true rfl), (Nat.le_of_ble_eq_true rfl)⟩ rfl rfl rfl hl.1 rfl (Nat.le_of_ble_eq_true rfl) dX6_noPictures_18) hw rfl rfl (fun _ => (Nat.le_of_ble_eq_true rfl)) (fun _ => rfl) rfl rfl (fun _ H locs hw => ?_)
    refine lv_if_eq (tgt := 32) hx hb dX6_noPictures_21 (by decide) (fun k21 => ?_) (fun k21 => ?_)
    · have h := itt k21 h
      exact J32 _ h _ _ _ hw (lv_sub hl [0] rfl)
    · have h := itf k21 h
      refine lv_aload_n hx hb dX6_noPictures_24 rfl (lv_at hl 0 rfl) ?_
      refine lv_iload_n hx hb dX6_noPictures_25 rfl (lv_at hl 3 rfl) ?_
      obtain ⟨r26, h26, h⟩ := bnd h
      refine g_calli0 (isC := [0]) (gn := fun _ => [wRM g ad eK eT rm]) (g_runV (isC := [0]) (rest := []) (As := [.int p3]) X hw (c_X6_isBar l (ad := ad) (eK := eK) (eT := eT) h26) rfl kM_X6_isBar ki_X6_isBar ks_X6_isBar km_X6_106 ⟨(Nat.le_of_ble_eq_true rfl), (Nat.le_of_ble_eq_true rfl)⟩ ⟨(Nat.le_of_ble_eq_true rfl), (Nat.le_of_ble_eq_true rfl)⟩ rfl rfl ⟨_, _, _, _, rfl, rfl, rfl, rfl⟩ rfl hl.1 rfl (Nat.le_of_ble_eq_true rfl) dX6_noPictures_26) hw rfl rfl (fun _ => (Nat.le_of_ble_eq_true rfl)) (fun _ => rfl) rfl rfl (fun _ H locs hw => ?_)
      refine lv_if_ne (tgt := 39) hx hb dX6_noPictures_29 (by decide) (fun k29 => ?_) (fun k29 => ?_)
      · have h := itt k29 h
        refine lv_aload_n hx hb dX6_noPictures_39 rfl (lv_at hl 0 rfl) ?_
        refine lv_iload_n hx hb dX6_noPictures_40 rfl (lv_at hl 1 rfl) ?_
        obtain ⟨r41, h41, h⟩ := bnd h
        refine g_calli0 (isC := [0]) (gn := fun _ => [wRM g ad eK eT r41.2]) (g_runV (isC := [0]) (rest := []) (As := [.int p1]) X hw (c_X6_noRow l (ad := ad) (eK := eK) (eT := eT) h41) rfl kM_X6_noRow ki_X6_noRow ks_X6_noRow km_X6_99 ⟨(Nat.le_of_ble_eq_true rfl), (Nat.le_of_ble_eq_true rfl)⟩ ⟨(Nat.le_of_ble_eq_true rfl), (Nat.le_of_ble_eq_true rfl)⟩ rfl rfl ⟨_, _, _, _, rfl, rfl, rfl, rfl⟩ rfl hl.1 rfl (Nat.le_of_ble_eq_true rfl) dX6_noPictures_41) hw rfl rfl (fun _ => (Nat.le_of_ble_eq_true rfl)) (fun _ => rfl) rfl rfl (fun _ H locs hw => ?_)
        refine lv_istore (lv' := [(4, .int r41.1), (0, .ref (ad 0)), (1, .int p1), (2, .int p2), (3, .int p3)]) hx hb dX6_noPictures_44 hl (by decide) rfl (fun ls hl => ?_)
        refine lv_iload hx hb dX6_noPictures_46 (lv_at hl 0 rfl) ?_
        refine lv_if_eq (tgt := 54) hx hb dX6_noPictures_48 (by decide) (fun k48 => ?_) (fun k48 => ?_)
        · have h := itt k48 h
          refine lv_aload_n hx hb dX6_noPictures_54 rfl (lv_at hl 1 rfl) ?_
          refine RM_g_rowSize X hw 0 rfl kf_X6_16 dX6_noPictures_55 ?_
          refine lv_iload_n hx hb dX6_noPictures_58 rfl (lv_at hl 2 rfl) ?_
          obtain ⟨q59, h⟩ := chk h
          refine RM_l_rowSize X hw 0 rfl q59 dX6_noPictures_59 ?_
          refine lv_iload_n hx hb dX6_noPictures_60 rfl (lv_at hl 3 rfl) ?_
          refine lv_icmp_ge (tgt := 71) hx hb dX6_noPictures_61 (by decide) (fun k61 => ?_) (fun k61 => ?_)
          · have h := itt k61 h
            refine lv_iconst (v := 0) hx hb dX6_noPictures_71 (by decide) ?_
            refine lv_istore (lv' := [(5, .int (0 : Int32)), (4, .int r41.1), (0, .ref (ad 0)), (1, .int p1), (2, .int p2), (3, .int p3)]) hx hb dX6_noPictures_72 hl (by decide) rfl (fun ls hl => ?_)
            exact L74 N _ h _ _ _ hw (lv_sub hl [2, 3, 4, 5, 0] rfl)
          · have h := itf k61 h
            refine lv_aload_n hx hb dX6_noPictures_64 rfl (lv_at hl 1 rfl) ?_
            refine lv_bipush (v := -2) hx hb dX6_noPictures_65 (by decide) ?_
            obtain ⟨r67, h67, h⟩ := bnd h
            refine g_calli0 (isC := [0]) (gn := fun _ => [wRM g ad eK eT r67.2]) (g_runV (isC := [0]) (rest := []) (As := [.int (-2 : Int32)]) X hw (c_X6_refuse l (ad := ad) (eK := eK) (eT := eT) h67) rfl kM_X6_refuse ki_X6_refuse ks_X6_refuse km_X6_96 ⟨(Nat.le_of_ble_eq_true rfl), (Nat.le_of_ble_eq_true rfl)⟩ ⟨(Nat.le_of_ble_eq_true rfl), (Nat.le_of_ble_eq_true rfl)⟩ rfl rfl ⟨_, _, _, _, rfl, rfl, rfl, rfl⟩ rfl hl.1 rfl (Nat.le_of_ble_eq_true rfl) dX6_noPictures_67) hw rfl rfl (fun _ => (Nat.le_of_ble_eq_true rfl)) (fun _ => rfl) rfl rfl (fun _ H locs hw => ?_)
            have h := Option.some.inj h
            subst h
            exact hret () dX6_noPictures_70 rfl hw
        · have h := itf k48 h
          refine lv_iload hx hb dX6_noPictures_51 (lv_at hl 0 rfl) ?_
          have h := Option.some.inj h
          subst h
          exact hret () dX6_noPictures_53 rfl hw
      · have h := itf (fun z => z k29) h
        exact J32 _ h _ _ _ hw (lv_sub hl [0] rfl)
theorem kM_X6_brokenIn : kM yX6_brokenIn cX6_brokenIn 7 (some FieldType.int) 3 := ⟨kc_X6_brokenIn, kn_RingsOffModel, by decide +kernel⟩
abbrev R_X6_brokenIn : Room := { frames := 6, cells := 0, slots := 0, locals := 141 }
set_option maxHeartbeats 4000000 in
set_option maxRecDepth 100000 in
theorem c_X6_brokenIn (l : Launch) {ad : Nat → Nat} {eK : Option Nat} {eT : Option Nat} {N : Nat} {rm : RM} {p1 : Nat} {p2 : Int32} {p3 : Int32} {out : Int32 × RM} (h : M_X6_brokenIn N rm p1 p2 p3 = some out) (hp1 : p1 < 8) : gM l yX6_brokenIn cX6_brokenIn 7 (some FieldType.int) R_X6_brokenIn (fun _ => [.ref (ad 0), .ref (ad (5 + p1)), .int p2, .int p3]) (fun g => [wRM g ad eK eT rm]) (gQi (fun (_ : Unit) => out.1) (fun g (_ : Unit) => [wRM g ad eK eT out.2])) := by
  refine gM.ofi (by decide +kernel) (fun _ => Nat.le_of_ble_eq_true rfl) (fun g p e s m args below meth c A ls Q X hret hw hl => ?_)
  have hx := X.1.1
  have hb := X.1.2.1
  have hl : lv_has ls 7 [(0, .ref (ad 0)), (1, .ref (ad (5 + p1))), (2, .int p2), (3, .int p3)] := hl
  have L16 : ∀ (n : Nat) (z16 : RM × Int32 × Int32), lp (M_X6_brokenIn_l16 N p1 p2 p3) n z16 = some out → ∀ (H : Heap) (locs : List Loc) (ls : Array Slot), gW g A s.heap [wRM g ad eK eT z16.1] H locs → lv_has ls 7 [(0, .ref (ad 0)), (1, .ref (ad (5 + p1))), (2, .int p2), (3, .int p3), (4, .int z16.2.1), (5, .int z16.2.2)] → W p l e R_X6_brokenIn s m args below meth c H locs 0 0 Q (F0 m 16 ls []) := by
    refine lp_ind ?_
    intro rec16 ih16
    intro z16 h H locs ls hw hl
    unfold M_X6_brokenIn_l16 at h
    refine lv_iload hx hb dX6_brokenIn_16 (lv_at hl 5 rfl) ?_
    refine lv_iload_n hx hb dX6_brokenIn_18 rfl (lv_at hl 2 rfl) ?_
    refine lv_icmp_ge (tgt := 69) hx hb dX6_brokenIn_19 (by decide) (fun k19 => ?_) (fun k19 => ?_)
    · have h := itt k19 h
      refine lv_iconst (v := -1) hx hb dX6_brokenIn_69 (by decide) ?_
      have h := Option.some.inj h
      subst h
      exact hret () dX6_brokenIn_70 rfl hw
    · have h := itf k19 h
      refine lv_aload_n hx hb dX6_brokenIn_22 rfl (lv_at hl 0 rfl) ?_
      refine lv_iload_n hx hb dX6_brokenIn_23 rfl (lv_at hl 3 rfl) ?_
      refine lv_iload hx hb dX6_brokenIn_24 (lv_at hl 4 rfl) ?_
      refine lv_aload_n hx hb dX6_brokenIn_26 rfl (lv_at hl 1 rfl) ?_
      refine lv_iload hx hb dX6_brokenIn_27 (lv_at hl 5 rfl) ?_
      obtain ⟨q29, h⟩ := chk h
      refine RM_l_rows X hw 0 rfl hp1 q29 dX6_brokenIn_29 ?_
      refine lv_l2i (v := (RM_rows z16.1 p1 z16.2.2.toNatClampNeg).toInt32) hx hb dX6_brokenIn_30 rfl ?_
      obtain ⟨r31, h31, h⟩ := bnd h
      refine g_calli0 (isC := [0]) (gn := fun _ => [wRM g ad eK eT r31.2]) (g_runV (isC := [0]) (rest := []) (As := [.int p3, .int z16.2.1, .int (RM_rows z16.1 p1 z16.2.2.toNatClampNeg).toInt32]) X hw (c_X6_fewestTo l (ad := ad) (eK := eK) (eT := eT) h31) rfl kM_X6_fewestTo ki_X6_fewestTo ks_X6_fewestTo km_X6_127 ⟨(Nat.le_of_ble_eq_true rfl), (Nat.le_of_ble_eq_true rfl)⟩ ⟨(Nat.le_of_ble_eq_true rfl), (Nat.le_of_ble_eq_true rfl)⟩ rfl rfl ⟨_, _, _, _, rfl, rfl, rfl, rfl⟩ rfl hl.1 rfl (Nat.le_of_ble_eq_true rfl) dX6_brokenIn_31) hw rfl rfl (fun _ => (Nat.le_of_ble_eq_true rfl)) (fun _ => rfl) rfl rfl (fun _ H locs hw => ?_)
      refine lv_istore (lv' := [(6, .int r31.1), (0, .ref (ad 0)), (1, .ref (ad (5 + p1))), (2, .int p2), (3, .int p3), (4, .int z16.2.1), (5, .int z16.2.2)]) hx hb dX6_brokenIn_34 hl (by decide) rfl (fun ls hl => ?_)
      refine lv_iload hx hb dX6_brokenIn_36 (lv_at hl 0 rfl) ?_
      refine lv_iconst (v := -1) hx hb dX6_brokenIn_38 (by decide) ?_
      refine lv_icmp_ne (tgt := 45) hx hb dX6_brokenIn_39 (by decide) (fun k39 => ?_) (fun k39 => ?_)
      · have h := itt k39 h
        refine lv_aload_n hx hb dX6_brokenIn_45 rfl (lv_at hl 1 rfl) ?_
        refine lv_dup hx hb dX6_brokenIn_46 rfl ?_
        refine RM_g_picturesSum X hw 0 rfl kf_X6_295 dX6_brokenIn_47 ?_
        refine lv_iload hx hb dX6_brokenIn_50 (lv_at hl 0 rfl) ?_
        refine lv_iadd hx hb dX6_brokenIn_52 ?_
        refine RM_p_picturesSum (gs' := [wRM g ad eK eT (RM_s_picturesSum r31.2 ((RM_picturesSum r31.2) + r31.1))]) X hw 0 rfl kf_X6_295 dX6_brokenIn_53 rfl (fun H locs hw => ?_)
        refine lv_aload_n hx hb dX6_brokenIn_56 rfl (lv_at hl 2 rfl) ?_
        refine lv_iload hx hb dX6_brokenIn_57 (lv_at hl 6 rfl) ?_
        obtain ⟨q59, h⟩ := chk h
        refine RM_l_rows X hw 0 rfl hp1 q59 dX6_brokenIn_59 ?_
        refine lv_l2i (v := (RM_rows (RM_s_picturesSum r31.2 ((RM_picturesSum r31.2) + r31.1)) p1 z16.2.2.toNatClampNeg).toInt32) hx hb dX6_brokenIn_60 rfl ?_
        refine lv_istore (lv' := [(4, .int (RM_rows (RM_s_picturesSum r31.2 ((RM_picturesSum r31.2) + r31.1)) p1 z16.2.2.toNatClampNeg).toInt32), (6, .int r31.1), (0, .ref (ad 0)), (1, .ref (ad (5 + p1))), (2, .int p2), (3, .int p3), (5, .int z16.2.2)]) hx hb dX6_brokenIn_61 hl (by decide) rfl (fun ls hl => ?_)
        refine lv_iinc (v := (z16.2.2 + 1)) (lv' := [(5, .int (z16.2.2 + 1)), (4, .int (RM_rows (RM_s_picturesSum r31.2 ((RM_picturesSum r31.2) + r31.1)) p1 z16.2.2.toNatClampNeg).toInt32), (6, .int r31.1), (0, .ref (ad 0)), (1, .ref (ad (5 + p1))), (2, .int p2), (3, .int p3)]) hx hb dX6_brokenIn_63 hl (k := 6) rfl rfl (by decide) rfl (fun ls hl => ?_)
        refine lv_goto (tgt := 16) hx hb dX6_brokenIn_66 (by decide) ?_
        exact ih16 _ h _ _ _ hw (lv_sub hl [3, 4, 5, 6, 1, 0] rfl)
      · have h := itf (fun z => z k39) h
        refine lv_iload hx hb dX6_brokenIn_42 (lv_at hl 6 rfl) ?_
        have h := Option.some.inj h
        subst h
        exact hret () dX6_brokenIn_44 rfl hw
  unfold M_X6_brokenIn at h
  refine lv_aload_n hx hb dX6_brokenIn_0 rfl (lv_at hl 0 rfl) ?_
  refine lv_iconst (v := 0) hx hb dX6_brokenIn_1 (by decide) ?_
  refine RM_p_picturesSum (gs' := [wRM g ad eK eT (RM_s_picturesSum rm (0 : Int32))]) X hw 0 rfl kf_X6_295 dX6_brokenIn_2 rfl (fun H locs hw => ?_)
  refine lv_aload_n hx hb dX6_brokenIn_5 rfl (lv_at hl 0 rfl) ?_
  refine RM_g_on X hw 0 rfl kf_X6_43 dX6_brokenIn_6 ?_
  refine lv_iload_n hx hb dX6_brokenIn_9 rfl (lv_at hl 3 rfl) ?_
  obtain ⟨q10, h⟩ := chk h
  refine RM_l_on X hw 0 rfl q10 dX6_brokenIn_10 ?_
  refine lv_istore (lv' := [(4, .int (RM_on (RM_s_picturesSum rm (0 : Int32)) p3.toNatClampNeg)), (0, .ref (ad 0)), (1, .ref (ad (5 + p1))), (2, .int p2), (3, .int p3)]) hx hb dX6_brokenIn_11 hl (by decide) rfl (fun ls hl => ?_)
  refine lv_iconst (v := 0) hx hb dX6_brokenIn_13 (by decide) ?_
  refine lv_istore (lv' := [(5, .int (0 : Int32)), (4, .int (RM_on (RM_s_picturesSum rm (0 : Int32)) p3.toNatClampNeg)), (0, .ref (ad 0)), (1, .ref (ad (5 + p1))), (2, .int p2), (3, .int p3)]) hx hb dX6_brokenIn_14 hl (by decide) rfl (fun ls hl => ?_)
  exact L16 N _ h _ _ _ hw (lv_sub hl [2, 3, 4, 5, 1, 0] rfl)
theorem kM_X6_pictures : kM yX6_pictures cX6_pictures 5 (some FieldType.int) 3 := ⟨kc_X6_pictures, kn_RingsOffModel, by decide +kernel⟩
abbrev R_X6_pictures : Room := { frames := 7, cells := 0, slots := 0, locals := 167 }
set_option maxHeartbeats 4000000 in
set_option maxRecDepth 100000 in
theorem c_X6_pictures (l : Launch) {ad : Nat → Nat} {eK : Option Nat} {eT : Option Nat} {N : Nat} {rm : RM} {p1 : Int32} {p2 : Int32} {p3 : Int32} {out : Int32 × RM} (h : M_X6_pictures N rm p1 p2 p3 = some out) : gM l yX6_pictures cX6_pictures 5 (some FieldType.int) R_X6_pictures (fun _ => [.ref (ad 0), .int p1, .int p2, .int p3]) (fun g => [wRM g ad eK eT rm]) (gQi (fun (_ : Unit) => out.1) (fun g (_ : Unit) => [wRM g ad eK eT out.2])) := by
  refine gM.ofi (by decide +kernel) (fun _ => Nat.le_of_ble_eq_true rfl) (fun g p e s m args below meth c A ls Q X hret hw hl => ?_)
  have hx := X.1.1
  have hb := X.1.2.1
  have hl : lv_has ls 5 [(0, .ref (ad 0)), (1, .int p1), (2, .int p2), (3, .int p3)] := hl
  unfold M_X6_pictures at h
  refine lv_aload_n hx hb dX6_pictures_0 rfl (lv_at hl 0 rfl) ?_
  refine lv_iload_n hx hb dX6_pictures_1 rfl (lv_at hl 1 rfl) ?_
  refine lv_iload_n hx hb dX6_pictures_2 rfl (lv_at hl 2 rfl) ?_
  refine lv_iload_n hx hb dX6_pictures_3 rfl (lv_at hl 3 rfl) ?_
  obtain ⟨r4, h4, h⟩ := bnd h
  refine g_calli0 (isC := [0]) (gn := fun _ => [wRM g ad eK eT r4.2]) (g_runV (isC := [0]) (rest := []) (As := [.int p1, .int p2, .int p3]) X hw (c_X6_noPictures l (ad := ad) (eK := eK) (eT := eT) h4) rfl kM_X6_noPictures ki_X6_noPictures ks_X6_noPictures km_X6_298 ⟨(Nat.le_of_ble_eq_true rfl), (Nat.le_of_ble_eq_true rfl)⟩ ⟨(Nat.le_of_ble_eq_true rfl), (Nat.le_of_ble_eq_true rfl)⟩ rfl rfl ⟨_, _, _, _, rfl, rfl, rfl, rfl⟩ rfl hl.1 rfl (Nat.le_of_ble_eq_true rfl) dX6_pictures_4) hw rfl rfl (fun _ => (Nat.le_of_ble_eq_true rfl)) (fun _ => rfl) rfl rfl (fun _ H locs hw => ?_)
  refine lv_istore (lv' := [(4, .int r4.1), (0, .ref (ad 0)), (1, .int p1), (2, .int p2), (3, .int p3)]) hx hb dX6_pictures_7 hl (by decide) rfl (fun ls hl => ?_)
  refine lv_iload hx hb dX6_pictures_9 (lv_at hl 0 rfl) ?_
  refine lv_if_eq (tgt := 17) hx hb dX6_pictures_11 (by decide) (fun k11 => ?_) (fun k11 => ?_)
  · have h := itt k11 h
    refine lv_aload_n hx hb dX6_pictures_17 rfl (lv_at hl 1 rfl) ?_
    refine lv_aload_n hx hb dX6_pictures_18 rfl (lv_at hl 1 rfl) ?_
    refine RM_g_rows X hw 0 rfl kf_X6_21 dX6_pictures_19 ?_
    refine lv_iload_n hx hb dX6_pictures_22 rfl (lv_at hl 2 rfl) ?_
    obtain ⟨q23, h⟩ := chk h
    have o23 := Nat.not_le.mp (fun z => q23 (Or.inr z))
    refine RM_q_rows X hw 0 rfl q23 dX6_pictures_23 ?_
    refine lv_iload_n hx hb dX6_pictures_24 rfl (lv_at hl 3 rfl) ?_
    refine lv_iload_n hx hb dX6_pictures_25 rfl (lv_at hl 4 rfl) ?_
    obtain ⟨r26, h26, h⟩ := bnd h
    refine g_calli0 (isC := [0]) (gn := fun _ => [wRM g ad eK eT r26.2]) (g_runV (isC := [0]) (rest := []) (As := [.ref (ad (5 + p1.toNatClampNeg)), .int p2, .int p3]) X hw (c_X6_brokenIn l (ad := ad) (eK := eK) (eT := eT) h26 o23) rfl kM_X6_brokenIn ki_X6_brokenIn ks_X6_brokenIn km_X6_301 ⟨(Nat.le_of_ble_eq_true rfl), (Nat.le_of_ble_eq_true rfl)⟩ ⟨(Nat.le_of_ble_eq_true rfl), (Nat.le_of_ble_eq_true rfl)⟩ rfl rfl ⟨_, _, _, _, rfl, rfl, rfl, rfl⟩ rfl hl.1 rfl (Nat.le_of_ble_eq_true rfl) dX6_pictures_26) hw rfl rfl (fun _ => (Nat.le_of_ble_eq_true rfl)) (fun _ => rfl) rfl rfl (fun _ H locs hw => ?_)
    refine lv_iconst (v := -1) hx hb dX6_pictures_29 (by decide) ?_
    refine lv_icmp_eq (tgt := 37) hx hb dX6_pictures_30 (by decide) (fun k30 => ?_) (fun k30 => ?_)
    · have h := itt k30 h
      refine lv_aload_n hx hb dX6_pictures_37 rfl (lv_at hl 1 rfl) ?_
      refine RM_g_picturesSum X hw 0 rfl kf_X6_295 dX6_pictures_38 ?_
      have h := Option.some.inj h
      subst h
      exact hret () dX6_pictures_41 rfl hw
    · have h := itf k30 h
      refine lv_iconst (v := -1) hx hb dX6_pictures_33 (by decide) ?_
      refine lv_goto (tgt := 41) hx hb dX6_pictures_34 (by decide) ?_
      have h := Option.some.inj h
      subst h
      exact hret () dX6_pictures_41 rfl hw
  · have h := itf k11 h
    refine lv_iload hx hb dX6_pictures_14 (lv_at hl 0 rfl) ?_
    have h := Option.some.inj h
    subst h
    exact hret () dX6_pictures_16 rfl hw
theorem kM_X6_broken : kM yX6_broken cX6_broken 5 (some FieldType.int) 3 := ⟨kc_X6_broken, kn_RingsOffModel, by decide +kernel⟩
abbrev R_X6_broken : Room := { frames := 7, cells := 0, slots := 0, locals := 167 }
set_option maxHeartbeats 4000000 in
set_option maxRecDepth 100000 in
theorem c_X6_broken (l : Launch) {ad : Nat → Nat} {eK : Option Nat} {eT : Option Nat} {N : Nat} {rm : RM} {p1 : Int32} {p2 : Int32} {p3 : Int32} {out : Int32 × RM} (h : M_X6_broken N rm p1 p2 p3 = some out) : gM l yX6_broken cX6_broken 5 (some FieldType.int) R_X6_broken (fun _ => [.ref (ad 0), .int p1, .int p2, .int p3]) (fun g => [wRM g ad eK eT rm]) (gQi (fun (_ : Unit) => out.1) (fun g (_ : Unit) => [wRM g ad eK eT out.2])) := by
  refine gM.ofi (by decide +kernel) (fun _ => Nat.le_of_ble_eq_true rfl) (fun g p e s m args below meth c A ls Q X hret hw hl => ?_)
  have hx := X.1.1
  have hb := X.1.2.1
  have hl : lv_has ls 5 [(0, .ref (ad 0)), (1, .int p1), (2, .int p2), (3, .int p3)] := hl
  unfold M_X6_broken at h
  refine lv_aload_n hx hb dX6_broken_0 rfl (lv_at hl 0 rfl) ?_
  refine lv_iload_n hx hb dX6_broken_1 rfl (lv_at hl 1 rfl) ?_
  refine lv_iload_n hx hb dX6_broken_2 rfl (lv_at hl 2 rfl) ?_
  refine lv_iload_n hx hb dX6_broken_3 rfl (lv_at hl 3 rfl) ?_
  obtain ⟨r4, h4, h⟩ := bnd h
  refine g_calli0 (isC := [0]) (gn := fun _ => [wRM g ad eK eT r4.2]) (g_runV (isC := [0]) (rest := []) (As := [.int p1, .int p2, .int p3]) X hw (c_X6_noPictures l (ad := ad) (eK := eK) (eT := eT) h4) rfl kM_X6_noPictures ki_X6_noPictures ks_X6_noPictures km_X6_298 ⟨(Nat.le_of_ble_eq_true rfl), (Nat.le_of_ble_eq_true rfl)⟩ ⟨(Nat.le_of_ble_eq_true rfl), (Nat.le_of_ble_eq_true rfl)⟩ rfl rfl ⟨_, _, _, _, rfl, rfl, rfl, rfl⟩ rfl hl.1 rfl (Nat.le_of_ble_eq_true rfl) dX6_broken_4) hw rfl rfl (fun _ => (Nat.le_of_ble_eq_true rfl)) (fun _ => rfl) rfl rfl (fun _ H locs hw => ?_)
  refine lv_istore (lv' := [(4, .int r4.1), (0, .ref (ad 0)), (1, .int p1), (2, .int p2), (3, .int p3)]) hx hb dX6_broken_7 hl (by decide) rfl (fun ls hl => ?_)
  refine lv_iload hx hb dX6_broken_9 (lv_at hl 0 rfl) ?_
  refine lv_if_eq (tgt := 19) hx hb dX6_broken_11 (by decide) (fun k11 => ?_) (fun k11 => ?_)
  · have h := itt k11 h
    refine lv_aload_n hx hb dX6_broken_19 rfl (lv_at hl 1 rfl) ?_
    refine lv_aload_n hx hb dX6_broken_20 rfl (lv_at hl 1 rfl) ?_
    refine RM_g_rows X hw 0 rfl kf_X6_21 dX6_broken_21 ?_
    refine lv_iload_n hx hb dX6_broken_24 rfl (lv_at hl 2 rfl) ?_
    obtain ⟨q25, h⟩ := chk h
    have o25 := Nat.not_le.mp (fun z => q25 (Or.inr z))
    refine RM_q_rows X hw 0 rfl q25 dX6_broken_25 ?_
    refine lv_iload_n hx hb dX6_broken_26 rfl (lv_at hl 3 rfl) ?_
    refine lv_iload_n hx hb dX6_broken_27 rfl (lv_at hl 4 rfl) ?_
    obtain ⟨r28, h28, h⟩ := bnd h
    refine g_calli0 (isC := [0]) (gn := fun _ => [wRM g ad eK eT r28.2]) (g_runV (isC := [0]) (rest := []) (As := [.ref (ad (5 + p1.toNatClampNeg)), .int p2, .int p3]) X hw (c_X6_brokenIn l (ad := ad) (eK := eK) (eT := eT) h28 o25) rfl kM_X6_brokenIn ki_X6_brokenIn ks_X6_brokenIn km_X6_301 ⟨(Nat.le_of_ble_eq_true rfl), (Nat.le_of_ble_eq_true rfl)⟩ ⟨(Nat.le_of_ble_eq_true rfl), (Nat.le_of_ble_eq_true rfl)⟩ rfl rfl ⟨_, _, _, _, rfl, rfl, rfl, rfl⟩ rfl hl.1 rfl (Nat.le_of_ble_eq_true rfl) dX6_broken_28) hw rfl rfl (fun _ => (Nat.le_of_ble_eq_true rfl)) (fun _ => rfl) rfl rfl (fun _ H locs hw => ?_)
    have h := Option.some.inj h
    subst h
    exact hret () dX6_broken_31 rfl hw
  · have h := itf k11 h
    refine lv_iload hx hb dX6_broken_14 (lv_at hl 0 rfl) ?_
    refine lv_goto (tgt := 31) hx hb dX6_broken_16 (by decide) ?_
    have h := Option.some.inj h
    subst h
    exact hret () dX6_broken_31 rfl hw
theorem kM_X6_once : kM yX6_once cX6_once 8 (some FieldType.int) 3 := ⟨kc_X6_once, kn_RingsOffModel, by decide +kernel⟩
abbrev R_X6_once : Room := { frames := 7, cells := 0, slots := 0, locals := 167 }
set_option maxHeartbeats 4000000 in
set_option maxRecDepth 100000 in
theorem c_X6_once (l : Launch) {ad : Nat → Nat} {eK : Option Nat} {eT : Option Nat} {N : Nat} {rm : RM} {p1 : Int32} {p2 : Int32} {p3 : Int32} {out : Int32 × RM} (h : M_X6_once N rm p1 p2 p3 = some out) : gM l yX6_once cX6_once 8 (some FieldType.int) R_X6_once (fun _ => [.ref (ad 0), .int p1, .int p2, .int p3]) (fun g => [wRM g ad eK eT rm]) (gQi (fun (_ : Unit) => out.1) (fun g (_ : Unit) => [wRM g ad eK eT out.2])) := by
  refine gM.ofi (by decide +kernel) (fun _ => Nat.le_of_ble_eq_true rfl) (fun g p e s m args below meth c A ls Q X hret hw hl => ?_)
  have hx := X.1.1
  have hb := X.1.2.1
  have hl : lv_has ls 8 [(0, .ref (ad 0)), (1, .int p1), (2, .int p2), (3, .int p3)] := hl
  have L75 : ∀ (n : Nat) (z75 : RM × Int32 × Int32 × Int32), lp (M_X6_once_l75 N p1 p2 p3) n z75 = some out → ∀ (H : Heap) (locs : List Loc) (ls : Array Slot), gW g A s.heap [wRM g ad eK eT z75.1] H locs → lv_has ls 8 [(0, .ref (ad 0)), (1, .int p1), (3, .int p3), (5, .int z75.2.1), (6, .int z75.2.2.1), (7, .int z75.2.2.2)] → W p l e R_X6_once s m args below meth c H locs 0 0 Q (F0 m 75 ls []) := by
    refine lp_ind ?_
    intro rec75 ih75
    intro z75 h H locs ls hw hl
    unfold M_X6_once_l75 at h
    refine lv_iload hx hb dX6_once_75 (lv_at hl 5 rfl) ?_
    refine lv_aload_n hx hb dX6_once_77 rfl (lv_at hl 0 rfl) ?_
    refine RM_g_size X hw 0 rfl kf_X6_40 dX6_once_78 ?_
    refine lv_iload_n hx hb dX6_once_81 rfl (lv_at hl 2 rfl) ?_
    obtain ⟨q82, h⟩ := chk h
    refine RM_l_size X hw 0 rfl q82 dX6_once_82 ?_
    refine lv_icmp_ge (tgt := 121) hx hb dX6_once_83 (by decide) (fun k83 => ?_) (fun k83 => ?_)
    · have h := itt k83 h
      refine lv_iconst (v := -1) hx hb dX6_once_121 (by decide) ?_
      have h := Option.some.inj h
      subst h
      exact hret () dX6_once_122 rfl hw
    · have h := itf k83 h
      refine lv_aload_n hx hb dX6_once_86 rfl (lv_at hl 0 rfl) ?_
      refine lv_iload_n hx hb dX6_once_87 rfl (lv_at hl 2 rfl) ?_
      refine lv_iload hx hb dX6_once_88 (lv_at hl 4 rfl) ?_
      refine lv_iconst (v := 1) hx hb dX6_once_90 (by decide) ?_
      refine lv_iload hx hb dX6_once_91 (lv_at hl 5 rfl) ?_
      refine lv_ishl hx hb dX6_once_93 ?_
      refine lv_ixor hx hb dX6_once_94 ?_
      refine lv_aload_n hx hb dX6_once_95 rfl (lv_at hl 0 rfl) ?_
      refine RM_g_rows X hw 0 rfl kf_X6_21 dX6_once_96 ?_
      refine lv_iload_n hx hb dX6_once_99 rfl (lv_at hl 1 rfl) ?_
      obtain ⟨q100, h⟩ := chk h
      have o100 := Nat.not_le.mp (fun z => q100 (Or.inr z))
      refine RM_q_rows X hw 0 rfl q100 dX6_once_100 ?_
      refine lv_iload hx hb dX6_once_101 (lv_at hl 3 rfl) ?_
      obtain ⟨q103, h⟩ := chk h
      refine RM_l_rows X hw 0 rfl o100 q103 dX6_once_103 ?_
      refine lv_l2i (v := (RM_rows z75.1 p1.toNatClampNeg z75.2.1.toNatClampNeg).toInt32) hx hb dX6_once_104 rfl ?_
      obtain ⟨r105, h105, h⟩ := bnd h
      refine g_calli0 (isC := [0]) (gn := fun _ => [wRM g ad eK eT r105.2]) (g_runV (isC := [0]) (rest := []) (As := [.int p3, .int (z75.2.2.1 ^^^ ((1 : Int32) <<< (z75.2.2.2 &&& 31))), .int (RM_rows z75.1 p1.toNatClampNeg z75.2.1.toNatClampNeg).toInt32]) X hw (c_X6_fewestTo l (ad := ad) (eK := eK) (eT := eT) h105) rfl kM_X6_fewestTo ki_X6_fewestTo ks_X6_fewestTo km_X6_127 ⟨(Nat.le_of_ble_eq_true rfl), (Nat.le_of_ble_eq_true rfl)⟩ ⟨(Nat.le_of_ble_eq_true rfl), (Nat.le_of_ble_eq_true rfl)⟩ rfl rfl ⟨_, _, _, _, rfl, rfl, rfl, rfl⟩ rfl hl.1 rfl (Nat.le_of_ble_eq_true rfl) dX6_once_105) hw rfl rfl (fun _ => (Nat.le_of_ble_eq_true rfl)) (fun _ => rfl) rfl rfl (fun _ H locs hw => ?_)
      refine lv_iconst (v := -1) hx hb dX6_once_108 (by decide) ?_
      refine lv_icmp_eq (tgt := 115) hx hb dX6_once_109 (by decide) (fun k109 => ?_) (fun k109 => ?_)
      · have h := itt k109 h
        refine lv_iinc (v := (z75.2.2.2 + 1)) (lv' := [(7, .int (z75.2.2.2 + 1)), (0, .ref (ad 0)), (1, .int p1), (3, .int p3), (5, .int z75.2.1), (6, .int z75.2.2.1)]) hx hb dX6_once_115 hl (k := 5) rfl rfl (by decide) rfl (fun ls hl => ?_)
        refine lv_goto (tgt := 75) hx hb dX6_once_118 (by decide) ?_
        exact ih75 _ h _ _ _ hw (lv_sub hl [1, 2, 3, 4, 5, 0] rfl)
      · have h := itf k109 h
        refine lv_iload hx hb dX6_once_112 (lv_at hl 5 rfl) ?_
        have h := Option.some.inj h
        subst h
        exact hret () dX6_once_114 rfl hw
  have J70 : ∀ (z70 : RM × Int32 × Int32), M_X6_once_j70 N p1 p2 p3 z70 = some out → ∀ (H : Heap) (locs : List Loc) (ls : Array Slot), gW g A s.heap [wRM g ad eK eT z70.1] H locs → lv_has ls 8 [(0, .ref (ad 0)), (1, .int p1), (3, .int p3), (5, .int z70.2.1)] → W p l e R_X6_once s m args below meth c H locs 0 0 Q (F0 m 70 ls [.int z70.2.2]) := by
    intro z70 h H locs ls hw hl
    unfold M_X6_once_j70 at h
    refine lv_istore (lv' := [(6, .int z70.2.2), (0, .ref (ad 0)), (1, .int p1), (3, .int p3), (5, .int z70.2.1)]) hx hb dX6_once_70 hl (by decide) rfl (fun ls hl => ?_)
    refine lv_iconst (v := 0) hx hb dX6_once_72 (by decide) ?_
    refine lv_istore (lv' := [(7, .int (0 : Int32)), (6, .int z70.2.2), (0, .ref (ad 0)), (1, .int p1), (3, .int p3), (5, .int z70.2.1)]) hx hb dX6_once_73 hl (by decide) rfl (fun ls hl => ?_)
    exact L75 N _ h _ _ _ hw (lv_sub hl [2, 3, 4, 5, 1, 0] rfl)
  unfold M_X6_once at h
  refine lv_aload_n hx hb dX6_once_0 rfl (lv_at hl 0 rfl) ?_
  refine lv_iload_n hx hb dX6_once_1 rfl (lv_at hl 1 rfl) ?_
  refine lv_iload_n hx hb dX6_once_2 rfl (lv_at hl 2 rfl) ?_
  refine lv_iload_n hx hb dX6_once_3 rfl (lv_at hl 3 rfl) ?_
  obtain ⟨r4, h4, h⟩ := bnd h
  refine g_calli0 (isC := [0]) (gn := fun _ => [wRM g ad eK eT r4.2]) (g_runV (isC := [0]) (rest := []) (As := [.int p1, .int p2, .int p3]) X hw (c_X6_noPictures l (ad := ad) (eK := eK) (eT := eT) h4) rfl kM_X6_noPictures ki_X6_noPictures ks_X6_noPictures km_X6_298 ⟨(Nat.le_of_ble_eq_true rfl), (Nat.le_of_ble_eq_true rfl)⟩ ⟨(Nat.le_of_ble_eq_true rfl), (Nat.le_of_ble_eq_true rfl)⟩ rfl rfl ⟨_, _, _, _, rfl, rfl, rfl, rfl⟩ rfl hl.1 rfl (Nat.le_of_ble_eq_true rfl) dX6_once_4) hw rfl rfl (fun _ => (Nat.le_of_ble_eq_true rfl)) (fun _ => rfl) rfl rfl (fun _ H locs hw => ?_)
  refine lv_istore (lv' := [(4, .int r4.1), (0, .ref (ad 0)), (1, .int p1), (2, .int p2), (3, .int p3)]) hx hb dX6_once_7 hl (by decide) rfl (fun ls hl => ?_)
  refine lv_iload hx hb dX6_once_9 (lv_at hl 0 rfl) ?_
  refine lv_if_eq (tgt := 17) hx hb dX6_once_11 (by decide) (fun k11 => ?_) (fun k11 => ?_)
  · have h := itt k11 h
    refine lv_aload_n hx hb dX6_once_17 rfl (lv_at hl 1 rfl) ?_
    refine lv_aload_n hx hb dX6_once_18 rfl (lv_at hl 1 rfl) ?_
    refine RM_g_rows X hw 0 rfl kf_X6_21 dX6_once_19 ?_
    refine lv_iload_n hx hb dX6_once_22 rfl (lv_at hl 2 rfl) ?_
    obtain ⟨q23, h⟩ := chk h
    have o23 := Nat.not_le.mp (fun z => q23 (Or.inr z))
    refine RM_q_rows X hw 0 rfl q23 dX6_once_23 ?_
    refine lv_iload_n hx hb dX6_once_24 rfl (lv_at hl 3 rfl) ?_
    refine lv_iload_n hx hb dX6_once_25 rfl (lv_at hl 4 rfl) ?_
    obtain ⟨r26, h26, h⟩ := bnd h
    refine g_calli0 (isC := [0]) (gn := fun _ => [wRM g ad eK eT r26.2]) (g_runV (isC := [0]) (rest := []) (As := [.ref (ad (5 + p1.toNatClampNeg)), .int p2, .int p3]) X hw (c_X6_brokenIn l (ad := ad) (eK := eK) (eT := eT) h26 o23) rfl kM_X6_brokenIn ki_X6_brokenIn ks_X6_brokenIn km_X6_301 ⟨(Nat.le_of_ble_eq_true rfl), (Nat.le_of_ble_eq_true rfl)⟩ ⟨(Nat.le_of_ble_eq_true rfl), (Nat.le_of_ble_eq_true rfl)⟩ rfl rfl ⟨_, _, _, _, rfl, rfl, rfl, rfl⟩ rfl hl.1 rfl (Nat.le_of_ble_eq_true rfl) dX6_once_26) hw rfl rfl (fun _ => (Nat.le_of_ble_eq_true rfl)) (fun _ => rfl) rfl rfl (fun _ H locs hw => ?_)
    refine lv_istore (lv' := [(5, .int r26.1), (4, .int r4.1), (0, .ref (ad 0)), (1, .int p1), (2, .int p2), (3, .int p3)]) hx hb dX6_once_29 hl (by decide) rfl (fun ls hl => ?_)
    refine lv_iload hx hb dX6_once_31 (lv_at hl 0 rfl) ?_
    refine lv_iconst (v := -1) hx hb dX6_once_33 (by decide) ?_
    refine lv_icmp_ne (tgt := 44) hx hb dX6_once_34 (by decide) (fun k34 => ?_) (fun k34 => ?_)
    · have h := itt k34 h
      refine lv_iload hx hb dX6_once_44 (lv_at hl 0 rfl) ?_
      refine lv_if_ne (tgt := 58) hx hb dX6_once_46 (by decide) (fun k46 => ?_) (fun k46 => ?_)
      · have h := itt k46 h
        refine lv_aload_n hx hb dX6_once_58 rfl (lv_at hl 2 rfl) ?_
        refine RM_g_rows X hw 0 rfl kf_X6_21 dX6_once_59 ?_
        refine lv_iload_n hx hb dX6_once_62 rfl (lv_at hl 3 rfl) ?_
        obtain ⟨q63, h⟩ := chk h
        have o63 := Nat.not_le.mp (fun z => q63 (Or.inr z))
        refine RM_q_rows X hw 0 rfl q63 dX6_once_63 ?_
        refine lv_iload hx hb dX6_once_64 (lv_at hl 0 rfl) ?_
        refine lv_iconst (v := 1) hx hb dX6_once_66 (by decide) ?_
        refine lv_isub hx hb dX6_once_67 ?_
        obtain ⟨q68, h⟩ := chk h
        refine RM_l_rows X hw 0 rfl o63 q68 dX6_once_68 ?_
        refine lv_l2i (v := (RM_rows r26.2 p1.toNatClampNeg (r26.1 - (1 : Int32)).toNatClampNeg).toInt32) hx hb dX6_once_69 rfl ?_
        exact J70 _ h _ _ _ hw (lv_sub hl [2, 3, 5, 0] rfl)
      · have h := itf (fun z => z k46) h
        refine lv_aload_n hx hb dX6_once_49 rfl (lv_at hl 2 rfl) ?_
        refine RM_g_on X hw 0 rfl kf_X6_43 dX6_once_50 ?_
        refine lv_iload_n hx hb dX6_once_53 rfl (lv_at hl 5 rfl) ?_
        obtain ⟨q54, h⟩ := chk h
        refine RM_l_on X hw 0 rfl q54 dX6_once_54 ?_
        refine lv_goto (tgt := 70) hx hb dX6_once_55 (by decide) ?_
        exact J70 _ h _ _ _ hw (lv_sub hl [2, 3, 5, 0] rfl)
    · have h := itf (fun z => z k34) h
      refine lv_aload_n hx hb dX6_once_37 rfl (lv_at hl 2 rfl) ?_
      refine lv_bipush (v := -5) hx hb dX6_once_38 (by decide) ?_
      obtain ⟨r40, h40, h⟩ := bnd h
      refine g_calli0 (isC := [0]) (gn := fun _ => [wRM g ad eK eT r40.2]) (g_runV (isC := [0]) (rest := []) (As := [.int (-5 : Int32)]) X hw (c_X6_refuse l (ad := ad) (eK := eK) (eT := eT) h40) rfl kM_X6_refuse ki_X6_refuse ks_X6_refuse km_X6_96 ⟨(Nat.le_of_ble_eq_true rfl), (Nat.le_of_ble_eq_true rfl)⟩ ⟨(Nat.le_of_ble_eq_true rfl), (Nat.le_of_ble_eq_true rfl)⟩ rfl rfl ⟨_, _, _, _, rfl, rfl, rfl, rfl⟩ rfl hl.1 rfl (Nat.le_of_ble_eq_true rfl) dX6_once_40) hw rfl rfl (fun _ => (Nat.le_of_ble_eq_true rfl)) (fun _ => rfl) rfl rfl (fun _ H locs hw => ?_)
      have h := Option.some.inj h
      subst h
      exact hret () dX6_once_43 rfl hw
  · have h := itf k11 h
    refine lv_iload hx hb dX6_once_14 (lv_at hl 0 rfl) ?_
    have h := Option.some.inj h
    subst h
    exact hret () dX6_once_16 rfl hw
theorem kM_X6_noMoves : kM yX6_noMoves cX6_noMoves 5 (some FieldType.int) 3 := ⟨kc_X6_noMoves, kn_RingsOffModel, by decide +kernel⟩
abbrev R_X6_noMoves : Room := { frames := 2, cells := 0, slots := 0, locals := 46 }
set_option maxHeartbeats 4000000 in
set_option maxRecDepth 100000 in
theorem c_X6_noMoves (l : Launch) {ad : Nat → Nat} {eK : Option Nat} {eT : Option Nat} {N : Nat} {rm : RM} {p1 : Int32} {p2 : Int32} {p3 : Int32} {out : Int32 × RM} (h : M_X6_noMoves N rm p1 p2 p3 = some out) : gM l yX6_noMoves cX6_noMoves 5 (some FieldType.int) R_X6_noMoves (fun _ => [.ref (ad 0), .int p1, .int p2, .int p3]) (fun g => [wRM g ad eK eT rm]) (gQi (fun (_ : Unit) => out.1) (fun g (_ : Unit) => [wRM g ad eK eT out.2])) := by
  refine gM.ofi (by decide +kernel) (fun _ => Nat.le_of_ble_eq_true rfl) (fun g p e s m args below meth c A ls Q X hret hw hl => ?_)
  have hx := X.1.1
  have hb := X.1.2.1
  have hl : lv_has ls 5 [(0, .ref (ad 0)), (1, .int p1), (2, .int p2), (3, .int p3)] := hl
  have J32 : ∀ (z32 : RM), M_X6_noMoves_j32 N p1 p2 p3 z32 = some out → ∀ (H : Heap) (locs : List Loc) (ls : Array Slot), gW g A s.heap [wRM g ad eK eT z32] H locs → lv_has ls 5 [(0, .ref (ad 0))] → W p l e R_X6_noMoves s m args below meth c H locs 0 0 Q (F0 m 32 ls []) := by
    intro z32 h H locs ls hw hl
    unfold M_X6_noMoves_j32 at h
    refine lv_aload_n hx hb dX6_noMoves_32 rfl (lv_at hl 0 rfl) ?_
    refine lv_bipush (v := -2) hx hb dX6_noMoves_33 (by decide) ?_
    obtain ⟨r35, h35, h⟩ := bnd h
    refine g_calli0 (isC := [0]) (gn := fun _ => [wRM g ad eK eT r35.2]) (g_runV (isC := [0]) (rest := []) (As := [.int (-2 : Int32)]) X hw (c_X6_refuse l (ad := ad) (eK := eK) (eT := eT) h35) rfl kM_X6_refuse ki_X6_refuse ks_X6_refuse km_X6_96 ⟨(Nat.le_of_ble_eq_true rfl), (Nat.le_of_ble_eq_true rfl)⟩ ⟨(Nat.le_of_ble_eq_true rfl), (Nat.le_of_ble_eq_true rfl)⟩ rfl rfl ⟨_, _, _, _, rfl, rfl, rfl, rfl⟩ rfl hl.1 rfl (Nat.le_of_ble_eq_true rfl) dX6_noMoves_35) hw rfl rfl (fun _ => (Nat.le_of_ble_eq_true rfl)) (fun _ => rfl) rfl rfl (fun _ H locs hw => ?_)
    have h := Option.some.inj h
    subst h
    exact hret () dX6_noMoves_38 rfl hw
  unfold M_X6_noMoves at h
  refine lv_iload_n hx hb dX6_noMoves_0 rfl (lv_at hl 1 rfl) ?_
  refine lv_i2l (v := p1.toInt64) hx hb dX6_noMoves_1 rfl ?_
  refine lv_lconst (v := 0) hx hb dX6_noMoves_2 (by decide) ?_
  refine lv_ldc2 hx hb X.1.2.2.2.1 (gK1 X _ kq_X6_90) dX6_noMoves_3 ?_
  obtain ⟨r6, h6, h⟩ := bnd h
  refine g_calli0 (isC := []) (gn := fun _ => [wRM g ad eK eT rm]) (g_runS (isC := []) (rest := []) (As := [.long p1.toInt64, .long (0 : Int64), .long (7 : Int64)]) X hw (c_X6_in l h6) rfl kM_X6_in kt_X6_in km_X6_82 ⟨(Nat.le_of_ble_eq_true rfl), (Nat.le_of_ble_eq_true rfl)⟩ ⟨(Nat.le_of_ble_eq_true rfl), (Nat.le_of_ble_eq_true rfl)⟩ rfl rfl rfl hl.1 rfl (Nat.le_of_ble_eq_true rfl) dX6_noMoves_6) hw rfl rfl (fun _ => (Nat.le_of_ble_eq_true rfl)) (fun _ => rfl) rfl rfl (fun _ H locs hw => ?_)
  refine lv_if_eq (tgt := 32) hx hb dX6_noMoves_9 (by decide) (fun k9 => ?_) (fun k9 => ?_)
  · have h := itt k9 h
    exact J32 _ h _ _ _ hw (lv_sub hl [0] rfl)
  · have h := itf k9 h
    refine lv_iload_n hx hb dX6_noMoves_12 rfl (lv_at hl 2 rfl) ?_
    refine lv_i2l (v := p2.toInt64) hx hb dX6_noMoves_13 rfl ?_
    refine lv_lconst (v := 0) hx hb dX6_noMoves_14 (by decide) ?_
    refine lv_ldc2 hx hb X.1.2.2.2.1 (gK1 X _ kq_X6_94) dX6_noMoves_15 ?_
    obtain ⟨r18, h18, h⟩ := bnd h
    refine g_calli0 (isC := []) (gn := fun _ => [wRM g ad eK eT rm]) (g_runS (isC := []) (rest := []) (As := [.long p2.toInt64, .long (0 : Int64), .long (40 : Int64)]) X hw (c_X6_in l h18) rfl kM_X6_in kt_X6_in km_X6_82 ⟨(Nat.le_of_ble_eq_true rfl), (Nat.le_of_ble_eq_true rfl)⟩ ⟨(Nat.le_of_ble_eq_true rfl), (Nat.le_of_ble_eq_true rfl)⟩ rfl rfl rfl hl.1 rfl (Nat.le_of_ble_eq_true rfl) dX6_noMoves_18) hw rfl rfl (fun _ => (Nat.le_of_ble_eq_true rfl)) (fun _ => rfl) rfl rfl (fun _ H locs hw => ?_)
    refine lv_if_eq (tgt := 32) hx hb dX6_noMoves_21 (by decide) (fun k21 => ?_) (fun k21 => ?_)
    · have h := itt k21 h
      exact J32 _ h _ _ _ hw (lv_sub hl [0] rfl)
    · have h := itf k21 h
      refine lv_aload_n hx hb dX6_noMoves_24 rfl (lv_at hl 0 rfl) ?_
      refine lv_iload_n hx hb dX6_noMoves_25 rfl (lv_at hl 3 rfl) ?_
      obtain ⟨r26, h26, h⟩ := bnd h
      refine g_calli0 (isC := [0]) (gn := fun _ => [wRM g ad eK eT rm]) (g_runV (isC := [0]) (rest := []) (As := [.int p3]) X hw (c_X6_isBar l (ad := ad) (eK := eK) (eT := eT) h26) rfl kM_X6_isBar ki_X6_isBar ks_X6_isBar km_X6_106 ⟨(Nat.le_of_ble_eq_true rfl), (Nat.le_of_ble_eq_true rfl)⟩ ⟨(Nat.le_of_ble_eq_true rfl), (Nat.le_of_ble_eq_true rfl)⟩ rfl rfl ⟨_, _, _, _, rfl, rfl, rfl, rfl⟩ rfl hl.1 rfl (Nat.le_of_ble_eq_true rfl) dX6_noMoves_26) hw rfl rfl (fun _ => (Nat.le_of_ble_eq_true rfl)) (fun _ => rfl) rfl rfl (fun _ H locs hw => ?_)
      refine lv_if_ne (tgt := 39) hx hb dX6_noMoves_29 (by decide) (fun k29 => ?_) (fun k29 => ?_)
      · have h := itt k29 h
        refine lv_aload_n hx hb dX6_noMoves_39 rfl (lv_at hl 0 rfl) ?_
        refine lv_iload_n hx hb dX6_noMoves_40 rfl (lv_at hl 1 rfl) ?_
        obtain ⟨r41, h41, h⟩ := bnd h
        refine g_calli0 (isC := [0]) (gn := fun _ => [wRM g ad eK eT r41.2]) (g_runV (isC := [0]) (rest := []) (As := [.int p1]) X hw (c_X6_noRow l (ad := ad) (eK := eK) (eT := eT) h41) rfl kM_X6_noRow ki_X6_noRow ks_X6_noRow km_X6_99 ⟨(Nat.le_of_ble_eq_true rfl), (Nat.le_of_ble_eq_true rfl)⟩ ⟨(Nat.le_of_ble_eq_true rfl), (Nat.le_of_ble_eq_true rfl)⟩ rfl rfl ⟨_, _, _, _, rfl, rfl, rfl, rfl⟩ rfl hl.1 rfl (Nat.le_of_ble_eq_true rfl) dX6_noMoves_41) hw rfl rfl (fun _ => (Nat.le_of_ble_eq_true rfl)) (fun _ => rfl) rfl rfl (fun _ H locs hw => ?_)
        refine lv_istore (lv' := [(4, .int r41.1), (0, .ref (ad 0)), (1, .int p1), (2, .int p2), (3, .int p3)]) hx hb dX6_noMoves_44 hl (by decide) rfl (fun ls hl => ?_)
        refine lv_iload hx hb dX6_noMoves_46 (lv_at hl 0 rfl) ?_
        refine lv_if_eq (tgt := 54) hx hb dX6_noMoves_48 (by decide) (fun k48 => ?_) (fun k48 => ?_)
        · have h := itt k48 h
          refine lv_aload_n hx hb dX6_noMoves_54 rfl (lv_at hl 1 rfl) ?_
          refine RM_g_rowSize X hw 0 rfl kf_X6_16 dX6_noMoves_55 ?_
          refine lv_iload_n hx hb dX6_noMoves_58 rfl (lv_at hl 2 rfl) ?_
          obtain ⟨q59, h⟩ := chk h
          refine RM_l_rowSize X hw 0 rfl q59 dX6_noMoves_59 ?_
          refine lv_iload_n hx hb dX6_noMoves_60 rfl (lv_at hl 3 rfl) ?_
          refine lv_icmp_ge (tgt := 73) hx hb dX6_noMoves_61 (by decide) (fun k61 => ?_) (fun k61 => ?_)
          · have h := itt k61 h
            refine lv_iconst (v := 0) hx hb dX6_noMoves_73 (by decide) ?_
            have h := Option.some.inj h
            subst h
            exact hret () dX6_noMoves_74 rfl hw
          · have h := itf k61 h
            refine lv_aload_n hx hb dX6_noMoves_64 rfl (lv_at hl 1 rfl) ?_
            refine lv_bipush (v := -2) hx hb dX6_noMoves_65 (by decide) ?_
            obtain ⟨r67, h67, h⟩ := bnd h
            refine g_calli0 (isC := [0]) (gn := fun _ => [wRM g ad eK eT r67.2]) (g_runV (isC := [0]) (rest := []) (As := [.int (-2 : Int32)]) X hw (c_X6_refuse l (ad := ad) (eK := eK) (eT := eT) h67) rfl kM_X6_refuse ki_X6_refuse ks_X6_refuse km_X6_96 ⟨(Nat.le_of_ble_eq_true rfl), (Nat.le_of_ble_eq_true rfl)⟩ ⟨(Nat.le_of_ble_eq_true rfl), (Nat.le_of_ble_eq_true rfl)⟩ rfl rfl ⟨_, _, _, _, rfl, rfl, rfl, rfl⟩ rfl hl.1 rfl (Nat.le_of_ble_eq_true rfl) dX6_noMoves_67) hw rfl rfl (fun _ => (Nat.le_of_ble_eq_true rfl)) (fun _ => rfl) rfl rfl (fun _ H locs hw => ?_)
            refine lv_goto (tgt := 74) hx hb dX6_noMoves_70 (by decide) ?_
            have h := Option.some.inj h
            subst h
            exact hret () dX6_noMoves_74 rfl hw
        · have h := itf k48 h
          refine lv_iload hx hb dX6_noMoves_51 (lv_at hl 0 rfl) ?_
          have h := Option.some.inj h
          subst h
          exact hret () dX6_noMoves_53 rfl hw
      · have h := itf (fun z => z k29) h
        exact J32 _ h _ _ _ hw (lv_sub hl [0] rfl)
theorem kM_X6_wrongIn : kM yX6_wrongIn cX6_wrongIn 5 (some FieldType.int) 3 := ⟨kc_X6_wrongIn, kn_RingsOffModel, by decide +kernel⟩
abbrev R_X6_wrongIn : Room := { frames := 4, cells := 0, slots := 0, locals := 92 }
set_option maxHeartbeats 4000000 in
set_option maxRecDepth 100000 in
theorem c_X6_wrongIn (l : Launch) {ad : Nat → Nat} {eK : Option Nat} {eT : Option Nat} {N : Nat} {rm : RM} {p1 : Nat} {p2 : Int32} {p3 : Int32} {out : Int32 × RM} (h : M_X6_wrongIn N rm p1 p2 p3 = some out) (hp1 : p1 < 8) : gM l yX6_wrongIn cX6_wrongIn 5 (some FieldType.int) R_X6_wrongIn (fun _ => [.ref (ad 0), .ref (ad (5 + p1)), .int p2, .int p3]) (fun g => [wRM g ad eK eT rm]) (gQi (fun (_ : Unit) => out.1) (fun g (_ : Unit) => [wRM g ad eK eT out.2])) := by
  refine gM.ofi (by decide +kernel) (fun _ => Nat.le_of_ble_eq_true rfl) (fun g p e s m args below meth c A ls Q X hret hw hl => ?_)
  have hx := X.1.1
  have hb := X.1.2.1
  have hl : lv_has ls 5 [(0, .ref (ad 0)), (1, .ref (ad (5 + p1))), (2, .int p2), (3, .int p3)] := hl
  have L13 : ∀ (n : Nat) (z13 : RM × Int32), lp (M_X6_wrongIn_l13 N p1 p2 p3) n z13 = some out → ∀ (H : Heap) (locs : List Loc) (ls : Array Slot), gW g A s.heap [wRM g ad eK eT z13.1] H locs → lv_has ls 5 [(0, .ref (ad 0)), (1, .ref (ad (5 + p1))), (2, .int p2), (3, .int p3), (4, .int z13.2)] → W p l e R_X6_wrongIn s m args below meth c H locs 0 0 Q (F0 m 13 ls []) := by
    refine lp_ind ?_
    intro rec13 ih13
    intro z13 h H locs ls hw hl
    unfold M_X6_wrongIn_l13 at h
    refine lv_iload hx hb dX6_wrongIn_13 (lv_at hl 4 rfl) ?_
    refine lv_iload_n hx hb dX6_wrongIn_15 rfl (lv_at hl 2 rfl) ?_
    refine lv_icmp_ge (tgt := 76) hx hb dX6_wrongIn_16 (by decide) (fun k16 => ?_) (fun k16 => ?_)
    · have h := itt k16 h
      refine lv_iconst (v := -1) hx hb dX6_wrongIn_76 (by decide) ?_
      have h := Option.some.inj h
      subst h
      exact hret () dX6_wrongIn_77 rfl hw
    · have h := itf k16 h
      refine lv_aload_n hx hb dX6_wrongIn_19 rfl (lv_at hl 1 rfl) ?_
      refine lv_iload hx hb dX6_wrongIn_20 (lv_at hl 4 rfl) ?_
      obtain ⟨q22, h⟩ := chk h
      refine RM_l_rows X hw 0 rfl hp1 q22 dX6_wrongIn_22 ?_
      refine lv_lconst (v := 0) hx hb dX6_wrongIn_23 (by decide) ?_
      refine lv_ldc2 hx hb X.1.2.2.2.1 (gK1 X _ kq_X6_210) dX6_wrongIn_24 ?_
      obtain ⟨r27, h27, h⟩ := bnd h
      refine g_calli0 (isC := []) (gn := fun _ => [wRM g ad eK eT z13.1]) (g_runS (isC := []) (rest := []) (As := [.long (RM_rows z13.1 p1 z13.2.toNatClampNeg), .long (0 : Int64), .long (20 : Int64)]) X hw (c_X6_in l h27) rfl kM_X6_in kt_X6_in km_X6_82 ⟨(Nat.le_of_ble_eq_true rfl), (Nat.le_of_ble_eq_true rfl)⟩ ⟨(Nat.le_of_ble_eq_true rfl), (Nat.le_of_ble_eq_true rfl)⟩ rfl rfl rfl hl.1 rfl (Nat.le_of_ble_eq_true rfl) dX6_wrongIn_27) hw rfl rfl (fun _ => (Nat.le_of_ble_eq_true rfl)) (fun _ => rfl) rfl rfl (fun _ H locs hw => ?_)
      refine lv_if_eq (tgt := 50) hx hb dX6_wrongIn_30 (by decide) (fun k30 => ?_) (fun k30 => ?_)
      · have h := itt k30 h
        refine lv_iload hx hb dX6_wrongIn_50 (lv_at hl 4 rfl) ?_
        have h := Option.some.inj h
        subst h
        exact hret () dX6_wrongIn_52 rfl hw
      · have h := itf k30 h
        refine lv_aload_n hx hb dX6_wrongIn_33 rfl (lv_at hl 0 rfl) ?_
        refine lv_iload_n hx hb dX6_wrongIn_34 rfl (lv_at hl 3 rfl) ?_
        refine lv_aload_n hx hb dX6_wrongIn_35 rfl (lv_at hl 0 rfl) ?_
        refine RM_g_behindAll X hw 0 rfl kf_X6_305 dX6_wrongIn_36 ?_
        refine lv_aload_n hx hb dX6_wrongIn_39 rfl (lv_at hl 1 rfl) ?_
        refine lv_iload hx hb dX6_wrongIn_40 (lv_at hl 4 rfl) ?_
        obtain ⟨q42, h⟩ := chk h
        refine RM_l_rows X hw 0 rfl hp1 q42 dX6_wrongIn_42 ?_
        refine lv_l2i (v := (RM_rows z13.1 p1 z13.2.toNatClampNeg).toInt32) hx hb dX6_wrongIn_43 rfl ?_
        obtain ⟨r44, h44, h⟩ := bnd h
        refine g_calli0 (isC := [0]) (gn := fun _ => [wRM g ad eK eT z13.1]) (g_runV (isC := [0]) (rest := []) (As := [.int p3, .int (RM_behindAll z13.1), .int (RM_rows z13.1 p1 z13.2.toNatClampNeg).toInt32]) X hw (c_X6_mayAt l (ad := ad) (eK := eK) (eT := eT) h44) rfl kM_X6_mayAt ki_X6_mayAt ks_X6_mayAt km_X6_131 ⟨(Nat.le_of_ble_eq_true rfl), (Nat.le_of_ble_eq_true rfl)⟩ ⟨(Nat.le_of_ble_eq_true rfl), (Nat.le_of_ble_eq_true rfl)⟩ rfl rfl ⟨_, _, _, _, rfl, rfl, rfl, rfl⟩ rfl hl.1 rfl (Nat.le_of_ble_eq_true rfl) dX6_wrongIn_44) hw rfl rfl (fun _ => (Nat.le_of_ble_eq_true rfl)) (fun _ => rfl) rfl rfl (fun _ H locs hw => ?_)
        refine lv_if_ne (tgt := 53) hx hb dX6_wrongIn_47 (by decide) (fun k47 => ?_) (fun k47 => ?_)
        · have h := itt k47 h
          refine lv_aload_n hx hb dX6_wrongIn_53 rfl (lv_at hl 0 rfl) ?_
          refine lv_dup hx hb dX6_wrongIn_54 rfl ?_
          refine RM_g_behindAll X hw 0 rfl kf_X6_305 dX6_wrongIn_55 ?_
          refine lv_aload_n hx hb dX6_wrongIn_58 rfl (lv_at hl 1 rfl) ?_
          refine lv_iload hx hb dX6_wrongIn_59 (lv_at hl 4 rfl) ?_
          obtain ⟨q61, h⟩ := chk h
          refine RM_l_rows X hw 0 rfl hp1 q61 dX6_wrongIn_61 ?_
          refine lv_l2i (v := (RM_rows z13.1 p1 z13.2.toNatClampNeg).toInt32) hx hb dX6_wrongIn_62 rfl ?_
          obtain ⟨r63, h63, h⟩ := bnd h
          refine g_calli0 (isC := []) (gn := fun _ => [wRM g ad eK eT z13.1]) (g_runS (isC := []) (rest := [.int (RM_behindAll z13.1), .ref (ad 0)]) (As := [.int (RM_rows z13.1 p1 z13.2.toNatClampNeg).toInt32]) X hw (c_X6_mask l h63) rfl kM_X6_mask kt_X6_mask km_X6_212 ⟨(Nat.le_of_ble_eq_true rfl), (Nat.le_of_ble_eq_true rfl)⟩ ⟨(Nat.le_of_ble_eq_true rfl), (Nat.le_of_ble_eq_true rfl)⟩ rfl rfl rfl hl.1 rfl (Nat.le_of_ble_eq_true rfl) dX6_wrongIn_63) hw rfl rfl (fun _ => (Nat.le_of_ble_eq_true rfl)) (fun _ => rfl) rfl rfl (fun _ H locs hw => ?_)
          refine lv_ixor hx hb dX6_wrongIn_66 ?_
          refine RM_p_behindAll (gs' := [wRM g ad eK eT (RM_s_behindAll z13.1 ((RM_behindAll z13.1) ^^^ r63))]) X hw 0 rfl kf_X6_305 dX6_wrongIn_67 rfl (fun H locs hw => ?_)
          refine lv_iinc (v := (z13.2 + 1)) (lv' := [(4, .int (z13.2 + 1)), (0, .ref (ad 0)), (1, .ref (ad (5 + p1))), (2, .int p2), (3, .int p3)]) hx hb dX6_wrongIn_70 hl (k := 4) rfl rfl (by decide) rfl (fun ls hl => ?_)
          refine lv_goto (tgt := 13) hx hb dX6_wrongIn_73 (by decide) ?_
          exact ih13 _ h _ _ _ hw (lv_sub hl [1, 2, 3, 4, 0] rfl)
        · have h := itf (fun z => z k47) h
          refine lv_iload hx hb dX6_wrongIn_50 (lv_at hl 4 rfl) ?_
          have h := Option.some.inj h
          subst h
          exact hret () dX6_wrongIn_52 rfl hw
  unfold M_X6_wrongIn at h
  refine lv_aload_n hx hb dX6_wrongIn_0 rfl (lv_at hl 0 rfl) ?_
  refine lv_aload_n hx hb dX6_wrongIn_1 rfl (lv_at hl 0 rfl) ?_
  refine RM_g_on X hw 0 rfl kf_X6_43 dX6_wrongIn_2 ?_
  refine lv_iload_n hx hb dX6_wrongIn_5 rfl (lv_at hl 3 rfl) ?_
  obtain ⟨q6, h⟩ := chk h
  refine RM_l_on X hw 0 rfl q6 dX6_wrongIn_6 ?_
  refine RM_p_behindAll (gs' := [wRM g ad eK eT (RM_s_behindAll rm (RM_on rm p3.toNatClampNeg))]) X hw 0 rfl kf_X6_305 dX6_wrongIn_7 rfl (fun H locs hw => ?_)
  refine lv_iconst (v := 0) hx hb dX6_wrongIn_10 (by decide) ?_
  refine lv_istore (lv' := [(4, .int (0 : Int32)), (0, .ref (ad 0)), (1, .ref (ad (5 + p1))), (2, .int p2), (3, .int p3)]) hx hb dX6_wrongIn_11 hl (by decide) rfl (fun ls hl => ?_)
  exact L13 N _ h _ _ _ hw (lv_sub hl [1, 2, 3, 4, 0] rfl)
theorem kM_X6_judge : kM yX6_judge cX6_judge 5 (some FieldType.int) 3 := ⟨kc_X6_judge, kn_RingsOffModel, by decide +kernel⟩
abbrev R_X6_judge : Room := { frames := 5, cells := 0, slots := 0, locals := 116 }
set_option maxHeartbeats 4000000 in
set_option maxRecDepth 100000 in
theorem c_X6_judge (l : Launch) {ad : Nat → Nat} {eK : Option Nat} {eT : Option Nat} {N : Nat} {rm : RM} {p1 : Int32} {p2 : Int32} {p3 : Int32} {out : Int32 × RM} (h : M_X6_judge N rm p1 p2 p3 = some out) : gM l yX6_judge cX6_judge 5 (some FieldType.int) R_X6_judge (fun _ => [.ref (ad 0), .int p1, .int p2, .int p3]) (fun g => [wRM g ad eK eT rm]) (gQi (fun (_ : Unit) => out.1) (fun g (_ : Unit) => [wRM g ad eK eT out.2])) := by
  refine gM.ofi (by decide +kernel) (fun _ => Nat.le_of_ble_eq_true rfl) (fun g p e s m args below meth c A ls Q X hret hw hl => ?_)
  have hx := X.1.1
  have hb := X.1.2.1
  have hl : lv_has ls 5 [(0, .ref (ad 0)), (1, .int p1), (2, .int p2), (3, .int p3)] := hl
  unfold M_X6_judge at h
  refine lv_aload_n hx hb dX6_judge_0 rfl (lv_at hl 0 rfl) ?_
  refine lv_iload_n hx hb dX6_judge_1 rfl (lv_at hl 1 rfl) ?_
  refine lv_iload_n hx hb dX6_judge_2 rfl (lv_at hl 2 rfl) ?_
  refine lv_iload_n hx hb dX6_judge_3 rfl (lv_at hl 3 rfl) ?_
  obtain ⟨r4, h4, h⟩ := bnd h
  refine g_calli0 (isC := [0]) (gn := fun _ => [wRM g ad eK eT r4.2]) (g_runV (isC := [0]) (rest := []) (As := [.int p1, .int p2, .int p3]) X hw (c_X6_noMoves l (ad := ad) (eK := eK) (eT := eT) h4) rfl kM_X6_noMoves ki_X6_noMoves ks_X6_noMoves km_X6_308 ⟨(Nat.le_of_ble_eq_true rfl), (Nat.le_of_ble_eq_true rfl)⟩ ⟨(Nat.le_of_ble_eq_true rfl), (Nat.le_of_ble_eq_true rfl)⟩ rfl rfl ⟨_, _, _, _, rfl, rfl, rfl, rfl⟩ rfl hl.1 rfl (Nat.le_of_ble_eq_true rfl) dX6_judge_4) hw rfl rfl (fun _ => (Nat.le_of_ble_eq_true rfl)) (fun _ => rfl) rfl rfl (fun _ H locs hw => ?_)
  refine lv_istore (lv' := [(4, .int r4.1), (0, .ref (ad 0)), (1, .int p1), (2, .int p2), (3, .int p3)]) hx hb dX6_judge_7 hl (by decide) rfl (fun ls hl => ?_)
  refine lv_iload hx hb dX6_judge_9 (lv_at hl 0 rfl) ?_
  refine lv_if_eq (tgt := 19) hx hb dX6_judge_11 (by decide) (fun k11 => ?_) (fun k11 => ?_)
  · have h := itt k11 h
    refine lv_aload_n hx hb dX6_judge_19 rfl (lv_at hl 1 rfl) ?_
    refine lv_aload_n hx hb dX6_judge_20 rfl (lv_at hl 1 rfl) ?_
    refine RM_g_rows X hw 0 rfl kf_X6_21 dX6_judge_21 ?_
    refine lv_iload_n hx hb dX6_judge_24 rfl (lv_at hl 2 rfl) ?_
    obtain ⟨q25, h⟩ := chk h
    have o25 := Nat.not_le.mp (fun z => q25 (Or.inr z))
    refine RM_q_rows X hw 0 rfl q25 dX6_judge_25 ?_
    refine lv_iload_n hx hb dX6_judge_26 rfl (lv_at hl 3 rfl) ?_
    refine lv_iload_n hx hb dX6_judge_27 rfl (lv_at hl 4 rfl) ?_
    obtain ⟨r28, h28, h⟩ := bnd h
    refine g_calli0 (isC := [0]) (gn := fun _ => [wRM g ad eK eT r28.2]) (g_runV (isC := [0]) (rest := []) (As := [.ref (ad (5 + p1.toNatClampNeg)), .int p2, .int p3]) X hw (c_X6_wrongIn l (ad := ad) (eK := eK) (eT := eT) h28 o25) rfl kM_X6_wrongIn ki_X6_wrongIn ks_X6_wrongIn km_X6_311 ⟨(Nat.le_of_ble_eq_true rfl), (Nat.le_of_ble_eq_true rfl)⟩ ⟨(Nat.le_of_ble_eq_true rfl), (Nat.le_of_ble_eq_true rfl)⟩ rfl rfl ⟨_, _, _, _, rfl, rfl, rfl, rfl⟩ rfl hl.1 rfl (Nat.le_of_ble_eq_true rfl) dX6_judge_28) hw rfl rfl (fun _ => (Nat.le_of_ble_eq_true rfl)) (fun _ => rfl) rfl rfl (fun _ H locs hw => ?_)
    have h := Option.some.inj h
    subst h
    exact hret () dX6_judge_31 rfl hw
  · have h := itf k11 h
    refine lv_iload hx hb dX6_judge_14 (lv_at hl 0 rfl) ?_
    refine lv_goto (tgt := 31) hx hb dX6_judge_16 (by decide) ?_
    have h := Option.some.inj h
    subst h
    exact hret () dX6_judge_31 rfl hw
theorem kM_X6_behind : kM yX6_behind cX6_behind 5 (some FieldType.int) 3 := ⟨kc_X6_behind, kn_RingsOffModel, by decide +kernel⟩
abbrev R_X6_behind : Room := { frames := 5, cells := 0, slots := 0, locals := 116 }
set_option maxHeartbeats 4000000 in
set_option maxRecDepth 100000 in
theorem c_X6_behind (l : Launch) {ad : Nat → Nat} {eK : Option Nat} {eT : Option Nat} {N : Nat} {rm : RM} {p1 : Int32} {p2 : Int32} {p3 : Int32} {out : Int32 × RM} (h : M_X6_behind N rm p1 p2 p3 = some out) : gM l yX6_behind cX6_behind 5 (some FieldType.int) R_X6_behind (fun _ => [.ref (ad 0), .int p1, .int p2, .int p3]) (fun g => [wRM g ad eK eT rm]) (gQi (fun (_ : Unit) => out.1) (fun g (_ : Unit) => [wRM g ad eK eT out.2])) := by
  refine gM.ofi (by decide +kernel) (fun _ => Nat.le_of_ble_eq_true rfl) (fun g p e s m args below meth c A ls Q X hret hw hl => ?_)
  have hx := X.1.1
  have hb := X.1.2.1
  have hl : lv_has ls 5 [(0, .ref (ad 0)), (1, .int p1), (2, .int p2), (3, .int p3)] := hl
  unfold M_X6_behind at h
  refine lv_aload_n hx hb dX6_behind_0 rfl (lv_at hl 0 rfl) ?_
  refine lv_iload_n hx hb dX6_behind_1 rfl (lv_at hl 1 rfl) ?_
  refine lv_iload_n hx hb dX6_behind_2 rfl (lv_at hl 2 rfl) ?_
  refine lv_iload_n hx hb dX6_behind_3 rfl (lv_at hl 3 rfl) ?_
  obtain ⟨r4, h4, h⟩ := bnd h
  refine g_calli0 (isC := [0]) (gn := fun _ => [wRM g ad eK eT r4.2]) (g_runV (isC := [0]) (rest := []) (As := [.int p1, .int p2, .int p3]) X hw (c_X6_noMoves l (ad := ad) (eK := eK) (eT := eT) h4) rfl kM_X6_noMoves ki_X6_noMoves ks_X6_noMoves km_X6_308 ⟨(Nat.le_of_ble_eq_true rfl), (Nat.le_of_ble_eq_true rfl)⟩ ⟨(Nat.le_of_ble_eq_true rfl), (Nat.le_of_ble_eq_true rfl)⟩ rfl rfl ⟨_, _, _, _, rfl, rfl, rfl, rfl⟩ rfl hl.1 rfl (Nat.le_of_ble_eq_true rfl) dX6_behind_4) hw rfl rfl (fun _ => (Nat.le_of_ble_eq_true rfl)) (fun _ => rfl) rfl rfl (fun _ H locs hw => ?_)
  refine lv_istore (lv' := [(4, .int r4.1), (0, .ref (ad 0)), (1, .int p1), (2, .int p2), (3, .int p3)]) hx hb dX6_behind_7 hl (by decide) rfl (fun ls hl => ?_)
  refine lv_iload hx hb dX6_behind_9 (lv_at hl 0 rfl) ?_
  refine lv_if_eq (tgt := 17) hx hb dX6_behind_11 (by decide) (fun k11 => ?_) (fun k11 => ?_)
  · have h := itt k11 h
    refine lv_aload_n hx hb dX6_behind_17 rfl (lv_at hl 1 rfl) ?_
    refine lv_aload_n hx hb dX6_behind_18 rfl (lv_at hl 1 rfl) ?_
    refine RM_g_rows X hw 0 rfl kf_X6_21 dX6_behind_19 ?_
    refine lv_iload_n hx hb dX6_behind_22 rfl (lv_at hl 2 rfl) ?_
    obtain ⟨q23, h⟩ := chk h
    have o23 := Nat.not_le.mp (fun z => q23 (Or.inr z))
    refine RM_q_rows X hw 0 rfl q23 dX6_behind_23 ?_
    refine lv_iload_n hx hb dX6_behind_24 rfl (lv_at hl 3 rfl) ?_
    refine lv_iload_n hx hb dX6_behind_25 rfl (lv_at hl 4 rfl) ?_
    obtain ⟨r26, h26, h⟩ := bnd h
    refine g_calli0 (isC := [0]) (gn := fun _ => [wRM g ad eK eT r26.2]) (g_runV (isC := [0]) (rest := []) (As := [.ref (ad (5 + p1.toNatClampNeg)), .int p2, .int p3]) X hw (c_X6_wrongIn l (ad := ad) (eK := eK) (eT := eT) h26 o23) rfl kM_X6_wrongIn ki_X6_wrongIn ks_X6_wrongIn km_X6_311 ⟨(Nat.le_of_ble_eq_true rfl), (Nat.le_of_ble_eq_true rfl)⟩ ⟨(Nat.le_of_ble_eq_true rfl), (Nat.le_of_ble_eq_true rfl)⟩ rfl rfl ⟨_, _, _, _, rfl, rfl, rfl, rfl⟩ rfl hl.1 rfl (Nat.le_of_ble_eq_true rfl) dX6_behind_26) hw rfl rfl (fun _ => (Nat.le_of_ble_eq_true rfl)) (fun _ => rfl) rfl rfl (fun _ H locs hw => ?_)
    refine lv_iconst (v := -1) hx hb dX6_behind_29 (by decide) ?_
    refine lv_icmp_eq (tgt := 42) hx hb dX6_behind_30 (by decide) (fun k30 => ?_) (fun k30 => ?_)
    · have h := itt k30 h
      refine lv_aload_n hx hb dX6_behind_42 rfl (lv_at hl 1 rfl) ?_
      refine RM_g_behindAll X hw 0 rfl kf_X6_305 dX6_behind_43 ?_
      have h := Option.some.inj h
      subst h
      exact hret () dX6_behind_46 rfl hw
    · have h := itf k30 h
      refine lv_aload_n hx hb dX6_behind_33 rfl (lv_at hl 1 rfl) ?_
      refine lv_bipush (v := -5) hx hb dX6_behind_34 (by decide) ?_
      obtain ⟨r36, h36, h⟩ := bnd h
      refine g_calli0 (isC := [0]) (gn := fun _ => [wRM g ad eK eT r36.2]) (g_runV (isC := [0]) (rest := []) (As := [.int (-5 : Int32)]) X hw (c_X6_refuse l (ad := ad) (eK := eK) (eT := eT) h36) rfl kM_X6_refuse ki_X6_refuse ks_X6_refuse km_X6_96 ⟨(Nat.le_of_ble_eq_true rfl), (Nat.le_of_ble_eq_true rfl)⟩ ⟨(Nat.le_of_ble_eq_true rfl), (Nat.le_of_ble_eq_true rfl)⟩ rfl rfl ⟨_, _, _, _, rfl, rfl, rfl, rfl⟩ rfl hl.1 rfl (Nat.le_of_ble_eq_true rfl) dX6_behind_36) hw rfl rfl (fun _ => (Nat.le_of_ble_eq_true rfl)) (fun _ => rfl) rfl rfl (fun _ H locs hw => ?_)
      refine lv_goto (tgt := 46) hx hb dX6_behind_39 (by decide) ?_
      have h := Option.some.inj h
      subst h
      exact hret () dX6_behind_46 rfl hw
  · have h := itf k11 h
    refine lv_iload hx hb dX6_behind_14 (lv_at hl 0 rfl) ?_
    have h := Option.some.inj h
    subst h
    exact hret () dX6_behind_16 rfl hw
theorem kM_X6_moved : kM yX6_moved cX6_moved 5 (some FieldType.int) 3 := ⟨kc_X6_moved, kn_RingsOffModel, by decide +kernel⟩
abbrev R_X6_moved : Room := { frames := 5, cells := 0, slots := 0, locals := 116 }
set_option maxHeartbeats 4000000 in
set_option maxRecDepth 100000 in
theorem c_X6_moved (l : Launch) {ad : Nat → Nat} {eK : Option Nat} {eT : Option Nat} {N : Nat} {rm : RM} {p1 : Int32} {p2 : Int32} {p3 : Int32} {out : Int32 × RM} (h : M_X6_moved N rm p1 p2 p3 = some out) : gM l yX6_moved cX6_moved 5 (some FieldType.int) R_X6_moved (fun _ => [.ref (ad 0), .int p1, .int p2, .int p3]) (fun g => [wRM g ad eK eT rm]) (gQi (fun (_ : Unit) => out.1) (fun g (_ : Unit) => [wRM g ad eK eT out.2])) := by
  refine gM.ofi (by decide +kernel) (fun _ => Nat.le_of_ble_eq_true rfl) (fun g p e s m args below meth c A ls Q X hret hw hl => ?_)
  have hx := X.1.1
  have hb := X.1.2.1
  have hl : lv_has ls 5 [(0, .ref (ad 0)), (1, .int p1), (2, .int p2), (3, .int p3)] := hl
  unfold M_X6_moved at h
  refine lv_aload_n hx hb dX6_moved_0 rfl (lv_at hl 0 rfl) ?_
  refine lv_iload_n hx hb dX6_moved_1 rfl (lv_at hl 1 rfl) ?_
  refine lv_iload_n hx hb dX6_moved_2 rfl (lv_at hl 2 rfl) ?_
  refine lv_iload_n hx hb dX6_moved_3 rfl (lv_at hl 3 rfl) ?_
  obtain ⟨r4, h4, h⟩ := bnd h
  refine g_calli0 (isC := [0]) (gn := fun _ => [wRM g ad eK eT r4.2]) (g_runV (isC := [0]) (rest := []) (As := [.int p1, .int p2, .int p3]) X hw (c_X6_noMoves l (ad := ad) (eK := eK) (eT := eT) h4) rfl kM_X6_noMoves ki_X6_noMoves ks_X6_noMoves km_X6_308 ⟨(Nat.le_of_ble_eq_true rfl), (Nat.le_of_ble_eq_true rfl)⟩ ⟨(Nat.le_of_ble_eq_true rfl), (Nat.le_of_ble_eq_true rfl)⟩ rfl rfl ⟨_, _, _, _, rfl, rfl, rfl, rfl⟩ rfl hl.1 rfl (Nat.le_of_ble_eq_true rfl) dX6_moved_4) hw rfl rfl (fun _ => (Nat.le_of_ble_eq_true rfl)) (fun _ => rfl) rfl rfl (fun _ H locs hw => ?_)
  refine lv_istore (lv' := [(4, .int r4.1), (0, .ref (ad 0)), (1, .int p1), (2, .int p2), (3, .int p3)]) hx hb dX6_moved_7 hl (by decide) rfl (fun ls hl => ?_)
  refine lv_iload hx hb dX6_moved_9 (lv_at hl 0 rfl) ?_
  refine lv_if_eq (tgt := 17) hx hb dX6_moved_11 (by decide) (fun k11 => ?_) (fun k11 => ?_)
  · have h := itt k11 h
    refine lv_aload_n hx hb dX6_moved_17 rfl (lv_at hl 1 rfl) ?_
    refine lv_aload_n hx hb dX6_moved_18 rfl (lv_at hl 1 rfl) ?_
    refine RM_g_rows X hw 0 rfl kf_X6_21 dX6_moved_19 ?_
    refine lv_iload_n hx hb dX6_moved_22 rfl (lv_at hl 2 rfl) ?_
    obtain ⟨q23, h⟩ := chk h
    have o23 := Nat.not_le.mp (fun z => q23 (Or.inr z))
    refine RM_q_rows X hw 0 rfl q23 dX6_moved_23 ?_
    refine lv_iload_n hx hb dX6_moved_24 rfl (lv_at hl 3 rfl) ?_
    refine lv_iload_n hx hb dX6_moved_25 rfl (lv_at hl 4 rfl) ?_
    obtain ⟨r26, h26, h⟩ := bnd h
    refine g_calli0 (isC := [0]) (gn := fun _ => [wRM g ad eK eT r26.2]) (g_runV (isC := [0]) (rest := []) (As := [.ref (ad (5 + p1.toNatClampNeg)), .int p2, .int p3]) X hw (c_X6_wrongIn l (ad := ad) (eK := eK) (eT := eT) h26 o23) rfl kM_X6_wrongIn ki_X6_wrongIn ks_X6_wrongIn km_X6_311 ⟨(Nat.le_of_ble_eq_true rfl), (Nat.le_of_ble_eq_true rfl)⟩ ⟨(Nat.le_of_ble_eq_true rfl), (Nat.le_of_ble_eq_true rfl)⟩ rfl rfl ⟨_, _, _, _, rfl, rfl, rfl, rfl⟩ rfl hl.1 rfl (Nat.le_of_ble_eq_true rfl) dX6_moved_26) hw rfl rfl (fun _ => (Nat.le_of_ble_eq_true rfl)) (fun _ => rfl) rfl rfl (fun _ H locs hw => ?_)
    refine lv_iconst (v := -1) hx hb dX6_moved_29 (by decide) ?_
    refine lv_icmp_eq (tgt := 40) hx hb dX6_moved_30 (by decide) (fun k30 => ?_) (fun k30 => ?_)
    · have h := itt k30 h
      refine lv_aload_n hx hb dX6_moved_40 rfl (lv_at hl 1 rfl) ?_
      refine RM_g_on X hw 0 rfl kf_X6_43 dX6_moved_41 ?_
      refine lv_iload_n hx hb dX6_moved_44 rfl (lv_at hl 4 rfl) ?_
      refine lv_aload_n hx hb dX6_moved_45 rfl (lv_at hl 1 rfl) ?_
      refine RM_g_behindAll X hw 0 rfl kf_X6_305 dX6_moved_46 ?_
      obtain ⟨q49, h⟩ := chk h
      refine RM_a_on (gs' := [wRM g ad eK eT (RM_s_on r26.2 (upd (RM_on r26.2) p3.toNatClampNeg (RM_behindAll r26.2)))]) X hw 0 rfl q49 dX6_moved_49 rfl (fun H locs hw => ?_)
      refine lv_aload_n hx hb dX6_moved_50 rfl (lv_at hl 1 rfl) ?_
      refine lv_dup hx hb dX6_moved_51 rfl ?_
      refine RM_g_movedAll X hw 0 rfl kf_X6_215 dX6_moved_52 ?_
      refine lv_iload_n hx hb dX6_moved_55 rfl (lv_at hl 3 rfl) ?_
      refine lv_iadd hx hb dX6_moved_56 ?_
      refine RM_p_movedAll (gs' := [wRM g ad eK eT (RM_s_movedAll (RM_s_on r26.2 (upd (RM_on r26.2) p3.toNatClampNeg (RM_behindAll r26.2))) ((RM_movedAll (RM_s_on r26.2 (upd (RM_on r26.2) p3.toNatClampNeg (RM_behindAll r26.2)))) + p2))]) X hw 0 rfl kf_X6_215 dX6_moved_57 rfl (fun H locs hw => ?_)
      refine lv_aload_n hx hb dX6_moved_60 rfl (lv_at hl 1 rfl) ?_
      refine RM_g_on X hw 0 rfl kf_X6_43 dX6_moved_61 ?_
      refine lv_iload_n hx hb dX6_moved_64 rfl (lv_at hl 4 rfl) ?_
      obtain ⟨q65, h⟩ := chk h
      refine RM_l_on X hw 0 rfl q65 dX6_moved_65 ?_
      have h := Option.some.inj h
      subst h
      exact hret () dX6_moved_66 rfl hw
    · have h := itf k30 h
      refine lv_aload_n hx hb dX6_moved_33 rfl (lv_at hl 1 rfl) ?_
      refine lv_bipush (v := -5) hx hb dX6_moved_34 (by decide) ?_
      obtain ⟨r36, h36, h⟩ := bnd h
      refine g_calli0 (isC := [0]) (gn := fun _ => [wRM g ad eK eT r36.2]) (g_runV (isC := [0]) (rest := []) (As := [.int (-5 : Int32)]) X hw (c_X6_refuse l (ad := ad) (eK := eK) (eT := eT) h36) rfl kM_X6_refuse ki_X6_refuse ks_X6_refuse km_X6_96 ⟨(Nat.le_of_ble_eq_true rfl), (Nat.le_of_ble_eq_true rfl)⟩ ⟨(Nat.le_of_ble_eq_true rfl), (Nat.le_of_ble_eq_true rfl)⟩ rfl rfl ⟨_, _, _, _, rfl, rfl, rfl, rfl⟩ rfl hl.1 rfl (Nat.le_of_ble_eq_true rfl) dX6_moved_36) hw rfl rfl (fun _ => (Nat.le_of_ble_eq_true rfl)) (fun _ => rfl) rfl rfl (fun _ H locs hw => ?_)
      have h := Option.some.inj h
      subst h
      exact hret () dX6_moved_39 rfl hw
  · have h := itf k11 h
    refine lv_iload hx hb dX6_moved_14 (lv_at hl 0 rfl) ?_
    have h := Option.some.inj h
    subst h
    exact hret () dX6_moved_16 rfl hw
theorem kM_X6_goes : kM yX6_goes cX6_goes 5 (some FieldType.int) 3 := ⟨kc_X6_goes, kn_RingsOffModel, by decide +kernel⟩
abbrev R_X6_goes : Room := { frames := 5, cells := 0, slots := 0, locals := 118 }
set_option maxHeartbeats 4000000 in
set_option maxRecDepth 100000 in
theorem c_X6_goes (l : Launch) {ad : Nat → Nat} {eK : Option Nat} {eT : Option Nat} {N : Nat} {rm : RM} {p1 : Int32} {p2 : Int32} {p3 : Int32} {out : Int32 × RM} (h : M_X6_goes N rm p1 p2 p3 = some out) : gM l yX6_goes cX6_goes 5 (some FieldType.int) R_X6_goes (fun _ => [.ref (ad 0), .int p1, .int p2, .int p3]) (fun g => [wRM g ad eK eT rm]) (gQi (fun (_ : Unit) => out.1) (fun g (_ : Unit) => [wRM g ad eK eT out.2])) := by
  refine gM.ofi (by decide +kernel) (fun _ => Nat.le_of_ble_eq_true rfl) (fun g p e s m args below meth c A ls Q X hret hw hl => ?_)
  have hx := X.1.1
  have hb := X.1.2.1
  have hl : lv_has ls 5 [(0, .ref (ad 0)), (1, .int p1), (2, .int p2), (3, .int p3)] := hl
  have L69 : ∀ (n : Nat) (z69 : RM × Int32), lp (M_X6_goes_l69 N p1 p2 p3) n z69 = some out → ∀ (H : Heap) (locs : List Loc) (ls : Array Slot), gW g A s.heap [wRM g ad eK eT z69.1] H locs → lv_has ls 5 [(0, .ref (ad 0)), (1, .int p1), (2, .int p2), (3, .int p3), (4, .int z69.2)] → W p l e R_X6_goes s m args below meth c H locs 0 0 Q (F0 m 69 ls []) := by
    refine lp_ind ?_
    intro rec69 ih69
    intro z69 h H locs ls hw hl
    unfold M_X6_goes_l69 at h
    refine lv_iload hx hb dX6_goes_69 (lv_at hl 4 rfl) ?_
    refine lv_iload_n hx hb dX6_goes_71 rfl (lv_at hl 3 rfl) ?_
    refine lv_icmp_ge (tgt := 107) hx hb dX6_goes_72 (by decide) (fun k72 => ?_) (fun k72 => ?_)
    · have h := itt k72 h
      refine lv_iload hx hb dX6_goes_107 (lv_at hl 4 rfl) ?_
      have h := Option.some.inj h
      subst h
      exact hret () dX6_goes_109 rfl hw
    · have h := itf k72 h
      refine lv_aload_n hx hb dX6_goes_75 rfl (lv_at hl 0 rfl) ?_
      refine RM_g_on X hw 0 rfl kf_X6_43 dX6_goes_76 ?_
      refine lv_iload_n hx hb dX6_goes_79 rfl (lv_at hl 1 rfl) ?_
      obtain ⟨q80, h⟩ := chk h
      refine RM_l_on X hw 0 rfl q80 dX6_goes_80 ?_
      refine lv_iload_n hx hb dX6_goes_81 rfl (lv_at hl 2 rfl) ?_
      refine lv_icmp_eq (tgt := 107) hx hb dX6_goes_82 (by decide) (fun k82 => ?_) (fun k82 => ?_)
      · have h := itt k82 h
        refine lv_iload hx hb dX6_goes_107 (lv_at hl 4 rfl) ?_
        have h := Option.some.inj h
        subst h
        exact hret () dX6_goes_109 rfl hw
      · have h := itf k82 h
        refine lv_aload_n hx hb dX6_goes_85 rfl (lv_at hl 0 rfl) ?_
        refine lv_iload_n hx hb dX6_goes_86 rfl (lv_at hl 1 rfl) ?_
        refine lv_aload_n hx hb dX6_goes_87 rfl (lv_at hl 0 rfl) ?_
        refine lv_iload_n hx hb dX6_goes_88 rfl (lv_at hl 1 rfl) ?_
        refine lv_aload_n hx hb dX6_goes_89 rfl (lv_at hl 0 rfl) ?_
        refine RM_g_on X hw 0 rfl kf_X6_43 dX6_goes_90 ?_
        refine lv_iload_n hx hb dX6_goes_93 rfl (lv_at hl 1 rfl) ?_
        obtain ⟨q94, h⟩ := chk h
        refine RM_l_on X hw 0 rfl q94 dX6_goes_94 ?_
        obtain ⟨r95, h95, h⟩ := bnd h
        refine g_calli0 (isC := [0]) (gn := fun _ => [wRM g ad eK eT z69.1]) (g_runV (isC := [0]) (rest := [.int p1, .ref (ad 0)]) (As := [.int p1, .int (RM_on z69.1 p1.toNatClampNeg)]) X hw (c_X6_nextMove l (ad := ad) (eK := eK) (eT := eT) h95) rfl kM_X6_nextMove ki_X6_nextMove ks_X6_nextMove km_X6_273 ⟨(Nat.le_of_ble_eq_true rfl), (Nat.le_of_ble_eq_true rfl)⟩ ⟨(Nat.le_of_ble_eq_true rfl), (Nat.le_of_ble_eq_true rfl)⟩ rfl rfl ⟨_, _, _, _, rfl, rfl, rfl, rfl⟩ rfl hl.1 rfl (Nat.le_of_ble_eq_true rfl) dX6_goes_95) hw rfl rfl (fun _ => (Nat.le_of_ble_eq_true rfl)) (fun _ => rfl) rfl rfl (fun _ H locs hw => ?_)
        obtain ⟨r98, h98, h⟩ := bnd h
        refine g_callv0 (isC := [0]) (gn := fun _ => [wRM g ad eK eT r98]) (g_runV (isC := [0]) (rest := []) (As := [.int p1, .int r95]) X hw (c_X6_makes l (ad := ad) (eK := eK) (eT := eT) h98) rfl kM_X6_makes ki_X6_makes ks_X6_makes km_X6_263 ⟨(Nat.le_of_ble_eq_true rfl), (Nat.le_of_ble_eq_true rfl)⟩ ⟨(Nat.le_of_ble_eq_true rfl), (Nat.le_of_ble_eq_true rfl)⟩ rfl rfl ⟨_, _, _, _, rfl, rfl, rfl, rfl⟩ rfl hl.1 rfl (Nat.le_of_ble_eq_true rfl) dX6_goes_98) hw rfl rfl (fun _ => (Nat.le_of_ble_eq_true rfl)) (fun _ => rfl) rfl rfl (fun _ H locs hw => ?_)
        refine lv_iinc (v := (z69.2 + 1)) (lv' := [(4, .int (z69.2 + 1)), (0, .ref (ad 0)), (1, .int p1), (2, .int p2), (3, .int p3)]) hx hb dX6_goes_101 hl (k := 4) rfl rfl (by decide) rfl (fun ls hl => ?_)
        refine lv_goto (tgt := 69) hx hb dX6_goes_104 (by decide) ?_
        exact ih69 _ h _ _ _ hw (lv_sub hl [1, 2, 3, 4, 0] rfl)
  have J30 : ∀ (z30 : RM), M_X6_goes_j30 N p1 p2 p3 z30 = some out → ∀ (H : Heap) (locs : List Loc) (ls : Array Slot), gW g A s.heap [wRM g ad eK eT z30] H locs → lv_has ls 5 [(0, .ref (ad 0))] → W p l e R_X6_goes s m args below meth c H locs 0 0 Q (F0 m 30 ls []) := by
    intro z30 h H locs ls hw hl
    unfold M_X6_goes_j30 at h
    refine lv_aload_n hx hb dX6_goes_30 rfl (lv_at hl 0 rfl) ?_
    refine lv_bipush (v := -2) hx hb dX6_goes_31 (by decide) ?_
    obtain ⟨r33, h33, h⟩ := bnd h
    refine g_calli0 (isC := [0]) (gn := fun _ => [wRM g ad eK eT r33.2]) (g_runV (isC := [0]) (rest := []) (As := [.int (-2 : Int32)]) X hw (c_X6_refuse l (ad := ad) (eK := eK) (eT := eT) h33) rfl kM_X6_refuse ki_X6_refuse ks_X6_refuse km_X6_96 ⟨(Nat.le_of_ble_eq_true rfl), (Nat.le_of_ble_eq_true rfl)⟩ ⟨(Nat.le_of_ble_eq_true rfl), (Nat.le_of_ble_eq_true rfl)⟩ rfl rfl ⟨_, _, _, _, rfl, rfl, rfl, rfl⟩ rfl hl.1 rfl (Nat.le_of_ble_eq_true rfl) dX6_goes_33) hw rfl rfl (fun _ => (Nat.le_of_ble_eq_true rfl)) (fun _ => rfl) rfl rfl (fun _ H locs hw => ?_)
    have h := Option.some.inj h
    subst h
    exact hret () dX6_goes_36 rfl hw
  unfold M_X6_goes at h
  refine lv_aload_n hx hb dX6_goes_0 rfl (lv_at hl 0 rfl) ?_
  refine lv_iload_n hx hb dX6_goes_1 rfl (lv_at hl 1 rfl) ?_
  obtain ⟨r2, h2, h⟩ := bnd h
  refine g_calli0 (isC := [0]) (gn := fun _ => [wRM g ad eK eT rm]) (g_runV (isC := [0]) (rest := []) (As := [.int p1]) X hw (c_X6_isBar l (ad := ad) (eK := eK) (eT := eT) h2) rfl kM_X6_isBar ki_X6_isBar ks_X6_isBar km_X6_106 ⟨(Nat.le_of_ble_eq_true rfl), (Nat.le_of_ble_eq_true rfl)⟩ ⟨(Nat.le_of_ble_eq_true rfl), (Nat.le_of_ble_eq_true rfl)⟩ rfl rfl ⟨_, _, _, _, rfl, rfl, rfl, rfl⟩ rfl hl.1 rfl (Nat.le_of_ble_eq_true rfl) dX6_goes_2) hw rfl rfl (fun _ => (Nat.le_of_ble_eq_true rfl)) (fun _ => rfl) rfl rfl (fun _ H locs hw => ?_)
  refine lv_if_eq (tgt := 30) hx hb dX6_goes_5 (by decide) (fun k5 => ?_) (fun k5 => ?_)
  · have h := itt k5 h
    exact J30 _ h _ _ _ hw (lv_sub hl [0] rfl)
  · have h := itf k5 h
    refine lv_aload_n hx hb dX6_goes_8 rfl (lv_at hl 0 rfl) ?_
    refine lv_iload_n hx hb dX6_goes_9 rfl (lv_at hl 1 rfl) ?_
    refine lv_iload_n hx hb dX6_goes_10 rfl (lv_at hl 2 rfl) ?_
    refine lv_i2l (v := p2.toInt64) hx hb dX6_goes_11 rfl ?_
    obtain ⟨r12, h12, h⟩ := bnd h
    refine g_calli0 (isC := [0]) (gn := fun _ => [wRM g ad eK eT rm]) (g_runV (isC := [0]) (rest := []) (As := [.int p1, .long p2.toInt64]) X hw (c_X6_isSet l (ad := ad) (eK := eK) (eT := eT) h12) rfl kM_X6_isSet ki_X6_isSet ks_X6_isSet km_X6_144 ⟨(Nat.le_of_ble_eq_true rfl), (Nat.le_of_ble_eq_true rfl)⟩ ⟨(Nat.le_of_ble_eq_true rfl), (Nat.le_of_ble_eq_true rfl)⟩ rfl rfl ⟨_, _, _, _, rfl, rfl, rfl, rfl⟩ rfl hl.1 rfl (Nat.le_of_ble_eq_true rfl) dX6_goes_12) hw rfl rfl (fun _ => (Nat.le_of_ble_eq_true rfl)) (fun _ => rfl) rfl rfl (fun _ H locs hw => ?_)
    refine lv_if_eq (tgt := 30) hx hb dX6_goes_15 (by decide) (fun k15 => ?_) (fun k15 => ?_)
    · have h := itt k15 h
      exact J30 _ h _ _ _ hw (lv_sub hl [0] rfl)
    · have h := itf k15 h
      refine lv_iload_n hx hb dX6_goes_18 rfl (lv_at hl 3 rfl) ?_
      refine lv_i2l (v := p3.toInt64) hx hb dX6_goes_19 rfl ?_
      refine lv_lconst (v := 1) hx hb dX6_goes_20 (by decide) ?_
      refine lv_ldc2 hx hb X.1.2.2.2.1 (gK1 X _ kq_X6_317) dX6_goes_21 ?_
      obtain ⟨r24, h24, h⟩ := bnd h
      refine g_calli0 (isC := []) (gn := fun _ => [wRM g ad eK eT rm]) (g_runS (isC := []) (rest := []) (As := [.long p3.toInt64, .long (1 : Int64), .long (60 : Int64)]) X hw (c_X6_in l h24) rfl kM_X6_in kt_X6_in km_X6_82 ⟨(Nat.le_of_ble_eq_true rfl), (Nat.le_of_ble_eq_true rfl)⟩ ⟨(Nat.le_of_ble_eq_true rfl), (Nat.le_of_ble_eq_true rfl)⟩ rfl rfl rfl hl.1 rfl (Nat.le_of_ble_eq_true rfl) dX6_goes_24) hw rfl rfl (fun _ => (Nat.le_of_ble_eq_true rfl)) (fun _ => rfl) rfl rfl (fun _ H locs hw => ?_)
      refine lv_if_ne (tgt := 37) hx hb dX6_goes_27 (by decide) (fun k27 => ?_) (fun k27 => ?_)
      · have h := itt k27 h
        refine lv_aload_n hx hb dX6_goes_37 rfl (lv_at hl 0 rfl) ?_
        refine lv_iload_n hx hb dX6_goes_38 rfl (lv_at hl 1 rfl) ?_
        refine lv_iload_n hx hb dX6_goes_39 rfl (lv_at hl 2 rfl) ?_
        refine lv_iconst (v := 0) hx hb dX6_goes_40 (by decide) ?_
        obtain ⟨r41, h41, h⟩ := bnd h
        refine g_callv0 (isC := [0]) (gn := fun _ => [wRM g ad eK eT r41]) (g_runV (isC := [0]) (rest := []) (As := [.int p1, .int p2, .int (0 : Int32)]) X hw (c_X6_findFar l (ad := ad) (eK := eK) (eT := eT) h41) rfl kM_X6_findFar ki_X6_findFar ks_X6_findFar km_X6_269 ⟨(Nat.le_of_ble_eq_true rfl), (Nat.le_of_ble_eq_true rfl)⟩ ⟨(Nat.le_of_ble_eq_true rfl), (Nat.le_of_ble_eq_true rfl)⟩ rfl rfl ⟨_, _, _, _, rfl, rfl, rfl, rfl⟩ rfl hl.1 rfl (Nat.le_of_ble_eq_true rfl) dX6_goes_41) hw rfl rfl (fun _ => (Nat.le_of_ble_eq_true rfl)) (fun _ => rfl) rfl rfl (fun _ H locs hw => ?_)
        refine lv_aload_n hx hb dX6_goes_44 rfl (lv_at hl 0 rfl) ?_
        refine RM_g_far X hw 0 rfl kf_X6_67 dX6_goes_45 ?_
        refine lv_aload_n hx hb dX6_goes_48 rfl (lv_at hl 0 rfl) ?_
        refine RM_g_on X hw 0 rfl kf_X6_43 dX6_goes_49 ?_
        refine lv_iload_n hx hb dX6_goes_52 rfl (lv_at hl 1 rfl) ?_
        obtain ⟨q53, h⟩ := chk h
        refine RM_l_on X hw 0 rfl q53 dX6_goes_53 ?_
        obtain ⟨q54, h⟩ := chk h
        refine RM_l_far X hw 0 rfl q54 dX6_goes_54 ?_
        refine lv_iconst (v := -1) hx hb dX6_goes_55 (by decide) ?_
        refine lv_icmp_ne (tgt := 66) hx hb dX6_goes_56 (by decide) (fun k56 => ?_) (fun k56 => ?_)
        · have h := itt k56 h
          refine lv_iconst (v := 0) hx hb dX6_goes_66 (by decide) ?_
          refine lv_istore (lv' := [(4, .int (0 : Int32)), (0, .ref (ad 0)), (1, .int p1), (2, .int p2), (3, .int p3)]) hx hb dX6_goes_67 hl (by decide) rfl (fun ls hl => ?_)
          exact L69 N _ h _ _ _ hw (lv_sub hl [1, 2, 3, 4, 0] rfl)
        · have h := itf (fun z => z k56) h
          refine lv_aload_n hx hb dX6_goes_59 rfl (lv_at hl 0 rfl) ?_
          refine lv_bipush (v := -5) hx hb dX6_goes_60 (by decide) ?_
          obtain ⟨r62, h62, h⟩ := bnd h
          refine g_calli0 (isC := [0]) (gn := fun _ => [wRM g ad eK eT r62.2]) (g_runV (isC := [0]) (rest := []) (As := [.int (-5 : Int32)]) X hw (c_X6_refuse l (ad := ad) (eK := eK) (eT := eT) h62) rfl kM_X6_refuse ki_X6_refuse ks_X6_refuse km_X6_96 ⟨(Nat.le_of_ble_eq_true rfl), (Nat.le_of_ble_eq_true rfl)⟩ ⟨(Nat.le_of_ble_eq_true rfl), (Nat.le_of_ble_eq_true rfl)⟩ rfl rfl ⟨_, _, _, _, rfl, rfl, rfl, rfl⟩ rfl hl.1 rfl (Nat.le_of_ble_eq_true rfl) dX6_goes_62) hw rfl rfl (fun _ => (Nat.le_of_ble_eq_true rfl)) (fun _ => rfl) rfl rfl (fun _ H locs hw => ?_)
          have h := Option.some.inj h
          subst h
          exact hret () dX6_goes_65 rfl hw
      · have h := itf (fun z => z k27) h
        exact J30 _ h _ _ _ hw (lv_sub hl [0] rfl)
theorem kM_X6_below : kM yX6_below cX6_below 2 (some FieldType.int) 1 := ⟨kc_X6_below, kn_RingsOffModel, by decide +kernel⟩
abbrev R_X6_below : Room := { frames := 0, cells := 0, slots := 0, locals := 0 }
set_option maxHeartbeats 4000000 in
set_option maxRecDepth 100000 in
theorem c_X6_below (l : Launch) {ad : Nat → Nat} {eK : Option Nat} {eT : Option Nat} {N : Nat} {rm : RM} {p1 : Int32} {out : Int32 × RM} (h : M_X6_below N rm p1 = some out) : gM l yX6_below cX6_below 2 (some FieldType.int) R_X6_below (fun _ => [.ref (ad 0), .int p1]) (fun g => [wRM g ad eK eT rm]) (gQi (fun (_ : Unit) => out.1) (fun g (_ : Unit) => [wRM g ad eK eT out.2])) := by
  refine gM.ofi (by decide +kernel) (fun _ => Nat.le_of_ble_eq_true rfl) (fun g p e s m args below meth c A ls Q X hret hw hl => ?_)
  have hx := X.1.1
  have hb := X.1.2.1
  have hl : lv_has ls 2 [(0, .ref (ad 0)), (1, .int p1)] := hl
  unfold M_X6_below at h
  refine lv_aload_n hx hb dX6_below_0 rfl (lv_at hl 0 rfl) ?_
  refine lv_aload_n hx hb dX6_below_1 rfl (lv_at hl 0 rfl) ?_
  refine RM_g_seed X hw 0 rfl kf_X6_60 dX6_below_2 ?_
  refine lv_ldcw hx hb X.1.2.2.2.1 (gK1 X _ kq_X6_319) dX6_below_5 ?_
  refine lv_imul hx hb dX6_below_8 ?_
  refine lv_sipush (v := 12345) hx hb dX6_below_9 (by decide) ?_
  refine lv_iadd hx hb dX6_below_12 ?_
  refine RM_p_seed (gs' := [wRM g ad eK eT (RM_s_seed rm (((RM_seed rm) * (1103515245 : Int32)) + (12345 : Int32)))]) X hw 0 rfl kf_X6_60 dX6_below_13 rfl (fun H locs hw => ?_)
  refine lv_aload_n hx hb dX6_below_16 rfl (lv_at hl 0 rfl) ?_
  refine RM_g_seed X hw 0 rfl kf_X6_60 dX6_below_17 ?_
  refine lv_bipush (v := 16) hx hb dX6_below_20 (by decide) ?_
  refine lv_iushr (v := (jushr (RM_seed (RM_s_seed rm (((RM_seed rm) * (1103515245 : Int32)) + (12345 : Int32)))) (16 : Int32))) hx hb dX6_below_22 rfl ?_
  refine lv_iload_n hx hb dX6_below_23 rfl (lv_at hl 1 rfl) ?_
  obtain ⟨q24, h⟩ := chk h
  refine lv_irem hx hb dX6_below_24 q24 ?_
  have h := Option.some.inj h
  subst h
  exact hret () dX6_below_25 rfl hw
theorem kM_X6_drop : kM yX6_drop cX6_drop 1 (some FieldType.int) 0 := ⟨kc_X6_drop, kn_RingsOffModel, by decide +kernel⟩
abbrev R_X6_drop : Room := { frames := 1, cells := 0, slots := 0, locals := 21 }
set_option maxHeartbeats 4000000 in
set_option maxRecDepth 100000 in
theorem c_X6_drop (l : Launch) {ad : Nat → Nat} {eK : Option Nat} {eT : Option Nat} {N : Nat} {rm : RM} {out : Int32 × RM} (h : M_X6_drop N rm = some out) : gM l yX6_drop cX6_drop 1 (some FieldType.int) R_X6_drop (fun _ => [.ref (ad 0)]) (fun g => [wRM g ad eK eT rm]) (gQi (fun (_ : Unit) => out.1) (fun g (_ : Unit) => [wRM g ad eK eT out.2])) := by
  refine gM.ofi (by decide +kernel) (fun _ => Nat.le_of_ble_eq_true rfl) (fun g p e s m args below meth c A ls Q X hret hw hl => ?_)
  have hx := X.1.1
  have hb := X.1.2.1
  have hl : lv_has ls 1 [(0, .ref (ad 0))] := hl
  unfold M_X6_drop at h
  refine lv_aload_n hx hb dX6_drop_0 rfl (lv_at hl 0 rfl) ?_
  refine RM_g_bars X hw 0 rfl kf_X6_79 dX6_drop_1 ?_
  refine lv_if_ne (tgt := 14) hx hb dX6_drop_4 (by decide) (fun k4 => ?_) (fun k4 => ?_)
  · have h := itt k4 h
    refine lv_aload_n hx hb dX6_drop_14 rfl (lv_at hl 0 rfl) ?_
    refine lv_dup hx hb dX6_drop_15 rfl ?_
    refine RM_g_bars X hw 0 rfl kf_X6_79 dX6_drop_16 ?_
    refine lv_iconst (v := 1) hx hb dX6_drop_19 (by decide) ?_
    refine lv_isub hx hb dX6_drop_20 ?_
    refine RM_p_bars (gs' := [wRM g ad eK eT (RM_s_bars rm ((RM_bars rm) - (1 : Int32)))]) X hw 0 rfl kf_X6_79 dX6_drop_21 rfl (fun H locs hw => ?_)
    refine lv_aload_n hx hb dX6_drop_24 rfl (lv_at hl 0 rfl) ?_
    obtain ⟨r25, h25, h⟩ := bnd h
    refine g_callv0 (isC := [0]) (gn := fun _ => [wRM g ad eK eT r25]) (g_runV (isC := [0]) (rest := []) (As := []) X hw (c_X6_shelvesFollow l (ad := ad) (eK := eK) (eT := eT) h25) rfl kM_X6_shelvesFollow ki_X6_shelvesFollow ks_X6_shelvesFollow km_X6_323 ⟨(Nat.le_of_ble_eq_true rfl), (Nat.le_of_ble_eq_true rfl)⟩ ⟨(Nat.le_of_ble_eq_true rfl), (Nat.le_of_ble_eq_true rfl)⟩ rfl rfl ⟨_, _, _, _, rfl, rfl, rfl, rfl⟩ rfl hl.1 rfl (Nat.le_of_ble_eq_true rfl) dX6_drop_25) hw rfl rfl (fun _ => (Nat.le_of_ble_eq_true rfl)) (fun _ => rfl) rfl rfl (fun _ H locs hw => ?_)
    refine lv_aload_n hx hb dX6_drop_28 rfl (lv_at hl 0 rfl) ?_
    refine RM_g_bars X hw 0 rfl kf_X6_79 dX6_drop_29 ?_
    have h := Option.some.inj h
    subst h
    exact hret () dX6_drop_32 rfl hw
  · have h := itf (fun z => z k4) h
    refine lv_aload_n hx hb dX6_drop_7 rfl (lv_at hl 0 rfl) ?_
    refine lv_bipush (v := -5) hx hb dX6_drop_8 (by decide) ?_
    obtain ⟨r10, h10, h⟩ := bnd h
    refine g_calli0 (isC := [0]) (gn := fun _ => [wRM g ad eK eT r10.2]) (g_runV (isC := [0]) (rest := []) (As := [.int (-5 : Int32)]) X hw (c_X6_refuse l (ad := ad) (eK := eK) (eT := eT) h10) rfl kM_X6_refuse ki_X6_refuse ks_X6_refuse km_X6_96 ⟨(Nat.le_of_ble_eq_true rfl), (Nat.le_of_ble_eq_true rfl)⟩ ⟨(Nat.le_of_ble_eq_true rfl), (Nat.le_of_ble_eq_true rfl)⟩ rfl rfl ⟨_, _, _, _, rfl, rfl, rfl, rfl⟩ rfl hl.1 rfl (Nat.le_of_ble_eq_true rfl) dX6_drop_10) hw rfl rfl (fun _ => (Nat.le_of_ble_eq_true rfl)) (fun _ => rfl) rfl rfl (fun _ H locs hw => ?_)
    have h := Option.some.inj h
    subst h
    exact hret () dX6_drop_13 rfl hw
theorem kM_X6_seed : kM yX6_seed cX6_seed 3 (some FieldType.int) 1 := ⟨kc_X6_seed, kn_RingsOffModel, by decide +kernel⟩
abbrev R_X6_seed : Room := { frames := 0, cells := 0, slots := 0, locals := 0 }
set_option maxHeartbeats 4000000 in
set_option maxRecDepth 100000 in
theorem c_X6_seed (l : Launch) {ad : Nat → Nat} {eK : Option Nat} {eT : Option Nat} {N : Nat} {rm : RM} {p1 : Int32} {out : Int32 × RM} (h : M_X6_seed N rm p1 = some out) : gM l yX6_seed cX6_seed 3 (some FieldType.int) R_X6_seed (fun _ => [.ref (ad 0), .int p1]) (fun g => [wRM g ad eK eT rm]) (gQi (fun (_ : Unit) => out.1) (fun g (_ : Unit) => [wRM g ad eK eT out.2])) := by
  refine gM.ofi (by decide +kernel) (fun _ => Nat.le_of_ble_eq_true rfl) (fun g p e s m args below meth c A ls Q X hret hw hl => ?_)
  have hx := X.1.1
  have hb := X.1.2.1
  have hl : lv_has ls 3 [(0, .ref (ad 0)), (1, .int p1)] := hl
  unfold M_X6_seed at h
  refine lv_aload_n hx hb dX6_seed_0 rfl (lv_at hl 0 rfl) ?_
  refine RM_g_seed X hw 0 rfl kf_X6_60 dX6_seed_1 ?_
  refine lv_istore_n (lv' := [(2, .int (RM_seed rm)), (0, .ref (ad 0)), (1, .int p1)]) hx hb dX6_seed_4 rfl hl (by decide) rfl (fun ls hl => ?_)
  refine lv_aload_n hx hb dX6_seed_5 rfl (lv_at hl 1 rfl) ?_
  refine lv_iload_n hx hb dX6_seed_6 rfl (lv_at hl 2 rfl) ?_
  refine RM_p_seed (gs' := [wRM g ad eK eT (RM_s_seed rm p1)]) X hw 0 rfl kf_X6_60 dX6_seed_7 rfl (fun H locs hw => ?_)
  refine lv_iload_n hx hb dX6_seed_10 rfl (lv_at hl 0 rfl) ?_
  have h := Option.some.inj h
  subst h
  exact hret () dX6_seed_11 rfl hw
theorem kM_X6_status : kM yX6_status cX6_status 4 (some FieldType.int) 1 := ⟨kc_X6_status, kn_RingsOffModel, by decide +kernel⟩
abbrev R_X6_status : Room := { frames := 1, cells := 0, slots := 0, locals := 25 }
set_option maxHeartbeats 4000000 in
set_option maxRecDepth 100000 in
theorem c_X6_status (l : Launch) {ad : Nat → Nat} {eK : Option Nat} {eT : Option Nat} {N : Nat} {rm : RM} {p1 : Int32} {out : Int32} (h : M_X6_status N rm p1 = some out) : gM l yX6_status cX6_status 4 (some FieldType.int) R_X6_status (fun _ => [.ref (ad 0), .int p1]) (fun g => [wRM g ad eK eT rm]) (gQi (fun (_ : Unit) => out) (fun g (_ : Unit) => [wRM g ad eK eT rm])) := by
  refine gM.ofi (by decide +kernel) (fun _ => Nat.le_of_ble_eq_true rfl) (fun g p e s m args below meth c A ls Q X hret hw hl => ?_)
  have hx := X.1.1
  have hb := X.1.2.1
  have hl : lv_has ls 4 [(0, .ref (ad 0)), (1, .int p1)] := hl
  have L155 : ∀ (n : Nat) (z155 : Int32 × Int32), lp (M_X6_status_l155 N rm p1) n z155 = some out → ∀ (H : Heap) (locs : List Loc) (ls : Array Slot), gW g A s.heap [wRM g ad eK eT rm] H locs → lv_has ls 4 [(0, .ref (ad 0)), (2, .int z155.1), (3, .int z155.2)] → W p l e R_X6_status s m args below meth c H locs 0 0 Q (F0 m 155 ls []) := by
    refine lp_ind ?_
    intro rec155 ih155
    have J176 : ∀ (z176 : Int32 × Int32 × Int32), M_X6_status_j176 N rm p1 rec155 z176 = some out → ∀ (H : Heap) (locs : List Loc) (ls : Array Slot), gW g A s.heap [wRM g ad eK eT rm] H locs → lv_has ls 4 [(0, .ref (ad 0)), (3, .int z176.1)] → W p l e R_X6_status s m args below meth c H locs 0 0 Q (F0 m 176 ls [.int z176.2.2, .int z176.2.1]) := by
      intro z176 h H locs ls hw hl
      unfold M_X6_status_j176 at h
      refine lv_iadd hx hb dX6_status_176 ?_
      refine lv_istore_n (lv' := [(2, .int (z176.2.1 + z176.2.2)), (0, .ref (ad 0)), (3, .int z176.1)]) hx hb dX6_status_177 rfl hl (by decide) rfl (fun ls hl => ?_)
      refine lv_iinc (v := (z176.1 + 1)) (lv' := [(3, .int (z176.1 + 1)), (2, .int (z176.2.1 + z176.2.2)), (0, .ref (ad 0))]) hx hb dX6_status_178 hl (k := 2) rfl rfl (by decide) rfl (fun ls hl => ?_)
      refine lv_goto (tgt := 155) hx hb dX6_status_181 (by decide) ?_
      exact ih155 _ h _ _ _ hw (lv_sub hl [2, 1, 0] rfl)
    intro z155 h H locs ls hw hl
    unfold M_X6_status_l155 at h
    refine lv_iload_n hx hb dX6_status_155 rfl (lv_at hl 2 rfl) ?_
    refine lv_bipush (v := 8) hx hb dX6_status_156 (by decide) ?_
    refine lv_icmp_ge (tgt := 184) hx hb dX6_status_158 (by decide) (fun k158 => ?_) (fun k158 => ?_)
    · have h := itt k158 h
      refine lv_iload_n hx hb dX6_status_184 rfl (lv_at hl 1 rfl) ?_
      have h := Option.some.inj h
      subst h
      exact hret () dX6_status_185 rfl hw
    · have h := itf k158 h
      refine lv_iload_n hx hb dX6_status_161 rfl (lv_at hl 1 rfl) ?_
      refine lv_aload_n hx hb dX6_status_162 rfl (lv_at hl 0 rfl) ?_
      refine RM_g_shelf X hw 0 rfl kf_X6_7 dX6_status_163 ?_
      refine lv_iload_n hx hb dX6_status_166 rfl (lv_at hl 2 rfl) ?_
      obtain ⟨q167, h⟩ := chk h
      refine RM_l_shelf X hw 0 rfl q167 dX6_status_167 ?_
      refine lv_if_eq (tgt := 175) hx hb dX6_status_168 (by decide) (fun k168 => ?_) (fun k168 => ?_)
      · have h := itt k168 h
        refine lv_iconst (v := 0) hx hb dX6_status_175 (by decide) ?_
        exact J176 _ h _ _ _ hw (lv_sub hl [0, 2] rfl)
      · have h := itf k168 h
        refine lv_iconst (v := 1) hx hb dX6_status_171 (by decide) ?_
        refine lv_goto (tgt := 176) hx hb dX6_status_172 (by decide) ?_
        exact J176 _ h _ _ _ hw (lv_sub hl [0, 2] rfl)
  have L120 : ∀ (n : Nat) (z120 : Int32 × Int32), lp (M_X6_status_l120 N rm p1) n z120 = some out → ∀ (H : Heap) (locs : List Loc) (ls : Array Slot), gW g A s.heap [wRM g ad eK eT rm] H locs → lv_has ls 4 [(0, .ref (ad 0)), (2, .int z120.1), (3, .int z120.2)] → W p l e R_X6_status s m args below meth c H locs 0 0 Q (F0 m 120 ls []) := by
    refine lp_ind ?_
    intro rec120 ih120
    intro z120 h H locs ls hw hl
    unfold M_X6_status_l120 at h
    refine lv_iload_n hx hb dX6_status_120 rfl (lv_at hl 2 rfl) ?_
    refine lv_bipush (v := 10) hx hb dX6_status_121 (by decide) ?_
    refine lv_icmp_ge (tgt := 141) hx hb dX6_status_123 (by decide) (fun k123 => ?_) (fun k123 => ?_)
    · have h := itt k123 h
      refine lv_iload_n hx hb dX6_status_141 rfl (lv_at hl 1 rfl) ?_
      have h := Option.some.inj h
      subst h
      exact hret () dX6_status_142 rfl hw
    · have h := itf k123 h
      refine lv_iload_n hx hb dX6_status_126 rfl (lv_at hl 1 rfl) ?_
      refine lv_aload_n hx hb dX6_status_127 rfl (lv_at hl 0 rfl) ?_
      refine RM_g_minutes X hw 0 rfl kf_X6_57 dX6_status_128 ?_
      refine lv_iload_n hx hb dX6_status_131 rfl (lv_at hl 2 rfl) ?_
      obtain ⟨q132, h⟩ := chk h
      refine RM_l_minutes X hw 0 rfl q132 dX6_status_132 ?_
      refine lv_iadd hx hb dX6_status_133 ?_
      refine lv_istore_n (lv' := [(2, .int (z120.1 + (RM_minutes rm z120.2.toNatClampNeg))), (0, .ref (ad 0)), (3, .int z120.2)]) hx hb dX6_status_134 rfl hl (by decide) rfl (fun ls hl => ?_)
      refine lv_iinc (v := (z120.2 + 1)) (lv' := [(3, .int (z120.2 + 1)), (2, .int (z120.1 + (RM_minutes rm z120.2.toNatClampNeg))), (0, .ref (ad 0))]) hx hb dX6_status_135 hl (k := 2) rfl rfl (by decide) rfl (fun ls hl => ?_)
      refine lv_goto (tgt := 120) hx hb dX6_status_138 (by decide) ?_
      exact ih120 _ h _ _ _ hw (lv_sub hl [2, 1, 0] rfl)
  have L85 : ∀ (n : Nat) (z85 : Int32 × Int32), lp (M_X6_status_l85 N rm p1) n z85 = some out → ∀ (H : Heap) (locs : List Loc) (ls : Array Slot), gW g A s.heap [wRM g ad eK eT rm] H locs → lv_has ls 4 [(0, .ref (ad 0)), (2, .int z85.1), (3, .int z85.2)] → W p l e R_X6_status s m args below meth c H locs 0 0 Q (F0 m 85 ls []) := by
    refine lp_ind ?_
    intro rec85 ih85
    intro z85 h H locs ls hw hl
    unfold M_X6_status_l85 at h
    refine lv_iload_n hx hb dX6_status_85 rfl (lv_at hl 2 rfl) ?_
    refine lv_aload_n hx hb dX6_status_86 rfl (lv_at hl 0 rfl) ?_
    refine RM_g_bars X hw 0 rfl kf_X6_79 dX6_status_87 ?_
    refine lv_icmp_ge (tgt := 111) hx hb dX6_status_90 (by decide) (fun k90 => ?_) (fun k90 => ?_)
    · have h := itt k90 h
      refine lv_iload_n hx hb dX6_status_111 rfl (lv_at hl 1 rfl) ?_
      have h := Option.some.inj h
      subst h
      exact hret () dX6_status_112 rfl hw
    · have h := itf k90 h
      refine lv_iload_n hx hb dX6_status_93 rfl (lv_at hl 1 rfl) ?_
      refine lv_aload_n hx hb dX6_status_94 rfl (lv_at hl 0 rfl) ?_
      refine RM_g_stuck X hw 0 rfl kf_X6_46 dX6_status_95 ?_
      refine lv_iload_n hx hb dX6_status_98 rfl (lv_at hl 2 rfl) ?_
      obtain ⟨q99, h⟩ := chk h
      refine RM_l_stuck X hw 0 rfl q99 dX6_status_99 ?_
      obtain ⟨r100, h100, h⟩ := bnd h
      refine g_calli0 (isC := []) (gn := fun _ => [wRM g ad eK eT rm]) (g_runS (isC := []) (rest := [.int z85.1]) (As := [.int (RM_stuck rm z85.2.toNatClampNeg)]) X hw (c_X6_bits l h100) rfl kM_X6_bits kt_X6_bits km_X6_116 ⟨(Nat.le_of_ble_eq_true rfl), (Nat.le_of_ble_eq_true rfl)⟩ ⟨(Nat.le_of_ble_eq_true rfl), (Nat.le_of_ble_eq_true rfl)⟩ rfl rfl rfl hl.1 rfl (Nat.le_of_ble_eq_true rfl) dX6_status_100) hw rfl rfl (fun _ => (Nat.le_of_ble_eq_true rfl)) (fun _ => rfl) rfl rfl (fun _ H locs hw => ?_)
      refine lv_iadd hx hb dX6_status_103 ?_
      refine lv_istore_n (lv' := [(2, .int (z85.1 + r100)), (0, .ref (ad 0)), (3, .int z85.2)]) hx hb dX6_status_104 rfl hl (by decide) rfl (fun ls hl => ?_)
      refine lv_iinc (v := (z85.2 + 1)) (lv' := [(3, .int (z85.2 + 1)), (2, .int (z85.1 + r100)), (0, .ref (ad 0))]) hx hb dX6_status_105 hl (k := 2) rfl rfl (by decide) rfl (fun ls hl => ?_)
      refine lv_goto (tgt := 85) hx hb dX6_status_108 (by decide) ?_
      exact ih85 _ h _ _ _ hw (lv_sub hl [2, 1, 0] rfl)
  have L55 : ∀ (n : Nat) (z55 : Int32 × Int32), lp (M_X6_status_l55 N rm p1) n z55 = some out → ∀ (H : Heap) (locs : List Loc) (ls : Array Slot), gW g A s.heap [wRM g ad eK eT rm] H locs → lv_has ls 4 [(0, .ref (ad 0)), (2, .int z55.1), (3, .int z55.2)] → W p l e R_X6_status s m args below meth c H locs 0 0 Q (F0 m 55 ls []) := by
    refine lp_ind ?_
    intro rec55 ih55
    intro z55 h H locs ls hw hl
    unfold M_X6_status_l55 at h
    refine lv_iload_n hx hb dX6_status_55 rfl (lv_at hl 2 rfl) ?_
    refine lv_aload_n hx hb dX6_status_56 rfl (lv_at hl 0 rfl) ?_
    refine RM_g_bars X hw 0 rfl kf_X6_79 dX6_status_57 ?_
    refine lv_icmp_ge (tgt := 81) hx hb dX6_status_60 (by decide) (fun k60 => ?_) (fun k60 => ?_)
    · have h := itt k60 h
      refine lv_iload_n hx hb dX6_status_81 rfl (lv_at hl 1 rfl) ?_
      have h := Option.some.inj h
      subst h
      exact hret () dX6_status_82 rfl hw
    · have h := itf k60 h
      refine lv_iload_n hx hb dX6_status_63 rfl (lv_at hl 1 rfl) ?_
      refine lv_aload_n hx hb dX6_status_64 rfl (lv_at hl 0 rfl) ?_
      refine RM_g_on X hw 0 rfl kf_X6_43 dX6_status_65 ?_
      refine lv_iload_n hx hb dX6_status_68 rfl (lv_at hl 2 rfl) ?_
      obtain ⟨q69, h⟩ := chk h
      refine RM_l_on X hw 0 rfl q69 dX6_status_69 ?_
      obtain ⟨r70, h70, h⟩ := bnd h
      refine g_calli0 (isC := []) (gn := fun _ => [wRM g ad eK eT rm]) (g_runS (isC := []) (rest := [.int z55.1]) (As := [.int (RM_on rm z55.2.toNatClampNeg)]) X hw (c_X6_bits l h70) rfl kM_X6_bits kt_X6_bits km_X6_116 ⟨(Nat.le_of_ble_eq_true rfl), (Nat.le_of_ble_eq_true rfl)⟩ ⟨(Nat.le_of_ble_eq_true rfl), (Nat.le_of_ble_eq_true rfl)⟩ rfl rfl rfl hl.1 rfl (Nat.le_of_ble_eq_true rfl) dX6_status_70) hw rfl rfl (fun _ => (Nat.le_of_ble_eq_true rfl)) (fun _ => rfl) rfl rfl (fun _ H locs hw => ?_)
      refine lv_iadd hx hb dX6_status_73 ?_
      refine lv_istore_n (lv' := [(2, .int (z55.1 + r70)), (0, .ref (ad 0)), (3, .int z55.2)]) hx hb dX6_status_74 rfl hl (by decide) rfl (fun ls hl => ?_)
      refine lv_iinc (v := (z55.2 + 1)) (lv' := [(3, .int (z55.2 + 1)), (2, .int (z55.1 + r70)), (0, .ref (ad 0))]) hx hb dX6_status_75 hl (k := 2) rfl rfl (by decide) rfl (fun ls hl => ?_)
      refine lv_goto (tgt := 55) hx hb dX6_status_78 (by decide) ?_
      exact ih55 _ h _ _ _ hw (lv_sub hl [2, 1, 0] rfl)
  unfold M_X6_status at h
  refine lv_iconst (v := 0) hx hb dX6_status_0 (by decide) ?_
  refine lv_istore_n (lv' := [(2, .int (0 : Int32)), (0, .ref (ad 0)), (1, .int p1)]) hx hb dX6_status_1 rfl hl (by decide) rfl (fun ls hl => ?_)
  refine lv_iload_n hx hb dX6_status_2 rfl (lv_at hl 2 rfl) ?_
  by_cases k3_0 : p1 = 0
  · have h := itt k3_0 h
    refine lv_tableIn (off := 45) (tgt := 48) hx hb dX6_status_3 (by rw [k3_0]; decide) (by rw [k3_0]; decide) (by rw [k3_0]; rfl) (by decide) ?_
    refine lv_aload_n hx hb dX6_status_48 rfl (lv_at hl 1 rfl) ?_
    refine RM_g_bars X hw 0 rfl kf_X6_79 dX6_status_49 ?_
    have h := Option.some.inj h
    subst h
    exact hret () dX6_status_52 rfl hw
  have h := itf k3_0 h
  by_cases k3_1 : p1 = 1
  · have h := itt k3_1 h
    refine lv_tableIn (off := 50) (tgt := 53) hx hb dX6_status_3 (by rw [k3_1]; decide) (by rw [k3_1]; decide) (by rw [k3_1]; rfl) (by decide) ?_
    refine lv_iconst (v := 0) hx hb dX6_status_53 (by decide) ?_
    refine lv_istore_n (lv' := [(3, .int (0 : Int32)), (2, .int (0 : Int32)), (0, .ref (ad 0)), (1, .int p1)]) hx hb dX6_status_54 rfl hl (by decide) rfl (fun ls hl => ?_)
    exact L55 N _ h _ _ _ hw (lv_sub hl [2, 1, 0] rfl)
  have h := itf k3_1 h
  by_cases k3_2 : p1 = 2
  · have h := itt k3_2 h
    refine lv_tableIn (off := 80) (tgt := 83) hx hb dX6_status_3 (by rw [k3_2]; decide) (by rw [k3_2]; decide) (by rw [k3_2]; rfl) (by decide) ?_
    refine lv_iconst (v := 0) hx hb dX6_status_83 (by decide) ?_
    refine lv_istore_n (lv' := [(3, .int (0 : Int32)), (2, .int (0 : Int32)), (0, .ref (ad 0)), (1, .int p1)]) hx hb dX6_status_84 rfl hl (by decide) rfl (fun ls hl => ?_)
    exact L85 N _ h _ _ _ hw (lv_sub hl [2, 1, 0] rfl)
  have h := itf k3_2 h
  by_cases k3_3 : p1 = 3
  · have h := itt k3_3 h
    refine lv_tableIn (off := 110) (tgt := 113) hx hb dX6_status_3 (by rw [k3_3]; decide) (by rw [k3_3]; decide) (by rw [k3_3]; rfl) (by decide) ?_
    refine lv_aload_n hx hb dX6_status_113 rfl (lv_at hl 1 rfl) ?_
    refine RM_g_movedAll X hw 0 rfl kf_X6_215 dX6_status_114 ?_
    have h := Option.some.inj h
    subst h
    exact hret () dX6_status_117 rfl hw
  have h := itf k3_3 h
  by_cases k3_4 : p1 = 4
  · have h := itt k3_4 h
    refine lv_tableIn (off := 115) (tgt := 118) hx hb dX6_status_3 (by rw [k3_4]; decide) (by rw [k3_4]; decide) (by rw [k3_4]; rfl) (by decide) ?_
    refine lv_iconst (v := 0) hx hb dX6_status_118 (by decide) ?_
    refine lv_istore_n (lv' := [(3, .int (0 : Int32)), (2, .int (0 : Int32)), (0, .ref (ad 0)), (1, .int p1)]) hx hb dX6_status_119 rfl hl (by decide) rfl (fun ls hl => ?_)
    exact L120 N _ h _ _ _ hw (lv_sub hl [2, 1, 0] rfl)
  have h := itf k3_4 h
  by_cases k3_5 : p1 = 5
  · have h := itt k3_5 h
    refine lv_tableIn (off := 140) (tgt := 143) hx hb dX6_status_3 (by rw [k3_5]; decide) (by rw [k3_5]; decide) (by rw [k3_5]; rfl) (by decide) ?_
    refine lv_aload_n hx hb dX6_status_143 rfl (lv_at hl 1 rfl) ?_
    refine RM_g_tapeSize X hw 0 rfl kf_X6_157 dX6_status_144 ?_
    have h := Option.some.inj h
    subst h
    exact hret () dX6_status_147 rfl hw
  have h := itf k3_5 h
  by_cases k3_6 : p1 = 6
  · have h := itt k3_6 h
    refine lv_tableIn (off := 145) (tgt := 148) hx hb dX6_status_3 (by rw [k3_6]; decide) (by rw [k3_6]; decide) (by rw [k3_6]; rfl) (by decide) ?_
    refine lv_aload_n hx hb dX6_status_148 rfl (lv_at hl 1 rfl) ?_
    refine RM_g_seed X hw 0 rfl kf_X6_60 dX6_status_149 ?_
    have h := Option.some.inj h
    subst h
    exact hret () dX6_status_152 rfl hw
  have h := itf k3_6 h
  by_cases k3_7 : p1 = 7
  · have h := itt k3_7 h
    refine lv_tableIn (off := 150) (tgt := 153) hx hb dX6_status_3 (by rw [k3_7]; decide) (by rw [k3_7]; decide) (by rw [k3_7]; rfl) (by decide) ?_
    refine lv_iconst (v := 0) hx hb dX6_status_153 (by decide) ?_
    refine lv_istore_n (lv' := [(3, .int (0 : Int32)), (2, .int (0 : Int32)), (0, .ref (ad 0)), (1, .int p1)]) hx hb dX6_status_154 rfl hl (by decide) rfl (fun ls hl => ?_)
    exact L155 N _ h _ _ _ hw (lv_sub hl [2, 1, 0] rfl)
  have h := itf k3_7 h
  refine lv_tableOut (tgt := 186) hx hb dX6_status_3 (g_out (lo := 0) (hi := 7) p1 (fun q h1 h2 => ?_)) (by decide) ?_
  · rcases (show q = 0 ∨ q = 1 ∨ q = 2 ∨ q = 3 ∨ q = 4 ∨ q = 5 ∨ q = 6 ∨ q = 7 by omega) with rfl | rfl | rfl | rfl | rfl | rfl | rfl | rfl        
    · exact fun e => k3_0 (Int32.toInt_inj.mp (e.trans rfl))
    · exact fun e => k3_1 (Int32.toInt_inj.mp (e.trans rfl))
    · exact fun e => k3_2 (Int32.toInt_inj.mp (e.trans rfl))
    · exact fun e => k3_3 (Int32.toInt_inj.mp (e.trans rfl))
    · exact fun e => k3_4 (Int32.toInt_inj.mp (e.trans rfl))
    · exact fun e => k3_5 (Int32.toInt_inj.mp (e.trans rfl))
    · exact fun e => k3_6 (Int32.toInt_inj.mp (e.trans rfl))
    · exact fun e => k3_7 (Int32.toInt_inj.mp (e.trans rfl))
  refine lv_iload_n hx hb dX6_status_186 rfl (lv_at hl 2 rfl) ?_
  refine lv_i2l (v := p1.toInt64) hx hb dX6_status_187 rfl ?_
  refine lv_ldc2 hx hb X.1.2.2.2.1 (gK1 X _ kq_X6_333) dX6_status_188 ?_
  refine lv_ldc2 hx hb X.1.2.2.2.1 (gK1 X _ kq_X6_335) dX6_status_191 ?_
  obtain ⟨r194, h194, h⟩ := bnd h
  refine g_calli0 (isC := []) (gn := fun _ => [wRM g ad eK eT rm]) (g_runS (isC := []) (rest := []) (As := [.long p1.toInt64, .long (12 : Int64), .long (16 : Int64)]) X hw (c_X6_in l h194) rfl kM_X6_in kt_X6_in km_X6_82 ⟨(Nat.le_of_ble_eq_true rfl), (Nat.le_of_ble_eq_true rfl)⟩ ⟨(Nat.le_of_ble_eq_true rfl), (Nat.le_of_ble_eq_true rfl)⟩ rfl rfl rfl hl.1 rfl (Nat.le_of_ble_eq_true rfl) dX6_status_194) hw rfl rfl (fun _ => (Nat.le_of_ble_eq_true rfl)) (fun _ => rfl) rfl rfl (fun _ H locs hw => ?_)
  refine lv_if_eq (tgt := 212) hx hb dX6_status_197 (by decide) (fun k197 => ?_) (fun k197 => ?_)
  · have h := itt k197 h
    refine lv_iconst (v := -1) hx hb dX6_status_212 (by decide) ?_
    have h := Option.some.inj h
    subst h
    exact hret () dX6_status_213 rfl hw
  · have h := itf k197 h
    refine lv_aload_n hx hb dX6_status_200 rfl (lv_at hl 1 rfl) ?_
    refine RM_g_refused X hw 0 rfl kf_X6_34 dX6_status_201 ?_
    refine lv_iload_n hx hb dX6_status_204 rfl (lv_at hl 2 rfl) ?_
    refine lv_bipush (v := 10) hx hb dX6_status_205 (by decide) ?_
    refine lv_isub hx hb dX6_status_207 ?_
    obtain ⟨q208, h⟩ := chk h
    refine RM_l_refused X hw 0 rfl q208 dX6_status_208 ?_
    refine lv_goto (tgt := 213) hx hb dX6_status_209 (by decide) ?_
    have h := Option.some.inj h
    subst h
    exact hret () dX6_status_213 rfl hw
theorem kM_X6_moveTold : kM yX6_moveTold cX6_moveTold 2 (some FieldType.boolean) 0 := ⟨kc_X6_moveTold, kn_RingsOffModel, by decide +kernel⟩
abbrev R_X6_moveTold : Room := { frames := 4, cells := 0, slots := 0, locals := 92 }
set_option maxHeartbeats 4000000 in
set_option maxRecDepth 100000 in
theorem c_X6_moveTold (l : Launch) {ad : Nat → Nat} {eK : Option Nat} {eT : Option Nat} {N : Nat} {rm : RM} {out : Int32 × RM} (h : M_X6_moveTold N rm = some out) : gM l yX6_moveTold cX6_moveTold 2 (some FieldType.boolean) R_X6_moveTold (fun _ => [.ref (ad 0)]) (fun g => [wRM g ad eK eT rm]) (gQi (fun (_ : Unit) => out.1) (fun g (_ : Unit) => [wRM g ad eK eT out.2])) := by
  refine gM.ofz (by decide +kernel) (fun _ => Nat.le_of_ble_eq_true rfl) (fun g p e s m args below meth c A ls Q X hret hw hl => ?_)
  have hx := X.1.1
  have hb := X.1.2.1
  have hl : lv_has ls 2 [(0, .ref (ad 0))] := hl
  have J64 : ∀ (z64 : RM), M_X6_moveTold_j64 N z64 = some out → ∀ (H : Heap) (locs : List Loc) (ls : Array Slot), gW g A s.heap [wRM g ad eK eT z64] H locs → lv_has ls 2 [(0, .ref (ad 0))] → W p l e R_X6_moveTold s m args below meth c H locs 0 0 Q (F0 m 64 ls []) := by
    intro z64 h H locs ls hw hl
    unfold M_X6_moveTold_j64 at h
    refine lv_aload_n hx hb dX6_moveTold_64 rfl (lv_at hl 0 rfl) ?_
    obtain ⟨r65, h65, h⟩ := bnd h
    refine g_calli0 (isC := [0]) (gn := fun _ => [wRM g ad eK eT r65.2]) (g_runV (isC := [0]) (rest := []) (As := []) X hw (c_X6_wrong l (ad := ad) (eK := eK) (eT := eT) h65) rfl kM_X6_wrong ki_X6_wrong ks_X6_wrong km_X6_192 ⟨(Nat.le_of_ble_eq_true rfl), (Nat.le_of_ble_eq_true rfl)⟩ ⟨(Nat.le_of_ble_eq_true rfl), (Nat.le_of_ble_eq_true rfl)⟩ rfl rfl ⟨_, _, _, _, rfl, rfl, rfl, rfl⟩ rfl hl.1 rfl (Nat.le_of_ble_eq_true rfl) dX6_moveTold_65) hw rfl rfl (fun _ => (Nat.le_of_ble_eq_true rfl)) (fun _ => rfl) rfl rfl (fun _ H locs hw => ?_)
    obtain ⟨q68, h⟩ := chk h
    have h := Option.some.inj h
    subst h
    exact hret () dX6_moveTold_68 (Decidable.not_not.mp q68) rfl hw
  unfold M_X6_moveTold at h
  refine lv_aload_n hx hb dX6_moveTold_0 rfl (lv_at hl 0 rfl) ?_
  refine lv_iconst (v := 0) hx hb dX6_moveTold_1 (by decide) ?_
  refine lv_aload_n hx hb dX6_moveTold_2 rfl (lv_at hl 0 rfl) ?_
  refine RM_g_bars X hw 0 rfl kf_X6_79 dX6_moveTold_3 ?_
  refine lv_iconst (v := 1) hx hb dX6_moveTold_6 (by decide) ?_
  refine lv_isub hx hb dX6_moveTold_7 ?_
  obtain ⟨r8, h8, h⟩ := bnd h
  refine g_calli0 (isC := [0]) (gn := fun _ => [wRM g ad eK eT r8.2]) (g_runV (isC := [0]) (rest := []) (As := [.int (0 : Int32), .int ((RM_bars rm) - (1 : Int32))]) X hw (c_X6_tells l (ad := ad) (eK := eK) (eT := eT) h8) rfl kM_X6_tells ki_X6_tells ks_X6_tells km_X6_202 ⟨(Nat.le_of_ble_eq_true rfl), (Nat.le_of_ble_eq_true rfl)⟩ ⟨(Nat.le_of_ble_eq_true rfl), (Nat.le_of_ble_eq_true rfl)⟩ rfl rfl ⟨_, _, _, _, rfl, rfl, rfl, rfl⟩ rfl hl.1 rfl (Nat.le_of_ble_eq_true rfl) dX6_moveTold_8) hw rfl rfl (fun _ => (Nat.le_of_ble_eq_true rfl)) (fun _ => rfl) rfl rfl (fun _ H locs hw => ?_)
  refine lv_if_ne (tgt := 16) hx hb dX6_moveTold_11 (by decide) (fun k11 => ?_) (fun k11 => ?_)
  · have h := itt k11 h
    refine lv_aload_n hx hb dX6_moveTold_16 rfl (lv_at hl 0 rfl) ?_
    refine RM_g_told X hw 0 rfl kf_X6_64 dX6_moveTold_17 ?_
    refine lv_iconst (v := 0) hx hb dX6_moveTold_20 (by decide) ?_
    obtain ⟨q21, h⟩ := chk h
    refine RM_l_told X hw 0 rfl q21 dX6_moveTold_21 ?_
    refine lv_istore_n (lv' := [(1, .int (RM_told r8.2 (0 : Int32).toNatClampNeg)), (0, .ref (ad 0))]) hx hb dX6_moveTold_22 rfl hl (by decide) rfl (fun ls hl => ?_)
    refine lv_aload_n hx hb dX6_moveTold_23 rfl (lv_at hl 1 rfl) ?_
    refine RM_g_token X hw 0 rfl kf_X6_169 dX6_moveTold_24 ?_
    refine lv_iconst (v := 2) hx hb dX6_moveTold_27 (by decide) ?_
    refine lv_icmp_ne (tgt := 64) hx hb dX6_moveTold_28 (by decide) (fun k28 => ?_) (fun k28 => ?_)
    · have h := itt k28 h
      exact J64 _ h _ _ _ hw (lv_sub hl [1] rfl)
    · have h := itf (fun z => z k28) h
      refine lv_aload_n hx hb dX6_moveTold_31 rfl (lv_at hl 1 rfl) ?_
      refine RM_g_figures X hw 0 rfl kf_X6_166 dX6_moveTold_32 ?_
      refine lv_i2l (v := (RM_figures r8.2).toInt64) hx hb dX6_moveTold_35 rfl ?_
      refine lv_lconst (v := 0) hx hb dX6_moveTold_36 (by decide) ?_
      refine lv_ldc2 hx hb X.1.2.2.2.1 (gK1 X _ kq_X6_210) dX6_moveTold_37 ?_
      obtain ⟨r40, h40, h⟩ := bnd h
      refine g_calli0 (isC := []) (gn := fun _ => [wRM g ad eK eT r8.2]) (g_runS (isC := []) (rest := []) (As := [.long (RM_figures r8.2).toInt64, .long (0 : Int64), .long (20 : Int64)]) X hw (c_X6_in l h40) rfl kM_X6_in kt_X6_in km_X6_82 ⟨(Nat.le_of_ble_eq_true rfl), (Nat.le_of_ble_eq_true rfl)⟩ ⟨(Nat.le_of_ble_eq_true rfl), (Nat.le_of_ble_eq_true rfl)⟩ rfl rfl rfl hl.1 rfl (Nat.le_of_ble_eq_true rfl) dX6_moveTold_40) hw rfl rfl (fun _ => (Nat.le_of_ble_eq_true rfl)) (fun _ => rfl) rfl rfl (fun _ H locs hw => ?_)
      refine lv_if_eq (tgt := 64) hx hb dX6_moveTold_43 (by decide) (fun k43 => ?_) (fun k43 => ?_)
      · have h := itt k43 h
        exact J64 _ h _ _ _ hw (lv_sub hl [1] rfl)
      · have h := itf k43 h
        refine lv_aload_n hx hb dX6_moveTold_46 rfl (lv_at hl 1 rfl) ?_
        refine lv_iload_n hx hb dX6_moveTold_47 rfl (lv_at hl 0 rfl) ?_
        refine lv_aload_n hx hb dX6_moveTold_48 rfl (lv_at hl 1 rfl) ?_
        refine RM_g_on X hw 0 rfl kf_X6_43 dX6_moveTold_49 ?_
        refine lv_iload_n hx hb dX6_moveTold_52 rfl (lv_at hl 0 rfl) ?_
        obtain ⟨q53, h⟩ := chk h
        refine RM_l_on X hw 0 rfl q53 dX6_moveTold_53 ?_
        refine lv_aload_n hx hb dX6_moveTold_54 rfl (lv_at hl 1 rfl) ?_
        refine RM_g_figures X hw 0 rfl kf_X6_166 dX6_moveTold_55 ?_
        obtain ⟨r58, h58, h⟩ := bnd h
        refine g_calli0 (isC := [0]) (gn := fun _ => [wRM g ad eK eT r8.2]) (g_runV (isC := [0]) (rest := []) (As := [.int (RM_told r8.2 (0 : Int32).toNatClampNeg), .int (RM_on r8.2 (RM_told r8.2 (0 : Int32).toNatClampNeg).toNatClampNeg), .int (RM_figures r8.2)]) X hw (c_X6_mayAt l (ad := ad) (eK := eK) (eT := eT) h58) rfl kM_X6_mayAt ki_X6_mayAt ks_X6_mayAt km_X6_131 ⟨(Nat.le_of_ble_eq_true rfl), (Nat.le_of_ble_eq_true rfl)⟩ ⟨(Nat.le_of_ble_eq_true rfl), (Nat.le_of_ble_eq_true rfl)⟩ rfl rfl ⟨_, _, _, _, rfl, rfl, rfl, rfl⟩ rfl hl.1 rfl (Nat.le_of_ble_eq_true rfl) dX6_moveTold_58) hw rfl rfl (fun _ => (Nat.le_of_ble_eq_true rfl)) (fun _ => rfl) rfl rfl (fun _ H locs hw => ?_)
        refine lv_if_ne (tgt := 69) hx hb dX6_moveTold_61 (by decide) (fun k61 => ?_) (fun k61 => ?_)
        · have h := itt k61 h
          refine lv_aload_n hx hb dX6_moveTold_69 rfl (lv_at hl 1 rfl) ?_
          refine RM_g_on X hw 0 rfl kf_X6_43 dX6_moveTold_70 ?_
          refine lv_iload_n hx hb dX6_moveTold_73 rfl (lv_at hl 0 rfl) ?_
          refine lv_dup2_11 hx hb dX6_moveTold_74 rfl rfl ?_
          obtain ⟨q75, h⟩ := chk h
          refine RM_l_on X hw 0 rfl q75 dX6_moveTold_75 ?_
          refine lv_aload_n hx hb dX6_moveTold_76 rfl (lv_at hl 1 rfl) ?_
          refine RM_g_figures X hw 0 rfl kf_X6_166 dX6_moveTold_77 ?_
          obtain ⟨r80, h80, h⟩ := bnd h
          refine g_calli0 (isC := []) (gn := fun _ => [wRM g ad eK eT r8.2]) (g_runS (isC := []) (rest := [.int (RM_on r8.2 (RM_told r8.2 (0 : Int32).toNatClampNeg).toNatClampNeg), .int (RM_told r8.2 (0 : Int32).toNatClampNeg), .ref (ad 19)]) (As := [.int (RM_figures r8.2)]) X hw (c_X6_mask l h80) rfl kM_X6_mask kt_X6_mask km_X6_212 ⟨(Nat.le_of_ble_eq_true rfl), (Nat.le_of_ble_eq_true rfl)⟩ ⟨(Nat.le_of_ble_eq_true rfl), (Nat.le_of_ble_eq_true rfl)⟩ rfl rfl rfl hl.1 rfl (Nat.le_of_ble_eq_true rfl) dX6_moveTold_80) hw rfl rfl (fun _ => (Nat.le_of_ble_eq_true rfl)) (fun _ => rfl) rfl rfl (fun _ H locs hw => ?_)
          refine lv_ixor hx hb dX6_moveTold_83 ?_
          obtain ⟨q84, h⟩ := chk h
          refine RM_a_on (gs' := [wRM g ad eK eT (RM_s_on r8.2 (upd (RM_on r8.2) (RM_told r8.2 (0 : Int32).toNatClampNeg).toNatClampNeg ((RM_on r8.2 (RM_told r8.2 (0 : Int32).toNatClampNeg).toNatClampNeg) ^^^ r80)))]) X hw 0 rfl q84 dX6_moveTold_84 rfl (fun H locs hw => ?_)
          refine lv_aload_n hx hb dX6_moveTold_85 rfl (lv_at hl 1 rfl) ?_
          refine lv_dup hx hb dX6_moveTold_86 rfl ?_
          refine RM_g_movedAll X hw 0 rfl kf_X6_215 dX6_moveTold_87 ?_
          refine lv_iconst (v := 1) hx hb dX6_moveTold_90 (by decide) ?_
          refine lv_iadd hx hb dX6_moveTold_91 ?_
          refine RM_p_movedAll (gs' := [wRM g ad eK eT (RM_s_movedAll (RM_s_on r8.2 (upd (RM_on r8.2) (RM_told r8.2 (0 : Int32).toNatClampNeg).toNatClampNeg ((RM_on r8.2 (RM_told r8.2 (0 : Int32).toNatClampNeg).toNatClampNeg) ^^^ r80))) ((RM_movedAll (RM_s_on r8.2 (upd (RM_on r8.2) (RM_told r8.2 (0 : Int32).toNatClampNeg).toNatClampNeg ((RM_on r8.2 (RM_told r8.2 (0 : Int32).toNatClampNeg).toNatClampNeg) ^^^ r80)))) + (1 : Int32)))]) X hw 0 rfl kf_X6_215 dX6_moveTold_92 rfl (fun H locs hw => ?_)
          refine lv_aload_n hx hb dX6_moveTold_95 rfl (lv_at hl 1 rfl) ?_
          obtain ⟨r96, h96, h⟩ := bnd h
          refine g_callv0 (isC := [0]) (gn := fun _ => [wRM g ad eK eT r96]) (g_runV (isC := [0]) (rest := []) (As := []) X hw (c_X6_look l (ad := ad) (eK := eK) (eT := eT) h96) rfl kM_X6_look ki_X6_look ks_X6_look km_X6_196 ⟨(Nat.le_of_ble_eq_true rfl), (Nat.le_of_ble_eq_true rfl)⟩ ⟨(Nat.le_of_ble_eq_true rfl), (Nat.le_of_ble_eq_true rfl)⟩ rfl rfl ⟨_, _, _, _, rfl, rfl, rfl, rfl⟩ rfl hl.1 rfl (Nat.le_of_ble_eq_true rfl) dX6_moveTold_96) hw rfl rfl (fun _ => (Nat.le_of_ble_eq_true rfl)) (fun _ => rfl) rfl rfl (fun _ H locs hw => ?_)
          refine lv_iconst (v := 1) hx hb dX6_moveTold_99 (by decide) ?_
          have h := Option.some.inj h
          subst h
          exact hret () dX6_moveTold_100 (by decide) rfl hw
        · have h := itf (fun z => z k61) h
          exact J64 _ h _ _ _ hw (lv_sub hl [1] rfl)
  · have h := itf (fun z => z k11) h
    refine lv_iconst (v := 0) hx hb dX6_moveTold_14 (by decide) ?_
    have h := Option.some.inj h
    subst h
    exact hret () dX6_moveTold_15 (by decide) rfl hw
