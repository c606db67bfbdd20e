theorem kM_X1_takePlain : kM yX1_takePlain cX1_takePlain 3 (none : Option Jvm.ClassFile.FieldType) 2 := ⟨kc_X1_takePlain, kn_RingsOff_Law, by decide +kernel⟩
abbrev R_X1_takePlain : Room := { frames := 0, cells := 0, slots := 0, locals := 0 }
set_option maxHeartbeats 4000000 in
set_option maxRecDepth 100000 in
theorem c_X1_takePlain (l : Launch) {ad : Nat → Nat} {N : Nat} {lw : LW} {p1 : Int32} {p2 : Int32} {out : LW} (h : M_X1_takePlain N lw p1 p2 = some out) : gM l yX1_takePlain cX1_takePlain 3 (none : Option Jvm.ClassFile.FieldType) R_X1_takePlain (fun _ => [.ref (ad 0), .int p1, .int p2]) (fun g => [wLW g ad lw]) (gQv (fun g (_ : Unit) => [wLW g ad out])) := by
  refine gM.ofv (by decide +kernel) (fun _ => Nat.le_of_ble_eq_true rfl) (fun g p e s m args below meth c A ls Q X hret hw hl => ?_)
  have hx := X.1.1
  have hb := X.1.2.1
  have hl : lv_has ls 3 [(0, .ref (ad 0)), (1, .int p1), (2, .int p2)] := hl
  unfold M_X1_takePlain at h
  refine lv_aload_n hx hb dX1_takePlain_0 rfl (lv_at hl 0 rfl) ?_
  refine lv_iload_n hx hb dX1_takePlain_1 rfl (lv_at hl 1 rfl) ?_
  refine LW_p_kind (gs' := [wLW g ad (LW_s_kind lw p1)]) X hw 0 rfl kf_X1_9 dX1_takePlain_2 rfl (fun H locs hw => ?_)
  refine lv_aload_n hx hb dX1_takePlain_5 rfl (lv_at hl 0 rfl) ?_
  refine lv_iload_n hx hb dX1_takePlain_6 rfl (lv_at hl 2 rfl) ?_
  refine LW_p_size (gs' := [wLW g ad (LW_s_size (LW_s_kind lw p1) p2)]) X hw 0 rfl kf_X1_15 dX1_takePlain_7 rfl (fun H locs hw => ?_)
  refine lv_aload_n hx hb dX1_takePlain_10 rfl (lv_at hl 0 rfl) ?_
  refine lv_iconst (v := 0) hx hb dX1_takePlain_11 (by decide) ?_
  refine LW_p_stuck (gs' := [wLW g ad (LW_s_stuck (LW_s_size (LW_s_kind lw p1) p2) (0 : Int32))]) X hw 0 rfl kf_X1_18 dX1_takePlain_12 rfl (fun H locs hw => ?_)
  have h := Option.some.inj h
  subst h
  exact hret () dX1_takePlain_15 hw
theorem kM_X1_chainRings : kM yX1_chainRings cX1_chainRings 1 (some FieldType.int) 1 := ⟨kc_X1_chainRings, kn_RingsOff_Law, by decide +kernel⟩
abbrev R_X1_chainRings : Room := { frames := 0, cells := 0, slots := 0, locals := 0 }
set_option maxHeartbeats 4000000 in
set_option maxRecDepth 100000 in
theorem c_X1_chainRings (l : Launch) {N : Nat} {p1 : Int32} {out : Int32} (h : M_X1_chainRings N p1 = some out) : gM l yX1_chainRings cX1_chainRings 1 (some FieldType.int) R_X1_chainRings (fun _ => [.int p1]) (fun g => []) (gQi (fun (_ : Unit) => out) (fun g (_ : Unit) => [])) := by
  refine gM.ofi (by decide +kernel) (fun _ => Nat.le_of_ble_eq_true rfl) (fun g p e s m args below meth c A ls Q X hret hw hl => ?_)
  have hx := X.1.1
  have hb := X.1.2.1
  have hl : lv_has ls 1 [(0, .int p1)] := hl
  unfold M_X1_chainRings at h
  refine lv_iconst (v := 1) hx hb dX1_chainRings_0 (by decide) ?_
  refine lv_iload_n hx hb dX1_chainRings_1 rfl (lv_at hl 0 rfl) ?_
  refine lv_iload_n hx hb dX1_chainRings_2 rfl (lv_at hl 0 rfl) ?_
  refine lv_ineg hx hb dX1_chainRings_3 ?_
  refine lv_iand hx hb dX1_chainRings_4 ?_
  refine lv_iconst (v := 1) hx hb dX1_chainRings_5 (by decide) ?_
  refine lv_ishl hx hb dX1_chainRings_6 ?_
  refine lv_ior hx hb dX1_chainRings_7 ?_
  have h := Option.some.inj h
  subst h
  exact hret () dX1_chainRings_8 rfl hw
theorem kM_X1_toldRings : kM yX1_toldRings cX1_toldRings 4 (some FieldType.int) 1 := ⟨kc_X1_toldRings, kn_RingsOff_Law, by decide +kernel⟩
abbrev R_X1_toldRings : Room := { frames := 0, cells := 0, slots := 0, locals := 0 }
set_option maxHeartbeats 4000000 in
set_option maxRecDepth 100000 in
theorem c_X1_toldRings (l : Launch) {ad : Nat → Nat} {N : Nat} {lw : LW} {p1 : Int32} {out : Int32} (h : M_X1_toldRings N lw p1 = some out) : gM l yX1_toldRings cX1_toldRings 4 (some FieldType.int) R_X1_toldRings (fun _ => [.ref (ad 0), .int p1]) (fun g => [wLW g ad lw]) (gQi (fun (_ : Unit) => out) (fun g (_ : Unit) => [wLW g ad lw])) := by
  refine gM.ofi (by decide +kernel) (fun _ => Nat.le_of_ble_eq_true rfl) (fun g p e s m args below meth c A ls Q X hret hw hl => ?_)
  have hx := X.1.1
  have hb := X.1.2.1
  have hl : lv_has ls 4 [(0, .ref (ad 0)), (1, .int p1)] := hl
  have L4 : ∀ (n : Nat) (z4 : Int32 × Int32), lp (M_X1_toldRings_l4 N lw p1) n z4 = some out → ∀ (H : Heap) (locs : List Loc) (ls : Array Slot), gW g A s.heap [wLW g ad lw] H locs → lv_has ls 4 [(0, .ref (ad 0)), (1, .int p1), (2, .int z4.1), (3, .int z4.2)] → W p l e R_X1_toldRings s m args below meth c H locs 0 0 Q (F0 m 4 ls []) := by
    refine lp_ind ?_
    intro rec4 ih4
    have J40 : ∀ (z40 : Int32 × Int32), M_X1_toldRings_j40 N lw p1 rec4 z40 = some out → ∀ (H : Heap) (locs : List Loc) (ls : Array Slot), gW g A s.heap [wLW g ad lw] H locs → lv_has ls 4 [(0, .ref (ad 0)), (1, .int p1), (2, .int z40.1), (3, .int z40.2)] → W p l e R_X1_toldRings s m args below meth c H locs 0 0 Q (F0 m 40 ls []) := by
      intro z40 h H locs ls hw hl
      unfold M_X1_toldRings_j40 at h
      refine lv_iinc (v := (z40.2 + 1)) (lv' := [(3, .int (z40.2 + 1)), (0, .ref (ad 0)), (1, .int p1), (2, .int z40.1)]) hx hb dX1_toldRings_40 hl (k := 3) rfl rfl (by decide) rfl (fun ls hl => ?_)
      refine lv_goto (tgt := 4) hx hb dX1_toldRings_43 (by decide) ?_
      exact ih4 _ h _ _ _ hw (lv_sub hl [1, 2, 3, 0] rfl)
    intro z4 h H locs ls hw hl
    unfold M_X1_toldRings_l4 at h
    refine lv_iload_n hx hb dX1_toldRings_4 rfl (lv_at hl 3 rfl) ?_
    refine lv_bipush (v := 10) hx hb dX1_toldRings_5 (by decide) ?_
    refine lv_icmp_ge (tgt := 46) hx hb dX1_toldRings_7 (by decide) (fun k7 => ?_) (fun k7 => ?_)
    · have h := itt k7 h
      refine lv_iload_n hx hb dX1_toldRings_46 rfl (lv_at hl 2 rfl) ?_
      have h := Option.some.inj h
      subst h
      exact hret () dX1_toldRings_47 rfl hw
    · have h := itf k7 h
      refine lv_aload_n hx hb dX1_toldRings_10 rfl (lv_at hl 0 rfl) ?_
      refine LW_g_musts X hw 0 rfl kf_X1_21 dX1_toldRings_11 ?_
      refine lv_iload_n hx hb dX1_toldRings_14 rfl (lv_at hl 3 rfl) ?_
      obtain ⟨q15, h⟩ := chk h
      refine LW_l_musts X hw 0 rfl q15 dX1_toldRings_15 ?_
      refine lv_iload_n hx hb dX1_toldRings_16 rfl (lv_at hl 1 rfl) ?_
      refine lv_iconst (v := -1) hx hb dX1_toldRings_17 (by decide) ?_
      refine lv_ixor hx hb dX1_toldRings_18 ?_
      refine lv_iand hx hb dX1_toldRings_19 ?_
      refine lv_if_ne (tgt := 40) hx hb dX1_toldRings_20 (by decide) (fun k20 => ?_) (fun k20 => ?_)
      · have h := itt k20 h
        exact J40 _ h _ _ _ hw (lv_sub hl [0, 1, 2, 3] rfl)
      · have h := itf (fun z => z k20) h
        refine lv_aload_n hx hb dX1_toldRings_23 rfl (lv_at hl 0 rfl) ?_
        refine LW_g_nots X hw 0 rfl kf_X1_25 dX1_toldRings_24 ?_
        refine lv_iload_n hx hb dX1_toldRings_27 rfl (lv_at hl 3 rfl) ?_
        obtain ⟨q28, h⟩ := chk h
        refine LW_l_nots X hw 0 rfl q28 dX1_toldRings_28 ?_
        refine lv_iload_n hx hb dX1_toldRings_29 rfl (lv_at hl 1 rfl) ?_
        refine lv_iand hx hb dX1_toldRings_30 ?_
        refine lv_if_ne (tgt := 40) hx hb dX1_toldRings_31 (by decide) (fun k31 => ?_) (fun k31 => ?_)
        · have h := itt k31 h
          exact J40 _ h _ _ _ hw (lv_sub hl [0, 1, 2, 3] rfl)
        · have h := itf (fun z => z k31) h
          refine lv_iload_n hx hb dX1_toldRings_34 rfl (lv_at hl 2 rfl) ?_
          refine lv_iconst (v := 1) hx hb dX1_toldRings_35 (by decide) ?_
          refine lv_iload_n hx hb dX1_toldRings_36 rfl (lv_at hl 3 rfl) ?_
          refine lv_ishl hx hb dX1_toldRings_37 ?_
          refine lv_ior hx hb dX1_toldRings_38 ?_
          refine lv_istore_n (lv' := [(2, .int (z4.1 ||| ((1 : Int32) <<< (z4.2 &&& 31)))), (0, .ref (ad 0)), (1, .int p1), (3, .int z4.2)]) hx hb dX1_toldRings_39 rfl hl (by decide) rfl (fun ls hl => ?_)
          exact J40 _ h _ _ _ hw (lv_sub hl [1, 2, 0, 3] rfl)
  unfold M_X1_toldRings at h
  refine lv_iconst (v := 0) hx hb dX1_toldRings_0 (by decide) ?_
  refine lv_istore_n (lv' := [(2, .int (0 : Int32)), (0, .ref (ad 0)), (1, .int p1)]) hx hb dX1_toldRings_1 rfl hl (by decide) rfl (fun ls hl => ?_)
  refine lv_iconst (v := 0) hx hb dX1_toldRings_2 (by decide) ?_
  refine lv_istore_n (lv' := [(3, .int (0 : Int32)), (2, .int (0 : Int32)), (0, .ref (ad 0)), (1, .int p1)]) hx hb dX1_toldRings_3 rfl hl (by decide) rfl (fun ls hl => ?_)
  exact L4 N _ h _ _ _ hw (lv_sub hl [2, 3, 1, 0] rfl)
theorem kM_X1_bothMayGo : kM yX1_bothMayGo cX1_bothMayGo 3 (some FieldType.boolean) 1 := ⟨kc_X1_bothMayGo, kn_RingsOff_Law, by decide +kernel⟩
abbrev R_X1_bothMayGo : Room := { frames := 0, cells := 0, slots := 0, locals := 0 }
set_option maxHeartbeats 4000000 in
set_option maxRecDepth 100000 in
theorem c_X1_bothMayGo (l : Launch) {ad : Nat → Nat} {N : Nat} {lw : LW} {p1 : Int32} {out : Int32} (h : M_X1_bothMayGo N lw p1 = some out) : gM l yX1_bothMayGo cX1_bothMayGo 3 (some FieldType.boolean) R_X1_bothMayGo (fun _ => [.ref (ad 0), .int p1]) (fun g => [wLW g ad lw]) (gQi (fun (_ : Unit) => out) (fun g (_ : Unit) => [wLW g ad lw])) := by
  refine gM.ofz (by decide +kernel) (fun _ => Nat.le_of_ble_eq_true rfl) (fun g p e s m args below meth c A ls Q X hret hw hl => ?_)
  have hx := X.1.1
  have hb := X.1.2.1
  have hl : lv_has ls 3 [(0, .ref (ad 0)), (1, .int p1)] := hl
  unfold M_X1_bothMayGo at h
  refine lv_iload_n hx hb dX1_bothMayGo_0 rfl (lv_at hl 1 rfl) ?_
  refine lv_iconst (v := 3) hx hb dX1_bothMayGo_1 (by decide) ?_
  refine lv_iand hx hb dX1_bothMayGo_2 ?_
  refine lv_istore_n (lv' := [(2, .int (p1 &&& (3 : Int32))), (0, .ref (ad 0)), (1, .int p1)]) hx hb dX1_bothMayGo_3 rfl hl (by decide) rfl (fun ls hl => ?_)
  refine lv_aload_n hx hb dX1_bothMayGo_4 rfl (lv_at hl 1 rfl) ?_
  refine LW_g_kind X hw 0 rfl kf_X1_9 dX1_bothMayGo_5 ?_
  refine lv_iconst (v := 2) hx hb dX1_bothMayGo_8 (by decide) ?_
  refine lv_icmp_ne (tgt := 42) hx hb dX1_bothMayGo_9 (by decide) (fun k9 => ?_) (fun k9 => ?_)
  · have h := itt k9 h
    refine lv_iconst (v := 0) hx hb dX1_bothMayGo_42 (by decide) ?_
    have h := Option.some.inj h
    subst h
    exact hret () dX1_bothMayGo_43 (by decide) rfl hw
  · have h := itf (fun z => z k9) h
    refine lv_aload_n hx hb dX1_bothMayGo_12 rfl (lv_at hl 1 rfl) ?_
    refine LW_g_size X hw 0 rfl kf_X1_15 dX1_bothMayGo_13 ?_
    refine lv_iconst (v := 2) hx hb dX1_bothMayGo_16 (by decide) ?_
    refine lv_icmp_lt (tgt := 42) hx hb dX1_bothMayGo_17 (by decide) (fun k17 => ?_) (fun k17 => ?_)
    · have h := itt k17 h
      refine lv_iconst (v := 0) hx hb dX1_bothMayGo_42 (by decide) ?_
      have h := Option.some.inj h
      subst h
      exact hret () dX1_bothMayGo_43 (by decide) rfl hw
    · have h := itf k17 h
      refine lv_aload_n hx hb dX1_bothMayGo_20 rfl (lv_at hl 1 rfl) ?_
      refine LW_g_stuck X hw 0 rfl kf_X1_18 dX1_bothMayGo_21 ?_
      refine lv_iconst (v := 3) hx hb dX1_bothMayGo_24 (by decide) ?_
      refine lv_iand hx hb dX1_bothMayGo_25 ?_
      refine lv_if_ne (tgt := 42) hx hb dX1_bothMayGo_26 (by decide) (fun k26 => ?_) (fun k26 => ?_)
      · have h := itt k26 h
        refine lv_iconst (v := 0) hx hb dX1_bothMayGo_42 (by decide) ?_
        have h := Option.some.inj h
        subst h
        exact hret () dX1_bothMayGo_43 (by decide) rfl hw
      · have h := itf (fun z => z k26) h
        refine lv_iload_n hx hb dX1_bothMayGo_29 rfl (lv_at hl 0 rfl) ?_
        refine lv_if_eq (tgt := 38) hx hb dX1_bothMayGo_30 (by decide) (fun k30 => ?_) (fun k30 => ?_)
        · have h := itt k30 h
          refine lv_iconst (v := 1) hx hb dX1_bothMayGo_38 (by decide) ?_
          refine lv_goto (tgt := 43) hx hb dX1_bothMayGo_39 (by decide) ?_
          have h := Option.some.inj h
          subst h
          exact hret () dX1_bothMayGo_43 (by decide) rfl hw
        · have h := itf k30 h
          refine lv_iload_n hx hb dX1_bothMayGo_33 rfl (lv_at hl 0 rfl) ?_
          refine lv_iconst (v := 3) hx hb dX1_bothMayGo_34 (by decide) ?_
          refine lv_icmp_ne (tgt := 42) hx hb dX1_bothMayGo_35 (by decide) (fun k35 => ?_) (fun k35 => ?_)
          · have h := itt k35 h
            refine lv_iconst (v := 0) hx hb dX1_bothMayGo_42 (by decide) ?_
            have h := Option.some.inj h
            subst h
            exact hret () dX1_bothMayGo_43 (by decide) rfl hw
          · have h := itf (fun z => z k35) h
            refine lv_iconst (v := 1) hx hb dX1_bothMayGo_38 (by decide) ?_
            refine lv_goto (tgt := 43) hx hb dX1_bothMayGo_39 (by decide) ?_
            have h := Option.some.inj h
            subst h
            exact hret () dX1_bothMayGo_43 (by decide) rfl hw
theorem kM_X1_take : kM yX1_take cX1_take 3 (none : Option Jvm.ClassFile.FieldType) 2 := ⟨kc_X1_take, kn_RingsOff_Law, by decide +kernel⟩
abbrev R_X1_take : Room := { frames := 1, cells := 0, slots := 0, locals := 60 }
set_option maxHeartbeats 4000000 in
set_option maxRecDepth 100000 in
theorem c_X1_take (l : Launch) {ad : Nat → Nat} {ad1 : Nat → Nat} {N : Nat} {lw : LW} {ev : EV} {p2 : Int32} {out : LW} (h : M_X1_take N lw ev p2 = some out) : gM l yX1_take cX1_take 3 (none : Option Jvm.ClassFile.FieldType) R_X1_take (fun _ => [.ref (ad 0), .ref (ad1 0), .int p2]) (fun g => [wLW g ad lw, wEV g ad1 ev]) (gQv (fun g (_ : Unit) => [wLW g ad out, wEV g ad1 ev])) := by
  refine gM.ofv (by decide +kernel) (fun _ => Nat.le_of_ble_eq_true rfl) (fun g p e s m args below meth c A ls Q X hret hw hl => ?_)
  have hx := X.1.1
  have hb := X.1.2.1
  have hl : lv_has ls 3 [(0, .ref (ad 0)), (1, .ref (ad1 0)), (2, .int p2)] := hl
  unfold M_X1_take at h
  refine lv_aload_n hx hb dX1_take_0 rfl (lv_at hl 1 rfl) ?_
  refine lv_iload_n hx hb dX1_take_1 rfl (lv_at hl 2 rfl) ?_
  obtain ⟨r2, h2, h⟩ := bnd h
  refine g_calli0 (isC := [1]) (gn := fun _ => [wLW g ad lw, wEV g ad1 ev]) (g_runVN (isC := [1]) (rest := []) (As := [.int p2]) X hw (c_X0_hasBar l (ad := ad1) h2) rfl kM_X0_hasBar ki_X0_hasBar ks_X0_hasBar km_X1_28 ⟨(Nat.le_of_ble_eq_true rfl), (Nat.le_of_ble_eq_true rfl)⟩ ⟨(Nat.le_of_ble_eq_true rfl), (Nat.le_of_ble_eq_true rfl)⟩ rfl rfl ⟨_, _, _, _, rfl, rfl, rfl, rfl⟩ rfl hl.1 rfl (Nat.le_of_ble_eq_true rfl) dX1_take_2) hw rfl rfl (fun _ => (Nat.le_of_ble_eq_true rfl)) (fun _ => rfl) rfl rfl (fun _ H locs hw => ?_)
  refine lv_if_eq (tgt := 70) hx hb dX1_take_5 (by decide) (fun k5 => ?_) (fun k5 => ?_)
  · have h := itt k5 h
    have h := Option.some.inj h
    subst h
    exact hret () dX1_take_70 hw
  · have h := itf k5 h
    refine lv_aload_n hx hb dX1_take_8 rfl (lv_at hl 0 rfl) ?_
    refine lv_aload_n hx hb dX1_take_9 rfl (lv_at hl 1 rfl) ?_
    refine EV_gn_kinds X hw 1 rfl kf_X1_34 dX1_take_10 ?_
    refine lv_iload_n hx hb dX1_take_13 rfl (lv_at hl 2 rfl) ?_
    obtain ⟨q14, h⟩ := chk h
    refine EV_l_kinds X hw 1 rfl q14 dX1_take_14 ?_
    refine lv_aload_n hx hb dX1_take_15 rfl (lv_at hl 1 rfl) ?_
    refine EV_gn_sizes X hw 1 rfl kf_X1_37 dX1_take_16 ?_
    refine lv_iload_n hx hb dX1_take_19 rfl (lv_at hl 2 rfl) ?_
    obtain ⟨q20, h⟩ := chk h
    refine EV_l_sizes X hw 1 rfl q20 dX1_take_20 ?_
    obtain ⟨r21, h21, h⟩ := bnd h
    refine g_callv0 (isC := [0]) (gn := fun _ => [wLW g ad r21, wEV g ad1 ev]) (g_runV (isC := [0]) (rest := []) (As := [.int (EV_kinds ev p2.toNatClampNeg), .int (EV_sizes ev p2.toNatClampNeg)]) X hw (c_X1_takePlain l (ad := ad) h21) rfl kM_X1_takePlain ki_X1_takePlain ks_X1_takePlain km_X1_40 ⟨(Nat.le_of_ble_eq_true rfl), (Nat.le_of_ble_eq_true rfl)⟩ ⟨(Nat.le_of_ble_eq_true rfl), (Nat.le_of_ble_eq_true rfl)⟩ rfl rfl ⟨_, _, _, _, rfl, rfl, rfl, rfl⟩ rfl hl.1 rfl (Nat.le_of_ble_eq_true rfl) dX1_take_21) hw rfl rfl (fun _ => (Nat.le_of_ble_eq_true rfl)) (fun _ => rfl) rfl rfl (fun _ H locs hw => ?_)
    refine lv_aload_n hx hb dX1_take_24 rfl (lv_at hl 0 rfl) ?_
    refine lv_aload_n hx hb dX1_take_25 rfl (lv_at hl 1 rfl) ?_
    refine EV_gn_stucks X hw 1 rfl kf_X1_44 dX1_take_26 ?_
    refine lv_iload_n hx hb dX1_take_29 rfl (lv_at hl 2 rfl) ?_
    obtain ⟨q30, h⟩ := chk h
    refine EV_l_stucks X hw 1 rfl q30 dX1_take_30 ?_
    refine LW_p_stuck (gs' := [wLW g ad (LW_s_stuck r21 (EV_stucks ev p2.toNatClampNeg)), wEV g ad1 ev]) X hw 0 rfl kf_X1_18 dX1_take_31 rfl (fun H locs hw => ?_)
    refine lv_aload_n hx hb dX1_take_34 rfl (lv_at hl 1 rfl) ?_
    refine EV_gn_musts X hw 1 rfl kf_X1_47 dX1_take_35 ?_
    refine lv_iload_n hx hb dX1_take_38 rfl (lv_at hl 2 rfl) ?_
    refine lv_bipush (v := 10) hx hb dX1_take_39 (by decide) ?_
    refine lv_imul hx hb dX1_take_41 ?_
    refine lv_aload_n hx hb dX1_take_42 rfl (lv_at hl 0 rfl) ?_
    refine LW_g_musts X hw 0 rfl kf_X1_21 dX1_take_43 ?_
    refine lv_iconst (v := 0) hx hb dX1_take_46 (by decide) ?_
    refine lv_bipush (v := 10) hx hb dX1_take_47 (by decide) ?_
    obtain ⟨q49, h⟩ := chk h
    refine g_copyi (gs' := [wLW g ad (LW_s_musts (LW_s_stuck r21 (EV_stucks ev p2.toNatClampNeg)) (va_cpy (EV_musts ev) (LW_musts (LW_s_stuck r21 (EV_stucks ev p2.toNatClampNeg))) (p2 * (10 : Int32)).toNatClampNeg (0 : Int32).toNatClampNeg (10 : Int32).toNatClampNeg)), wEV g ad1 ev]) X hw 1 5 0 1 rfl rfl rfl rfl q49 km_X1_48 hl.1 (Nat.le_of_ble_eq_true rfl) (Nat.le_of_ble_eq_true rfl) dX1_take_49 rfl (fun H locs hw => ?_)
    refine lv_aload_n hx hb dX1_take_52 rfl (lv_at hl 1 rfl) ?_
    refine EV_gn_nots X hw 1 rfl kf_X1_54 dX1_take_53 ?_
    refine lv_iload_n hx hb dX1_take_56 rfl (lv_at hl 2 rfl) ?_
    refine lv_bipush (v := 10) hx hb dX1_take_57 (by decide) ?_
    refine lv_imul hx hb dX1_take_59 ?_
    refine lv_aload_n hx hb dX1_take_60 rfl (lv_at hl 0 rfl) ?_
    refine LW_g_nots X hw 0 rfl kf_X1_25 dX1_take_61 ?_
    refine lv_iconst (v := 0) hx hb dX1_take_64 (by decide) ?_
    refine lv_bipush (v := 10) hx hb dX1_take_65 (by decide) ?_
    obtain ⟨q67, h⟩ := chk h
    refine g_copyi (gs' := [wLW g ad (LW_s_nots (LW_s_musts (LW_s_stuck r21 (EV_stucks ev p2.toNatClampNeg)) (va_cpy (EV_musts ev) (LW_musts (LW_s_stuck r21 (EV_stucks ev p2.toNatClampNeg))) (p2 * (10 : Int32)).toNatClampNeg (0 : Int32).toNatClampNeg (10 : Int32).toNatClampNeg)) (va_cpy (EV_nots ev) (LW_nots (LW_s_musts (LW_s_stuck r21 (EV_stucks ev p2.toNatClampNeg)) (va_cpy (EV_musts ev) (LW_musts (LW_s_stuck r21 (EV_stucks ev p2.toNatClampNeg))) (p2 * (10 : Int32)).toNatClampNeg (0 : Int32).toNatClampNeg (10 : Int32).toNatClampNeg))) (p2 * (10 : Int32)).toNatClampNeg (0 : Int32).toNatClampNeg (10 : Int32).toNatClampNeg)), wEV g ad1 ev]) X hw 1 6 0 2 rfl rfl rfl rfl q67 km_X1_48 hl.1 (Nat.le_of_ble_eq_true rfl) (Nat.le_of_ble_eq_true rfl) dX1_take_67 rfl (fun H locs hw => ?_)
    have h := Option.some.inj h
    subst h
    exact hret () dX1_take_70 hw
theorem kM_X1_afterRings : kM yX1_afterRings cX1_afterRings 2 (some FieldType.int) 1 := ⟨kc_X1_afterRings, kn_RingsOff_Law, by decide +kernel⟩
abbrev R_X1_afterRings : Room := { frames := 2, cells := 0, slots := 0, locals := 41 }
set_option maxHeartbeats 4000000 in
set_option maxRecDepth 100000 in
theorem c_X1_afterRings (l : Launch) {ad : Nat → Nat} {N : Nat} {lw : LW} {p1 : Int32} {out : Int32} (h : M_X1_afterRings N lw p1 = some out) : gM l yX1_afterRings cX1_afterRings 2 (some FieldType.int) R_X1_afterRings (fun _ => [.ref (ad 0), .int p1]) (fun g => [wLW g ad lw]) (gQi (fun (_ : Unit) => out) (fun g (_ : Unit) => [wLW g ad lw])) := by
  refine gM.ofi (by decide +kernel) (fun _ => Nat.le_of_ble_eq_true rfl) (fun g p e s m args below meth c A ls Q X hret hw hl => ?_)
  have hx := X.1.1
  have hb := X.1.2.1
  have hl : lv_has ls 2 [(0, .ref (ad 0)), (1, .int p1)] := hl
  unfold M_X1_afterRings at h
  refine lv_iconst (v := 1) hx hb dX1_afterRings_0 (by decide) ?_
  refine lv_aload_n hx hb dX1_afterRings_1 rfl (lv_at hl 0 rfl) ?_
  refine LW_g_size X hw 0 rfl kf_X1_15 dX1_afterRings_2 ?_
  refine lv_iconst (v := 1) hx hb dX1_afterRings_5 (by decide) ?_
  refine lv_isub hx hb dX1_afterRings_6 ?_
  refine lv_ishl hx hb dX1_afterRings_7 ?_
  refine lv_iload_n hx hb dX1_afterRings_8 rfl (lv_at hl 1 rfl) ?_
  obtain ⟨r9, h9, h⟩ := bnd h
  refine g_calli0 (isC := []) (gn := fun _ => [wLW g ad lw]) (g_runS (isC := []) (rest := [.int ((1 : Int32) <<< (((LW_size lw) - (1 : Int32)) &&& 31))]) (As := [.int p1]) X hw (c_J6_highestOneBit_0f7a4 l h9) rfl kM_J6_highestOneBit_0f7a4 kt_J6_highestOneBit_0f7a4 km_X1_72 ⟨(Nat.le_of_ble_eq_true rfl), (Nat.le_of_ble_eq_true rfl)⟩ ⟨(Nat.le_of_ble_eq_true rfl), (Nat.le_of_ble_eq_true rfl)⟩ rfl rfl rfl hl.1 rfl (Nat.le_of_ble_eq_true rfl) dX1_afterRings_9) hw rfl rfl (fun _ => (Nat.le_of_ble_eq_true rfl)) (fun _ => rfl) rfl rfl (fun _ H locs hw => ?_)
  refine lv_iconst (v := 1) hx hb dX1_afterRings_12 (by decide) ?_
  refine lv_iushr (v := (jushr r9 (1 : Int32))) hx hb dX1_afterRings_13 rfl ?_
  refine lv_ior hx hb dX1_afterRings_14 ?_
  have h := Option.some.inj h
  subst h
  exact hret () dX1_afterRings_15 rfl hw
theorem kM_X1_ringsByKind : kM yX1_ringsByKind cX1_ringsByKind 2 (some FieldType.int) 1 := ⟨kc_X1_ringsByKind, kn_RingsOff_Law, by decide +kernel⟩
abbrev R_X1_ringsByKind : Room := { frames := 3, cells := 0, slots := 0, locals := 62 }
set_option maxHeartbeats 4000000 in
set_option maxRecDepth 100000 in
theorem c_X1_ringsByKind (l : Launch) {ad : Nat → Nat} {N : Nat} {lw : LW} {p1 : Int32} {out : Int32} (h : M_X1_ringsByKind N lw p1 = some out) : gM l yX1_ringsByKind cX1_ringsByKind 2 (some FieldType.int) R_X1_ringsByKind (fun _ => [.ref (ad 0), .int p1]) (fun g => [wLW g ad lw]) (gQi (fun (_ : Unit) => out) (fun g (_ : Unit) => [wLW g ad lw])) := by
  refine gM.ofi (by decide +kernel) (fun _ => Nat.le_of_ble_eq_true rfl) (fun g p e s m args below meth c A ls Q X hret hw hl => ?_)
  have hx := X.1.1
  have hb := X.1.2.1
  have hl : lv_has ls 2 [(0, .ref (ad 0)), (1, .int p1)] := hl
  unfold M_X1_ringsByKind at h
  refine lv_aload_n hx hb dX1_ringsByKind_0 rfl (lv_at hl 0 rfl) ?_
  refine LW_g_kind X hw 0 rfl kf_X1_9 dX1_ringsByKind_1 ?_
  by_cases k4_0 : (LW_kind lw) = 1
  · have h := itt k4_0 h
    refine lv_tableIn (off := 36) (tgt := 40) hx hb dX1_ringsByKind_4 (by rw [k4_0]; decide) (by rw [k4_0]; decide) (by rw [k4_0]; rfl) (by decide) ?_
    refine lv_iload_n hx hb dX1_ringsByKind_40 rfl (lv_at hl 1 rfl) ?_
    obtain ⟨r41, h41, h⟩ := bnd h
    refine g_calli0 (isC := []) (gn := fun _ => [wLW g ad lw]) (g_runS (isC := []) (rest := []) (As := [.int p1]) X hw (c_X1_chainRings l h41) rfl kM_X1_chainRings kt_X1_chainRings km_X1_63 ⟨(Nat.le_of_ble_eq_true rfl), (Nat.le_of_ble_eq_true rfl)⟩ ⟨(Nat.le_of_ble_eq_true rfl), (Nat.le_of_ble_eq_true rfl)⟩ rfl rfl rfl hl.1 rfl (Nat.le_of_ble_eq_true rfl) dX1_ringsByKind_41) hw rfl rfl (fun _ => (Nat.le_of_ble_eq_true rfl)) (fun _ => rfl) rfl rfl (fun _ H locs hw => ?_)
    have h := Option.some.inj h
    subst h
    exact hret () dX1_ringsByKind_44 rfl hw
  have h := itf k4_0 h
  by_cases k4_1 : (LW_kind lw) = 2
  · have h := itt k4_1 h
    refine lv_tableIn (off := 36) (tgt := 40) hx hb dX1_ringsByKind_4 (by rw [k4_1]; decide) (by rw [k4_1]; decide) (by rw [k4_1]; rfl) (by decide) ?_
    refine lv_iload_n hx hb dX1_ringsByKind_40 rfl (lv_at hl 1 rfl) ?_
    obtain ⟨r41, h41, h⟩ := bnd h
    refine g_calli0 (isC := []) (gn := fun _ => [wLW g ad lw]) (g_runS (isC := []) (rest := []) (As := [.int p1]) X hw (c_X1_chainRings l h41) rfl kM_X1_chainRings kt_X1_chainRings km_X1_63 ⟨(Nat.le_of_ble_eq_true rfl), (Nat.le_of_ble_eq_true rfl)⟩ ⟨(Nat.le_of_ble_eq_true rfl), (Nat.le_of_ble_eq_true rfl)⟩ rfl rfl rfl hl.1 rfl (Nat.le_of_ble_eq_true rfl) dX1_ringsByKind_41) hw rfl rfl (fun _ => (Nat.le_of_ble_eq_true rfl)) (fun _ => rfl) rfl rfl (fun _ H locs hw => ?_)
    have h := Option.some.inj h
    subst h
    exact hret () dX1_ringsByKind_44 rfl hw
  have h := itf k4_1 h
  by_cases k4_2 : (LW_kind lw) = 3
  · have h := itt k4_2 h
    refine lv_tableIn (off := 41) (tgt := 45) hx hb dX1_ringsByKind_4 (by rw [k4_2]; decide) (by rw [k4_2]; decide) (by rw [k4_2]; rfl) (by decide) ?_
    refine lv_iload_n hx hb dX1_ringsByKind_45 rfl (lv_at hl 1 rfl) ?_
    obtain ⟨r46, h46, h⟩ := bnd h
    refine g_calli0 (isC := []) (gn := fun _ => [wLW g ad lw]) (g_runS (isC := []) (rest := []) (As := [.int p1]) X hw (c_X1_chainRings l h46) rfl kM_X1_chainRings kt_X1_chainRings km_X1_63 ⟨(Nat.le_of_ble_eq_true rfl), (Nat.le_of_ble_eq_true rfl)⟩ ⟨(Nat.le_of_ble_eq_true rfl), (Nat.le_of_ble_eq_true rfl)⟩ rfl rfl rfl hl.1 rfl (Nat.le_of_ble_eq_true rfl) dX1_ringsByKind_46) hw rfl rfl (fun _ => (Nat.le_of_ble_eq_true rfl)) (fun _ => rfl) rfl rfl (fun _ H locs hw => ?_)
    refine lv_aload_n hx hb dX1_ringsByKind_49 rfl (lv_at hl 0 rfl) ?_
    refine lv_iload_n hx hb dX1_ringsByKind_50 rfl (lv_at hl 1 rfl) ?_
    obtain ⟨r51, h51, h⟩ := bnd h
    refine g_calli0 (isC := [0]) (gn := fun _ => [wLW g ad lw]) (g_runV (isC := [0]) (rest := [.int r46]) (As := [.int p1]) X hw (c_X1_afterRings l (ad := ad) h51) rfl kM_X1_afterRings ki_X1_afterRings ks_X1_afterRings km_X1_66 ⟨(Nat.le_of_ble_eq_true rfl), (Nat.le_of_ble_eq_true rfl)⟩ ⟨(Nat.le_of_ble_eq_true rfl), (Nat.le_of_ble_eq_true rfl)⟩ rfl rfl ⟨_, _, _, _, rfl, rfl, rfl, rfl⟩ rfl hl.1 rfl (Nat.le_of_ble_eq_true rfl) dX1_ringsByKind_51) hw rfl rfl (fun _ => (Nat.le_of_ble_eq_true rfl)) (fun _ => rfl) rfl rfl (fun _ H locs hw => ?_)
    refine lv_ior hx hb dX1_ringsByKind_54 ?_
    have h := Option.some.inj h
    subst h
    exact hret () dX1_ringsByKind_55 rfl hw
  have h := itf k4_2 h
  by_cases k4_3 : (LW_kind lw) = 4
  · have h := itt k4_3 h
    refine lv_tableIn (off := 52) (tgt := 56) hx hb dX1_ringsByKind_4 (by rw [k4_3]; decide) (by rw [k4_3]; decide) (by rw [k4_3]; rfl) (by decide) ?_
    refine lv_aload_n hx hb dX1_ringsByKind_56 rfl (lv_at hl 0 rfl) ?_
    refine lv_iload_n hx hb dX1_ringsByKind_57 rfl (lv_at hl 1 rfl) ?_
    obtain ⟨r58, h58, h⟩ := bnd h
    refine g_calli0 (isC := [0]) (gn := fun _ => [wLW g ad lw]) (g_runV (isC := [0]) (rest := []) (As := [.int p1]) X hw (c_X1_afterRings l (ad := ad) h58) rfl kM_X1_afterRings ki_X1_afterRings ks_X1_afterRings km_X1_66 ⟨(Nat.le_of_ble_eq_true rfl), (Nat.le_of_ble_eq_true rfl)⟩ ⟨(Nat.le_of_ble_eq_true rfl), (Nat.le_of_ble_eq_true rfl)⟩ rfl rfl ⟨_, _, _, _, rfl, rfl, rfl, rfl⟩ rfl hl.1 rfl (Nat.le_of_ble_eq_true rfl) dX1_ringsByKind_58) hw rfl rfl (fun _ => (Nat.le_of_ble_eq_true rfl)) (fun _ => rfl) rfl rfl (fun _ H locs hw => ?_)
    have h := Option.some.inj h
    subst h
    exact hret () dX1_ringsByKind_61 rfl hw
  have h := itf k4_3 h
  by_cases k4_4 : (LW_kind lw) = 5
  · have h := itt k4_4 h
    refine lv_tableIn (off := 58) (tgt := 62) hx hb dX1_ringsByKind_4 (by rw [k4_4]; decide) (by rw [k4_4]; decide) (by rw [k4_4]; rfl) (by decide) ?_
    refine lv_aload_n hx hb dX1_ringsByKind_62 rfl (lv_at hl 0 rfl) ?_
    refine lv_iload_n hx hb dX1_ringsByKind_63 rfl (lv_at hl 1 rfl) ?_
    obtain ⟨r64, h64, h⟩ := bnd h
    refine g_calli0 (isC := [0]) (gn := fun _ => [wLW g ad lw]) (g_runV (isC := [0]) (rest := []) (As := [.int p1]) X hw (c_X1_toldRings l (ad := ad) h64) rfl kM_X1_toldRings ki_X1_toldRings ks_X1_toldRings km_X1_69 ⟨(Nat.le_of_ble_eq_true rfl), (Nat.le_of_ble_eq_true rfl)⟩ ⟨(Nat.le_of_ble_eq_true rfl), (Nat.le_of_ble_eq_true rfl)⟩ rfl rfl ⟨_, _, _, _, rfl, rfl, rfl, rfl⟩ rfl hl.1 rfl (Nat.le_of_ble_eq_true rfl) dX1_ringsByKind_64) hw rfl rfl (fun _ => (Nat.le_of_ble_eq_true rfl)) (fun _ => rfl) rfl rfl (fun _ H locs hw => ?_)
    have h := Option.some.inj h
    subst h
    exact hret () dX1_ringsByKind_67 rfl hw
  have h := itf k4_4 h
  refine lv_tableOut (tgt := 68) hx hb dX1_ringsByKind_4 (g_out (lo := 1) (hi := 5) (LW_kind lw) (fun q h1 h2 => ?_)) (by decide) ?_
  · rcases (show q = 1 ∨ q = 2 ∨ q = 3 ∨ q = 4 ∨ q = 5 by omega) with rfl | rfl | rfl | rfl | rfl     
    · exact fun e => k4_0 (Int32.toInt_inj.mp (e.trans rfl))
    · exact fun e => k4_1 (Int32.toInt_inj.mp (e.trans rfl))
    · exact fun e => k4_2 (Int32.toInt_inj.mp (e.trans rfl))
    · exact fun e => k4_3 (Int32.toInt_inj.mp (e.trans rfl))
    · exact fun e => k4_4 (Int32.toInt_inj.mp (e.trans rfl))
  refine lv_iconst (v := -1) hx hb dX1_ringsByKind_68 (by decide) ?_
  have h := Option.some.inj h
  subst h
  exact hret () dX1_ringsByKind_69 rfl hw
theorem kM_X1_legalIn : kM yX1_legalIn cX1_legalIn 3 (some FieldType.int) 1 := ⟨kc_X1_legalIn, kn_RingsOff_Law, by decide +kernel⟩
abbrev R_X1_legalIn : Room := { frames := 4, cells := 0, slots := 0, locals := 83 }
set_option maxHeartbeats 4000000 in
set_option maxRecDepth 100000 in
theorem c_X1_legalIn (l : Launch) {ad : Nat → Nat} {N : Nat} {lw : LW} {p1 : Int32} {out : Int32} (h : M_X1_legalIn N lw p1 = some out) : gM l yX1_legalIn cX1_legalIn 3 (some FieldType.int) R_X1_legalIn (fun _ => [.ref (ad 0), .int p1]) (fun g => [wLW g ad lw]) (gQi (fun (_ : Unit) => out) (fun g (_ : Unit) => [wLW g ad lw])) := by
  refine gM.ofi (by decide +kernel) (fun _ => Nat.le_of_ble_eq_true rfl) (fun g p e s m args below meth c A ls Q X hret hw hl => ?_)
  have hx := X.1.1
  have hb := X.1.2.1
  have hl : lv_has ls 3 [(0, .ref (ad 0)), (1, .int p1)] := hl
  unfold M_X1_legalIn at h
  refine lv_aload_n hx hb dX1_legalIn_0 rfl (lv_at hl 0 rfl) ?_
  refine lv_iload_n hx hb dX1_legalIn_1 rfl (lv_at hl 1 rfl) ?_
  obtain ⟨r2, h2, h⟩ := bnd h
  refine g_calli0 (isC := [0]) (gn := fun _ => [wLW g ad lw]) (g_runV (isC := [0]) (rest := []) (As := [.int p1]) X hw (c_X1_ringsByKind l (ad := ad) h2) rfl kM_X1_ringsByKind ki_X1_ringsByKind ks_X1_ringsByKind km_X1_55 ⟨(Nat.le_of_ble_eq_true rfl), (Nat.le_of_ble_eq_true rfl)⟩ ⟨(Nat.le_of_ble_eq_true rfl), (Nat.le_of_ble_eq_true rfl)⟩ rfl rfl ⟨_, _, _, _, rfl, rfl, rfl, rfl⟩ rfl hl.1 rfl (Nat.le_of_ble_eq_true rfl) dX1_legalIn_2) hw rfl rfl (fun _ => (Nat.le_of_ble_eq_true rfl)) (fun _ => rfl) rfl rfl (fun _ H locs hw => ?_)
  refine lv_iconst (v := 1) hx hb dX1_legalIn_5 (by decide) ?_
  refine lv_aload_n hx hb dX1_legalIn_6 rfl (lv_at hl 0 rfl) ?_
  refine LW_g_size X hw 0 rfl kf_X1_15 dX1_legalIn_7 ?_
  refine lv_ishl hx hb dX1_legalIn_10 ?_
  refine lv_iconst (v := 1) hx hb dX1_legalIn_11 (by decide) ?_
  refine lv_isub hx hb dX1_legalIn_12 ?_
  refine lv_iand hx hb dX1_legalIn_13 ?_
  refine lv_aload_n hx hb dX1_legalIn_14 rfl (lv_at hl 0 rfl) ?_
  refine LW_g_stuck X hw 0 rfl kf_X1_18 dX1_legalIn_15 ?_
  refine lv_iconst (v := -1) hx hb dX1_legalIn_18 (by decide) ?_
  refine lv_ixor hx hb dX1_legalIn_19 ?_
  refine lv_iand hx hb dX1_legalIn_20 ?_
  refine lv_istore_n (lv' := [(2, .int ((r2 &&& (((1 : Int32) <<< ((LW_size lw) &&& 31)) - (1 : Int32))) &&& ((LW_stuck lw) ^^^ (-1 : Int32)))), (0, .ref (ad 0)), (1, .int p1)]) hx hb dX1_legalIn_21 rfl hl (by decide) rfl (fun ls hl => ?_)
  refine lv_aload_n hx hb dX1_legalIn_22 rfl (lv_at hl 1 rfl) ?_
  refine lv_iload_n hx hb dX1_legalIn_23 rfl (lv_at hl 2 rfl) ?_
  obtain ⟨r24, h24, h⟩ := bnd h
  refine g_calli0 (isC := [0]) (gn := fun _ => [wLW g ad lw]) (g_runV (isC := [0]) (rest := []) (As := [.int p1]) X hw (c_X1_bothMayGo l (ad := ad) h24) rfl kM_X1_bothMayGo ki_X1_bothMayGo ks_X1_bothMayGo km_X1_59 ⟨(Nat.le_of_ble_eq_true rfl), (Nat.le_of_ble_eq_true rfl)⟩ ⟨(Nat.le_of_ble_eq_true rfl), (Nat.le_of_ble_eq_true rfl)⟩ rfl rfl ⟨_, _, _, _, rfl, rfl, rfl, rfl⟩ rfl hl.1 rfl (Nat.le_of_ble_eq_true rfl) dX1_legalIn_24) hw rfl rfl (fun _ => (Nat.le_of_ble_eq_true rfl)) (fun _ => rfl) rfl rfl (fun _ H locs hw => ?_)
  refine lv_if_eq (tgt := 37) hx hb dX1_legalIn_27 (by decide) (fun k27 => ?_) (fun k27 => ?_)
  · have h := itt k27 h
    refine lv_iload_n hx hb dX1_legalIn_37 rfl (lv_at hl 0 rfl) ?_
    have h := Option.some.inj h
    subst h
    exact hret () dX1_legalIn_38 rfl hw
  · have h := itf k27 h
    refine lv_iload_n hx hb dX1_legalIn_30 rfl (lv_at hl 0 rfl) ?_
    refine lv_ldc hx hb X.1.2.2.2.1 (gK1 X _ kq_X1_62) dX1_legalIn_31 ?_
    refine lv_ior hx hb dX1_legalIn_33 ?_
    refine lv_goto (tgt := 38) hx hb dX1_legalIn_34 (by decide) ?_
    have h := Option.some.inj h
    subst h
    exact hret () dX1_legalIn_38 rfl hw
