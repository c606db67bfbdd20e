theorem kM_X2_isSet : kM yX2_isSet cX2_isSet 2 (some FieldType.boolean) 1 := ⟨kc_X2_isSet, kn_RingsOff_Search, by decide +kernel⟩
abbrev R_X2_isSet : Room := { frames := 0, cells := 0, slots := 0, locals := 0 }
set_option maxHeartbeats 4000000 in
set_option maxRecDepth 100000 in
theorem c_X2_isSet (l : Launch) {ad : Nat → Nat} {N : Nat} {se : SE} {p1 : Int32} {out : Int32} (h : M_X2_isSet N se p1 = some out) : gM l yX2_isSet cX2_isSet 2 (some FieldType.boolean) R_X2_isSet (fun _ => [.ref (ad 0), .int p1]) (fun g => [wSE g ad se]) (gQi (fun (_ : Unit) => out) (fun g (_ : Unit) => [wSE g ad se])) := by
  refine gM.ofz (by decide +kernel) (fun _ => Nat.le_of_ble_eq_true rfl) (fun g p e s m args below meth c A ls Q X hret hw hl => ?_)
  have hx := X.1.1
  have hb := X.1.2.1
  have hl : lv_has ls 2 [(0, .ref (ad 0)), (1, .int p1)] := hl
  unfold M_X2_isSet at h
  refine lv_iload_n hx hb dX2_isSet_0 rfl (lv_at hl 1 rfl) ?_
  refine lv_if_lt (tgt := 23) hx hb dX2_isSet_1 (by decide) (fun k1 => ?_) (fun k1 => ?_)
  · have h := itt k1 h
    refine lv_iconst (v := 0) hx hb dX2_isSet_23 (by decide) ?_
    have h := Option.some.inj h
    subst h
    exact hret () dX2_isSet_24 (by decide) rfl hw
  · have h := itf k1 h
    refine lv_iload_n hx hb dX2_isSet_4 rfl (lv_at hl 1 rfl) ?_
    refine lv_aload_n hx hb dX2_isSet_5 rfl (lv_at hl 0 rfl) ?_
    refine SE_g_sets X hw 0 rfl kf_X2_31 dX2_isSet_6 ?_
    refine lv_icmp_ge (tgt := 23) hx hb dX2_isSet_9 (by decide) (fun k9 => ?_) (fun k9 => ?_)
    · have h := itt k9 h
      refine lv_iconst (v := 0) hx hb dX2_isSet_23 (by decide) ?_
      have h := Option.some.inj h
      subst h
      exact hret () dX2_isSet_24 (by decide) rfl hw
    · have h := itf k9 h
      refine lv_iload_n hx hb dX2_isSet_12 rfl (lv_at hl 1 rfl) ?_
      refine lv_sipush (v := 1024) hx hb dX2_isSet_13 (by decide) ?_
      refine lv_icmp_ge (tgt := 23) hx hb dX2_isSet_16 (by decide) (fun k16 => ?_) (fun k16 => ?_)
      · have h := itt k16 h
        refine lv_iconst (v := 0) hx hb dX2_isSet_23 (by decide) ?_
        have h := Option.some.inj h
        subst h
        exact hret () dX2_isSet_24 (by decide) rfl hw
      · have h := itf k16 h
        refine lv_iconst (v := 1) hx hb dX2_isSet_19 (by decide) ?_
        refine lv_goto (tgt := 24) hx hb dX2_isSet_20 (by decide) ?_
        have h := Option.some.inj h
        subst h
        exact hret () dX2_isSet_24 (by decide) rfl hw
theorem kM_X2_moveOf : kM yX2_moveOf cX2_moveOf 2 (some FieldType.int) 1 := ⟨kc_X2_moveOf, kn_RingsOff_Search, by decide +kernel⟩
abbrev R_X2_moveOf : Room := { frames := 0, cells := 0, slots := 0, locals := 0 }
set_option maxHeartbeats 4000000 in
set_option maxRecDepth 100000 in
theorem c_X2_moveOf (l : Launch) {ad : Nat → Nat} {N : Nat} {se : SE} {p1 : Int32} {out : Int32} (h : M_X2_moveOf N se p1 = some out) : gM l yX2_moveOf cX2_moveOf 2 (some FieldType.int) R_X2_moveOf (fun _ => [.ref (ad 0), .int p1]) (fun g => [wSE g ad se]) (gQi (fun (_ : Unit) => out) (fun g (_ : Unit) => [wSE g ad se])) := by
  refine gM.ofi (by decide +kernel) (fun _ => Nat.le_of_ble_eq_true rfl) (fun g p e s m args below meth c A ls Q X hret hw hl => ?_)
  have hx := X.1.1
  have hb := X.1.2.1
  have hl : lv_has ls 2 [(0, .ref (ad 0)), (1, .int p1)] := hl
  unfold M_X2_moveOf at h
  refine lv_iload_n hx hb dX2_moveOf_0 rfl (lv_at hl 1 rfl) ?_
  refine lv_aload_n hx hb dX2_moveOf_1 rfl (lv_at hl 0 rfl) ?_
  refine SE_g_size X hw 0 rfl kf_X2_27 dX2_moveOf_2 ?_
  refine lv_icmp_ge (tgt := 12) hx hb dX2_moveOf_5 (by decide) (fun k5 => ?_) (fun k5 => ?_)
  · have h := itt k5 h
    refine lv_bipush (v := 20) hx hb dX2_moveOf_12 (by decide) ?_
    have h := Option.some.inj h
    subst h
    exact hret () dX2_moveOf_14 rfl hw
  · have h := itf k5 h
    refine lv_iload_n hx hb dX2_moveOf_8 rfl (lv_at hl 1 rfl) ?_
    refine lv_goto (tgt := 14) hx hb dX2_moveOf_9 (by decide) ?_
    have h := Option.some.inj h
    subst h
    exact hret () dX2_moveOf_14 rfl hw
theorem kM_X2_legalAt : kM yX2_legalAt cX2_legalAt 2 (some FieldType.int) 1 := ⟨kc_X2_legalAt, kn_RingsOff_Search, by decide +kernel⟩
abbrev R_X2_legalAt : Room := { frames := 0, cells := 0, slots := 0, locals := 0 }
set_option maxHeartbeats 4000000 in
set_option maxRecDepth 100000 in
theorem c_X2_legalAt (l : Launch) {ad : Nat → Nat} {N : Nat} {se : SE} {p1 : Int32} {out : Int32} (h : M_X2_legalAt N se p1 = some out) : gM l yX2_legalAt cX2_legalAt 2 (some FieldType.int) R_X2_legalAt (fun _ => [.ref (ad 0), .int p1]) (fun g => [wSE g ad se]) (gQi (fun (_ : Unit) => out) (fun g (_ : Unit) => [wSE g ad se])) := by
  refine gM.ofi (by decide +kernel) (fun _ => Nat.le_of_ble_eq_true rfl) (fun g p e s m args below meth c A ls Q X hret hw hl => ?_)
  have hx := X.1.1
  have hb := X.1.2.1
  have hl : lv_has ls 2 [(0, .ref (ad 0)), (1, .int p1)] := hl
  unfold M_X2_legalAt at h
  refine lv_iload_n hx hb dX2_legalAt_0 rfl (lv_at hl 1 rfl) ?_
  refine lv_if_lt (tgt := 28) hx hb dX2_legalAt_1 (by decide) (fun k1 => ?_) (fun k1 => ?_)
  · have h := itt k1 h
    refine lv_iconst (v := 0) hx hb dX2_legalAt_28 (by decide) ?_
    have h := Option.some.inj h
    subst h
    exact hret () dX2_legalAt_29 rfl hw
  · have h := itf k1 h
    refine lv_iload_n hx hb dX2_legalAt_4 rfl (lv_at hl 1 rfl) ?_
    refine lv_aload_n hx hb dX2_legalAt_5 rfl (lv_at hl 0 rfl) ?_
    refine SE_g_sets X hw 0 rfl kf_X2_31 dX2_legalAt_6 ?_
    refine lv_icmp_ge (tgt := 28) hx hb dX2_legalAt_9 (by decide) (fun k9 => ?_) (fun k9 => ?_)
    · have h := itt k9 h
      refine lv_iconst (v := 0) hx hb dX2_legalAt_28 (by decide) ?_
      have h := Option.some.inj h
      subst h
      exact hret () dX2_legalAt_29 rfl hw
    · have h := itf k9 h
      refine lv_iload_n hx hb dX2_legalAt_12 rfl (lv_at hl 1 rfl) ?_
      refine lv_sipush (v := 1024) hx hb dX2_legalAt_13 (by decide) ?_
      refine lv_icmp_ge (tgt := 28) hx hb dX2_legalAt_16 (by decide) (fun k16 => ?_) (fun k16 => ?_)
      · have h := itt k16 h
        refine lv_iconst (v := 0) hx hb dX2_legalAt_28 (by decide) ?_
        have h := Option.some.inj h
        subst h
        exact hret () dX2_legalAt_29 rfl hw
      · have h := itf k16 h
        refine lv_aload_n hx hb dX2_legalAt_19 rfl (lv_at hl 0 rfl) ?_
        refine SE_g_legal X hw 0 rfl kf_X2_9 dX2_legalAt_20 ?_
        refine lv_iload_n hx hb dX2_legalAt_23 rfl (lv_at hl 1 rfl) ?_
        obtain ⟨q24, h⟩ := chk h
        refine SE_l_legal X hw 0 rfl q24 dX2_legalAt_24 ?_
        refine lv_goto (tgt := 29) hx hb dX2_legalAt_25 (by decide) ?_
        have h := Option.some.inj h
        subst h
        exact hret () dX2_legalAt_29 rfl hw
theorem kM_X2_mayGo : kM yX2_mayGo cX2_mayGo 3 (some FieldType.boolean) 2 := ⟨kc_X2_mayGo, kn_RingsOff_Search, by decide +kernel⟩
abbrev R_X2_mayGo : Room := { frames := 1, cells := 0, slots := 0, locals := 21 }
set_option maxHeartbeats 4000000 in
set_option maxRecDepth 100000 in
theorem c_X2_mayGo (l : Launch) {ad : Nat → Nat} {N : Nat} {se : SE} {p1 : Int32} {p2 : Int32} {out : Int32} (h : M_X2_mayGo N se p1 p2 = some out) : gM l yX2_mayGo cX2_mayGo 3 (some FieldType.boolean) R_X2_mayGo (fun _ => [.ref (ad 0), .int p1, .int p2]) (fun g => [wSE g ad se]) (gQi (fun (_ : Unit) => out) (fun g (_ : Unit) => [wSE g ad se])) := by
  refine gM.ofz (by decide +kernel) (fun _ => Nat.le_of_ble_eq_true rfl) (fun g p e s m args below meth c A ls Q X hret hw hl => ?_)
  have hx := X.1.1
  have hb := X.1.2.1
  have hl : lv_has ls 3 [(0, .ref (ad 0)), (1, .int p1), (2, .int p2)] := hl
  unfold M_X2_mayGo at h
  refine lv_aload_n hx hb dX2_mayGo_0 rfl (lv_at hl 0 rfl) ?_
  refine lv_iload_n hx hb dX2_mayGo_1 rfl (lv_at hl 1 rfl) ?_
  obtain ⟨r2, h2, h⟩ := bnd h
  refine g_calli0 (isC := [0]) (gn := fun _ => [wSE g ad se]) (g_runV (isC := [0]) (rest := []) (As := [.int p1]) X hw (c_X2_legalAt l (ad := ad) h2) rfl kM_X2_legalAt ki_X2_legalAt ks_X2_legalAt km_X2_50 ⟨(Nat.le_of_ble_eq_true rfl), (Nat.le_of_ble_eq_true rfl)⟩ ⟨(Nat.le_of_ble_eq_true rfl), (Nat.le_of_ble_eq_true rfl)⟩ rfl rfl ⟨_, _, _, _, rfl, rfl, rfl, rfl⟩ rfl hl.1 rfl (Nat.le_of_ble_eq_true rfl) dX2_mayGo_2) hw rfl rfl (fun _ => (Nat.le_of_ble_eq_true rfl)) (fun _ => rfl) rfl rfl (fun _ H locs hw => ?_)
  refine lv_iload_n hx hb dX2_mayGo_5 rfl (lv_at hl 2 rfl) ?_
  refine lv_ishr hx hb dX2_mayGo_6 ?_
  refine lv_iconst (v := 1) hx hb dX2_mayGo_7 (by decide) ?_
  refine lv_iand hx hb dX2_mayGo_8 ?_
  refine lv_if_eq (tgt := 16) hx hb dX2_mayGo_9 (by decide) (fun k9 => ?_) (fun k9 => ?_)
  · have h := itt k9 h
    refine lv_iconst (v := 0) hx hb dX2_mayGo_16 (by decide) ?_
    have h := Option.some.inj h
    subst h
    exact hret () dX2_mayGo_17 (by decide) rfl hw
  · have h := itf k9 h
    refine lv_iconst (v := 1) hx hb dX2_mayGo_12 (by decide) ?_
    refine lv_goto (tgt := 17) hx hb dX2_mayGo_13 (by decide) ?_
    have h := Option.some.inj h
    subst h
    exact hret () dX2_mayGo_17 (by decide) rfl hw
theorem kM_X2_farOf : kM yX2_farOf cX2_farOf 2 (some FieldType.int) 1 := ⟨kc_X2_farOf, kn_RingsOff_Search, by decide +kernel⟩
abbrev R_X2_farOf : Room := { frames := 1, cells := 0, slots := 0, locals := 21 }
set_option maxHeartbeats 4000000 in
set_option maxRecDepth 100000 in
theorem c_X2_farOf (l : Launch) {ad : Nat → Nat} {N : Nat} {se : SE} {p1 : Int32} {out : Int32} (h : M_X2_farOf N se p1 = some out) : gM l yX2_farOf cX2_farOf 2 (some FieldType.int) R_X2_farOf (fun _ => [.ref (ad 0), .int p1]) (fun g => [wSE g ad se]) (gQi (fun (_ : Unit) => out) (fun g (_ : Unit) => [wSE g ad se])) := by
  refine gM.ofi (by decide +kernel) (fun _ => Nat.le_of_ble_eq_true rfl) (fun g p e s m args below meth c A ls Q X hret hw hl => ?_)
  have hx := X.1.1
  have hb := X.1.2.1
  have hl : lv_has ls 2 [(0, .ref (ad 0)), (1, .int p1)] := hl
  unfold M_X2_farOf at h
  refine lv_aload_n hx hb dX2_farOf_0 rfl (lv_at hl 0 rfl) ?_
  refine lv_iload_n hx hb dX2_farOf_1 rfl (lv_at hl 1 rfl) ?_
  obtain ⟨r2, h2, h⟩ := bnd h
  refine g_calli0 (isC := [0]) (gn := fun _ => [wSE g ad se]) (g_runV (isC := [0]) (rest := []) (As := [.int p1]) X hw (c_X2_isSet l (ad := ad) h2) rfl kM_X2_isSet ki_X2_isSet ks_X2_isSet km_X2_53 ⟨(Nat.le_of_ble_eq_true rfl), (Nat.le_of_ble_eq_true rfl)⟩ ⟨(Nat.le_of_ble_eq_true rfl), (Nat.le_of_ble_eq_true rfl)⟩ rfl rfl ⟨_, _, _, _, rfl, rfl, rfl, rfl⟩ rfl hl.1 rfl (Nat.le_of_ble_eq_true rfl) dX2_farOf_2) hw rfl rfl (fun _ => (Nat.le_of_ble_eq_true rfl)) (fun _ => rfl) rfl rfl (fun _ H locs hw => ?_)
  refine lv_if_eq (tgt := 17) hx hb dX2_farOf_5 (by decide) (fun k5 => ?_) (fun k5 => ?_)
  · have h := itt k5 h
    refine lv_iconst (v := -1) hx hb dX2_farOf_17 (by decide) ?_
    have h := Option.some.inj h
    subst h
    exact hret () dX2_farOf_18 rfl hw
  · have h := itf k5 h
    refine lv_aload_n hx hb dX2_farOf_8 rfl (lv_at hl 0 rfl) ?_
    refine SE_g_far X hw 0 rfl kf_X2_15 dX2_farOf_9 ?_
    refine lv_iload_n hx hb dX2_farOf_12 rfl (lv_at hl 1 rfl) ?_
    obtain ⟨q13, h⟩ := chk h
    refine SE_l_far X hw 0 rfl q13 dX2_farOf_13 ?_
    refine lv_goto (tgt := 18) hx hb dX2_farOf_14 (by decide) ?_
    have h := Option.some.inj h
    subst h
    exact hret () dX2_farOf_18 rfl hw
theorem kM_X2_foundAt : kM yX2_foundAt cX2_foundAt 2 (some FieldType.int) 1 := ⟨kc_X2_foundAt, kn_RingsOff_Search, by decide +kernel⟩
abbrev R_X2_foundAt : Room := { frames := 0, cells := 0, slots := 0, locals := 0 }
set_option maxHeartbeats 4000000 in
set_option maxRecDepth 100000 in
theorem c_X2_foundAt (l : Launch) {ad : Nat → Nat} {N : Nat} {se : SE} {p1 : Int32} {out : Int32} (h : M_X2_foundAt N se p1 = some out) : gM l yX2_foundAt cX2_foundAt 2 (some FieldType.int) R_X2_foundAt (fun _ => [.ref (ad 0), .int p1]) (fun g => [wSE g ad se]) (gQi (fun (_ : Unit) => out) (fun g (_ : Unit) => [wSE g ad se])) := by
  refine gM.ofi (by decide +kernel) (fun _ => Nat.le_of_ble_eq_true rfl) (fun g p e s m args below meth c A ls Q X hret hw hl => ?_)
  have hx := X.1.1
  have hb := X.1.2.1
  have hl : lv_has ls 2 [(0, .ref (ad 0)), (1, .int p1)] := hl
  unfold M_X2_foundAt at h
  refine lv_iload_n hx hb dX2_foundAt_0 rfl (lv_at hl 1 rfl) ?_
  refine lv_if_lt (tgt := 28) hx hb dX2_foundAt_1 (by decide) (fun k1 => ?_) (fun k1 => ?_)
  · have h := itt k1 h
    refine lv_iconst (v := -1) hx hb dX2_foundAt_28 (by decide) ?_
    have h := Option.some.inj h
    subst h
    exact hret () dX2_foundAt_29 rfl hw
  · have h := itf k1 h
    refine lv_iload_n hx hb dX2_foundAt_4 rfl (lv_at hl 1 rfl) ?_
    refine lv_aload_n hx hb dX2_foundAt_5 rfl (lv_at hl 0 rfl) ?_
    refine SE_g_found X hw 0 rfl kf_X2_34 dX2_foundAt_6 ?_
    refine lv_icmp_ge (tgt := 28) hx hb dX2_foundAt_9 (by decide) (fun k9 => ?_) (fun k9 => ?_)
    · have h := itt k9 h
      refine lv_iconst (v := -1) hx hb dX2_foundAt_28 (by decide) ?_
      have h := Option.some.inj h
      subst h
      exact hret () dX2_foundAt_29 rfl hw
    · have h := itf k9 h
      refine lv_iload_n hx hb dX2_foundAt_12 rfl (lv_at hl 1 rfl) ?_
      refine lv_sipush (v := 1024) hx hb dX2_foundAt_13 (by decide) ?_
      refine lv_icmp_ge (tgt := 28) hx hb dX2_foundAt_16 (by decide) (fun k16 => ?_) (fun k16 => ?_)
      · have h := itt k16 h
        refine lv_iconst (v := -1) hx hb dX2_foundAt_28 (by decide) ?_
        have h := Option.some.inj h
        subst h
        exact hret () dX2_foundAt_29 rfl hw
      · have h := itf k16 h
        refine lv_aload_n hx hb dX2_foundAt_19 rfl (lv_at hl 0 rfl) ?_
        refine SE_g_queue X hw 0 rfl kf_X2_18 dX2_foundAt_20 ?_
        refine lv_iload_n hx hb dX2_foundAt_23 rfl (lv_at hl 1 rfl) ?_
        obtain ⟨q24, h⟩ := chk h
        refine SE_l_queue X hw 0 rfl q24 dX2_foundAt_24 ?_
        refine lv_goto (tgt := 29) hx hb dX2_foundAt_25 (by decide) ?_
        have h := Option.some.inj h
        subst h
        exact hret () dX2_foundAt_29 rfl hw
theorem kM_X2_forget : kM yX2_forget cX2_forget 1 (none : Option Jvm.ClassFile.FieldType) 0 := ⟨kc_X2_forget, kn_RingsOff_Search, by decide +kernel⟩
abbrev R_X2_forget : Room := { frames := 1, cells := 0, slots := 0, locals := 23 }
set_option maxHeartbeats 4000000 in
set_option maxRecDepth 100000 in
theorem c_X2_forget (l : Launch) {ad : Nat → Nat} {N : Nat} {se : SE} {out : SE} (h : M_X2_forget N se = some out) : gM l yX2_forget cX2_forget 1 (none : Option Jvm.ClassFile.FieldType) R_X2_forget (fun _ => [.ref (ad 0)]) (fun g => [wSE g ad se]) (gQv (fun g (_ : Unit) => [wSE g ad out])) := by
  refine gM.ofv (by decide +kernel) (fun _ => Nat.le_of_ble_eq_true rfl) (fun g p e s m args below meth c A ls Q X hret hw hl => ?_)
  have hx := X.1.1
  have hb := X.1.2.1
  have hl : lv_has ls 1 [(0, .ref (ad 0))] := hl
  unfold M_X2_forget at h
  refine lv_aload_n hx hb dX2_forget_0 rfl (lv_at hl 0 rfl) ?_
  refine SE_g_far X hw 0 rfl kf_X2_15 dX2_forget_1 ?_
  refine lv_iconst (v := -1) hx hb dX2_forget_4 (by decide) ?_
  refine g_callv0 (isC := [0]) (gn := fun _ => [wSE g ad (SE_s_far se (fillf 1024 (-1 : Int32) (SE_far se)))]) (g_runS (isC := [0]) (rest := []) (As := [.ref (ad 2), .int (-1 : Int32)]) X hw (c_fill l (gs := fun g => [wSE g ad se]) (w := fun g => wSE g ad se) 0 2 (v := (-1 : Int32)) (fun _ => rfl) (fun _ => rfl) (by decide)) rfl kM_J7_fill_53178 kt_J7_fill_53178 km_X2_57 ⟨(Nat.le_of_ble_eq_true rfl), (Nat.le_of_ble_eq_true rfl)⟩ ⟨(Nat.le_of_ble_eq_true rfl), (Nat.le_of_ble_eq_true rfl)⟩ rfl rfl rfl hl.1 rfl (Nat.le_of_ble_eq_true rfl) dX2_forget_5) hw rfl rfl (fun _ => (Nat.le_of_ble_eq_true rfl)) (fun _ => rfl) rfl rfl (fun _ H locs hw => ?_)
  refine lv_aload_n hx hb dX2_forget_8 rfl (lv_at hl 0 rfl) ?_
  refine lv_iconst (v := 0) hx hb dX2_forget_9 (by decide) ?_
  refine SE_p_found (gs' := [wSE g ad (SE_s_found (SE_s_far se (fillf 1024 (-1 : Int32) (SE_far se))) (0 : Int32))]) X hw 0 rfl kf_X2_34 dX2_forget_10 rfl (fun H locs hw => ?_)
  have h := Option.some.inj h
  subst h
  exact hret () dX2_forget_13 hw
theorem kM_X2_isOpen : kM yX2_isOpen cX2_isOpen 7 (some FieldType.boolean) 4 := ⟨kc_X2_isOpen, kn_RingsOff_Search, by decide +kernel⟩
abbrev R_X2_isOpen : Room := { frames := 1, cells := 0, slots := 0, locals := 21 }
set_option maxHeartbeats 4000000 in
set_option maxRecDepth 100000 in
theorem c_X2_isOpen (l : Launch) {ad : Nat → Nat} {N : Nat} {se : SE} {p1 : Int32} {p2 : Int32} {p3 : Int32} {p4 : Int32} {out : Int32} (h : M_X2_isOpen N se p1 p2 p3 p4 = some out) : gM l yX2_isOpen cX2_isOpen 7 (some FieldType.boolean) R_X2_isOpen (fun _ => [.ref (ad 0), .int p1, .int p2, .int p3, .int p4]) (fun g => [wSE g ad se]) (gQi (fun (_ : Unit) => out) (fun g (_ : Unit) => [wSE g ad se])) := by
  refine gM.ofz (by decide +kernel) (fun _ => Nat.le_of_ble_eq_true rfl) (fun g p e s m args below meth c A ls Q X hret hw hl => ?_)
  have hx := X.1.1
  have hb := X.1.2.1
  have hl : lv_has ls 7 [(0, .ref (ad 0)), (1, .int p1), (2, .int p2), (3, .int p3), (4, .int p4)] := hl
  have J34 : ∀ (z34 : Int32 × Int32), M_X2_isOpen_j34 N se p1 p2 p3 p4 z34 = some out → ∀ (H : Heap) (locs : List Loc) (ls : Array Slot), gW g A s.heap [wSE g ad se] H locs → lv_has ls 7 [(3, .int p3), (5, .int z34.1)] → W p l e R_X2_isOpen s m args below meth c H locs 0 0 Q (F0 m 34 ls [.int z34.2]) := by
    intro z34 h H locs ls hw hl
    unfold M_X2_isOpen_j34 at h
    refine lv_istore (lv' := [(6, .int z34.2), (3, .int p3), (5, .int z34.1)]) hx hb dX2_isOpen_34 hl (by decide) rfl (fun ls hl => ?_)
    refine lv_iload hx hb dX2_isOpen_36 (lv_at hl 2 rfl) ?_
    refine lv_iload hx hb dX2_isOpen_38 (lv_at hl 0 rfl) ?_
    refine lv_ior hx hb dX2_isOpen_40 ?_
    refine lv_iload_n hx hb dX2_isOpen_41 rfl (lv_at hl 1 rfl) ?_
    refine lv_ishr hx hb dX2_isOpen_42 ?_
    refine lv_iconst (v := 1) hx hb dX2_isOpen_43 (by decide) ?_
    refine lv_iand hx hb dX2_isOpen_44 ?_
    refine lv_if_eq (tgt := 52) hx hb dX2_isOpen_45 (by decide) (fun k45 => ?_) (fun k45 => ?_)
    · have h := itt k45 h
      refine lv_iconst (v := 0) hx hb dX2_isOpen_52 (by decide) ?_
      have h := Option.some.inj h
      subst h
      exact hret () dX2_isOpen_53 (by decide) rfl hw
    · have h := itf k45 h
      refine lv_iconst (v := 1) hx hb dX2_isOpen_48 (by decide) ?_
      refine lv_goto (tgt := 53) hx hb dX2_isOpen_49 (by decide) ?_
      have h := Option.some.inj h
      subst h
      exact hret () dX2_isOpen_53 (by decide) rfl hw
  have J16 : ∀ (z16 : Int32), M_X2_isOpen_j16 N se p1 p2 p3 p4 z16 = some out → ∀ (H : Heap) (locs : List Loc) (ls : Array Slot), gW g A s.heap [wSE g ad se] H locs → lv_has ls 7 [(0, .ref (ad 0)), (2, .int p2), (3, .int p3), (4, .int p4)] → W p l e R_X2_isOpen s m args below meth c H locs 0 0 Q (F0 m 16 ls [.int z16]) := by
    intro z16 h H locs ls hw hl
    unfold M_X2_isOpen_j16 at h
    refine lv_istore (lv' := [(5, .int z16), (0, .ref (ad 0)), (2, .int p2), (3, .int p3), (4, .int p4)]) hx hb dX2_isOpen_16 hl (by decide) rfl (fun ls hl => ?_)
    refine lv_iload hx hb dX2_isOpen_18 (lv_at hl 4 rfl) ?_
    refine lv_iconst (v := 2) hx hb dX2_isOpen_20 (by decide) ?_
    refine lv_iand hx hb dX2_isOpen_21 ?_
    refine lv_if_eq (tgt := 33) hx hb dX2_isOpen_22 (by decide) (fun k22 => ?_) (fun k22 => ?_)
    · have h := itt k22 h
      refine lv_iconst (v := 0) hx hb dX2_isOpen_33 (by decide) ?_
      exact J34 _ h _ _ _ hw (lv_sub hl [3, 0] rfl)
    · have h := itf k22 h
      refine lv_aload_n hx hb dX2_isOpen_25 rfl (lv_at hl 1 rfl) ?_
      refine lv_iload_n hx hb dX2_isOpen_26 rfl (lv_at hl 2 rfl) ?_
      obtain ⟨r27, h27, h⟩ := bnd h
      refine g_calli0 (isC := [0]) (gn := fun _ => [wSE g ad se]) (g_runV (isC := [0]) (rest := []) (As := [.int p2]) X hw (c_X2_legalAt l (ad := ad) h27) rfl kM_X2_legalAt ki_X2_legalAt ks_X2_legalAt km_X2_50 ⟨(Nat.le_of_ble_eq_true rfl), (Nat.le_of_ble_eq_true rfl)⟩ ⟨(Nat.le_of_ble_eq_true rfl), (Nat.le_of_ble_eq_true rfl)⟩ rfl rfl ⟨_, _, _, _, rfl, rfl, rfl, rfl⟩ rfl hl.1 rfl (Nat.le_of_ble_eq_true rfl) dX2_isOpen_27) hw rfl rfl (fun _ => (Nat.le_of_ble_eq_true rfl)) (fun _ => rfl) rfl rfl (fun _ H locs hw => ?_)
      refine lv_goto (tgt := 34) hx hb dX2_isOpen_30 (by decide) ?_
      exact J34 _ h _ _ _ hw (lv_sub hl [3, 0] rfl)
  unfold M_X2_isOpen at h
  refine lv_iload hx hb dX2_isOpen_0 (lv_at hl 4 rfl) ?_
  refine lv_iconst (v := 1) hx hb dX2_isOpen_2 (by decide) ?_
  refine lv_iand hx hb dX2_isOpen_3 ?_
  refine lv_if_eq (tgt := 15) hx hb dX2_isOpen_4 (by decide) (fun k4 => ?_) (fun k4 => ?_)
  · have h := itt k4 h
    refine lv_iconst (v := 0) hx hb dX2_isOpen_15 (by decide) ?_
    exact J16 _ h _ _ _ hw (lv_sub hl [0, 2, 3, 4] rfl)
  · have h := itf k4 h
    refine lv_aload_n hx hb dX2_isOpen_7 rfl (lv_at hl 0 rfl) ?_
    refine lv_iload_n hx hb dX2_isOpen_8 rfl (lv_at hl 1 rfl) ?_
    obtain ⟨r9, h9, h⟩ := bnd h
    refine g_calli0 (isC := [0]) (gn := fun _ => [wSE g ad se]) (g_runV (isC := [0]) (rest := []) (As := [.int p1]) X hw (c_X2_legalAt l (ad := ad) h9) rfl kM_X2_legalAt ki_X2_legalAt ks_X2_legalAt km_X2_50 ⟨(Nat.le_of_ble_eq_true rfl), (Nat.le_of_ble_eq_true rfl)⟩ ⟨(Nat.le_of_ble_eq_true rfl), (Nat.le_of_ble_eq_true rfl)⟩ rfl rfl ⟨_, _, _, _, rfl, rfl, rfl, rfl⟩ rfl hl.1 rfl (Nat.le_of_ble_eq_true rfl) dX2_isOpen_9) hw rfl rfl (fun _ => (Nat.le_of_ble_eq_true rfl)) (fun _ => rfl) rfl rfl (fun _ H locs hw => ?_)
    refine lv_goto (tgt := 16) hx hb dX2_isOpen_12 (by decide) ?_
    exact J16 _ h _ _ _ hw (lv_sub hl [0, 2, 3, 4] rfl)
theorem kM_X2_note : kM yX2_note cX2_note 3 (none : Option Jvm.ClassFile.FieldType) 2 := ⟨kc_X2_note, kn_RingsOff_Search, by decide +kernel⟩
abbrev R_X2_note : Room := { frames := 1, cells := 0, slots := 0, locals := 21 }
set_option maxHeartbeats 4000000 in
set_option maxRecDepth 100000 in
theorem c_X2_note (l : Launch) {ad : Nat → Nat} {N : Nat} {se : SE} {p1 : Int32} {p2 : Int32} {out : SE} (h : M_X2_note N se p1 p2 = some out) : gM l yX2_note cX2_note 3 (none : Option Jvm.ClassFile.FieldType) R_X2_note (fun _ => [.ref (ad 0), .int p1, .int p2]) (fun g => [wSE g ad se]) (gQv (fun g (_ : Unit) => [wSE g ad out])) := by
  refine gM.ofv (by decide +kernel) (fun _ => Nat.le_of_ble_eq_true rfl) (fun g p e s m args below meth c A ls Q X hret hw hl => ?_)
  have hx := X.1.1
  have hb := X.1.2.1
  have hl : lv_has ls 3 [(0, .ref (ad 0)), (1, .int p1), (2, .int p2)] := hl
  unfold M_X2_note at h
  refine lv_aload_n hx hb dX2_note_0 rfl (lv_at hl 0 rfl) ?_
  refine lv_iload_n hx hb dX2_note_1 rfl (lv_at hl 1 rfl) ?_
  obtain ⟨r2, h2, h⟩ := bnd h
  refine g_calli0 (isC := [0]) (gn := fun _ => [wSE g ad se]) (g_runV (isC := [0]) (rest := []) (As := [.int p1]) X hw (c_X2_isSet l (ad := ad) h2) rfl kM_X2_isSet ki_X2_isSet ks_X2_isSet km_X2_53 ⟨(Nat.le_of_ble_eq_true rfl), (Nat.le_of_ble_eq_true rfl)⟩ ⟨(Nat.le_of_ble_eq_true rfl), (Nat.le_of_ble_eq_true rfl)⟩ rfl rfl ⟨_, _, _, _, rfl, rfl, rfl, rfl⟩ rfl hl.1 rfl (Nat.le_of_ble_eq_true rfl) dX2_note_2) hw rfl rfl (fun _ => (Nat.le_of_ble_eq_true rfl)) (fun _ => rfl) rfl rfl (fun _ H locs hw => ?_)
  refine lv_if_eq (tgt := 62) hx hb dX2_note_5 (by decide) (fun k5 => ?_) (fun k5 => ?_)
  · have h := itt k5 h
    have h := Option.some.inj h
    subst h
    exact hret () dX2_note_62 hw
  · have h := itf k5 h
    refine lv_aload_n hx hb dX2_note_8 rfl (lv_at hl 0 rfl) ?_
    refine SE_g_far X hw 0 rfl kf_X2_15 dX2_note_9 ?_
    refine lv_iload_n hx hb dX2_note_12 rfl (lv_at hl 1 rfl) ?_
    obtain ⟨q13, h⟩ := chk h
    refine SE_l_far X hw 0 rfl q13 dX2_note_13 ?_
    refine lv_iconst (v := -1) hx hb dX2_note_14 (by decide) ?_
    refine lv_icmp_ne (tgt := 62) hx hb dX2_note_15 (by decide) (fun k15 => ?_) (fun k15 => ?_)
    · have h := itt k15 h
      have h := Option.some.inj h
      subst h
      exact hret () dX2_note_62 hw
    · have h := itf (fun z => z k15) h
      refine lv_aload_n hx hb dX2_note_18 rfl (lv_at hl 0 rfl) ?_
      refine SE_g_found X hw 0 rfl kf_X2_34 dX2_note_19 ?_
      refine lv_if_lt (tgt := 62) hx hb dX2_note_22 (by decide) (fun k22 => ?_) (fun k22 => ?_)
      · have h := itt k22 h
        have h := Option.some.inj h
        subst h
        exact hret () dX2_note_62 hw
      · have h := itf k22 h
        refine lv_aload_n hx hb dX2_note_25 rfl (lv_at hl 0 rfl) ?_
        refine SE_g_found X hw 0 rfl kf_X2_34 dX2_note_26 ?_
        refine lv_sipush (v := 1024) hx hb dX2_note_29 (by decide) ?_
        refine lv_icmp_ge (tgt := 62) hx hb dX2_note_32 (by decide) (fun k32 => ?_) (fun k32 => ?_)
        · have h := itt k32 h
          have h := Option.some.inj h
          subst h
          exact hret () dX2_note_62 hw
        · have h := itf k32 h
          refine lv_aload_n hx hb dX2_note_35 rfl (lv_at hl 0 rfl) ?_
          refine SE_g_far X hw 0 rfl kf_X2_15 dX2_note_36 ?_
          refine lv_iload_n hx hb dX2_note_39 rfl (lv_at hl 1 rfl) ?_
          refine lv_iload_n hx hb dX2_note_40 rfl (lv_at hl 2 rfl) ?_
          obtain ⟨q41, h⟩ := chk h
          refine SE_a_far (gs' := [wSE g ad (SE_s_far se (upd (SE_far se) p1.toNatClampNeg p2))]) X hw 0 rfl q41 dX2_note_41 rfl (fun H locs hw => ?_)
          refine lv_aload_n hx hb dX2_note_42 rfl (lv_at hl 0 rfl) ?_
          refine SE_g_queue X hw 0 rfl kf_X2_18 dX2_note_43 ?_
          refine lv_aload_n hx hb dX2_note_46 rfl (lv_at hl 0 rfl) ?_
          refine SE_g_found X hw 0 rfl kf_X2_34 dX2_note_47 ?_
          refine lv_iload_n hx hb dX2_note_50 rfl (lv_at hl 1 rfl) ?_
          obtain ⟨q51, h⟩ := chk h
          refine SE_a_queue (gs' := [wSE g ad (SE_s_queue (SE_s_far se (upd (SE_far se) p1.toNatClampNeg p2)) (upd (SE_queue (SE_s_far se (upd (SE_far se) p1.toNatClampNeg p2))) (SE_found (SE_s_far se (upd (SE_far se) p1.toNatClampNeg p2))).toNatClampNeg p1))]) X hw 0 rfl q51 dX2_note_51 rfl (fun H locs hw => ?_)
          refine lv_aload_n hx hb dX2_note_52 rfl (lv_at hl 0 rfl) ?_
          refine lv_dup hx hb dX2_note_53 rfl ?_
          refine SE_g_found X hw 0 rfl kf_X2_34 dX2_note_54 ?_
          refine lv_iconst (v := 1) hx hb dX2_note_57 (by decide) ?_
          refine lv_iadd hx hb dX2_note_58 ?_
          refine SE_p_found (gs' := [wSE g ad (SE_s_found (SE_s_queue (SE_s_far se (upd (SE_far se) p1.toNatClampNeg p2)) (upd (SE_queue (SE_s_far se (upd (SE_far se) p1.toNatClampNeg p2))) (SE_found (SE_s_far se (upd (SE_far se) p1.toNatClampNeg p2))).toNatClampNeg p1)) ((SE_found (SE_s_queue (SE_s_far se (upd (SE_far se) p1.toNatClampNeg p2)) (upd (SE_queue (SE_s_far se (upd (SE_far se) p1.toNatClampNeg p2))) (SE_found (SE_s_far se (upd (SE_far se) p1.toNatClampNeg p2))).toNatClampNeg p1))) + (1 : Int32)))]) X hw 0 rfl kf_X2_34 dX2_note_59 rfl (fun H locs hw => ?_)
          have h := Option.some.inj h
          subst h
          exact hret () dX2_note_62 hw
theorem kM_X2_farthestSet : kM yX2_farthestSet cX2_farthestSet 3 (some FieldType.int) 0 := ⟨kc_X2_farthestSet, kn_RingsOff_Search, by decide +kernel⟩
abbrev R_X2_farthestSet : Room := { frames := 2, cells := 0, slots := 0, locals := 42 }
set_option maxHeartbeats 4000000 in
set_option maxRecDepth 100000 in
theorem c_X2_farthestSet (l : Launch) {ad : Nat → Nat} {N : Nat} {se : SE} {out : Int32} (h : M_X2_farthestSet N se = some out) : gM l yX2_farthestSet cX2_farthestSet 3 (some FieldType.int) R_X2_farthestSet (fun _ => [.ref (ad 0)]) (fun g => [wSE g ad se]) (gQi (fun (_ : Unit) => out) (fun g (_ : Unit) => [wSE g ad se])) := by
  refine gM.ofi (by decide +kernel) (fun _ => Nat.le_of_ble_eq_true rfl) (fun g p e s m args below meth c A ls Q X hret hw hl => ?_)
  have hx := X.1.1
  have hb := X.1.2.1
  have hl : lv_has ls 3 [(0, .ref (ad 0))] := hl
  have L8 : ∀ (n : Nat) (z8 : Int32 × Int32), lp (M_X2_farthestSet_l8 N se) n z8 = some out → ∀ (H : Heap) (locs : List Loc) (ls : Array Slot), gW g A s.heap [wSE g ad se] H locs → lv_has ls 3 [(0, .ref (ad 0)), (1, .int z8.1), (2, .int z8.2)] → W p l e R_X2_farthestSet s m args below meth c H locs 0 0 Q (F0 m 8 ls []) := by
    refine lp_ind ?_
    intro rec8 ih8
    have J31 : ∀ (z31 : Int32 × Int32), M_X2_farthestSet_j31 N se rec8 z31 = some out → ∀ (H : Heap) (locs : List Loc) (ls : Array Slot), gW g A s.heap [wSE g ad se] H locs → lv_has ls 3 [(0, .ref (ad 0)), (1, .int z31.1), (2, .int z31.2)] → W p l e R_X2_farthestSet s m args below meth c H locs 0 0 Q (F0 m 31 ls []) := by
      intro z31 h H locs ls hw hl
      unfold M_X2_farthestSet_j31 at h
      refine lv_iinc (v := (z31.2 + 1)) (lv' := [(2, .int (z31.2 + 1)), (0, .ref (ad 0)), (1, .int z31.1)]) hx hb dX2_farthestSet_31 hl (k := 2) rfl rfl (by decide) rfl (fun ls hl => ?_)
      refine lv_goto (tgt := 8) hx hb dX2_farthestSet_34 (by decide) ?_
      exact ih8 _ h _ _ _ hw (lv_sub hl [1, 2, 0] rfl)
    intro z8 h H locs ls hw hl
    unfold M_X2_farthestSet_l8 at h
    refine lv_iload_n hx hb dX2_farthestSet_8 rfl (lv_at hl 2 rfl) ?_
    refine lv_aload_n hx hb dX2_farthestSet_9 rfl (lv_at hl 0 rfl) ?_
    refine SE_g_sets X hw 0 rfl kf_X2_31 dX2_farthestSet_10 ?_
    refine lv_icmp_ge (tgt := 37) hx hb dX2_farthestSet_13 (by decide) (fun k13 => ?_) (fun k13 => ?_)
    · have h := itt k13 h
      refine lv_iload_n hx hb dX2_farthestSet_37 rfl (lv_at hl 1 rfl) ?_
      have h := Option.some.inj h
      subst h
      exact hret () dX2_farthestSet_38 rfl hw
    · have h := itf k13 h
      refine lv_aload_n hx hb dX2_farthestSet_16 rfl (lv_at hl 0 rfl) ?_
      refine lv_iload_n hx hb dX2_farthestSet_17 rfl (lv_at hl 2 rfl) ?_
      obtain ⟨r18, h18, h⟩ := bnd h
      refine g_calli0 (isC := [0]) (gn := fun _ => [wSE g ad se]) (g_runV (isC := [0]) (rest := []) (As := [.int z8.2]) X hw (c_X2_farOf l (ad := ad) h18) rfl kM_X2_farOf ki_X2_farOf ks_X2_farOf km_X2_76 ⟨(Nat.le_of_ble_eq_true rfl), (Nat.le_of_ble_eq_true rfl)⟩ ⟨(Nat.le_of_ble_eq_true rfl), (Nat.le_of_ble_eq_true rfl)⟩ rfl rfl ⟨_, _, _, _, rfl, rfl, rfl, rfl⟩ rfl hl.1 rfl (Nat.le_of_ble_eq_true rfl) dX2_farthestSet_18) hw rfl rfl (fun _ => (Nat.le_of_ble_eq_true rfl)) (fun _ => rfl) rfl rfl (fun _ H locs hw => ?_)
      refine lv_aload_n hx hb dX2_farthestSet_21 rfl (lv_at hl 0 rfl) ?_
      refine lv_iload_n hx hb dX2_farthestSet_22 rfl (lv_at hl 1 rfl) ?_
      obtain ⟨r23, h23, h⟩ := bnd h
      refine g_calli0 (isC := [0]) (gn := fun _ => [wSE g ad se]) (g_runV (isC := [0]) (rest := [.int r18]) (As := [.int z8.1]) X hw (c_X2_farOf l (ad := ad) h23) rfl kM_X2_farOf ki_X2_farOf ks_X2_farOf km_X2_76 ⟨(Nat.le_of_ble_eq_true rfl), (Nat.le_of_ble_eq_true rfl)⟩ ⟨(Nat.le_of_ble_eq_true rfl), (Nat.le_of_ble_eq_true rfl)⟩ rfl rfl ⟨_, _, _, _, rfl, rfl, rfl, rfl⟩ rfl hl.1 rfl (Nat.le_of_ble_eq_true rfl) dX2_farthestSet_23) hw rfl rfl (fun _ => (Nat.le_of_ble_eq_true rfl)) (fun _ => rfl) rfl rfl (fun _ H locs hw => ?_)
      refine lv_icmp_le (tgt := 31) hx hb dX2_farthestSet_26 (by decide) (fun k26 => ?_) (fun k26 => ?_)
      · have h := itt k26 h
        exact J31 _ h _ _ _ hw (lv_sub hl [0, 1, 2] rfl)
      · have h := itf k26 h
        refine lv_iload_n hx hb dX2_farthestSet_29 rfl (lv_at hl 2 rfl) ?_
        refine lv_istore_n (lv' := [(1, .int z8.2), (0, .ref (ad 0)), (2, .int z8.2)]) hx hb dX2_farthestSet_30 rfl hl (by decide) rfl (fun ls hl => ?_)
        exact J31 _ h _ _ _ hw (lv_sub hl [1, 0, 2] rfl)
  unfold M_X2_farthestSet at h
  refine lv_aload_n hx hb dX2_farthestSet_0 rfl (lv_at hl 0 rfl) ?_
  refine lv_iconst (v := 0) hx hb dX2_farthestSet_1 (by decide) ?_
  obtain ⟨r2, h2, h⟩ := bnd h
  refine g_calli0 (isC := [0]) (gn := fun _ => [wSE g ad se]) (g_runV (isC := [0]) (rest := []) (As := [.int (0 : Int32)]) X hw (c_X2_foundAt l (ad := ad) h2) rfl kM_X2_foundAt ki_X2_foundAt ks_X2_foundAt km_X2_73 ⟨(Nat.le_of_ble_eq_true rfl), (Nat.le_of_ble_eq_true rfl)⟩ ⟨(Nat.le_of_ble_eq_true rfl), (Nat.le_of_ble_eq_true rfl)⟩ rfl rfl ⟨_, _, _, _, rfl, rfl, rfl, rfl⟩ rfl hl.1 rfl (Nat.le_of_ble_eq_true rfl) dX2_farthestSet_2) hw rfl rfl (fun _ => (Nat.le_of_ble_eq_true rfl)) (fun _ => rfl) rfl rfl (fun _ H locs hw => ?_)
  refine lv_istore_n (lv' := [(1, .int r2), (0, .ref (ad 0))]) hx hb dX2_farthestSet_5 rfl hl (by decide) rfl (fun ls hl => ?_)
  refine lv_iconst (v := 0) hx hb dX2_farthestSet_6 (by decide) ?_
  refine lv_istore_n (lv' := [(2, .int (0 : Int32)), (1, .int r2), (0, .ref (ad 0))]) hx hb dX2_farthestSet_7 rfl hl (by decide) rfl (fun ls hl => ?_)
  exact L8 N _ h _ _ _ hw (lv_sub hl [2, 1, 0] rfl)
theorem kM_X2_addPart : kM yX2_addPart cX2_addPart 3 (none : Option Jvm.ClassFile.FieldType) 2 := ⟨kc_X2_addPart, kn_RingsOff_Search, by decide +kernel⟩
abbrev R_X2_addPart : Room := { frames := 1, cells := 0, slots := 0, locals := 21 }
set_option maxHeartbeats 4000000 in
set_option maxRecDepth 100000 in
theorem c_X2_addPart (l : Launch) {ad : Nat → Nat} {N : Nat} {se : SE} {p1 : Int32} {p2 : Int32} {out : SE} (h : M_X2_addPart N se p1 p2 = some out) : gM l yX2_addPart cX2_addPart 3 (none : Option Jvm.ClassFile.FieldType) R_X2_addPart (fun _ => [.ref (ad 0), .int p1, .int p2]) (fun g => [wSE g ad se]) (gQv (fun g (_ : Unit) => [wSE g ad out])) := by
  refine gM.ofv (by decide +kernel) (fun _ => Nat.le_of_ble_eq_true rfl) (fun g p e s m args below meth c A ls Q X hret hw hl => ?_)
  have hx := X.1.1
  have hb := X.1.2.1
  have hl : lv_has ls 3 [(0, .ref (ad 0)), (1, .int p1), (2, .int p2)] := hl
  unfold M_X2_addPart at h
  refine lv_aload_n hx hb dX2_addPart_0 rfl (lv_at hl 0 rfl) ?_
  refine lv_iload_n hx hb dX2_addPart_1 rfl (lv_at hl 1 rfl) ?_
  obtain ⟨r2, h2, h⟩ := bnd h
  refine g_calli0 (isC := [0]) (gn := fun _ => [wSE g ad se]) (g_runV (isC := [0]) (rest := []) (As := [.int p1]) X hw (c_X2_isSet l (ad := ad) h2) rfl kM_X2_isSet ki_X2_isSet ks_X2_isSet km_X2_53 ⟨(Nat.le_of_ble_eq_true rfl), (Nat.le_of_ble_eq_true rfl)⟩ ⟨(Nat.le_of_ble_eq_true rfl), (Nat.le_of_ble_eq_true rfl)⟩ rfl rfl ⟨_, _, _, _, rfl, rfl, rfl, rfl⟩ rfl hl.1 rfl (Nat.le_of_ble_eq_true rfl) dX2_addPart_2) hw rfl rfl (fun _ => (Nat.le_of_ble_eq_true rfl)) (fun _ => rfl) rfl rfl (fun _ H locs hw => ?_)
  refine lv_if_eq (tgt := 18) hx hb dX2_addPart_5 (by decide) (fun k5 => ?_) (fun k5 => ?_)
  · have h := itt k5 h
    have h := Option.some.inj h
    subst h
    exact hret () dX2_addPart_18 hw
  · have h := itf k5 h
    refine lv_aload_n hx hb dX2_addPart_8 rfl (lv_at hl 0 rfl) ?_
    refine SE_g_nextParts X hw 0 rfl kf_X2_24 dX2_addPart_9 ?_
    refine lv_iload_n hx hb dX2_addPart_12 rfl (lv_at hl 1 rfl) ?_
    refine lv_dup2_11 hx hb dX2_addPart_13 rfl rfl ?_
    obtain ⟨q14, h⟩ := chk h
    refine SE_l_nextParts X hw 0 rfl q14 dX2_addPart_14 ?_
    refine lv_iload_n hx hb dX2_addPart_15 rfl (lv_at hl 2 rfl) ?_
    refine lv_iadd hx hb dX2_addPart_16 ?_
    obtain ⟨q17, h⟩ := chk h
    refine SE_a_nextParts (gs' := [wSE g ad (SE_s_nextParts se (upd (SE_nextParts se) p1.toNatClampNeg ((SE_nextParts se p1.toNatClampNeg) + p2)))]) X hw 0 rfl q17 dX2_addPart_17 rfl (fun H locs hw => ?_)
    have h := Option.some.inj h
    subst h
    exact hret () dX2_addPart_18 hw
theorem kM_X2_spread : kM yX2_spread cX2_spread 9 (none : Option Jvm.ClassFile.FieldType) 2 := ⟨kc_X2_spread, kn_RingsOff_Search, by decide +kernel⟩
abbrev R_X2_spread : Room := { frames := 2, cells := 0, slots := 0, locals := 47 }
set_option maxHeartbeats 4000000 in
set_option maxRecDepth 100000 in
theorem c_X2_spread (l : Launch) {ad : Nat → Nat} {N : Nat} {se : SE} {p1 : Int32} {p2 : Int32} {out : SE} (h : M_X2_spread N se p1 p2 = some out) : gM l yX2_spread cX2_spread 9 (none : Option Jvm.ClassFile.FieldType) R_X2_spread (fun _ => [.ref (ad 0), .int p1, .int p2]) (fun g => [wSE g ad se]) (gQv (fun g (_ : Unit) => [wSE g ad out])) := by
  refine gM.ofv (by decide +kernel) (fun _ => Nat.le_of_ble_eq_true rfl) (fun g p e s m args below meth c A ls Q X hret hw hl => ?_)
  have hx := X.1.1
  have hb := X.1.2.1
  have hl : lv_has ls 9 [(0, .ref (ad 0)), (1, .int p1), (2, .int p2)] := hl
  have L11 : ∀ (n : Nat) (z11 : SE × Int32), lp (M_X2_spread_l11 N p1 p2) n z11 = some out → ∀ (H : Heap) (locs : List Loc) (ls : Array Slot), gW g A s.heap [wSE g ad z11.1] H locs → lv_has ls 9 [(0, .ref (ad 0)), (2, .int p2), (3, .int z11.2)] → W p l e R_X2_spread s m args below meth c H locs 0 0 Q (F0 m 11 ls []) := by
    refine lp_ind ?_
    intro rec11 ih11
    have L46 : ∀ (n : Nat) (z46 : SE × Int32 × Int32 × Int32 × Int32), lp (M_X2_spread_l46 N p1 p2 rec11) n z46 = some out → ∀ (H : Heap) (locs : List Loc) (ls : Array Slot), gW g A s.heap [wSE g ad z46.1] H locs → lv_has ls 9 [(0, .ref (ad 0)), (2, .int p2), (3, .int z46.2.1), (4, .int z46.2.2.1), (5, .int z46.2.2.2.1), (6, .int z46.2.2.2.2)] → W p l e R_X2_spread s m args below meth c H locs 0 0 Q (F0 m 46 ls []) := by
      refine lp_ind ?_
      intro rec46 ih46
      have J95 : ∀ (z95 : SE × Int32 × Int32 × Int32 × Int32), M_X2_spread_j95 N p1 p2 rec11 rec46 z95 = some out → ∀ (H : Heap) (locs : List Loc) (ls : Array Slot), gW g A s.heap [wSE g ad z95.1] H locs → lv_has ls 9 [(0, .ref (ad 0)), (2, .int p2), (3, .int z95.2.1), (4, .int z95.2.2.1), (5, .int z95.2.2.2.1), (6, .int z95.2.2.2.2)] → W p l e R_X2_spread s m args below meth c H locs 0 0 Q (F0 m 95 ls []) := by
        intro z95 h H locs ls hw hl
        unfold M_X2_spread_j95 at h
        refine lv_iinc (v := (z95.2.2.2.2 + 1)) (lv' := [(6, .int (z95.2.2.2.2 + 1)), (0, .ref (ad 0)), (2, .int p2), (3, .int z95.2.1), (4, .int z95.2.2.1), (5, .int z95.2.2.2.1)]) hx hb dX2_spread_95 hl (k := 5) rfl rfl (by decide) rfl (fun ls hl => ?_)
        refine lv_goto (tgt := 46) hx hb dX2_spread_98 (by decide) ?_
        exact ih46 _ h _ _ _ hw (lv_sub hl [1, 2, 3, 4, 5, 0] rfl)
      intro z46 h H locs ls hw hl
      unfold M_X2_spread_l46 at h
      refine lv_iload hx hb dX2_spread_46 (lv_at hl 5 rfl) ?_
      refine lv_aload_n hx hb dX2_spread_48 rfl (lv_at hl 0 rfl) ?_
      refine SE_g_size X hw 0 rfl kf_X2_27 dX2_spread_49 ?_
      refine lv_icmp_gt (tgt := 101) hx hb dX2_spread_52 (by decide) (fun k52 => ?_) (fun k52 => ?_)
      · have h := itt k52 h
        refine lv_iinc (v := (z46.2.1 + 1)) (lv' := [(3, .int (z46.2.1 + 1)), (0, .ref (ad 0)), (2, .int p2), (4, .int z46.2.2.1), (5, .int z46.2.2.2.1), (6, .int z46.2.2.2.2)]) hx hb dX2_spread_101 hl (k := 2) rfl rfl (by decide) rfl (fun ls hl => ?_)
        refine lv_goto (tgt := 11) hx hb dX2_spread_104 (by decide) ?_
        exact ih11 _ h _ _ _ hw (lv_sub hl [1, 2, 0] rfl)
      · have h := itf k52 h
        refine lv_aload_n hx hb dX2_spread_55 rfl (lv_at hl 0 rfl) ?_
        refine lv_iload hx hb dX2_spread_56 (lv_at hl 5 rfl) ?_
        obtain ⟨r58, h58, h⟩ := bnd h
        refine g_calli0 (isC := [0]) (gn := fun _ => [wSE g ad z46.1]) (g_runV (isC := [0]) (rest := []) (As := [.int z46.2.2.2.2]) X hw (c_X2_moveOf l (ad := ad) h58) rfl kM_X2_moveOf ki_X2_moveOf ks_X2_moveOf km_X2_79 ⟨(Nat.le_of_ble_eq_true rfl), (Nat.le_of_ble_eq_true rfl)⟩ ⟨(Nat.le_of_ble_eq_true rfl), (Nat.le_of_ble_eq_true rfl)⟩ rfl rfl ⟨_, _, _, _, rfl, rfl, rfl, rfl⟩ rfl hl.1 rfl (Nat.le_of_ble_eq_true rfl) dX2_spread_58) hw rfl rfl (fun _ => (Nat.le_of_ble_eq_true rfl)) (fun _ => rfl) rfl rfl (fun _ H locs hw => ?_)
        refine lv_istore (lv' := [(7, .int r58), (0, .ref (ad 0)), (2, .int p2), (3, .int z46.2.1), (4, .int z46.2.2.1), (5, .int z46.2.2.2.1), (6, .int z46.2.2.2.2)]) hx hb dX2_spread_61 hl (by decide) rfl (fun ls hl => ?_)
        refine lv_iload hx hb dX2_spread_63 (lv_at hl 4 rfl) ?_
        refine lv_iload hx hb dX2_spread_65 (lv_at hl 0 rfl) ?_
        obtain ⟨r67, h67, h⟩ := bnd h
        refine g_calli0 (isC := []) (gn := fun _ => [wSE g ad z46.1]) (g_runSN (isC := []) (rest := [.int z46.2.2.1]) (As := [.int r58]) X hw (c_X5_ringsOf l h67) rfl kM_X5_ringsOf kt_X5_ringsOf km_X2_82 ⟨(Nat.le_of_ble_eq_true rfl), (Nat.le_of_ble_eq_true rfl)⟩ ⟨(Nat.le_of_ble_eq_true rfl), (Nat.le_of_ble_eq_true rfl)⟩ rfl rfl rfl hl.1 rfl (Nat.le_of_ble_eq_true rfl) dX2_spread_67) hw rfl rfl (fun _ => (Nat.le_of_ble_eq_true rfl)) (fun _ => rfl) rfl rfl (fun _ H locs hw => ?_)
        refine lv_ixor hx hb dX2_spread_70 ?_
        refine lv_istore (lv' := [(8, .int (z46.2.2.1 ^^^ r67)), (7, .int r58), (0, .ref (ad 0)), (2, .int p2), (3, .int z46.2.1), (4, .int z46.2.2.1), (5, .int z46.2.2.2.1), (6, .int z46.2.2.2.2)]) hx hb dX2_spread_71 hl (by decide) rfl (fun ls hl => ?_)
        refine lv_aload_n hx hb dX2_spread_73 rfl (lv_at hl 2 rfl) ?_
        refine lv_iload hx hb dX2_spread_74 (lv_at hl 5 rfl) ?_
        refine lv_iload hx hb dX2_spread_76 (lv_at hl 0 rfl) ?_
        refine lv_iload hx hb dX2_spread_78 (lv_at hl 1 rfl) ?_
        refine lv_iload_n hx hb dX2_spread_80 rfl (lv_at hl 3 rfl) ?_
        obtain ⟨r81, h81, h⟩ := bnd h
        refine g_calli0 (isC := [0]) (gn := fun _ => [wSE g ad z46.1]) (g_runV (isC := [0]) (rest := []) (As := [.int z46.2.2.1, .int (z46.2.2.1 ^^^ r67), .int r58, .int p2]) X hw (c_X2_isOpen l (ad := ad) h81) rfl kM_X2_isOpen ki_X2_isOpen ks_X2_isOpen km_X2_85 ⟨(Nat.le_of_ble_eq_true rfl), (Nat.le_of_ble_eq_true rfl)⟩ ⟨(Nat.le_of_ble_eq_true rfl), (Nat.le_of_ble_eq_true rfl)⟩ rfl rfl ⟨_, _, _, _, rfl, rfl, rfl, rfl⟩ rfl hl.1 rfl (Nat.le_of_ble_eq_true rfl) dX2_spread_81) hw rfl rfl (fun _ => (Nat.le_of_ble_eq_true rfl)) (fun _ => rfl) rfl rfl (fun _ H locs hw => ?_)
        refine lv_if_eq (tgt := 95) hx hb dX2_spread_84 (by decide) (fun k84 => ?_) (fun k84 => ?_)
        · have h := itt k84 h
          exact J95 _ h _ _ _ hw (lv_sub hl [2, 3, 4, 5, 6, 7] rfl)
        · have h := itf k84 h
          refine lv_aload_n hx hb dX2_spread_87 rfl (lv_at hl 2 rfl) ?_
          refine lv_iload hx hb dX2_spread_88 (lv_at hl 0 rfl) ?_
          refine lv_iload hx hb dX2_spread_90 (lv_at hl 6 rfl) ?_
          obtain ⟨r92, h92, h⟩ := bnd h
          refine g_callv0 (isC := [0]) (gn := fun _ => [wSE g ad r92]) (g_runV (isC := [0]) (rest := []) (As := [.int (z46.2.2.1 ^^^ r67), .int z46.2.2.2.1]) X hw (c_X2_note l (ad := ad) h92) rfl kM_X2_note ki_X2_note ks_X2_note km_X2_70 ⟨(Nat.le_of_ble_eq_true rfl), (Nat.le_of_ble_eq_true rfl)⟩ ⟨(Nat.le_of_ble_eq_true rfl), (Nat.le_of_ble_eq_true rfl)⟩ rfl rfl ⟨_, _, _, _, rfl, rfl, rfl, rfl⟩ rfl hl.1 rfl (Nat.le_of_ble_eq_true rfl) dX2_spread_92) hw rfl rfl (fun _ => (Nat.le_of_ble_eq_true rfl)) (fun _ => rfl) rfl rfl (fun _ H locs hw => ?_)
          exact J95 _ h _ _ _ hw (lv_sub hl [2, 3, 4, 5, 6, 7] rfl)
    intro z11 h H locs ls hw hl
    unfold M_X2_spread_l11 at h
    refine lv_iload_n hx hb dX2_spread_11 rfl (lv_at hl 2 rfl) ?_
    refine lv_aload_n hx hb dX2_spread_12 rfl (lv_at hl 0 rfl) ?_
    refine SE_g_found X hw 0 rfl kf_X2_34 dX2_spread_13 ?_
    refine lv_icmp_ge (tgt := 107) hx hb dX2_spread_16 (by decide) (fun k16 => ?_) (fun k16 => ?_)
    · have h := itt k16 h
      have h := Option.some.inj h
      subst h
      exact hret () dX2_spread_107 hw
    · have h := itf k16 h
      refine lv_iload_n hx hb dX2_spread_19 rfl (lv_at hl 2 rfl) ?_
      refine lv_sipush (v := 1024) hx hb dX2_spread_20 (by decide) ?_
      refine lv_icmp_ge (tgt := 107) hx hb dX2_spread_23 (by decide) (fun k23 => ?_) (fun k23 => ?_)
      · have h := itt k23 h
        have h := Option.some.inj h
        subst h
        exact hret () dX2_spread_107 hw
      · have h := itf k23 h
        refine lv_aload_n hx hb dX2_spread_26 rfl (lv_at hl 0 rfl) ?_
        refine lv_iload_n hx hb dX2_spread_27 rfl (lv_at hl 2 rfl) ?_
        obtain ⟨r28, h28, h⟩ := bnd h
        refine g_calli0 (isC := [0]) (gn := fun _ => [wSE g ad z11.1]) (g_runV (isC := [0]) (rest := []) (As := [.int z11.2]) X hw (c_X2_foundAt l (ad := ad) h28) rfl kM_X2_foundAt ki_X2_foundAt ks_X2_foundAt km_X2_73 ⟨(Nat.le_of_ble_eq_true rfl), (Nat.le_of_ble_eq_true rfl)⟩ ⟨(Nat.le_of_ble_eq_true rfl), (Nat.le_of_ble_eq_true rfl)⟩ rfl rfl ⟨_, _, _, _, rfl, rfl, rfl, rfl⟩ rfl hl.1 rfl (Nat.le_of_ble_eq_true rfl) dX2_spread_28) hw rfl rfl (fun _ => (Nat.le_of_ble_eq_true rfl)) (fun _ => rfl) rfl rfl (fun _ H locs hw => ?_)
        refine lv_istore (lv' := [(4, .int r28), (0, .ref (ad 0)), (2, .int p2), (3, .int z11.2)]) hx hb dX2_spread_31 hl (by decide) rfl (fun ls hl => ?_)
        refine lv_aload_n hx hb dX2_spread_33 rfl (lv_at hl 1 rfl) ?_
        refine lv_iload hx hb dX2_spread_34 (lv_at hl 0 rfl) ?_
        obtain ⟨r36, h36, h⟩ := bnd h
        refine g_calli0 (isC := [0]) (gn := fun _ => [wSE g ad z11.1]) (g_runV (isC := [0]) (rest := []) (As := [.int r28]) X hw (c_X2_farOf l (ad := ad) h36) rfl kM_X2_farOf ki_X2_farOf ks_X2_farOf km_X2_76 ⟨(Nat.le_of_ble_eq_true rfl), (Nat.le_of_ble_eq_true rfl)⟩ ⟨(Nat.le_of_ble_eq_true rfl), (Nat.le_of_ble_eq_true rfl)⟩ rfl rfl ⟨_, _, _, _, rfl, rfl, rfl, rfl⟩ rfl hl.1 rfl (Nat.le_of_ble_eq_true rfl) dX2_spread_36) hw rfl rfl (fun _ => (Nat.le_of_ble_eq_true rfl)) (fun _ => rfl) rfl rfl (fun _ H locs hw => ?_)
        refine lv_iconst (v := 1) hx hb dX2_spread_39 (by decide) ?_
        refine lv_iadd hx hb dX2_spread_40 ?_
        refine lv_istore (lv' := [(5, .int (r36 + (1 : Int32))), (4, .int r28), (0, .ref (ad 0)), (2, .int p2), (3, .int z11.2)]) hx hb dX2_spread_41 hl (by decide) rfl (fun ls hl => ?_)
        refine lv_iconst (v := 0) hx hb dX2_spread_43 (by decide) ?_
        refine lv_istore (lv' := [(6, .int (0 : Int32)), (5, .int (r36 + (1 : Int32))), (4, .int r28), (0, .ref (ad 0)), (2, .int p2), (3, .int z11.2)]) hx hb dX2_spread_44 hl (by decide) rfl (fun ls hl => ?_)
        exact L46 N _ h _ _ _ hw (lv_sub hl [3, 4, 5, 2, 1, 0] rfl)
  unfold M_X2_spread at h
  refine lv_aload_n hx hb dX2_spread_0 rfl (lv_at hl 0 rfl) ?_
  refine SE_g_found X hw 0 rfl kf_X2_34 dX2_spread_1 ?_
  refine lv_istore_n (lv' := [(3, .int (SE_found se)), (0, .ref (ad 0)), (1, .int p1), (2, .int p2)]) hx hb dX2_spread_4 rfl hl (by decide) rfl (fun ls hl => ?_)
  refine lv_aload_n hx hb dX2_spread_5 rfl (lv_at hl 1 rfl) ?_
  refine lv_iload_n hx hb dX2_spread_6 rfl (lv_at hl 2 rfl) ?_
  refine lv_iconst (v := 0) hx hb dX2_spread_7 (by decide) ?_
  obtain ⟨r8, h8, h⟩ := bnd h
  refine g_callv0 (isC := [0]) (gn := fun _ => [wSE g ad r8]) (g_runV (isC := [0]) (rest := []) (As := [.int p1, .int (0 : Int32)]) X hw (c_X2_note l (ad := ad) h8) rfl kM_X2_note ki_X2_note ks_X2_note km_X2_70 ⟨(Nat.le_of_ble_eq_true rfl), (Nat.le_of_ble_eq_true rfl)⟩ ⟨(Nat.le_of_ble_eq_true rfl), (Nat.le_of_ble_eq_true rfl)⟩ rfl rfl ⟨_, _, _, _, rfl, rfl, rfl, rfl⟩ rfl hl.1 rfl (Nat.le_of_ble_eq_true rfl) dX2_spread_8) hw rfl rfl (fun _ => (Nat.le_of_ble_eq_true rfl)) (fun _ => rfl) rfl rfl (fun _ H locs hw => ?_)
  exact L11 N _ h _ _ _ hw (lv_sub hl [1, 3, 0] rfl)
theorem kM_X2_nextMove : kM yX2_nextMove cX2_nextMove 5 (some FieldType.int) 1 := ⟨kc_X2_nextMove, kn_RingsOff_Search, by decide +kernel⟩
abbrev R_X2_nextMove : Room := { frames := 2, cells := 0, slots := 0, locals := 43 }
set_option maxHeartbeats 4000000 in
set_option maxRecDepth 100000 in
theorem c_X2_nextMove (l : Launch) {ad : Nat → Nat} {N : Nat} {se : SE} {p1 : Int32} {out : Int32} (h : M_X2_nextMove N se p1 = some out) : gM l yX2_nextMove cX2_nextMove 5 (some FieldType.int) R_X2_nextMove (fun _ => [.ref (ad 0), .int p1]) (fun g => [wSE g ad se]) (gQi (fun (_ : Unit) => out) (fun g (_ : Unit) => [wSE g ad se])) := by
  refine gM.ofi (by decide +kernel) (fun _ => Nat.le_of_ble_eq_true rfl) (fun g p e s m args below meth c A ls Q X hret hw hl => ?_)
  have hx := X.1.1
  have hb := X.1.2.1
  have hl : lv_has ls 5 [(0, .ref (ad 0)), (1, .int p1)] := hl
  have L8 : ∀ (n : Nat) (z8 : Int32 × Int32), lp (M_X2_nextMove_l8 N se p1) n z8 = some out → ∀ (H : Heap) (locs : List Loc) (ls : Array Slot), gW g A s.heap [wSE g ad se] H locs → lv_has ls 5 [(0, .ref (ad 0)), (1, .int p1), (2, .int z8.1), (3, .int z8.2)] → W p l e R_X2_nextMove s m args below meth c H locs 0 0 Q (F0 m 8 ls []) := by
    refine lp_ind ?_
    intro rec8 ih8
    have J57 : ∀ (z57 : Int32 × Int32), M_X2_nextMove_j57 N se p1 rec8 z57 = some out → ∀ (H : Heap) (locs : List Loc) (ls : Array Slot), gW g A s.heap [wSE g ad se] H locs → lv_has ls 5 [(0, .ref (ad 0)), (1, .int p1), (2, .int z57.1), (3, .int z57.2)] → W p l e R_X2_nextMove s m args below meth c H locs 0 0 Q (F0 m 57 ls []) := by
      intro z57 h H locs ls hw hl
      unfold M_X2_nextMove_j57 at h
      refine lv_iinc (v := (z57.2 + 1)) (lv' := [(3, .int (z57.2 + 1)), (0, .ref (ad 0)), (1, .int p1), (2, .int z57.1)]) hx hb dX2_nextMove_57 hl (k := 3) rfl rfl (by decide) rfl (fun ls hl => ?_)
      refine lv_goto (tgt := 8) hx hb dX2_nextMove_60 (by decide) ?_
      exact ih8 _ h _ _ _ hw (lv_sub hl [1, 2, 3, 0] rfl)
    intro z8 h H locs ls hw hl
    unfold M_X2_nextMove_l8 at h
    refine lv_iload_n hx hb dX2_nextMove_8 rfl (lv_at hl 3 rfl) ?_
    refine lv_aload_n hx hb dX2_nextMove_9 rfl (lv_at hl 0 rfl) ?_
    refine SE_g_size X hw 0 rfl kf_X2_27 dX2_nextMove_10 ?_
    refine lv_icmp_gt (tgt := 63) hx hb dX2_nextMove_13 (by decide) (fun k13 => ?_) (fun k13 => ?_)
    · have h := itt k13 h
      refine lv_iconst (v := -1) hx hb dX2_nextMove_63 (by decide) ?_
      have h := Option.some.inj h
      subst h
      exact hret () dX2_nextMove_64 rfl hw
    · have h := itf k13 h
      refine lv_iload_n hx hb dX2_nextMove_16 rfl (lv_at hl 2 rfl) ?_
      refine lv_if_le (tgt := 63) hx hb dX2_nextMove_17 (by decide) (fun k17 => ?_) (fun k17 => ?_)
      · have h := itt k17 h
        refine lv_iconst (v := -1) hx hb dX2_nextMove_63 (by decide) ?_
        have h := Option.some.inj h
        subst h
        exact hret () dX2_nextMove_64 rfl hw
      · have h := itf k17 h
        refine lv_aload_n hx hb dX2_nextMove_20 rfl (lv_at hl 0 rfl) ?_
        refine lv_iload_n hx hb dX2_nextMove_21 rfl (lv_at hl 3 rfl) ?_
        obtain ⟨r22, h22, h⟩ := bnd h
        refine g_calli0 (isC := [0]) (gn := fun _ => [wSE g ad se]) (g_runV (isC := [0]) (rest := []) (As := [.int z8.2]) X hw (c_X2_moveOf l (ad := ad) h22) rfl kM_X2_moveOf ki_X2_moveOf ks_X2_moveOf km_X2_79 ⟨(Nat.le_of_ble_eq_true rfl), (Nat.le_of_ble_eq_true rfl)⟩ ⟨(Nat.le_of_ble_eq_true rfl), (Nat.le_of_ble_eq_true rfl)⟩ rfl rfl ⟨_, _, _, _, rfl, rfl, rfl, rfl⟩ rfl hl.1 rfl (Nat.le_of_ble_eq_true rfl) dX2_nextMove_22) hw rfl rfl (fun _ => (Nat.le_of_ble_eq_true rfl)) (fun _ => rfl) rfl rfl (fun _ H locs hw => ?_)
        refine lv_istore (lv' := [(4, .int r22), (0, .ref (ad 0)), (1, .int p1), (2, .int z8.1), (3, .int z8.2)]) hx hb dX2_nextMove_25 hl (by decide) rfl (fun ls hl => ?_)
        refine lv_aload_n hx hb dX2_nextMove_27 rfl (lv_at hl 1 rfl) ?_
        refine lv_iload_n hx hb dX2_nextMove_28 rfl (lv_at hl 2 rfl) ?_
        refine lv_iload hx hb dX2_nextMove_29 (lv_at hl 0 rfl) ?_
        obtain ⟨r31, h31, h⟩ := bnd h
        refine g_calli0 (isC := [0]) (gn := fun _ => [wSE g ad se]) (g_runV (isC := [0]) (rest := []) (As := [.int p1, .int r22]) X hw (c_X2_mayGo l (ad := ad) h31) rfl kM_X2_mayGo ki_X2_mayGo ks_X2_mayGo km_X2_89 ⟨(Nat.le_of_ble_eq_true rfl), (Nat.le_of_ble_eq_true rfl)⟩ ⟨(Nat.le_of_ble_eq_true rfl), (Nat.le_of_ble_eq_true rfl)⟩ rfl rfl ⟨_, _, _, _, rfl, rfl, rfl, rfl⟩ rfl hl.1 rfl (Nat.le_of_ble_eq_true rfl) dX2_nextMove_31) hw rfl rfl (fun _ => (Nat.le_of_ble_eq_true rfl)) (fun _ => rfl) rfl rfl (fun _ H locs hw => ?_)
        refine lv_if_eq (tgt := 57) hx hb dX2_nextMove_34 (by decide) (fun k34 => ?_) (fun k34 => ?_)
        · have h := itt k34 h
          exact J57 _ h _ _ _ hw (lv_sub hl [1, 2, 3, 4] rfl)
        · have h := itf k34 h
          refine lv_aload_n hx hb dX2_nextMove_37 rfl (lv_at hl 1 rfl) ?_
          refine lv_iload_n hx hb dX2_nextMove_38 rfl (lv_at hl 2 rfl) ?_
          refine lv_iload hx hb dX2_nextMove_39 (lv_at hl 0 rfl) ?_
          obtain ⟨r41, h41, h⟩ := bnd h
          refine g_calli0 (isC := []) (gn := fun _ => [wSE g ad se]) (g_runSN (isC := []) (rest := [.int p1, .ref (ad 0)]) (As := [.int r22]) X hw (c_X5_ringsOf l h41) rfl kM_X5_ringsOf kt_X5_ringsOf km_X2_82 ⟨(Nat.le_of_ble_eq_true rfl), (Nat.le_of_ble_eq_true rfl)⟩ ⟨(Nat.le_of_ble_eq_true rfl), (Nat.le_of_ble_eq_true rfl)⟩ rfl rfl rfl hl.1 rfl (Nat.le_of_ble_eq_true rfl) dX2_nextMove_41) hw rfl rfl (fun _ => (Nat.le_of_ble_eq_true rfl)) (fun _ => rfl) rfl rfl (fun _ H locs hw => ?_)
          refine lv_ixor hx hb dX2_nextMove_44 ?_
          obtain ⟨r45, h45, h⟩ := bnd h
          refine g_calli0 (isC := [0]) (gn := fun _ => [wSE g ad se]) (g_runV (isC := [0]) (rest := []) (As := [.int (p1 ^^^ r41)]) X hw (c_X2_farOf l (ad := ad) h45) rfl kM_X2_farOf ki_X2_farOf ks_X2_farOf km_X2_76 ⟨(Nat.le_of_ble_eq_true rfl), (Nat.le_of_ble_eq_true rfl)⟩ ⟨(Nat.le_of_ble_eq_true rfl), (Nat.le_of_ble_eq_true rfl)⟩ rfl rfl ⟨_, _, _, _, rfl, rfl, rfl, rfl⟩ rfl hl.1 rfl (Nat.le_of_ble_eq_true rfl) dX2_nextMove_45) hw rfl rfl (fun _ => (Nat.le_of_ble_eq_true rfl)) (fun _ => rfl) rfl rfl (fun _ H locs hw => ?_)
          refine lv_iload_n hx hb dX2_nextMove_48 rfl (lv_at hl 3 rfl) ?_
          refine lv_iconst (v := 1) hx hb dX2_nextMove_49 (by decide) ?_
          refine lv_isub hx hb dX2_nextMove_50 ?_
          refine lv_icmp_ne (tgt := 57) hx hb dX2_nextMove_51 (by decide) (fun k51 => ?_) (fun k51 => ?_)
          · have h := itt k51 h
            exact J57 _ h _ _ _ hw (lv_sub hl [1, 2, 3, 4] rfl)
          · have h := itf (fun z => z k51) h
            refine lv_iload hx hb dX2_nextMove_54 (lv_at hl 0 rfl) ?_
            have h := Option.some.inj h
            subst h
            exact hret () dX2_nextMove_56 rfl hw
  unfold M_X2_nextMove at h
  refine lv_aload_n hx hb dX2_nextMove_0 rfl (lv_at hl 0 rfl) ?_
  refine lv_iload_n hx hb dX2_nextMove_1 rfl (lv_at hl 1 rfl) ?_
  obtain ⟨r2, h2, h⟩ := bnd h
  refine g_calli0 (isC := [0]) (gn := fun _ => [wSE g ad se]) (g_runV (isC := [0]) (rest := []) (As := [.int p1]) X hw (c_X2_farOf l (ad := ad) h2) rfl kM_X2_farOf ki_X2_farOf ks_X2_farOf km_X2_76 ⟨(Nat.le_of_ble_eq_true rfl), (Nat.le_of_ble_eq_true rfl)⟩ ⟨(Nat.le_of_ble_eq_true rfl), (Nat.le_of_ble_eq_true rfl)⟩ rfl rfl ⟨_, _, _, _, rfl, rfl, rfl, rfl⟩ rfl hl.1 rfl (Nat.le_of_ble_eq_true rfl) dX2_nextMove_2) hw rfl rfl (fun _ => (Nat.le_of_ble_eq_true rfl)) (fun _ => rfl) rfl rfl (fun _ H locs hw => ?_)
  refine lv_istore_n (lv' := [(2, .int r2), (0, .ref (ad 0)), (1, .int p1)]) hx hb dX2_nextMove_5 rfl hl (by decide) rfl (fun ls hl => ?_)
  refine lv_iconst (v := 0) hx hb dX2_nextMove_6 (by decide) ?_
  refine lv_istore_n (lv' := [(3, .int (0 : Int32)), (2, .int r2), (0, .ref (ad 0)), (1, .int p1)]) hx hb dX2_nextMove_7 rfl hl (by decide) rfl (fun ls hl => ?_)
  exact L8 N _ h _ _ _ hw (lv_sub hl [2, 3, 1, 0] rfl)
theorem kM_X2_pairsOf : kM yX2_pairsOf cX2_pairsOf 6 (some FieldType.int) 1 := ⟨kc_X2_pairsOf, kn_RingsOff_Search, by decide +kernel⟩
abbrev R_X2_pairsOf : Room := { frames := 2, cells := 0, slots := 0, locals := 47 }
set_option maxHeartbeats 4000000 in
set_option maxRecDepth 100000 in
theorem c_X2_pairsOf (l : Launch) {ad : Nat → Nat} {N : Nat} {se : SE} {p1 : Int32} {out : Int32} (h : M_X2_pairsOf N se p1 = some out) : gM l yX2_pairsOf cX2_pairsOf 6 (some FieldType.int) R_X2_pairsOf (fun _ => [.ref (ad 0), .int p1]) (fun g => [wSE g ad se]) (gQi (fun (_ : Unit) => out) (fun g (_ : Unit) => [wSE g ad se])) := by
  refine gM.ofi (by decide +kernel) (fun _ => Nat.le_of_ble_eq_true rfl) (fun g p e s m args below meth c A ls Q X hret hw hl => ?_)
  have hx := X.1.1
  have hb := X.1.2.1
  have hl : lv_has ls 6 [(0, .ref (ad 0)), (1, .int p1)] := hl
  have L4 : ∀ (n : Nat) (z4 : Int32 × Int32), lp (M_X2_pairsOf_l4 N se p1) n z4 = some out → ∀ (H : Heap) (locs : List Loc) (ls : Array Slot), gW g A s.heap [wSE g ad se] H locs → lv_has ls 6 [(0, .ref (ad 0)), (1, .int p1), (2, .int z4.1), (3, .int z4.2)] → W p l e R_X2_pairsOf s m args below meth c H locs 0 0 Q (F0 m 4 ls []) := by
    refine lp_ind ?_
    intro rec4 ih4
    have J54 : ∀ (z54 : Int32 × Int32), M_X2_pairsOf_j54 N se p1 rec4 z54 = some out → ∀ (H : Heap) (locs : List Loc) (ls : Array Slot), gW g A s.heap [wSE g ad se] H locs → lv_has ls 6 [(0, .ref (ad 0)), (1, .int p1), (2, .int z54.1), (3, .int z54.2)] → W p l e R_X2_pairsOf s m args below meth c H locs 0 0 Q (F0 m 54 ls []) := by
      intro z54 h H locs ls hw hl
      unfold M_X2_pairsOf_j54 at h
      refine lv_iinc (v := (z54.2 + 1)) (lv' := [(3, .int (z54.2 + 1)), (0, .ref (ad 0)), (1, .int p1), (2, .int z54.1)]) hx hb dX2_pairsOf_54 hl (k := 3) rfl rfl (by decide) rfl (fun ls hl => ?_)
      refine lv_goto (tgt := 4) hx hb dX2_pairsOf_57 (by decide) ?_
      exact ih4 _ h _ _ _ hw (lv_sub hl [1, 2, 3, 0] rfl)
    intro z4 h H locs ls hw hl
    unfold M_X2_pairsOf_l4 at h
    refine lv_iload_n hx hb dX2_pairsOf_4 rfl (lv_at hl 3 rfl) ?_
    refine lv_aload_n hx hb dX2_pairsOf_5 rfl (lv_at hl 0 rfl) ?_
    refine SE_g_size X hw 0 rfl kf_X2_27 dX2_pairsOf_6 ?_
    refine lv_icmp_gt (tgt := 60) hx hb dX2_pairsOf_9 (by decide) (fun k9 => ?_) (fun k9 => ?_)
    · have h := itt k9 h
      refine lv_iload_n hx hb dX2_pairsOf_60 rfl (lv_at hl 2 rfl) ?_
      have h := Option.some.inj h
      subst h
      exact hret () dX2_pairsOf_61 rfl hw
    · have h := itf k9 h
      refine lv_aload_n hx hb dX2_pairsOf_12 rfl (lv_at hl 0 rfl) ?_
      refine lv_iload_n hx hb dX2_pairsOf_13 rfl (lv_at hl 3 rfl) ?_
      obtain ⟨r14, h14, h⟩ := bnd h
      refine g_calli0 (isC := [0]) (gn := fun _ => [wSE g ad se]) (g_runV (isC := [0]) (rest := []) (As := [.int z4.2]) X hw (c_X2_moveOf l (ad := ad) h14) rfl kM_X2_moveOf ki_X2_moveOf ks_X2_moveOf km_X2_79 ⟨(Nat.le_of_ble_eq_true rfl), (Nat.le_of_ble_eq_true rfl)⟩ ⟨(Nat.le_of_ble_eq_true rfl), (Nat.le_of_ble_eq_true rfl)⟩ rfl rfl ⟨_, _, _, _, rfl, rfl, rfl, rfl⟩ rfl hl.1 rfl (Nat.le_of_ble_eq_true rfl) dX2_pairsOf_14) hw rfl rfl (fun _ => (Nat.le_of_ble_eq_true rfl)) (fun _ => rfl) rfl rfl (fun _ H locs hw => ?_)
      refine lv_istore (lv' := [(4, .int r14), (0, .ref (ad 0)), (1, .int p1), (2, .int z4.1), (3, .int z4.2)]) hx hb dX2_pairsOf_17 hl (by decide) rfl (fun ls hl => ?_)
      refine lv_iload_n hx hb dX2_pairsOf_19 rfl (lv_at hl 2 rfl) ?_
      refine lv_iload hx hb dX2_pairsOf_20 (lv_at hl 0 rfl) ?_
      obtain ⟨r22, h22, h⟩ := bnd h
      refine g_calli0 (isC := []) (gn := fun _ => [wSE g ad se]) (g_runSN (isC := []) (rest := [.int p1]) (As := [.int r14]) X hw (c_X5_ringsOf l h22) rfl kM_X5_ringsOf kt_X5_ringsOf km_X2_82 ⟨(Nat.le_of_ble_eq_true rfl), (Nat.le_of_ble_eq_true rfl)⟩ ⟨(Nat.le_of_ble_eq_true rfl), (Nat.le_of_ble_eq_true rfl)⟩ rfl rfl rfl hl.1 rfl (Nat.le_of_ble_eq_true rfl) dX2_pairsOf_22) hw rfl rfl (fun _ => (Nat.le_of_ble_eq_true rfl)) (fun _ => rfl) rfl rfl (fun _ H locs hw => ?_)
      refine lv_ixor hx hb dX2_pairsOf_25 ?_
      refine lv_istore (lv' := [(5, .int (p1 ^^^ r22)), (4, .int r14), (0, .ref (ad 0)), (1, .int p1), (2, .int z4.1), (3, .int z4.2)]) hx hb dX2_pairsOf_26 hl (by decide) rfl (fun ls hl => ?_)
      refine lv_aload_n hx hb dX2_pairsOf_28 rfl (lv_at hl 2 rfl) ?_
      refine lv_iload hx hb dX2_pairsOf_29 (lv_at hl 0 rfl) ?_
      obtain ⟨r31, h31, h⟩ := bnd h
      refine g_calli0 (isC := [0]) (gn := fun _ => [wSE g ad se]) (g_runV (isC := [0]) (rest := []) (As := [.int (p1 ^^^ r22)]) X hw (c_X2_farOf l (ad := ad) h31) rfl kM_X2_farOf ki_X2_farOf ks_X2_farOf km_X2_76 ⟨(Nat.le_of_ble_eq_true rfl), (Nat.le_of_ble_eq_true rfl)⟩ ⟨(Nat.le_of_ble_eq_true rfl), (Nat.le_of_ble_eq_true rfl)⟩ rfl rfl ⟨_, _, _, _, rfl, rfl, rfl, rfl⟩ rfl hl.1 rfl (Nat.le_of_ble_eq_true rfl) dX2_pairsOf_31) hw rfl rfl (fun _ => (Nat.le_of_ble_eq_true rfl)) (fun _ => rfl) rfl rfl (fun _ H locs hw => ?_)
      refine lv_iconst (v := -1) hx hb dX2_pairsOf_34 (by decide) ?_
      refine lv_icmp_eq (tgt := 54) hx hb dX2_pairsOf_35 (by decide) (fun k35 => ?_) (fun k35 => ?_)
      · have h := itt k35 h
        exact J54 _ h _ _ _ hw (lv_sub hl [2, 3, 4, 5] rfl)
      · have h := itf k35 h
        refine lv_aload_n hx hb dX2_pairsOf_38 rfl (lv_at hl 2 rfl) ?_
        refine lv_iload_n hx hb dX2_pairsOf_39 rfl (lv_at hl 3 rfl) ?_
        refine lv_iload hx hb dX2_pairsOf_40 (lv_at hl 0 rfl) ?_
        refine lv_iload hx hb dX2_pairsOf_42 (lv_at hl 1 rfl) ?_
        refine lv_iconst (v := 3) hx hb dX2_pairsOf_44 (by decide) ?_
        obtain ⟨r45, h45, h⟩ := bnd h
        refine g_calli0 (isC := [0]) (gn := fun _ => [wSE g ad se]) (g_runV (isC := [0]) (rest := []) (As := [.int p1, .int (p1 ^^^ r22), .int r14, .int (3 : Int32)]) X hw (c_X2_isOpen l (ad := ad) h45) rfl kM_X2_isOpen ki_X2_isOpen ks_X2_isOpen km_X2_85 ⟨(Nat.le_of_ble_eq_true rfl), (Nat.le_of_ble_eq_true rfl)⟩ ⟨(Nat.le_of_ble_eq_true rfl), (Nat.le_of_ble_eq_true rfl)⟩ rfl rfl ⟨_, _, _, _, rfl, rfl, rfl, rfl⟩ rfl hl.1 rfl (Nat.le_of_ble_eq_true rfl) dX2_pairsOf_45) hw rfl rfl (fun _ => (Nat.le_of_ble_eq_true rfl)) (fun _ => rfl) rfl rfl (fun _ H locs hw => ?_)
        refine lv_if_eq (tgt := 54) hx hb dX2_pairsOf_48 (by decide) (fun k48 => ?_) (fun k48 => ?_)
        · have h := itt k48 h
          exact J54 _ h _ _ _ hw (lv_sub hl [2, 3, 4, 5] rfl)
        · have h := itf k48 h
          refine lv_iinc (v := (z4.1 + 1)) (lv' := [(2, .int (z4.1 + 1)), (5, .int (p1 ^^^ r22)), (4, .int r14), (0, .ref (ad 0)), (1, .int p1), (3, .int z4.2)]) hx hb dX2_pairsOf_51 hl (k := 4) rfl rfl (by decide) rfl (fun ls hl => ?_)
          exact J54 _ h _ _ _ hw (lv_sub hl [3, 4, 0, 5] rfl)
  unfold M_X2_pairsOf at h
  refine lv_iconst (v := 0) hx hb dX2_pairsOf_0 (by decide) ?_
  refine lv_istore_n (lv' := [(2, .int (0 : Int32)), (0, .ref (ad 0)), (1, .int p1)]) hx hb dX2_pairsOf_1 rfl hl (by decide) rfl (fun ls hl => ?_)
  refine lv_iconst (v := 0) hx hb dX2_pairsOf_2 (by decide) ?_
  refine lv_istore_n (lv' := [(3, .int (0 : Int32)), (2, .int (0 : Int32)), (0, .ref (ad 0)), (1, .int p1)]) hx hb dX2_pairsOf_3 rfl hl (by decide) rfl (fun ls hl => ?_)
  exact L4 N _ h _ _ _ hw (lv_sub hl [2, 3, 1, 0] rfl)
theorem kM_X2_countParts : kM yX2_countParts cX2_countParts 3 (some FieldType.int) 0 := ⟨kc_X2_countParts, kn_RingsOff_Search, by decide +kernel⟩
abbrev R_X2_countParts : Room := { frames := 3, cells := 0, slots := 0, locals := 75 }
set_option maxHeartbeats 4000000 in
set_option maxRecDepth 100000 in
theorem c_X2_countParts (l : Launch) {ad : Nat → Nat} {N : Nat} {se : SE} {out : Int32 × SE} (h : M_X2_countParts N se = some out) : gM l yX2_countParts cX2_countParts 3 (some FieldType.int) R_X2_countParts (fun _ => [.ref (ad 0)]) (fun g => [wSE g ad se]) (gQi (fun (_ : Unit) => out.1) (fun g (_ : Unit) => [wSE g ad out.2])) := by
  refine gM.ofi (by decide +kernel) (fun _ => Nat.le_of_ble_eq_true rfl) (fun g p e s m args below meth c A ls Q X hret hw hl => ?_)
  have hx := X.1.1
  have hb := X.1.2.1
  have hl : lv_has ls 3 [(0, .ref (ad 0))] := hl
  have L8 : ∀ (n : Nat) (z8 : SE × Int32 × Int32), lp (M_X2_countParts_l8 N) n z8 = some out → ∀ (H : Heap) (locs : List Loc) (ls : Array Slot), gW g A s.heap [wSE g ad z8.1] H locs → lv_has ls 3 [(0, .ref (ad 0)), (1, .int z8.2.1), (2, .int z8.2.2)] → W p l e R_X2_countParts s m args below meth c H locs 0 0 Q (F0 m 8 ls []) := by
    refine lp_ind ?_
    intro rec8 ih8
    have J34 : ∀ (z34 : SE × Int32 × Int32), M_X2_countParts_j34 N rec8 z34 = some out → ∀ (H : Heap) (locs : List Loc) (ls : Array Slot), gW g A s.heap [wSE g ad z34.1] H locs → lv_has ls 3 [(0, .ref (ad 0)), (1, .int z34.2.1), (2, .int z34.2.2)] → W p l e R_X2_countParts s m args below meth c H locs 0 0 Q (F0 m 34 ls []) := by
      intro z34 h H locs ls hw hl
      unfold M_X2_countParts_j34 at h
      refine lv_iinc (v := (z34.2.2 + 1)) (lv' := [(2, .int (z34.2.2 + 1)), (0, .ref (ad 0)), (1, .int z34.2.1)]) hx hb dX2_countParts_34 hl (k := 2) rfl rfl (by decide) rfl (fun ls hl => ?_)
      refine lv_goto (tgt := 8) hx hb dX2_countParts_37 (by decide) ?_
      exact ih8 _ h _ _ _ hw (lv_sub hl [1, 2, 0] rfl)
    intro z8 h H locs ls hw hl
    unfold M_X2_countParts_l8 at h
    refine lv_iload_n hx hb dX2_countParts_8 rfl (lv_at hl 2 rfl) ?_
    refine lv_aload_n hx hb dX2_countParts_9 rfl (lv_at hl 0 rfl) ?_
    refine SE_g_sets X hw 0 rfl kf_X2_31 dX2_countParts_10 ?_
    refine lv_icmp_ge (tgt := 40) hx hb dX2_countParts_13 (by decide) (fun k13 => ?_) (fun k13 => ?_)
    · have h := itt k13 h
      refine lv_iload_n hx hb dX2_countParts_40 rfl (lv_at hl 1 rfl) ?_
      have h := Option.some.inj h
      subst h
      exact hret () dX2_countParts_41 rfl hw
    · have h := itf k13 h
      refine lv_aload_n hx hb dX2_countParts_16 rfl (lv_at hl 0 rfl) ?_
      refine lv_iload_n hx hb dX2_countParts_17 rfl (lv_at hl 2 rfl) ?_
      obtain ⟨r18, h18, h⟩ := bnd h
      refine g_calli0 (isC := [0]) (gn := fun _ => [wSE g ad z8.1]) (g_runV (isC := [0]) (rest := []) (As := [.int z8.2.2]) X hw (c_X2_farOf l (ad := ad) h18) rfl kM_X2_farOf ki_X2_farOf ks_X2_farOf km_X2_76 ⟨(Nat.le_of_ble_eq_true rfl), (Nat.le_of_ble_eq_true rfl)⟩ ⟨(Nat.le_of_ble_eq_true rfl), (Nat.le_of_ble_eq_true rfl)⟩ rfl rfl ⟨_, _, _, _, rfl, rfl, rfl, rfl⟩ rfl hl.1 rfl (Nat.le_of_ble_eq_true rfl) dX2_countParts_18) hw rfl rfl (fun _ => (Nat.le_of_ble_eq_true rfl)) (fun _ => rfl) rfl rfl (fun _ H locs hw => ?_)
      refine lv_iconst (v := -1) hx hb dX2_countParts_21 (by decide) ?_
      refine lv_icmp_ne (tgt := 34) hx hb dX2_countParts_22 (by decide) (fun k22 => ?_) (fun k22 => ?_)
      · have h := itt k22 h
        exact J34 _ h _ _ _ hw (lv_sub hl [0, 1, 2] rfl)
      · have h := itf (fun z => z k22) h
        refine lv_aload_n hx hb dX2_countParts_25 rfl (lv_at hl 0 rfl) ?_
        refine lv_iload_n hx hb dX2_countParts_26 rfl (lv_at hl 2 rfl) ?_
        refine lv_iconst (v := 3) hx hb dX2_countParts_27 (by decide) ?_
        obtain ⟨r28, h28, h⟩ := bnd h
        refine g_callv0 (isC := [0]) (gn := fun _ => [wSE g ad r28]) (g_runV (isC := [0]) (rest := []) (As := [.int z8.2.2, .int (3 : Int32)]) X hw (c_X2_spread l (ad := ad) h28) rfl kM_X2_spread ki_X2_spread ks_X2_spread km_X2_66 ⟨(Nat.le_of_ble_eq_true rfl), (Nat.le_of_ble_eq_true rfl)⟩ ⟨(Nat.le_of_ble_eq_true rfl), (Nat.le_of_ble_eq_true rfl)⟩ rfl rfl ⟨_, _, _, _, rfl, rfl, rfl, rfl⟩ rfl hl.1 rfl (Nat.le_of_ble_eq_true rfl) dX2_countParts_28) hw rfl rfl (fun _ => (Nat.le_of_ble_eq_true rfl)) (fun _ => rfl) rfl rfl (fun _ H locs hw => ?_)
        refine lv_iinc (v := (z8.2.1 + 1)) (lv' := [(1, .int (z8.2.1 + 1)), (0, .ref (ad 0)), (2, .int z8.2.2)]) hx hb dX2_countParts_31 hl (k := 1) rfl rfl (by decide) rfl (fun ls hl => ?_)
        exact J34 _ h _ _ _ hw (lv_sub hl [1, 0, 2] rfl)
  unfold M_X2_countParts at h
  refine lv_aload_n hx hb dX2_countParts_0 rfl (lv_at hl 0 rfl) ?_
  obtain ⟨r1, h1, h⟩ := bnd h
  refine g_callv0 (isC := [0]) (gn := fun _ => [wSE g ad r1]) (g_runV (isC := [0]) (rest := []) (As := []) X hw (c_X2_forget l (ad := ad) h1) rfl kM_X2_forget ki_X2_forget ks_X2_forget km_X2_63 ⟨(Nat.le_of_ble_eq_true rfl), (Nat.le_of_ble_eq_true rfl)⟩ ⟨(Nat.le_of_ble_eq_true rfl), (Nat.le_of_ble_eq_true rfl)⟩ rfl rfl ⟨_, _, _, _, rfl, rfl, rfl, rfl⟩ rfl hl.1 rfl (Nat.le_of_ble_eq_true rfl) dX2_countParts_1) hw rfl rfl (fun _ => (Nat.le_of_ble_eq_true rfl)) (fun _ => rfl) rfl rfl (fun _ H locs hw => ?_)
  refine lv_iconst (v := 0) hx hb dX2_countParts_4 (by decide) ?_
  refine lv_istore_n (lv' := [(1, .int (0 : Int32)), (0, .ref (ad 0))]) hx hb dX2_countParts_5 rfl hl (by decide) rfl (fun ls hl => ?_)
  refine lv_iconst (v := 0) hx hb dX2_countParts_6 (by decide) ?_
  refine lv_istore_n (lv' := [(2, .int (0 : Int32)), (1, .int (0 : Int32)), (0, .ref (ad 0))]) hx hb dX2_countParts_7 rfl hl (by decide) rfl (fun ls hl => ?_)
  exact L8 N _ h _ _ _ hw (lv_sub hl [2, 1, 0] rfl)
theorem kM_X2_movableRings : kM yX2_movableRings cX2_movableRings 3 (some FieldType.int) 0 := ⟨kc_X2_movableRings, kn_RingsOff_Search, by decide +kernel⟩
abbrev R_X2_movableRings : Room := { frames := 1, cells := 0, slots := 0, locals := 21 }
set_option maxHeartbeats 4000000 in
set_option maxRecDepth 100000 in
theorem c_X2_movableRings (l : Launch) {ad : Nat → Nat} {N : Nat} {se : SE} {out : Int32} (h : M_X2_movableRings N se = some out) : gM l yX2_movableRings cX2_movableRings 3 (some FieldType.int) R_X2_movableRings (fun _ => [.ref (ad 0)]) (fun g => [wSE g ad se]) (gQi (fun (_ : Unit) => out) (fun g (_ : Unit) => [wSE g ad se])) := by
  refine gM.ofi (by decide +kernel) (fun _ => Nat.le_of_ble_eq_true rfl) (fun g p e s m args below meth c A ls Q X hret hw hl => ?_)
  have hx := X.1.1
  have hb := X.1.2.1
  have hl : lv_has ls 3 [(0, .ref (ad 0))] := hl
  have L4 : ∀ (n : Nat) (z4 : Int32 × Int32), lp (M_X2_movableRings_l4 N se) n z4 = some out → ∀ (H : Heap) (locs : List Loc) (ls : Array Slot), gW g A s.heap [wSE g ad se] H locs → lv_has ls 3 [(0, .ref (ad 0)), (1, .int z4.1), (2, .int z4.2)] → W p l e R_X2_movableRings s m args below meth c H locs 0 0 Q (F0 m 4 ls []) := by
    refine lp_ind ?_
    intro rec4 ih4
    intro z4 h H locs ls hw hl
    unfold M_X2_movableRings_l4 at h
    refine lv_iload_n hx hb dX2_movableRings_4 rfl (lv_at hl 2 rfl) ?_
    refine lv_aload_n hx hb dX2_movableRings_5 rfl (lv_at hl 0 rfl) ?_
    refine SE_g_found X hw 0 rfl kf_X2_34 dX2_movableRings_6 ?_
    refine lv_icmp_ge (tgt := 30) hx hb dX2_movableRings_9 (by decide) (fun k9 => ?_) (fun k9 => ?_)
    · have h := itt k9 h
      refine lv_iload_n hx hb dX2_movableRings_30 rfl (lv_at hl 1 rfl) ?_
      refine lv_sipush (v := 1023) hx hb dX2_movableRings_31 (by decide) ?_
      refine lv_iand hx hb dX2_movableRings_34 ?_
      refine lv_istore_n (lv' := [(2, .int (z4.1 &&& (1023 : Int32))), (0, .ref (ad 0)), (1, .int z4.1)]) hx hb dX2_movableRings_35 rfl hl (by decide) rfl (fun ls hl => ?_)
      refine lv_iload_n hx hb dX2_movableRings_36 rfl (lv_at hl 2 rfl) ?_
      refine lv_bipush (v := 20) hx hb dX2_movableRings_37 (by decide) ?_
      obtain ⟨r39, h39, h⟩ := bnd h
      refine g_calli0 (isC := []) (gn := fun _ => [wSE g ad se]) (g_runSN (isC := []) (rest := []) (As := [.int z4.1, .int (20 : Int32)]) X hw (c_X5_hasBit l h39) rfl kM_X5_hasBit kt_X5_hasBit km_X2_102 ⟨(Nat.le_of_ble_eq_true rfl), (Nat.le_of_ble_eq_true rfl)⟩ ⟨(Nat.le_of_ble_eq_true rfl), (Nat.le_of_ble_eq_true rfl)⟩ rfl rfl rfl hl.1 rfl (Nat.le_of_ble_eq_true rfl) dX2_movableRings_39) hw rfl rfl (fun _ => (Nat.le_of_ble_eq_true rfl)) (fun _ => rfl) rfl rfl (fun _ H locs hw => ?_)
      refine lv_if_eq (tgt := 55) hx hb dX2_movableRings_42 (by decide) (fun k42 => ?_) (fun k42 => ?_)
      · have h := itt k42 h
        refine lv_iload_n hx hb dX2_movableRings_55 rfl (lv_at hl 0 rfl) ?_
        have h := Option.some.inj h
        subst h
        exact hret () dX2_movableRings_56 rfl hw
      · have h := itf k42 h
        refine lv_iload_n hx hb dX2_movableRings_45 rfl (lv_at hl 0 rfl) ?_
        refine lv_bipush (v := 20) hx hb dX2_movableRings_46 (by decide) ?_
        obtain ⟨r48, h48, h⟩ := bnd h
        refine g_calli0 (isC := []) (gn := fun _ => [wSE g ad se]) (g_runSN (isC := []) (rest := [.int (z4.1 &&& (1023 : Int32))]) (As := [.int (20 : Int32)]) X hw (c_X5_ringsOf l h48) rfl kM_X5_ringsOf kt_X5_ringsOf km_X2_82 ⟨(Nat.le_of_ble_eq_true rfl), (Nat.le_of_ble_eq_true rfl)⟩ ⟨(Nat.le_of_ble_eq_true rfl), (Nat.le_of_ble_eq_true rfl)⟩ rfl rfl rfl hl.1 rfl (Nat.le_of_ble_eq_true rfl) dX2_movableRings_48) hw rfl rfl (fun _ => (Nat.le_of_ble_eq_true rfl)) (fun _ => rfl) rfl rfl (fun _ H locs hw => ?_)
        refine lv_ior hx hb dX2_movableRings_51 ?_
        refine lv_goto (tgt := 56) hx hb dX2_movableRings_52 (by decide) ?_
        have h := Option.some.inj h
        subst h
        exact hret () dX2_movableRings_56 rfl hw
    · have h := itf k9 h
      refine lv_iload_n hx hb dX2_movableRings_12 rfl (lv_at hl 1 rfl) ?_
      refine lv_aload_n hx hb dX2_movableRings_13 rfl (lv_at hl 0 rfl) ?_
      refine lv_aload_n hx hb dX2_movableRings_14 rfl (lv_at hl 0 rfl) ?_
      refine lv_iload_n hx hb dX2_movableRings_15 rfl (lv_at hl 2 rfl) ?_
      obtain ⟨r16, h16, h⟩ := bnd h
      refine g_calli0 (isC := [0]) (gn := fun _ => [wSE g ad se]) (g_runV (isC := [0]) (rest := [.ref (ad 0), .int z4.1]) (As := [.int z4.2]) X hw (c_X2_foundAt l (ad := ad) h16) rfl kM_X2_foundAt ki_X2_foundAt ks_X2_foundAt km_X2_73 ⟨(Nat.le_of_ble_eq_true rfl), (Nat.le_of_ble_eq_true rfl)⟩ ⟨(Nat.le_of_ble_eq_true rfl), (Nat.le_of_ble_eq_true rfl)⟩ rfl rfl ⟨_, _, _, _, rfl, rfl, rfl, rfl⟩ rfl hl.1 rfl (Nat.le_of_ble_eq_true rfl) dX2_movableRings_16) hw rfl rfl (fun _ => (Nat.le_of_ble_eq_true rfl)) (fun _ => rfl) rfl rfl (fun _ H locs hw => ?_)
      obtain ⟨r19, h19, h⟩ := bnd h
      refine g_calli0 (isC := [0]) (gn := fun _ => [wSE g ad se]) (g_runV (isC := [0]) (rest := [.int z4.1]) (As := [.int r16]) X hw (c_X2_legalAt l (ad := ad) h19) rfl kM_X2_legalAt ki_X2_legalAt ks_X2_legalAt km_X2_50 ⟨(Nat.le_of_ble_eq_true rfl), (Nat.le_of_ble_eq_true rfl)⟩ ⟨(Nat.le_of_ble_eq_true rfl), (Nat.le_of_ble_eq_true rfl)⟩ rfl rfl ⟨_, _, _, _, rfl, rfl, rfl, rfl⟩ rfl hl.1 rfl (Nat.le_of_ble_eq_true rfl) dX2_movableRings_19) hw rfl rfl (fun _ => (Nat.le_of_ble_eq_true rfl)) (fun _ => rfl) rfl rfl (fun _ H locs hw => ?_)
      refine lv_ior hx hb dX2_movableRings_22 ?_
      refine lv_istore_n (lv' := [(1, .int (z4.1 ||| r19)), (0, .ref (ad 0)), (2, .int z4.2)]) hx hb dX2_movableRings_23 rfl hl (by decide) rfl (fun ls hl => ?_)
      refine lv_iinc (v := (z4.2 + 1)) (lv' := [(2, .int (z4.2 + 1)), (1, .int (z4.1 ||| r19)), (0, .ref (ad 0))]) hx hb dX2_movableRings_24 hl (k := 2) rfl rfl (by decide) rfl (fun ls hl => ?_)
      refine lv_goto (tgt := 4) hx hb dX2_movableRings_27 (by decide) ?_
      exact ih4 _ h _ _ _ hw (lv_sub hl [2, 1, 0] rfl)
  unfold M_X2_movableRings at h
  refine lv_iconst (v := 0) hx hb dX2_movableRings_0 (by decide) ?_
  refine lv_istore_n (lv' := [(1, .int (0 : Int32)), (0, .ref (ad 0))]) hx hb dX2_movableRings_1 rfl hl (by decide) rfl (fun ls hl => ?_)
  refine lv_iconst (v := 0) hx hb dX2_movableRings_2 (by decide) ?_
  refine lv_istore_n (lv' := [(2, .int (0 : Int32)), (1, .int (0 : Int32)), (0, .ref (ad 0))]) hx hb dX2_movableRings_3 rfl hl (by decide) rfl (fun ls hl => ?_)
  exact L4 N _ h _ _ _ hw (lv_sub hl [2, 1, 0] rfl)
theorem kM_X2_countEnds : kM yX2_countEnds cX2_countEnds 3 (some FieldType.int) 0 := ⟨kc_X2_countEnds, kn_RingsOff_Search, by decide +kernel⟩
abbrev R_X2_countEnds : Room := { frames := 1, cells := 0, slots := 0, locals := 21 }
set_option maxHeartbeats 4000000 in
set_option maxRecDepth 100000 in
theorem c_X2_countEnds (l : Launch) {ad : Nat → Nat} {N : Nat} {se : SE} {out : Int32} (h : M_X2_countEnds N se = some out) : gM l yX2_countEnds cX2_countEnds 3 (some FieldType.int) R_X2_countEnds (fun _ => [.ref (ad 0)]) (fun g => [wSE g ad se]) (gQi (fun (_ : Unit) => out) (fun g (_ : Unit) => [wSE g ad se])) := by
  refine gM.ofi (by decide +kernel) (fun _ => Nat.le_of_ble_eq_true rfl) (fun g p e s m args below meth c A ls Q X hret hw hl => ?_)
  have hx := X.1.1
  have hb := X.1.2.1
  have hl : lv_has ls 3 [(0, .ref (ad 0))] := hl
  have L4 : ∀ (n : Nat) (z4 : Int32 × Int32), lp (M_X2_countEnds_l4 N se) n z4 = some out → ∀ (H : Heap) (locs : List Loc) (ls : Array Slot), gW g A s.heap [wSE g ad se] H locs → lv_has ls 3 [(0, .ref (ad 0)), (1, .int z4.1), (2, .int z4.2)] → W p l e R_X2_countEnds s m args below meth c H locs 0 0 Q (F0 m 4 ls []) := by
    refine lp_ind ?_
    intro rec4 ih4
    have J31 : ∀ (z31 : Int32 × Int32), M_X2_countEnds_j31 N se rec4 z31 = some out → ∀ (H : Heap) (locs : List Loc) (ls : Array Slot), gW g A s.heap [wSE g ad se] H locs → lv_has ls 3 [(0, .ref (ad 0)), (1, .int z31.1), (2, .int z31.2)] → W p l e R_X2_countEnds s m args below meth c H locs 0 0 Q (F0 m 31 ls []) := by
      intro z31 h H locs ls hw hl
      unfold M_X2_countEnds_j31 at h
      refine lv_iinc (v := (z31.2 + 1)) (lv' := [(2, .int (z31.2 + 1)), (0, .ref (ad 0)), (1, .int z31.1)]) hx hb dX2_countEnds_31 hl (k := 2) rfl rfl (by decide) rfl (fun ls hl => ?_)
      refine lv_goto (tgt := 4) hx hb dX2_countEnds_34 (by decide) ?_
      exact ih4 _ h _ _ _ hw (lv_sub hl [1, 2, 0] rfl)
    intro z4 h H locs ls hw hl
    unfold M_X2_countEnds_l4 at h
    refine lv_iload_n hx hb dX2_countEnds_4 rfl (lv_at hl 2 rfl) ?_
    refine lv_aload_n hx hb dX2_countEnds_5 rfl (lv_at hl 0 rfl) ?_
    refine SE_g_found X hw 0 rfl kf_X2_34 dX2_countEnds_6 ?_
    refine lv_icmp_ge (tgt := 37) hx hb dX2_countEnds_9 (by decide) (fun k9 => ?_) (fun k9 => ?_)
    · have h := itt k9 h
      refine lv_iload_n hx hb dX2_countEnds_37 rfl (lv_at hl 1 rfl) ?_
      have h := Option.some.inj h
      subst h
      exact hret () dX2_countEnds_38 rfl hw
    · have h := itf k9 h
      refine lv_aload_n hx hb dX2_countEnds_12 rfl (lv_at hl 0 rfl) ?_
      refine lv_aload_n hx hb dX2_countEnds_13 rfl (lv_at hl 0 rfl) ?_
      refine lv_iload_n hx hb dX2_countEnds_14 rfl (lv_at hl 2 rfl) ?_
      obtain ⟨r15, h15, h⟩ := bnd h
      refine g_calli0 (isC := [0]) (gn := fun _ => [wSE g ad se]) (g_runV (isC := [0]) (rest := [.ref (ad 0)]) (As := [.int z4.2]) X hw (c_X2_foundAt l (ad := ad) h15) rfl kM_X2_foundAt ki_X2_foundAt ks_X2_foundAt km_X2_73 ⟨(Nat.le_of_ble_eq_true rfl), (Nat.le_of_ble_eq_true rfl)⟩ ⟨(Nat.le_of_ble_eq_true rfl), (Nat.le_of_ble_eq_true rfl)⟩ rfl rfl ⟨_, _, _, _, rfl, rfl, rfl, rfl⟩ rfl hl.1 rfl (Nat.le_of_ble_eq_true rfl) dX2_countEnds_15) hw rfl rfl (fun _ => (Nat.le_of_ble_eq_true rfl)) (fun _ => rfl) rfl rfl (fun _ H locs hw => ?_)
      obtain ⟨r18, h18, h⟩ := bnd h
      refine g_calli0 (isC := [0]) (gn := fun _ => [wSE g ad se]) (g_runV (isC := [0]) (rest := []) (As := [.int r15]) X hw (c_X2_legalAt l (ad := ad) h18) rfl kM_X2_legalAt ki_X2_legalAt ks_X2_legalAt km_X2_50 ⟨(Nat.le_of_ble_eq_true rfl), (Nat.le_of_ble_eq_true rfl)⟩ ⟨(Nat.le_of_ble_eq_true rfl), (Nat.le_of_ble_eq_true rfl)⟩ rfl rfl ⟨_, _, _, _, rfl, rfl, rfl, rfl⟩ rfl hl.1 rfl (Nat.le_of_ble_eq_true rfl) dX2_countEnds_18) hw rfl rfl (fun _ => (Nat.le_of_ble_eq_true rfl)) (fun _ => rfl) rfl rfl (fun _ H locs hw => ?_)
      obtain ⟨r21, h21, h⟩ := bnd h
      refine g_calli0 (isC := []) (gn := fun _ => [wSE g ad se]) (g_runS (isC := []) (rest := []) (As := [.int r18]) X hw (c_J6_bitCount_0f7a4 l h21) rfl kM_J6_bitCount_0f7a4 kt_J6_bitCount_0f7a4 km_X2_105 ⟨(Nat.le_of_ble_eq_true rfl), (Nat.le_of_ble_eq_true rfl)⟩ ⟨(Nat.le_of_ble_eq_true rfl), (Nat.le_of_ble_eq_true rfl)⟩ rfl rfl rfl hl.1 rfl (Nat.le_of_ble_eq_true rfl) dX2_countEnds_21) hw rfl rfl (fun _ => (Nat.le_of_ble_eq_true rfl)) (fun _ => rfl) rfl rfl (fun _ H locs hw => ?_)
      refine lv_iconst (v := 1) hx hb dX2_countEnds_24 (by decide) ?_
      refine lv_icmp_ne (tgt := 31) hx hb dX2_countEnds_25 (by decide) (fun k25 => ?_) (fun k25 => ?_)
      · have h := itt k25 h
        exact J31 _ h _ _ _ hw (lv_sub hl [0, 1, 2] rfl)
      · have h := itf (fun z => z k25) h
        refine lv_iinc (v := (z4.1 + 1)) (lv' := [(1, .int (z4.1 + 1)), (0, .ref (ad 0)), (2, .int z4.2)]) hx hb dX2_countEnds_28 hl (k := 1) rfl rfl (by decide) rfl (fun ls hl => ?_)
        exact J31 _ h _ _ _ hw (lv_sub hl [1, 0, 2] rfl)
  unfold M_X2_countEnds at h
  refine lv_iconst (v := 0) hx hb dX2_countEnds_0 (by decide) ?_
  refine lv_istore_n (lv' := [(1, .int (0 : Int32)), (0, .ref (ad 0))]) hx hb dX2_countEnds_1 rfl hl (by decide) rfl (fun ls hl => ?_)
  refine lv_iconst (v := 0) hx hb dX2_countEnds_2 (by decide) ?_
  refine lv_istore_n (lv' := [(2, .int (0 : Int32)), (1, .int (0 : Int32)), (0, .ref (ad 0))]) hx hb dX2_countEnds_3 rfl hl (by decide) rfl (fun ls hl => ?_)
  exact L4 N _ h _ _ _ hw (lv_sub hl [2, 1, 0] rfl)
theorem kM_X2_soonestMoveOf : kM yX2_soonestMoveOf cX2_soonestMoveOf 4 (some FieldType.int) 1 := ⟨kc_X2_soonestMoveOf, kn_RingsOff_Search, by decide +kernel⟩
abbrev R_X2_soonestMoveOf : Room := { frames := 2, cells := 0, slots := 0, locals := 42 }
set_option maxHeartbeats 4000000 in
set_option maxRecDepth 100000 in
theorem c_X2_soonestMoveOf (l : Launch) {ad : Nat → Nat} {N : Nat} {se : SE} {p1 : Int32} {out : Int32} (h : M_X2_soonestMoveOf N se p1 = some out) : gM l yX2_soonestMoveOf cX2_soonestMoveOf 4 (some FieldType.int) R_X2_soonestMoveOf (fun _ => [.ref (ad 0), .int p1]) (fun g => [wSE g ad se]) (gQi (fun (_ : Unit) => out) (fun g (_ : Unit) => [wSE g ad se])) := by
  refine gM.ofi (by decide +kernel) (fun _ => Nat.le_of_ble_eq_true rfl) (fun g p e s m args below meth c A ls Q X hret hw hl => ?_)
  have hx := X.1.1
  have hb := X.1.2.1
  have hl : lv_has ls 4 [(0, .ref (ad 0)), (1, .int p1)] := hl
  have L26 : ∀ (n : Nat) (z26 : Int32 × Int32), lp (M_X2_soonestMoveOf_l26 N se p1) n z26 = some out → ∀ (H : Heap) (locs : List Loc) (ls : Array Slot), gW g A s.heap [wSE g ad se] H locs → lv_has ls 4 [(0, .ref (ad 0)), (2, .int z26.1), (3, .int z26.2)] → W p l e R_X2_soonestMoveOf s m args below meth c H locs 0 0 Q (F0 m 26 ls []) := by
    refine lp_ind ?_
    intro rec26 ih26
    intro z26 h H locs ls hw hl
    unfold M_X2_soonestMoveOf_l26 at h
    refine lv_iload_n hx hb dX2_soonestMoveOf_26 rfl (lv_at hl 2 rfl) ?_
    refine lv_aload_n hx hb dX2_soonestMoveOf_27 rfl (lv_at hl 0 rfl) ?_
    refine SE_g_found X hw 0 rfl kf_X2_34 dX2_soonestMoveOf_28 ?_
    refine lv_icmp_ge (tgt := 66) hx hb dX2_soonestMoveOf_31 (by decide) (fun k31 => ?_) (fun k31 => ?_)
    · have h := itt k31 h
      refine lv_iconst (v := -1) hx hb dX2_soonestMoveOf_66 (by decide) ?_
      have h := Option.some.inj h
      subst h
      exact hret () dX2_soonestMoveOf_67 rfl hw
    · have h := itf k31 h
      refine lv_aload_n hx hb dX2_soonestMoveOf_34 rfl (lv_at hl 0 rfl) ?_
      refine lv_aload_n hx hb dX2_soonestMoveOf_35 rfl (lv_at hl 0 rfl) ?_
      refine lv_iload_n hx hb dX2_soonestMoveOf_36 rfl (lv_at hl 2 rfl) ?_
      obtain ⟨r37, h37, h⟩ := bnd h
      refine g_calli0 (isC := [0]) (gn := fun _ => [wSE g ad se]) (g_runV (isC := [0]) (rest := [.ref (ad 0)]) (As := [.int z26.2]) X hw (c_X2_foundAt l (ad := ad) h37) rfl kM_X2_foundAt ki_X2_foundAt ks_X2_foundAt km_X2_73 ⟨(Nat.le_of_ble_eq_true rfl), (Nat.le_of_ble_eq_true rfl)⟩ ⟨(Nat.le_of_ble_eq_true rfl), (Nat.le_of_ble_eq_true rfl)⟩ rfl rfl ⟨_, _, _, _, rfl, rfl, rfl, rfl⟩ rfl hl.1 rfl (Nat.le_of_ble_eq_true rfl) dX2_soonestMoveOf_37) hw rfl rfl (fun _ => (Nat.le_of_ble_eq_true rfl)) (fun _ => rfl) rfl rfl (fun _ H locs hw => ?_)
      obtain ⟨r40, h40, h⟩ := bnd h
      refine g_calli0 (isC := [0]) (gn := fun _ => [wSE g ad se]) (g_runV (isC := [0]) (rest := []) (As := [.int r37]) X hw (c_X2_legalAt l (ad := ad) h40) rfl kM_X2_legalAt ki_X2_legalAt ks_X2_legalAt km_X2_50 ⟨(Nat.le_of_ble_eq_true rfl), (Nat.le_of_ble_eq_true rfl)⟩ ⟨(Nat.le_of_ble_eq_true rfl), (Nat.le_of_ble_eq_true rfl)⟩ rfl rfl ⟨_, _, _, _, rfl, rfl, rfl, rfl⟩ rfl hl.1 rfl (Nat.le_of_ble_eq_true rfl) dX2_soonestMoveOf_40) hw rfl rfl (fun _ => (Nat.le_of_ble_eq_true rfl)) (fun _ => rfl) rfl rfl (fun _ H locs hw => ?_)
      refine lv_iload_n hx hb dX2_soonestMoveOf_43 rfl (lv_at hl 1 rfl) ?_
      refine lv_iand hx hb dX2_soonestMoveOf_44 ?_
      refine lv_if_eq (tgt := 60) hx hb dX2_soonestMoveOf_45 (by decide) (fun k45 => ?_) (fun k45 => ?_)
      · have h := itt k45 h
        refine lv_iinc (v := (z26.2 + 1)) (lv' := [(3, .int (z26.2 + 1)), (0, .ref (ad 0)), (2, .int z26.1)]) hx hb dX2_soonestMoveOf_60 hl (k := 2) rfl rfl (by decide) rfl (fun ls hl => ?_)
        refine lv_goto (tgt := 26) hx hb dX2_soonestMoveOf_63 (by decide) ?_
        exact ih26 _ h _ _ _ hw (lv_sub hl [1, 2, 0] rfl)
      · have h := itf k45 h
        refine lv_aload_n hx hb dX2_soonestMoveOf_48 rfl (lv_at hl 0 rfl) ?_
        refine lv_aload_n hx hb dX2_soonestMoveOf_49 rfl (lv_at hl 0 rfl) ?_
        refine lv_iload_n hx hb dX2_soonestMoveOf_50 rfl (lv_at hl 2 rfl) ?_
        obtain ⟨r51, h51, h⟩ := bnd h
        refine g_calli0 (isC := [0]) (gn := fun _ => [wSE g ad se]) (g_runV (isC := [0]) (rest := [.ref (ad 0)]) (As := [.int z26.2]) X hw (c_X2_foundAt l (ad := ad) h51) rfl kM_X2_foundAt ki_X2_foundAt ks_X2_foundAt km_X2_73 ⟨(Nat.le_of_ble_eq_true rfl), (Nat.le_of_ble_eq_true rfl)⟩ ⟨(Nat.le_of_ble_eq_true rfl), (Nat.le_of_ble_eq_true rfl)⟩ rfl rfl ⟨_, _, _, _, rfl, rfl, rfl, rfl⟩ rfl hl.1 rfl (Nat.le_of_ble_eq_true rfl) dX2_soonestMoveOf_51) hw rfl rfl (fun _ => (Nat.le_of_ble_eq_true rfl)) (fun _ => rfl) rfl rfl (fun _ H locs hw => ?_)
        obtain ⟨r54, h54, h⟩ := bnd h
        refine g_calli0 (isC := [0]) (gn := fun _ => [wSE g ad se]) (g_runV (isC := [0]) (rest := []) (As := [.int r51]) X hw (c_X2_farOf l (ad := ad) h54) rfl kM_X2_farOf ki_X2_farOf ks_X2_farOf km_X2_76 ⟨(Nat.le_of_ble_eq_true rfl), (Nat.le_of_ble_eq_true rfl)⟩ ⟨(Nat.le_of_ble_eq_true rfl), (Nat.le_of_ble_eq_true rfl)⟩ rfl rfl ⟨_, _, _, _, rfl, rfl, rfl, rfl⟩ rfl hl.1 rfl (Nat.le_of_ble_eq_true rfl) dX2_soonestMoveOf_54) hw rfl rfl (fun _ => (Nat.le_of_ble_eq_true rfl)) (fun _ => rfl) rfl rfl (fun _ H locs hw => ?_)
        refine lv_iconst (v := 1) hx hb dX2_soonestMoveOf_57 (by decide) ?_
        refine lv_iadd hx hb dX2_soonestMoveOf_58 ?_
        have h := Option.some.inj h
        subst h
        exact hret () dX2_soonestMoveOf_59 rfl hw
  have J22 : ∀ (z22 : Int32 × Int32), M_X2_soonestMoveOf_j22 N se p1 z22 = some out → ∀ (H : Heap) (locs : List Loc) (ls : Array Slot), gW g A s.heap [wSE g ad se] H locs → lv_has ls 4 [(0, .ref (ad 0))] → W p l e R_X2_soonestMoveOf s m args below meth c H locs 0 0 Q (F0 m 22 ls [.int z22.2, .int z22.1]) := by
    intro z22 h H locs ls hw hl
    unfold M_X2_soonestMoveOf_j22 at h
    refine lv_ior hx hb dX2_soonestMoveOf_22 ?_
    refine lv_istore_n (lv' := [(2, .int (z22.1 ||| z22.2)), (0, .ref (ad 0))]) hx hb dX2_soonestMoveOf_23 rfl hl (by decide) rfl (fun ls hl => ?_)
    refine lv_iconst (v := 0) hx hb dX2_soonestMoveOf_24 (by decide) ?_
    refine lv_istore_n (lv' := [(3, .int (0 : Int32)), (2, .int (z22.1 ||| z22.2)), (0, .ref (ad 0))]) hx hb dX2_soonestMoveOf_25 rfl hl (by decide) rfl (fun ls hl => ?_)
    exact L26 N _ h _ _ _ hw (lv_sub hl [2, 1, 0] rfl)
  unfold M_X2_soonestMoveOf at h
  refine lv_iload_n hx hb dX2_soonestMoveOf_0 rfl (lv_at hl 1 rfl) ?_
  obtain ⟨r1, h1, h⟩ := bnd h
  refine g_calli0 (isC := []) (gn := fun _ => [wSE g ad se]) (g_runSN (isC := []) (rest := []) (As := [.int p1]) X hw (c_X5_ringsOf l h1) rfl kM_X5_ringsOf kt_X5_ringsOf km_X2_82 ⟨(Nat.le_of_ble_eq_true rfl), (Nat.le_of_ble_eq_true rfl)⟩ ⟨(Nat.le_of_ble_eq_true rfl), (Nat.le_of_ble_eq_true rfl)⟩ rfl rfl rfl hl.1 rfl (Nat.le_of_ble_eq_true rfl) dX2_soonestMoveOf_1) hw rfl rfl (fun _ => (Nat.le_of_ble_eq_true rfl)) (fun _ => rfl) rfl rfl (fun _ H locs hw => ?_)
  refine lv_bipush (v := 20) hx hb dX2_soonestMoveOf_4 (by decide) ?_
  obtain ⟨r6, h6, h⟩ := bnd h
  refine g_calli0 (isC := []) (gn := fun _ => [wSE g ad se]) (g_runSN (isC := []) (rest := [.int r1]) (As := [.int (20 : Int32)]) X hw (c_X5_ringsOf l h6) rfl kM_X5_ringsOf kt_X5_ringsOf km_X2_82 ⟨(Nat.le_of_ble_eq_true rfl), (Nat.le_of_ble_eq_true rfl)⟩ ⟨(Nat.le_of_ble_eq_true rfl), (Nat.le_of_ble_eq_true rfl)⟩ rfl rfl rfl hl.1 rfl (Nat.le_of_ble_eq_true rfl) dX2_soonestMoveOf_6) hw rfl rfl (fun _ => (Nat.le_of_ble_eq_true rfl)) (fun _ => rfl) rfl rfl (fun _ H locs hw => ?_)
  refine lv_iload_n hx hb dX2_soonestMoveOf_9 rfl (lv_at hl 1 rfl) ?_
  obtain ⟨r10, h10, h⟩ := bnd h
  refine g_calli0 (isC := []) (gn := fun _ => [wSE g ad se]) (g_runSN (isC := []) (rest := [.int r1]) (As := [.int r6, .int p1]) X hw (c_X5_hasBit l h10) rfl kM_X5_hasBit kt_X5_hasBit km_X2_102 ⟨(Nat.le_of_ble_eq_true rfl), (Nat.le_of_ble_eq_true rfl)⟩ ⟨(Nat.le_of_ble_eq_true rfl), (Nat.le_of_ble_eq_true rfl)⟩ rfl rfl rfl hl.1 rfl (Nat.le_of_ble_eq_true rfl) dX2_soonestMoveOf_10) hw rfl rfl (fun _ => (Nat.le_of_ble_eq_true rfl)) (fun _ => rfl) rfl rfl (fun _ H locs hw => ?_)
  refine lv_if_eq (tgt := 21) hx hb dX2_soonestMoveOf_13 (by decide) (fun k13 => ?_) (fun k13 => ?_)
  · have h := itt k13 h
    refine lv_iconst (v := 0) hx hb dX2_soonestMoveOf_21 (by decide) ?_
    exact J22 _ h _ _ _ hw (lv_sub hl [0] rfl)
  · have h := itf k13 h
    refine lv_ldc hx hb X.1.2.2.2.1 (gK1 X _ kq_X2_110) dX2_soonestMoveOf_16 ?_
    refine lv_goto (tgt := 22) hx hb dX2_soonestMoveOf_18 (by decide) ?_
    exact J22 _ h _ _ _ hw (lv_sub hl [0] rfl)
theorem kM_X2_share : kM yX2_share cX2_share 7 (none : Option Jvm.ClassFile.FieldType) 2 := ⟨kc_X2_share, kn_RingsOff_Search, by decide +kernel⟩
abbrev R_X2_share : Room := { frames := 2, cells := 0, slots := 0, locals := 43 }
set_option maxHeartbeats 4000000 in
set_option maxRecDepth 100000 in
theorem c_X2_share (l : Launch) {ad : Nat → Nat} {N : Nat} {se : SE} {p1 : Int32} {p2 : Int32} {out : SE} (h : M_X2_share N se p1 p2 = some out) : gM l yX2_share cX2_share 7 (none : Option Jvm.ClassFile.FieldType) R_X2_share (fun _ => [.ref (ad 0), .int p1, .int p2]) (fun g => [wSE g ad se]) (gQv (fun g (_ : Unit) => [wSE g ad out])) := by
  refine gM.ofv (by decide +kernel) (fun _ => Nat.le_of_ble_eq_true rfl) (fun g p e s m args below meth c A ls Q X hret hw hl => ?_)
  have hx := X.1.1
  have hb := X.1.2.1
  have hl : lv_has ls 7 [(0, .ref (ad 0)), (1, .int p1), (2, .int p2)] := hl
  have L28 : ∀ (n : Nat) (z28 : SE × Int32 × Int32), lp (M_X2_share_l28 N p1 p2) n z28 = some out → ∀ (H : Heap) (locs : List Loc) (ls : Array Slot), gW g A s.heap [wSE g ad z28.1] H locs → lv_has ls 7 [(0, .ref (ad 0)), (1, .int p1), (4, .int z28.2.1), (5, .int z28.2.2)] → W p l e R_X2_share s m args below meth c H locs 0 0 Q (F0 m 28 ls []) := by
    refine lp_ind ?_
    intro rec28 ih28
    have J68 : ∀ (z68 : SE × Int32 × Int32), M_X2_share_j68 N p1 p2 rec28 z68 = some out → ∀ (H : Heap) (locs : List Loc) (ls : Array Slot), gW g A s.heap [wSE g ad z68.1] H locs → lv_has ls 7 [(0, .ref (ad 0)), (1, .int p1), (4, .int z68.2.1), (5, .int z68.2.2)] → W p l e R_X2_share s m args below meth c H locs 0 0 Q (F0 m 68 ls []) := by
      intro z68 h H locs ls hw hl
      unfold M_X2_share_j68 at h
      refine lv_iinc (v := (z68.2.2 + 1)) (lv' := [(5, .int (z68.2.2 + 1)), (0, .ref (ad 0)), (1, .int p1), (4, .int z68.2.1)]) hx hb dX2_share_68 hl (k := 3) rfl rfl (by decide) rfl (fun ls hl => ?_)
      refine lv_goto (tgt := 28) hx hb dX2_share_71 (by decide) ?_
      exact ih28 _ h _ _ _ hw (lv_sub hl [1, 2, 3, 0] rfl)
    intro z28 h H locs ls hw hl
    unfold M_X2_share_l28 at h
    refine lv_iload hx hb dX2_share_28 (lv_at hl 3 rfl) ?_
    refine lv_aload_n hx hb dX2_share_30 rfl (lv_at hl 0 rfl) ?_
    refine SE_g_size X hw 0 rfl kf_X2_27 dX2_share_31 ?_
    refine lv_icmp_gt (tgt := 74) hx hb dX2_share_34 (by decide) (fun k34 => ?_) (fun k34 => ?_)
    · have h := itt k34 h
      have h := Option.some.inj h
      subst h
      exact hret () dX2_share_74 hw
    · have h := itf k34 h
      refine lv_aload_n hx hb dX2_share_37 rfl (lv_at hl 0 rfl) ?_
      refine lv_iload hx hb dX2_share_38 (lv_at hl 3 rfl) ?_
      obtain ⟨r40, h40, h⟩ := bnd h
      refine g_calli0 (isC := [0]) (gn := fun _ => [wSE g ad z28.1]) (g_runV (isC := [0]) (rest := []) (As := [.int z28.2.2]) X hw (c_X2_moveOf l (ad := ad) h40) rfl kM_X2_moveOf ki_X2_moveOf ks_X2_moveOf km_X2_79 ⟨(Nat.le_of_ble_eq_true rfl), (Nat.le_of_ble_eq_true rfl)⟩ ⟨(Nat.le_of_ble_eq_true rfl), (Nat.le_of_ble_eq_true rfl)⟩ rfl rfl ⟨_, _, _, _, rfl, rfl, rfl, rfl⟩ rfl hl.1 rfl (Nat.le_of_ble_eq_true rfl) dX2_share_40) hw rfl rfl (fun _ => (Nat.le_of_ble_eq_true rfl)) (fun _ => rfl) rfl rfl (fun _ H locs hw => ?_)
      refine lv_istore (lv' := [(6, .int r40), (0, .ref (ad 0)), (1, .int p1), (4, .int z28.2.1), (5, .int z28.2.2)]) hx hb dX2_share_43 hl (by decide) rfl (fun ls hl => ?_)
      refine lv_aload_n hx hb dX2_share_45 rfl (lv_at hl 1 rfl) ?_
      refine lv_iload_n hx hb dX2_share_46 rfl (lv_at hl 2 rfl) ?_
      refine lv_iload hx hb dX2_share_47 (lv_at hl 0 rfl) ?_
      obtain ⟨r49, h49, h⟩ := bnd h
      refine g_calli0 (isC := [0]) (gn := fun _ => [wSE g ad z28.1]) (g_runV (isC := [0]) (rest := []) (As := [.int p1, .int r40]) X hw (c_X2_mayGo l (ad := ad) h49) rfl kM_X2_mayGo ki_X2_mayGo ks_X2_mayGo km_X2_89 ⟨(Nat.le_of_ble_eq_true rfl), (Nat.le_of_ble_eq_true rfl)⟩ ⟨(Nat.le_of_ble_eq_true rfl), (Nat.le_of_ble_eq_true rfl)⟩ rfl rfl ⟨_, _, _, _, rfl, rfl, rfl, rfl⟩ rfl hl.1 rfl (Nat.le_of_ble_eq_true rfl) dX2_share_49) hw rfl rfl (fun _ => (Nat.le_of_ble_eq_true rfl)) (fun _ => rfl) rfl rfl (fun _ H locs hw => ?_)
      refine lv_if_eq (tgt := 68) hx hb dX2_share_52 (by decide) (fun k52 => ?_) (fun k52 => ?_)
      · have h := itt k52 h
        exact J68 _ h _ _ _ hw (lv_sub hl [1, 2, 3, 4] rfl)
      · have h := itf k52 h
        refine lv_aload_n hx hb dX2_share_55 rfl (lv_at hl 1 rfl) ?_
        refine lv_iload_n hx hb dX2_share_56 rfl (lv_at hl 2 rfl) ?_
        refine lv_iload hx hb dX2_share_57 (lv_at hl 0 rfl) ?_
        obtain ⟨r59, h59, h⟩ := bnd h
        refine g_calli0 (isC := []) (gn := fun _ => [wSE g ad z28.1]) (g_runSN (isC := []) (rest := [.int p1, .ref (ad 0)]) (As := [.int r40]) X hw (c_X5_ringsOf l h59) rfl kM_X5_ringsOf kt_X5_ringsOf km_X2_82 ⟨(Nat.le_of_ble_eq_true rfl), (Nat.le_of_ble_eq_true rfl)⟩ ⟨(Nat.le_of_ble_eq_true rfl), (Nat.le_of_ble_eq_true rfl)⟩ rfl rfl rfl hl.1 rfl (Nat.le_of_ble_eq_true rfl) dX2_share_59) hw rfl rfl (fun _ => (Nat.le_of_ble_eq_true rfl)) (fun _ => rfl) rfl rfl (fun _ H locs hw => ?_)
        refine lv_ixor hx hb dX2_share_62 ?_
        refine lv_iload hx hb dX2_share_63 (lv_at hl 3 rfl) ?_
        obtain ⟨r65, h65, h⟩ := bnd h
        refine g_callv0 (isC := [0]) (gn := fun _ => [wSE g ad r65]) (g_runV (isC := [0]) (rest := []) (As := [.int (p1 ^^^ r59), .int z28.2.1]) X hw (c_X2_addPart l (ad := ad) h65) rfl kM_X2_addPart ki_X2_addPart ks_X2_addPart km_X2_115 ⟨(Nat.le_of_ble_eq_true rfl), (Nat.le_of_ble_eq_true rfl)⟩ ⟨(Nat.le_of_ble_eq_true rfl), (Nat.le_of_ble_eq_true rfl)⟩ rfl rfl ⟨_, _, _, _, rfl, rfl, rfl, rfl⟩ rfl hl.1 rfl (Nat.le_of_ble_eq_true rfl) dX2_share_65) hw rfl rfl (fun _ => (Nat.le_of_ble_eq_true rfl)) (fun _ => rfl) rfl rfl (fun _ H locs hw => ?_)
        exact J68 _ h _ _ _ hw (lv_sub hl [1, 2, 3, 4] rfl)
  unfold M_X2_share at h
  refine lv_aload_n hx hb dX2_share_0 rfl (lv_at hl 0 rfl) ?_
  refine lv_iload_n hx hb dX2_share_1 rfl (lv_at hl 1 rfl) ?_
  obtain ⟨r2, h2, h⟩ := bnd h
  refine g_calli0 (isC := [0]) (gn := fun _ => [wSE g ad se]) (g_runV (isC := [0]) (rest := []) (As := [.int p1]) X hw (c_X2_legalAt l (ad := ad) h2) rfl kM_X2_legalAt ki_X2_legalAt ks_X2_legalAt km_X2_50 ⟨(Nat.le_of_ble_eq_true rfl), (Nat.le_of_ble_eq_true rfl)⟩ ⟨(Nat.le_of_ble_eq_true rfl), (Nat.le_of_ble_eq_true rfl)⟩ rfl rfl ⟨_, _, _, _, rfl, rfl, rfl, rfl⟩ rfl hl.1 rfl (Nat.le_of_ble_eq_true rfl) dX2_share_2) hw rfl rfl (fun _ => (Nat.le_of_ble_eq_true rfl)) (fun _ => rfl) rfl rfl (fun _ H locs hw => ?_)
  obtain ⟨r5, h5, h⟩ := bnd h
  refine g_calli0 (isC := []) (gn := fun _ => [wSE g ad se]) (g_runS (isC := []) (rest := []) (As := [.int r2]) X hw (c_J6_bitCount_0f7a4 l h5) rfl kM_J6_bitCount_0f7a4 kt_J6_bitCount_0f7a4 km_X2_105 ⟨(Nat.le_of_ble_eq_true rfl), (Nat.le_of_ble_eq_true rfl)⟩ ⟨(Nat.le_of_ble_eq_true rfl), (Nat.le_of_ble_eq_true rfl)⟩ rfl rfl rfl hl.1 rfl (Nat.le_of_ble_eq_true rfl) dX2_share_5) hw rfl rfl (fun _ => (Nat.le_of_ble_eq_true rfl)) (fun _ => rfl) rfl rfl (fun _ H locs hw => ?_)
  refine lv_istore_n (lv' := [(3, .int r5), (0, .ref (ad 0)), (1, .int p1), (2, .int p2)]) hx hb dX2_share_8 rfl hl (by decide) rfl (fun ls hl => ?_)
  refine lv_iload_n hx hb dX2_share_9 rfl (lv_at hl 0 rfl) ?_
  refine lv_if_ne (tgt := 20) hx hb dX2_share_10 (by decide) (fun k10 => ?_) (fun k10 => ?_)
  · have h := itt k10 h
    refine lv_iload_n hx hb dX2_share_20 rfl (lv_at hl 3 rfl) ?_
    refine lv_iload_n hx hb dX2_share_21 rfl (lv_at hl 0 rfl) ?_
    obtain ⟨q22, h⟩ := chk h
    refine lv_idiv hx hb dX2_share_22 q22 ?_
    refine lv_istore (lv' := [(4, .int (p2 / r5)), (3, .int r5), (0, .ref (ad 0)), (1, .int p1), (2, .int p2)]) hx hb dX2_share_23 hl (by decide) rfl (fun ls hl => ?_)
    refine lv_iconst (v := 0) hx hb dX2_share_25 (by decide) ?_
    refine lv_istore (lv' := [(5, .int (0 : Int32)), (4, .int (p2 / r5)), (3, .int r5), (0, .ref (ad 0)), (1, .int p1), (2, .int p2)]) hx hb dX2_share_26 hl (by decide) rfl (fun ls hl => ?_)
    exact L28 N _ h _ _ _ hw (lv_sub hl [3, 4, 1, 0] rfl)
  · have h := itf (fun z => z k10) h
    refine lv_aload_n hx hb dX2_share_13 rfl (lv_at hl 1 rfl) ?_
    refine lv_iload_n hx hb dX2_share_14 rfl (lv_at hl 2 rfl) ?_
    refine lv_iload_n hx hb dX2_share_15 rfl (lv_at hl 3 rfl) ?_
    obtain ⟨r16, h16, h⟩ := bnd h
    refine g_callv0 (isC := [0]) (gn := fun _ => [wSE g ad r16]) (g_runV (isC := [0]) (rest := []) (As := [.int p1, .int p2]) X hw (c_X2_addPart l (ad := ad) h16) rfl kM_X2_addPart ki_X2_addPart ks_X2_addPart km_X2_115 ⟨(Nat.le_of_ble_eq_true rfl), (Nat.le_of_ble_eq_true rfl)⟩ ⟨(Nat.le_of_ble_eq_true rfl), (Nat.le_of_ble_eq_true rfl)⟩ rfl rfl ⟨_, _, _, _, rfl, rfl, rfl, rfl⟩ rfl hl.1 rfl (Nat.le_of_ble_eq_true rfl) dX2_share_16) hw rfl rfl (fun _ => (Nat.le_of_ble_eq_true rfl)) (fun _ => rfl) rfl rfl (fun _ H locs hw => ?_)
    have h := Option.some.inj h
    subst h
    exact hret () dX2_share_19 hw
theorem kM_X2_spreadAnew : kM yX2_spreadAnew cX2_spreadAnew 3 (none : Option Jvm.ClassFile.FieldType) 2 := ⟨kc_X2_spreadAnew, kn_RingsOff_Search, by decide +kernel⟩
abbrev R_X2_spreadAnew : Room := { frames := 3, cells := 0, slots := 0, locals := 75 }
set_option maxHeartbeats 4000000 in
set_option maxRecDepth 100000 in
theorem c_X2_spreadAnew (l : Launch) {ad : Nat → Nat} {N : Nat} {se : SE} {p1 : Int32} {p2 : Int32} {out : SE} (h : M_X2_spreadAnew N se p1 p2 = some out) : gM l yX2_spreadAnew cX2_spreadAnew 3 (none : Option Jvm.ClassFile.FieldType) R_X2_spreadAnew (fun _ => [.ref (ad 0), .int p1, .int p2]) (fun g => [wSE g ad se]) (gQv (fun g (_ : Unit) => [wSE g ad out])) := by
  refine gM.ofv (by decide +kernel) (fun _ => Nat.le_of_ble_eq_true rfl) (fun g p e s m args below meth c A ls Q X hret hw hl => ?_)
  have hx := X.1.1
  have hb := X.1.2.1
  have hl : lv_has ls 3 [(0, .ref (ad 0)), (1, .int p1), (2, .int p2)] := hl
  unfold M_X2_spreadAnew at h
  refine lv_aload_n hx hb dX2_spreadAnew_0 rfl (lv_at hl 0 rfl) ?_
  obtain ⟨r1, h1, h⟩ := bnd h
  refine g_callv0 (isC := [0]) (gn := fun _ => [wSE g ad r1]) (g_runV (isC := [0]) (rest := []) (As := []) X hw (c_X2_forget l (ad := ad) h1) rfl kM_X2_forget ki_X2_forget ks_X2_forget km_X2_63 ⟨(Nat.le_of_ble_eq_true rfl), (Nat.le_of_ble_eq_true rfl)⟩ ⟨(Nat.le_of_ble_eq_true rfl), (Nat.le_of_ble_eq_true rfl)⟩ rfl rfl ⟨_, _, _, _, rfl, rfl, rfl, rfl⟩ rfl hl.1 rfl (Nat.le_of_ble_eq_true rfl) dX2_spreadAnew_1) hw rfl rfl (fun _ => (Nat.le_of_ble_eq_true rfl)) (fun _ => rfl) rfl rfl (fun _ H locs hw => ?_)
  refine lv_aload_n hx hb dX2_spreadAnew_4 rfl (lv_at hl 0 rfl) ?_
  refine lv_iload_n hx hb dX2_spreadAnew_5 rfl (lv_at hl 1 rfl) ?_
  refine lv_iload_n hx hb dX2_spreadAnew_6 rfl (lv_at hl 2 rfl) ?_
  obtain ⟨r7, h7, h⟩ := bnd h
  refine g_callv0 (isC := [0]) (gn := fun _ => [wSE g ad r7]) (g_runV (isC := [0]) (rest := []) (As := [.int p1, .int p2]) X hw (c_X2_spread l (ad := ad) h7) rfl kM_X2_spread ki_X2_spread ks_X2_spread km_X2_66 ⟨(Nat.le_of_ble_eq_true rfl), (Nat.le_of_ble_eq_true rfl)⟩ ⟨(Nat.le_of_ble_eq_true rfl), (Nat.le_of_ble_eq_true rfl)⟩ rfl rfl ⟨_, _, _, _, rfl, rfl, rfl, rfl⟩ rfl hl.1 rfl (Nat.le_of_ble_eq_true rfl) dX2_spreadAnew_7) hw rfl rfl (fun _ => (Nat.le_of_ble_eq_true rfl)) (fun _ => rfl) rfl rfl (fun _ H locs hw => ?_)
  have h := Option.some.inj h
  subst h
  exact hret () dX2_spreadAnew_10 hw
theorem kM_X2_shapeOfFound : kM yX2_shapeOfFound cX2_shapeOfFound 5 (some FieldType.int) 0 := ⟨kc_X2_shapeOfFound, kn_RingsOff_Search, by decide +kernel⟩
abbrev R_X2_shapeOfFound : Room := { frames := 3, cells := 0, slots := 0, locals := 72 }
set_option maxHeartbeats 4000000 in
set_option maxRecDepth 100000 in
theorem c_X2_shapeOfFound (l : Launch) {ad : Nat → Nat} {N : Nat} {se : SE} {out : Int32} (h : M_X2_shapeOfFound N se = some out) : gM l yX2_shapeOfFound cX2_shapeOfFound 5 (some FieldType.int) R_X2_shapeOfFound (fun _ => [.ref (ad 0)]) (fun g => [wSE g ad se]) (gQi (fun (_ : Unit) => out) (fun g (_ : Unit) => [wSE g ad se])) := by
  refine gM.ofi (by decide +kernel) (fun _ => Nat.le_of_ble_eq_true rfl) (fun g p e s m args below meth c A ls Q X hret hw hl => ?_)
  have hx := X.1.1
  have hb := X.1.2.1
  have hl : lv_has ls 5 [(0, .ref (ad 0))] := hl
  have L6 : ∀ (n : Nat) (z6 : Int32 × Int32 × Int32), lp (M_X2_shapeOfFound_l6 N se) n z6 = some out → ∀ (H : Heap) (locs : List Loc) (ls : Array Slot), gW g A s.heap [wSE g ad se] H locs → lv_has ls 5 [(0, .ref (ad 0)), (1, .int z6.1), (2, .int z6.2.1), (3, .int z6.2.2)] → W p l e R_X2_shapeOfFound s m args below meth c H locs 0 0 Q (F0 m 6 ls []) := by
    refine lp_ind ?_
    intro rec6 ih6
    intro z6 h H locs ls hw hl
    unfold M_X2_shapeOfFound_l6 at h
    refine lv_iload_n hx hb dX2_shapeOfFound_6 rfl (lv_at hl 3 rfl) ?_
    refine lv_aload_n hx hb dX2_shapeOfFound_7 rfl (lv_at hl 0 rfl) ?_
    refine SE_g_found X hw 0 rfl kf_X2_34 dX2_shapeOfFound_8 ?_
    refine lv_icmp_ge (tgt := 43) hx hb dX2_shapeOfFound_11 (by decide) (fun k11 => ?_) (fun k11 => ?_)
    · have h := itt k11 h
      refine lv_iload_n hx hb dX2_shapeOfFound_43 rfl (lv_at hl 1 rfl) ?_
      refine lv_iconst (v := 2) hx hb dX2_shapeOfFound_44 (by decide) ?_
      refine lv_aload_n hx hb dX2_shapeOfFound_45 rfl (lv_at hl 0 rfl) ?_
      refine SE_g_found X hw 0 rfl kf_X2_34 dX2_shapeOfFound_46 ?_
      refine lv_imul hx hb dX2_shapeOfFound_49 ?_
      refine lv_icmp_lt (tgt := 55) hx hb dX2_shapeOfFound_50 (by decide) (fun k50 => ?_) (fun k50 => ?_)
      · have h := itt k50 h
        refine lv_iload_n hx hb dX2_shapeOfFound_55 rfl (lv_at hl 2 rfl) ?_
        refine lv_iconst (v := 2) hx hb dX2_shapeOfFound_56 (by decide) ?_
        refine lv_icmp_gt (tgt := 64) hx hb dX2_shapeOfFound_57 (by decide) (fun k57 => ?_) (fun k57 => ?_)
        · have h := itt k57 h
          refine lv_iconst (v := 1) hx hb dX2_shapeOfFound_64 (by decide) ?_
          have h := Option.some.inj h
          subst h
          exact hret () dX2_shapeOfFound_65 rfl hw
        · have h := itf k57 h
          refine lv_iconst (v := 0) hx hb dX2_shapeOfFound_60 (by decide) ?_
          refine lv_goto (tgt := 65) hx hb dX2_shapeOfFound_61 (by decide) ?_
          have h := Option.some.inj h
          subst h
          exact hret () dX2_shapeOfFound_65 rfl hw
      · have h := itf k50 h
        refine lv_iconst (v := 2) hx hb dX2_shapeOfFound_53 (by decide) ?_
        have h := Option.some.inj h
        subst h
        exact hret () dX2_shapeOfFound_54 rfl hw
    · have h := itf k11 h
      refine lv_aload_n hx hb dX2_shapeOfFound_14 rfl (lv_at hl 0 rfl) ?_
      refine lv_aload_n hx hb dX2_shapeOfFound_15 rfl (lv_at hl 0 rfl) ?_
      refine lv_iload_n hx hb dX2_shapeOfFound_16 rfl (lv_at hl 3 rfl) ?_
      obtain ⟨r17, h17, h⟩ := bnd h
      refine g_calli0 (isC := [0]) (gn := fun _ => [wSE g ad se]) (g_runV (isC := [0]) (rest := [.ref (ad 0)]) (As := [.int z6.2.2]) X hw (c_X2_foundAt l (ad := ad) h17) rfl kM_X2_foundAt ki_X2_foundAt ks_X2_foundAt km_X2_73 ⟨(Nat.le_of_ble_eq_true rfl), (Nat.le_of_ble_eq_true rfl)⟩ ⟨(Nat.le_of_ble_eq_true rfl), (Nat.le_of_ble_eq_true rfl)⟩ rfl rfl ⟨_, _, _, _, rfl, rfl, rfl, rfl⟩ rfl hl.1 rfl (Nat.le_of_ble_eq_true rfl) dX2_shapeOfFound_17) hw rfl rfl (fun _ => (Nat.le_of_ble_eq_true rfl)) (fun _ => rfl) rfl rfl (fun _ H locs hw => ?_)
      obtain ⟨r20, h20, h⟩ := bnd h
      refine g_calli0 (isC := [0]) (gn := fun _ => [wSE g ad se]) (g_runV (isC := [0]) (rest := []) (As := [.int r17]) X hw (c_X2_pairsOf l (ad := ad) h20) rfl kM_X2_pairsOf ki_X2_pairsOf ks_X2_pairsOf km_X2_93 ⟨(Nat.le_of_ble_eq_true rfl), (Nat.le_of_ble_eq_true rfl)⟩ ⟨(Nat.le_of_ble_eq_true rfl), (Nat.le_of_ble_eq_true rfl)⟩ rfl rfl ⟨_, _, _, _, rfl, rfl, rfl, rfl⟩ rfl hl.1 rfl (Nat.le_of_ble_eq_true rfl) dX2_shapeOfFound_20) hw rfl rfl (fun _ => (Nat.le_of_ble_eq_true rfl)) (fun _ => rfl) rfl rfl (fun _ H locs hw => ?_)
      refine lv_istore (lv' := [(4, .int r20), (0, .ref (ad 0)), (1, .int z6.1), (2, .int z6.2.1), (3, .int z6.2.2)]) hx hb dX2_shapeOfFound_23 hl (by decide) rfl (fun ls hl => ?_)
      refine lv_iload_n hx hb dX2_shapeOfFound_25 rfl (lv_at hl 2 rfl) ?_
      refine lv_iload hx hb dX2_shapeOfFound_26 (lv_at hl 0 rfl) ?_
      refine lv_iadd hx hb dX2_shapeOfFound_28 ?_
      refine lv_istore_n (lv' := [(1, .int (z6.1 + r20)), (4, .int r20), (0, .ref (ad 0)), (2, .int z6.2.1), (3, .int z6.2.2)]) hx hb dX2_shapeOfFound_29 rfl hl (by decide) rfl (fun ls hl => ?_)
      refine lv_iload_n hx hb dX2_shapeOfFound_30 rfl (lv_at hl 3 rfl) ?_
      refine lv_iload hx hb dX2_shapeOfFound_31 (lv_at hl 1 rfl) ?_
      refine va_mmax hx hb (X.1.2.2.1.trans hl.1.symm) X.1.2.2.2.1 (gK1 X _ km_X2_96) (gK1 X _ kt_J9_max_7cf53) (gK1 X _ kn_java_lang_Math) (gK1 X _ kc_J9_max_7cf53) (Nat.le_of_ble_eq_true rfl) (Nat.le_of_ble_eq_true rfl) (Nat.le_of_ble_eq_true rfl) (Nat.le_of_ble_eq_true rfl) dX2_shapeOfFound_33 ?_
      refine W.eq (g2 := F0 m 36 ls [.int (jmax z6.2.1 r20)]) rfl ?_
      refine lv_istore_n (lv' := [(2, .int (jmax z6.2.1 r20)), (1, .int (z6.1 + r20)), (4, .int r20), (0, .ref (ad 0)), (3, .int z6.2.2)]) hx hb dX2_shapeOfFound_36 rfl hl (by decide) rfl (fun ls hl => ?_)
      refine lv_iinc (v := (z6.2.2 + 1)) (lv' := [(3, .int (z6.2.2 + 1)), (2, .int (jmax z6.2.1 r20)), (1, .int (z6.1 + r20)), (4, .int r20), (0, .ref (ad 0))]) hx hb dX2_shapeOfFound_37 hl (k := 4) rfl rfl (by decide) rfl (fun ls hl => ?_)
      refine lv_goto (tgt := 6) hx hb dX2_shapeOfFound_40 (by decide) ?_
      exact ih6 _ h _ _ _ hw (lv_sub hl [4, 2, 1, 0] rfl)
  unfold M_X2_shapeOfFound at h
  refine lv_iconst (v := 0) hx hb dX2_shapeOfFound_0 (by decide) ?_
  refine lv_istore_n (lv' := [(1, .int (0 : Int32)), (0, .ref (ad 0))]) hx hb dX2_shapeOfFound_1 rfl hl (by decide) rfl (fun ls hl => ?_)
  refine lv_iconst (v := 0) hx hb dX2_shapeOfFound_2 (by decide) ?_
  refine lv_istore_n (lv' := [(2, .int (0 : Int32)), (1, .int (0 : Int32)), (0, .ref (ad 0))]) hx hb dX2_shapeOfFound_3 rfl hl (by decide) rfl (fun ls hl => ?_)
  refine lv_iconst (v := 0) hx hb dX2_shapeOfFound_4 (by decide) ?_
  refine lv_istore_n (lv' := [(3, .int (0 : Int32)), (2, .int (0 : Int32)), (1, .int (0 : Int32)), (0, .ref (ad 0))]) hx hb dX2_shapeOfFound_5 rfl hl (by decide) rfl (fun ls hl => ?_)
  exact L6 N _ h _ _ _ hw (lv_sub hl [3, 2, 1, 0] rfl)
theorem kM_X2_greatestFewest : kM yX2_greatestFewest cX2_greatestFewest 3 (some FieldType.int) 0 := ⟨kc_X2_greatestFewest, kn_RingsOff_Search, by decide +kernel⟩
abbrev R_X2_greatestFewest : Room := { frames := 4, cells := 0, slots := 0, locals := 97 }
set_option maxHeartbeats 4000000 in
set_option maxRecDepth 100000 in
theorem c_X2_greatestFewest (l : Launch) {ad : Nat → Nat} {N : Nat} {se : SE} {out : Int32 × SE} (h : M_X2_greatestFewest N se = some out) : gM l yX2_greatestFewest cX2_greatestFewest 3 (some FieldType.int) R_X2_greatestFewest (fun _ => [.ref (ad 0)]) (fun g => [wSE g ad se]) (gQi (fun (_ : Unit) => out.1) (fun g (_ : Unit) => [wSE g ad out.2])) := by
  refine gM.ofi (by decide +kernel) (fun _ => Nat.le_of_ble_eq_true rfl) (fun g p e s m args below meth c A ls Q X hret hw hl => ?_)
  have hx := X.1.1
  have hb := X.1.2.1
  have hl : lv_has ls 3 [(0, .ref (ad 0))] := hl
  have L4 : ∀ (n : Nat) (z4 : SE × Int32 × Int32), lp (M_X2_greatestFewest_l4 N) n z4 = some out → ∀ (H : Heap) (locs : List Loc) (ls : Array Slot), gW g A s.heap [wSE g ad z4.1] H locs → lv_has ls 3 [(0, .ref (ad 0)), (1, .int z4.2.1), (2, .int z4.2.2)] → W p l e R_X2_greatestFewest s m args below meth c H locs 0 0 Q (F0 m 4 ls []) := by
    refine lp_ind ?_
    intro rec4 ih4
    intro z4 h H locs ls hw hl
    unfold M_X2_greatestFewest_l4 at h
    refine lv_iload_n hx hb dX2_greatestFewest_4 rfl (lv_at hl 2 rfl) ?_
    refine lv_aload_n hx hb dX2_greatestFewest_5 rfl (lv_at hl 0 rfl) ?_
    refine SE_g_sets X hw 0 rfl kf_X2_31 dX2_greatestFewest_6 ?_
    refine lv_icmp_ge (tgt := 43) hx hb dX2_greatestFewest_9 (by decide) (fun k9 => ?_) (fun k9 => ?_)
    · have h := itt k9 h
      refine lv_iload_n hx hb dX2_greatestFewest_43 rfl (lv_at hl 1 rfl) ?_
      have h := Option.some.inj h
      subst h
      exact hret () dX2_greatestFewest_44 rfl hw
    · have h := itf k9 h
      refine lv_aload_n hx hb dX2_greatestFewest_12 rfl (lv_at hl 0 rfl) ?_
      refine lv_iload_n hx hb dX2_greatestFewest_13 rfl (lv_at hl 2 rfl) ?_
      refine lv_iconst (v := 1) hx hb dX2_greatestFewest_14 (by decide) ?_
      obtain ⟨r15, h15, h⟩ := bnd h
      refine g_callv0 (isC := [0]) (gn := fun _ => [wSE g ad r15]) (g_runV (isC := [0]) (rest := []) (As := [.int z4.2.2, .int (1 : Int32)]) X hw (c_X2_spreadAnew l (ad := ad) h15) rfl kM_X2_spreadAnew ki_X2_spreadAnew ks_X2_spreadAnew km_X2_99 ⟨(Nat.le_of_ble_eq_true rfl), (Nat.le_of_ble_eq_true rfl)⟩ ⟨(Nat.le_of_ble_eq_true rfl), (Nat.le_of_ble_eq_true rfl)⟩ rfl rfl ⟨_, _, _, _, rfl, rfl, rfl, rfl⟩ rfl hl.1 rfl (Nat.le_of_ble_eq_true rfl) dX2_greatestFewest_15) hw rfl rfl (fun _ => (Nat.le_of_ble_eq_true rfl)) (fun _ => rfl) rfl rfl (fun _ H locs hw => ?_)
      refine lv_iload_n hx hb dX2_greatestFewest_18 rfl (lv_at hl 1 rfl) ?_
      refine lv_aload_n hx hb dX2_greatestFewest_19 rfl (lv_at hl 0 rfl) ?_
      refine lv_aload_n hx hb dX2_greatestFewest_20 rfl (lv_at hl 0 rfl) ?_
      refine lv_aload_n hx hb dX2_greatestFewest_21 rfl (lv_at hl 0 rfl) ?_
      refine SE_g_found X hw 0 rfl kf_X2_34 dX2_greatestFewest_22 ?_
      refine lv_iconst (v := 1) hx hb dX2_greatestFewest_25 (by decide) ?_
      refine lv_isub hx hb dX2_greatestFewest_26 ?_
      obtain ⟨r27, h27, h⟩ := bnd h
      refine g_calli0 (isC := [0]) (gn := fun _ => [wSE g ad r15]) (g_runV (isC := [0]) (rest := [.ref (ad 0), .int z4.2.1]) (As := [.int ((SE_found r15) - (1 : Int32))]) X hw (c_X2_foundAt l (ad := ad) h27) rfl kM_X2_foundAt ki_X2_foundAt ks_X2_foundAt km_X2_73 ⟨(Nat.le_of_ble_eq_true rfl), (Nat.le_of_ble_eq_true rfl)⟩ ⟨(Nat.le_of_ble_eq_true rfl), (Nat.le_of_ble_eq_true rfl)⟩ rfl rfl ⟨_, _, _, _, rfl, rfl, rfl, rfl⟩ rfl hl.1 rfl (Nat.le_of_ble_eq_true rfl) dX2_greatestFewest_27) hw rfl rfl (fun _ => (Nat.le_of_ble_eq_true rfl)) (fun _ => rfl) rfl rfl (fun _ H locs hw => ?_)
      obtain ⟨r30, h30, h⟩ := bnd h
      refine g_calli0 (isC := [0]) (gn := fun _ => [wSE g ad r15]) (g_runV (isC := [0]) (rest := [.int z4.2.1]) (As := [.int r27]) X hw (c_X2_farOf l (ad := ad) h30) rfl kM_X2_farOf ki_X2_farOf ks_X2_farOf km_X2_76 ⟨(Nat.le_of_ble_eq_true rfl), (Nat.le_of_ble_eq_true rfl)⟩ ⟨(Nat.le_of_ble_eq_true rfl), (Nat.le_of_ble_eq_true rfl)⟩ rfl rfl ⟨_, _, _, _, rfl, rfl, rfl, rfl⟩ rfl hl.1 rfl (Nat.le_of_ble_eq_true rfl) dX2_greatestFewest_30) hw rfl rfl (fun _ => (Nat.le_of_ble_eq_true rfl)) (fun _ => rfl) rfl rfl (fun _ H locs hw => ?_)
      refine va_mmax hx hb (X.1.2.2.1.trans hl.1.symm) X.1.2.2.2.1 (gK1 X _ km_X2_96) (gK1 X _ kt_J9_max_7cf53) (gK1 X _ kn_java_lang_Math) (gK1 X _ kc_J9_max_7cf53) (Nat.le_of_ble_eq_true rfl) (Nat.le_of_ble_eq_true rfl) (Nat.le_of_ble_eq_true rfl) (Nat.le_of_ble_eq_true rfl) dX2_greatestFewest_33 ?_
      refine W.eq (g2 := F0 m 36 ls [.int (jmax z4.2.1 r30)]) rfl ?_
      refine lv_istore_n (lv' := [(1, .int (jmax z4.2.1 r30)), (0, .ref (ad 0)), (2, .int z4.2.2)]) hx hb dX2_greatestFewest_36 rfl hl (by decide) rfl (fun ls hl => ?_)
      refine lv_iinc (v := (z4.2.2 + 1)) (lv' := [(2, .int (z4.2.2 + 1)), (1, .int (jmax z4.2.1 r30)), (0, .ref (ad 0))]) hx hb dX2_greatestFewest_37 hl (k := 2) rfl rfl (by decide) rfl (fun ls hl => ?_)
      refine lv_goto (tgt := 4) hx hb dX2_greatestFewest_40 (by decide) ?_
      exact ih4 _ h _ _ _ hw (lv_sub hl [2, 1, 0] rfl)
  unfold M_X2_greatestFewest at h
  refine lv_iconst (v := 0) hx hb dX2_greatestFewest_0 (by decide) ?_
  refine lv_istore_n (lv' := [(1, .int (0 : Int32)), (0, .ref (ad 0))]) hx hb dX2_greatestFewest_1 rfl hl (by decide) rfl (fun ls hl => ?_)
  refine lv_iconst (v := 0) hx hb dX2_greatestFewest_2 (by decide) ?_
  refine lv_istore_n (lv' := [(2, .int (0 : Int32)), (1, .int (0 : Int32)), (0, .ref (ad 0))]) hx hb dX2_greatestFewest_3 rfl hl (by decide) rfl (fun ls hl => ?_)
  exact L4 N _ h _ _ _ hw (lv_sub hl [2, 1, 0] rfl)
theorem kM_X2_learn : kM yX2_learn cX2_learn 3 (none : Option Jvm.ClassFile.FieldType) 1 := ⟨kc_X2_learn, kn_RingsOff_Search, by decide +kernel⟩
abbrev R_X2_learn : Room := { frames := 5, cells := 0, slots := 0, locals := 105 }
set_option maxHeartbeats 4000000 in
set_option maxRecDepth 100000 in
theorem c_X2_learn (l : Launch) {ad : Nat → Nat} {ad1 : Nat → Nat} {N : Nat} {se : SE} {lw : LW} {out : SE} (h : M_X2_learn N se lw = some out) : gM l yX2_learn cX2_learn 3 (none : Option Jvm.ClassFile.FieldType) R_X2_learn (fun _ => [.ref (ad 0), .ref (ad1 0)]) (fun g => [wSE g ad se, wLW g ad1 lw]) (gQv (fun g (_ : Unit) => [wSE g ad out, wLW g ad1 lw])) := by
  refine gM.ofv (by decide +kernel) (fun _ => Nat.le_of_ble_eq_true rfl) (fun g p e s m args below meth c A ls Q X hret hw hl => ?_)
  have hx := X.1.1
  have hb := X.1.2.1
  have hl : lv_has ls 3 [(0, .ref (ad 0)), (1, .ref (ad1 0))] := hl
  have L26 : ∀ (n : Nat) (z26 : SE × Int32), lp (M_X2_learn_l26 N lw) n z26 = some out → ∀ (H : Heap) (locs : List Loc) (ls : Array Slot), gW g A s.heap [wSE g ad z26.1, wLW g ad1 lw] H locs → lv_has ls 3 [(0, .ref (ad 0)), (1, .ref (ad1 0)), (2, .int z26.2)] → W p l e R_X2_learn s m args below meth c H locs 0 0 Q (F0 m 26 ls []) := by
    refine lp_ind ?_
    intro rec26 ih26
    intro z26 h H locs ls hw hl
    unfold M_X2_learn_l26 at h
    refine lv_iload_n hx hb dX2_learn_26 rfl (lv_at hl 2 rfl) ?_
    refine lv_aload_n hx hb dX2_learn_27 rfl (lv_at hl 0 rfl) ?_
    refine SE_g_sets X hw 0 rfl kf_X2_31 dX2_learn_28 ?_
    refine lv_icmp_ge (tgt := 51) hx hb dX2_learn_31 (by decide) (fun k31 => ?_) (fun k31 => ?_)
    · have h := itt k31 h
      have h := Option.some.inj h
      subst h
      exact hret () dX2_learn_51 hw
    · have h := itf k31 h
      refine lv_aload_n hx hb dX2_learn_34 rfl (lv_at hl 0 rfl) ?_
      refine SE_g_legal X hw 0 rfl kf_X2_9 dX2_learn_35 ?_
      refine lv_iload_n hx hb dX2_learn_38 rfl (lv_at hl 2 rfl) ?_
      refine lv_aload_n hx hb dX2_learn_39 rfl (lv_at hl 1 rfl) ?_
      refine lv_iload_n hx hb dX2_learn_40 rfl (lv_at hl 2 rfl) ?_
      obtain ⟨r41, h41, h⟩ := bnd h
      refine g_calli0 (isC := [1]) (gn := fun _ => [wSE g ad z26.1, wLW g ad1 lw]) (g_runVN (isC := [1]) (rest := [.int z26.2, .ref (ad 1)]) (As := [.int z26.2]) X hw (c_X1_legalIn l (ad := ad1) h41) rfl kM_X1_legalIn ki_X1_legalIn ks_X1_legalIn km_X2_46 ⟨(Nat.le_of_ble_eq_true rfl), (Nat.le_of_ble_eq_true rfl)⟩ ⟨(Nat.le_of_ble_eq_true rfl), (Nat.le_of_ble_eq_true rfl)⟩ rfl rfl ⟨_, _, _, _, rfl, rfl, rfl, rfl⟩ rfl hl.1 rfl (Nat.le_of_ble_eq_true rfl) dX2_learn_41) hw rfl rfl (fun _ => (Nat.le_of_ble_eq_true rfl)) (fun _ => rfl) rfl rfl (fun _ H locs hw => ?_)
      obtain ⟨q44, h⟩ := chk h
      refine SE_a_legal (gs' := [wSE g ad (SE_s_legal z26.1 (upd (SE_legal z26.1) z26.2.toNatClampNeg r41)), wLW g ad1 lw]) X hw 0 rfl q44 dX2_learn_44 rfl (fun H locs hw => ?_)
      refine lv_iinc (v := (z26.2 + 1)) (lv' := [(2, .int (z26.2 + 1)), (0, .ref (ad 0)), (1, .ref (ad1 0))]) hx hb dX2_learn_45 hl (k := 2) rfl rfl (by decide) rfl (fun ls hl => ?_)
      refine lv_goto (tgt := 26) hx hb dX2_learn_48 (by decide) ?_
      exact ih26 _ h _ _ _ hw (lv_sub hl [1, 2, 0] rfl)
  unfold M_X2_learn at h
  refine lv_aload_n hx hb dX2_learn_0 rfl (lv_at hl 0 rfl) ?_
  refine lv_aload_n hx hb dX2_learn_1 rfl (lv_at hl 1 rfl) ?_
  refine LW_gn_size X hw 1 rfl kf_X2_37 dX2_learn_2 ?_
  refine SE_p_size (gs' := [wSE g ad (SE_s_size se (LW_size lw)), wLW g ad1 lw]) X hw 0 rfl kf_X2_27 dX2_learn_5 rfl (fun H locs hw => ?_)
  refine lv_aload_n hx hb dX2_learn_8 rfl (lv_at hl 0 rfl) ?_
  refine lv_iconst (v := 1) hx hb dX2_learn_9 (by decide) ?_
  refine lv_aload_n hx hb dX2_learn_10 rfl (lv_at hl 0 rfl) ?_
  refine SE_g_size X hw 0 rfl kf_X2_27 dX2_learn_11 ?_
  refine lv_ishl hx hb dX2_learn_14 ?_
  refine lv_sipush (v := 1024) hx hb dX2_learn_15 (by decide) ?_
  refine va_mmin hx hb (X.1.2.2.1.trans hl.1.symm) X.1.2.2.2.1 (gK1 X _ km_X2_40) (gK1 X _ kt_J9_min_7cf53) (gK1 X _ kn_java_lang_Math) (gK1 X _ kc_J9_min_7cf53) (Nat.le_of_ble_eq_true rfl) (Nat.le_of_ble_eq_true rfl) (Nat.le_of_ble_eq_true rfl) (Nat.le_of_ble_eq_true rfl) dX2_learn_18 ?_
  refine W.eq (g2 := F0 m 21 ls [.int (jmin ((1 : Int32) <<< ((SE_size (SE_s_size se (LW_size lw))) &&& 31)) (1024 : Int32)), .ref (ad 0)]) rfl ?_
  refine SE_p_sets (gs' := [wSE g ad (SE_s_sets (SE_s_size se (LW_size lw)) (jmin ((1 : Int32) <<< ((SE_size (SE_s_size se (LW_size lw))) &&& 31)) (1024 : Int32))), wLW g ad1 lw]) X hw 0 rfl kf_X2_31 dX2_learn_21 rfl (fun H locs hw => ?_)
  refine lv_iconst (v := 0) hx hb dX2_learn_24 (by decide) ?_
  refine lv_istore_n (lv' := [(2, .int (0 : Int32)), (0, .ref (ad 0)), (1, .ref (ad1 0))]) hx hb dX2_learn_25 rfl hl (by decide) rfl (fun ls hl => ?_)
  exact L26 N _ h _ _ _ hw (lv_sub hl [1, 2, 0] rfl)
