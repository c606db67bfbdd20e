theorem kM_X5_element : kM yX5_element cX5_element 3 (some FieldType.long) 2 := ⟨kc_X5_element, kn_RingsOff, by decide +kernel⟩
abbrev R_X5_element : Room := { frames := 3, cells := 0, slots := 0, locals := 66 }
set_option maxHeartbeats 4000000 in
set_option maxRecDepth 100000 in
theorem c_X5_element (l : Launch) {ad : Nat → Nat} {adS : Nat → Nat} {aN : Nat} {aK : Nat} {aD : Nat} {aT : Nat} {aL : Nat} {aE : Nat} {N : Nat} {ro : RO} {sh : SH} {p1 : Int32} {p2 : Int32} {out : Int64} (h : M_X5_element N ro sh p1 p2 = some out) : gM l yX5_element cX5_element 3 (some FieldType.long) R_X5_element (fun _ => [.ref (ad 0), .int p1, .int p2]) (fun g => [wRO g ad aN aK aD (adS 0) aT aL aE ro, wSH g adS sh]) (gQl (fun (_ : Unit) => out) (fun g (_ : Unit) => [wRO g ad aN aK aD (adS 0) aT aL aE ro, wSH g adS sh])) := by
  refine gM.ofl (by decide +kernel) (fun _ => Nat.le_of_ble_eq_true rfl) (fun g p e s m args below meth c A ls Q X hret hw hl => ?_)
  have hx := X.1.1
  have hb := X.1.2.1
  have hl : lv_has ls 3 [(0, .ref (ad 0)), (1, .int p1), (2, .int p2)] := hl
  unfold M_X5_element at h
  refine lv_aload_n hx hb dX5_element_0 rfl (lv_at hl 0 rfl) ?_
  refine RO_g_shelves X hw 0 rfl kf_X5_25 dX5_element_1 ?_
  refine lv_iload_n hx hb dX5_element_4 rfl (lv_at hl 1 rfl) ?_
  refine lv_iload_n hx hb dX5_element_5 rfl (lv_at hl 2 rfl) ?_
  obtain ⟨r6, h6, h⟩ := bnd h
  refine g_calll0 (isC := [1]) (gn := fun _ => [wRO g ad aN aK aD (adS 0) aT aL aE ro, wSH g adS sh]) (g_runVN (isC := [1]) (rest := []) (As := [.int p1, .int p2]) X hw (c_X3_cell l (ad := adS) h6) rfl kM_X3_cell ki_X3_cell ks_X3_cell km_X5_92 ⟨(Nat.le_of_ble_eq_true rfl), (Nat.le_of_ble_eq_true rfl)⟩ ⟨(Nat.le_of_ble_eq_true rfl), (Nat.le_of_ble_eq_true rfl)⟩ rfl rfl ⟨_, _, _, _, rfl, rfl, rfl, rfl⟩ rfl hl.1 rfl (Nat.le_of_ble_eq_true rfl) dX5_element_6) hw rfl rfl (fun _ => (Nat.le_of_ble_eq_true rfl)) (fun _ => rfl) rfl rfl (fun _ H locs hw => ?_)
  have h := Option.some.inj h
  subst h
  exact hret () dX5_element_9 rfl hw
theorem kM_X5_holds : kM yX5_holds cX5_holds 2 (some FieldType.int) 1 := ⟨kc_X5_holds, kn_RingsOff, by decide +kernel⟩
abbrev R_X5_holds : Room := { frames := 2, cells := 0, slots := 0, locals := 41 }
set_option maxHeartbeats 4000000 in
set_option maxRecDepth 100000 in
theorem c_X5_holds (l : Launch) {ad : Nat → Nat} {adS : Nat → Nat} {aN : Nat} {aK : Nat} {aD : Nat} {aT : Nat} {aL : Nat} {aE : Nat} {N : Nat} {ro : RO} {sh : SH} {p1 : Int32} {out : Int32} (h : M_X5_holds N ro sh p1 = some out) : gM l yX5_holds cX5_holds 2 (some FieldType.int) R_X5_holds (fun _ => [.ref (ad 0), .int p1]) (fun g => [wRO g ad aN aK aD (adS 0) aT aL aE ro, wSH g adS sh]) (gQi (fun (_ : Unit) => out) (fun g (_ : Unit) => [wRO g ad aN aK aD (adS 0) aT aL aE ro, wSH g adS sh])) := by
  refine gM.ofi (by decide +kernel) (fun _ => Nat.le_of_ble_eq_true rfl) (fun g p e s m args below meth c A ls Q X hret hw hl => ?_)
  have hx := X.1.1
  have hb := X.1.2.1
  have hl : lv_has ls 2 [(0, .ref (ad 0)), (1, .int p1)] := hl
  unfold M_X5_holds at h
  refine lv_aload_n hx hb dX5_holds_0 rfl (lv_at hl 0 rfl) ?_
  refine RO_g_shelves X hw 0 rfl kf_X5_25 dX5_holds_1 ?_
  refine lv_iload_n hx hb dX5_holds_4 rfl (lv_at hl 1 rfl) ?_
  obtain ⟨r5, h5, h⟩ := bnd h
  refine g_calli0 (isC := [1]) (gn := fun _ => [wRO g ad aN aK aD (adS 0) aT aL aE ro, wSH g adS sh]) (g_runVN (isC := [1]) (rest := []) (As := [.int p1]) X hw (c_X3_heldBy l (ad := adS) h5) rfl kM_X3_heldBy ki_X3_heldBy ks_X3_heldBy km_X5_96 ⟨(Nat.le_of_ble_eq_true rfl), (Nat.le_of_ble_eq_true rfl)⟩ ⟨(Nat.le_of_ble_eq_true rfl), (Nat.le_of_ble_eq_true rfl)⟩ rfl rfl ⟨_, _, _, _, rfl, rfl, rfl, rfl⟩ rfl hl.1 rfl (Nat.le_of_ble_eq_true rfl) dX5_holds_5) hw rfl rfl (fun _ => (Nat.le_of_ble_eq_true rfl)) (fun _ => rfl) rfl rfl (fun _ H locs hw => ?_)
  have h := Option.some.inj h
  subst h
  exact hret () dX5_holds_8 rfl hw
theorem kM_X5_wipe : kM yX5_wipe cX5_wipe 2 (some FieldType.int) 0 := ⟨kc_X5_wipe, kn_RingsOff, by decide +kernel⟩
abbrev R_X5_wipe : Room := { frames := 1, cells := 0, slots := 0, locals := 20 }
set_option maxHeartbeats 4000000 in
set_option maxRecDepth 100000 in
theorem c_X5_wipe (l : Launch) {ad : Nat → Nat} {adT : Nat → Nat} {aN : Nat} {aK : Nat} {aD : Nat} {aS : Nat} {aL : Nat} {aE : Nat} {N : Nat} {ro : RO} {tp : TP} {out : Int32 × TP} (h : M_X5_wipe N ro tp = some out) : gM l yX5_wipe cX5_wipe 2 (some FieldType.int) R_X5_wipe (fun _ => [.ref (ad 0)]) (fun g => [wRO g ad aN aK aD aS (adT 0) aL aE ro, wTP g adT tp]) (gQi (fun (_ : Unit) => out.1) (fun g (_ : Unit) => [wRO g ad aN aK aD aS (adT 0) aL aE ro, wTP g adT out.2])) := by
  refine gM.ofi (by decide +kernel) (fun _ => Nat.le_of_ble_eq_true rfl) (fun g p e s m args below meth c A ls Q X hret hw hl => ?_)
  have hx := X.1.1
  have hb := X.1.2.1
  have hl : lv_has ls 2 [(0, .ref (ad 0))] := hl
  unfold M_X5_wipe at h
  refine lv_aload_n hx hb dX5_wipe_0 rfl (lv_at hl 0 rfl) ?_
  refine RO_g_tape X hw 0 rfl kf_X5_32 dX5_wipe_1 ?_
  refine TP_gn_size X hw 1 rfl kf_X5_202 dX5_wipe_4 ?_
  refine lv_istore_n (lv' := [(1, .int (TP_size tp)), (0, .ref (ad 0))]) hx hb dX5_wipe_7 rfl hl (by decide) rfl (fun ls hl => ?_)
  refine lv_aload_n hx hb dX5_wipe_8 rfl (lv_at hl 1 rfl) ?_
  refine RO_g_tape X hw 0 rfl kf_X5_32 dX5_wipe_9 ?_
  obtain ⟨r12, h12, h⟩ := bnd h
  refine g_callv0 (isC := [1]) (gn := fun _ => [wRO g ad aN aK aD aS (adT 0) aL aE ro, wTP g adT r12]) (g_runVN (isC := [1]) (rest := []) (As := []) X hw (c_X4_clear l (ad := adT) h12) rfl kM_X4_clear ki_X4_clear ks_X4_clear km_X5_206 ⟨(Nat.le_of_ble_eq_true rfl), (Nat.le_of_ble_eq_true rfl)⟩ ⟨(Nat.le_of_ble_eq_true rfl), (Nat.le_of_ble_eq_true rfl)⟩ rfl rfl ⟨_, _, _, _, rfl, rfl, rfl, rfl⟩ rfl hl.1 rfl (Nat.le_of_ble_eq_true rfl) dX5_wipe_12) hw rfl rfl (fun _ => (Nat.le_of_ble_eq_true rfl)) (fun _ => rfl) rfl rfl (fun _ H locs hw => ?_)
  refine lv_iload_n hx hb dX5_wipe_15 rfl (lv_at hl 0 rfl) ?_
  have h := Option.some.inj h
  subst h
  exact hret () dX5_wipe_16 rfl hw
theorem kM_X5_seed : kM yX5_seed cX5_seed 3 (some FieldType.int) 1 := ⟨kc_X5_seed, kn_RingsOff, by decide +kernel⟩
abbrev R_X5_seed : Room := { frames := 0, cells := 0, slots := 0, locals := 0 }
set_option maxHeartbeats 4000000 in
set_option maxRecDepth 100000 in
theorem c_X5_seed (l : Launch) {ad : Nat → Nat} {adN : Nat → Nat} {aK : Nat} {aD : Nat} {aS : Nat} {aT : Nat} {aL : Nat} {aE : Nat} {N : Nat} {ro : RO} {nw : EV} {p1 : Int32} {out : Int32 × EV} (h : M_X5_seed N ro nw p1 = some out) : gM l yX5_seed cX5_seed 3 (some FieldType.int) R_X5_seed (fun _ => [.ref (ad 0), .int p1]) (fun g => [wRO g ad (adN 0) aK aD aS aT aL aE ro, wEV g adN nw]) (gQi (fun (_ : Unit) => out.1) (fun g (_ : Unit) => [wRO g ad (adN 0) aK aD aS aT aL aE ro, wEV g adN out.2])) := by
  refine gM.ofi (by decide +kernel) (fun _ => Nat.le_of_ble_eq_true rfl) (fun g p e s m args below meth c A ls Q X hret hw hl => ?_)
  have hx := X.1.1
  have hb := X.1.2.1
  have hl : lv_has ls 3 [(0, .ref (ad 0)), (1, .int p1)] := hl
  unfold M_X5_seed at h
  refine lv_aload_n hx hb dX5_seed_0 rfl (lv_at hl 0 rfl) ?_
  refine RO_g_now X hw 0 rfl kf_X5_12 dX5_seed_1 ?_
  refine EV_gn_seed X hw 1 rfl kf_X5_349 dX5_seed_4 ?_
  refine lv_istore_n (lv' := [(2, .int (EV_seed nw)), (0, .ref (ad 0)), (1, .int p1)]) hx hb dX5_seed_7 rfl hl (by decide) rfl (fun ls hl => ?_)
  refine lv_aload_n hx hb dX5_seed_8 rfl (lv_at hl 1 rfl) ?_
  refine RO_g_now X hw 0 rfl kf_X5_12 dX5_seed_9 ?_
  refine lv_iload_n hx hb dX5_seed_12 rfl (lv_at hl 2 rfl) ?_
  refine EV_pn_seed (gs' := [wRO g ad (adN 0) aK aD aS aT aL aE ro, wEV g adN (EV_s_seed nw p1)]) X hw 1 rfl kf_X5_349 dX5_seed_13 rfl (fun H locs hw => ?_)
  refine lv_iload_n hx hb dX5_seed_16 rfl (lv_at hl 0 rfl) ?_
  have h := Option.some.inj h
  subst h
  exact hret () dX5_seed_17 rfl hw
theorem kM_X5_image : kM yX5_image cX5_image 1 (some FieldType.int) 0 := ⟨kc_X5_image, kn_RingsOff, by decide +kernel⟩
abbrev R_X5_image : Room := { frames := 2, cells := 0, slots := 0, locals := 81 }
set_option maxHeartbeats 4000000 in
set_option maxRecDepth 100000 in
theorem c_X5_image (l : Launch) {ad : Nat → Nat} {adN : Nat → Nat} {adK : Nat → Nat} {aD : Nat} {aS : Nat} {aT : Nat} {aL : Nat} {aE : Nat} {N : Nat} {ro : RO} {nw : EV} {kp : EV} {out : Int32 × RO × EV} (h : M_X5_image N ro nw kp = some out) : gM l yX5_image cX5_image 1 (some FieldType.int) R_X5_image (fun _ => [.ref (ad 0)]) (fun g => [wRO g ad (adN 0) (adK 0) aD aS aT aL aE ro, wEV g adN nw, wEV g adK kp]) (gQi (fun (_ : Unit) => out.1) (fun g (_ : Unit) => [wRO g ad (adN 0) (adK 0) aD aS aT aL aE out.2.1, wEV g adN nw, wEV g adK out.2.2])) := by
  refine gM.ofi (by decide +kernel) (fun _ => Nat.le_of_ble_eq_true rfl) (fun g p e s m args below meth c A ls Q X hret hw hl => ?_)
  have hx := X.1.1
  have hb := X.1.2.1
  have hl : lv_has ls 1 [(0, .ref (ad 0))] := hl
  unfold M_X5_image at h
  refine lv_aload_n hx hb dX5_image_0 rfl (lv_at hl 0 rfl) ?_
  refine RO_g_kept X hw 0 rfl kf_X5_16 dX5_image_1 ?_
  refine lv_aload_n hx hb dX5_image_4 rfl (lv_at hl 0 rfl) ?_
  refine RO_g_now X hw 0 rfl kf_X5_12 dX5_image_5 ?_
  obtain ⟨r8, h8, h⟩ := bnd h
  refine g_callv0 (isC := [2, 1]) (gn := fun _ => [wRO g ad (adN 0) (adK 0) aD aS aT aL aE ro, wEV g adN nw, wEV g adK r8]) (g_runVN (isC := [2, 1]) (rest := []) (As := [.ref (adN 0)]) X hw (c_X0_become l (ad := adK) (ad1 := adN) h8) rfl kM_X0_become ki_X0_become ks_X0_become km_X5_209 ⟨(Nat.le_of_ble_eq_true rfl), (Nat.le_of_ble_eq_true rfl)⟩ ⟨(Nat.le_of_ble_eq_true rfl), (Nat.le_of_ble_eq_true rfl)⟩ rfl rfl ⟨_, _, _, _, rfl, rfl, rfl, rfl⟩ rfl hl.1 rfl (Nat.le_of_ble_eq_true rfl) dX5_image_8) hw rfl rfl (fun _ => (Nat.le_of_ble_eq_true rfl)) (fun _ => rfl) rfl rfl (fun _ H locs hw => ?_)
  refine lv_aload_n hx hb dX5_image_11 rfl (lv_at hl 0 rfl) ?_
  refine lv_iconst (v := 1) hx hb dX5_image_12 (by decide) ?_
  refine RO_p_imageStands (gs' := [wRO g ad (adN 0) (adK 0) aD aS aT aL aE (RO_s_imageStands ro (1 : Int32)), wEV g adN nw, wEV g adK r8]) X hw 0 rfl kf_X5_54 (by decide) dX5_image_13 rfl (fun H locs hw => ?_)
  refine lv_iconst (v := 1) hx hb dX5_image_16 (by decide) ?_
  have h := Option.some.inj h
  subst h
  exact hret () dX5_image_17 rfl hw
theorem kM_X5_refuse : kM yX5_refuse cX5_refuse 3 (some FieldType.int) 1 := ⟨kc_X5_refuse, kn_RingsOff, by decide +kernel⟩
abbrev R_X5_refuse : Room := { frames := 0, cells := 0, slots := 0, locals := 0 }
set_option maxHeartbeats 4000000 in
set_option maxRecDepth 100000 in
theorem c_X5_refuse (l : Launch) {ad : Nat → Nat} {aN : Nat} {aK : Nat} {aD : Nat} {aS : Nat} {aT : Nat} {aL : Nat} {aE : Nat} {N : Nat} {ro : RO} {p1 : Int32} {out : Int32 × RO} (h : M_X5_refuse N ro p1 = some out) : gM l yX5_refuse cX5_refuse 3 (some FieldType.int) R_X5_refuse (fun _ => [.ref (ad 0), .int p1]) (fun g => [wRO g ad aN aK aD aS aT aL aE ro]) (gQi (fun (_ : Unit) => out.1) (fun g (_ : Unit) => [wRO g ad aN aK aD aS aT aL aE out.2])) := by
  refine gM.ofi (by decide +kernel) (fun _ => Nat.le_of_ble_eq_true rfl) (fun g p e s m args below meth c A ls Q X hret hw hl => ?_)
  have hx := X.1.1
  have hb := X.1.2.1
  have hl : lv_has ls 3 [(0, .ref (ad 0)), (1, .int p1)] := hl
  unfold M_X5_refuse at h
  refine lv_bipush (v := -2) hx hb dX5_refuse_0 (by decide) ?_
  refine lv_iload_n hx hb dX5_refuse_2 rfl (lv_at hl 1 rfl) ?_
  refine lv_isub hx hb dX5_refuse_3 ?_
  refine lv_istore_n (lv' := [(2, .int ((-2 : Int32) - p1)), (0, .ref (ad 0)), (1, .int p1)]) hx hb dX5_refuse_4 rfl hl (by decide) rfl (fun ls hl => ?_)
  refine lv_iload_n hx hb dX5_refuse_5 rfl (lv_at hl 0 rfl) ?_
  refine lv_if_lt (tgt := 28) hx hb dX5_refuse_6 (by decide) (fun k6 => ?_) (fun k6 => ?_)
  · have h := itt k6 h
    refine lv_iload_n hx hb dX5_refuse_28 rfl (lv_at hl 2 rfl) ?_
    have h := Option.some.inj h
    subst h
    exact hret () dX5_refuse_29 rfl hw
  · have h := itf k6 h
    refine lv_iload_n hx hb dX5_refuse_9 rfl (lv_at hl 0 rfl) ?_
    refine lv_aload_n hx hb dX5_refuse_10 rfl (lv_at hl 1 rfl) ?_
    refine RO_g_refusals X hw 0 rfl kf_X5_50 dX5_refuse_11 ?_
    refine RO_n_refusals X hw 0 rfl dX5_refuse_14 ?_
    refine lv_icmp_ge (tgt := 28) hx hb dX5_refuse_15 (by decide) (fun k15 => ?_) (fun k15 => ?_)
    · have h := itt k15 h
      refine lv_iload_n hx hb dX5_refuse_28 rfl (lv_at hl 2 rfl) ?_
      have h := Option.some.inj h
      subst h
      exact hret () dX5_refuse_29 rfl hw
    · have h := itf k15 h
      refine lv_aload_n hx hb dX5_refuse_18 rfl (lv_at hl 1 rfl) ?_
      refine RO_g_refusals X hw 0 rfl kf_X5_50 dX5_refuse_19 ?_
      refine lv_iload_n hx hb dX5_refuse_22 rfl (lv_at hl 0 rfl) ?_
      refine lv_dup2_11 hx hb dX5_refuse_23 rfl rfl ?_
      obtain ⟨q24, h⟩ := chk h
      refine RO_l_refusals X hw 0 rfl q24 dX5_refuse_24 ?_
      refine lv_iconst (v := 1) hx hb dX5_refuse_25 (by decide) ?_
      refine lv_iadd hx hb dX5_refuse_26 ?_
      obtain ⟨q27, h⟩ := chk h
      refine RO_a_refusals (gs' := [wRO g ad aN aK aD aS aT aL aE (RO_s_refusals ro (upd (RO_refusals ro) ((-2 : Int32) - p1).toNatClampNeg ((RO_refusals ro ((-2 : Int32) - p1).toNatClampNeg) + (1 : Int32))))]) X hw 0 rfl q27 dX5_refuse_27 rfl (fun H locs hw => ?_)
      refine lv_iload_n hx hb dX5_refuse_28 rfl (lv_at hl 2 rfl) ?_
      have h := Option.some.inj h
      subst h
      exact hret () dX5_refuse_29 rfl hw
theorem kM_X5_whyNoRow : kM yX5_whyNoRow cX5_whyNoRow 6 (some FieldType.int) 5 := ⟨kc_X5_whyNoRow, kn_RingsOff, by decide +kernel⟩
abbrev R_X5_whyNoRow : Room := { frames := 3, cells := 0, slots := 0, locals := 62 }
set_option maxHeartbeats 4000000 in
set_option maxRecDepth 100000 in
theorem c_X5_whyNoRow (l : Launch) {ad : Nat → Nat} {adN : Nat → Nat} {adS : Nat → Nat} {aK : Nat} {aD : Nat} {aT : Nat} {aL : Nat} {aE : Nat} {N : Nat} {ro : RO} {nw : EV} {sh : SH} {p1 : Int32} {p2 : Int32} {p3 : Int32} {p4 : Int32} {p5 : Int32} {out : Int32} (h : M_X5_whyNoRow N ro nw sh p1 p2 p3 p4 p5 = some out) : gM l yX5_whyNoRow cX5_whyNoRow 6 (some FieldType.int) R_X5_whyNoRow (fun _ => [.ref (ad 0), .int p1, .int p2, .int p3, .int p4, .int p5]) (fun g => [wRO g ad (adN 0) aK aD (adS 0) aT aL aE ro, wEV g adN nw, wSH g adS sh]) (gQi (fun (_ : Unit) => out) (fun g (_ : Unit) => [wRO g ad (adN 0) aK aD (adS 0) aT aL aE ro, wEV g adN nw, wSH g adS sh])) := by
  refine gM.ofi (by decide +kernel) (fun _ => Nat.le_of_ble_eq_true rfl) (fun g p e s m args below meth c A ls Q X hret hw hl => ?_)
  have hx := X.1.1
  have hb := X.1.2.1
  have hl : lv_has ls 6 [(0, .ref (ad 0)), (1, .int p1), (2, .int p2), (3, .int p3), (4, .int p4), (5, .int p5)] := hl
  unfold M_X5_whyNoRow at h
  refine lv_iload_n hx hb dX5_whyNoRow_0 rfl (lv_at hl 1 rfl) ?_
  obtain ⟨r1, h1, h⟩ := bnd h
  refine g_calli0 (isC := []) (gn := fun _ => [wRO g ad (adN 0) aK aD (adS 0) aT aL aE ro, wEV g adN nw, wSH g adS sh]) (g_runSN (isC := []) (rest := []) (As := [.int p1]) X hw (c_X3_isShelf l h1) rfl kM_X3_isShelf kt_X3_isShelf km_X5_58 ⟨(Nat.le_of_ble_eq_true rfl), (Nat.le_of_ble_eq_true rfl)⟩ ⟨(Nat.le_of_ble_eq_true rfl), (Nat.le_of_ble_eq_true rfl)⟩ rfl rfl rfl hl.1 rfl (Nat.le_of_ble_eq_true rfl) dX5_whyNoRow_1) hw rfl rfl (fun _ => (Nat.le_of_ble_eq_true rfl)) (fun _ => rfl) rfl rfl (fun _ H locs hw => ?_)
  refine lv_if_eq (tgt := 30) hx hb dX5_whyNoRow_4 (by decide) (fun k4 => ?_) (fun k4 => ?_)
  · have h := itt k4 h
    refine lv_bipush (v := -2) hx hb dX5_whyNoRow_30 (by decide) ?_
    have h := Option.some.inj h
    subst h
    exact hret () dX5_whyNoRow_32 rfl hw
  · have h := itf k4 h
    refine lv_iload_n hx hb dX5_whyNoRow_7 rfl (lv_at hl 2 rfl) ?_
    refine lv_iload_n hx hb dX5_whyNoRow_8 rfl (lv_at hl 3 rfl) ?_
    refine lv_icmp_lt (tgt := 30) hx hb dX5_whyNoRow_9 (by decide) (fun k9 => ?_) (fun k9 => ?_)
    · have h := itt k9 h
      refine lv_bipush (v := -2) hx hb dX5_whyNoRow_30 (by decide) ?_
      have h := Option.some.inj h
      subst h
      exact hret () dX5_whyNoRow_32 rfl hw
    · have h := itf k9 h
      refine lv_iload_n hx hb dX5_whyNoRow_12 rfl (lv_at hl 2 rfl) ?_
      refine lv_iload hx hb dX5_whyNoRow_13 (lv_at hl 4 rfl) ?_
      refine lv_icmp_gt (tgt := 30) hx hb dX5_whyNoRow_15 (by decide) (fun k15 => ?_) (fun k15 => ?_)
      · have h := itt k15 h
        refine lv_bipush (v := -2) hx hb dX5_whyNoRow_30 (by decide) ?_
        have h := Option.some.inj h
        subst h
        exact hret () dX5_whyNoRow_32 rfl hw
      · have h := itf k15 h
        refine lv_aload_n hx hb dX5_whyNoRow_18 rfl (lv_at hl 0 rfl) ?_
        refine RO_g_now X hw 0 rfl kf_X5_12 dX5_whyNoRow_19 ?_
        refine lv_iload hx hb dX5_whyNoRow_22 (lv_at hl 5 rfl) ?_
        obtain ⟨r24, h24, h⟩ := bnd h
        refine g_calli0 (isC := [1]) (gn := fun _ => [wRO g ad (adN 0) aK aD (adS 0) aT aL aE ro, wEV g adN nw, wSH g adS sh]) (g_runVN (isC := [1]) (rest := []) (As := [.int p5]) X hw (c_X0_hasBar l (ad := adN) h24) rfl kM_X0_hasBar ki_X0_hasBar ks_X0_hasBar km_X5_99 ⟨(Nat.le_of_ble_eq_true rfl), (Nat.le_of_ble_eq_true rfl)⟩ ⟨(Nat.le_of_ble_eq_true rfl), (Nat.le_of_ble_eq_true rfl)⟩ rfl rfl ⟨_, _, _, _, rfl, rfl, rfl, rfl⟩ rfl hl.1 rfl (Nat.le_of_ble_eq_true rfl) dX5_whyNoRow_24) hw rfl rfl (fun _ => (Nat.le_of_ble_eq_true rfl)) (fun _ => rfl) rfl rfl (fun _ H locs hw => ?_)
        refine lv_if_ne (tgt := 33) hx hb dX5_whyNoRow_27 (by decide) (fun k27 => ?_) (fun k27 => ?_)
        · have h := itt k27 h
          refine lv_aload_n hx hb dX5_whyNoRow_33 rfl (lv_at hl 0 rfl) ?_
          refine RO_g_shelves X hw 0 rfl kf_X5_25 dX5_whyNoRow_34 ?_
          refine lv_iload_n hx hb dX5_whyNoRow_37 rfl (lv_at hl 1 rfl) ?_
          obtain ⟨r38, h38, h⟩ := bnd h
          refine g_calli0 (isC := [2]) (gn := fun _ => [wRO g ad (adN 0) aK aD (adS 0) aT aL aE ro, wEV g adN nw, wSH g adS sh]) (g_runVN (isC := [2]) (rest := []) (As := [.int p1]) X hw (c_X3_hasBarIn l (ad := adS) h38) rfl kM_X3_hasBarIn ki_X3_hasBarIn ks_X3_hasBarIn km_X5_70 ⟨(Nat.le_of_ble_eq_true rfl), (Nat.le_of_ble_eq_true rfl)⟩ ⟨(Nat.le_of_ble_eq_true rfl), (Nat.le_of_ble_eq_true rfl)⟩ rfl rfl ⟨_, _, _, _, rfl, rfl, rfl, rfl⟩ rfl hl.1 rfl (Nat.le_of_ble_eq_true rfl) dX5_whyNoRow_38) hw rfl rfl (fun _ => (Nat.le_of_ble_eq_true rfl)) (fun _ => rfl) rfl rfl (fun _ H locs hw => ?_)
          refine lv_if_eq (tgt := 47) hx hb dX5_whyNoRow_41 (by decide) (fun k41 => ?_) (fun k41 => ?_)
          · have h := itt k41 h
            refine lv_aload_n hx hb dX5_whyNoRow_47 rfl (lv_at hl 0 rfl) ?_
            refine RO_g_shelves X hw 0 rfl kf_X5_25 dX5_whyNoRow_48 ?_
            refine lv_iload_n hx hb dX5_whyNoRow_51 rfl (lv_at hl 1 rfl) ?_
            obtain ⟨r52, h52, h⟩ := bnd h
            refine g_calli0 (isC := [2]) (gn := fun _ => [wRO g ad (adN 0) aK aD (adS 0) aT aL aE ro, wEV g adN nw, wSH g adS sh]) (g_runVN (isC := [2]) (rest := []) (As := [.int p1]) X hw (c_X3_isFree l (ad := adS) h52) rfl kM_X3_isFree ki_X3_isFree ks_X3_isFree km_X5_73 ⟨(Nat.le_of_ble_eq_true rfl), (Nat.le_of_ble_eq_true rfl)⟩ ⟨(Nat.le_of_ble_eq_true rfl), (Nat.le_of_ble_eq_true rfl)⟩ rfl rfl ⟨_, _, _, _, rfl, rfl, rfl, rfl⟩ rfl hl.1 rfl (Nat.le_of_ble_eq_true rfl) dX5_whyNoRow_52) hw rfl rfl (fun _ => (Nat.le_of_ble_eq_true rfl)) (fun _ => rfl) rfl rfl (fun _ H locs hw => ?_)
            refine lv_if_eq (tgt := 61) hx hb dX5_whyNoRow_55 (by decide) (fun k55 => ?_) (fun k55 => ?_)
            · have h := itt k55 h
              refine lv_aload_n hx hb dX5_whyNoRow_61 rfl (lv_at hl 0 rfl) ?_
              refine RO_g_shelves X hw 0 rfl kf_X5_25 dX5_whyNoRow_62 ?_
              refine lv_iload_n hx hb dX5_whyNoRow_65 rfl (lv_at hl 1 rfl) ?_
              refine lv_iconst (v := 0) hx hb dX5_whyNoRow_66 (by decide) ?_
              refine lv_iload_n hx hb dX5_whyNoRow_67 rfl (lv_at hl 2 rfl) ?_
              obtain ⟨r68, h68, h⟩ := bnd h
              refine g_calli0 (isC := [2]) (gn := fun _ => [wRO g ad (adN 0) aK aD (adS 0) aT aL aE ro, wEV g adN nw, wSH g adS sh]) (g_runVN (isC := [2]) (rest := []) (As := [.int p1, .int (0 : Int32), .int p2]) X hw (c_X3_hasCells l (ad := adS) h68) rfl kM_X3_hasCells ki_X3_hasCells ks_X3_hasCells km_X5_76 ⟨(Nat.le_of_ble_eq_true rfl), (Nat.le_of_ble_eq_true rfl)⟩ ⟨(Nat.le_of_ble_eq_true rfl), (Nat.le_of_ble_eq_true rfl)⟩ rfl rfl ⟨_, _, _, _, rfl, rfl, rfl, rfl⟩ rfl hl.1 rfl (Nat.le_of_ble_eq_true rfl) dX5_whyNoRow_68) hw rfl rfl (fun _ => (Nat.le_of_ble_eq_true rfl)) (fun _ => rfl) rfl rfl (fun _ H locs hw => ?_)
              refine lv_if_eq (tgt := 78) hx hb dX5_whyNoRow_71 (by decide) (fun k71 => ?_) (fun k71 => ?_)
              · have h := itt k71 h
                refine lv_bipush (v := -2) hx hb dX5_whyNoRow_78 (by decide) ?_
                have h := Option.some.inj h
                subst h
                exact hret () dX5_whyNoRow_80 rfl hw
              · have h := itf k71 h
                refine lv_iconst (v := 0) hx hb dX5_whyNoRow_74 (by decide) ?_
                refine lv_goto (tgt := 80) hx hb dX5_whyNoRow_75 (by decide) ?_
                have h := Option.some.inj h
                subst h
                exact hret () dX5_whyNoRow_80 rfl hw
            · have h := itf k55 h
              refine lv_bipush (v := -4) hx hb dX5_whyNoRow_58 (by decide) ?_
              have h := Option.some.inj h
              subst h
              exact hret () dX5_whyNoRow_60 rfl hw
          · have h := itf k41 h
            refine lv_bipush (v := -3) hx hb dX5_whyNoRow_44 (by decide) ?_
            have h := Option.some.inj h
            subst h
            exact hret () dX5_whyNoRow_46 rfl hw
        · have h := itf (fun z => z k27) h
          refine lv_bipush (v := -2) hx hb dX5_whyNoRow_30 (by decide) ?_
          have h := Option.some.inj h
          subst h
          exact hret () dX5_whyNoRow_32 rfl hw
theorem kM_X5_whyNoPictures : kM yX5_whyNoPictures cX5_whyNoPictures 6 (some FieldType.int) 3 := ⟨kc_X5_whyNoPictures, kn_RingsOff, by decide +kernel⟩
abbrev R_X5_whyNoPictures : Room := { frames := 4, cells := 0, slots := 0, locals := 87 }
set_option maxHeartbeats 4000000 in
set_option maxRecDepth 100000 in
theorem c_X5_whyNoPictures (l : Launch) {ad : Nat → Nat} {adN : Nat → Nat} {adS : Nat → Nat} {aK : Nat} {aD : Nat} {aT : Nat} {aL : Nat} {aE : Nat} {N : Nat} {ro : RO} {nw : EV} {sh : SH} {p1 : Int32} {p2 : Int32} {p3 : Int32} {out : Int32} (h : M_X5_whyNoPictures N ro nw sh p1 p2 p3 = some out) : gM l yX5_whyNoPictures cX5_whyNoPictures 6 (some FieldType.int) R_X5_whyNoPictures (fun _ => [.ref (ad 0), .int p1, .int p2, .int p3]) (fun g => [wRO g ad (adN 0) aK aD (adS 0) aT aL aE ro, wEV g adN nw, wSH g adS sh]) (gQi (fun (_ : Unit) => out) (fun g (_ : Unit) => [wRO g ad (adN 0) aK aD (adS 0) aT aL aE ro, wEV g adN nw, wSH g adS sh])) := by
  refine gM.ofi (by decide +kernel) (fun _ => Nat.le_of_ble_eq_true rfl) (fun g p e s m args below meth c A ls Q X hret hw hl => ?_)
  have hx := X.1.1
  have hb := X.1.2.1
  have hl : lv_has ls 6 [(0, .ref (ad 0)), (1, .int p1), (2, .int p2), (3, .int p3)] := hl
  have L23 : ∀ (n : Nat) (z23 : Int32), lp (M_X5_whyNoPictures_l23 N ro nw sh p1 p2 p3) n z23 = some out → ∀ (H : Heap) (locs : List Loc) (ls : Array Slot), gW g A s.heap [wRO g ad (adN 0) aK aD (adS 0) aT aL aE ro, wEV g adN nw, wSH g adS sh] H locs → lv_has ls 6 [(0, .ref (ad 0)), (1, .int p1), (2, .int p2), (3, .int p3), (5, .int z23)] → W p l e R_X5_whyNoPictures s m args below meth c H locs 0 0 Q (F0 m 23 ls []) := by
    refine lp_ind ?_
    intro rec23 ih23
    intro z23 h H locs ls hw hl
    unfold M_X5_whyNoPictures_l23 at h
    refine lv_iload hx hb dX5_whyNoPictures_23 (lv_at hl 4 rfl) ?_
    refine lv_iload_n hx hb dX5_whyNoPictures_25 rfl (lv_at hl 2 rfl) ?_
    refine lv_icmp_ge (tgt := 59) hx hb dX5_whyNoPictures_26 (by decide) (fun k26 => ?_) (fun k26 => ?_)
    · have h := itt k26 h
      refine lv_iconst (v := 0) hx hb dX5_whyNoPictures_59 (by decide) ?_
      have h := Option.some.inj h
      subst h
      exact hret () dX5_whyNoPictures_60 rfl hw
    · have h := itf k26 h
      refine lv_aload_n hx hb dX5_whyNoPictures_29 rfl (lv_at hl 0 rfl) ?_
      refine RO_g_now X hw 0 rfl kf_X5_12 dX5_whyNoPictures_30 ?_
      refine lv_iload_n hx hb dX5_whyNoPictures_33 rfl (lv_at hl 3 rfl) ?_
      refine lv_aload_n hx hb dX5_whyNoPictures_34 rfl (lv_at hl 0 rfl) ?_
      refine RO_g_shelves X hw 0 rfl kf_X5_25 dX5_whyNoPictures_35 ?_
      refine lv_iload_n hx hb dX5_whyNoPictures_38 rfl (lv_at hl 1 rfl) ?_
      refine lv_iload hx hb dX5_whyNoPictures_39 (lv_at hl 4 rfl) ?_
      obtain ⟨r41, h41, h⟩ := bnd h
      refine g_calll0 (isC := [2]) (gn := fun _ => [wRO g ad (adN 0) aK aD (adS 0) aT aL aE ro, wEV g adN nw, wSH g adS sh]) (g_runVN (isC := [2]) (rest := [.int p3, .ref (adN 0)]) (As := [.int p1, .int z23]) X hw (c_X3_cell l (ad := adS) h41) rfl kM_X3_cell ki_X3_cell ks_X3_cell km_X5_92 ⟨(Nat.le_of_ble_eq_true rfl), (Nat.le_of_ble_eq_true rfl)⟩ ⟨(Nat.le_of_ble_eq_true rfl), (Nat.le_of_ble_eq_true rfl)⟩ rfl rfl ⟨_, _, _, _, rfl, rfl, rfl, rfl⟩ rfl hl.1 rfl (Nat.le_of_ble_eq_true rfl) dX5_whyNoPictures_41) hw rfl rfl (fun _ => (Nat.le_of_ble_eq_true rfl)) (fun _ => rfl) rfl rfl (fun _ H locs hw => ?_)
      obtain ⟨r44, h44, h⟩ := bnd h
      refine g_calli0 (isC := [1]) (gn := fun _ => [wRO g ad (adN 0) aK aD (adS 0) aT aL aE ro, wEV g adN nw, wSH g adS sh]) (g_runVN (isC := [1]) (rest := []) (As := [.int p3, .long r41]) X hw (c_X0_hasSet l (ad := adN) h44) rfl kM_X0_hasSet ki_X0_hasSet ks_X0_hasSet km_X5_164 ⟨(Nat.le_of_ble_eq_true rfl), (Nat.le_of_ble_eq_true rfl)⟩ ⟨(Nat.le_of_ble_eq_true rfl), (Nat.le_of_ble_eq_true rfl)⟩ rfl rfl ⟨_, _, _, _, rfl, rfl, rfl, rfl⟩ rfl hl.1 rfl (Nat.le_of_ble_eq_true rfl) dX5_whyNoPictures_44) hw rfl rfl (fun _ => (Nat.le_of_ble_eq_true rfl)) (fun _ => rfl) rfl rfl (fun _ H locs hw => ?_)
      refine lv_if_ne (tgt := 53) hx hb dX5_whyNoPictures_47 (by decide) (fun k47 => ?_) (fun k47 => ?_)
      · have h := itt k47 h
        refine lv_iinc (v := (z23 + 1)) (lv' := [(5, .int (z23 + 1)), (0, .ref (ad 0)), (1, .int p1), (2, .int p2), (3, .int p3)]) hx hb dX5_whyNoPictures_53 hl (k := 4) rfl rfl (by decide) rfl (fun ls hl => ?_)
        refine lv_goto (tgt := 23) hx hb dX5_whyNoPictures_56 (by decide) ?_
        exact ih23 _ h _ _ _ hw (lv_sub hl [1, 2, 3, 4, 0] rfl)
      · have h := itf (fun z => z k47) h
        refine lv_bipush (v := -2) hx hb dX5_whyNoPictures_50 (by decide) ?_
        have h := Option.some.inj h
        subst h
        exact hret () dX5_whyNoPictures_52 rfl hw
  unfold M_X5_whyNoPictures at h
  refine lv_aload_n hx hb dX5_whyNoPictures_0 rfl (lv_at hl 0 rfl) ?_
  refine lv_iload_n hx hb dX5_whyNoPictures_1 rfl (lv_at hl 1 rfl) ?_
  refine lv_iload_n hx hb dX5_whyNoPictures_2 rfl (lv_at hl 2 rfl) ?_
  refine lv_iconst (v := 1) hx hb dX5_whyNoPictures_3 (by decide) ?_
  refine lv_bipush (v := 10) hx hb dX5_whyNoPictures_4 (by decide) ?_
  refine lv_iload_n hx hb dX5_whyNoPictures_6 rfl (lv_at hl 3 rfl) ?_
  obtain ⟨r7, h7, h⟩ := bnd h
  refine g_calli0 (isC := [0, 1, 2]) (gn := fun _ => [wRO g ad (adN 0) aK aD (adS 0) aT aL aE ro, wEV g adN nw, wSH g adS sh]) (g_runV (isC := [0, 1, 2]) (rest := []) (As := [.int p1, .int p2, .int (1 : Int32), .int (10 : Int32), .int p3]) X hw (c_X5_whyNoRow l (ad := ad) (adN := adN) (adS := adS) (aK := aK) (aD := aD) (aT := aT) (aL := aL) (aE := aE) h7) rfl kM_X5_whyNoRow ki_X5_whyNoRow ks_X5_whyNoRow km_X5_367 ⟨(Nat.le_of_ble_eq_true rfl), (Nat.le_of_ble_eq_true rfl)⟩ ⟨(Nat.le_of_ble_eq_true rfl), (Nat.le_of_ble_eq_true rfl)⟩ rfl rfl ⟨_, _, _, _, rfl, rfl, rfl, rfl⟩ rfl hl.1 rfl (Nat.le_of_ble_eq_true rfl) dX5_whyNoPictures_7) hw rfl rfl (fun _ => (Nat.le_of_ble_eq_true rfl)) (fun _ => rfl) rfl rfl (fun _ H locs hw => ?_)
  refine lv_istore (lv' := [(4, .int r7), (0, .ref (ad 0)), (1, .int p1), (2, .int p2), (3, .int p3)]) hx hb dX5_whyNoPictures_10 hl (by decide) rfl (fun ls hl => ?_)
  refine lv_iload hx hb dX5_whyNoPictures_12 (lv_at hl 0 rfl) ?_
  refine lv_if_eq (tgt := 20) hx hb dX5_whyNoPictures_14 (by decide) (fun k14 => ?_) (fun k14 => ?_)
  · have h := itt k14 h
    refine lv_iconst (v := 0) hx hb dX5_whyNoPictures_20 (by decide) ?_
    refine lv_istore (lv' := [(5, .int (0 : Int32)), (4, .int r7), (0, .ref (ad 0)), (1, .int p1), (2, .int p2), (3, .int p3)]) hx hb dX5_whyNoPictures_21 hl (by decide) rfl (fun ls hl => ?_)
    exact L23 N _ h _ _ _ hw (lv_sub hl [2, 3, 4, 5, 0] rfl)
  · have h := itf k14 h
    refine lv_iload hx hb dX5_whyNoPictures_17 (lv_at hl 0 rfl) ?_
    have h := Option.some.inj h
    subst h
    exact hret () dX5_whyNoPictures_19 rfl hw
theorem kM_X5_whyNoMoves : kM yX5_whyNoMoves cX5_whyNoMoves 4 (some FieldType.int) 3 := ⟨kc_X5_whyNoMoves, kn_RingsOff, by decide +kernel⟩
abbrev R_X5_whyNoMoves : Room := { frames := 4, cells := 0, slots := 0, locals := 87 }
set_option maxHeartbeats 4000000 in
set_option maxRecDepth 100000 in
theorem c_X5_whyNoMoves (l : Launch) {ad : Nat → Nat} {adN : Nat → Nat} {adS : Nat → Nat} {aK : Nat} {aD : Nat} {aT : Nat} {aL : Nat} {aE : Nat} {N : Nat} {ro : RO} {nw : EV} {sh : SH} {p1 : Int32} {p2 : Int32} {p3 : Int32} {out : Int32} (h : M_X5_whyNoMoves N ro nw sh p1 p2 p3 = some out) : gM l yX5_whyNoMoves cX5_whyNoMoves 4 (some FieldType.int) R_X5_whyNoMoves (fun _ => [.ref (ad 0), .int p1, .int p2, .int p3]) (fun g => [wRO g ad (adN 0) aK aD (adS 0) aT aL aE ro, wEV g adN nw, wSH g adS sh]) (gQi (fun (_ : Unit) => out) (fun g (_ : Unit) => [wRO g ad (adN 0) aK aD (adS 0) aT aL aE ro, wEV g adN nw, wSH g adS sh])) := by
  refine gM.ofi (by decide +kernel) (fun _ => Nat.le_of_ble_eq_true rfl) (fun g p e s m args below meth c A ls Q X hret hw hl => ?_)
  have hx := X.1.1
  have hb := X.1.2.1
  have hl : lv_has ls 4 [(0, .ref (ad 0)), (1, .int p1), (2, .int p2), (3, .int p3)] := hl
  unfold M_X5_whyNoMoves at h
  refine lv_aload_n hx hb dX5_whyNoMoves_0 rfl (lv_at hl 0 rfl) ?_
  refine lv_iload_n hx hb dX5_whyNoMoves_1 rfl (lv_at hl 1 rfl) ?_
  refine lv_iload_n hx hb dX5_whyNoMoves_2 rfl (lv_at hl 2 rfl) ?_
  refine lv_iconst (v := 0) hx hb dX5_whyNoMoves_3 (by decide) ?_
  refine lv_bipush (v := 40) hx hb dX5_whyNoMoves_4 (by decide) ?_
  refine lv_iload_n hx hb dX5_whyNoMoves_6 rfl (lv_at hl 3 rfl) ?_
  obtain ⟨r7, h7, h⟩ := bnd h
  refine g_calli0 (isC := [0, 1, 2]) (gn := fun _ => [wRO g ad (adN 0) aK aD (adS 0) aT aL aE ro, wEV g adN nw, wSH g adS sh]) (g_runV (isC := [0, 1, 2]) (rest := []) (As := [.int p1, .int p2, .int (0 : Int32), .int (40 : Int32), .int p3]) X hw (c_X5_whyNoRow l (ad := ad) (adN := adN) (adS := adS) (aK := aK) (aD := aD) (aT := aT) (aL := aL) (aE := aE) h7) rfl kM_X5_whyNoRow ki_X5_whyNoRow ks_X5_whyNoRow km_X5_367 ⟨(Nat.le_of_ble_eq_true rfl), (Nat.le_of_ble_eq_true rfl)⟩ ⟨(Nat.le_of_ble_eq_true rfl), (Nat.le_of_ble_eq_true rfl)⟩ rfl rfl ⟨_, _, _, _, rfl, rfl, rfl, rfl⟩ rfl hl.1 rfl (Nat.le_of_ble_eq_true rfl) dX5_whyNoMoves_7) hw rfl rfl (fun _ => (Nat.le_of_ble_eq_true rfl)) (fun _ => rfl) rfl rfl (fun _ H locs hw => ?_)
  have h := Option.some.inj h
  subst h
  exact hret () dX5_whyNoMoves_10 rfl hw
theorem kM_X5_pictureAhead : kM yX5_pictureAhead cX5_pictureAhead 4 (some FieldType.int) 3 := ⟨kc_X5_pictureAhead, kn_RingsOff, by decide +kernel⟩
abbrev R_X5_pictureAhead : Room := { frames := 3, cells := 0, slots := 0, locals := 66 }
set_option maxHeartbeats 4000000 in
set_option maxRecDepth 100000 in
theorem c_X5_pictureAhead (l : Launch) {ad : Nat → Nat} {adN : Nat → Nat} {adS : Nat → Nat} {aK : Nat} {aD : Nat} {aT : Nat} {aL : Nat} {aE : Nat} {N : Nat} {ro : RO} {nw : EV} {sh : SH} {p1 : Int32} {p2 : Int32} {p3 : Int32} {out : Int32} (h : M_X5_pictureAhead N ro nw sh p1 p2 p3 = some out) : gM l yX5_pictureAhead cX5_pictureAhead 4 (some FieldType.int) R_X5_pictureAhead (fun _ => [.ref (ad 0), .int p1, .int p2, .int p3]) (fun g => [wRO g ad (adN 0) aK aD (adS 0) aT aL aE ro, wEV g adN nw, wSH g adS sh]) (gQi (fun (_ : Unit) => out) (fun g (_ : Unit) => [wRO g ad (adN 0) aK aD (adS 0) aT aL aE ro, wEV g adN nw, wSH g adS sh])) := by
  refine gM.ofi (by decide +kernel) (fun _ => Nat.le_of_ble_eq_true rfl) (fun g p e s m args below meth c A ls Q X hret hw hl => ?_)
  have hx := X.1.1
  have hb := X.1.2.1
  have hl : lv_has ls 4 [(0, .ref (ad 0)), (1, .int p1), (2, .int p2), (3, .int p3)] := hl
  unfold M_X5_pictureAhead at h
  refine lv_iload_n hx hb dX5_pictureAhead_0 rfl (lv_at hl 2 rfl) ?_
  refine lv_if_ne (tgt := 15) hx hb dX5_pictureAhead_1 (by decide) (fun k1 => ?_) (fun k1 => ?_)
  · have h := itt k1 h
    refine lv_aload_n hx hb dX5_pictureAhead_15 rfl (lv_at hl 0 rfl) ?_
    refine RO_g_shelves X hw 0 rfl kf_X5_25 dX5_pictureAhead_16 ?_
    refine lv_iload_n hx hb dX5_pictureAhead_19 rfl (lv_at hl 1 rfl) ?_
    refine lv_iload_n hx hb dX5_pictureAhead_20 rfl (lv_at hl 2 rfl) ?_
    refine lv_iconst (v := 1) hx hb dX5_pictureAhead_21 (by decide) ?_
    refine lv_isub hx hb dX5_pictureAhead_22 ?_
    obtain ⟨r23, h23, h⟩ := bnd h
    refine g_calll0 (isC := [2]) (gn := fun _ => [wRO g ad (adN 0) aK aD (adS 0) aT aL aE ro, wEV g adN nw, wSH g adS sh]) (g_runVN (isC := [2]) (rest := []) (As := [.int p1, .int (p2 - (1 : Int32))]) X hw (c_X3_cell l (ad := adS) h23) rfl kM_X3_cell ki_X3_cell ks_X3_cell km_X5_92 ⟨(Nat.le_of_ble_eq_true rfl), (Nat.le_of_ble_eq_true rfl)⟩ ⟨(Nat.le_of_ble_eq_true rfl), (Nat.le_of_ble_eq_true rfl)⟩ rfl rfl ⟨_, _, _, _, rfl, rfl, rfl, rfl⟩ rfl hl.1 rfl (Nat.le_of_ble_eq_true rfl) dX5_pictureAhead_23) hw rfl rfl (fun _ => (Nat.le_of_ble_eq_true rfl)) (fun _ => rfl) rfl rfl (fun _ H locs hw => ?_)
    refine lv_l2i (v := r23.toInt32) hx hb dX5_pictureAhead_26 rfl ?_
    have h := Option.some.inj h
    subst h
    exact hret () dX5_pictureAhead_27 rfl hw
  · have h := itf (fun z => z k1) h
    refine lv_aload_n hx hb dX5_pictureAhead_4 rfl (lv_at hl 0 rfl) ?_
    refine RO_g_now X hw 0 rfl kf_X5_12 dX5_pictureAhead_5 ?_
    refine lv_iload_n hx hb dX5_pictureAhead_8 rfl (lv_at hl 3 rfl) ?_
    obtain ⟨r9, h9, h⟩ := bnd h
    refine g_calli0 (isC := [1]) (gn := fun _ => [wRO g ad (adN 0) aK aD (adS 0) aT aL aE ro, wEV g adN nw, wSH g adS sh]) (g_runVN (isC := [1]) (rest := []) (As := [.int p3]) X hw (c_X0_onOf l (ad := adN) h9) rfl kM_X0_onOf ki_X0_onOf ks_X0_onOf km_X5_122 ⟨(Nat.le_of_ble_eq_true rfl), (Nat.le_of_ble_eq_true rfl)⟩ ⟨(Nat.le_of_ble_eq_true rfl), (Nat.le_of_ble_eq_true rfl)⟩ rfl rfl ⟨_, _, _, _, rfl, rfl, rfl, rfl⟩ rfl hl.1 rfl (Nat.le_of_ble_eq_true rfl) dX5_pictureAhead_9) hw rfl rfl (fun _ => (Nat.le_of_ble_eq_true rfl)) (fun _ => rfl) rfl rfl (fun _ H locs hw => ?_)
    refine lv_goto (tgt := 27) hx hb dX5_pictureAhead_12 (by decide) ?_
    have h := Option.some.inj h
    subst h
    exact hret () dX5_pictureAhead_27 rfl hw
theorem kM_X5_row : kM yX5_row cX5_row 4 (some FieldType.int) 3 := ⟨kc_X5_row, kn_RingsOff, by decide +kernel⟩
abbrev R_X5_row : Room := { frames := 2, cells := 0, slots := 0, locals := 44 }
set_option maxHeartbeats 4000000 in
set_option maxRecDepth 100000 in
theorem c_X5_row (l : Launch) {ad : Nat → Nat} {adS : Nat → Nat} {aN : Nat} {aK : Nat} {aD : Nat} {aT : Nat} {aL : Nat} {aE : Nat} {N : Nat} {ro : RO} {sh : SH} {p1 : Int32} {p2 : Int32} {p3 : Int32} {out : Int32 × RO × SH} (h : M_X5_row N ro sh p1 p2 p3 = some out) : gM l yX5_row cX5_row 4 (some FieldType.int) R_X5_row (fun _ => [.ref (ad 0), .int p1, .int p2, .int p3]) (fun g => [wRO g ad aN aK aD (adS 0) aT aL aE ro, wSH g adS sh]) (gQi (fun (_ : Unit) => out.1) (fun g (_ : Unit) => [wRO g ad aN aK aD (adS 0) aT aL aE out.2.1, wSH g adS out.2.2])) := by
  refine gM.ofi (by decide +kernel) (fun _ => Nat.le_of_ble_eq_true rfl) (fun g p e s m args below meth c A ls Q X hret hw hl => ?_)
  have hx := X.1.1
  have hb := X.1.2.1
  have hl : lv_has ls 4 [(0, .ref (ad 0)), (1, .int p1), (2, .int p2), (3, .int p3)] := hl
  have J26 : ∀ (z26 : RO × SH), M_X5_row_j26 N p1 p2 p3 z26 = some out → ∀ (H : Heap) (locs : List Loc) (ls : Array Slot), gW g A s.heap [wRO g ad aN aK aD (adS 0) aT aL aE z26.1, wSH g adS z26.2] H locs → lv_has ls 4 [(0, .ref (ad 0))] → W p l e R_X5_row s m args below meth c H locs 0 0 Q (F0 m 26 ls []) := by
    intro z26 h H locs ls hw hl
    unfold M_X5_row_j26 at h
    refine lv_aload_n hx hb dX5_row_26 rfl (lv_at hl 0 rfl) ?_
    refine lv_bipush (v := -2) hx hb dX5_row_27 (by decide) ?_
    obtain ⟨r29, h29, h⟩ := bnd h
    refine g_calli0 (isC := [0]) (gn := fun _ => [wRO g ad aN aK aD (adS 0) aT aL aE r29.2, wSH g adS z26.2]) (g_runV (isC := [0]) (rest := []) (As := [.int (-2 : Int32)]) X hw (c_X5_refuse l (ad := ad) (aN := aN) (aK := aK) (aD := aD) (aS := (adS 0)) (aT := aT) (aL := aL) (aE := aE) h29) rfl kM_X5_refuse ki_X5_refuse ks_X5_refuse km_X5_62 ⟨(Nat.le_of_ble_eq_true rfl), (Nat.le_of_ble_eq_true rfl)⟩ ⟨(Nat.le_of_ble_eq_true rfl), (Nat.le_of_ble_eq_true rfl)⟩ rfl rfl ⟨_, _, _, _, rfl, rfl, rfl, rfl⟩ rfl hl.1 rfl (Nat.le_of_ble_eq_true rfl) dX5_row_29) hw rfl rfl (fun _ => (Nat.le_of_ble_eq_true rfl)) (fun _ => rfl) rfl rfl (fun _ H locs hw => ?_)
    have h := Option.some.inj h
    subst h
    exact hret () dX5_row_32 rfl hw
  unfold M_X5_row at h
  refine lv_iload_n hx hb dX5_row_0 rfl (lv_at hl 1 rfl) ?_
  obtain ⟨r1, h1, h⟩ := bnd h
  refine g_calli0 (isC := []) (gn := fun _ => [wRO g ad aN aK aD (adS 0) aT aL aE ro, wSH g adS sh]) (g_runSN (isC := []) (rest := []) (As := [.int p1]) X hw (c_X3_isShelf l h1) rfl kM_X3_isShelf kt_X3_isShelf km_X5_58 ⟨(Nat.le_of_ble_eq_true rfl), (Nat.le_of_ble_eq_true rfl)⟩ ⟨(Nat.le_of_ble_eq_true rfl), (Nat.le_of_ble_eq_true rfl)⟩ rfl rfl rfl hl.1 rfl (Nat.le_of_ble_eq_true rfl) dX5_row_1) hw rfl rfl (fun _ => (Nat.le_of_ble_eq_true rfl)) (fun _ => rfl) rfl rfl (fun _ H locs hw => ?_)
  refine lv_if_eq (tgt := 26) hx hb dX5_row_4 (by decide) (fun k4 => ?_) (fun k4 => ?_)
  · have h := itt k4 h
    exact J26 _ h _ _ _ hw (lv_sub hl [0] rfl)
  · have h := itf k4 h
    refine lv_iload_n hx hb dX5_row_7 rfl (lv_at hl 2 rfl) ?_
    refine lv_if_lt (tgt := 26) hx hb dX5_row_8 (by decide) (fun k8 => ?_) (fun k8 => ?_)
    · have h := itt k8 h
      exact J26 _ h _ _ _ hw (lv_sub hl [0] rfl)
    · have h := itf k8 h
      refine lv_iload_n hx hb dX5_row_11 rfl (lv_at hl 2 rfl) ?_
      refine lv_iconst (v := 4) hx hb dX5_row_12 (by decide) ?_
      refine lv_icmp_gt (tgt := 26) hx hb dX5_row_13 (by decide) (fun k13 => ?_) (fun k13 => ?_)
      · have h := itt k13 h
        exact J26 _ h _ _ _ hw (lv_sub hl [0] rfl)
      · have h := itf k13 h
        refine lv_iload_n hx hb dX5_row_16 rfl (lv_at hl 3 rfl) ?_
        refine lv_if_lt (tgt := 26) hx hb dX5_row_17 (by decide) (fun k17 => ?_) (fun k17 => ?_)
        · have h := itt k17 h
          exact J26 _ h _ _ _ hw (lv_sub hl [0] rfl)
        · have h := itf k17 h
          refine lv_iload_n hx hb dX5_row_20 rfl (lv_at hl 3 rfl) ?_
          refine lv_bipush (v := 40) hx hb dX5_row_21 (by decide) ?_
          refine lv_icmp_le (tgt := 33) hx hb dX5_row_23 (by decide) (fun k23 => ?_) (fun k23 => ?_)
          · have h := itt k23 h
            refine lv_aload_n hx hb dX5_row_33 rfl (lv_at hl 0 rfl) ?_
            refine RO_g_shelves X hw 0 rfl kf_X5_25 dX5_row_34 ?_
            refine lv_iload_n hx hb dX5_row_37 rfl (lv_at hl 1 rfl) ?_
            refine lv_iload_n hx hb dX5_row_38 rfl (lv_at hl 2 rfl) ?_
            refine lv_iload_n hx hb dX5_row_39 rfl (lv_at hl 3 rfl) ?_
            obtain ⟨r40, h40, h⟩ := bnd h
            refine g_callv0 (isC := [1]) (gn := fun _ => [wRO g ad aN aK aD (adS 0) aT aL aE ro, wSH g adS r40]) (g_runVN (isC := [1]) (rest := []) (As := [.int p1, .int p2, .int p3]) X hw (c_X3_holdRow l (ad := adS) h40) rfl kM_X3_holdRow ki_X3_holdRow ks_X3_holdRow km_X5_66 ⟨(Nat.le_of_ble_eq_true rfl), (Nat.le_of_ble_eq_true rfl)⟩ ⟨(Nat.le_of_ble_eq_true rfl), (Nat.le_of_ble_eq_true rfl)⟩ rfl rfl ⟨_, _, _, _, rfl, rfl, rfl, rfl⟩ rfl hl.1 rfl (Nat.le_of_ble_eq_true rfl) dX5_row_40) hw rfl rfl (fun _ => (Nat.le_of_ble_eq_true rfl)) (fun _ => rfl) rfl rfl (fun _ H locs hw => ?_)
            refine lv_iconst (v := 1) hx hb dX5_row_43 (by decide) ?_
            have h := Option.some.inj h
            subst h
            exact hret () dX5_row_44 rfl hw
          · have h := itf k23 h
            exact J26 _ h _ _ _ hw (lv_sub hl [0] rfl)
theorem kM_X5_set : kM yX5_set cX5_set 5 (some FieldType.int) 3 := ⟨kc_X5_set, kn_RingsOff, by decide +kernel⟩
abbrev R_X5_set : Room := { frames := 3, cells := 0, slots := 0, locals := 68 }
set_option maxHeartbeats 4000000 in
set_option maxRecDepth 100000 in
theorem c_X5_set (l : Launch) {ad : Nat → Nat} {adS : Nat → Nat} {aN : Nat} {aK : Nat} {aD : Nat} {aT : Nat} {aL : Nat} {aE : Nat} {N : Nat} {ro : RO} {sh : SH} {p1 : Int32} {p2 : Int32} {p3 : Int64} {out : Int32 × RO × SH} (h : M_X5_set N ro sh p1 p2 p3 = some out) : gM l yX5_set cX5_set 5 (some FieldType.int) R_X5_set (fun _ => [.ref (ad 0), .int p1, .int p2, .long p3]) (fun g => [wRO g ad aN aK aD (adS 0) aT aL aE ro, wSH g adS sh]) (gQi (fun (_ : Unit) => out.1) (fun g (_ : Unit) => [wRO g ad aN aK aD (adS 0) aT aL aE out.2.1, wSH g adS out.2.2])) := by
  refine gM.ofi (by decide +kernel) (fun _ => Nat.le_of_ble_eq_true rfl) (fun g p e s m args below meth c A ls Q X hret hw hl => ?_)
  have hx := X.1.1
  have hb := X.1.2.1
  have hl : lv_has ls 5 [(0, .ref (ad 0)), (1, .int p1), (2, .int p2), (3, .long p3)] := hl
  unfold M_X5_set at h
  refine lv_iload_n hx hb dX5_set_0 rfl (lv_at hl 1 rfl) ?_
  obtain ⟨r1, h1, h⟩ := bnd h
  refine g_calli0 (isC := []) (gn := fun _ => [wRO g ad aN aK aD (adS 0) aT aL aE ro, wSH g adS sh]) (g_runSN (isC := []) (rest := []) (As := [.int p1]) X hw (c_X3_isShelf l h1) rfl kM_X3_isShelf kt_X3_isShelf km_X5_58 ⟨(Nat.le_of_ble_eq_true rfl), (Nat.le_of_ble_eq_true rfl)⟩ ⟨(Nat.le_of_ble_eq_true rfl), (Nat.le_of_ble_eq_true rfl)⟩ rfl rfl rfl hl.1 rfl (Nat.le_of_ble_eq_true rfl) dX5_set_1) hw rfl rfl (fun _ => (Nat.le_of_ble_eq_true rfl)) (fun _ => rfl) rfl rfl (fun _ H locs hw => ?_)
  refine lv_if_ne (tgt := 14) hx hb dX5_set_4 (by decide) (fun k4 => ?_) (fun k4 => ?_)
  · have h := itt k4 h
    refine lv_aload_n hx hb dX5_set_14 rfl (lv_at hl 0 rfl) ?_
    refine RO_g_shelves X hw 0 rfl kf_X5_25 dX5_set_15 ?_
    refine lv_iload_n hx hb dX5_set_18 rfl (lv_at hl 1 rfl) ?_
    obtain ⟨r19, h19, h⟩ := bnd h
    refine g_calli0 (isC := [1]) (gn := fun _ => [wRO g ad aN aK aD (adS 0) aT aL aE ro, wSH g adS sh]) (g_runVN (isC := [1]) (rest := []) (As := [.int p1]) X hw (c_X3_hasBarIn l (ad := adS) h19) rfl kM_X3_hasBarIn ki_X3_hasBarIn ks_X3_hasBarIn km_X5_70 ⟨(Nat.le_of_ble_eq_true rfl), (Nat.le_of_ble_eq_true rfl)⟩ ⟨(Nat.le_of_ble_eq_true rfl), (Nat.le_of_ble_eq_true rfl)⟩ rfl rfl ⟨_, _, _, _, rfl, rfl, rfl, rfl⟩ rfl hl.1 rfl (Nat.le_of_ble_eq_true rfl) dX5_set_19) hw rfl rfl (fun _ => (Nat.le_of_ble_eq_true rfl)) (fun _ => rfl) rfl rfl (fun _ H locs hw => ?_)
    refine lv_if_eq (tgt := 32) hx hb dX5_set_22 (by decide) (fun k22 => ?_) (fun k22 => ?_)
    · have h := itt k22 h
      refine lv_aload_n hx hb dX5_set_32 rfl (lv_at hl 0 rfl) ?_
      refine RO_g_shelves X hw 0 rfl kf_X5_25 dX5_set_33 ?_
      refine lv_iload_n hx hb dX5_set_36 rfl (lv_at hl 1 rfl) ?_
      obtain ⟨r37, h37, h⟩ := bnd h
      refine g_calli0 (isC := [1]) (gn := fun _ => [wRO g ad aN aK aD (adS 0) aT aL aE ro, wSH g adS sh]) (g_runVN (isC := [1]) (rest := []) (As := [.int p1]) X hw (c_X3_isFree l (ad := adS) h37) rfl kM_X3_isFree ki_X3_isFree ks_X3_isFree km_X5_73 ⟨(Nat.le_of_ble_eq_true rfl), (Nat.le_of_ble_eq_true rfl)⟩ ⟨(Nat.le_of_ble_eq_true rfl), (Nat.le_of_ble_eq_true rfl)⟩ rfl rfl ⟨_, _, _, _, rfl, rfl, rfl, rfl⟩ rfl hl.1 rfl (Nat.le_of_ble_eq_true rfl) dX5_set_37) hw rfl rfl (fun _ => (Nat.le_of_ble_eq_true rfl)) (fun _ => rfl) rfl rfl (fun _ H locs hw => ?_)
      refine lv_if_eq (tgt := 50) hx hb dX5_set_40 (by decide) (fun k40 => ?_) (fun k40 => ?_)
      · have h := itt k40 h
        refine lv_aload_n hx hb dX5_set_50 rfl (lv_at hl 0 rfl) ?_
        refine RO_g_shelves X hw 0 rfl kf_X5_25 dX5_set_51 ?_
        refine lv_iload_n hx hb dX5_set_54 rfl (lv_at hl 1 rfl) ?_
        refine lv_iload_n hx hb dX5_set_55 rfl (lv_at hl 2 rfl) ?_
        refine lv_iconst (v := 1) hx hb dX5_set_56 (by decide) ?_
        obtain ⟨r57, h57, h⟩ := bnd h
        refine g_calli0 (isC := [1]) (gn := fun _ => [wRO g ad aN aK aD (adS 0) aT aL aE ro, wSH g adS sh]) (g_runVN (isC := [1]) (rest := []) (As := [.int p1, .int p2, .int (1 : Int32)]) X hw (c_X3_hasCells l (ad := adS) h57) rfl kM_X3_hasCells ki_X3_hasCells ks_X3_hasCells km_X5_76 ⟨(Nat.le_of_ble_eq_true rfl), (Nat.le_of_ble_eq_true rfl)⟩ ⟨(Nat.le_of_ble_eq_true rfl), (Nat.le_of_ble_eq_true rfl)⟩ rfl rfl ⟨_, _, _, _, rfl, rfl, rfl, rfl⟩ rfl hl.1 rfl (Nat.le_of_ble_eq_true rfl) dX5_set_57) hw rfl rfl (fun _ => (Nat.le_of_ble_eq_true rfl)) (fun _ => rfl) rfl rfl (fun _ H locs hw => ?_)
        refine lv_if_ne (tgt := 70) hx hb dX5_set_60 (by decide) (fun k60 => ?_) (fun k60 => ?_)
        · have h := itt k60 h
          refine lv_aload_n hx hb dX5_set_70 rfl (lv_at hl 0 rfl) ?_
          refine RO_g_shelves X hw 0 rfl kf_X5_25 dX5_set_71 ?_
          refine lv_iload_n hx hb dX5_set_74 rfl (lv_at hl 1 rfl) ?_
          refine lv_iload_n hx hb dX5_set_75 rfl (lv_at hl 2 rfl) ?_
          refine lv_lload_n hx hb dX5_set_76 rfl (lv_at hl 3 rfl) ?_
          obtain ⟨r77, h77, h⟩ := bnd h
          refine g_callv0 (isC := [1]) (gn := fun _ => [wRO g ad aN aK aD (adS 0) aT aL aE ro, wSH g adS r77]) (g_runVN (isC := [1]) (rest := []) (As := [.int p1, .int p2, .long p3]) X hw (c_X3_write l (ad := adS) h77) rfl kM_X3_write ki_X3_write ks_X3_write km_X5_80 ⟨(Nat.le_of_ble_eq_true rfl), (Nat.le_of_ble_eq_true rfl)⟩ ⟨(Nat.le_of_ble_eq_true rfl), (Nat.le_of_ble_eq_true rfl)⟩ rfl rfl ⟨_, _, _, _, rfl, rfl, rfl, rfl⟩ rfl hl.1 rfl (Nat.le_of_ble_eq_true rfl) dX5_set_77) hw rfl rfl (fun _ => (Nat.le_of_ble_eq_true rfl)) (fun _ => rfl) rfl rfl (fun _ H locs hw => ?_)
          refine lv_iconst (v := 1) hx hb dX5_set_80 (by decide) ?_
          have h := Option.some.inj h
          subst h
          exact hret () dX5_set_81 rfl hw
        · have h := itf (fun z => z k60) h
          refine lv_aload_n hx hb dX5_set_63 rfl (lv_at hl 0 rfl) ?_
          refine lv_bipush (v := -2) hx hb dX5_set_64 (by decide) ?_
          obtain ⟨r66, h66, h⟩ := bnd h
          refine g_calli0 (isC := [0]) (gn := fun _ => [wRO g ad aN aK aD (adS 0) aT aL aE r66.2, wSH g adS sh]) (g_runV (isC := [0]) (rest := []) (As := [.int (-2 : Int32)]) X hw (c_X5_refuse l (ad := ad) (aN := aN) (aK := aK) (aD := aD) (aS := (adS 0)) (aT := aT) (aL := aL) (aE := aE) h66) rfl kM_X5_refuse ki_X5_refuse ks_X5_refuse km_X5_62 ⟨(Nat.le_of_ble_eq_true rfl), (Nat.le_of_ble_eq_true rfl)⟩ ⟨(Nat.le_of_ble_eq_true rfl), (Nat.le_of_ble_eq_true rfl)⟩ rfl rfl ⟨_, _, _, _, rfl, rfl, rfl, rfl⟩ rfl hl.1 rfl (Nat.le_of_ble_eq_true rfl) dX5_set_66) hw rfl rfl (fun _ => (Nat.le_of_ble_eq_true rfl)) (fun _ => rfl) rfl rfl (fun _ H locs hw => ?_)
          have h := Option.some.inj h
          subst h
          exact hret () dX5_set_69 rfl hw
      · have h := itf k40 h
        refine lv_aload_n hx hb dX5_set_43 rfl (lv_at hl 0 rfl) ?_
        refine lv_bipush (v := -4) hx hb dX5_set_44 (by decide) ?_
        obtain ⟨r46, h46, h⟩ := bnd h
        refine g_calli0 (isC := [0]) (gn := fun _ => [wRO g ad aN aK aD (adS 0) aT aL aE r46.2, wSH g adS sh]) (g_runV (isC := [0]) (rest := []) (As := [.int (-4 : Int32)]) X hw (c_X5_refuse l (ad := ad) (aN := aN) (aK := aK) (aD := aD) (aS := (adS 0)) (aT := aT) (aL := aL) (aE := aE) h46) rfl kM_X5_refuse ki_X5_refuse ks_X5_refuse km_X5_62 ⟨(Nat.le_of_ble_eq_true rfl), (Nat.le_of_ble_eq_true rfl)⟩ ⟨(Nat.le_of_ble_eq_true rfl), (Nat.le_of_ble_eq_true rfl)⟩ rfl rfl ⟨_, _, _, _, rfl, rfl, rfl, rfl⟩ rfl hl.1 rfl (Nat.le_of_ble_eq_true rfl) dX5_set_46) hw rfl rfl (fun _ => (Nat.le_of_ble_eq_true rfl)) (fun _ => rfl) rfl rfl (fun _ H locs hw => ?_)
        have h := Option.some.inj h
        subst h
        exact hret () dX5_set_49 rfl hw
    · have h := itf k22 h
      refine lv_aload_n hx hb dX5_set_25 rfl (lv_at hl 0 rfl) ?_
      refine lv_bipush (v := -3) hx hb dX5_set_26 (by decide) ?_
      obtain ⟨r28, h28, h⟩ := bnd h
      refine g_calli0 (isC := [0]) (gn := fun _ => [wRO g ad aN aK aD (adS 0) aT aL aE r28.2, wSH g adS sh]) (g_runV (isC := [0]) (rest := []) (As := [.int (-3 : Int32)]) X hw (c_X5_refuse l (ad := ad) (aN := aN) (aK := aK) (aD := aD) (aS := (adS 0)) (aT := aT) (aL := aL) (aE := aE) h28) rfl kM_X5_refuse ki_X5_refuse ks_X5_refuse km_X5_62 ⟨(Nat.le_of_ble_eq_true rfl), (Nat.le_of_ble_eq_true rfl)⟩ ⟨(Nat.le_of_ble_eq_true rfl), (Nat.le_of_ble_eq_true rfl)⟩ rfl rfl ⟨_, _, _, _, rfl, rfl, rfl, rfl⟩ rfl hl.1 rfl (Nat.le_of_ble_eq_true rfl) dX5_set_28) hw rfl rfl (fun _ => (Nat.le_of_ble_eq_true rfl)) (fun _ => rfl) rfl rfl (fun _ H locs hw => ?_)
      have h := Option.some.inj h
      subst h
      exact hret () dX5_set_31 rfl hw
  · have h := itf (fun z => z k4) h
    refine lv_aload_n hx hb dX5_set_7 rfl (lv_at hl 0 rfl) ?_
    refine lv_bipush (v := -2) hx hb dX5_set_8 (by decide) ?_
    obtain ⟨r10, h10, h⟩ := bnd h
    refine g_calli0 (isC := [0]) (gn := fun _ => [wRO g ad aN aK aD (adS 0) aT aL aE r10.2, wSH g adS sh]) (g_runV (isC := [0]) (rest := []) (As := [.int (-2 : Int32)]) X hw (c_X5_refuse l (ad := ad) (aN := aN) (aK := aK) (aD := aD) (aS := (adS 0)) (aT := aT) (aL := aL) (aE := aE) h10) rfl kM_X5_refuse ki_X5_refuse ks_X5_refuse km_X5_62 ⟨(Nat.le_of_ble_eq_true rfl), (Nat.le_of_ble_eq_true rfl)⟩ ⟨(Nat.le_of_ble_eq_true rfl), (Nat.le_of_ble_eq_true rfl)⟩ rfl rfl ⟨_, _, _, _, rfl, rfl, rfl, rfl⟩ rfl hl.1 rfl (Nat.le_of_ble_eq_true rfl) dX5_set_10) hw rfl rfl (fun _ => (Nat.le_of_ble_eq_true rfl)) (fun _ => rfl) rfl rfl (fun _ H locs hw => ?_)
    have h := Option.some.inj h
    subst h
    exact hret () dX5_set_13 rfl hw
theorem kM_X5_copy : kM yX5_copy cX5_copy 6 (some FieldType.int) 5 := ⟨kc_X5_copy, kn_RingsOff, by decide +kernel⟩
abbrev R_X5_copy : Room := { frames := 4, cells := 0, slots := 0, locals := 85 }
set_option maxHeartbeats 4000000 in
set_option maxRecDepth 100000 in
theorem c_X5_copy (l : Launch) {ad : Nat → Nat} {adS : Nat → Nat} {aN : Nat} {aK : Nat} {aD : Nat} {aT : Nat} {aL : Nat} {aE : Nat} {N : Nat} {ro : RO} {sh : SH} {p1 : Int32} {p2 : Int32} {p3 : Int32} {p4 : Int32} {p5 : Int32} {out : Int32 × RO × SH} (h : M_X5_copy N ro sh p1 p2 p3 p4 p5 = some out) : gM l yX5_copy cX5_copy 6 (some FieldType.int) R_X5_copy (fun _ => [.ref (ad 0), .int p1, .int p2, .int p3, .int p4, .int p5]) (fun g => [wRO g ad aN aK aD (adS 0) aT aL aE ro, wSH g adS sh]) (gQi (fun (_ : Unit) => out.1) (fun g (_ : Unit) => [wRO g ad aN aK aD (adS 0) aT aL aE out.2.1, wSH g adS out.2.2])) := by
  refine gM.ofi (by decide +kernel) (fun _ => Nat.le_of_ble_eq_true rfl) (fun g p e s m args below meth c A ls Q X hret hw hl => ?_)
  have hx := X.1.1
  have hb := X.1.2.1
  have hl : lv_has ls 6 [(0, .ref (ad 0)), (1, .int p1), (2, .int p2), (3, .int p3), (4, .int p4), (5, .int p5)] := hl
  have J120 : ∀ (z120 : RO × SH), M_X5_copy_j120 N p1 p2 p3 p4 p5 z120 = some out → ∀ (H : Heap) (locs : List Loc) (ls : Array Slot), gW g A s.heap [wRO g ad aN aK aD (adS 0) aT aL aE z120.1, wSH g adS z120.2] H locs → lv_has ls 6 [(0, .ref (ad 0))] → W p l e R_X5_copy s m args below meth c H locs 0 0 Q (F0 m 120 ls []) := by
    intro z120 h H locs ls hw hl
    unfold M_X5_copy_j120 at h
    refine lv_aload_n hx hb dX5_copy_120 rfl (lv_at hl 0 rfl) ?_
    refine lv_bipush (v := -2) hx hb dX5_copy_121 (by decide) ?_
    obtain ⟨r123, h123, h⟩ := bnd h
    refine g_calli0 (isC := [0]) (gn := fun _ => [wRO g ad aN aK aD (adS 0) aT aL aE r123.2, wSH g adS z120.2]) (g_runV (isC := [0]) (rest := []) (As := [.int (-2 : Int32)]) X hw (c_X5_refuse l (ad := ad) (aN := aN) (aK := aK) (aD := aD) (aS := (adS 0)) (aT := aT) (aL := aL) (aE := aE) h123) rfl kM_X5_refuse ki_X5_refuse ks_X5_refuse km_X5_62 ⟨(Nat.le_of_ble_eq_true rfl), (Nat.le_of_ble_eq_true rfl)⟩ ⟨(Nat.le_of_ble_eq_true rfl), (Nat.le_of_ble_eq_true rfl)⟩ rfl rfl ⟨_, _, _, _, rfl, rfl, rfl, rfl⟩ rfl hl.1 rfl (Nat.le_of_ble_eq_true rfl) dX5_copy_123) hw rfl rfl (fun _ => (Nat.le_of_ble_eq_true rfl)) (fun _ => rfl) rfl rfl (fun _ H locs hw => ?_)
    have h := Option.some.inj h
    subst h
    exact hret () dX5_copy_126 rfl hw
  have J84 : ∀ (z84 : RO × SH), M_X5_copy_j84 N p1 p2 p3 p4 p5 z84 = some out → ∀ (H : Heap) (locs : List Loc) (ls : Array Slot), gW g A s.heap [wRO g ad aN aK aD (adS 0) aT aL aE z84.1, wSH g adS z84.2] H locs → lv_has ls 6 [(0, .ref (ad 0))] → W p l e R_X5_copy s m args below meth c H locs 0 0 Q (F0 m 84 ls []) := by
    intro z84 h H locs ls hw hl
    unfold M_X5_copy_j84 at h
    refine lv_aload_n hx hb dX5_copy_84 rfl (lv_at hl 0 rfl) ?_
    refine lv_bipush (v := -4) hx hb dX5_copy_85 (by decide) ?_
    obtain ⟨r87, h87, h⟩ := bnd h
    refine g_calli0 (isC := [0]) (gn := fun _ => [wRO g ad aN aK aD (adS 0) aT aL aE r87.2, wSH g adS z84.2]) (g_runV (isC := [0]) (rest := []) (As := [.int (-4 : Int32)]) X hw (c_X5_refuse l (ad := ad) (aN := aN) (aK := aK) (aD := aD) (aS := (adS 0)) (aT := aT) (aL := aL) (aE := aE) h87) rfl kM_X5_refuse ki_X5_refuse ks_X5_refuse km_X5_62 ⟨(Nat.le_of_ble_eq_true rfl), (Nat.le_of_ble_eq_true rfl)⟩ ⟨(Nat.le_of_ble_eq_true rfl), (Nat.le_of_ble_eq_true rfl)⟩ rfl rfl ⟨_, _, _, _, rfl, rfl, rfl, rfl⟩ rfl hl.1 rfl (Nat.le_of_ble_eq_true rfl) dX5_copy_87) hw rfl rfl (fun _ => (Nat.le_of_ble_eq_true rfl)) (fun _ => rfl) rfl rfl (fun _ H locs hw => ?_)
    have h := Option.some.inj h
    subst h
    exact hret () dX5_copy_90 rfl hw
  have J55 : ∀ (z55 : RO × SH), M_X5_copy_j55 N p1 p2 p3 p4 p5 z55 = some out → ∀ (H : Heap) (locs : List Loc) (ls : Array Slot), gW g A s.heap [wRO g ad aN aK aD (adS 0) aT aL aE z55.1, wSH g adS z55.2] H locs → lv_has ls 6 [(0, .ref (ad 0))] → W p l e R_X5_copy s m args below meth c H locs 0 0 Q (F0 m 55 ls []) := by
    intro z55 h H locs ls hw hl
    unfold M_X5_copy_j55 at h
    refine lv_aload_n hx hb dX5_copy_55 rfl (lv_at hl 0 rfl) ?_
    refine lv_bipush (v := -3) hx hb dX5_copy_56 (by decide) ?_
    obtain ⟨r58, h58, h⟩ := bnd h
    refine g_calli0 (isC := [0]) (gn := fun _ => [wRO g ad aN aK aD (adS 0) aT aL aE r58.2, wSH g adS z55.2]) (g_runV (isC := [0]) (rest := []) (As := [.int (-3 : Int32)]) X hw (c_X5_refuse l (ad := ad) (aN := aN) (aK := aK) (aD := aD) (aS := (adS 0)) (aT := aT) (aL := aL) (aE := aE) h58) rfl kM_X5_refuse ki_X5_refuse ks_X5_refuse km_X5_62 ⟨(Nat.le_of_ble_eq_true rfl), (Nat.le_of_ble_eq_true rfl)⟩ ⟨(Nat.le_of_ble_eq_true rfl), (Nat.le_of_ble_eq_true rfl)⟩ rfl rfl ⟨_, _, _, _, rfl, rfl, rfl, rfl⟩ rfl hl.1 rfl (Nat.le_of_ble_eq_true rfl) dX5_copy_58) hw rfl rfl (fun _ => (Nat.le_of_ble_eq_true rfl)) (fun _ => rfl) rfl rfl (fun _ H locs hw => ?_)
    have h := Option.some.inj h
    subst h
    exact hret () dX5_copy_61 rfl hw
  have J14 : ∀ (z14 : RO × SH), M_X5_copy_j14 N p1 p2 p3 p4 p5 z14 = some out → ∀ (H : Heap) (locs : List Loc) (ls : Array Slot), gW g A s.heap [wRO g ad aN aK aD (adS 0) aT aL aE z14.1, wSH g adS z14.2] H locs → lv_has ls 6 [(0, .ref (ad 0))] → W p l e R_X5_copy s m args below meth c H locs 0 0 Q (F0 m 14 ls []) := by
    intro z14 h H locs ls hw hl
    unfold M_X5_copy_j14 at h
    refine lv_aload_n hx hb dX5_copy_14 rfl (lv_at hl 0 rfl) ?_
    refine lv_bipush (v := -2) hx hb dX5_copy_15 (by decide) ?_
    obtain ⟨r17, h17, h⟩ := bnd h
    refine g_calli0 (isC := [0]) (gn := fun _ => [wRO g ad aN aK aD (adS 0) aT aL aE r17.2, wSH g adS z14.2]) (g_runV (isC := [0]) (rest := []) (As := [.int (-2 : Int32)]) X hw (c_X5_refuse l (ad := ad) (aN := aN) (aK := aK) (aD := aD) (aS := (adS 0)) (aT := aT) (aL := aL) (aE := aE) h17) rfl kM_X5_refuse ki_X5_refuse ks_X5_refuse km_X5_62 ⟨(Nat.le_of_ble_eq_true rfl), (Nat.le_of_ble_eq_true rfl)⟩ ⟨(Nat.le_of_ble_eq_true rfl), (Nat.le_of_ble_eq_true rfl)⟩ rfl rfl ⟨_, _, _, _, rfl, rfl, rfl, rfl⟩ rfl hl.1 rfl (Nat.le_of_ble_eq_true rfl) dX5_copy_17) hw rfl rfl (fun _ => (Nat.le_of_ble_eq_true rfl)) (fun _ => rfl) rfl rfl (fun _ H locs hw => ?_)
    have h := Option.some.inj h
    subst h
    exact hret () dX5_copy_20 rfl hw
  unfold M_X5_copy at h
  refine lv_iload_n hx hb dX5_copy_0 rfl (lv_at hl 1 rfl) ?_
  obtain ⟨r1, h1, h⟩ := bnd h
  refine g_calli0 (isC := []) (gn := fun _ => [wRO g ad aN aK aD (adS 0) aT aL aE ro, wSH g adS sh]) (g_runSN (isC := []) (rest := []) (As := [.int p1]) X hw (c_X3_isShelf l h1) rfl kM_X3_isShelf kt_X3_isShelf km_X5_58 ⟨(Nat.le_of_ble_eq_true rfl), (Nat.le_of_ble_eq_true rfl)⟩ ⟨(Nat.le_of_ble_eq_true rfl), (Nat.le_of_ble_eq_true rfl)⟩ rfl rfl rfl hl.1 rfl (Nat.le_of_ble_eq_true rfl) dX5_copy_1) hw rfl rfl (fun _ => (Nat.le_of_ble_eq_true rfl)) (fun _ => rfl) rfl rfl (fun _ H locs hw => ?_)
  refine lv_if_eq (tgt := 14) hx hb dX5_copy_4 (by decide) (fun k4 => ?_) (fun k4 => ?_)
  · have h := itt k4 h
    exact J14 _ h _ _ _ hw (lv_sub hl [0] rfl)
  · have h := itf k4 h
    refine lv_iload_n hx hb dX5_copy_7 rfl (lv_at hl 2 rfl) ?_
    obtain ⟨r8, h8, h⟩ := bnd h
    refine g_calli0 (isC := []) (gn := fun _ => [wRO g ad aN aK aD (adS 0) aT aL aE ro, wSH g adS sh]) (g_runSN (isC := []) (rest := []) (As := [.int p2]) X hw (c_X3_isShelf l h8) rfl kM_X3_isShelf kt_X3_isShelf km_X5_58 ⟨(Nat.le_of_ble_eq_true rfl), (Nat.le_of_ble_eq_true rfl)⟩ ⟨(Nat.le_of_ble_eq_true rfl), (Nat.le_of_ble_eq_true rfl)⟩ rfl rfl rfl hl.1 rfl (Nat.le_of_ble_eq_true rfl) dX5_copy_8) hw rfl rfl (fun _ => (Nat.le_of_ble_eq_true rfl)) (fun _ => rfl) rfl rfl (fun _ H locs hw => ?_)
    refine lv_if_ne (tgt := 21) hx hb dX5_copy_11 (by decide) (fun k11 => ?_) (fun k11 => ?_)
    · have h := itt k11 h
      refine lv_aload_n hx hb dX5_copy_21 rfl (lv_at hl 0 rfl) ?_
      refine RO_g_shelves X hw 0 rfl kf_X5_25 dX5_copy_22 ?_
      refine lv_iload_n hx hb dX5_copy_25 rfl (lv_at hl 1 rfl) ?_
      obtain ⟨r26, h26, h⟩ := bnd h
      refine g_calli0 (isC := [1]) (gn := fun _ => [wRO g ad aN aK aD (adS 0) aT aL aE ro, wSH g adS sh]) (g_runVN (isC := [1]) (rest := []) (As := [.int p1]) X hw (c_X3_hasBarIn l (ad := adS) h26) rfl kM_X3_hasBarIn ki_X3_hasBarIn ks_X3_hasBarIn km_X5_70 ⟨(Nat.le_of_ble_eq_true rfl), (Nat.le_of_ble_eq_true rfl)⟩ ⟨(Nat.le_of_ble_eq_true rfl), (Nat.le_of_ble_eq_true rfl)⟩ rfl rfl ⟨_, _, _, _, rfl, rfl, rfl, rfl⟩ rfl hl.1 rfl (Nat.le_of_ble_eq_true rfl) dX5_copy_26) hw rfl rfl (fun _ => (Nat.le_of_ble_eq_true rfl)) (fun _ => rfl) rfl rfl (fun _ H locs hw => ?_)
      refine lv_if_ne (tgt := 55) hx hb dX5_copy_29 (by decide) (fun k29 => ?_) (fun k29 => ?_)
      · have h := itt k29 h
        exact J55 _ h _ _ _ hw (lv_sub hl [0] rfl)
      · have h := itf (fun z => z k29) h
        refine lv_aload_n hx hb dX5_copy_32 rfl (lv_at hl 0 rfl) ?_
        refine RO_g_shelves X hw 0 rfl kf_X5_25 dX5_copy_33 ?_
        refine lv_iload_n hx hb dX5_copy_36 rfl (lv_at hl 2 rfl) ?_
        obtain ⟨r37, h37, h⟩ := bnd h
        refine g_calli0 (isC := [1]) (gn := fun _ => [wRO g ad aN aK aD (adS 0) aT aL aE ro, wSH g adS sh]) (g_runVN (isC := [1]) (rest := []) (As := [.int p2]) X hw (c_X3_hasBarIn l (ad := adS) h37) rfl kM_X3_hasBarIn ki_X3_hasBarIn ks_X3_hasBarIn km_X5_70 ⟨(Nat.le_of_ble_eq_true rfl), (Nat.le_of_ble_eq_true rfl)⟩ ⟨(Nat.le_of_ble_eq_true rfl), (Nat.le_of_ble_eq_true rfl)⟩ rfl rfl ⟨_, _, _, _, rfl, rfl, rfl, rfl⟩ rfl hl.1 rfl (Nat.le_of_ble_eq_true rfl) dX5_copy_37) hw rfl rfl (fun _ => (Nat.le_of_ble_eq_true rfl)) (fun _ => rfl) rfl rfl (fun _ H locs hw => ?_)
        refine lv_if_ne (tgt := 55) hx hb dX5_copy_40 (by decide) (fun k40 => ?_) (fun k40 => ?_)
        · have h := itt k40 h
          exact J55 _ h _ _ _ hw (lv_sub hl [0] rfl)
        · have h := itf (fun z => z k40) h
          refine lv_aload_n hx hb dX5_copy_43 rfl (lv_at hl 0 rfl) ?_
          refine RO_g_shelves X hw 0 rfl kf_X5_25 dX5_copy_44 ?_
          refine lv_iload_n hx hb dX5_copy_47 rfl (lv_at hl 1 rfl) ?_
          refine lv_iload_n hx hb dX5_copy_48 rfl (lv_at hl 2 rfl) ?_
          obtain ⟨r49, h49, h⟩ := bnd h
          refine g_calli0 (isC := [1]) (gn := fun _ => [wRO g ad aN aK aD (adS 0) aT aL aE ro, wSH g adS sh]) (g_runVN (isC := [1]) (rest := []) (As := [.int p1, .int p2]) X hw (c_X3_differ l (ad := adS) h49) rfl kM_X3_differ ki_X3_differ ks_X3_differ km_X5_84 ⟨(Nat.le_of_ble_eq_true rfl), (Nat.le_of_ble_eq_true rfl)⟩ ⟨(Nat.le_of_ble_eq_true rfl), (Nat.le_of_ble_eq_true rfl)⟩ rfl rfl ⟨_, _, _, _, rfl, rfl, rfl, rfl⟩ rfl hl.1 rfl (Nat.le_of_ble_eq_true rfl) dX5_copy_49) hw rfl rfl (fun _ => (Nat.le_of_ble_eq_true rfl)) (fun _ => rfl) rfl rfl (fun _ H locs hw => ?_)
          refine lv_if_eq (tgt := 62) hx hb dX5_copy_52 (by decide) (fun k52 => ?_) (fun k52 => ?_)
          · have h := itt k52 h
            refine lv_aload_n hx hb dX5_copy_62 rfl (lv_at hl 0 rfl) ?_
            refine RO_g_shelves X hw 0 rfl kf_X5_25 dX5_copy_63 ?_
            refine lv_iload_n hx hb dX5_copy_66 rfl (lv_at hl 1 rfl) ?_
            obtain ⟨r67, h67, h⟩ := bnd h
            refine g_calli0 (isC := [1]) (gn := fun _ => [wRO g ad aN aK aD (adS 0) aT aL aE ro, wSH g adS sh]) (g_runVN (isC := [1]) (rest := []) (As := [.int p1]) X hw (c_X3_isFree l (ad := adS) h67) rfl kM_X3_isFree ki_X3_isFree ks_X3_isFree km_X5_73 ⟨(Nat.le_of_ble_eq_true rfl), (Nat.le_of_ble_eq_true rfl)⟩ ⟨(Nat.le_of_ble_eq_true rfl), (Nat.le_of_ble_eq_true rfl)⟩ rfl rfl ⟨_, _, _, _, rfl, rfl, rfl, rfl⟩ rfl hl.1 rfl (Nat.le_of_ble_eq_true rfl) dX5_copy_67) hw rfl rfl (fun _ => (Nat.le_of_ble_eq_true rfl)) (fun _ => rfl) rfl rfl (fun _ H locs hw => ?_)
            refine lv_if_ne (tgt := 84) hx hb dX5_copy_70 (by decide) (fun k70 => ?_) (fun k70 => ?_)
            · have h := itt k70 h
              exact J84 _ h _ _ _ hw (lv_sub hl [0] rfl)
            · have h := itf (fun z => z k70) h
              refine lv_aload_n hx hb dX5_copy_73 rfl (lv_at hl 0 rfl) ?_
              refine RO_g_shelves X hw 0 rfl kf_X5_25 dX5_copy_74 ?_
              refine lv_iload_n hx hb dX5_copy_77 rfl (lv_at hl 2 rfl) ?_
              obtain ⟨r78, h78, h⟩ := bnd h
              refine g_calli0 (isC := [1]) (gn := fun _ => [wRO g ad aN aK aD (adS 0) aT aL aE ro, wSH g adS sh]) (g_runVN (isC := [1]) (rest := []) (As := [.int p2]) X hw (c_X3_isFree l (ad := adS) h78) rfl kM_X3_isFree ki_X3_isFree ks_X3_isFree km_X5_73 ⟨(Nat.le_of_ble_eq_true rfl), (Nat.le_of_ble_eq_true rfl)⟩ ⟨(Nat.le_of_ble_eq_true rfl), (Nat.le_of_ble_eq_true rfl)⟩ rfl rfl ⟨_, _, _, _, rfl, rfl, rfl, rfl⟩ rfl hl.1 rfl (Nat.le_of_ble_eq_true rfl) dX5_copy_78) hw rfl rfl (fun _ => (Nat.le_of_ble_eq_true rfl)) (fun _ => rfl) rfl rfl (fun _ H locs hw => ?_)
              refine lv_if_eq (tgt := 91) hx hb dX5_copy_81 (by decide) (fun k81 => ?_) (fun k81 => ?_)
              · have h := itt k81 h
                refine lv_aload_n hx hb dX5_copy_91 rfl (lv_at hl 0 rfl) ?_
                refine RO_g_shelves X hw 0 rfl kf_X5_25 dX5_copy_92 ?_
                refine lv_iload_n hx hb dX5_copy_95 rfl (lv_at hl 1 rfl) ?_
                refine lv_iload_n hx hb dX5_copy_96 rfl (lv_at hl 3 rfl) ?_
                refine lv_iload hx hb dX5_copy_97 (lv_at hl 5 rfl) ?_
                obtain ⟨r99, h99, h⟩ := bnd h
                refine g_calli0 (isC := [1]) (gn := fun _ => [wRO g ad aN aK aD (adS 0) aT aL aE ro, wSH g adS sh]) (g_runVN (isC := [1]) (rest := []) (As := [.int p1, .int p3, .int p5]) X hw (c_X3_hasCells l (ad := adS) h99) rfl kM_X3_hasCells ki_X3_hasCells ks_X3_hasCells km_X5_76 ⟨(Nat.le_of_ble_eq_true rfl), (Nat.le_of_ble_eq_true rfl)⟩ ⟨(Nat.le_of_ble_eq_true rfl), (Nat.le_of_ble_eq_true rfl)⟩ rfl rfl ⟨_, _, _, _, rfl, rfl, rfl, rfl⟩ rfl hl.1 rfl (Nat.le_of_ble_eq_true rfl) dX5_copy_99) hw rfl rfl (fun _ => (Nat.le_of_ble_eq_true rfl)) (fun _ => rfl) rfl rfl (fun _ H locs hw => ?_)
                refine lv_if_eq (tgt := 120) hx hb dX5_copy_102 (by decide) (fun k102 => ?_) (fun k102 => ?_)
                · have h := itt k102 h
                  exact J120 _ h _ _ _ hw (lv_sub hl [0] rfl)
                · have h := itf k102 h
                  refine lv_aload_n hx hb dX5_copy_105 rfl (lv_at hl 0 rfl) ?_
                  refine RO_g_shelves X hw 0 rfl kf_X5_25 dX5_copy_106 ?_
                  refine lv_iload_n hx hb dX5_copy_109 rfl (lv_at hl 2 rfl) ?_
                  refine lv_iload hx hb dX5_copy_110 (lv_at hl 4 rfl) ?_
                  refine lv_iload hx hb dX5_copy_112 (lv_at hl 5 rfl) ?_
                  obtain ⟨r114, h114, h⟩ := bnd h
                  refine g_calli0 (isC := [1]) (gn := fun _ => [wRO g ad aN aK aD (adS 0) aT aL aE ro, wSH g adS sh]) (g_runVN (isC := [1]) (rest := []) (As := [.int p2, .int p4, .int p5]) X hw (c_X3_hasCells l (ad := adS) h114) rfl kM_X3_hasCells ki_X3_hasCells ks_X3_hasCells km_X5_76 ⟨(Nat.le_of_ble_eq_true rfl), (Nat.le_of_ble_eq_true rfl)⟩ ⟨(Nat.le_of_ble_eq_true rfl), (Nat.le_of_ble_eq_true rfl)⟩ rfl rfl ⟨_, _, _, _, rfl, rfl, rfl, rfl⟩ rfl hl.1 rfl (Nat.le_of_ble_eq_true rfl) dX5_copy_114) hw rfl rfl (fun _ => (Nat.le_of_ble_eq_true rfl)) (fun _ => rfl) rfl rfl (fun _ H locs hw => ?_)
                  refine lv_if_ne (tgt := 127) hx hb dX5_copy_117 (by decide) (fun k117 => ?_) (fun k117 => ?_)
                  · have h := itt k117 h
                    refine lv_aload_n hx hb dX5_copy_127 rfl (lv_at hl 0 rfl) ?_
                    refine RO_g_shelves X hw 0 rfl kf_X5_25 dX5_copy_128 ?_
                    refine lv_iload_n hx hb dX5_copy_131 rfl (lv_at hl 1 rfl) ?_
                    refine lv_iload_n hx hb dX5_copy_132 rfl (lv_at hl 2 rfl) ?_
                    refine lv_iload_n hx hb dX5_copy_133 rfl (lv_at hl 3 rfl) ?_
                    refine lv_iload hx hb dX5_copy_134 (lv_at hl 4 rfl) ?_
                    refine lv_iload hx hb dX5_copy_136 (lv_at hl 5 rfl) ?_
                    obtain ⟨r138, h138, h⟩ := bnd h
                    refine g_callv0 (isC := [1]) (gn := fun _ => [wRO g ad aN aK aD (adS 0) aT aL aE ro, wSH g adS r138]) (g_runVN (isC := [1]) (rest := []) (As := [.int p1, .int p2, .int p3, .int p4, .int p5]) X hw (c_X3_carry l (ad := adS) h138) rfl kM_X3_carry ki_X3_carry ks_X3_carry km_X5_88 ⟨(Nat.le_of_ble_eq_true rfl), (Nat.le_of_ble_eq_true rfl)⟩ ⟨(Nat.le_of_ble_eq_true rfl), (Nat.le_of_ble_eq_true rfl)⟩ rfl rfl ⟨_, _, _, _, rfl, rfl, rfl, rfl⟩ rfl hl.1 rfl (Nat.le_of_ble_eq_true rfl) dX5_copy_138) hw rfl rfl (fun _ => (Nat.le_of_ble_eq_true rfl)) (fun _ => rfl) rfl rfl (fun _ H locs hw => ?_)
                    refine lv_iload hx hb dX5_copy_141 (lv_at hl 5 rfl) ?_
                    have h := Option.some.inj h
                    subst h
                    exact hret () dX5_copy_143 rfl hw
                  · have h := itf (fun z => z k117) h
                    exact J120 _ h _ _ _ hw (lv_sub hl [0] rfl)
              · have h := itf k81 h
                exact J84 _ h _ _ _ hw (lv_sub hl [0] rfl)
          · have h := itf k52 h
            exact J55 _ h _ _ _ hw (lv_sub hl [0] rfl)
    · have h := itf (fun z => z k11) h
      exact J14 _ h _ _ _ hw (lv_sub hl [0] rfl)
theorem kM_X5_show : kM yX5_show cX5_show 3 (some FieldType.int) 2 := ⟨kc_X5_show, kn_RingsOff, by decide +kernel⟩
abbrev R_X5_show : Room := { frames := 2, cells := 0, slots := 0, locals := 42 }
set_option maxHeartbeats 4000000 in
set_option maxRecDepth 100000 in
theorem c_X5_show (l : Launch) {ad : Nat → Nat} {adN : Nat → Nat} {adS : Nat → Nat} {aK : Nat} {aD : Nat} {aT : Nat} {aL : Nat} {aE : Nat} {N : Nat} {ro : RO} {nw : EV} {sh : SH} {p1 : Int32} {p2 : Int32} {out : Int32 × RO × SH} (h : M_X5_show N ro nw sh p1 p2 = some out) : gM l yX5_show cX5_show 3 (some FieldType.int) R_X5_show (fun _ => [.ref (ad 0), .int p1, .int p2]) (fun g => [wRO g ad (adN 0) aK aD (adS 0) aT aL aE ro, wEV g adN nw, wSH g adS sh]) (gQi (fun (_ : Unit) => out.1) (fun g (_ : Unit) => [wRO g ad (adN 0) aK aD (adS 0) aT aL aE out.2.1, wEV g adN nw, wSH g adS out.2.2])) := by
  refine gM.ofi (by decide +kernel) (fun _ => Nat.le_of_ble_eq_true rfl) (fun g p e s m args below meth c A ls Q X hret hw hl => ?_)
  have hx := X.1.1
  have hb := X.1.2.1
  have hl : lv_has ls 3 [(0, .ref (ad 0)), (1, .int p1), (2, .int p2)] := hl
  have J30 : ∀ (z30 : RO × SH), M_X5_show_j30 N nw p1 p2 z30 = some out → ∀ (H : Heap) (locs : List Loc) (ls : Array Slot), gW g A s.heap [wRO g ad (adN 0) aK aD (adS 0) aT aL aE z30.1, wEV g adN nw, wSH g adS z30.2] H locs → lv_has ls 3 [(0, .ref (ad 0)), (1, .int p1), (2, .int p2)] → W p l e R_X5_show s m args below meth c H locs 0 0 Q (F0 m 30 ls []) := by
    intro z30 h H locs ls hw hl
    unfold M_X5_show_j30 at h
    refine lv_iload_n hx hb dX5_show_30 rfl (lv_at hl 2 rfl) ?_
    refine lv_iconst (v := -1) hx hb dX5_show_31 (by decide) ?_
    refine lv_icmp_ne (tgt := 46) hx hb dX5_show_32 (by decide) (fun k32 => ?_) (fun k32 => ?_)
    · have h := itt k32 h
      refine lv_aload_n hx hb dX5_show_46 rfl (lv_at hl 0 rfl) ?_
      refine RO_g_shelves X hw 0 rfl kf_X5_25 dX5_show_47 ?_
      refine lv_iload_n hx hb dX5_show_50 rfl (lv_at hl 1 rfl) ?_
      refine lv_iload_n hx hb dX5_show_51 rfl (lv_at hl 2 rfl) ?_
      obtain ⟨r52, h52, h⟩ := bnd h
      refine g_callv0 (isC := [2]) (gn := fun _ => [wRO g ad (adN 0) aK aD (adS 0) aT aL aE z30.1, wEV g adN nw, wSH g adS r52]) (g_runVN (isC := [2]) (rest := []) (As := [.int p1, .int p2]) X hw (c_X3_holdBar l (ad := adS) h52) rfl kM_X3_holdBar ki_X3_holdBar ks_X3_holdBar km_X5_106 ⟨(Nat.le_of_ble_eq_true rfl), (Nat.le_of_ble_eq_true rfl)⟩ ⟨(Nat.le_of_ble_eq_true rfl), (Nat.le_of_ble_eq_true rfl)⟩ rfl rfl ⟨_, _, _, _, rfl, rfl, rfl, rfl⟩ rfl hl.1 rfl (Nat.le_of_ble_eq_true rfl) dX5_show_52) hw rfl rfl (fun _ => (Nat.le_of_ble_eq_true rfl)) (fun _ => rfl) rfl rfl (fun _ H locs hw => ?_)
      refine lv_iconst (v := 1) hx hb dX5_show_55 (by decide) ?_
      have h := Option.some.inj h
      subst h
      exact hret () dX5_show_56 rfl hw
    · have h := itf (fun z => z k32) h
      refine lv_aload_n hx hb dX5_show_35 rfl (lv_at hl 0 rfl) ?_
      refine RO_g_shelves X hw 0 rfl kf_X5_25 dX5_show_36 ?_
      refine lv_iload_n hx hb dX5_show_39 rfl (lv_at hl 1 rfl) ?_
      obtain ⟨r40, h40, h⟩ := bnd h
      refine g_callv0 (isC := [2]) (gn := fun _ => [wRO g ad (adN 0) aK aD (adS 0) aT aL aE z30.1, wEV g adN nw, wSH g adS r40]) (g_runVN (isC := [2]) (rest := []) (As := [.int p1]) X hw (c_X3_free l (ad := adS) h40) rfl kM_X3_free ki_X3_free ks_X3_free km_X5_102 ⟨(Nat.le_of_ble_eq_true rfl), (Nat.le_of_ble_eq_true rfl)⟩ ⟨(Nat.le_of_ble_eq_true rfl), (Nat.le_of_ble_eq_true rfl)⟩ rfl rfl ⟨_, _, _, _, rfl, rfl, rfl, rfl⟩ rfl hl.1 rfl (Nat.le_of_ble_eq_true rfl) dX5_show_40) hw rfl rfl (fun _ => (Nat.le_of_ble_eq_true rfl)) (fun _ => rfl) rfl rfl (fun _ H locs hw => ?_)
      refine lv_goto (tgt := 55) hx hb dX5_show_43 (by decide) ?_
      refine lv_iconst (v := 1) hx hb dX5_show_55 (by decide) ?_
      have h := Option.some.inj h
      subst h
      exact hret () dX5_show_56 rfl hw
  have J23 : ∀ (z23 : RO × SH), M_X5_show_j23 N nw p1 p2 z23 = some out → ∀ (H : Heap) (locs : List Loc) (ls : Array Slot), gW g A s.heap [wRO g ad (adN 0) aK aD (adS 0) aT aL aE z23.1, wEV g adN nw, wSH g adS z23.2] H locs → lv_has ls 3 [(0, .ref (ad 0))] → W p l e R_X5_show s m args below meth c H locs 0 0 Q (F0 m 23 ls []) := by
    intro z23 h H locs ls hw hl
    unfold M_X5_show_j23 at h
    refine lv_aload_n hx hb dX5_show_23 rfl (lv_at hl 0 rfl) ?_
    refine lv_bipush (v := -2) hx hb dX5_show_24 (by decide) ?_
    obtain ⟨r26, h26, h⟩ := bnd h
    refine g_calli0 (isC := [0]) (gn := fun _ => [wRO g ad (adN 0) aK aD (adS 0) aT aL aE r26.2, wEV g adN nw, wSH g adS z23.2]) (g_runV (isC := [0]) (rest := []) (As := [.int (-2 : Int32)]) X hw (c_X5_refuse l (ad := ad) (aN := (adN 0)) (aK := aK) (aD := aD) (aS := (adS 0)) (aT := aT) (aL := aL) (aE := aE) h26) rfl kM_X5_refuse ki_X5_refuse ks_X5_refuse km_X5_62 ⟨(Nat.le_of_ble_eq_true rfl), (Nat.le_of_ble_eq_true rfl)⟩ ⟨(Nat.le_of_ble_eq_true rfl), (Nat.le_of_ble_eq_true rfl)⟩ rfl rfl ⟨_, _, _, _, rfl, rfl, rfl, rfl⟩ rfl hl.1 rfl (Nat.le_of_ble_eq_true rfl) dX5_show_26) hw rfl rfl (fun _ => (Nat.le_of_ble_eq_true rfl)) (fun _ => rfl) rfl rfl (fun _ H locs hw => ?_)
    have h := Option.some.inj h
    subst h
    exact hret () dX5_show_29 rfl hw
  unfold M_X5_show at h
  refine lv_iload_n hx hb dX5_show_0 rfl (lv_at hl 1 rfl) ?_
  obtain ⟨r1, h1, h⟩ := bnd h
  refine g_calli0 (isC := []) (gn := fun _ => [wRO g ad (adN 0) aK aD (adS 0) aT aL aE ro, wEV g adN nw, wSH g adS sh]) (g_runSN (isC := []) (rest := []) (As := [.int p1]) X hw (c_X3_isShelf l h1) rfl kM_X3_isShelf kt_X3_isShelf km_X5_58 ⟨(Nat.le_of_ble_eq_true rfl), (Nat.le_of_ble_eq_true rfl)⟩ ⟨(Nat.le_of_ble_eq_true rfl), (Nat.le_of_ble_eq_true rfl)⟩ rfl rfl rfl hl.1 rfl (Nat.le_of_ble_eq_true rfl) dX5_show_1) hw rfl rfl (fun _ => (Nat.le_of_ble_eq_true rfl)) (fun _ => rfl) rfl rfl (fun _ H locs hw => ?_)
  refine lv_if_eq (tgt := 23) hx hb dX5_show_4 (by decide) (fun k4 => ?_) (fun k4 => ?_)
  · have h := itt k4 h
    exact J23 _ h _ _ _ hw (lv_sub hl [0] rfl)
  · have h := itf k4 h
    refine lv_iload_n hx hb dX5_show_7 rfl (lv_at hl 2 rfl) ?_
    refine lv_iconst (v := -1) hx hb dX5_show_8 (by decide) ?_
    refine lv_icmp_eq (tgt := 30) hx hb dX5_show_9 (by decide) (fun k9 => ?_) (fun k9 => ?_)
    · have h := itt k9 h
      exact J30 _ h _ _ _ hw (lv_sub hl [0, 1, 2] rfl)
    · have h := itf k9 h
      refine lv_aload_n hx hb dX5_show_12 rfl (lv_at hl 0 rfl) ?_
      refine RO_g_now X hw 0 rfl kf_X5_12 dX5_show_13 ?_
      refine lv_iload_n hx hb dX5_show_16 rfl (lv_at hl 2 rfl) ?_
      obtain ⟨r17, h17, h⟩ := bnd h
      refine g_calli0 (isC := [1]) (gn := fun _ => [wRO g ad (adN 0) aK aD (adS 0) aT aL aE ro, wEV g adN nw, wSH g adS sh]) (g_runVN (isC := [1]) (rest := []) (As := [.int p2]) X hw (c_X0_hasBar l (ad := adN) h17) rfl kM_X0_hasBar ki_X0_hasBar ks_X0_hasBar km_X5_99 ⟨(Nat.le_of_ble_eq_true rfl), (Nat.le_of_ble_eq_true rfl)⟩ ⟨(Nat.le_of_ble_eq_true rfl), (Nat.le_of_ble_eq_true rfl)⟩ rfl rfl ⟨_, _, _, _, rfl, rfl, rfl, rfl⟩ rfl hl.1 rfl (Nat.le_of_ble_eq_true rfl) dX5_show_17) hw rfl rfl (fun _ => (Nat.le_of_ble_eq_true rfl)) (fun _ => rfl) rfl rfl (fun _ H locs hw => ?_)
      refine lv_if_ne (tgt := 30) hx hb dX5_show_20 (by decide) (fun k20 => ?_) (fun k20 => ?_)
      · have h := itt k20 h
        exact J30 _ h _ _ _ hw (lv_sub hl [0, 1, 2] rfl)
      · have h := itf (fun z => z k20) h
        exact J23 _ h _ _ _ hw (lv_sub hl [0] rfl)
theorem kM_X5_bar : kM yX5_bar cX5_bar 3 (some FieldType.int) 2 := ⟨kc_X5_bar, kn_RingsOff, by decide +kernel⟩
abbrev R_X5_bar : Room := { frames := 1, cells := 0, slots := 0, locals := 24 }
set_option maxHeartbeats 4000000 in
set_option maxRecDepth 100000 in
theorem c_X5_bar (l : Launch) {ad : Nat → Nat} {adN : Nat → Nat} {aK : Nat} {aD : Nat} {aS : Nat} {aT : Nat} {aL : Nat} {aE : Nat} {N : Nat} {ro : RO} {nw : EV} {p1 : Int32} {p2 : Int32} {out : Int32 × RO × EV} (h : M_X5_bar N ro nw p1 p2 = some out) : gM l yX5_bar cX5_bar 3 (some FieldType.int) R_X5_bar (fun _ => [.ref (ad 0), .int p1, .int p2]) (fun g => [wRO g ad (adN 0) aK aD aS aT aL aE ro, wEV g adN nw]) (gQi (fun (_ : Unit) => out.1) (fun g (_ : Unit) => [wRO g ad (adN 0) aK aD aS aT aL aE out.2.1, wEV g adN out.2.2])) := by
  refine gM.ofi (by decide +kernel) (fun _ => Nat.le_of_ble_eq_true rfl) (fun g p e s m args below meth c A ls Q X hret hw hl => ?_)
  have hx := X.1.1
  have hb := X.1.2.1
  have hl : lv_has ls 3 [(0, .ref (ad 0)), (1, .int p1), (2, .int p2)] := hl
  have J20 : ∀ (z20 : RO × EV), M_X5_bar_j20 N p1 p2 z20 = some out → ∀ (H : Heap) (locs : List Loc) (ls : Array Slot), gW g A s.heap [wRO g ad (adN 0) aK aD aS aT aL aE z20.1, wEV g adN z20.2] H locs → lv_has ls 3 [(0, .ref (ad 0))] → W p l e R_X5_bar s m args below meth c H locs 0 0 Q (F0 m 20 ls []) := by
    intro z20 h H locs ls hw hl
    unfold M_X5_bar_j20 at h
    refine lv_aload_n hx hb dX5_bar_20 rfl (lv_at hl 0 rfl) ?_
    refine lv_bipush (v := -2) hx hb dX5_bar_21 (by decide) ?_
    obtain ⟨r23, h23, h⟩ := bnd h
    refine g_calli0 (isC := [0]) (gn := fun _ => [wRO g ad (adN 0) aK aD aS aT aL aE r23.2, wEV g adN z20.2]) (g_runV (isC := [0]) (rest := []) (As := [.int (-2 : Int32)]) X hw (c_X5_refuse l (ad := ad) (aN := (adN 0)) (aK := aK) (aD := aD) (aS := aS) (aT := aT) (aL := aL) (aE := aE) h23) rfl kM_X5_refuse ki_X5_refuse ks_X5_refuse km_X5_62 ⟨(Nat.le_of_ble_eq_true rfl), (Nat.le_of_ble_eq_true rfl)⟩ ⟨(Nat.le_of_ble_eq_true rfl), (Nat.le_of_ble_eq_true rfl)⟩ rfl rfl ⟨_, _, _, _, rfl, rfl, rfl, rfl⟩ rfl hl.1 rfl (Nat.le_of_ble_eq_true rfl) dX5_bar_23) hw rfl rfl (fun _ => (Nat.le_of_ble_eq_true rfl)) (fun _ => rfl) rfl rfl (fun _ H locs hw => ?_)
    have h := Option.some.inj h
    subst h
    exact hret () dX5_bar_26 rfl hw
  unfold M_X5_bar at h
  refine lv_iload_n hx hb dX5_bar_0 rfl (lv_at hl 1 rfl) ?_
  refine lv_if_lt (tgt := 20) hx hb dX5_bar_1 (by decide) (fun k1 => ?_) (fun k1 => ?_)
  · have h := itt k1 h
    exact J20 _ h _ _ _ hw (lv_sub hl [0] rfl)
  · have h := itf k1 h
    refine lv_iload_n hx hb dX5_bar_4 rfl (lv_at hl 1 rfl) ?_
    refine lv_iconst (v := 5) hx hb dX5_bar_5 (by decide) ?_
    refine lv_icmp_gt (tgt := 20) hx hb dX5_bar_6 (by decide) (fun k6 => ?_) (fun k6 => ?_)
    · have h := itt k6 h
      exact J20 _ h _ _ _ hw (lv_sub hl [0] rfl)
    · have h := itf k6 h
      refine lv_iload_n hx hb dX5_bar_9 rfl (lv_at hl 2 rfl) ?_
      refine lv_iconst (v := 1) hx hb dX5_bar_10 (by decide) ?_
      refine lv_icmp_lt (tgt := 20) hx hb dX5_bar_11 (by decide) (fun k11 => ?_) (fun k11 => ?_)
      · have h := itt k11 h
        exact J20 _ h _ _ _ hw (lv_sub hl [0] rfl)
      · have h := itf k11 h
        refine lv_iload_n hx hb dX5_bar_14 rfl (lv_at hl 2 rfl) ?_
        refine lv_bipush (v := 10) hx hb dX5_bar_15 (by decide) ?_
        refine lv_icmp_le (tgt := 27) hx hb dX5_bar_17 (by decide) (fun k17 => ?_) (fun k17 => ?_)
        · have h := itt k17 h
          refine lv_aload_n hx hb dX5_bar_27 rfl (lv_at hl 0 rfl) ?_
          refine RO_g_now X hw 0 rfl kf_X5_12 dX5_bar_28 ?_
          obtain ⟨r31, h31, h⟩ := bnd h
          refine g_calli0 (isC := [1]) (gn := fun _ => [wRO g ad (adN 0) aK aD aS aT aL aE ro, wEV g adN nw]) (g_runVN (isC := [1]) (rest := []) (As := []) X hw (c_X0_hasMostBars l (ad := adN) h31) rfl kM_X0_hasMostBars ki_X0_hasMostBars ks_X0_hasMostBars km_X5_157 ⟨(Nat.le_of_ble_eq_true rfl), (Nat.le_of_ble_eq_true rfl)⟩ ⟨(Nat.le_of_ble_eq_true rfl), (Nat.le_of_ble_eq_true rfl)⟩ rfl rfl ⟨_, _, _, _, rfl, rfl, rfl, rfl⟩ rfl hl.1 rfl (Nat.le_of_ble_eq_true rfl) dX5_bar_31) hw rfl rfl (fun _ => (Nat.le_of_ble_eq_true rfl)) (fun _ => rfl) rfl rfl (fun _ H locs hw => ?_)
          refine lv_if_eq (tgt := 44) hx hb dX5_bar_34 (by decide) (fun k34 => ?_) (fun k34 => ?_)
          · have h := itt k34 h
            refine lv_aload_n hx hb dX5_bar_44 rfl (lv_at hl 0 rfl) ?_
            refine RO_g_now X hw 0 rfl kf_X5_12 dX5_bar_45 ?_
            refine lv_iload_n hx hb dX5_bar_48 rfl (lv_at hl 1 rfl) ?_
            refine lv_iload_n hx hb dX5_bar_49 rfl (lv_at hl 2 rfl) ?_
            obtain ⟨r50, h50, h⟩ := bnd h
            refine g_calli0 (isC := [1]) (gn := fun _ => [wRO g ad (adN 0) aK aD aS aT aL aE ro, wEV g adN r50.2]) (g_runVN (isC := [1]) (rest := []) (As := [.int p1, .int p2]) X hw (c_X0_addBar l (ad := adN) h50) rfl kM_X0_addBar ki_X0_addBar ks_X0_addBar km_X5_161 ⟨(Nat.le_of_ble_eq_true rfl), (Nat.le_of_ble_eq_true rfl)⟩ ⟨(Nat.le_of_ble_eq_true rfl), (Nat.le_of_ble_eq_true rfl)⟩ rfl rfl ⟨_, _, _, _, rfl, rfl, rfl, rfl⟩ rfl hl.1 rfl (Nat.le_of_ble_eq_true rfl) dX5_bar_50) hw rfl rfl (fun _ => (Nat.le_of_ble_eq_true rfl)) (fun _ => rfl) rfl rfl (fun _ H locs hw => ?_)
            have h := Option.some.inj h
            subst h
            exact hret () dX5_bar_53 rfl hw
          · have h := itf k34 h
            refine lv_aload_n hx hb dX5_bar_37 rfl (lv_at hl 0 rfl) ?_
            refine lv_bipush (v := -6) hx hb dX5_bar_38 (by decide) ?_
            obtain ⟨r40, h40, h⟩ := bnd h
            refine g_calli0 (isC := [0]) (gn := fun _ => [wRO g ad (adN 0) aK aD aS aT aL aE r40.2, wEV g adN nw]) (g_runV (isC := [0]) (rest := []) (As := [.int (-6 : Int32)]) X hw (c_X5_refuse l (ad := ad) (aN := (adN 0)) (aK := aK) (aD := aD) (aS := aS) (aT := aT) (aL := aL) (aE := aE) h40) rfl kM_X5_refuse ki_X5_refuse ks_X5_refuse km_X5_62 ⟨(Nat.le_of_ble_eq_true rfl), (Nat.le_of_ble_eq_true rfl)⟩ ⟨(Nat.le_of_ble_eq_true rfl), (Nat.le_of_ble_eq_true rfl)⟩ rfl rfl ⟨_, _, _, _, rfl, rfl, rfl, rfl⟩ rfl hl.1 rfl (Nat.le_of_ble_eq_true rfl) dX5_bar_40) hw rfl rfl (fun _ => (Nat.le_of_ble_eq_true rfl)) (fun _ => rfl) rfl rfl (fun _ H locs hw => ?_)
            have h := Option.some.inj h
            subst h
            exact hret () dX5_bar_43 rfl hw
        · have h := itf k17 h
          exact J20 _ h _ _ _ hw (lv_sub hl [0] rfl)
theorem kM_X5_put : kM yX5_put cX5_put 4 (some FieldType.int) 2 := ⟨kc_X5_put, kn_RingsOff, by decide +kernel⟩
abbrev R_X5_put : Room := { frames := 2, cells := 0, slots := 0, locals := 44 }
set_option maxHeartbeats 4000000 in
set_option maxRecDepth 100000 in
theorem c_X5_put (l : Launch) {ad : Nat → Nat} {adN : Nat → Nat} {aK : Nat} {aD : Nat} {aS : Nat} {aT : Nat} {aL : Nat} {aE : Nat} {N : Nat} {ro : RO} {nw : EV} {p1 : Int32} {p2 : Int32} {out : Int32 × RO × EV} (h : M_X5_put N ro nw p1 p2 = some out) : gM l yX5_put cX5_put 4 (some FieldType.int) R_X5_put (fun _ => [.ref (ad 0), .int p1, .int p2]) (fun g => [wRO g ad (adN 0) aK aD aS aT aL aE ro, wEV g adN nw]) (gQi (fun (_ : Unit) => out.1) (fun g (_ : Unit) => [wRO g ad (adN 0) aK aD aS aT aL aE out.2.1, wEV g adN out.2.2])) := by
  refine gM.ofi (by decide +kernel) (fun _ => Nat.le_of_ble_eq_true rfl) (fun g p e s m args below meth c A ls Q X hret hw hl => ?_)
  have hx := X.1.1
  have hb := X.1.2.1
  have hl : lv_has ls 4 [(0, .ref (ad 0)), (1, .int p1), (2, .int p2)] := hl
  unfold M_X5_put at h
  refine lv_aload_n hx hb dX5_put_0 rfl (lv_at hl 0 rfl) ?_
  refine RO_g_now X hw 0 rfl kf_X5_12 dX5_put_1 ?_
  refine lv_iload_n hx hb dX5_put_4 rfl (lv_at hl 1 rfl) ?_
  refine lv_iload_n hx hb dX5_put_5 rfl (lv_at hl 2 rfl) ?_
  refine lv_i2l (v := p2.toInt64) hx hb dX5_put_6 rfl ?_
  obtain ⟨r7, h7, h⟩ := bnd h
  refine g_calli0 (isC := [1]) (gn := fun _ => [wRO g ad (adN 0) aK aD aS aT aL aE ro, wEV g adN nw]) (g_runVN (isC := [1]) (rest := []) (As := [.int p1, .long p2.toInt64]) X hw (c_X0_hasSet l (ad := adN) h7) rfl kM_X0_hasSet ki_X0_hasSet ks_X0_hasSet km_X5_164 ⟨(Nat.le_of_ble_eq_true rfl), (Nat.le_of_ble_eq_true rfl)⟩ ⟨(Nat.le_of_ble_eq_true rfl), (Nat.le_of_ble_eq_true rfl)⟩ rfl rfl ⟨_, _, _, _, rfl, rfl, rfl, rfl⟩ rfl hl.1 rfl (Nat.le_of_ble_eq_true rfl) dX5_put_7) hw rfl rfl (fun _ => (Nat.le_of_ble_eq_true rfl)) (fun _ => rfl) rfl rfl (fun _ H locs hw => ?_)
  refine lv_if_ne (tgt := 20) hx hb dX5_put_10 (by decide) (fun k10 => ?_) (fun k10 => ?_)
  · have h := itt k10 h
    refine lv_aload_n hx hb dX5_put_20 rfl (lv_at hl 0 rfl) ?_
    refine RO_g_now X hw 0 rfl kf_X5_12 dX5_put_21 ?_
    refine lv_iload_n hx hb dX5_put_24 rfl (lv_at hl 1 rfl) ?_
    obtain ⟨r25, h25, h⟩ := bnd h
    refine g_calli0 (isC := [1]) (gn := fun _ => [wRO g ad (adN 0) aK aD aS aT aL aE ro, wEV g adN nw]) (g_runVN (isC := [1]) (rest := []) (As := [.int p1]) X hw (c_X0_onOf l (ad := adN) h25) rfl kM_X0_onOf ki_X0_onOf ks_X0_onOf km_X5_122 ⟨(Nat.le_of_ble_eq_true rfl), (Nat.le_of_ble_eq_true rfl)⟩ ⟨(Nat.le_of_ble_eq_true rfl), (Nat.le_of_ble_eq_true rfl)⟩ rfl rfl ⟨_, _, _, _, rfl, rfl, rfl, rfl⟩ rfl hl.1 rfl (Nat.le_of_ble_eq_true rfl) dX5_put_25) hw rfl rfl (fun _ => (Nat.le_of_ble_eq_true rfl)) (fun _ => rfl) rfl rfl (fun _ H locs hw => ?_)
    refine lv_istore_n (lv' := [(3, .int r25), (0, .ref (ad 0)), (1, .int p1), (2, .int p2)]) hx hb dX5_put_28 rfl hl (by decide) rfl (fun ls hl => ?_)
    refine lv_aload_n hx hb dX5_put_29 rfl (lv_at hl 1 rfl) ?_
    refine RO_g_now X hw 0 rfl kf_X5_12 dX5_put_30 ?_
    refine lv_iload_n hx hb dX5_put_33 rfl (lv_at hl 2 rfl) ?_
    refine lv_iload_n hx hb dX5_put_34 rfl (lv_at hl 3 rfl) ?_
    obtain ⟨r35, h35, h⟩ := bnd h
    refine g_callv0 (isC := [1]) (gn := fun _ => [wRO g ad (adN 0) aK aD aS aT aL aE ro, wEV g adN r35]) (g_runVN (isC := [1]) (rest := []) (As := [.int p1, .int p2]) X hw (c_X0_turnOn l (ad := adN) h35) rfl kM_X0_turnOn ki_X0_turnOn ks_X0_turnOn km_X5_168 ⟨(Nat.le_of_ble_eq_true rfl), (Nat.le_of_ble_eq_true rfl)⟩ ⟨(Nat.le_of_ble_eq_true rfl), (Nat.le_of_ble_eq_true rfl)⟩ rfl rfl ⟨_, _, _, _, rfl, rfl, rfl, rfl⟩ rfl hl.1 rfl (Nat.le_of_ble_eq_true rfl) dX5_put_35) hw rfl rfl (fun _ => (Nat.le_of_ble_eq_true rfl)) (fun _ => rfl) rfl rfl (fun _ H locs hw => ?_)
    refine lv_iload_n hx hb dX5_put_38 rfl (lv_at hl 0 rfl) ?_
    have h := Option.some.inj h
    subst h
    exact hret () dX5_put_39 rfl hw
  · have h := itf (fun z => z k10) h
    refine lv_aload_n hx hb dX5_put_13 rfl (lv_at hl 0 rfl) ?_
    refine lv_bipush (v := -2) hx hb dX5_put_14 (by decide) ?_
    obtain ⟨r16, h16, h⟩ := bnd h
    refine g_calli0 (isC := [0]) (gn := fun _ => [wRO g ad (adN 0) aK aD aS aT aL aE r16.2, wEV g adN nw]) (g_runV (isC := [0]) (rest := []) (As := [.int (-2 : Int32)]) X hw (c_X5_refuse l (ad := ad) (aN := (adN 0)) (aK := aK) (aD := aD) (aS := aS) (aT := aT) (aL := aL) (aE := aE) h16) rfl kM_X5_refuse ki_X5_refuse ks_X5_refuse km_X5_62 ⟨(Nat.le_of_ble_eq_true rfl), (Nat.le_of_ble_eq_true rfl)⟩ ⟨(Nat.le_of_ble_eq_true rfl), (Nat.le_of_ble_eq_true rfl)⟩ rfl rfl ⟨_, _, _, _, rfl, rfl, rfl, rfl⟩ rfl hl.1 rfl (Nat.le_of_ble_eq_true rfl) dX5_put_16) hw rfl rfl (fun _ => (Nat.le_of_ble_eq_true rfl)) (fun _ => rfl) rfl rfl (fun _ H locs hw => ?_)
    have h := Option.some.inj h
    subst h
    exact hret () dX5_put_19 rfl hw
theorem kM_X5_stick : kM yX5_stick cX5_stick 4 (some FieldType.int) 2 := ⟨kc_X5_stick, kn_RingsOff, by decide +kernel⟩
abbrev R_X5_stick : Room := { frames := 2, cells := 0, slots := 0, locals := 44 }
set_option maxHeartbeats 4000000 in
set_option maxRecDepth 100000 in
theorem c_X5_stick (l : Launch) {ad : Nat → Nat} {adN : Nat → Nat} {aK : Nat} {aD : Nat} {aS : Nat} {aT : Nat} {aL : Nat} {aE : Nat} {N : Nat} {ro : RO} {nw : EV} {p1 : Int32} {p2 : Int32} {out : Int32 × RO × EV} (h : M_X5_stick N ro nw p1 p2 = some out) : gM l yX5_stick cX5_stick 4 (some FieldType.int) R_X5_stick (fun _ => [.ref (ad 0), .int p1, .int p2]) (fun g => [wRO g ad (adN 0) aK aD aS aT aL aE ro, wEV g adN nw]) (gQi (fun (_ : Unit) => out.1) (fun g (_ : Unit) => [wRO g ad (adN 0) aK aD aS aT aL aE out.2.1, wEV g adN out.2.2])) := by
  refine gM.ofi (by decide +kernel) (fun _ => Nat.le_of_ble_eq_true rfl) (fun g p e s m args below meth c A ls Q X hret hw hl => ?_)
  have hx := X.1.1
  have hb := X.1.2.1
  have hl : lv_has ls 4 [(0, .ref (ad 0)), (1, .int p1), (2, .int p2)] := hl
  unfold M_X5_stick at h
  refine lv_aload_n hx hb dX5_stick_0 rfl (lv_at hl 0 rfl) ?_
  refine RO_g_now X hw 0 rfl kf_X5_12 dX5_stick_1 ?_
  refine lv_iload_n hx hb dX5_stick_4 rfl (lv_at hl 1 rfl) ?_
  refine lv_iload_n hx hb dX5_stick_5 rfl (lv_at hl 2 rfl) ?_
  refine lv_i2l (v := p2.toInt64) hx hb dX5_stick_6 rfl ?_
  obtain ⟨r7, h7, h⟩ := bnd h
  refine g_calli0 (isC := [1]) (gn := fun _ => [wRO g ad (adN 0) aK aD aS aT aL aE ro, wEV g adN nw]) (g_runVN (isC := [1]) (rest := []) (As := [.int p1, .long p2.toInt64]) X hw (c_X0_hasSet l (ad := adN) h7) rfl kM_X0_hasSet ki_X0_hasSet ks_X0_hasSet km_X5_164 ⟨(Nat.le_of_ble_eq_true rfl), (Nat.le_of_ble_eq_true rfl)⟩ ⟨(Nat.le_of_ble_eq_true rfl), (Nat.le_of_ble_eq_true rfl)⟩ rfl rfl ⟨_, _, _, _, rfl, rfl, rfl, rfl⟩ rfl hl.1 rfl (Nat.le_of_ble_eq_true rfl) dX5_stick_7) hw rfl rfl (fun _ => (Nat.le_of_ble_eq_true rfl)) (fun _ => rfl) rfl rfl (fun _ H locs hw => ?_)
  refine lv_if_ne (tgt := 20) hx hb dX5_stick_10 (by decide) (fun k10 => ?_) (fun k10 => ?_)
  · have h := itt k10 h
    refine lv_aload_n hx hb dX5_stick_20 rfl (lv_at hl 0 rfl) ?_
    refine RO_g_now X hw 0 rfl kf_X5_12 dX5_stick_21 ?_
    refine lv_iload_n hx hb dX5_stick_24 rfl (lv_at hl 1 rfl) ?_
    obtain ⟨r25, h25, h⟩ := bnd h
    refine g_calli0 (isC := [1]) (gn := fun _ => [wRO g ad (adN 0) aK aD aS aT aL aE ro, wEV g adN nw]) (g_runVN (isC := [1]) (rest := []) (As := [.int p1]) X hw (c_X0_stuckOf l (ad := adN) h25) rfl kM_X0_stuckOf ki_X0_stuckOf ks_X0_stuckOf km_X5_171 ⟨(Nat.le_of_ble_eq_true rfl), (Nat.le_of_ble_eq_true rfl)⟩ ⟨(Nat.le_of_ble_eq_true rfl), (Nat.le_of_ble_eq_true rfl)⟩ rfl rfl ⟨_, _, _, _, rfl, rfl, rfl, rfl⟩ rfl hl.1 rfl (Nat.le_of_ble_eq_true rfl) dX5_stick_25) hw rfl rfl (fun _ => (Nat.le_of_ble_eq_true rfl)) (fun _ => rfl) rfl rfl (fun _ H locs hw => ?_)
    refine lv_istore_n (lv' := [(3, .int r25), (0, .ref (ad 0)), (1, .int p1), (2, .int p2)]) hx hb dX5_stick_28 rfl hl (by decide) rfl (fun ls hl => ?_)
    refine lv_aload_n hx hb dX5_stick_29 rfl (lv_at hl 1 rfl) ?_
    refine RO_g_now X hw 0 rfl kf_X5_12 dX5_stick_30 ?_
    refine lv_iload_n hx hb dX5_stick_33 rfl (lv_at hl 2 rfl) ?_
    refine lv_iload_n hx hb dX5_stick_34 rfl (lv_at hl 3 rfl) ?_
    obtain ⟨r35, h35, h⟩ := bnd h
    refine g_callv0 (isC := [1]) (gn := fun _ => [wRO g ad (adN 0) aK aD aS aT aL aE ro, wEV g adN r35]) (g_runVN (isC := [1]) (rest := []) (As := [.int p1, .int p2]) X hw (c_X0_fasten l (ad := adN) h35) rfl kM_X0_fasten ki_X0_fasten ks_X0_fasten km_X5_174 ⟨(Nat.le_of_ble_eq_true rfl), (Nat.le_of_ble_eq_true rfl)⟩ ⟨(Nat.le_of_ble_eq_true rfl), (Nat.le_of_ble_eq_true rfl)⟩ rfl rfl ⟨_, _, _, _, rfl, rfl, rfl, rfl⟩ rfl hl.1 rfl (Nat.le_of_ble_eq_true rfl) dX5_stick_35) hw rfl rfl (fun _ => (Nat.le_of_ble_eq_true rfl)) (fun _ => rfl) rfl rfl (fun _ H locs hw => ?_)
    refine lv_iload_n hx hb dX5_stick_38 rfl (lv_at hl 0 rfl) ?_
    have h := Option.some.inj h
    subst h
    exact hret () dX5_stick_39 rfl hw
  · have h := itf (fun z => z k10) h
    refine lv_aload_n hx hb dX5_stick_13 rfl (lv_at hl 0 rfl) ?_
    refine lv_bipush (v := -2) hx hb dX5_stick_14 (by decide) ?_
    obtain ⟨r16, h16, h⟩ := bnd h
    refine g_calli0 (isC := [0]) (gn := fun _ => [wRO g ad (adN 0) aK aD aS aT aL aE r16.2, wEV g adN nw]) (g_runV (isC := [0]) (rest := []) (As := [.int (-2 : Int32)]) X hw (c_X5_refuse l (ad := ad) (aN := (adN 0)) (aK := aK) (aD := aD) (aS := aS) (aT := aT) (aL := aL) (aE := aE) h16) rfl kM_X5_refuse ki_X5_refuse ks_X5_refuse km_X5_62 ⟨(Nat.le_of_ble_eq_true rfl), (Nat.le_of_ble_eq_true rfl)⟩ ⟨(Nat.le_of_ble_eq_true rfl), (Nat.le_of_ble_eq_true rfl)⟩ rfl rfl ⟨_, _, _, _, rfl, rfl, rfl, rfl⟩ rfl hl.1 rfl (Nat.le_of_ble_eq_true rfl) dX5_stick_16) hw rfl rfl (fun _ => (Nat.le_of_ble_eq_true rfl)) (fun _ => rfl) rfl rfl (fun _ H locs hw => ?_)
    have h := Option.some.inj h
    subst h
    exact hret () dX5_stick_19 rfl hw
theorem kM_X5_table : kM yX5_table cX5_table 5 (some FieldType.int) 4 := ⟨kc_X5_table, kn_RingsOff, by decide +kernel⟩
abbrev R_X5_table : Room := { frames := 3, cells := 0, slots := 0, locals := 67 }
set_option maxHeartbeats 4000000 in
set_option maxRecDepth 100000 in
theorem c_X5_table (l : Launch) {ad : Nat → Nat} {adN : Nat → Nat} {aK : Nat} {aD : Nat} {aS : Nat} {aT : Nat} {aL : Nat} {aE : Nat} {N : Nat} {ro : RO} {nw : EV} {p1 : Int32} {p2 : Int32} {p3 : Int32} {p4 : Int32} {out : Int32 × RO × EV} (h : M_X5_table N ro nw p1 p2 p3 p4 = some out) : gM l yX5_table cX5_table 5 (some FieldType.int) R_X5_table (fun _ => [.ref (ad 0), .int p1, .int p2, .int p3, .int p4]) (fun g => [wRO g ad (adN 0) aK aD aS aT aL aE ro, wEV g adN nw]) (gQi (fun (_ : Unit) => out.1) (fun g (_ : Unit) => [wRO g ad (adN 0) aK aD aS aT aL aE out.2.1, wEV g adN out.2.2])) := by
  refine gM.ofi (by decide +kernel) (fun _ => Nat.le_of_ble_eq_true rfl) (fun g p e s m args below meth c A ls Q X hret hw hl => ?_)
  have hx := X.1.1
  have hb := X.1.2.1
  have hl : lv_has ls 5 [(0, .ref (ad 0)), (1, .int p1), (2, .int p2), (3, .int p3), (4, .int p4)] := hl
  have J39 : ∀ (z39 : RO × EV), M_X5_table_j39 N p1 p2 p3 p4 z39 = some out → ∀ (H : Heap) (locs : List Loc) (ls : Array Slot), gW g A s.heap [wRO g ad (adN 0) aK aD aS aT aL aE z39.1, wEV g adN z39.2] H locs → lv_has ls 5 [(0, .ref (ad 0))] → W p l e R_X5_table s m args below meth c H locs 0 0 Q (F0 m 39 ls []) := by
    intro z39 h H locs ls hw hl
    unfold M_X5_table_j39 at h
    refine lv_aload_n hx hb dX5_table_39 rfl (lv_at hl 0 rfl) ?_
    refine lv_bipush (v := -2) hx hb dX5_table_40 (by decide) ?_
    obtain ⟨r42, h42, h⟩ := bnd h
    refine g_calli0 (isC := [0]) (gn := fun _ => [wRO g ad (adN 0) aK aD aS aT aL aE r42.2, wEV g adN z39.2]) (g_runV (isC := [0]) (rest := []) (As := [.int (-2 : Int32)]) X hw (c_X5_refuse l (ad := ad) (aN := (adN 0)) (aK := aK) (aD := aD) (aS := aS) (aT := aT) (aL := aL) (aE := aE) h42) rfl kM_X5_refuse ki_X5_refuse ks_X5_refuse km_X5_62 ⟨(Nat.le_of_ble_eq_true rfl), (Nat.le_of_ble_eq_true rfl)⟩ ⟨(Nat.le_of_ble_eq_true rfl), (Nat.le_of_ble_eq_true rfl)⟩ rfl rfl ⟨_, _, _, _, rfl, rfl, rfl, rfl⟩ rfl hl.1 rfl (Nat.le_of_ble_eq_true rfl) dX5_table_42) hw rfl rfl (fun _ => (Nat.le_of_ble_eq_true rfl)) (fun _ => rfl) rfl rfl (fun _ H locs hw => ?_)
    have h := Option.some.inj h
    subst h
    exact hret () dX5_table_45 rfl hw
  unfold M_X5_table at h
  refine lv_aload_n hx hb dX5_table_0 rfl (lv_at hl 0 rfl) ?_
  refine RO_g_now X hw 0 rfl kf_X5_12 dX5_table_1 ?_
  refine lv_iload_n hx hb dX5_table_4 rfl (lv_at hl 1 rfl) ?_
  refine lv_iload_n hx hb dX5_table_5 rfl (lv_at hl 2 rfl) ?_
  obtain ⟨r6, h6, h⟩ := bnd h
  refine g_calli0 (isC := [1]) (gn := fun _ => [wRO g ad (adN 0) aK aD aS aT aL aE ro, wEV g adN nw]) (g_runVN (isC := [1]) (rest := []) (As := [.int p1, .int p2]) X hw (c_X0_hasRing l (ad := adN) h6) rfl kM_X0_hasRing ki_X0_hasRing ks_X0_hasRing km_X5_177 ⟨(Nat.le_of_ble_eq_true rfl), (Nat.le_of_ble_eq_true rfl)⟩ ⟨(Nat.le_of_ble_eq_true rfl), (Nat.le_of_ble_eq_true rfl)⟩ rfl rfl ⟨_, _, _, _, rfl, rfl, rfl, rfl⟩ rfl hl.1 rfl (Nat.le_of_ble_eq_true rfl) dX5_table_6) hw rfl rfl (fun _ => (Nat.le_of_ble_eq_true rfl)) (fun _ => rfl) rfl rfl (fun _ H locs hw => ?_)
  refine lv_if_eq (tgt := 39) hx hb dX5_table_9 (by decide) (fun k9 => ?_) (fun k9 => ?_)
  · have h := itt k9 h
    exact J39 _ h _ _ _ hw (lv_sub hl [0] rfl)
  · have h := itf k9 h
    refine lv_aload_n hx hb dX5_table_12 rfl (lv_at hl 0 rfl) ?_
    refine RO_g_now X hw 0 rfl kf_X5_12 dX5_table_13 ?_
    refine lv_iload_n hx hb dX5_table_16 rfl (lv_at hl 1 rfl) ?_
    refine lv_iload_n hx hb dX5_table_17 rfl (lv_at hl 3 rfl) ?_
    refine lv_i2l (v := p3.toInt64) hx hb dX5_table_18 rfl ?_
    obtain ⟨r19, h19, h⟩ := bnd h
    refine g_calli0 (isC := [1]) (gn := fun _ => [wRO g ad (adN 0) aK aD aS aT aL aE ro, wEV g adN nw]) (g_runVN (isC := [1]) (rest := []) (As := [.int p1, .long p3.toInt64]) X hw (c_X0_hasSet l (ad := adN) h19) rfl kM_X0_hasSet ki_X0_hasSet ks_X0_hasSet km_X5_164 ⟨(Nat.le_of_ble_eq_true rfl), (Nat.le_of_ble_eq_true rfl)⟩ ⟨(Nat.le_of_ble_eq_true rfl), (Nat.le_of_ble_eq_true rfl)⟩ rfl rfl ⟨_, _, _, _, rfl, rfl, rfl, rfl⟩ rfl hl.1 rfl (Nat.le_of_ble_eq_true rfl) dX5_table_19) hw rfl rfl (fun _ => (Nat.le_of_ble_eq_true rfl)) (fun _ => rfl) rfl rfl (fun _ H locs hw => ?_)
    refine lv_if_eq (tgt := 39) hx hb dX5_table_22 (by decide) (fun k22 => ?_) (fun k22 => ?_)
    · have h := itt k22 h
      exact J39 _ h _ _ _ hw (lv_sub hl [0] rfl)
    · have h := itf k22 h
      refine lv_aload_n hx hb dX5_table_25 rfl (lv_at hl 0 rfl) ?_
      refine RO_g_now X hw 0 rfl kf_X5_12 dX5_table_26 ?_
      refine lv_iload_n hx hb dX5_table_29 rfl (lv_at hl 1 rfl) ?_
      refine lv_iload hx hb dX5_table_30 (lv_at hl 4 rfl) ?_
      refine lv_i2l (v := p4.toInt64) hx hb dX5_table_32 rfl ?_
      obtain ⟨r33, h33, h⟩ := bnd h
      refine g_calli0 (isC := [1]) (gn := fun _ => [wRO g ad (adN 0) aK aD aS aT aL aE ro, wEV g adN nw]) (g_runVN (isC := [1]) (rest := []) (As := [.int p1, .long p4.toInt64]) X hw (c_X0_hasSet l (ad := adN) h33) rfl kM_X0_hasSet ki_X0_hasSet ks_X0_hasSet km_X5_164 ⟨(Nat.le_of_ble_eq_true rfl), (Nat.le_of_ble_eq_true rfl)⟩ ⟨(Nat.le_of_ble_eq_true rfl), (Nat.le_of_ble_eq_true rfl)⟩ rfl rfl ⟨_, _, _, _, rfl, rfl, rfl, rfl⟩ rfl hl.1 rfl (Nat.le_of_ble_eq_true rfl) dX5_table_33) hw rfl rfl (fun _ => (Nat.le_of_ble_eq_true rfl)) (fun _ => rfl) rfl rfl (fun _ H locs hw => ?_)
      refine lv_if_ne (tgt := 46) hx hb dX5_table_36 (by decide) (fun k36 => ?_) (fun k36 => ?_)
      · have h := itt k36 h
        refine lv_aload_n hx hb dX5_table_46 rfl (lv_at hl 0 rfl) ?_
        refine RO_g_now X hw 0 rfl kf_X5_12 dX5_table_47 ?_
        refine lv_iload_n hx hb dX5_table_50 rfl (lv_at hl 1 rfl) ?_
        obtain ⟨r51, h51, h⟩ := bnd h
        refine g_calli0 (isC := [1]) (gn := fun _ => [wRO g ad (adN 0) aK aD aS aT aL aE ro, wEV g adN nw]) (g_runVN (isC := [1]) (rest := []) (As := [.int p1]) X hw (c_X0_kindOf l (ad := adN) h51) rfl kM_X0_kindOf ki_X0_kindOf ks_X0_kindOf km_X5_116 ⟨(Nat.le_of_ble_eq_true rfl), (Nat.le_of_ble_eq_true rfl)⟩ ⟨(Nat.le_of_ble_eq_true rfl), (Nat.le_of_ble_eq_true rfl)⟩ rfl rfl ⟨_, _, _, _, rfl, rfl, rfl, rfl⟩ rfl hl.1 rfl (Nat.le_of_ble_eq_true rfl) dX5_table_51) hw rfl rfl (fun _ => (Nat.le_of_ble_eq_true rfl)) (fun _ => rfl) rfl rfl (fun _ H locs hw => ?_)
        refine lv_iconst (v := 5) hx hb dX5_table_54 (by decide) ?_
        refine lv_icmp_eq (tgt := 65) hx hb dX5_table_55 (by decide) (fun k55 => ?_) (fun k55 => ?_)
        · have h := itt k55 h
          refine lv_aload_n hx hb dX5_table_65 rfl (lv_at hl 0 rfl) ?_
          refine RO_g_now X hw 0 rfl kf_X5_12 dX5_table_66 ?_
          refine lv_iload_n hx hb dX5_table_69 rfl (lv_at hl 1 rfl) ?_
          refine lv_iload_n hx hb dX5_table_70 rfl (lv_at hl 2 rfl) ?_
          refine lv_iload_n hx hb dX5_table_71 rfl (lv_at hl 3 rfl) ?_
          refine lv_iload hx hb dX5_table_72 (lv_at hl 4 rfl) ?_
          obtain ⟨r74, h74, h⟩ := bnd h
          refine g_callv0 (isC := [1]) (gn := fun _ => [wRO g ad (adN 0) aK aD aS aT aL aE ro, wEV g adN r74]) (g_runVN (isC := [1]) (rest := []) (As := [.int p1, .int p2, .int p3, .int p4]) X hw (c_X0_tell l (ad := adN) h74) rfl kM_X0_tell ki_X0_tell ks_X0_tell km_X5_180 ⟨(Nat.le_of_ble_eq_true rfl), (Nat.le_of_ble_eq_true rfl)⟩ ⟨(Nat.le_of_ble_eq_true rfl), (Nat.le_of_ble_eq_true rfl)⟩ rfl rfl ⟨_, _, _, _, rfl, rfl, rfl, rfl⟩ rfl hl.1 rfl (Nat.le_of_ble_eq_true rfl) dX5_table_74) hw rfl rfl (fun _ => (Nat.le_of_ble_eq_true rfl)) (fun _ => rfl) rfl rfl (fun _ H locs hw => ?_)
          refine lv_iconst (v := 1) hx hb dX5_table_77 (by decide) ?_
          have h := Option.some.inj h
          subst h
          exact hret () dX5_table_78 rfl hw
        · have h := itf k55 h
          refine lv_aload_n hx hb dX5_table_58 rfl (lv_at hl 0 rfl) ?_
          refine lv_bipush (v := -5) hx hb dX5_table_59 (by decide) ?_
          obtain ⟨r61, h61, h⟩ := bnd h
          refine g_calli0 (isC := [0]) (gn := fun _ => [wRO g ad (adN 0) aK aD aS aT aL aE r61.2, wEV g adN nw]) (g_runV (isC := [0]) (rest := []) (As := [.int (-5 : Int32)]) X hw (c_X5_refuse l (ad := ad) (aN := (adN 0)) (aK := aK) (aD := aD) (aS := aS) (aT := aT) (aL := aL) (aE := aE) h61) rfl kM_X5_refuse ki_X5_refuse ks_X5_refuse km_X5_62 ⟨(Nat.le_of_ble_eq_true rfl), (Nat.le_of_ble_eq_true rfl)⟩ ⟨(Nat.le_of_ble_eq_true rfl), (Nat.le_of_ble_eq_true rfl)⟩ rfl rfl ⟨_, _, _, _, rfl, rfl, rfl, rfl⟩ rfl hl.1 rfl (Nat.le_of_ble_eq_true rfl) dX5_table_61) hw rfl rfl (fun _ => (Nat.le_of_ble_eq_true rfl)) (fun _ => rfl) rfl rfl (fun _ H locs hw => ?_)
          have h := Option.some.inj h
          subst h
          exact hret () dX5_table_64 rfl hw
      · have h := itf (fun z => z k36) h
        exact J39 _ h _ _ _ hw (lv_sub hl [0] rfl)
theorem kM_X5_minutes : kM yX5_minutes cX5_minutes 4 (some FieldType.int) 2 := ⟨kc_X5_minutes, kn_RingsOff, by decide +kernel⟩
abbrev R_X5_minutes : Room := { frames := 1, cells := 0, slots := 0, locals := 22 }
set_option maxHeartbeats 4000000 in
set_option maxRecDepth 100000 in
theorem c_X5_minutes (l : Launch) {ad : Nat → Nat} {adN : Nat → Nat} {aK : Nat} {aD : Nat} {aS : Nat} {aT : Nat} {aL : Nat} {aE : Nat} {N : Nat} {ro : RO} {nw : EV} {p1 : Int32} {p2 : Int32} {out : Int32 × RO × EV} (h : M_X5_minutes N ro nw p1 p2 = some out) : gM l yX5_minutes cX5_minutes 4 (some FieldType.int) R_X5_minutes (fun _ => [.ref (ad 0), .int p1, .int p2]) (fun g => [wRO g ad (adN 0) aK aD aS aT aL aE ro, wEV g adN nw]) (gQi (fun (_ : Unit) => out.1) (fun g (_ : Unit) => [wRO g ad (adN 0) aK aD aS aT aL aE out.2.1, wEV g adN out.2.2])) := by
  refine gM.ofi (by decide +kernel) (fun _ => Nat.le_of_ble_eq_true rfl) (fun g p e s m args below meth c A ls Q X hret hw hl => ?_)
  have hx := X.1.1
  have hb := X.1.2.1
  have hl : lv_has ls 4 [(0, .ref (ad 0)), (1, .int p1), (2, .int p2)] := hl
  have J20 : ∀ (z20 : RO × EV), M_X5_minutes_j20 N p1 p2 z20 = some out → ∀ (H : Heap) (locs : List Loc) (ls : Array Slot), gW g A s.heap [wRO g ad (adN 0) aK aD aS aT aL aE z20.1, wEV g adN z20.2] H locs → lv_has ls 4 [(0, .ref (ad 0))] → W p l e R_X5_minutes s m args below meth c H locs 0 0 Q (F0 m 20 ls []) := by
    intro z20 h H locs ls hw hl
    unfold M_X5_minutes_j20 at h
    refine lv_aload_n hx hb dX5_minutes_20 rfl (lv_at hl 0 rfl) ?_
    refine lv_bipush (v := -2) hx hb dX5_minutes_21 (by decide) ?_
    obtain ⟨r23, h23, h⟩ := bnd h
    refine g_calli0 (isC := [0]) (gn := fun _ => [wRO g ad (adN 0) aK aD aS aT aL aE r23.2, wEV g adN z20.2]) (g_runV (isC := [0]) (rest := []) (As := [.int (-2 : Int32)]) X hw (c_X5_refuse l (ad := ad) (aN := (adN 0)) (aK := aK) (aD := aD) (aS := aS) (aT := aT) (aL := aL) (aE := aE) h23) rfl kM_X5_refuse ki_X5_refuse ks_X5_refuse km_X5_62 ⟨(Nat.le_of_ble_eq_true rfl), (Nat.le_of_ble_eq_true rfl)⟩ ⟨(Nat.le_of_ble_eq_true rfl), (Nat.le_of_ble_eq_true rfl)⟩ rfl rfl ⟨_, _, _, _, rfl, rfl, rfl, rfl⟩ rfl hl.1 rfl (Nat.le_of_ble_eq_true rfl) dX5_minutes_23) hw rfl rfl (fun _ => (Nat.le_of_ble_eq_true rfl)) (fun _ => rfl) rfl rfl (fun _ H locs hw => ?_)
    have h := Option.some.inj h
    subst h
    exact hret () dX5_minutes_26 rfl hw
  unfold M_X5_minutes at h
  refine lv_iload_n hx hb dX5_minutes_0 rfl (lv_at hl 1 rfl) ?_
  refine lv_if_lt (tgt := 20) hx hb dX5_minutes_1 (by decide) (fun k1 => ?_) (fun k1 => ?_)
  · have h := itt k1 h
    exact J20 _ h _ _ _ hw (lv_sub hl [0] rfl)
  · have h := itf k1 h
    refine lv_iload_n hx hb dX5_minutes_4 rfl (lv_at hl 1 rfl) ?_
    refine lv_bipush (v := 10) hx hb dX5_minutes_5 (by decide) ?_
    refine lv_icmp_ge (tgt := 20) hx hb dX5_minutes_7 (by decide) (fun k7 => ?_) (fun k7 => ?_)
    · have h := itt k7 h
      exact J20 _ h _ _ _ hw (lv_sub hl [0] rfl)
    · have h := itf k7 h
      refine lv_iload_n hx hb dX5_minutes_10 rfl (lv_at hl 2 rfl) ?_
      refine lv_if_lt (tgt := 20) hx hb dX5_minutes_11 (by decide) (fun k11 => ?_) (fun k11 => ?_)
      · have h := itt k11 h
        exact J20 _ h _ _ _ hw (lv_sub hl [0] rfl)
      · have h := itf k11 h
        refine lv_iload_n hx hb dX5_minutes_14 rfl (lv_at hl 2 rfl) ?_
        refine lv_bipush (v := 99) hx hb dX5_minutes_15 (by decide) ?_
        refine lv_icmp_le (tgt := 27) hx hb dX5_minutes_17 (by decide) (fun k17 => ?_) (fun k17 => ?_)
        · have h := itt k17 h
          refine lv_aload_n hx hb dX5_minutes_27 rfl (lv_at hl 0 rfl) ?_
          refine RO_g_now X hw 0 rfl kf_X5_12 dX5_minutes_28 ?_
          refine lv_iload_n hx hb dX5_minutes_31 rfl (lv_at hl 1 rfl) ?_
          obtain ⟨r32, h32, h⟩ := bnd h
          refine g_calli0 (isC := [1]) (gn := fun _ => [wRO g ad (adN 0) aK aD aS aT aL aE ro, wEV g adN nw]) (g_runVN (isC := [1]) (rest := []) (As := [.int p1]) X hw (c_X0_minutesOf l (ad := adN) h32) rfl kM_X0_minutesOf ki_X0_minutesOf ks_X0_minutesOf km_X5_184 ⟨(Nat.le_of_ble_eq_true rfl), (Nat.le_of_ble_eq_true rfl)⟩ ⟨(Nat.le_of_ble_eq_true rfl), (Nat.le_of_ble_eq_true rfl)⟩ rfl rfl ⟨_, _, _, _, rfl, rfl, rfl, rfl⟩ rfl hl.1 rfl (Nat.le_of_ble_eq_true rfl) dX5_minutes_32) hw rfl rfl (fun _ => (Nat.le_of_ble_eq_true rfl)) (fun _ => rfl) rfl rfl (fun _ H locs hw => ?_)
          refine lv_istore_n (lv' := [(3, .int r32), (0, .ref (ad 0)), (1, .int p1), (2, .int p2)]) hx hb dX5_minutes_35 rfl hl (by decide) rfl (fun ls hl => ?_)
          refine lv_aload_n hx hb dX5_minutes_36 rfl (lv_at hl 1 rfl) ?_
          refine RO_g_now X hw 0 rfl kf_X5_12 dX5_minutes_37 ?_
          refine lv_iload_n hx hb dX5_minutes_40 rfl (lv_at hl 2 rfl) ?_
          refine lv_iload_n hx hb dX5_minutes_41 rfl (lv_at hl 3 rfl) ?_
          obtain ⟨r42, h42, h⟩ := bnd h
          refine g_callv0 (isC := [1]) (gn := fun _ => [wRO g ad (adN 0) aK aD aS aT aL aE ro, wEV g adN r42]) (g_runVN (isC := [1]) (rest := []) (As := [.int p1, .int p2]) X hw (c_X0_setMinutes l (ad := adN) h42) rfl kM_X0_setMinutes ki_X0_setMinutes ks_X0_setMinutes km_X5_187 ⟨(Nat.le_of_ble_eq_true rfl), (Nat.le_of_ble_eq_true rfl)⟩ ⟨(Nat.le_of_ble_eq_true rfl), (Nat.le_of_ble_eq_true rfl)⟩ rfl rfl ⟨_, _, _, _, rfl, rfl, rfl, rfl⟩ rfl hl.1 rfl (Nat.le_of_ble_eq_true rfl) dX5_minutes_42) hw rfl rfl (fun _ => (Nat.le_of_ble_eq_true rfl)) (fun _ => rfl) rfl rfl (fun _ H locs hw => ?_)
          refine lv_iload_n hx hb dX5_minutes_45 rfl (lv_at hl 0 rfl) ?_
          have h := Option.some.inj h
          subst h
          exact hret () dX5_minutes_46 rfl hw
        · have h := itf k17 h
          exact J20 _ h _ _ _ hw (lv_sub hl [0] rfl)
theorem kM_X5_barOf : kM yX5_barOf cX5_barOf 3 (some FieldType.int) 2 := ⟨kc_X5_barOf, kn_RingsOff, by decide +kernel⟩
abbrev R_X5_barOf : Room := { frames := 3, cells := 0, slots := 0, locals := 65 }
set_option maxHeartbeats 4000000 in
set_option maxRecDepth 100000 in
theorem c_X5_barOf (l : Launch) {ad : Nat → Nat} {adN : Nat → Nat} {aK : Nat} {aD : Nat} {aS : Nat} {aT : Nat} {aL : Nat} {aE : Nat} {N : Nat} {ro : RO} {nw : EV} {p1 : Int32} {p2 : Int32} {out : Int32 × RO} (h : M_X5_barOf N ro nw p1 p2 = some out) : gM l yX5_barOf cX5_barOf 3 (some FieldType.int) R_X5_barOf (fun _ => [.ref (ad 0), .int p1, .int p2]) (fun g => [wRO g ad (adN 0) aK aD aS aT aL aE ro, wEV g adN nw]) (gQi (fun (_ : Unit) => out.1) (fun g (_ : Unit) => [wRO g ad (adN 0) aK aD aS aT aL aE out.2, wEV g adN nw])) := by
  refine gM.ofi (by decide +kernel) (fun _ => Nat.le_of_ble_eq_true rfl) (fun g p e s m args below meth c A ls Q X hret hw hl => ?_)
  have hx := X.1.1
  have hb := X.1.2.1
  have hl : lv_has ls 3 [(0, .ref (ad 0)), (1, .int p1), (2, .int p2)] := hl
  have J152 : ∀ (z152 : RO), M_X5_barOf_j152 N nw p1 p2 z152 = some out → ∀ (H : Heap) (locs : List Loc) (ls : Array Slot), gW g A s.heap [wRO g ad (adN 0) aK aD aS aT aL aE z152, wEV g adN nw] H locs → lv_has ls 3 [(0, .ref (ad 0))] → W p l e R_X5_barOf s m args below meth c H locs 0 0 Q (F0 m 152 ls []) := by
    intro z152 h H locs ls hw hl
    unfold M_X5_barOf_j152 at h
    refine lv_aload_n hx hb dX5_barOf_152 rfl (lv_at hl 0 rfl) ?_
    refine lv_bipush (v := -2) hx hb dX5_barOf_153 (by decide) ?_
    obtain ⟨r155, h155, h⟩ := bnd h
    refine g_calli0 (isC := [0]) (gn := fun _ => [wRO g ad (adN 0) aK aD aS aT aL aE r155.2, wEV g adN nw]) (g_runV (isC := [0]) (rest := []) (As := [.int (-2 : Int32)]) X hw (c_X5_refuse l (ad := ad) (aN := (adN 0)) (aK := aK) (aD := aD) (aS := aS) (aT := aT) (aL := aL) (aE := aE) h155) rfl kM_X5_refuse ki_X5_refuse ks_X5_refuse km_X5_62 ⟨(Nat.le_of_ble_eq_true rfl), (Nat.le_of_ble_eq_true rfl)⟩ ⟨(Nat.le_of_ble_eq_true rfl), (Nat.le_of_ble_eq_true rfl)⟩ rfl rfl ⟨_, _, _, _, rfl, rfl, rfl, rfl⟩ rfl hl.1 rfl (Nat.le_of_ble_eq_true rfl) dX5_barOf_155) hw rfl rfl (fun _ => (Nat.le_of_ble_eq_true rfl)) (fun _ => rfl) rfl rfl (fun _ H locs hw => ?_)
    have h := Option.some.inj h
    subst h
    exact hret () dX5_barOf_158 rfl hw
  have J118 : ∀ (z118 : RO), M_X5_barOf_j118 N nw p1 p2 z118 = some out → ∀ (H : Heap) (locs : List Loc) (ls : Array Slot), gW g A s.heap [wRO g ad (adN 0) aK aD aS aT aL aE z118, wEV g adN nw] H locs → lv_has ls 3 [(0, .ref (ad 0)), (1, .int p1), (2, .int p2)] → W p l e R_X5_barOf s m args below meth c H locs 0 0 Q (F0 m 118 ls []) := by
    intro z118 h H locs ls hw hl
    unfold M_X5_barOf_j118 at h
    refine lv_iload_n hx hb dX5_barOf_118 rfl (lv_at hl 2 rfl) ?_
    refine lv_bipush (v := 10) hx hb dX5_barOf_119 (by decide) ?_
    refine lv_icmp_lt (tgt := 152) hx hb dX5_barOf_121 (by decide) (fun k121 => ?_) (fun k121 => ?_)
    · have h := itt k121 h
      exact J152 _ h _ _ _ hw (lv_sub hl [0] rfl)
    · have h := itf k121 h
      refine lv_aload_n hx hb dX5_barOf_124 rfl (lv_at hl 0 rfl) ?_
      refine RO_g_now X hw 0 rfl kf_X5_12 dX5_barOf_125 ?_
      refine lv_iload_n hx hb dX5_barOf_128 rfl (lv_at hl 1 rfl) ?_
      refine lv_iload_n hx hb dX5_barOf_129 rfl (lv_at hl 2 rfl) ?_
      refine lv_bipush (v := 10) hx hb dX5_barOf_130 (by decide) ?_
      refine lv_isub hx hb dX5_barOf_132 ?_
      obtain ⟨r133, h133, h⟩ := bnd h
      refine g_calli0 (isC := [1]) (gn := fun _ => [wRO g ad (adN 0) aK aD aS aT aL aE z118, wEV g adN nw]) (g_runVN (isC := [1]) (rest := []) (As := [.int p1, .int (p2 - (10 : Int32))]) X hw (c_X0_hasRing l (ad := adN) h133) rfl kM_X0_hasRing ki_X0_hasRing ks_X0_hasRing km_X5_177 ⟨(Nat.le_of_ble_eq_true rfl), (Nat.le_of_ble_eq_true rfl)⟩ ⟨(Nat.le_of_ble_eq_true rfl), (Nat.le_of_ble_eq_true rfl)⟩ rfl rfl ⟨_, _, _, _, rfl, rfl, rfl, rfl⟩ rfl hl.1 rfl (Nat.le_of_ble_eq_true rfl) dX5_barOf_133) hw rfl rfl (fun _ => (Nat.le_of_ble_eq_true rfl)) (fun _ => rfl) rfl rfl (fun _ H locs hw => ?_)
      refine lv_if_eq (tgt := 152) hx hb dX5_barOf_136 (by decide) (fun k136 => ?_) (fun k136 => ?_)
      · have h := itt k136 h
        exact J152 _ h _ _ _ hw (lv_sub hl [0] rfl)
      · have h := itf k136 h
        refine lv_aload_n hx hb dX5_barOf_139 rfl (lv_at hl 0 rfl) ?_
        refine RO_g_now X hw 0 rfl kf_X5_12 dX5_barOf_140 ?_
        refine lv_iload_n hx hb dX5_barOf_143 rfl (lv_at hl 1 rfl) ?_
        refine lv_iload_n hx hb dX5_barOf_144 rfl (lv_at hl 2 rfl) ?_
        refine lv_bipush (v := 10) hx hb dX5_barOf_145 (by decide) ?_
        refine lv_isub hx hb dX5_barOf_147 ?_
        obtain ⟨r148, h148, h⟩ := bnd h
        refine g_calli0 (isC := [1]) (gn := fun _ => [wRO g ad (adN 0) aK aD aS aT aL aE z118, wEV g adN nw]) (g_runVN (isC := [1]) (rest := []) (As := [.int p1, .int (p2 - (10 : Int32))]) X hw (c_X0_mustOf l (ad := adN) h148) rfl kM_X0_mustOf ki_X0_mustOf ks_X0_mustOf km_X5_193 ⟨(Nat.le_of_ble_eq_true rfl), (Nat.le_of_ble_eq_true rfl)⟩ ⟨(Nat.le_of_ble_eq_true rfl), (Nat.le_of_ble_eq_true rfl)⟩ rfl rfl ⟨_, _, _, _, rfl, rfl, rfl, rfl⟩ rfl hl.1 rfl (Nat.le_of_ble_eq_true rfl) dX5_barOf_148) hw rfl rfl (fun _ => (Nat.le_of_ble_eq_true rfl)) (fun _ => rfl) rfl rfl (fun _ H locs hw => ?_)
        have h := Option.some.inj h
        subst h
        exact hret () dX5_barOf_151 rfl hw
  unfold M_X5_barOf at h
  refine lv_aload_n hx hb dX5_barOf_0 rfl (lv_at hl 0 rfl) ?_
  refine RO_g_now X hw 0 rfl kf_X5_12 dX5_barOf_1 ?_
  refine lv_iload_n hx hb dX5_barOf_4 rfl (lv_at hl 1 rfl) ?_
  obtain ⟨r5, h5, h⟩ := bnd h
  refine g_calli0 (isC := [1]) (gn := fun _ => [wRO g ad (adN 0) aK aD aS aT aL aE ro, wEV g adN nw]) (g_runVN (isC := [1]) (rest := []) (As := [.int p1]) X hw (c_X0_hasBar l (ad := adN) h5) rfl kM_X0_hasBar ki_X0_hasBar ks_X0_hasBar km_X5_99 ⟨(Nat.le_of_ble_eq_true rfl), (Nat.le_of_ble_eq_true rfl)⟩ ⟨(Nat.le_of_ble_eq_true rfl), (Nat.le_of_ble_eq_true rfl)⟩ rfl rfl ⟨_, _, _, _, rfl, rfl, rfl, rfl⟩ rfl hl.1 rfl (Nat.le_of_ble_eq_true rfl) dX5_barOf_5) hw rfl rfl (fun _ => (Nat.le_of_ble_eq_true rfl)) (fun _ => rfl) rfl rfl (fun _ H locs hw => ?_)
  refine lv_if_ne (tgt := 18) hx hb dX5_barOf_8 (by decide) (fun k8 => ?_) (fun k8 => ?_)
  · have h := itt k8 h
    refine lv_iload_n hx hb dX5_barOf_18 rfl (lv_at hl 2 rfl) ?_
    by_cases k19_0 : p2 = 0
    · have h := itt k19_0 h
      refine lv_tableIn (off := 29) (tgt := 48) hx hb dX5_barOf_19 (by rw [k19_0]; decide) (by rw [k19_0]; decide) (by rw [k19_0]; rfl) (by decide) ?_
      refine lv_aload_n hx hb dX5_barOf_48 rfl (lv_at hl 0 rfl) ?_
      refine RO_g_now X hw 0 rfl kf_X5_12 dX5_barOf_49 ?_
      refine lv_iload_n hx hb dX5_barOf_52 rfl (lv_at hl 1 rfl) ?_
      obtain ⟨r53, h53, h⟩ := bnd h
      refine g_calli0 (isC := [1]) (gn := fun _ => [wRO g ad (adN 0) aK aD aS aT aL aE ro, wEV g adN nw]) (g_runVN (isC := [1]) (rest := []) (As := [.int p1]) X hw (c_X0_kindOf l (ad := adN) h53) rfl kM_X0_kindOf ki_X0_kindOf ks_X0_kindOf km_X5_116 ⟨(Nat.le_of_ble_eq_true rfl), (Nat.le_of_ble_eq_true rfl)⟩ ⟨(Nat.le_of_ble_eq_true rfl), (Nat.le_of_ble_eq_true rfl)⟩ rfl rfl ⟨_, _, _, _, rfl, rfl, rfl, rfl⟩ rfl hl.1 rfl (Nat.le_of_ble_eq_true rfl) dX5_barOf_53) hw rfl rfl (fun _ => (Nat.le_of_ble_eq_true rfl)) (fun _ => rfl) rfl rfl (fun _ H locs hw => ?_)
      have h := Option.some.inj h
      subst h
      exact hret () dX5_barOf_56 rfl hw
    have h := itf k19_0 h
    by_cases k19_1 : p2 = 1
    · have h := itt k19_1 h
      refine lv_tableIn (off := 38) (tgt := 57) hx hb dX5_barOf_19 (by rw [k19_1]; decide) (by rw [k19_1]; decide) (by rw [k19_1]; rfl) (by decide) ?_
      refine lv_aload_n hx hb dX5_barOf_57 rfl (lv_at hl 0 rfl) ?_
      refine RO_g_now X hw 0 rfl kf_X5_12 dX5_barOf_58 ?_
      refine lv_iload_n hx hb dX5_barOf_61 rfl (lv_at hl 1 rfl) ?_
      obtain ⟨r62, h62, h⟩ := bnd h
      refine g_calli0 (isC := [1]) (gn := fun _ => [wRO g ad (adN 0) aK aD aS aT aL aE ro, wEV g adN nw]) (g_runVN (isC := [1]) (rest := []) (As := [.int p1]) X hw (c_X0_sizeOf l (ad := adN) h62) rfl kM_X0_sizeOf ki_X0_sizeOf ks_X0_sizeOf km_X5_129 ⟨(Nat.le_of_ble_eq_true rfl), (Nat.le_of_ble_eq_true rfl)⟩ ⟨(Nat.le_of_ble_eq_true rfl), (Nat.le_of_ble_eq_true rfl)⟩ rfl rfl ⟨_, _, _, _, rfl, rfl, rfl, rfl⟩ rfl hl.1 rfl (Nat.le_of_ble_eq_true rfl) dX5_barOf_62) hw rfl rfl (fun _ => (Nat.le_of_ble_eq_true rfl)) (fun _ => rfl) rfl rfl (fun _ H locs hw => ?_)
      have h := Option.some.inj h
      subst h
      exact hret () dX5_barOf_65 rfl hw
    have h := itf k19_1 h
    by_cases k19_2 : p2 = 2
    · have h := itt k19_2 h
      refine lv_tableIn (off := 47) (tgt := 66) hx hb dX5_barOf_19 (by rw [k19_2]; decide) (by rw [k19_2]; decide) (by rw [k19_2]; rfl) (by decide) ?_
      refine lv_aload_n hx hb dX5_barOf_66 rfl (lv_at hl 0 rfl) ?_
      refine RO_g_now X hw 0 rfl kf_X5_12 dX5_barOf_67 ?_
      refine lv_iload_n hx hb dX5_barOf_70 rfl (lv_at hl 1 rfl) ?_
      obtain ⟨r71, h71, h⟩ := bnd h
      refine g_calli0 (isC := [1]) (gn := fun _ => [wRO g ad (adN 0) aK aD aS aT aL aE ro, wEV g adN nw]) (g_runVN (isC := [1]) (rest := []) (As := [.int p1]) X hw (c_X0_onOf l (ad := adN) h71) rfl kM_X0_onOf ki_X0_onOf ks_X0_onOf km_X5_122 ⟨(Nat.le_of_ble_eq_true rfl), (Nat.le_of_ble_eq_true rfl)⟩ ⟨(Nat.le_of_ble_eq_true rfl), (Nat.le_of_ble_eq_true rfl)⟩ rfl rfl ⟨_, _, _, _, rfl, rfl, rfl, rfl⟩ rfl hl.1 rfl (Nat.le_of_ble_eq_true rfl) dX5_barOf_71) hw rfl rfl (fun _ => (Nat.le_of_ble_eq_true rfl)) (fun _ => rfl) rfl rfl (fun _ H locs hw => ?_)
      have h := Option.some.inj h
      subst h
      exact hret () dX5_barOf_74 rfl hw
    have h := itf k19_2 h
    by_cases k19_3 : p2 = 3
    · have h := itt k19_3 h
      refine lv_tableIn (off := 56) (tgt := 75) hx hb dX5_barOf_19 (by rw [k19_3]; decide) (by rw [k19_3]; decide) (by rw [k19_3]; rfl) (by decide) ?_
      refine lv_aload_n hx hb dX5_barOf_75 rfl (lv_at hl 0 rfl) ?_
      refine RO_g_now X hw 0 rfl kf_X5_12 dX5_barOf_76 ?_
      refine lv_iload_n hx hb dX5_barOf_79 rfl (lv_at hl 1 rfl) ?_
      obtain ⟨r80, h80, h⟩ := bnd h
      refine g_calli0 (isC := [1]) (gn := fun _ => [wRO g ad (adN 0) aK aD aS aT aL aE ro, wEV g adN nw]) (g_runVN (isC := [1]) (rest := []) (As := [.int p1]) X hw (c_X0_stuckOf l (ad := adN) h80) rfl kM_X0_stuckOf ki_X0_stuckOf ks_X0_stuckOf km_X5_171 ⟨(Nat.le_of_ble_eq_true rfl), (Nat.le_of_ble_eq_true rfl)⟩ ⟨(Nat.le_of_ble_eq_true rfl), (Nat.le_of_ble_eq_true rfl)⟩ rfl rfl ⟨_, _, _, _, rfl, rfl, rfl, rfl⟩ rfl hl.1 rfl (Nat.le_of_ble_eq_true rfl) dX5_barOf_80) hw rfl rfl (fun _ => (Nat.le_of_ble_eq_true rfl)) (fun _ => rfl) rfl rfl (fun _ H locs hw => ?_)
      have h := Option.some.inj h
      subst h
      exact hret () dX5_barOf_83 rfl hw
    have h := itf k19_3 h
    refine lv_tableOut (tgt := 84) hx hb dX5_barOf_19 (g_out (lo := 0) (hi := 3) p2 (fun q h1 h2 => ?_)) (by decide) ?_
    · rcases (show q = 0 ∨ q = 1 ∨ q = 2 ∨ q = 3 by omega) with rfl | rfl | rfl | rfl    
      · exact fun e => k19_0 (Int32.toInt_inj.mp (e.trans rfl))
      · exact fun e => k19_1 (Int32.toInt_inj.mp (e.trans rfl))
      · exact fun e => k19_2 (Int32.toInt_inj.mp (e.trans rfl))
      · exact fun e => k19_3 (Int32.toInt_inj.mp (e.trans rfl))
    refine lv_iload_n hx hb dX5_barOf_84 rfl (lv_at hl 2 rfl) ?_
    refine lv_bipush (v := 20) hx hb dX5_barOf_85 (by decide) ?_
    refine lv_icmp_lt (tgt := 118) hx hb dX5_barOf_87 (by decide) (fun k87 => ?_) (fun k87 => ?_)
    · have h := itt k87 h
      exact J118 _ h _ _ _ hw (lv_sub hl [0, 1, 2] rfl)
    · have h := itf k87 h
      refine lv_aload_n hx hb dX5_barOf_90 rfl (lv_at hl 0 rfl) ?_
      refine RO_g_now X hw 0 rfl kf_X5_12 dX5_barOf_91 ?_
      refine lv_iload_n hx hb dX5_barOf_94 rfl (lv_at hl 1 rfl) ?_
      refine lv_iload_n hx hb dX5_barOf_95 rfl (lv_at hl 2 rfl) ?_
      refine lv_bipush (v := 20) hx hb dX5_barOf_96 (by decide) ?_
      refine lv_isub hx hb dX5_barOf_98 ?_
      obtain ⟨r99, h99, h⟩ := bnd h
      refine g_calli0 (isC := [1]) (gn := fun _ => [wRO g ad (adN 0) aK aD aS aT aL aE ro, wEV g adN nw]) (g_runVN (isC := [1]) (rest := []) (As := [.int p1, .int (p2 - (20 : Int32))]) X hw (c_X0_hasRing l (ad := adN) h99) rfl kM_X0_hasRing ki_X0_hasRing ks_X0_hasRing km_X5_177 ⟨(Nat.le_of_ble_eq_true rfl), (Nat.le_of_ble_eq_true rfl)⟩ ⟨(Nat.le_of_ble_eq_true rfl), (Nat.le_of_ble_eq_true rfl)⟩ rfl rfl ⟨_, _, _, _, rfl, rfl, rfl, rfl⟩ rfl hl.1 rfl (Nat.le_of_ble_eq_true rfl) dX5_barOf_99) hw rfl rfl (fun _ => (Nat.le_of_ble_eq_true rfl)) (fun _ => rfl) rfl rfl (fun _ H locs hw => ?_)
      refine lv_if_eq (tgt := 118) hx hb dX5_barOf_102 (by decide) (fun k102 => ?_) (fun k102 => ?_)
      · have h := itt k102 h
        exact J118 _ h _ _ _ hw (lv_sub hl [0, 1, 2] rfl)
      · have h := itf k102 h
        refine lv_aload_n hx hb dX5_barOf_105 rfl (lv_at hl 0 rfl) ?_
        refine RO_g_now X hw 0 rfl kf_X5_12 dX5_barOf_106 ?_
        refine lv_iload_n hx hb dX5_barOf_109 rfl (lv_at hl 1 rfl) ?_
        refine lv_iload_n hx hb dX5_barOf_110 rfl (lv_at hl 2 rfl) ?_
        refine lv_bipush (v := 20) hx hb dX5_barOf_111 (by decide) ?_
        refine lv_isub hx hb dX5_barOf_113 ?_
        obtain ⟨r114, h114, h⟩ := bnd h
        refine g_calli0 (isC := [1]) (gn := fun _ => [wRO g ad (adN 0) aK aD aS aT aL aE ro, wEV g adN nw]) (g_runVN (isC := [1]) (rest := []) (As := [.int p1, .int (p2 - (20 : Int32))]) X hw (c_X0_notOf l (ad := adN) h114) rfl kM_X0_notOf ki_X0_notOf ks_X0_notOf km_X5_190 ⟨(Nat.le_of_ble_eq_true rfl), (Nat.le_of_ble_eq_true rfl)⟩ ⟨(Nat.le_of_ble_eq_true rfl), (Nat.le_of_ble_eq_true rfl)⟩ rfl rfl ⟨_, _, _, _, rfl, rfl, rfl, rfl⟩ rfl hl.1 rfl (Nat.le_of_ble_eq_true rfl) dX5_barOf_114) hw rfl rfl (fun _ => (Nat.le_of_ble_eq_true rfl)) (fun _ => rfl) rfl rfl (fun _ H locs hw => ?_)
        have h := Option.some.inj h
        subst h
        exact hret () dX5_barOf_117 rfl hw
  · have h := itf (fun z => z k8) h
    refine lv_aload_n hx hb dX5_barOf_11 rfl (lv_at hl 0 rfl) ?_
    refine lv_bipush (v := -2) hx hb dX5_barOf_12 (by decide) ?_
    obtain ⟨r14, h14, h⟩ := bnd h
    refine g_calli0 (isC := [0]) (gn := fun _ => [wRO g ad (adN 0) aK aD aS aT aL aE r14.2, wEV g adN nw]) (g_runV (isC := [0]) (rest := []) (As := [.int (-2 : Int32)]) X hw (c_X5_refuse l (ad := ad) (aN := (adN 0)) (aK := aK) (aD := aD) (aS := aS) (aT := aT) (aL := aL) (aE := aE) h14) rfl kM_X5_refuse ki_X5_refuse ks_X5_refuse km_X5_62 ⟨(Nat.le_of_ble_eq_true rfl), (Nat.le_of_ble_eq_true rfl)⟩ ⟨(Nat.le_of_ble_eq_true rfl), (Nat.le_of_ble_eq_true rfl)⟩ rfl rfl ⟨_, _, _, _, rfl, rfl, rfl, rfl⟩ rfl hl.1 rfl (Nat.le_of_ble_eq_true rfl) dX5_barOf_14) hw rfl rfl (fun _ => (Nat.le_of_ble_eq_true rfl)) (fun _ => rfl) rfl rfl (fun _ H locs hw => ?_)
    have h := Option.some.inj h
    subst h
    exact hret () dX5_barOf_17 rfl hw
theorem kM_X5_feed : kM yX5_feed cX5_feed 2 (some FieldType.int) 1 := ⟨kc_X5_feed, kn_RingsOff, by decide +kernel⟩
abbrev R_X5_feed : Room := { frames := 1, cells := 0, slots := 0, locals := 22 }
set_option maxHeartbeats 4000000 in
set_option maxRecDepth 100000 in
theorem c_X5_feed (l : Launch) {ad : Nat → Nat} {adT : Nat → Nat} {aN : Nat} {aK : Nat} {aD : Nat} {aS : Nat} {aL : Nat} {aE : Nat} {N : Nat} {ro : RO} {tp : TP} {p1 : Int32} {out : Int32 × RO × TP} (h : M_X5_feed N ro tp p1 = some out) : gM l yX5_feed cX5_feed 2 (some FieldType.int) R_X5_feed (fun _ => [.ref (ad 0), .int p1]) (fun g => [wRO g ad aN aK aD aS (adT 0) aL aE ro, wTP g adT tp]) (gQi (fun (_ : Unit) => out.1) (fun g (_ : Unit) => [wRO g ad aN aK aD aS (adT 0) aL aE out.2.1, wTP g adT out.2.2])) := by
  refine gM.ofi (by decide +kernel) (fun _ => Nat.le_of_ble_eq_true rfl) (fun g p e s m args below meth c A ls Q X hret hw hl => ?_)
  have hx := X.1.1
  have hb := X.1.2.1
  have hl : lv_has ls 2 [(0, .ref (ad 0)), (1, .int p1)] := hl
  have J11 : ∀ (z11 : RO × TP), M_X5_feed_j11 N p1 z11 = some out → ∀ (H : Heap) (locs : List Loc) (ls : Array Slot), gW g A s.heap [wRO g ad aN aK aD aS (adT 0) aL aE z11.1, wTP g adT z11.2] H locs → lv_has ls 2 [(0, .ref (ad 0))] → W p l e R_X5_feed s m args below meth c H locs 0 0 Q (F0 m 11 ls []) := by
    intro z11 h H locs ls hw hl
    unfold M_X5_feed_j11 at h
    refine lv_aload_n hx hb dX5_feed_11 rfl (lv_at hl 0 rfl) ?_
    refine lv_bipush (v := -2) hx hb dX5_feed_12 (by decide) ?_
    obtain ⟨r14, h14, h⟩ := bnd h
    refine g_calli0 (isC := [0]) (gn := fun _ => [wRO g ad aN aK aD aS (adT 0) aL aE r14.2, wTP g adT z11.2]) (g_runV (isC := [0]) (rest := []) (As := [.int (-2 : Int32)]) X hw (c_X5_refuse l (ad := ad) (aN := aN) (aK := aK) (aD := aD) (aS := aS) (aT := (adT 0)) (aL := aL) (aE := aE) h14) rfl kM_X5_refuse ki_X5_refuse ks_X5_refuse km_X5_62 ⟨(Nat.le_of_ble_eq_true rfl), (Nat.le_of_ble_eq_true rfl)⟩ ⟨(Nat.le_of_ble_eq_true rfl), (Nat.le_of_ble_eq_true rfl)⟩ rfl rfl ⟨_, _, _, _, rfl, rfl, rfl, rfl⟩ rfl hl.1 rfl (Nat.le_of_ble_eq_true rfl) dX5_feed_14) hw rfl rfl (fun _ => (Nat.le_of_ble_eq_true rfl)) (fun _ => rfl) rfl rfl (fun _ H locs hw => ?_)
    have h := Option.some.inj h
    subst h
    exact hret () dX5_feed_17 rfl hw
  unfold M_X5_feed at h
  refine lv_iload_n hx hb dX5_feed_0 rfl (lv_at hl 1 rfl) ?_
  refine lv_if_lt (tgt := 11) hx hb dX5_feed_1 (by decide) (fun k1 => ?_) (fun k1 => ?_)
  · have h := itt k1 h
    exact J11 _ h _ _ _ hw (lv_sub hl [0] rfl)
  · have h := itf k1 h
    refine lv_iload_n hx hb dX5_feed_4 rfl (lv_at hl 1 rfl) ?_
    refine lv_sipush (v := 256) hx hb dX5_feed_5 (by decide) ?_
    refine lv_icmp_lt (tgt := 18) hx hb dX5_feed_8 (by decide) (fun k8 => ?_) (fun k8 => ?_)
    · have h := itt k8 h
      refine lv_aload_n hx hb dX5_feed_18 rfl (lv_at hl 0 rfl) ?_
      refine RO_g_tape X hw 0 rfl kf_X5_32 dX5_feed_19 ?_
      obtain ⟨r22, h22, h⟩ := bnd h
      refine g_calli0 (isC := [1]) (gn := fun _ => [wRO g ad aN aK aD aS (adT 0) aL aE ro, wTP g adT tp]) (g_runVN (isC := [1]) (rest := []) (As := []) X hw (c_X4_isFull l (ad := adT) h22) rfl kM_X4_isFull ki_X4_isFull ks_X4_isFull km_X5_196 ⟨(Nat.le_of_ble_eq_true rfl), (Nat.le_of_ble_eq_true rfl)⟩ ⟨(Nat.le_of_ble_eq_true rfl), (Nat.le_of_ble_eq_true rfl)⟩ rfl rfl ⟨_, _, _, _, rfl, rfl, rfl, rfl⟩ rfl hl.1 rfl (Nat.le_of_ble_eq_true rfl) dX5_feed_22) hw rfl rfl (fun _ => (Nat.le_of_ble_eq_true rfl)) (fun _ => rfl) rfl rfl (fun _ H locs hw => ?_)
      refine lv_if_eq (tgt := 35) hx hb dX5_feed_25 (by decide) (fun k25 => ?_) (fun k25 => ?_)
      · have h := itt k25 h
        refine lv_aload_n hx hb dX5_feed_35 rfl (lv_at hl 0 rfl) ?_
        refine RO_g_tape X hw 0 rfl kf_X5_32 dX5_feed_36 ?_
        refine lv_iload_n hx hb dX5_feed_39 rfl (lv_at hl 1 rfl) ?_
        obtain ⟨r40, h40, h⟩ := bnd h
        refine g_calli0 (isC := [1]) (gn := fun _ => [wRO g ad aN aK aD aS (adT 0) aL aE ro, wTP g adT r40.2]) (g_runVN (isC := [1]) (rest := []) (As := [.int p1]) X hw (c_X4_append l (ad := adT) h40) rfl kM_X4_append ki_X4_append ks_X4_append km_X5_199 ⟨(Nat.le_of_ble_eq_true rfl), (Nat.le_of_ble_eq_true rfl)⟩ ⟨(Nat.le_of_ble_eq_true rfl), (Nat.le_of_ble_eq_true rfl)⟩ rfl rfl ⟨_, _, _, _, rfl, rfl, rfl, rfl⟩ rfl hl.1 rfl (Nat.le_of_ble_eq_true rfl) dX5_feed_40) hw rfl rfl (fun _ => (Nat.le_of_ble_eq_true rfl)) (fun _ => rfl) rfl rfl (fun _ H locs hw => ?_)
        have h := Option.some.inj h
        subst h
        exact hret () dX5_feed_43 rfl hw
      · have h := itf k25 h
        refine lv_aload_n hx hb dX5_feed_28 rfl (lv_at hl 0 rfl) ?_
        refine lv_bipush (v := -6) hx hb dX5_feed_29 (by decide) ?_
        obtain ⟨r31, h31, h⟩ := bnd h
        refine g_calli0 (isC := [0]) (gn := fun _ => [wRO g ad aN aK aD aS (adT 0) aL aE r31.2, wTP g adT tp]) (g_runV (isC := [0]) (rest := []) (As := [.int (-6 : Int32)]) X hw (c_X5_refuse l (ad := ad) (aN := aN) (aK := aK) (aD := aD) (aS := aS) (aT := (adT 0)) (aL := aL) (aE := aE) h31) rfl kM_X5_refuse ki_X5_refuse ks_X5_refuse km_X5_62 ⟨(Nat.le_of_ble_eq_true rfl), (Nat.le_of_ble_eq_true rfl)⟩ ⟨(Nat.le_of_ble_eq_true rfl), (Nat.le_of_ble_eq_true rfl)⟩ rfl rfl ⟨_, _, _, _, rfl, rfl, rfl, rfl⟩ rfl hl.1 rfl (Nat.le_of_ble_eq_true rfl) dX5_feed_31) hw rfl rfl (fun _ => (Nat.le_of_ble_eq_true rfl)) (fun _ => rfl) rfl rfl (fun _ H locs hw => ?_)
        have h := Option.some.inj h
        subst h
        exact hret () dX5_feed_34 rfl hw
    · have h := itf k8 h
      exact J11 _ h _ _ _ hw (lv_sub hl [0] rfl)
theorem kM_X5_place : kM yX5_place cX5_place 3 (some FieldType.long) 1 := ⟨kc_X5_place, kn_RingsOff, by decide +kernel⟩
abbrev R_X5_place : Room := { frames := 1, cells := 0, slots := 0, locals := 24 }
set_option maxHeartbeats 4000000 in
set_option maxRecDepth 100000 in
theorem c_X5_place (l : Launch) {ad : Nat → Nat} {aN : Nat} {aK : Nat} {aD : Nat} {aS : Nat} {aT : Nat} {aL : Nat} {aE : Nat} {N : Nat} {ro : RO} {p1 : Int64} {out : Int64 × RO} (h : M_X5_place N ro p1 = some out) : gM l yX5_place cX5_place 3 (some FieldType.long) R_X5_place (fun _ => [.ref (ad 0), .long p1]) (fun g => [wRO g ad aN aK aD aS aT aL aE ro]) (gQl (fun (_ : Unit) => out.1) (fun g (_ : Unit) => [wRO g ad aN aK aD aS aT aL aE out.2])) := by
  refine gM.ofl (by decide +kernel) (fun _ => Nat.le_of_ble_eq_true rfl) (fun g p e s m args below meth c A ls Q X hret hw hl => ?_)
  have hx := X.1.1
  have hb := X.1.2.1
  have hl : lv_has ls 3 [(0, .ref (ad 0)), (1, .long p1)] := hl
  have J14 : ∀ (z14 : RO), M_X5_place_j14 N p1 z14 = some out → ∀ (H : Heap) (locs : List Loc) (ls : Array Slot), gW g A s.heap [wRO g ad aN aK aD aS aT aL aE z14] H locs → lv_has ls 3 [(0, .ref (ad 0))] → W p l e R_X5_place s m args below meth c H locs 0 0 Q (F0 m 14 ls []) := by
    intro z14 h H locs ls hw hl
    unfold M_X5_place_j14 at h
    refine lv_aload_n hx hb dX5_place_14 rfl (lv_at hl 0 rfl) ?_
    refine lv_bipush (v := -2) hx hb dX5_place_15 (by decide) ?_
    obtain ⟨r17, h17, h⟩ := bnd h
    refine g_calli0 (isC := [0]) (gn := fun _ => [wRO g ad aN aK aD aS aT aL aE r17.2]) (g_runV (isC := [0]) (rest := []) (As := [.int (-2 : Int32)]) X hw (c_X5_refuse l (ad := ad) (aN := aN) (aK := aK) (aD := aD) (aS := aS) (aT := aT) (aL := aL) (aE := aE) h17) rfl kM_X5_refuse ki_X5_refuse ks_X5_refuse km_X5_62 ⟨(Nat.le_of_ble_eq_true rfl), (Nat.le_of_ble_eq_true rfl)⟩ ⟨(Nat.le_of_ble_eq_true rfl), (Nat.le_of_ble_eq_true rfl)⟩ rfl rfl ⟨_, _, _, _, rfl, rfl, rfl, rfl⟩ rfl hl.1 rfl (Nat.le_of_ble_eq_true rfl) dX5_place_17) hw rfl rfl (fun _ => (Nat.le_of_ble_eq_true rfl)) (fun _ => rfl) rfl rfl (fun _ H locs hw => ?_)
    refine lv_i2l (v := r17.1.toInt64) hx hb dX5_place_20 rfl ?_
    have h := Option.some.inj h
    subst h
    exact hret () dX5_place_21 rfl hw
  unfold M_X5_place at h
  refine lv_lload_n hx hb dX5_place_0 rfl (lv_at hl 1 rfl) ?_
  refine lv_lconst (v := 0) hx hb dX5_place_1 (by decide) ?_
  refine W.lcmp hx hb dX5_place_2 ?_
  refine lv_if_lt (tgt := 14) hx hb dX5_place_3 (by decide) (fun k3 => ?_) (fun k3 => ?_)
  · have h := itt k3 h
    exact J14 _ h _ _ _ hw (lv_sub hl [0] rfl)
  · have h := itf k3 h
    refine lv_lload_n hx hb dX5_place_6 rfl (lv_at hl 1 rfl) ?_
    refine lv_ldc2 hx hb X.1.2.2.2.1 (gK1 X _ kq_X5_235) dX5_place_7 ?_
    refine W.lcmp hx hb dX5_place_10 ?_
    refine lv_if_lt (tgt := 22) hx hb dX5_place_11 (by decide) (fun k11 => ?_) (fun k11 => ?_)
    · have h := itt k11 h
      refine lv_lload_n hx hb dX5_place_22 rfl (lv_at hl 1 rfl) ?_
      obtain ⟨r23, h23, h⟩ := bnd h
      refine g_calll0 (isC := []) (gn := fun _ => [wRO g ad aN aK aD aS aT aL aE ro]) (g_runS (isC := []) (rest := []) (As := [.long p1]) X hw (c_X5_grayPlace l h23) rfl kM_X5_grayPlace kt_X5_grayPlace km_X5_136 ⟨(Nat.le_of_ble_eq_true rfl), (Nat.le_of_ble_eq_true rfl)⟩ ⟨(Nat.le_of_ble_eq_true rfl), (Nat.le_of_ble_eq_true rfl)⟩ rfl rfl rfl hl.1 rfl (Nat.le_of_ble_eq_true rfl) dX5_place_23) hw rfl rfl (fun _ => (Nat.le_of_ble_eq_true rfl)) (fun _ => rfl) rfl rfl (fun _ H locs hw => ?_)
      have h := Option.some.inj h
      subst h
      exact hret () dX5_place_26 rfl hw
    · have h := itf k11 h
      exact J14 _ h _ _ _ hw (lv_sub hl [0] rfl)
theorem kM_X5_setOf : kM yX5_setOf cX5_setOf 3 (some FieldType.long) 1 := ⟨kc_X5_setOf, kn_RingsOff, by decide +kernel⟩
abbrev R_X5_setOf : Room := { frames := 1, cells := 0, slots := 0, locals := 22 }
set_option maxHeartbeats 4000000 in
set_option maxRecDepth 100000 in
theorem c_X5_setOf (l : Launch) {ad : Nat → Nat} {aN : Nat} {aK : Nat} {aD : Nat} {aS : Nat} {aT : Nat} {aL : Nat} {aE : Nat} {N : Nat} {ro : RO} {p1 : Int64} {out : Int64 × RO} (h : M_X5_setOf N ro p1 = some out) : gM l yX5_setOf cX5_setOf 3 (some FieldType.long) R_X5_setOf (fun _ => [.ref (ad 0), .long p1]) (fun g => [wRO g ad aN aK aD aS aT aL aE ro]) (gQl (fun (_ : Unit) => out.1) (fun g (_ : Unit) => [wRO g ad aN aK aD aS aT aL aE out.2])) := by
  refine gM.ofl (by decide +kernel) (fun _ => Nat.le_of_ble_eq_true rfl) (fun g p e s m args below meth c A ls Q X hret hw hl => ?_)
  have hx := X.1.1
  have hb := X.1.2.1
  have hl : lv_has ls 3 [(0, .ref (ad 0)), (1, .long p1)] := hl
  have J14 : ∀ (z14 : RO), M_X5_setOf_j14 N p1 z14 = some out → ∀ (H : Heap) (locs : List Loc) (ls : Array Slot), gW g A s.heap [wRO g ad aN aK aD aS aT aL aE z14] H locs → lv_has ls 3 [(0, .ref (ad 0))] → W p l e R_X5_setOf s m args below meth c H locs 0 0 Q (F0 m 14 ls []) := by
    intro z14 h H locs ls hw hl
    unfold M_X5_setOf_j14 at h
    refine lv_aload_n hx hb dX5_setOf_14 rfl (lv_at hl 0 rfl) ?_
    refine lv_bipush (v := -2) hx hb dX5_setOf_15 (by decide) ?_
    obtain ⟨r17, h17, h⟩ := bnd h
    refine g_calli0 (isC := [0]) (gn := fun _ => [wRO g ad aN aK aD aS aT aL aE r17.2]) (g_runV (isC := [0]) (rest := []) (As := [.int (-2 : Int32)]) X hw (c_X5_refuse l (ad := ad) (aN := aN) (aK := aK) (aD := aD) (aS := aS) (aT := aT) (aL := aL) (aE := aE) h17) rfl kM_X5_refuse ki_X5_refuse ks_X5_refuse km_X5_62 ⟨(Nat.le_of_ble_eq_true rfl), (Nat.le_of_ble_eq_true rfl)⟩ ⟨(Nat.le_of_ble_eq_true rfl), (Nat.le_of_ble_eq_true rfl)⟩ rfl rfl ⟨_, _, _, _, rfl, rfl, rfl, rfl⟩ rfl hl.1 rfl (Nat.le_of_ble_eq_true rfl) dX5_setOf_17) hw rfl rfl (fun _ => (Nat.le_of_ble_eq_true rfl)) (fun _ => rfl) rfl rfl (fun _ H locs hw => ?_)
    refine lv_i2l (v := r17.1.toInt64) hx hb dX5_setOf_20 rfl ?_
    have h := Option.some.inj h
    subst h
    exact hret () dX5_setOf_21 rfl hw
  unfold M_X5_setOf at h
  refine lv_lload_n hx hb dX5_setOf_0 rfl (lv_at hl 1 rfl) ?_
  refine lv_lconst (v := 0) hx hb dX5_setOf_1 (by decide) ?_
  refine W.lcmp hx hb dX5_setOf_2 ?_
  refine lv_if_lt (tgt := 14) hx hb dX5_setOf_3 (by decide) (fun k3 => ?_) (fun k3 => ?_)
  · have h := itt k3 h
    exact J14 _ h _ _ _ hw (lv_sub hl [0] rfl)
  · have h := itf k3 h
    refine lv_lload_n hx hb dX5_setOf_6 rfl (lv_at hl 1 rfl) ?_
    refine lv_ldc2 hx hb X.1.2.2.2.1 (gK1 X _ kq_X5_235) dX5_setOf_7 ?_
    refine W.lcmp hx hb dX5_setOf_10 ?_
    refine lv_if_lt (tgt := 22) hx hb dX5_setOf_11 (by decide) (fun k11 => ?_) (fun k11 => ?_)
    · have h := itt k11 h
      refine lv_lload_n hx hb dX5_setOf_22 rfl (lv_at hl 1 rfl) ?_
      refine lv_lload_n hx hb dX5_setOf_23 rfl (lv_at hl 1 rfl) ?_
      refine lv_iconst (v := 1) hx hb dX5_setOf_24 (by decide) ?_
      refine lv_lshr (v := (jlshr p1 (1 : Int32))) hx hb dX5_setOf_25 rfl ?_
      refine lv_lxor hx hb dX5_setOf_26 ?_
      have h := Option.some.inj h
      subst h
      exact hret () dX5_setOf_27 rfl hw
    · have h := itf k11 h
      exact J14 _ h _ _ _ hw (lv_sub hl [0] rfl)
theorem kM_X5_luck : kM yX5_luck cX5_luck 4 (some FieldType.int) 1 := ⟨kc_X5_luck, kn_RingsOff, by decide +kernel⟩
abbrev R_X5_luck : Room := { frames := 2, cells := 0, slots := 0, locals := 42 }
set_option maxHeartbeats 4000000 in
set_option maxRecDepth 100000 in
theorem c_X5_luck (l : Launch) {ad : Nat → Nat} {adN : Nat → Nat} {aK : Nat} {aD : Nat} {aS : Nat} {aT : Nat} {aL : Nat} {aE : Nat} {N : Nat} {ro : RO} {nw : EV} {p1 : Int32} {out : Int32 × RO} (h : M_X5_luck N ro nw p1 = some out) : gM l yX5_luck cX5_luck 4 (some FieldType.int) R_X5_luck (fun _ => [.ref (ad 0), .int p1]) (fun g => [wRO g ad (adN 0) aK aD aS aT aL aE ro, wEV g adN nw]) (gQi (fun (_ : Unit) => out.1) (fun g (_ : Unit) => [wRO g ad (adN 0) aK aD aS aT aL aE out.2, wEV g adN nw])) := by
  refine gM.ofi (by decide +kernel) (fun _ => Nat.le_of_ble_eq_true rfl) (fun g p e s m args below meth c A ls Q X hret hw hl => ?_)
  have hx := X.1.1
  have hb := X.1.2.1
  have hl : lv_has ls 4 [(0, .ref (ad 0)), (1, .int p1)] := hl
  have J41 : ∀ (z41 : RO), M_X5_luck_j41 N nw p1 z41 = some out → ∀ (H : Heap) (locs : List Loc) (ls : Array Slot), gW g A s.heap [wRO g ad (adN 0) aK aD aS aT aL aE z41, wEV g adN nw] H locs → lv_has ls 4 [(0, .ref (ad 0))] → W p l e R_X5_luck s m args below meth c H locs 0 0 Q (F0 m 41 ls []) := by
    intro z41 h H locs ls hw hl
    unfold M_X5_luck_j41 at h
    refine lv_aload_n hx hb dX5_luck_41 rfl (lv_at hl 0 rfl) ?_
    refine lv_bipush (v := -5) hx hb dX5_luck_42 (by decide) ?_
    obtain ⟨r44, h44, h⟩ := bnd h
    refine g_calli0 (isC := [0]) (gn := fun _ => [wRO g ad (adN 0) aK aD aS aT aL aE r44.2, wEV g adN nw]) (g_runV (isC := [0]) (rest := []) (As := [.int (-5 : Int32)]) X hw (c_X5_refuse l (ad := ad) (aN := (adN 0)) (aK := aK) (aD := aD) (aS := aS) (aT := aT) (aL := aL) (aE := aE) h44) rfl kM_X5_refuse ki_X5_refuse ks_X5_refuse km_X5_62 ⟨(Nat.le_of_ble_eq_true rfl), (Nat.le_of_ble_eq_true rfl)⟩ ⟨(Nat.le_of_ble_eq_true rfl), (Nat.le_of_ble_eq_true rfl)⟩ rfl rfl ⟨_, _, _, _, rfl, rfl, rfl, rfl⟩ rfl hl.1 rfl (Nat.le_of_ble_eq_true rfl) dX5_luck_44) hw rfl rfl (fun _ => (Nat.le_of_ble_eq_true rfl)) (fun _ => rfl) rfl rfl (fun _ H locs hw => ?_)
    have h := Option.some.inj h
    subst h
    exact hret () dX5_luck_47 rfl hw
  unfold M_X5_luck at h
  refine lv_aload_n hx hb dX5_luck_0 rfl (lv_at hl 0 rfl) ?_
  refine RO_g_now X hw 0 rfl kf_X5_12 dX5_luck_1 ?_
  refine lv_iload_n hx hb dX5_luck_4 rfl (lv_at hl 1 rfl) ?_
  obtain ⟨r5, h5, h⟩ := bnd h
  refine g_calli0 (isC := [1]) (gn := fun _ => [wRO g ad (adN 0) aK aD aS aT aL aE ro, wEV g adN nw]) (g_runVN (isC := [1]) (rest := []) (As := [.int p1]) X hw (c_X0_hasBar l (ad := adN) h5) rfl kM_X0_hasBar ki_X0_hasBar ks_X0_hasBar km_X5_99 ⟨(Nat.le_of_ble_eq_true rfl), (Nat.le_of_ble_eq_true rfl)⟩ ⟨(Nat.le_of_ble_eq_true rfl), (Nat.le_of_ble_eq_true rfl)⟩ rfl rfl ⟨_, _, _, _, rfl, rfl, rfl, rfl⟩ rfl hl.1 rfl (Nat.le_of_ble_eq_true rfl) dX5_luck_5) hw rfl rfl (fun _ => (Nat.le_of_ble_eq_true rfl)) (fun _ => rfl) rfl rfl (fun _ H locs hw => ?_)
  refine lv_if_ne (tgt := 18) hx hb dX5_luck_8 (by decide) (fun k8 => ?_) (fun k8 => ?_)
  · have h := itt k8 h
    refine lv_aload_n hx hb dX5_luck_18 rfl (lv_at hl 0 rfl) ?_
    refine RO_g_now X hw 0 rfl kf_X5_12 dX5_luck_19 ?_
    refine lv_iload_n hx hb dX5_luck_22 rfl (lv_at hl 1 rfl) ?_
    obtain ⟨r23, h23, h⟩ := bnd h
    refine g_calli0 (isC := [1]) (gn := fun _ => [wRO g ad (adN 0) aK aD aS aT aL aE ro, wEV g adN nw]) (g_runVN (isC := [1]) (rest := []) (As := [.int p1]) X hw (c_X0_kindOf l (ad := adN) h23) rfl kM_X0_kindOf ki_X0_kindOf ks_X0_kindOf km_X5_116 ⟨(Nat.le_of_ble_eq_true rfl), (Nat.le_of_ble_eq_true rfl)⟩ ⟨(Nat.le_of_ble_eq_true rfl), (Nat.le_of_ble_eq_true rfl)⟩ rfl rfl ⟨_, _, _, _, rfl, rfl, rfl, rfl⟩ rfl hl.1 rfl (Nat.le_of_ble_eq_true rfl) dX5_luck_23) hw rfl rfl (fun _ => (Nat.le_of_ble_eq_true rfl)) (fun _ => rfl) rfl rfl (fun _ H locs hw => ?_)
    refine lv_iconst (v := 1) hx hb dX5_luck_26 (by decide) ?_
    refine lv_icmp_ne (tgt := 41) hx hb dX5_luck_27 (by decide) (fun k27 => ?_) (fun k27 => ?_)
    · have h := itt k27 h
      exact J41 _ h _ _ _ hw (lv_sub hl [0] rfl)
    · have h := itf (fun z => z k27) h
      refine lv_aload_n hx hb dX5_luck_30 rfl (lv_at hl 0 rfl) ?_
      refine RO_g_now X hw 0 rfl kf_X5_12 dX5_luck_31 ?_
      refine lv_iload_n hx hb dX5_luck_34 rfl (lv_at hl 1 rfl) ?_
      obtain ⟨r35, h35, h⟩ := bnd h
      refine g_calli0 (isC := [1]) (gn := fun _ => [wRO g ad (adN 0) aK aD aS aT aL aE ro, wEV g adN nw]) (g_runVN (isC := [1]) (rest := []) (As := [.int p1]) X hw (c_X0_stuckOf l (ad := adN) h35) rfl kM_X0_stuckOf ki_X0_stuckOf ks_X0_stuckOf km_X5_171 ⟨(Nat.le_of_ble_eq_true rfl), (Nat.le_of_ble_eq_true rfl)⟩ ⟨(Nat.le_of_ble_eq_true rfl), (Nat.le_of_ble_eq_true rfl)⟩ rfl rfl ⟨_, _, _, _, rfl, rfl, rfl, rfl⟩ rfl hl.1 rfl (Nat.le_of_ble_eq_true rfl) dX5_luck_35) hw rfl rfl (fun _ => (Nat.le_of_ble_eq_true rfl)) (fun _ => rfl) rfl rfl (fun _ H locs hw => ?_)
      refine lv_if_eq (tgt := 48) hx hb dX5_luck_38 (by decide) (fun k38 => ?_) (fun k38 => ?_)
      · have h := itt k38 h
        refine lv_aload_n hx hb dX5_luck_48 rfl (lv_at hl 0 rfl) ?_
        refine RO_g_now X hw 0 rfl kf_X5_12 dX5_luck_49 ?_
        refine lv_iload_n hx hb dX5_luck_52 rfl (lv_at hl 1 rfl) ?_
        obtain ⟨r53, h53, h⟩ := bnd h
        refine g_calli0 (isC := [1]) (gn := fun _ => [wRO g ad (adN 0) aK aD aS aT aL aE ro, wEV g adN nw]) (g_runVN (isC := [1]) (rest := []) (As := [.int p1]) X hw (c_X0_onOf l (ad := adN) h53) rfl kM_X0_onOf ki_X0_onOf ks_X0_onOf km_X5_122 ⟨(Nat.le_of_ble_eq_true rfl), (Nat.le_of_ble_eq_true rfl)⟩ ⟨(Nat.le_of_ble_eq_true rfl), (Nat.le_of_ble_eq_true rfl)⟩ rfl rfl ⟨_, _, _, _, rfl, rfl, rfl, rfl⟩ rfl hl.1 rfl (Nat.le_of_ble_eq_true rfl) dX5_luck_53) hw rfl rfl (fun _ => (Nat.le_of_ble_eq_true rfl)) (fun _ => rfl) rfl rfl (fun _ H locs hw => ?_)
        refine lv_i2l (v := r53.toInt64) hx hb dX5_luck_56 rfl ?_
        obtain ⟨r57, h57, h⟩ := bnd h
        refine g_calll0 (isC := []) (gn := fun _ => [wRO g ad (adN 0) aK aD aS aT aL aE ro, wEV g adN nw]) (g_runS (isC := []) (rest := []) (As := [.long r53.toInt64]) X hw (c_X5_grayPlace l h57) rfl kM_X5_grayPlace kt_X5_grayPlace km_X5_136 ⟨(Nat.le_of_ble_eq_true rfl), (Nat.le_of_ble_eq_true rfl)⟩ ⟨(Nat.le_of_ble_eq_true rfl), (Nat.le_of_ble_eq_true rfl)⟩ rfl rfl rfl hl.1 rfl (Nat.le_of_ble_eq_true rfl) dX5_luck_57) hw rfl rfl (fun _ => (Nat.le_of_ble_eq_true rfl)) (fun _ => rfl) rfl rfl (fun _ H locs hw => ?_)
        refine lv_l2i (v := r57.toInt32) hx hb dX5_luck_60 rfl ?_
        refine lv_istore_n (lv' := [(2, .int r57.toInt32), (0, .ref (ad 0)), (1, .int p1)]) hx hb dX5_luck_61 rfl hl (by decide) rfl (fun ls hl => ?_)
        refine lv_iconst (v := 1) hx hb dX5_luck_62 (by decide) ?_
        refine lv_aload_n hx hb dX5_luck_63 rfl (lv_at hl 1 rfl) ?_
        refine RO_g_now X hw 0 rfl kf_X5_12 dX5_luck_64 ?_
        refine lv_iload_n hx hb dX5_luck_67 rfl (lv_at hl 2 rfl) ?_
        obtain ⟨r68, h68, h⟩ := bnd h
        refine g_calli0 (isC := [1]) (gn := fun _ => [wRO g ad (adN 0) aK aD aS aT aL aE ro, wEV g adN nw]) (g_runVN (isC := [1]) (rest := [.int (1 : Int32)]) (As := [.int p1]) X hw (c_X0_sizeOf l (ad := adN) h68) rfl kM_X0_sizeOf ki_X0_sizeOf ks_X0_sizeOf km_X5_129 ⟨(Nat.le_of_ble_eq_true rfl), (Nat.le_of_ble_eq_true rfl)⟩ ⟨(Nat.le_of_ble_eq_true rfl), (Nat.le_of_ble_eq_true rfl)⟩ rfl rfl ⟨_, _, _, _, rfl, rfl, rfl, rfl⟩ rfl hl.1 rfl (Nat.le_of_ble_eq_true rfl) dX5_luck_68) hw rfl rfl (fun _ => (Nat.le_of_ble_eq_true rfl)) (fun _ => rfl) rfl rfl (fun _ H locs hw => ?_)
        refine lv_ishl hx hb dX5_luck_71 ?_
        refine lv_iconst (v := 1) hx hb dX5_luck_72 (by decide) ?_
        refine lv_isub hx hb dX5_luck_73 ?_
        refine lv_istore_n (lv' := [(3, .int (((1 : Int32) <<< (r68 &&& 31)) - (1 : Int32))), (2, .int r57.toInt32), (0, .ref (ad 0)), (1, .int p1)]) hx hb dX5_luck_74 rfl hl (by decide) rfl (fun ls hl => ?_)
        refine lv_iload_n hx hb dX5_luck_75 rfl (lv_at hl 1 rfl) ?_
        refine lv_iconst (v := 2) hx hb dX5_luck_76 (by decide) ?_
        refine lv_iload_n hx hb dX5_luck_77 rfl (lv_at hl 0 rfl) ?_
        refine lv_imul hx hb dX5_luck_78 ?_
        refine lv_iload_n hx hb dX5_luck_79 rfl (lv_at hl 1 rfl) ?_
        refine lv_isub hx hb dX5_luck_80 ?_
        refine lv_imul hx hb dX5_luck_81 ?_
        have h := Option.some.inj h
        subst h
        exact hret () dX5_luck_82 rfl hw
      · have h := itf k38 h
        exact J41 _ h _ _ _ hw (lv_sub hl [0] rfl)
  · have h := itf (fun z => z k8) h
    refine lv_aload_n hx hb dX5_luck_11 rfl (lv_at hl 0 rfl) ?_
    refine lv_bipush (v := -2) hx hb dX5_luck_12 (by decide) ?_
    obtain ⟨r14, h14, h⟩ := bnd h
    refine g_calli0 (isC := [0]) (gn := fun _ => [wRO g ad (adN 0) aK aD aS aT aL aE r14.2, wEV g adN nw]) (g_runV (isC := [0]) (rest := []) (As := [.int (-2 : Int32)]) X hw (c_X5_refuse l (ad := ad) (aN := (adN 0)) (aK := aK) (aD := aD) (aS := aS) (aT := aT) (aL := aL) (aE := aE) h14) rfl kM_X5_refuse ki_X5_refuse ks_X5_refuse km_X5_62 ⟨(Nat.le_of_ble_eq_true rfl), (Nat.le_of_ble_eq_true rfl)⟩ ⟨(Nat.le_of_ble_eq_true rfl), (Nat.le_of_ble_eq_true rfl)⟩ rfl rfl ⟨_, _, _, _, rfl, rfl, rfl, rfl⟩ rfl hl.1 rfl (Nat.le_of_ble_eq_true rfl) dX5_luck_14) hw rfl rfl (fun _ => (Nat.le_of_ble_eq_true rfl)) (fun _ => rfl) rfl rfl (fun _ H locs hw => ?_)
    have h := Option.some.inj h
    subst h
    exact hret () dX5_luck_17 rfl hw
theorem kM_X5_lock : kM yX5_lock cX5_lock 3 (some FieldType.int) 1 := ⟨kc_X5_lock, kn_RingsOff, by decide +kernel⟩
abbrev R_X5_lock : Room := { frames := 2, cells := 0, slots := 0, locals := 47 }
set_option maxHeartbeats 4000000 in
set_option maxRecDepth 100000 in
theorem c_X5_lock (l : Launch) {ad : Nat → Nat} {adN : Nat → Nat} {aK : Nat} {aD : Nat} {aS : Nat} {aT : Nat} {aL : Nat} {aE : Nat} {N : Nat} {ro : RO} {nw : EV} {p1 : Int32} {out : Int32 × RO} (h : M_X5_lock N ro nw p1 = some out) : gM l yX5_lock cX5_lock 3 (some FieldType.int) R_X5_lock (fun _ => [.ref (ad 0), .int p1]) (fun g => [wRO g ad (adN 0) aK aD aS aT aL aE ro, wEV g adN nw]) (gQi (fun (_ : Unit) => out.1) (fun g (_ : Unit) => [wRO g ad (adN 0) aK aD aS aT aL aE out.2, wEV g adN nw])) := by
  refine gM.ofi (by decide +kernel) (fun _ => Nat.le_of_ble_eq_true rfl) (fun g p e s m args below meth c A ls Q X hret hw hl => ?_)
  have hx := X.1.1
  have hb := X.1.2.1
  have hl : lv_has ls 3 [(0, .ref (ad 0)), (1, .int p1)] := hl
  have L20 : ∀ (n : Nat) (z20 : RO × Int32), lp (M_X5_lock_l20 N nw p1) n z20 = some out → ∀ (H : Heap) (locs : List Loc) (ls : Array Slot), gW g A s.heap [wRO g ad (adN 0) aK aD aS aT aL aE z20.1, wEV g adN nw] H locs → lv_has ls 3 [(0, .ref (ad 0)), (1, .int p1), (2, .int z20.2)] → W p l e R_X5_lock s m args below meth c H locs 0 0 Q (F0 m 20 ls []) := by
    refine lp_ind ?_
    intro rec20 ih20
    intro z20 h H locs ls hw hl
    unfold M_X5_lock_l20 at h
    refine lv_iload_n hx hb dX5_lock_20 rfl (lv_at hl 2 rfl) ?_
    refine lv_bipush (v := 10) hx hb dX5_lock_21 (by decide) ?_
    refine lv_icmp_gt (tgt := 46) hx hb dX5_lock_23 (by decide) (fun k23 => ?_) (fun k23 => ?_)
    · have h := itt k23 h
      refine lv_iconst (v := -1) hx hb dX5_lock_46 (by decide) ?_
      have h := Option.some.inj h
      subst h
      exact hret () dX5_lock_47 rfl hw
    · have h := itf k23 h
      refine lv_aload_n hx hb dX5_lock_26 rfl (lv_at hl 0 rfl) ?_
      refine RO_g_now X hw 0 rfl kf_X5_12 dX5_lock_27 ?_
      refine lv_iload_n hx hb dX5_lock_30 rfl (lv_at hl 2 rfl) ?_
      obtain ⟨r31, h31, h⟩ := bnd h
      refine g_calli0 (isC := [1]) (gn := fun _ => [wRO g ad (adN 0) aK aD aS aT aL aE z20.1, wEV g adN nw]) (g_runVN (isC := [1]) (rest := []) (As := [.int z20.2]) X hw (c_X0_minutesOfChain l (ad := adN) h31) rfl kM_X0_minutesOfChain ki_X0_minutesOfChain ks_X0_minutesOfChain km_X5_291 ⟨(Nat.le_of_ble_eq_true rfl), (Nat.le_of_ble_eq_true rfl)⟩ ⟨(Nat.le_of_ble_eq_true rfl), (Nat.le_of_ble_eq_true rfl)⟩ rfl rfl ⟨_, _, _, _, rfl, rfl, rfl, rfl⟩ rfl hl.1 rfl (Nat.le_of_ble_eq_true rfl) dX5_lock_31) hw rfl rfl (fun _ => (Nat.le_of_ble_eq_true rfl)) (fun _ => rfl) rfl rfl (fun _ H locs hw => ?_)
      refine lv_iload_n hx hb dX5_lock_34 rfl (lv_at hl 1 rfl) ?_
      refine lv_icmp_lt (tgt := 40) hx hb dX5_lock_35 (by decide) (fun k35 => ?_) (fun k35 => ?_)
      · have h := itt k35 h
        refine lv_iinc (v := (z20.2 + 1)) (lv' := [(2, .int (z20.2 + 1)), (0, .ref (ad 0)), (1, .int p1)]) hx hb dX5_lock_40 hl (k := 2) rfl rfl (by decide) rfl (fun ls hl => ?_)
        refine lv_goto (tgt := 20) hx hb dX5_lock_43 (by decide) ?_
        exact ih20 _ h _ _ _ hw (lv_sub hl [1, 2, 0] rfl)
      · have h := itf k35 h
        refine lv_iload_n hx hb dX5_lock_38 rfl (lv_at hl 2 rfl) ?_
        have h := Option.some.inj h
        subst h
        exact hret () dX5_lock_39 rfl hw
  have J11 : ∀ (z11 : RO), M_X5_lock_j11 N nw p1 z11 = some out → ∀ (H : Heap) (locs : List Loc) (ls : Array Slot), gW g A s.heap [wRO g ad (adN 0) aK aD aS aT aL aE z11, wEV g adN nw] H locs → lv_has ls 3 [(0, .ref (ad 0))] → W p l e R_X5_lock s m args below meth c H locs 0 0 Q (F0 m 11 ls []) := by
    intro z11 h H locs ls hw hl
    unfold M_X5_lock_j11 at h
    refine lv_aload_n hx hb dX5_lock_11 rfl (lv_at hl 0 rfl) ?_
    refine lv_bipush (v := -2) hx hb dX5_lock_12 (by decide) ?_
    obtain ⟨r14, h14, h⟩ := bnd h
    refine g_calli0 (isC := [0]) (gn := fun _ => [wRO g ad (adN 0) aK aD aS aT aL aE r14.2, wEV g adN nw]) (g_runV (isC := [0]) (rest := []) (As := [.int (-2 : Int32)]) X hw (c_X5_refuse l (ad := ad) (aN := (adN 0)) (aK := aK) (aD := aD) (aS := aS) (aT := aT) (aL := aL) (aE := aE) h14) rfl kM_X5_refuse ki_X5_refuse ks_X5_refuse km_X5_62 ⟨(Nat.le_of_ble_eq_true rfl), (Nat.le_of_ble_eq_true rfl)⟩ ⟨(Nat.le_of_ble_eq_true rfl), (Nat.le_of_ble_eq_true rfl)⟩ rfl rfl ⟨_, _, _, _, rfl, rfl, rfl, rfl⟩ rfl hl.1 rfl (Nat.le_of_ble_eq_true rfl) dX5_lock_14) hw rfl rfl (fun _ => (Nat.le_of_ble_eq_true rfl)) (fun _ => rfl) rfl rfl (fun _ H locs hw => ?_)
    have h := Option.some.inj h
    subst h
    exact hret () dX5_lock_17 rfl hw
  unfold M_X5_lock at h
  refine lv_iload_n hx hb dX5_lock_0 rfl (lv_at hl 1 rfl) ?_
  refine lv_if_lt (tgt := 11) hx hb dX5_lock_1 (by decide) (fun k1 => ?_) (fun k1 => ?_)
  · have h := itt k1 h
    exact J11 _ h _ _ _ hw (lv_sub hl [0] rfl)
  · have h := itf k1 h
    refine lv_iload_n hx hb dX5_lock_4 rfl (lv_at hl 1 rfl) ?_
    refine lv_ldcw hx hb X.1.2.2.2.1 (gK1 X _ kq_X5_290) dX5_lock_5 ?_
    refine lv_icmp_le (tgt := 18) hx hb dX5_lock_8 (by decide) (fun k8 => ?_) (fun k8 => ?_)
    · have h := itt k8 h
      refine lv_iconst (v := 1) hx hb dX5_lock_18 (by decide) ?_
      refine lv_istore_n (lv' := [(2, .int (1 : Int32)), (0, .ref (ad 0)), (1, .int p1)]) hx hb dX5_lock_19 rfl hl (by decide) rfl (fun ls hl => ?_)
      exact L20 N _ h _ _ _ hw (lv_sub hl [1, 2, 0] rfl)
    · have h := itf k8 h
      exact J11 _ h _ _ _ hw (lv_sub hl [0] rfl)
theorem kM_X5_drop : kM yX5_drop cX5_drop 1 (some FieldType.int) 0 := ⟨kc_X5_drop, kn_RingsOff, by decide +kernel⟩
abbrev R_X5_drop : Room := { frames := 4, cells := 0, slots := 0, locals := 85 }
set_option maxHeartbeats 4000000 in
set_option maxRecDepth 100000 in
theorem c_X5_drop (l : Launch) {ad : Nat → Nat} {adN : Nat → Nat} {adS : Nat → Nat} {aK : Nat} {aD : Nat} {aT : Nat} {aL : Nat} {aE : Nat} {N : Nat} {ro : RO} {nw : EV} {sh : SH} {out : Int32 × RO × EV × SH} (h : M_X5_drop N ro nw sh = some out) : gM l yX5_drop cX5_drop 1 (some FieldType.int) R_X5_drop (fun _ => [.ref (ad 0)]) (fun g => [wRO g ad (adN 0) aK aD (adS 0) aT aL aE ro, wEV g adN nw, wSH g adS sh]) (gQi (fun (_ : Unit) => out.1) (fun g (_ : Unit) => [wRO g ad (adN 0) aK aD (adS 0) aT aL aE out.2.1, wEV g adN out.2.2.1, wSH g adS out.2.2.2])) := by
  refine gM.ofi (by decide +kernel) (fun _ => Nat.le_of_ble_eq_true rfl) (fun g p e s m args below meth c A ls Q X hret hw hl => ?_)
  have hx := X.1.1
  have hb := X.1.2.1
  have hl : lv_has ls 1 [(0, .ref (ad 0))] := hl
  unfold M_X5_drop at h
  refine lv_aload_n hx hb dX5_drop_0 rfl (lv_at hl 0 rfl) ?_
  refine RO_g_now X hw 0 rfl kf_X5_12 dX5_drop_1 ?_
  refine EV_gn_bars X hw 1 rfl kf_X5_343 dX5_drop_4 ?_
  refine lv_if_ne (tgt := 17) hx hb dX5_drop_7 (by decide) (fun k7 => ?_) (fun k7 => ?_)
  · have h := itt k7 h
    refine lv_aload_n hx hb dX5_drop_17 rfl (lv_at hl 0 rfl) ?_
    refine RO_g_now X hw 0 rfl kf_X5_12 dX5_drop_18 ?_
    refine lv_dup hx hb dX5_drop_21 rfl ?_
    refine EV_gn_bars X hw 1 rfl kf_X5_343 dX5_drop_22 ?_
    refine lv_iconst (v := 1) hx hb dX5_drop_25 (by decide) ?_
    refine lv_isub hx hb dX5_drop_26 ?_
    refine EV_pn_bars (gs' := [wRO g ad (adN 0) aK aD (adS 0) aT aL aE ro, wEV g adN (EV_s_bars nw ((EV_bars nw) - (1 : Int32))), wSH g adS sh]) X hw 1 rfl kf_X5_343 dX5_drop_27 rfl (fun H locs hw => ?_)
    refine lv_aload_n hx hb dX5_drop_30 rfl (lv_at hl 0 rfl) ?_
    refine RO_g_shelves X hw 0 rfl kf_X5_25 dX5_drop_31 ?_
    refine lv_aload_n hx hb dX5_drop_34 rfl (lv_at hl 0 rfl) ?_
    refine RO_g_now X hw 0 rfl kf_X5_12 dX5_drop_35 ?_
    refine EV_gn_bars X hw 1 rfl kf_X5_343 dX5_drop_38 ?_
    obtain ⟨r41, h41, h⟩ := bnd h
    refine g_callv0 (isC := [2]) (gn := fun _ => [wRO g ad (adN 0) aK aD (adS 0) aT aL aE ro, wEV g adN (EV_s_bars nw ((EV_bars nw) - (1 : Int32))), wSH g adS r41]) (g_runVN (isC := [2]) (rest := []) (As := [.int (EV_bars (EV_s_bars nw ((EV_bars nw) - (1 : Int32))))]) X hw (c_X3_freeBarsFrom l (ad := adS) h41) rfl kM_X3_freeBarsFrom ki_X3_freeBarsFrom ks_X3_freeBarsFrom km_X5_346 ⟨(Nat.le_of_ble_eq_true rfl), (Nat.le_of_ble_eq_true rfl)⟩ ⟨(Nat.le_of_ble_eq_true rfl), (Nat.le_of_ble_eq_true rfl)⟩ rfl rfl ⟨_, _, _, _, rfl, rfl, rfl, rfl⟩ rfl hl.1 rfl (Nat.le_of_ble_eq_true rfl) dX5_drop_41) hw rfl rfl (fun _ => (Nat.le_of_ble_eq_true rfl)) (fun _ => rfl) rfl rfl (fun _ H locs hw => ?_)
    refine lv_aload_n hx hb dX5_drop_44 rfl (lv_at hl 0 rfl) ?_
    refine RO_g_now X hw 0 rfl kf_X5_12 dX5_drop_45 ?_
    refine EV_gn_bars X hw 1 rfl kf_X5_343 dX5_drop_48 ?_
    have h := Option.some.inj h
    subst h
    exact hret () dX5_drop_51 rfl hw
  · have h := itf (fun z => z k7) h
    refine lv_aload_n hx hb dX5_drop_10 rfl (lv_at hl 0 rfl) ?_
    refine lv_bipush (v := -5) hx hb dX5_drop_11 (by decide) ?_
    obtain ⟨r13, h13, h⟩ := bnd h
    refine g_calli0 (isC := [0]) (gn := fun _ => [wRO g ad (adN 0) aK aD (adS 0) aT aL aE r13.2, wEV g adN nw, wSH g adS sh]) (g_runV (isC := [0]) (rest := []) (As := [.int (-5 : Int32)]) X hw (c_X5_refuse l (ad := ad) (aN := (adN 0)) (aK := aK) (aD := aD) (aS := (adS 0)) (aT := aT) (aL := aL) (aE := aE) h13) rfl kM_X5_refuse ki_X5_refuse ks_X5_refuse km_X5_62 ⟨(Nat.le_of_ble_eq_true rfl), (Nat.le_of_ble_eq_true rfl)⟩ ⟨(Nat.le_of_ble_eq_true rfl), (Nat.le_of_ble_eq_true rfl)⟩ rfl rfl ⟨_, _, _, _, rfl, rfl, rfl, rfl⟩ rfl hl.1 rfl (Nat.le_of_ble_eq_true rfl) dX5_drop_13) hw rfl rfl (fun _ => (Nat.le_of_ble_eq_true rfl)) (fun _ => rfl) rfl rfl (fun _ H locs hw => ?_)
    have h := Option.some.inj h
    subst h
    exact hret () dX5_drop_16 rfl hw
theorem kM_X5_back : kM yX5_back cX5_back 1 (some FieldType.int) 0 := ⟨kc_X5_back, kn_RingsOff, by decide +kernel⟩
abbrev R_X5_back : Room := { frames := 4, cells := 0, slots := 0, locals := 85 }
set_option maxHeartbeats 4000000 in
set_option maxRecDepth 100000 in
theorem c_X5_back (l : Launch) {ad : Nat → Nat} {adN : Nat → Nat} {adK : Nat → Nat} {adS : Nat → Nat} {aD : Nat} {aT : Nat} {aL : Nat} {aE : Nat} {N : Nat} {ro : RO} {nw : EV} {kp : EV} {sh : SH} {out : Int32 × RO × EV × SH} (h : M_X5_back N ro nw kp sh = some out) : gM l yX5_back cX5_back 1 (some FieldType.int) R_X5_back (fun _ => [.ref (ad 0)]) (fun g => [wRO g ad (adN 0) (adK 0) aD (adS 0) aT aL aE ro, wEV g adN nw, wEV g adK kp, wSH g adS sh]) (gQi (fun (_ : Unit) => out.1) (fun g (_ : Unit) => [wRO g ad (adN 0) (adK 0) aD (adS 0) aT aL aE out.2.1, wEV g adN out.2.2.1, wEV g adK kp, wSH g adS out.2.2.2])) := by
  refine gM.ofi (by decide +kernel) (fun _ => Nat.le_of_ble_eq_true rfl) (fun g p e s m args below meth c A ls Q X hret hw hl => ?_)
  have hx := X.1.1
  have hb := X.1.2.1
  have hl : lv_has ls 1 [(0, .ref (ad 0))] := hl
  unfold M_X5_back at h
  refine lv_aload_n hx hb dX5_back_0 rfl (lv_at hl 0 rfl) ?_
  refine RO_g_imageStands X hw 0 rfl kf_X5_54 dX5_back_1 ?_
  refine lv_if_ne (tgt := 14) hx hb dX5_back_4 (by decide) (fun k4 => ?_) (fun k4 => ?_)
  · have h := itt k4 h
    refine lv_aload_n hx hb dX5_back_14 rfl (lv_at hl 0 rfl) ?_
    refine RO_g_now X hw 0 rfl kf_X5_12 dX5_back_15 ?_
    refine lv_aload_n hx hb dX5_back_18 rfl (lv_at hl 0 rfl) ?_
    refine RO_g_kept X hw 0 rfl kf_X5_16 dX5_back_19 ?_
    obtain ⟨r22, h22, h⟩ := bnd h
    refine g_callv0 (isC := [1, 2]) (gn := fun _ => [wRO g ad (adN 0) (adK 0) aD (adS 0) aT aL aE ro, wEV g adN r22, wEV g adK kp, wSH g adS sh]) (g_runVN (isC := [1, 2]) (rest := []) (As := [.ref (adK 0)]) X hw (c_X0_become l (ad := adN) (ad1 := adK) h22) rfl kM_X0_become ki_X0_become ks_X0_become km_X5_209 ⟨(Nat.le_of_ble_eq_true rfl), (Nat.le_of_ble_eq_true rfl)⟩ ⟨(Nat.le_of_ble_eq_true rfl), (Nat.le_of_ble_eq_true rfl)⟩ rfl rfl ⟨_, _, _, _, rfl, rfl, rfl, rfl⟩ rfl hl.1 rfl (Nat.le_of_ble_eq_true rfl) dX5_back_22) hw rfl rfl (fun _ => (Nat.le_of_ble_eq_true rfl)) (fun _ => rfl) rfl rfl (fun _ H locs hw => ?_)
    refine lv_aload_n hx hb dX5_back_25 rfl (lv_at hl 0 rfl) ?_
    refine RO_g_shelves X hw 0 rfl kf_X5_25 dX5_back_26 ?_
    refine lv_aload_n hx hb dX5_back_29 rfl (lv_at hl 0 rfl) ?_
    refine RO_g_now X hw 0 rfl kf_X5_12 dX5_back_30 ?_
    refine EV_gn_bars X hw 1 rfl kf_X5_343 dX5_back_33 ?_
    obtain ⟨r36, h36, h⟩ := bnd h
    refine g_callv0 (isC := [3]) (gn := fun _ => [wRO g ad (adN 0) (adK 0) aD (adS 0) aT aL aE ro, wEV g adN r22, wEV g adK kp, wSH g adS r36]) (g_runVN (isC := [3]) (rest := []) (As := [.int (EV_bars r22)]) X hw (c_X3_freeBarsFrom l (ad := adS) h36) rfl kM_X3_freeBarsFrom ki_X3_freeBarsFrom ks_X3_freeBarsFrom km_X5_346 ⟨(Nat.le_of_ble_eq_true rfl), (Nat.le_of_ble_eq_true rfl)⟩ ⟨(Nat.le_of_ble_eq_true rfl), (Nat.le_of_ble_eq_true rfl)⟩ rfl rfl ⟨_, _, _, _, rfl, rfl, rfl, rfl⟩ rfl hl.1 rfl (Nat.le_of_ble_eq_true rfl) dX5_back_36) hw rfl rfl (fun _ => (Nat.le_of_ble_eq_true rfl)) (fun _ => rfl) rfl rfl (fun _ H locs hw => ?_)
    refine lv_iconst (v := 1) hx hb dX5_back_39 (by decide) ?_
    have h := Option.some.inj h
    subst h
    exact hret () dX5_back_40 rfl hw
  · have h := itf (fun z => z k4) h
    refine lv_aload_n hx hb dX5_back_7 rfl (lv_at hl 0 rfl) ?_
    refine lv_bipush (v := -5) hx hb dX5_back_8 (by decide) ?_
    obtain ⟨r10, h10, h⟩ := bnd h
    refine g_calli0 (isC := [0]) (gn := fun _ => [wRO g ad (adN 0) (adK 0) aD (adS 0) aT aL aE r10.2, wEV g adN nw, wEV g adK kp, wSH g adS sh]) (g_runV (isC := [0]) (rest := []) (As := [.int (-5 : Int32)]) X hw (c_X5_refuse l (ad := ad) (aN := (adN 0)) (aK := (adK 0)) (aD := aD) (aS := (adS 0)) (aT := aT) (aL := aL) (aE := aE) h10) rfl kM_X5_refuse ki_X5_refuse ks_X5_refuse km_X5_62 ⟨(Nat.le_of_ble_eq_true rfl), (Nat.le_of_ble_eq_true rfl)⟩ ⟨(Nat.le_of_ble_eq_true rfl), (Nat.le_of_ble_eq_true rfl)⟩ rfl rfl ⟨_, _, _, _, rfl, rfl, rfl, rfl⟩ rfl hl.1 rfl (Nat.le_of_ble_eq_true rfl) dX5_back_10) hw rfl rfl (fun _ => (Nat.le_of_ble_eq_true rfl)) (fun _ => rfl) rfl rfl (fun _ H locs hw => ?_)
    have h := Option.some.inj h
    subst h
    exact hret () dX5_back_13 rfl hw
theorem kM_X5_status : kM yX5_status cX5_status 2 (some FieldType.int) 1 := ⟨kc_X5_status, kn_RingsOff, by decide +kernel⟩
abbrev R_X5_status : Room := { frames := 4, cells := 0, slots := 0, locals := 84 }
set_option maxHeartbeats 4000000 in
set_option maxRecDepth 100000 in
theorem c_X5_status (l : Launch) {ad : Nat → Nat} {adN : Nat → Nat} {adS : Nat → Nat} {adT : Nat → Nat} {aK : Nat} {aD : Nat} {aL : Nat} {aE : Nat} {N : Nat} {ro : RO} {nw : EV} {sh : SH} {tp : TP} {p1 : Int32} {out : Int32} (h : M_X5_status N ro nw sh tp p1 = some out) : gM l yX5_status cX5_status 2 (some FieldType.int) R_X5_status (fun _ => [.ref (ad 0), .int p1]) (fun g => [wRO g ad (adN 0) aK aD (adS 0) (adT 0) aL aE ro, wEV g adN nw, wSH g adS sh, wTP g adT tp]) (gQi (fun (_ : Unit) => out) (fun g (_ : Unit) => [wRO g ad (adN 0) aK aD (adS 0) (adT 0) aL aE ro, wEV g adN nw, wSH g adS sh, wTP g adT tp])) := by
  refine gM.ofi (by decide +kernel) (fun _ => Nat.le_of_ble_eq_true rfl) (fun g p e s m args below meth c A ls Q X hret hw hl => ?_)
  have hx := X.1.1
  have hb := X.1.2.1
  have hl : lv_has ls 2 [(0, .ref (ad 0)), (1, .int p1)] := hl
  unfold M_X5_status at h
  refine lv_iload_n hx hb dX5_status_0 rfl (lv_at hl 1 rfl) ?_
  by_cases k1_0 : p1 = 0
  · have h := itt k1_0 h
    refine lv_tableIn (off := 47) (tgt := 48) hx hb dX5_status_1 (by rw [k1_0]; decide) (by rw [k1_0]; decide) (by rw [k1_0]; rfl) (by decide) ?_
    refine lv_aload_n hx hb dX5_status_48 rfl (lv_at hl 0 rfl) ?_
    refine RO_g_now X hw 0 rfl kf_X5_12 dX5_status_49 ?_
    refine EV_gn_bars X hw 1 rfl kf_X5_343 dX5_status_52 ?_
    have h := Option.some.inj h
    subst h
    exact hret () dX5_status_55 rfl hw
  have h := itf k1_0 h
  by_cases k1_1 : p1 = 1
  · have h := itt k1_1 h
    refine lv_tableIn (off := 55) (tgt := 56) hx hb dX5_status_1 (by rw [k1_1]; decide) (by rw [k1_1]; decide) (by rw [k1_1]; rfl) (by decide) ?_
    refine lv_aload_n hx hb dX5_status_56 rfl (lv_at hl 0 rfl) ?_
    refine RO_g_now X hw 0 rfl kf_X5_12 dX5_status_57 ?_
    obtain ⟨r60, h60, h⟩ := bnd h
    refine g_calli0 (isC := [1]) (gn := fun _ => [wRO g ad (adN 0) aK aD (adS 0) (adT 0) aL aE ro, wEV g adN nw, wSH g adS sh, wTP g adT tp]) (g_runVN (isC := [1]) (rest := []) (As := []) X hw (c_X0_ringsOn l (ad := adN) h60) rfl kM_X0_ringsOn ki_X0_ringsOn ks_X0_ringsOn km_X5_352 ⟨(Nat.le_of_ble_eq_true rfl), (Nat.le_of_ble_eq_true rfl)⟩ ⟨(Nat.le_of_ble_eq_true rfl), (Nat.le_of_ble_eq_true rfl)⟩ rfl rfl ⟨_, _, _, _, rfl, rfl, rfl, rfl⟩ rfl hl.1 rfl (Nat.le_of_ble_eq_true rfl) dX5_status_60) hw rfl rfl (fun _ => (Nat.le_of_ble_eq_true rfl)) (fun _ => rfl) rfl rfl (fun _ H locs hw => ?_)
    have h := Option.some.inj h
    subst h
    exact hret () dX5_status_63 rfl hw
  have h := itf k1_1 h
  by_cases k1_2 : p1 = 2
  · have h := itt k1_2 h
    refine lv_tableIn (off := 63) (tgt := 64) hx hb dX5_status_1 (by rw [k1_2]; decide) (by rw [k1_2]; decide) (by rw [k1_2]; rfl) (by decide) ?_
    refine lv_aload_n hx hb dX5_status_64 rfl (lv_at hl 0 rfl) ?_
    refine RO_g_now X hw 0 rfl kf_X5_12 dX5_status_65 ?_
    obtain ⟨r68, h68, h⟩ := bnd h
    refine g_calli0 (isC := [1]) (gn := fun _ => [wRO g ad (adN 0) aK aD (adS 0) (adT 0) aL aE ro, wEV g adN nw, wSH g adS sh, wTP g adT tp]) (g_runVN (isC := [1]) (rest := []) (As := []) X hw (c_X0_ringsStuck l (ad := adN) h68) rfl kM_X0_ringsStuck ki_X0_ringsStuck ks_X0_ringsStuck km_X5_355 ⟨(Nat.le_of_ble_eq_true rfl), (Nat.le_of_ble_eq_true rfl)⟩ ⟨(Nat.le_of_ble_eq_true rfl), (Nat.le_of_ble_eq_true rfl)⟩ rfl rfl ⟨_, _, _, _, rfl, rfl, rfl, rfl⟩ rfl hl.1 rfl (Nat.le_of_ble_eq_true rfl) dX5_status_68) hw rfl rfl (fun _ => (Nat.le_of_ble_eq_true rfl)) (fun _ => rfl) rfl rfl (fun _ H locs hw => ?_)
    have h := Option.some.inj h
    subst h
    exact hret () dX5_status_71 rfl hw
  have h := itf k1_2 h
  by_cases k1_3 : p1 = 3
  · have h := itt k1_3 h
    refine lv_tableIn (off := 71) (tgt := 72) hx hb dX5_status_1 (by rw [k1_3]; decide) (by rw [k1_3]; decide) (by rw [k1_3]; rfl) (by decide) ?_
    refine lv_aload_n hx hb dX5_status_72 rfl (lv_at hl 0 rfl) ?_
    refine RO_g_now X hw 0 rfl kf_X5_12 dX5_status_73 ?_
    refine EV_gn_moved X hw 1 rfl kf_X5_358 dX5_status_76 ?_
    have h := Option.some.inj h
    subst h
    exact hret () dX5_status_79 rfl hw
  have h := itf k1_3 h
  by_cases k1_4 : p1 = 4
  · have h := itt k1_4 h
    refine lv_tableIn (off := 79) (tgt := 80) hx hb dX5_status_1 (by rw [k1_4]; decide) (by rw [k1_4]; decide) (by rw [k1_4]; rfl) (by decide) ?_
    refine lv_aload_n hx hb dX5_status_80 rfl (lv_at hl 0 rfl) ?_
    refine RO_g_now X hw 0 rfl kf_X5_12 dX5_status_81 ?_
    obtain ⟨r84, h84, h⟩ := bnd h
    refine g_calli0 (isC := [1]) (gn := fun _ => [wRO g ad (adN 0) aK aD (adS 0) (adT 0) aL aE ro, wEV g adN nw, wSH g adS sh, wTP g adT tp]) (g_runVN (isC := [1]) (rest := []) (As := []) X hw (c_X0_allMinutes l (ad := adN) h84) rfl kM_X0_allMinutes ki_X0_allMinutes ks_X0_allMinutes km_X5_361 ⟨(Nat.le_of_ble_eq_true rfl), (Nat.le_of_ble_eq_true rfl)⟩ ⟨(Nat.le_of_ble_eq_true rfl), (Nat.le_of_ble_eq_true rfl)⟩ rfl rfl ⟨_, _, _, _, rfl, rfl, rfl, rfl⟩ rfl hl.1 rfl (Nat.le_of_ble_eq_true rfl) dX5_status_84) hw rfl rfl (fun _ => (Nat.le_of_ble_eq_true rfl)) (fun _ => rfl) rfl rfl (fun _ H locs hw => ?_)
    have h := Option.some.inj h
    subst h
    exact hret () dX5_status_87 rfl hw
  have h := itf k1_4 h
  by_cases k1_5 : p1 = 5
  · have h := itt k1_5 h
    refine lv_tableIn (off := 87) (tgt := 88) hx hb dX5_status_1 (by rw [k1_5]; decide) (by rw [k1_5]; decide) (by rw [k1_5]; rfl) (by decide) ?_
    refine lv_aload_n hx hb dX5_status_88 rfl (lv_at hl 0 rfl) ?_
    refine RO_g_tape X hw 0 rfl kf_X5_32 dX5_status_89 ?_
    refine TP_gn_size X hw 3 rfl kf_X5_202 dX5_status_92 ?_
    have h := Option.some.inj h
    subst h
    exact hret () dX5_status_95 rfl hw
  have h := itf k1_5 h
  by_cases k1_6 : p1 = 6
  · have h := itt k1_6 h
    refine lv_tableIn (off := 95) (tgt := 96) hx hb dX5_status_1 (by rw [k1_6]; decide) (by rw [k1_6]; decide) (by rw [k1_6]; rfl) (by decide) ?_
    refine lv_aload_n hx hb dX5_status_96 rfl (lv_at hl 0 rfl) ?_
    refine RO_g_now X hw 0 rfl kf_X5_12 dX5_status_97 ?_
    refine EV_gn_seed X hw 1 rfl kf_X5_349 dX5_status_100 ?_
    have h := Option.some.inj h
    subst h
    exact hret () dX5_status_103 rfl hw
  have h := itf k1_6 h
  by_cases k1_7 : p1 = 7
  · have h := itt k1_7 h
    refine lv_tableIn (off := 103) (tgt := 104) hx hb dX5_status_1 (by rw [k1_7]; decide) (by rw [k1_7]; decide) (by rw [k1_7]; rfl) (by decide) ?_
    refine lv_aload_n hx hb dX5_status_104 rfl (lv_at hl 0 rfl) ?_
    refine RO_g_shelves X hw 0 rfl kf_X5_25 dX5_status_105 ?_
    obtain ⟨r108, h108, h⟩ := bnd h
    refine g_calli0 (isC := [2]) (gn := fun _ => [wRO g ad (adN 0) aK aD (adS 0) (adT 0) aL aE ro, wEV g adN nw, wSH g adS sh, wTP g adT tp]) (g_runVN (isC := [2]) (rest := []) (As := []) X hw (c_X3_countHeld l (ad := adS) h108) rfl kM_X3_countHeld ki_X3_countHeld ks_X3_countHeld km_X5_364 ⟨(Nat.le_of_ble_eq_true rfl), (Nat.le_of_ble_eq_true rfl)⟩ ⟨(Nat.le_of_ble_eq_true rfl), (Nat.le_of_ble_eq_true rfl)⟩ rfl rfl ⟨_, _, _, _, rfl, rfl, rfl, rfl⟩ rfl hl.1 rfl (Nat.le_of_ble_eq_true rfl) dX5_status_108) hw rfl rfl (fun _ => (Nat.le_of_ble_eq_true rfl)) (fun _ => rfl) rfl rfl (fun _ H locs hw => ?_)
    have h := Option.some.inj h
    subst h
    exact hret () dX5_status_111 rfl hw
  have h := itf k1_7 h
  refine lv_tableOut (tgt := 112) hx hb dX5_status_1 (g_out (lo := 0) (hi := 7) p1 (fun q h1 h2 => ?_)) (by decide) ?_
  · rcases (show q = 0 ∨ q = 1 ∨ q = 2 ∨ q = 3 ∨ q = 4 ∨ q = 5 ∨ q = 6 ∨ q = 7 by omega) with rfl | rfl | rfl | rfl | rfl | rfl | rfl | rfl        
    · exact fun e => k1_0 (Int32.toInt_inj.mp (e.trans rfl))
    · exact fun e => k1_1 (Int32.toInt_inj.mp (e.trans rfl))
    · exact fun e => k1_2 (Int32.toInt_inj.mp (e.trans rfl))
    · exact fun e => k1_3 (Int32.toInt_inj.mp (e.trans rfl))
    · exact fun e => k1_4 (Int32.toInt_inj.mp (e.trans rfl))
    · exact fun e => k1_5 (Int32.toInt_inj.mp (e.trans rfl))
    · exact fun e => k1_6 (Int32.toInt_inj.mp (e.trans rfl))
    · exact fun e => k1_7 (Int32.toInt_inj.mp (e.trans rfl))
  refine lv_iload_n hx hb dX5_status_112 rfl (lv_at hl 1 rfl) ?_
  refine lv_bipush (v := 12) hx hb dX5_status_113 (by decide) ?_
  refine lv_icmp_lt (tgt := 142) hx hb dX5_status_115 (by decide) (fun k115 => ?_) (fun k115 => ?_)
  · have h := itt k115 h
    refine lv_iconst (v := -1) hx hb dX5_status_142 (by decide) ?_
    have h := Option.some.inj h
    subst h
    exact hret () dX5_status_143 rfl hw
  · have h := itf k115 h
    refine lv_iload_n hx hb dX5_status_118 rfl (lv_at hl 1 rfl) ?_
    refine lv_bipush (v := 12) hx hb dX5_status_119 (by decide) ?_
    refine lv_isub hx hb dX5_status_121 ?_
    refine lv_aload_n hx hb dX5_status_122 rfl (lv_at hl 0 rfl) ?_
    refine RO_g_refusals X hw 0 rfl kf_X5_50 dX5_status_123 ?_
    refine RO_n_refusals X hw 0 rfl dX5_status_126 ?_
    refine lv_icmp_ge (tgt := 142) hx hb dX5_status_127 (by decide) (fun k127 => ?_) (fun k127 => ?_)
    · have h := itt k127 h
      refine lv_iconst (v := -1) hx hb dX5_status_142 (by decide) ?_
      have h := Option.some.inj h
      subst h
      exact hret () dX5_status_143 rfl hw
    · have h := itf k127 h
      refine lv_aload_n hx hb dX5_status_130 rfl (lv_at hl 0 rfl) ?_
      refine RO_g_refusals X hw 0 rfl kf_X5_50 dX5_status_131 ?_
      refine lv_iload_n hx hb dX5_status_134 rfl (lv_at hl 1 rfl) ?_
      refine lv_bipush (v := 12) hx hb dX5_status_135 (by decide) ?_
      refine lv_isub hx hb dX5_status_137 ?_
      obtain ⟨q138, h⟩ := chk h
      refine RO_l_refusals X hw 0 rfl q138 dX5_status_138 ?_
      refine lv_goto (tgt := 143) hx hb dX5_status_139 (by decide) ?_
      have h := Option.some.inj h
      subst h
      exact hret () dX5_status_143 rfl hw
theorem kM_X5_onBehind : kM yX5_onBehind cX5_onBehind 6 (some FieldType.int) 3 := ⟨kc_X5_onBehind, kn_RingsOff, by decide +kernel⟩
abbrev R_X5_onBehind : Room := { frames := 3, cells := 0, slots := 0, locals := 66 }
set_option maxHeartbeats 4000000 in
set_option maxRecDepth 100000 in
theorem c_X5_onBehind (l : Launch) {ad : Nat → Nat} {adN : Nat → Nat} {adS : Nat → Nat} {aK : Nat} {aD : Nat} {aT : Nat} {aL : Nat} {aE : Nat} {N : Nat} {ro : RO} {nw : EV} {sh : SH} {p1 : Int32} {p2 : Int32} {p3 : Int32} {out : Int32} (h : M_X5_onBehind N ro nw sh p1 p2 p3 = some out) : gM l yX5_onBehind cX5_onBehind 6 (some FieldType.int) R_X5_onBehind (fun _ => [.ref (ad 0), .int p1, .int p2, .int p3]) (fun g => [wRO g ad (adN 0) aK aD (adS 0) aT aL aE ro, wEV g adN nw, wSH g adS sh]) (gQi (fun (_ : Unit) => out) (fun g (_ : Unit) => [wRO g ad (adN 0) aK aD (adS 0) aT aL aE ro, wEV g adN nw, wSH g adS sh])) := by
  refine gM.ofi (by decide +kernel) (fun _ => Nat.le_of_ble_eq_true rfl) (fun g p e s m args below meth c A ls Q X hret hw hl => ?_)
  have hx := X.1.1
  have hb := X.1.2.1
  have hl : lv_has ls 6 [(0, .ref (ad 0)), (1, .int p1), (2, .int p2), (3, .int p3)] := hl
  have L13 : ∀ (n : Nat) (z13 : Int32 × Int32), lp (M_X5_onBehind_l13 N ro nw sh p1 p2 p3) n z13 = some out → ∀ (H : Heap) (locs : List Loc) (ls : Array Slot), gW g A s.heap [wRO g ad (adN 0) aK aD (adS 0) aT aL aE ro, wEV g adN nw, wSH g adS sh] H locs → lv_has ls 6 [(0, .ref (ad 0)), (1, .int p1), (2, .int p2), (4, .int z13.1), (5, .int z13.2)] → W p l e R_X5_onBehind s m args below meth c H locs 0 0 Q (F0 m 13 ls []) := by
    refine lp_ind ?_
    intro rec13 ih13
    intro z13 h H locs ls hw hl
    unfold M_X5_onBehind_l13 at h
    refine lv_iload hx hb dX5_onBehind_13 (lv_at hl 4 rfl) ?_
    refine lv_iload_n hx hb dX5_onBehind_15 rfl (lv_at hl 2 rfl) ?_
    refine lv_icmp_ge (tgt := 44) hx hb dX5_onBehind_16 (by decide) (fun k16 => ?_) (fun k16 => ?_)
    · have h := itt k16 h
      refine lv_iload hx hb dX5_onBehind_44 (lv_at hl 3 rfl) ?_
      have h := Option.some.inj h
      subst h
      exact hret () dX5_onBehind_46 rfl hw
    · have h := itf k16 h
      refine lv_iload hx hb dX5_onBehind_19 (lv_at hl 3 rfl) ?_
      refine lv_aload_n hx hb dX5_onBehind_21 rfl (lv_at hl 0 rfl) ?_
      refine RO_g_shelves X hw 0 rfl kf_X5_25 dX5_onBehind_22 ?_
      refine lv_iload_n hx hb dX5_onBehind_25 rfl (lv_at hl 1 rfl) ?_
      refine lv_iload hx hb dX5_onBehind_26 (lv_at hl 4 rfl) ?_
      obtain ⟨r28, h28, h⟩ := bnd h
      refine g_calll0 (isC := [2]) (gn := fun _ => [wRO g ad (adN 0) aK aD (adS 0) aT aL aE ro, wEV g adN nw, wSH g adS sh]) (g_runVN (isC := [2]) (rest := [.int z13.1]) (As := [.int p1, .int z13.2]) X hw (c_X3_cell l (ad := adS) h28) rfl kM_X3_cell ki_X3_cell ks_X3_cell km_X5_92 ⟨(Nat.le_of_ble_eq_true rfl), (Nat.le_of_ble_eq_true rfl)⟩ ⟨(Nat.le_of_ble_eq_true rfl), (Nat.le_of_ble_eq_true rfl)⟩ rfl rfl ⟨_, _, _, _, rfl, rfl, rfl, rfl⟩ rfl hl.1 rfl (Nat.le_of_ble_eq_true rfl) dX5_onBehind_28) hw rfl rfl (fun _ => (Nat.le_of_ble_eq_true rfl)) (fun _ => rfl) rfl rfl (fun _ H locs hw => ?_)
      refine lv_l2i (v := r28.toInt32) hx hb dX5_onBehind_31 rfl ?_
      obtain ⟨r32, h32, h⟩ := bnd h
      refine g_calli0 (isC := []) (gn := fun _ => [wRO g ad (adN 0) aK aD (adS 0) aT aL aE ro, wEV g adN nw, wSH g adS sh]) (g_runS (isC := []) (rest := [.int z13.1]) (As := [.int r28.toInt32]) X hw (c_X5_ringsOf l h32) rfl kM_X5_ringsOf kt_X5_ringsOf km_X5_232 ⟨(Nat.le_of_ble_eq_true rfl), (Nat.le_of_ble_eq_true rfl)⟩ ⟨(Nat.le_of_ble_eq_true rfl), (Nat.le_of_ble_eq_true rfl)⟩ rfl rfl rfl hl.1 rfl (Nat.le_of_ble_eq_true rfl) dX5_onBehind_32) hw rfl rfl (fun _ => (Nat.le_of_ble_eq_true rfl)) (fun _ => rfl) rfl rfl (fun _ H locs hw => ?_)
      refine lv_ixor hx hb dX5_onBehind_35 ?_
      refine lv_istore (lv' := [(4, .int (z13.1 ^^^ r32)), (0, .ref (ad 0)), (1, .int p1), (2, .int p2), (5, .int z13.2)]) hx hb dX5_onBehind_36 hl (by decide) rfl (fun ls hl => ?_)
      refine lv_iinc (v := (z13.2 + 1)) (lv' := [(5, .int (z13.2 + 1)), (4, .int (z13.1 ^^^ r32)), (0, .ref (ad 0)), (1, .int p1), (2, .int p2)]) hx hb dX5_onBehind_38 hl (k := 4) rfl rfl (by decide) rfl (fun ls hl => ?_)
      refine lv_goto (tgt := 13) hx hb dX5_onBehind_41 (by decide) ?_
      exact ih13 _ h _ _ _ hw (lv_sub hl [2, 3, 4, 1, 0] rfl)
  unfold M_X5_onBehind at h
  refine lv_aload_n hx hb dX5_onBehind_0 rfl (lv_at hl 0 rfl) ?_
  refine RO_g_now X hw 0 rfl kf_X5_12 dX5_onBehind_1 ?_
  refine lv_iload_n hx hb dX5_onBehind_4 rfl (lv_at hl 3 rfl) ?_
  obtain ⟨r5, h5, h⟩ := bnd h
  refine g_calli0 (isC := [1]) (gn := fun _ => [wRO g ad (adN 0) aK aD (adS 0) aT aL aE ro, wEV g adN nw, wSH g adS sh]) (g_runVN (isC := [1]) (rest := []) (As := [.int p3]) X hw (c_X0_onOf l (ad := adN) h5) rfl kM_X0_onOf ki_X0_onOf ks_X0_onOf km_X5_122 ⟨(Nat.le_of_ble_eq_true rfl), (Nat.le_of_ble_eq_true rfl)⟩ ⟨(Nat.le_of_ble_eq_true rfl), (Nat.le_of_ble_eq_true rfl)⟩ rfl rfl ⟨_, _, _, _, rfl, rfl, rfl, rfl⟩ rfl hl.1 rfl (Nat.le_of_ble_eq_true rfl) dX5_onBehind_5) hw rfl rfl (fun _ => (Nat.le_of_ble_eq_true rfl)) (fun _ => rfl) rfl rfl (fun _ H locs hw => ?_)
  refine lv_istore (lv' := [(4, .int r5), (0, .ref (ad 0)), (1, .int p1), (2, .int p2), (3, .int p3)]) hx hb dX5_onBehind_8 hl (by decide) rfl (fun ls hl => ?_)
  refine lv_iconst (v := 0) hx hb dX5_onBehind_10 (by decide) ?_
  refine lv_istore (lv' := [(5, .int (0 : Int32)), (4, .int r5), (0, .ref (ad 0)), (1, .int p1), (2, .int p2), (3, .int p3)]) hx hb dX5_onBehind_11 hl (by decide) rfl (fun ls hl => ?_)
  exact L13 N _ h _ _ _ hw (lv_sub hl [2, 3, 4, 1, 0] rfl)
theorem kM_X5_stepsToPicture : kM yX5_stepsToPicture cX5_stepsToPicture 4 (some FieldType.int) 3 := ⟨kc_X5_stepsToPicture, kn_RingsOff, by decide +kernel⟩
abbrev R_X5_stepsToPicture : Room := { frames := 4, cells := 0, slots := 0, locals := 97 }
set_option maxHeartbeats 4000000 in
set_option maxRecDepth 100000 in
theorem c_X5_stepsToPicture (l : Launch) {ad : Nat → Nat} {adN : Nat → Nat} {adS : Nat → Nat} {adE : Nat → Nat} {aK : Nat} {aD : Nat} {aT : Nat} {aL : Nat} {N : Nat} {ro : RO} {nw : EV} {sh : SH} {se : SE} {p1 : Int32} {p2 : Int32} {p3 : Int32} {out : Int32 × SE} (h : M_X5_stepsToPicture N ro nw sh se p1 p2 p3 = some out) : gM l yX5_stepsToPicture cX5_stepsToPicture 4 (some FieldType.int) R_X5_stepsToPicture (fun _ => [.ref (ad 0), .int p1, .int p2, .int p3]) (fun g => [wRO g ad (adN 0) aK aD (adS 0) aT aL (adE 0) ro, wEV g adN nw, wSH g adS sh, wSE g adE se]) (gQi (fun (_ : Unit) => out.1) (fun g (_ : Unit) => [wRO g ad (adN 0) aK aD (adS 0) aT aL (adE 0) ro, wEV g adN nw, wSH g adS sh, wSE g adE out.2])) := by
  refine gM.ofi (by decide +kernel) (fun _ => Nat.le_of_ble_eq_true rfl) (fun g p e s m args below meth c A ls Q X hret hw hl => ?_)
  have hx := X.1.1
  have hb := X.1.2.1
  have hl : lv_has ls 4 [(0, .ref (ad 0)), (1, .int p1), (2, .int p2), (3, .int p3)] := hl
  unfold M_X5_stepsToPicture at h
  refine lv_aload_n hx hb dX5_stepsToPicture_0 rfl (lv_at hl 0 rfl) ?_
  refine RO_g_search X hw 0 rfl kf_X5_46 dX5_stepsToPicture_1 ?_
  refine lv_aload_n hx hb dX5_stepsToPicture_4 rfl (lv_at hl 0 rfl) ?_
  refine RO_g_shelves X hw 0 rfl kf_X5_25 dX5_stepsToPicture_5 ?_
  refine lv_iload_n hx hb dX5_stepsToPicture_8 rfl (lv_at hl 1 rfl) ?_
  refine lv_iload_n hx hb dX5_stepsToPicture_9 rfl (lv_at hl 2 rfl) ?_
  obtain ⟨r10, h10, h⟩ := bnd h
  refine g_calll0 (isC := [2]) (gn := fun _ => [wRO g ad (adN 0) aK aD (adS 0) aT aL (adE 0) ro, wEV g adN nw, wSH g adS sh, wSE g adE se]) (g_runVN (isC := [2]) (rest := [.ref (adE 0)]) (As := [.int p1, .int p2]) X hw (c_X3_cell l (ad := adS) h10) rfl kM_X3_cell ki_X3_cell ks_X3_cell km_X5_92 ⟨(Nat.le_of_ble_eq_true rfl), (Nat.le_of_ble_eq_true rfl)⟩ ⟨(Nat.le_of_ble_eq_true rfl), (Nat.le_of_ble_eq_true rfl)⟩ rfl rfl ⟨_, _, _, _, rfl, rfl, rfl, rfl⟩ rfl hl.1 rfl (Nat.le_of_ble_eq_true rfl) dX5_stepsToPicture_10) hw rfl rfl (fun _ => (Nat.le_of_ble_eq_true rfl)) (fun _ => rfl) rfl rfl (fun _ H locs hw => ?_)
  refine lv_l2i (v := r10.toInt32) hx hb dX5_stepsToPicture_13 rfl ?_
  refine lv_iconst (v := 2) hx hb dX5_stepsToPicture_14 (by decide) ?_
  obtain ⟨r15, h15, h⟩ := bnd h
  refine g_callv0 (isC := [3]) (gn := fun _ => [wRO g ad (adN 0) aK aD (adS 0) aT aL (adE 0) ro, wEV g adN nw, wSH g adS sh, wSE g adE r15]) (g_runVN (isC := [3]) (rest := []) (As := [.int r10.toInt32, .int (2 : Int32)]) X hw (c_X2_spreadAnew l (ad := adE) h15) rfl kM_X2_spreadAnew ki_X2_spreadAnew ks_X2_spreadAnew km_X5_306 ⟨(Nat.le_of_ble_eq_true rfl), (Nat.le_of_ble_eq_true rfl)⟩ ⟨(Nat.le_of_ble_eq_true rfl), (Nat.le_of_ble_eq_true rfl)⟩ rfl rfl ⟨_, _, _, _, rfl, rfl, rfl, rfl⟩ rfl hl.1 rfl (Nat.le_of_ble_eq_true rfl) dX5_stepsToPicture_15) hw rfl rfl (fun _ => (Nat.le_of_ble_eq_true rfl)) (fun _ => rfl) rfl rfl (fun _ H locs hw => ?_)
  refine lv_aload_n hx hb dX5_stepsToPicture_18 rfl (lv_at hl 0 rfl) ?_
  refine RO_g_search X hw 0 rfl kf_X5_46 dX5_stepsToPicture_19 ?_
  refine lv_aload_n hx hb dX5_stepsToPicture_22 rfl (lv_at hl 0 rfl) ?_
  refine lv_iload_n hx hb dX5_stepsToPicture_23 rfl (lv_at hl 1 rfl) ?_
  refine lv_iload_n hx hb dX5_stepsToPicture_24 rfl (lv_at hl 2 rfl) ?_
  refine lv_iload_n hx hb dX5_stepsToPicture_25 rfl (lv_at hl 3 rfl) ?_
  obtain ⟨r26, h26, h⟩ := bnd h
  refine g_calli0 (isC := [0, 1, 2]) (gn := fun _ => [wRO g ad (adN 0) aK aD (adS 0) aT aL (adE 0) ro, wEV g adN nw, wSH g adS sh, wSE g adE r15]) (g_runV (isC := [0, 1, 2]) (rest := [.ref (adE 0)]) (As := [.int p1, .int p2, .int p3]) X hw (c_X5_pictureAhead l (ad := ad) (adN := adN) (adS := adS) (aK := aK) (aD := aD) (aT := aT) (aL := aL) (aE := (adE 0)) h26) rfl kM_X5_pictureAhead ki_X5_pictureAhead ks_X5_pictureAhead km_X5_303 ⟨(Nat.le_of_ble_eq_true rfl), (Nat.le_of_ble_eq_true rfl)⟩ ⟨(Nat.le_of_ble_eq_true rfl), (Nat.le_of_ble_eq_true rfl)⟩ rfl rfl ⟨_, _, _, _, rfl, rfl, rfl, rfl⟩ rfl hl.1 rfl (Nat.le_of_ble_eq_true rfl) dX5_stepsToPicture_26) hw rfl rfl (fun _ => (Nat.le_of_ble_eq_true rfl)) (fun _ => rfl) rfl rfl (fun _ H locs hw => ?_)
  obtain ⟨r29, h29, h⟩ := bnd h
  refine g_calli0 (isC := [3]) (gn := fun _ => [wRO g ad (adN 0) aK aD (adS 0) aT aL (adE 0) ro, wEV g adN nw, wSH g adS sh, wSE g adE r15]) (g_runVN (isC := [3]) (rest := []) (As := [.int r26]) X hw (c_X2_farOf l (ad := adE) h29) rfl kM_X2_farOf ki_X2_farOf ks_X2_farOf km_X5_247 ⟨(Nat.le_of_ble_eq_true rfl), (Nat.le_of_ble_eq_true rfl)⟩ ⟨(Nat.le_of_ble_eq_true rfl), (Nat.le_of_ble_eq_true rfl)⟩ rfl rfl ⟨_, _, _, _, rfl, rfl, rfl, rfl⟩ rfl hl.1 rfl (Nat.le_of_ble_eq_true rfl) dX5_stepsToPicture_29) hw rfl rfl (fun _ => (Nat.le_of_ble_eq_true rfl)) (fun _ => rfl) rfl rfl (fun _ H locs hw => ?_)
  have h := Option.some.inj h
  subst h
  exact hret () dX5_stepsToPicture_32 rfl hw
theorem kM_X5_save : kM yX5_save cX5_save 3 (some FieldType.int) 1 := ⟨kc_X5_save, kn_RingsOff, by decide +kernel⟩
abbrev R_X5_save : Room := { frames := 6, cells := 0, slots := 0, locals := 127 }
set_option maxHeartbeats 4000000 in
set_option maxRecDepth 100000 in
theorem c_X5_save (l : Launch) {ad : Nat → Nat} {adL : Nat → Nat} {adE : Nat → Nat} {aN : Nat} {aK : Nat} {aD : Nat} {aS : Nat} {aT : Nat} {N : Nat} {ro : RO} {lw : LW} {se : SE} {p1 : Int32} {out : Int32 × RO × LW × SE} (h : M_X5_save N ro lw se p1 = some out) : gM l yX5_save cX5_save 3 (some FieldType.int) R_X5_save (fun _ => [.ref (ad 0), .int p1]) (fun g => [wRO g ad aN aK aD aS aT (adL 0) (adE 0) ro, wLW g adL lw, wSE g adE se]) (gQi (fun (_ : Unit) => out.1) (fun g (_ : Unit) => [wRO g ad aN aK aD aS aT (adL 0) (adE 0) out.2.1, wLW g adL out.2.2.1, wSE g adE out.2.2.2])) := by
  refine gM.ofi (by decide +kernel) (fun _ => Nat.le_of_ble_eq_true rfl) (fun g p e s m args below meth c A ls Q X hret hw hl => ?_)
  have hx := X.1.1
  have hb := X.1.2.1
  have hl : lv_has ls 3 [(0, .ref (ad 0)), (1, .int p1)] := hl
  have J11 : ∀ (z11 : RO × LW × SE), M_X5_save_j11 N p1 z11 = some out → ∀ (H : Heap) (locs : List Loc) (ls : Array Slot), gW g A s.heap [wRO g ad aN aK aD aS aT (adL 0) (adE 0) z11.1, wLW g adL z11.2.1, wSE g adE z11.2.2] H locs → lv_has ls 3 [(0, .ref (ad 0))] → W p l e R_X5_save s m args below meth c H locs 0 0 Q (F0 m 11 ls []) := by
    intro z11 h H locs ls hw hl
    unfold M_X5_save_j11 at h
    refine lv_aload_n hx hb dX5_save_11 rfl (lv_at hl 0 rfl) ?_
    refine lv_bipush (v := -2) hx hb dX5_save_12 (by decide) ?_
    obtain ⟨r14, h14, h⟩ := bnd h
    refine g_calli0 (isC := [0]) (gn := fun _ => [wRO g ad aN aK aD aS aT (adL 0) (adE 0) r14.2, wLW g adL z11.2.1, wSE g adE z11.2.2]) (g_runV (isC := [0]) (rest := []) (As := [.int (-2 : Int32)]) X hw (c_X5_refuse l (ad := ad) (aN := aN) (aK := aK) (aD := aD) (aS := aS) (aT := aT) (aL := (adL 0)) (aE := (adE 0)) h14) rfl kM_X5_refuse ki_X5_refuse ks_X5_refuse km_X5_62 ⟨(Nat.le_of_ble_eq_true rfl), (Nat.le_of_ble_eq_true rfl)⟩ ⟨(Nat.le_of_ble_eq_true rfl), (Nat.le_of_ble_eq_true rfl)⟩ rfl rfl ⟨_, _, _, _, rfl, rfl, rfl, rfl⟩ rfl hl.1 rfl (Nat.le_of_ble_eq_true rfl) dX5_save_14) hw rfl rfl (fun _ => (Nat.le_of_ble_eq_true rfl)) (fun _ => rfl) rfl rfl (fun _ H locs hw => ?_)
    have h := Option.some.inj h
    subst h
    exact hret () dX5_save_17 rfl hw
  unfold M_X5_save at h
  refine lv_iload_n hx hb dX5_save_0 rfl (lv_at hl 1 rfl) ?_
  refine lv_iconst (v := 1) hx hb dX5_save_1 (by decide) ?_
  refine lv_icmp_lt (tgt := 11) hx hb dX5_save_2 (by decide) (fun k2 => ?_) (fun k2 => ?_)
  · have h := itt k2 h
    exact J11 _ h _ _ _ hw (lv_sub hl [0] rfl)
  · have h := itf k2 h
    refine lv_iload_n hx hb dX5_save_5 rfl (lv_at hl 1 rfl) ?_
    refine lv_bipush (v := 10) hx hb dX5_save_6 (by decide) ?_
    refine lv_icmp_le (tgt := 18) hx hb dX5_save_8 (by decide) (fun k8 => ?_) (fun k8 => ?_)
    · have h := itt k8 h
      refine lv_iconst (v := 1) hx hb dX5_save_18 (by decide) ?_
      refine lv_iload_n hx hb dX5_save_19 rfl (lv_at hl 1 rfl) ?_
      refine lv_ishl hx hb dX5_save_20 ?_
      refine lv_iconst (v := 1) hx hb dX5_save_21 (by decide) ?_
      refine lv_isub hx hb dX5_save_22 ?_
      refine lv_istore_n (lv' := [(2, .int (((1 : Int32) <<< (p1 &&& 31)) - (1 : Int32))), (0, .ref (ad 0)), (1, .int p1)]) hx hb dX5_save_23 rfl hl (by decide) rfl (fun ls hl => ?_)
      refine lv_aload_n hx hb dX5_save_24 rfl (lv_at hl 1 rfl) ?_
      refine RO_g_law X hw 0 rfl kf_X5_39 dX5_save_25 ?_
      refine lv_iconst (v := 2) hx hb dX5_save_28 (by decide) ?_
      refine lv_iload_n hx hb dX5_save_29 rfl (lv_at hl 2 rfl) ?_
      obtain ⟨r30, h30, h⟩ := bnd h
      refine g_callv0 (isC := [1]) (gn := fun _ => [wRO g ad aN aK aD aS aT (adL 0) (adE 0) ro, wLW g adL r30, wSE g adE se]) (g_runVN (isC := [1]) (rest := []) (As := [.int (2 : Int32), .int p1]) X hw (c_X1_takePlain l (ad := adL) h30) rfl kM_X1_takePlain ki_X1_takePlain ks_X1_takePlain km_X5_262 ⟨(Nat.le_of_ble_eq_true rfl), (Nat.le_of_ble_eq_true rfl)⟩ ⟨(Nat.le_of_ble_eq_true rfl), (Nat.le_of_ble_eq_true rfl)⟩ rfl rfl ⟨_, _, _, _, rfl, rfl, rfl, rfl⟩ rfl hl.1 rfl (Nat.le_of_ble_eq_true rfl) dX5_save_30) hw rfl rfl (fun _ => (Nat.le_of_ble_eq_true rfl)) (fun _ => rfl) rfl rfl (fun _ H locs hw => ?_)
      refine lv_aload_n hx hb dX5_save_33 rfl (lv_at hl 1 rfl) ?_
      refine RO_g_search X hw 0 rfl kf_X5_46 dX5_save_34 ?_
      refine lv_aload_n hx hb dX5_save_37 rfl (lv_at hl 1 rfl) ?_
      refine RO_g_law X hw 0 rfl kf_X5_39 dX5_save_38 ?_
      obtain ⟨r41, h41, h⟩ := bnd h
      refine g_callv0 (isC := [2, 1]) (gn := fun _ => [wRO g ad aN aK aD aS aT (adL 0) (adE 0) ro, wLW g adL r30, wSE g adE r41]) (g_runVN (isC := [2, 1]) (rest := []) (As := [.ref (adL 0)]) X hw (c_X2_learn l (ad := adE) (ad1 := adL) h41) rfl kM_X2_learn ki_X2_learn ks_X2_learn km_X5_265 ⟨(Nat.le_of_ble_eq_true rfl), (Nat.le_of_ble_eq_true rfl)⟩ ⟨(Nat.le_of_ble_eq_true rfl), (Nat.le_of_ble_eq_true rfl)⟩ rfl rfl ⟨_, _, _, _, rfl, rfl, rfl, rfl⟩ rfl hl.1 rfl (Nat.le_of_ble_eq_true rfl) dX5_save_41) hw rfl rfl (fun _ => (Nat.le_of_ble_eq_true rfl)) (fun _ => rfl) rfl rfl (fun _ H locs hw => ?_)
      refine lv_aload_n hx hb dX5_save_44 rfl (lv_at hl 1 rfl) ?_
      refine RO_g_search X hw 0 rfl kf_X5_46 dX5_save_45 ?_
      obtain ⟨r48, h48, h⟩ := bnd h
      refine g_callv0 (isC := [2]) (gn := fun _ => [wRO g ad aN aK aD aS aT (adL 0) (adE 0) ro, wLW g adL r30, wSE g adE r48]) (g_runVN (isC := [2]) (rest := []) (As := []) X hw (c_X2_forget l (ad := adE) h48) rfl kM_X2_forget ki_X2_forget ks_X2_forget km_X5_269 ⟨(Nat.le_of_ble_eq_true rfl), (Nat.le_of_ble_eq_true rfl)⟩ ⟨(Nat.le_of_ble_eq_true rfl), (Nat.le_of_ble_eq_true rfl)⟩ rfl rfl ⟨_, _, _, _, rfl, rfl, rfl, rfl⟩ rfl hl.1 rfl (Nat.le_of_ble_eq_true rfl) dX5_save_48) hw rfl rfl (fun _ => (Nat.le_of_ble_eq_true rfl)) (fun _ => rfl) rfl rfl (fun _ H locs hw => ?_)
      refine lv_aload_n hx hb dX5_save_51 rfl (lv_at hl 1 rfl) ?_
      refine RO_g_search X hw 0 rfl kf_X5_46 dX5_save_52 ?_
      refine lv_iconst (v := 0) hx hb dX5_save_55 (by decide) ?_
      refine lv_iconst (v := 2) hx hb dX5_save_56 (by decide) ?_
      obtain ⟨r57, h57, h⟩ := bnd h
      refine g_callv0 (isC := [2]) (gn := fun _ => [wRO g ad aN aK aD aS aT (adL 0) (adE 0) ro, wLW g adL r30, wSE g adE r57]) (g_runVN (isC := [2]) (rest := []) (As := [.int (0 : Int32), .int (2 : Int32)]) X hw (c_X2_spread l (ad := adE) h57) rfl kM_X2_spread ki_X2_spread ks_X2_spread km_X5_272 ⟨(Nat.le_of_ble_eq_true rfl), (Nat.le_of_ble_eq_true rfl)⟩ ⟨(Nat.le_of_ble_eq_true rfl), (Nat.le_of_ble_eq_true rfl)⟩ rfl rfl ⟨_, _, _, _, rfl, rfl, rfl, rfl⟩ rfl hl.1 rfl (Nat.le_of_ble_eq_true rfl) dX5_save_57) hw rfl rfl (fun _ => (Nat.le_of_ble_eq_true rfl)) (fun _ => rfl) rfl rfl (fun _ H locs hw => ?_)
      refine lv_iload_n hx hb dX5_save_60 rfl (lv_at hl 0 rfl) ?_
      refine lv_i2l (v := (((1 : Int32) <<< (p1 &&& 31)) - (1 : Int32)).toInt64) hx hb dX5_save_61 rfl ?_
      obtain ⟨r62, h62, h⟩ := bnd h
      refine g_calll0 (isC := []) (gn := fun _ => [wRO g ad aN aK aD aS aT (adL 0) (adE 0) ro, wLW g adL r30, wSE g adE r57]) (g_runS (isC := []) (rest := []) (As := [.long (((1 : Int32) <<< (p1 &&& 31)) - (1 : Int32)).toInt64]) X hw (c_X5_grayPlace l h62) rfl kM_X5_grayPlace kt_X5_grayPlace km_X5_136 ⟨(Nat.le_of_ble_eq_true rfl), (Nat.le_of_ble_eq_true rfl)⟩ ⟨(Nat.le_of_ble_eq_true rfl), (Nat.le_of_ble_eq_true rfl)⟩ rfl rfl rfl hl.1 rfl (Nat.le_of_ble_eq_true rfl) dX5_save_62) hw rfl rfl (fun _ => (Nat.le_of_ble_eq_true rfl)) (fun _ => rfl) rfl rfl (fun _ H locs hw => ?_)
      refine lv_l2i (v := r62.toInt32) hx hb dX5_save_65 rfl ?_
      refine lv_aload_n hx hb dX5_save_66 rfl (lv_at hl 1 rfl) ?_
      refine RO_g_search X hw 0 rfl kf_X5_46 dX5_save_67 ?_
      refine lv_iload_n hx hb dX5_save_70 rfl (lv_at hl 0 rfl) ?_
      obtain ⟨r71, h71, h⟩ := bnd h
      refine g_calli0 (isC := [2]) (gn := fun _ => [wRO g ad aN aK aD aS aT (adL 0) (adE 0) ro, wLW g adL r30, wSE g adE r57]) (g_runVN (isC := [2]) (rest := [.int r62.toInt32]) (As := [.int (((1 : Int32) <<< (p1 &&& 31)) - (1 : Int32))]) X hw (c_X2_farOf l (ad := adE) h71) rfl kM_X2_farOf ki_X2_farOf ks_X2_farOf km_X5_247 ⟨(Nat.le_of_ble_eq_true rfl), (Nat.le_of_ble_eq_true rfl)⟩ ⟨(Nat.le_of_ble_eq_true rfl), (Nat.le_of_ble_eq_true rfl)⟩ rfl rfl ⟨_, _, _, _, rfl, rfl, rfl, rfl⟩ rfl hl.1 rfl (Nat.le_of_ble_eq_true rfl) dX5_save_71) hw rfl rfl (fun _ => (Nat.le_of_ble_eq_true rfl)) (fun _ => rfl) rfl rfl (fun _ H locs hw => ?_)
      refine lv_isub hx hb dX5_save_74 ?_
      have h := Option.some.inj h
      subst h
      exact hret () dX5_save_75 rfl hw
    · have h := itf k8 h
      exact J11 _ h _ _ _ hw (lv_sub hl [0] rfl)
theorem kM_X5_play : kM yX5_play cX5_play 5 (some FieldType.int) 2 := ⟨kc_X5_play, kn_RingsOff, by decide +kernel⟩
abbrev R_X5_play : Room := { frames := 5, cells := 0, slots := 0, locals := 105 }
set_option maxHeartbeats 4000000 in
set_option maxRecDepth 100000 in
theorem c_X5_play (l : Launch) {ad : Nat → Nat} {adN : Nat → Nat} {adL : Nat → Nat} {aK : Nat} {aD : Nat} {aS : Nat} {aT : Nat} {aE : Nat} {N : Nat} {ro : RO} {nw : EV} {lw : LW} {p1 : Int32} {p2 : Int32} {out : Int32 × RO × EV × LW} (h : M_X5_play N ro nw lw p1 p2 = some out) : gM l yX5_play cX5_play 5 (some FieldType.int) R_X5_play (fun _ => [.ref (ad 0), .int p1, .int p2]) (fun g => [wRO g ad (adN 0) aK aD aS aT (adL 0) aE ro, wEV g adN nw, wLW g adL lw]) (gQi (fun (_ : Unit) => out.1) (fun g (_ : Unit) => [wRO g ad (adN 0) aK aD aS aT (adL 0) aE out.2.1, wEV g adN out.2.2.1, wLW g adL out.2.2.2])) := by
  refine gM.ofi (by decide +kernel) (fun _ => Nat.le_of_ble_eq_true rfl) (fun g p e s m args below meth c A ls Q X hret hw hl => ?_)
  have hx := X.1.1
  have hb := X.1.2.1
  have hl : lv_has ls 5 [(0, .ref (ad 0)), (1, .int p1), (2, .int p2)] := hl
  have L43 : ∀ (n : Nat) (z43 : RO × EV × LW × Int32), lp (M_X5_play_l43 N p1 p2) n z43 = some out → ∀ (H : Heap) (locs : List Loc) (ls : Array Slot), gW g A s.heap [wRO g ad (adN 0) aK aD aS aT (adL 0) aE z43.1, wEV g adN z43.2.1, wLW g adL z43.2.2.1] H locs → lv_has ls 5 [(0, .ref (ad 0)), (1, .int p1), (2, .int p2), (3, .int z43.2.2.2)] → W p l e R_X5_play s m args below meth c H locs 0 0 Q (F0 m 43 ls []) := by
    refine lp_ind ?_
    intro rec43 ih43
    intro z43 h H locs ls hw hl
    unfold M_X5_play_l43 at h
    refine lv_iload_n hx hb dX5_play_43 rfl (lv_at hl 3 rfl) ?_
    refine lv_iload_n hx hb dX5_play_44 rfl (lv_at hl 2 rfl) ?_
    refine lv_icmp_ge (tgt := 103) hx hb dX5_play_45 (by decide) (fun k45 => ?_) (fun k45 => ?_)
    · have h := itt k45 h
      refine lv_iload_n hx hb dX5_play_103 rfl (lv_at hl 2 rfl) ?_
      have h := Option.some.inj h
      subst h
      exact hret () dX5_play_104 rfl hw
    · have h := itf k45 h
      refine lv_aload_n hx hb dX5_play_48 rfl (lv_at hl 0 rfl) ?_
      refine RO_g_law X hw 0 rfl kf_X5_39 dX5_play_49 ?_
      refine lv_aload_n hx hb dX5_play_52 rfl (lv_at hl 0 rfl) ?_
      refine RO_g_now X hw 0 rfl kf_X5_12 dX5_play_53 ?_
      refine lv_iload_n hx hb dX5_play_56 rfl (lv_at hl 1 rfl) ?_
      obtain ⟨r57, h57, h⟩ := bnd h
      refine g_calli0 (isC := [1]) (gn := fun _ => [wRO g ad (adN 0) aK aD aS aT (adL 0) aE z43.1, wEV g adN z43.2.1, wLW g adL z43.2.2.1]) (g_runVN (isC := [1]) (rest := [.ref (adL 0)]) (As := [.int p1]) X hw (c_X0_onOf l (ad := adN) h57) rfl kM_X0_onOf ki_X0_onOf ks_X0_onOf km_X5_122 ⟨(Nat.le_of_ble_eq_true rfl), (Nat.le_of_ble_eq_true rfl)⟩ ⟨(Nat.le_of_ble_eq_true rfl), (Nat.le_of_ble_eq_true rfl)⟩ rfl rfl ⟨_, _, _, _, rfl, rfl, rfl, rfl⟩ rfl hl.1 rfl (Nat.le_of_ble_eq_true rfl) dX5_play_57) hw rfl rfl (fun _ => (Nat.le_of_ble_eq_true rfl)) (fun _ => rfl) rfl rfl (fun _ H locs hw => ?_)
      obtain ⟨r60, h60, h⟩ := bnd h
      refine g_calli0 (isC := [2]) (gn := fun _ => [wRO g ad (adN 0) aK aD aS aT (adL 0) aE z43.1, wEV g adN z43.2.1, wLW g adL z43.2.2.1]) (g_runVN (isC := [2]) (rest := []) (As := [.int r57]) X hw (c_X1_legalIn l (ad := adL) h60) rfl kM_X1_legalIn ki_X1_legalIn ks_X1_legalIn km_X5_334 ⟨(Nat.le_of_ble_eq_true rfl), (Nat.le_of_ble_eq_true rfl)⟩ ⟨(Nat.le_of_ble_eq_true rfl), (Nat.le_of_ble_eq_true rfl)⟩ rfl rfl ⟨_, _, _, _, rfl, rfl, rfl, rfl⟩ rfl hl.1 rfl (Nat.le_of_ble_eq_true rfl) dX5_play_60) hw rfl rfl (fun _ => (Nat.le_of_ble_eq_true rfl)) (fun _ => rfl) rfl rfl (fun _ H locs hw => ?_)
      refine lv_istore (lv' := [(4, .int r60), (0, .ref (ad 0)), (1, .int p1), (2, .int p2), (3, .int z43.2.2.2)]) hx hb dX5_play_63 hl (by decide) rfl (fun ls hl => ?_)
      refine lv_iload hx hb dX5_play_65 (lv_at hl 0 rfl) ?_
      refine lv_if_ne (tgt := 72) hx hb dX5_play_67 (by decide) (fun k67 => ?_) (fun k67 => ?_)
      · have h := itt k67 h
        refine lv_aload_n hx hb dX5_play_72 rfl (lv_at hl 1 rfl) ?_
        refine RO_g_now X hw 0 rfl kf_X5_12 dX5_play_73 ?_
        refine lv_iload_n hx hb dX5_play_76 rfl (lv_at hl 2 rfl) ?_
        refine lv_iload hx hb dX5_play_77 (lv_at hl 0 rfl) ?_
        refine lv_aload_n hx hb dX5_play_79 rfl (lv_at hl 1 rfl) ?_
        refine RO_g_now X hw 0 rfl kf_X5_12 dX5_play_80 ?_
        refine lv_iload hx hb dX5_play_83 (lv_at hl 0 rfl) ?_
        obtain ⟨r85, h85, h⟩ := bnd h
        refine g_calli0 (isC := []) (gn := fun _ => [wRO g ad (adN 0) aK aD aS aT (adL 0) aE z43.1, wEV g adN z43.2.1, wLW g adL z43.2.2.1]) (g_runS (isC := []) (rest := [.ref (adN 0), .int r60, .int p1, .ref (adN 0)]) (As := [.int r60]) X hw (c_J6_bitCount_0f7a4 l h85) rfl kM_J6_bitCount_0f7a4 kt_J6_bitCount_0f7a4 km_X5_146 ⟨(Nat.le_of_ble_eq_true rfl), (Nat.le_of_ble_eq_true rfl)⟩ ⟨(Nat.le_of_ble_eq_true rfl), (Nat.le_of_ble_eq_true rfl)⟩ rfl rfl rfl hl.1 rfl (Nat.le_of_ble_eq_true rfl) dX5_play_85) hw rfl rfl (fun _ => (Nat.le_of_ble_eq_true rfl)) (fun _ => rfl) rfl rfl (fun _ H locs hw => ?_)
        obtain ⟨r88, h88, h⟩ := bnd h
        refine g_calli0 (isC := [1]) (gn := fun _ => [wRO g ad (adN 0) aK aD aS aT (adL 0) aE z43.1, wEV g adN r88.2, wLW g adL z43.2.2.1]) (g_runVN (isC := [1]) (rest := [.int r60, .int p1, .ref (adN 0)]) (As := [.int r85]) X hw (c_X0_draw l (ad := adN) h88) rfl kM_X0_draw ki_X0_draw ks_X0_draw km_X5_337 ⟨(Nat.le_of_ble_eq_true rfl), (Nat.le_of_ble_eq_true rfl)⟩ ⟨(Nat.le_of_ble_eq_true rfl), (Nat.le_of_ble_eq_true rfl)⟩ rfl rfl ⟨_, _, _, _, rfl, rfl, rfl, rfl⟩ rfl hl.1 rfl (Nat.le_of_ble_eq_true rfl) dX5_play_88) hw rfl rfl (fun _ => (Nat.le_of_ble_eq_true rfl)) (fun _ => rfl) rfl rfl (fun _ H locs hw => ?_)
        obtain ⟨r91, h91, h⟩ := bnd h
        refine g_calli0 (isC := []) (gn := fun _ => [wRO g ad (adN 0) aK aD aS aT (adL 0) aE z43.1, wEV g adN r88.2, wLW g adL z43.2.2.1]) (g_runS (isC := []) (rest := [.int p1, .ref (adN 0)]) (As := [.int r60, .int r88.1]) X hw (c_X5_bitByNumber l h91) rfl kM_X5_bitByNumber kt_X5_bitByNumber km_X5_340 ⟨(Nat.le_of_ble_eq_true rfl), (Nat.le_of_ble_eq_true rfl)⟩ ⟨(Nat.le_of_ble_eq_true rfl), (Nat.le_of_ble_eq_true rfl)⟩ rfl rfl rfl hl.1 rfl (Nat.le_of_ble_eq_true rfl) dX5_play_91) hw rfl rfl (fun _ => (Nat.le_of_ble_eq_true rfl)) (fun _ => rfl) rfl rfl (fun _ H locs hw => ?_)
        obtain ⟨r94, h94, h⟩ := bnd h
        refine g_callv0 (isC := [1]) (gn := fun _ => [wRO g ad (adN 0) aK aD aS aT (adL 0) aE z43.1, wEV g adN r94, wLW g adL z43.2.2.1]) (g_runVN (isC := [1]) (rest := []) (As := [.int p1, .int r91]) X hw (c_X0_makeMove l (ad := adN) h94) rfl kM_X0_makeMove ki_X0_makeMove ks_X0_makeMove km_X5_226 ⟨(Nat.le_of_ble_eq_true rfl), (Nat.le_of_ble_eq_true rfl)⟩ ⟨(Nat.le_of_ble_eq_true rfl), (Nat.le_of_ble_eq_true rfl)⟩ rfl rfl ⟨_, _, _, _, rfl, rfl, rfl, rfl⟩ rfl hl.1 rfl (Nat.le_of_ble_eq_true rfl) dX5_play_94) hw rfl rfl (fun _ => (Nat.le_of_ble_eq_true rfl)) (fun _ => rfl) rfl rfl (fun _ H locs hw => ?_)
        refine lv_iinc (v := (z43.2.2.2 + 1)) (lv' := [(3, .int (z43.2.2.2 + 1)), (4, .int r60), (0, .ref (ad 0)), (1, .int p1), (2, .int p2)]) hx hb dX5_play_97 hl (k := 4) rfl rfl (by decide) rfl (fun ls hl => ?_)
        refine lv_goto (tgt := 43) hx hb dX5_play_100 (by decide) ?_
        exact ih43 _ h _ _ _ hw (lv_sub hl [2, 3, 4, 0] rfl)
      · have h := itf (fun z => z k67) h
        refine lv_iload_n hx hb dX5_play_70 rfl (lv_at hl 4 rfl) ?_
        have h := Option.some.inj h
        subst h
        exact hret () dX5_play_71 rfl hw
  have J22 : ∀ (z22 : RO × EV × LW), M_X5_play_j22 N p1 p2 z22 = some out → ∀ (H : Heap) (locs : List Loc) (ls : Array Slot), gW g A s.heap [wRO g ad (adN 0) aK aD aS aT (adL 0) aE z22.1, wEV g adN z22.2.1, wLW g adL z22.2.2] H locs → lv_has ls 5 [(0, .ref (ad 0))] → W p l e R_X5_play s m args below meth c H locs 0 0 Q (F0 m 22 ls []) := by
    intro z22 h H locs ls hw hl
    unfold M_X5_play_j22 at h
    refine lv_aload_n hx hb dX5_play_22 rfl (lv_at hl 0 rfl) ?_
    refine lv_bipush (v := -2) hx hb dX5_play_23 (by decide) ?_
    obtain ⟨r25, h25, h⟩ := bnd h
    refine g_calli0 (isC := [0]) (gn := fun _ => [wRO g ad (adN 0) aK aD aS aT (adL 0) aE r25.2, wEV g adN z22.2.1, wLW g adL z22.2.2]) (g_runV (isC := [0]) (rest := []) (As := [.int (-2 : Int32)]) X hw (c_X5_refuse l (ad := ad) (aN := (adN 0)) (aK := aK) (aD := aD) (aS := aS) (aT := aT) (aL := (adL 0)) (aE := aE) h25) rfl kM_X5_refuse ki_X5_refuse ks_X5_refuse km_X5_62 ⟨(Nat.le_of_ble_eq_true rfl), (Nat.le_of_ble_eq_true rfl)⟩ ⟨(Nat.le_of_ble_eq_true rfl), (Nat.le_of_ble_eq_true rfl)⟩ rfl rfl ⟨_, _, _, _, rfl, rfl, rfl, rfl⟩ rfl hl.1 rfl (Nat.le_of_ble_eq_true rfl) dX5_play_25) hw rfl rfl (fun _ => (Nat.le_of_ble_eq_true rfl)) (fun _ => rfl) rfl rfl (fun _ H locs hw => ?_)
    have h := Option.some.inj h
    subst h
    exact hret () dX5_play_28 rfl hw
  unfold M_X5_play at h
  refine lv_aload_n hx hb dX5_play_0 rfl (lv_at hl 0 rfl) ?_
  refine RO_g_now X hw 0 rfl kf_X5_12 dX5_play_1 ?_
  refine lv_iload_n hx hb dX5_play_4 rfl (lv_at hl 1 rfl) ?_
  obtain ⟨r5, h5, h⟩ := bnd h
  refine g_calli0 (isC := [1]) (gn := fun _ => [wRO g ad (adN 0) aK aD aS aT (adL 0) aE ro, wEV g adN nw, wLW g adL lw]) (g_runVN (isC := [1]) (rest := []) (As := [.int p1]) X hw (c_X0_hasBar l (ad := adN) h5) rfl kM_X0_hasBar ki_X0_hasBar ks_X0_hasBar km_X5_99 ⟨(Nat.le_of_ble_eq_true rfl), (Nat.le_of_ble_eq_true rfl)⟩ ⟨(Nat.le_of_ble_eq_true rfl), (Nat.le_of_ble_eq_true rfl)⟩ rfl rfl ⟨_, _, _, _, rfl, rfl, rfl, rfl⟩ rfl hl.1 rfl (Nat.le_of_ble_eq_true rfl) dX5_play_5) hw rfl rfl (fun _ => (Nat.le_of_ble_eq_true rfl)) (fun _ => rfl) rfl rfl (fun _ H locs hw => ?_)
  refine lv_if_eq (tgt := 22) hx hb dX5_play_8 (by decide) (fun k8 => ?_) (fun k8 => ?_)
  · have h := itt k8 h
    exact J22 _ h _ _ _ hw (lv_sub hl [0] rfl)
  · have h := itf k8 h
    refine lv_iload_n hx hb dX5_play_11 rfl (lv_at hl 2 rfl) ?_
    refine lv_iconst (v := 1) hx hb dX5_play_12 (by decide) ?_
    refine lv_icmp_lt (tgt := 22) hx hb dX5_play_13 (by decide) (fun k13 => ?_) (fun k13 => ?_)
    · have h := itt k13 h
      exact J22 _ h _ _ _ hw (lv_sub hl [0] rfl)
    · have h := itf k13 h
      refine lv_iload_n hx hb dX5_play_16 rfl (lv_at hl 2 rfl) ?_
      refine lv_bipush (v := 60) hx hb dX5_play_17 (by decide) ?_
      refine lv_icmp_le (tgt := 29) hx hb dX5_play_19 (by decide) (fun k19 => ?_) (fun k19 => ?_)
      · have h := itt k19 h
        refine lv_aload_n hx hb dX5_play_29 rfl (lv_at hl 0 rfl) ?_
        refine RO_g_law X hw 0 rfl kf_X5_39 dX5_play_30 ?_
        refine lv_aload_n hx hb dX5_play_33 rfl (lv_at hl 0 rfl) ?_
        refine RO_g_now X hw 0 rfl kf_X5_12 dX5_play_34 ?_
        refine lv_iload_n hx hb dX5_play_37 rfl (lv_at hl 1 rfl) ?_
        obtain ⟨r38, h38, h⟩ := bnd h
        refine g_callv0 (isC := [2, 1]) (gn := fun _ => [wRO g ad (adN 0) aK aD aS aT (adL 0) aE ro, wEV g adN nw, wLW g adL r38]) (g_runVN (isC := [2, 1]) (rest := []) (As := [.ref (adN 0), .int p1]) X hw (c_X1_take l (ad := adL) (ad1 := adN) h38) rfl kM_X1_take ki_X1_take ks_X1_take km_X5_330 ⟨(Nat.le_of_ble_eq_true rfl), (Nat.le_of_ble_eq_true rfl)⟩ ⟨(Nat.le_of_ble_eq_true rfl), (Nat.le_of_ble_eq_true rfl)⟩ rfl rfl ⟨_, _, _, _, rfl, rfl, rfl, rfl⟩ rfl hl.1 rfl (Nat.le_of_ble_eq_true rfl) dX5_play_38) hw rfl rfl (fun _ => (Nat.le_of_ble_eq_true rfl)) (fun _ => rfl) rfl rfl (fun _ H locs hw => ?_)
        refine lv_iconst (v := 0) hx hb dX5_play_41 (by decide) ?_
        refine lv_istore_n (lv' := [(3, .int (0 : Int32)), (0, .ref (ad 0)), (1, .int p1), (2, .int p2)]) hx hb dX5_play_42 rfl hl (by decide) rfl (fun ls hl => ?_)
        exact L43 N _ h _ _ _ hw (lv_sub hl [1, 2, 3, 0] rfl)
      · have h := itf k19 h
        exact J22 _ h _ _ _ hw (lv_sub hl [0] rfl)
theorem kM_X5_legalNow : kM yX5_legalNow cX5_legalNow 2 (some FieldType.int) 1 := ⟨kc_X5_legalNow, kn_RingsOff, by decide +kernel⟩
abbrev R_X5_legalNow : Room := { frames := 5, cells := 0, slots := 0, locals := 105 }
set_option maxHeartbeats 4000000 in
set_option maxRecDepth 100000 in
theorem c_X5_legalNow (l : Launch) {ad : Nat → Nat} {adN : Nat → Nat} {adL : Nat → Nat} {aK : Nat} {aD : Nat} {aS : Nat} {aT : Nat} {aE : Nat} {N : Nat} {ro : RO} {nw : EV} {lw : LW} {p1 : Int32} {out : Int32 × LW} (h : M_X5_legalNow N ro nw lw p1 = some out) : gM l yX5_legalNow cX5_legalNow 2 (some FieldType.int) R_X5_legalNow (fun _ => [.ref (ad 0), .int p1]) (fun g => [wRO g ad (adN 0) aK aD aS aT (adL 0) aE ro, wEV g adN nw, wLW g adL lw]) (gQi (fun (_ : Unit) => out.1) (fun g (_ : Unit) => [wRO g ad (adN 0) aK aD aS aT (adL 0) aE ro, wEV g adN nw, wLW g adL out.2])) := by
  refine gM.ofi (by decide +kernel) (fun _ => Nat.le_of_ble_eq_true rfl) (fun g p e s m args below meth c A ls Q X hret hw hl => ?_)
  have hx := X.1.1
  have hb := X.1.2.1
  have hl : lv_has ls 2 [(0, .ref (ad 0)), (1, .int p1)] := hl
  unfold M_X5_legalNow at h
  refine lv_aload_n hx hb dX5_legalNow_0 rfl (lv_at hl 0 rfl) ?_
  refine RO_g_law X hw 0 rfl kf_X5_39 dX5_legalNow_1 ?_
  refine lv_aload_n hx hb dX5_legalNow_4 rfl (lv_at hl 0 rfl) ?_
  refine RO_g_now X hw 0 rfl kf_X5_12 dX5_legalNow_5 ?_
  refine lv_iload_n hx hb dX5_legalNow_8 rfl (lv_at hl 1 rfl) ?_
  obtain ⟨r9, h9, h⟩ := bnd h
  refine g_callv0 (isC := [2, 1]) (gn := fun _ => [wRO g ad (adN 0) aK aD aS aT (adL 0) aE ro, wEV g adN nw, wLW g adL r9]) (g_runVN (isC := [2, 1]) (rest := []) (As := [.ref (adN 0), .int p1]) X hw (c_X1_take l (ad := adL) (ad1 := adN) h9) rfl kM_X1_take ki_X1_take ks_X1_take km_X5_330 ⟨(Nat.le_of_ble_eq_true rfl), (Nat.le_of_ble_eq_true rfl)⟩ ⟨(Nat.le_of_ble_eq_true rfl), (Nat.le_of_ble_eq_true rfl)⟩ rfl rfl ⟨_, _, _, _, rfl, rfl, rfl, rfl⟩ rfl hl.1 rfl (Nat.le_of_ble_eq_true rfl) dX5_legalNow_9) hw rfl rfl (fun _ => (Nat.le_of_ble_eq_true rfl)) (fun _ => rfl) rfl rfl (fun _ H locs hw => ?_)
  refine lv_aload_n hx hb dX5_legalNow_12 rfl (lv_at hl 0 rfl) ?_
  refine RO_g_law X hw 0 rfl kf_X5_39 dX5_legalNow_13 ?_
  refine lv_aload_n hx hb dX5_legalNow_16 rfl (lv_at hl 0 rfl) ?_
  refine RO_g_now X hw 0 rfl kf_X5_12 dX5_legalNow_17 ?_
  refine lv_iload_n hx hb dX5_legalNow_20 rfl (lv_at hl 1 rfl) ?_
  obtain ⟨r21, h21, h⟩ := bnd h
  refine g_calli0 (isC := [1]) (gn := fun _ => [wRO g ad (adN 0) aK aD aS aT (adL 0) aE ro, wEV g adN nw, wLW g adL r9]) (g_runVN (isC := [1]) (rest := [.ref (adL 0)]) (As := [.int p1]) X hw (c_X0_onOf l (ad := adN) h21) rfl kM_X0_onOf ki_X0_onOf ks_X0_onOf km_X5_122 ⟨(Nat.le_of_ble_eq_true rfl), (Nat.le_of_ble_eq_true rfl)⟩ ⟨(Nat.le_of_ble_eq_true rfl), (Nat.le_of_ble_eq_true rfl)⟩ rfl rfl ⟨_, _, _, _, rfl, rfl, rfl, rfl⟩ rfl hl.1 rfl (Nat.le_of_ble_eq_true rfl) dX5_legalNow_21) hw rfl rfl (fun _ => (Nat.le_of_ble_eq_true rfl)) (fun _ => rfl) rfl rfl (fun _ H locs hw => ?_)
  obtain ⟨r24, h24, h⟩ := bnd h
  refine g_calli0 (isC := [2]) (gn := fun _ => [wRO g ad (adN 0) aK aD aS aT (adL 0) aE ro, wEV g adN nw, wLW g adL r9]) (g_runVN (isC := [2]) (rest := []) (As := [.int r21]) X hw (c_X1_legalIn l (ad := adL) h24) rfl kM_X1_legalIn ki_X1_legalIn ks_X1_legalIn km_X5_334 ⟨(Nat.le_of_ble_eq_true rfl), (Nat.le_of_ble_eq_true rfl)⟩ ⟨(Nat.le_of_ble_eq_true rfl), (Nat.le_of_ble_eq_true rfl)⟩ rfl rfl ⟨_, _, _, _, rfl, rfl, rfl, rfl⟩ rfl hl.1 rfl (Nat.le_of_ble_eq_true rfl) dX5_legalNow_24) hw rfl rfl (fun _ => (Nat.le_of_ble_eq_true rfl)) (fun _ => rfl) rfl rfl (fun _ H locs hw => ?_)
  have h := Option.some.inj h
  subst h
  exact hret () dX5_legalNow_27 rfl hw
theorem kM_X5_study : kM yX5_study cX5_study 2 (none : Option Jvm.ClassFile.FieldType) 1 := ⟨kc_X5_study, kn_RingsOff, by decide +kernel⟩
abbrev R_X5_study : Room := { frames := 6, cells := 0, slots := 0, locals := 127 }
set_option maxHeartbeats 4000000 in
set_option maxRecDepth 100000 in
theorem c_X5_study (l : Launch) {ad : Nat → Nat} {adN : Nat → Nat} {adL : Nat → Nat} {adE : Nat → Nat} {aK : Nat} {aD : Nat} {aS : Nat} {aT : Nat} {N : Nat} {ro : RO} {nw : EV} {lw : LW} {se : SE} {p1 : Int32} {out : LW × SE} (h : M_X5_study N ro nw lw se p1 = some out) : gM l yX5_study cX5_study 2 (none : Option Jvm.ClassFile.FieldType) R_X5_study (fun _ => [.ref (ad 0), .int p1]) (fun g => [wRO g ad (adN 0) aK aD aS aT (adL 0) (adE 0) ro, wEV g adN nw, wLW g adL lw, wSE g adE se]) (gQv (fun g (_ : Unit) => [wRO g ad (adN 0) aK aD aS aT (adL 0) (adE 0) ro, wEV g adN nw, wLW g adL out.1, wSE g adE out.2])) := by
  refine gM.ofv (by decide +kernel) (fun _ => Nat.le_of_ble_eq_true rfl) (fun g p e s m args below meth c A ls Q X hret hw hl => ?_)
  have hx := X.1.1
  have hb := X.1.2.1
  have hl : lv_has ls 2 [(0, .ref (ad 0)), (1, .int p1)] := hl
  unfold M_X5_study at h
  refine lv_aload_n hx hb dX5_study_0 rfl (lv_at hl 0 rfl) ?_
  refine RO_g_law X hw 0 rfl kf_X5_39 dX5_study_1 ?_
  refine lv_aload_n hx hb dX5_study_4 rfl (lv_at hl 0 rfl) ?_
  refine RO_g_now X hw 0 rfl kf_X5_12 dX5_study_5 ?_
  refine lv_iload_n hx hb dX5_study_8 rfl (lv_at hl 1 rfl) ?_
  obtain ⟨r9, h9, h⟩ := bnd h
  refine g_callv0 (isC := [2, 1]) (gn := fun _ => [wRO g ad (adN 0) aK aD aS aT (adL 0) (adE 0) ro, wEV g adN nw, wLW g adL r9, wSE g adE se]) (g_runVN (isC := [2, 1]) (rest := []) (As := [.ref (adN 0), .int p1]) X hw (c_X1_take l (ad := adL) (ad1 := adN) h9) rfl kM_X1_take ki_X1_take ks_X1_take km_X5_330 ⟨(Nat.le_of_ble_eq_true rfl), (Nat.le_of_ble_eq_true rfl)⟩ ⟨(Nat.le_of_ble_eq_true rfl), (Nat.le_of_ble_eq_true rfl)⟩ rfl rfl ⟨_, _, _, _, rfl, rfl, rfl, rfl⟩ rfl hl.1 rfl (Nat.le_of_ble_eq_true rfl) dX5_study_9) hw rfl rfl (fun _ => (Nat.le_of_ble_eq_true rfl)) (fun _ => rfl) rfl rfl (fun _ H locs hw => ?_)
  refine lv_aload_n hx hb dX5_study_12 rfl (lv_at hl 0 rfl) ?_
  refine RO_g_search X hw 0 rfl kf_X5_46 dX5_study_13 ?_
  refine lv_aload_n hx hb dX5_study_16 rfl (lv_at hl 0 rfl) ?_
  refine RO_g_law X hw 0 rfl kf_X5_39 dX5_study_17 ?_
  obtain ⟨r20, h20, h⟩ := bnd h
  refine g_callv0 (isC := [3, 2]) (gn := fun _ => [wRO g ad (adN 0) aK aD aS aT (adL 0) (adE 0) ro, wEV g adN nw, wLW g adL r9, wSE g adE r20]) (g_runVN (isC := [3, 2]) (rest := []) (As := [.ref (adL 0)]) X hw (c_X2_learn l (ad := adE) (ad1 := adL) h20) rfl kM_X2_learn ki_X2_learn ks_X2_learn km_X5_265 ⟨(Nat.le_of_ble_eq_true rfl), (Nat.le_of_ble_eq_true rfl)⟩ ⟨(Nat.le_of_ble_eq_true rfl), (Nat.le_of_ble_eq_true rfl)⟩ rfl rfl ⟨_, _, _, _, rfl, rfl, rfl, rfl⟩ rfl hl.1 rfl (Nat.le_of_ble_eq_true rfl) dX5_study_20) hw rfl rfl (fun _ => (Nat.le_of_ble_eq_true rfl)) (fun _ => rfl) rfl rfl (fun _ H locs hw => ?_)
  have h := Option.some.inj h
  subst h
  exact hret () dX5_study_23 hw
theorem kM_X5_leadTo : kM yX5_leadTo cX5_leadTo 4 (some FieldType.int) 3 := ⟨kc_X5_leadTo, kn_RingsOff, by decide +kernel⟩
abbrev R_X5_leadTo : Room := { frames := 7, cells := 0, slots := 0, locals := 148 }
set_option maxHeartbeats 4000000 in
set_option maxRecDepth 100000 in
theorem c_X5_leadTo (l : Launch) {ad : Nat → Nat} {adN : Nat → Nat} {adL : Nat → Nat} {adE : Nat → Nat} {aK : Nat} {aD : Nat} {aS : Nat} {aT : Nat} {N : Nat} {ro : RO} {nw : EV} {lw : LW} {se : SE} {p1 : Int32} {p2 : Int32} {p3 : Int32} {out : Int32 × LW × SE} (h : M_X5_leadTo N ro nw lw se p1 p2 p3 = some out) : gM l yX5_leadTo cX5_leadTo 4 (some FieldType.int) R_X5_leadTo (fun _ => [.ref (ad 0), .int p1, .int p2, .int p3]) (fun g => [wRO g ad (adN 0) aK aD aS aT (adL 0) (adE 0) ro, wEV g adN nw, wLW g adL lw, wSE g adE se]) (gQi (fun (_ : Unit) => out.1) (fun g (_ : Unit) => [wRO g ad (adN 0) aK aD aS aT (adL 0) (adE 0) ro, wEV g adN nw, wLW g adL out.2.1, wSE g adE out.2.2])) := by
  refine gM.ofi (by decide +kernel) (fun _ => Nat.le_of_ble_eq_true rfl) (fun g p e s m args below meth c A ls Q X hret hw hl => ?_)
  have hx := X.1.1
  have hb := X.1.2.1
  have hl : lv_has ls 4 [(0, .ref (ad 0)), (1, .int p1), (2, .int p2), (3, .int p3)] := hl
  unfold M_X5_leadTo at h
  refine lv_aload_n hx hb dX5_leadTo_0 rfl (lv_at hl 0 rfl) ?_
  refine lv_iload_n hx hb dX5_leadTo_1 rfl (lv_at hl 1 rfl) ?_
  obtain ⟨r2, h2, h⟩ := bnd h
  refine g_callv0 (isC := [0, 1, 2, 3]) (gn := fun _ => [wRO g ad (adN 0) aK aD aS aT (adL 0) (adE 0) ro, wEV g adN nw, wLW g adL r2.1, wSE g adE r2.2]) (g_runV (isC := [0, 1, 2, 3]) (rest := []) (As := [.int p1]) X hw (c_X5_study l (ad := ad) (adN := adN) (adL := adL) (adE := adE) (aK := aK) (aD := aD) (aS := aS) (aT := aT) h2) rfl kM_X5_study ki_X5_study ks_X5_study km_X5_253 ⟨(Nat.le_of_ble_eq_true rfl), (Nat.le_of_ble_eq_true rfl)⟩ ⟨(Nat.le_of_ble_eq_true rfl), (Nat.le_of_ble_eq_true rfl)⟩ rfl rfl ⟨_, _, _, _, rfl, rfl, rfl, rfl⟩ rfl hl.1 rfl (Nat.le_of_ble_eq_true rfl) dX5_leadTo_2) hw rfl rfl (fun _ => (Nat.le_of_ble_eq_true rfl)) (fun _ => rfl) rfl rfl (fun _ H locs hw => ?_)
  refine lv_aload_n hx hb dX5_leadTo_5 rfl (lv_at hl 0 rfl) ?_
  refine RO_g_search X hw 0 rfl kf_X5_46 dX5_leadTo_6 ?_
  refine lv_iload_n hx hb dX5_leadTo_9 rfl (lv_at hl 3 rfl) ?_
  refine lv_iconst (v := 2) hx hb dX5_leadTo_10 (by decide) ?_
  obtain ⟨r11, h11, h⟩ := bnd h
  refine g_callv0 (isC := [3]) (gn := fun _ => [wRO g ad (adN 0) aK aD aS aT (adL 0) (adE 0) ro, wEV g adN nw, wLW g adL r2.1, wSE g adE r11]) (g_runVN (isC := [3]) (rest := []) (As := [.int p3, .int (2 : Int32)]) X hw (c_X2_spreadAnew l (ad := adE) h11) rfl kM_X2_spreadAnew ki_X2_spreadAnew ks_X2_spreadAnew km_X5_306 ⟨(Nat.le_of_ble_eq_true rfl), (Nat.le_of_ble_eq_true rfl)⟩ ⟨(Nat.le_of_ble_eq_true rfl), (Nat.le_of_ble_eq_true rfl)⟩ rfl rfl ⟨_, _, _, _, rfl, rfl, rfl, rfl⟩ rfl hl.1 rfl (Nat.le_of_ble_eq_true rfl) dX5_leadTo_11) hw rfl rfl (fun _ => (Nat.le_of_ble_eq_true rfl)) (fun _ => rfl) rfl rfl (fun _ H locs hw => ?_)
  refine lv_aload_n hx hb dX5_leadTo_14 rfl (lv_at hl 0 rfl) ?_
  refine RO_g_search X hw 0 rfl kf_X5_46 dX5_leadTo_15 ?_
  refine lv_iload_n hx hb dX5_leadTo_18 rfl (lv_at hl 2 rfl) ?_
  obtain ⟨r19, h19, h⟩ := bnd h
  refine g_calli0 (isC := [3]) (gn := fun _ => [wRO g ad (adN 0) aK aD aS aT (adL 0) (adE 0) ro, wEV g adN nw, wLW g adL r2.1, wSE g adE r11]) (g_runVN (isC := [3]) (rest := []) (As := [.int p2]) X hw (c_X2_farOf l (ad := adE) h19) rfl kM_X2_farOf ki_X2_farOf ks_X2_farOf km_X5_247 ⟨(Nat.le_of_ble_eq_true rfl), (Nat.le_of_ble_eq_true rfl)⟩ ⟨(Nat.le_of_ble_eq_true rfl), (Nat.le_of_ble_eq_true rfl)⟩ rfl rfl ⟨_, _, _, _, rfl, rfl, rfl, rfl⟩ rfl hl.1 rfl (Nat.le_of_ble_eq_true rfl) dX5_leadTo_19) hw rfl rfl (fun _ => (Nat.le_of_ble_eq_true rfl)) (fun _ => rfl) rfl rfl (fun _ H locs hw => ?_)
  have h := Option.some.inj h
  subst h
  exact hret () dX5_leadTo_22 rfl hw
